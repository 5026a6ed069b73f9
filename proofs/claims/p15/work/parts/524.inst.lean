/-- NearSpellModel.wordHere -/
def q1213_M : rfM := ((⟨"NearSpellModel", "wordHere", "()I"⟩, prog_14_method_25_code, 1, (some .int)), (1,22), ([.inr (.inl [114])],[]), [], [(some (.inl ((116,116,0),none)),[],[((114,8),(3,3,1),none)]),(some (.inl ((108,108,0),none)),[],[((114,8),(3,3,1),none)]),(some (.inl ((102,102,0),none)),[],[((114,8),(3,3,1),none)]),(some (.inl ((122,122,0),none)),[],[((114,8),(3,3,1),none)]),(some (.inl ((0,0,0),none)),[],[])])
def ddX12_wordHere : List (Nat × Instr × Nat) := [(0,.aload_n 0,1),(1,.ldc2_w 171,3),(4,.invokevirtual 248,3),(7,.ifCond .eq 6,3),(10,.bipush 116,2),(12,.ireturn,1),(13,.aload_n 0,1),(14,.ldc2_w 173,3),(17,.invokevirtual 248,3),(20,.ifCond .eq 6,3),(23,.bipush 108,2),(25,.ireturn,1),(26,.aload_n 0,1),(27,.ldc2_w 175,3),(30,.invokevirtual 248,3),(33,.ifCond .eq 6,3),(36,.bipush 102,2),(38,.ireturn,1),(39,.aload_n 0,1),(40,.ldc2_w 177,3),(43,.invokevirtual 248,3),(46,.ifCond .eq 8,3),(49,.bipush 122,2),(51,.goto 4,3),(54,.iconst 0,1),(55,.ireturn,1)]
set_option maxRecDepth 100000 in
theorem dkX12_wordHere : rf_decs prog_14_method_25_code ddX12_wordHere := rf_decs_of (by decide +kernel)
def q1213_P : rfP := (flX12,csX12,lcX12,spX12,[q1212_M],[],[(248,0,12)],([],[]))
def q1213_U : rfU := []
set_option maxHeartbeats 8000000 in
def q1213_N : List rfB := [(0,([(0,.inr (.inl [114]))],[],[]),(30,[]),0)]
set_option maxRecDepth 100000 in
theorem q1213_ok : rf_chkB q1213_P q1213_U wLay q1213_M ddX12_wordHere [(4,[0]),(17,[0]),(30,[0]),(43,[0])] [] [0] 600 q1213_N = true := by decide +kernel
set_option maxHeartbeats 4000000 in
theorem q1213_met {G : rfG} (h : okG G) : rf_met G q1213_M := rf_methodB h.1 (P := q1213_P) (U := q1213_U) (N := q1213_N) ⟨wflT h flokX12, wcsT h csokX12, wlcT h lcokX12, spokX12 h, List.forall_mem_cons.mpr ⟨q1212_met h, fun _ h => absurd h List.not_mem_nil⟩, fun _ h => absurd h List.not_mem_nil, List.forall_mem_cons.mpr ⟨fun M hM => Option.some.inj (show some q1212_M = some M from hM) ▸ wlkV (lkX12_248 h) q1212_M rfl rfl, fun _ h => absurd h List.not_mem_nil⟩, fun _ h => absurd h List.not_mem_nil, fun _ h => absurd h List.not_mem_nil⟩ dkX12_wordHere (by decide +kernel) (by rw [h.2.2.1]; exact q1213_ok)
/-- NearSpellModel.isGood -/
def q1214_M : rfM := ((⟨"NearSpellModel", "isGood", "()Z"⟩, prog_14_method_6_code, 1, (some .boolean)), (0,0), ([.inr (.inl [114])],[]), [], [(some (.inl ((1,1,0),none)),[],[((114,4),(0,0,1),none)]),(some (.inl ((0,0,0),none)),[],[((114,4),(1,4,1),none)])])
def q1214_P : rfP := (flX12,csX12,lcX12,spX12,[],[],[],([],[]))
def q1214_U : rfU := []
set_option maxHeartbeats 8000000 in
def q1214_N : List rfB := [(0,([(0,.inr (.inl [114]))],[],[]),(7,[]),0)]
set_option maxRecDepth 100000 in
theorem q1214_ok : rf_chkB q1214_P q1214_U wLay q1214_M ddX12_isGood [] [] [0] 600 q1214_N = true := by decide +kernel
set_option maxHeartbeats 4000000 in
theorem q1214_met {G : rfG} (h : okG G) : rf_met G q1214_M := rf_methodB h.1 (P := q1214_P) (U := q1214_U) (N := q1214_N) ⟨wflT h flokX12, wcsT h csokX12, wlcT h lcokX12, spokX12 h, fun _ h => absurd h List.not_mem_nil, fun _ h => absurd h List.not_mem_nil, fun _ h => absurd h List.not_mem_nil, fun _ h => absurd h List.not_mem_nil, fun _ h => absurd h List.not_mem_nil⟩ dkX12_isGood (by decide +kernel) (by rw [h.2.2.1]; exact q1214_ok)
/-- NearSpellModel.fails -/
def q1215_M : rfM := ((⟨"NearSpellModel", "fails", "(II)V"⟩, prog_14_method_5_code, 3, none), (0,0), ([.inr (.inl [114]),.inl ((1,1,0),none),.inl ((0,1600,1),none)],[]), [(114,5),(114,6)], [(none,[],[((114,4),(1,4,1),none)])])
def q1215_P : rfP := (flX12,csX12,lcX12,spX12,[],[],[],([],[]))
def q1215_U : rfU := []
set_option maxHeartbeats 8000000 in
def q1215_N : List rfB := [(0,([(0,.inr (.inl [114])),(1,.inl ((1,1,0),none)),(2,.inl ((0,1600,1),none))],[],[]),(10,[]),0)]
set_option maxRecDepth 100000 in
theorem q1215_ok : rf_chkB q1215_P q1215_U wLay q1215_M ddX12_fails [] [] [0] 600 q1215_N = true := by decide +kernel
set_option maxHeartbeats 4000000 in
theorem q1215_met {G : rfG} (h : okG G) : rf_met G q1215_M := rf_methodB h.1 (P := q1215_P) (U := q1215_U) (N := q1215_N) ⟨wflT h flokX12, wcsT h csokX12, wlcT h lcokX12, spokX12 h, fun _ h => absurd h List.not_mem_nil, fun _ h => absurd h List.not_mem_nil, fun _ h => absurd h List.not_mem_nil, fun _ h => absurd h List.not_mem_nil, fun _ h => absurd h List.not_mem_nil⟩ dkX12_fails (by decide +kernel) (by rw [h.2.2.1]; exact q1215_ok)
/-- NearSpellModel.fails -/
def q1216_M : rfM := ((⟨"NearSpellModel", "fails", "(II)V"⟩, prog_14_method_5_code, 3, none), (0,0), ([.inr (.inl [114]),.inl ((2,2,0),none),.inl ((0,1600,1),none)],[]), [(114,5),(114,6)], [(none,[],[((114,4),(1,4,1),none)])])
def q1216_P : rfP := (flX12,csX12,lcX12,spX12,[],[],[],([],[]))
def q1216_U : rfU := []
set_option maxHeartbeats 8000000 in
def q1216_N : List rfB := [(0,([(0,.inr (.inl [114])),(1,.inl ((2,2,0),none)),(2,.inl ((0,1600,1),none))],[],[]),(10,[]),0)]
set_option maxRecDepth 100000 in
theorem q1216_ok : rf_chkB q1216_P q1216_U wLay q1216_M ddX12_fails [] [] [0] 600 q1216_N = true := by decide +kernel
set_option maxHeartbeats 4000000 in
theorem q1216_met {G : rfG} (h : okG G) : rf_met G q1216_M := rf_methodB h.1 (P := q1216_P) (U := q1216_U) (N := q1216_N) ⟨wflT h flokX12, wcsT h csokX12, wlcT h lcokX12, spokX12 h, fun _ h => absurd h List.not_mem_nil, fun _ h => absurd h List.not_mem_nil, fun _ h => absurd h List.not_mem_nil, fun _ h => absurd h List.not_mem_nil, fun _ h => absurd h List.not_mem_nil⟩ dkX12_fails (by decide +kernel) (by rw [h.2.2.1]; exact q1216_ok)
/-- NearSpellModel.misplaced -/
def q1217_M : rfM := ((⟨"NearSpellModel", "misplaced", "()V"⟩, prog_14_method_12_code, 1, none), (1,22), ([.inr (.inl [114])],[]), [(114,5),(114,6)], [(none,[],[((114,4),(1,4,1),none)])])
def q1217_P : rfP := (flX12,csX12,lcX12,spX12,[q1215_M,q1216_M],[],[(219,0,12),(219,1,12)],([],[]))
def q1217_U : rfU := []
set_option maxHeartbeats 8000000 in
def q1217_N : List rfB := [(0,([(0,.inr (.inl [114]))],[],[]),(14,[]),0),
  (21,([(0,.inr (.inl [114]))],[],[((114,4),(1,4,1),none)]),(0,[]),0)]
set_option maxRecDepth 100000 in
theorem q1217_ok : rf_chkB q1217_P q1217_U wLay q1217_M ddX12_misplaced [(18,[0,1])] [] [0,21] 600 q1217_N = true := by decide +kernel
set_option maxHeartbeats 4000000 in
theorem q1217_met {G : rfG} (h : okG G) : rf_met G q1217_M := rf_methodB h.1 (P := q1217_P) (U := q1217_U) (N := q1217_N) ⟨wflT h flokX12, wcsT h csokX12, wlcT h lcokX12, spokX12 h, List.forall_mem_cons.mpr ⟨q1215_met h, List.forall_mem_cons.mpr ⟨q1216_met h, fun _ h => absurd h List.not_mem_nil⟩⟩, fun _ h => absurd h List.not_mem_nil, List.forall_mem_cons.mpr ⟨fun M hM => Option.some.inj (show some q1215_M = some M from hM) ▸ wlkV (lkX12_219 h) q1215_M rfl rfl, List.forall_mem_cons.mpr ⟨fun M hM => Option.some.inj (show some q1216_M = some M from hM) ▸ wlkV (lkX12_219 h) q1216_M rfl rfl, fun _ h => absurd h List.not_mem_nil⟩⟩, fun _ h => absurd h List.not_mem_nil, fun _ h => absurd h List.not_mem_nil⟩ dkX12_misplaced (by decide +kernel) (by rw [h.2.2.1]; exact q1217_ok)
/-- NearSpellModel.misplaced -/
def q1218_M : rfM := ((⟨"NearSpellModel", "misplaced", "()V"⟩, prog_14_method_12_code, 1, none), (1,22), ([.inr (.inl [114])],[((114,4),(0,0,1),none)]), [(114,5),(114,6)], [(none,[],[((114,4),(1,2,1),none),((114,5),(0,1600,1),none)])])
def q1218_P : rfP := (flX12,csX12,lcX12,spX12,[q686_M,q687_M],[],[(219,0,12),(219,1,12)],([],[]))
def q1218_U : rfU := []
set_option maxHeartbeats 8000000 in
def q1218_N : List rfB := [(0,([(0,.inr (.inl [114]))],[],[((114,4),(0,0,1),some ((114,4),0,0))]),(14,[]),0),
  (21,([(0,.inr (.inl [114]))],[],[((114,4),(1,2,1),none),((114,5),(0,1600,1),none)]),(0,[]),0)]
set_option maxRecDepth 100000 in
theorem q1218_ok : rf_chkB q1218_P q1218_U wLay q1218_M ddX12_misplaced [(18,[0,1])] [] [0,21] 600 q1218_N = true := by decide +kernel
set_option maxHeartbeats 4000000 in
theorem q1218_met {G : rfG} (h : okG G) : rf_met G q1218_M := rf_methodB h.1 (P := q1218_P) (U := q1218_U) (N := q1218_N) ⟨wflT h flokX12, wcsT h csokX12, wlcT h lcokX12, spokX12 h, List.forall_mem_cons.mpr ⟨q686_met h, List.forall_mem_cons.mpr ⟨q687_met h, fun _ h => absurd h List.not_mem_nil⟩⟩, fun _ h => absurd h List.not_mem_nil, List.forall_mem_cons.mpr ⟨fun M hM => Option.some.inj (show some q686_M = some M from hM) ▸ wlkV (lkX12_219 h) q686_M rfl rfl, List.forall_mem_cons.mpr ⟨fun M hM => Option.some.inj (show some q687_M = some M from hM) ▸ wlkV (lkX12_219 h) q687_M rfl rfl, fun _ h => absurd h List.not_mem_nil⟩⟩, fun _ h => absurd h List.not_mem_nil, fun _ h => absurd h List.not_mem_nil⟩ dkX12_misplaced (by decide +kernel) (by rw [h.2.2.1]; exact q1218_ok)
/-- NearSpellModel.must -/
def q1219_M : rfM := ((⟨"NearSpellModel", "must", "(Z)V"⟩, prog_14_method_13_code, 2, none), (5,322), ([.inr (.inl [114]),.inl ((0,1,1),none)],[((114,7),(0,1600,1),none)]), [(114,5),(114,6),(114,7),(114,8),(114,9),(114,10),(114,11),(998,2)], [(none,[],[((114,4),(1,4,1),none),((114,7),(0,1600,1),some ((114,7),0,0))]),(none,[(1,1,1)],[((114,4),(0,0,1),none),((114,7),(0,1600,1),none),((114,8),(0,0,0),none),((998,1),(1,1,0),none)]),(none,[(1,1,1)],[((114,4),(0,0,1),none),((114,7),(1,1600,1),some ((114,7),1,4294967296)),((114,8),(1,4,1),none),((998,1),(1,1,0),none)]),(none,[(1,1,1)],[((114,4),(0,0,1),none),((114,7),(1,1600,1),some ((114,7),1,4294967296)),((114,8),(5,5,0),none),((998,1),(1,1,0),none)])])
def q1219_P : rfP := (flX12,csX12,lcX12,spX12,[q1214_M,q681_M,q1218_M],[],[(223,0,12),(227,1,12),(230,2,12)],([],[]))
def q1219_U : rfU := []
set_option maxHeartbeats 8000000 in
def q1219_N : List rfB := [(0,([(0,.inr (.inl [114])),(1,.inl ((0,1,1),none))],[],[((114,7),(0,1600,1),some ((114,7),0,0))]),(17,[]),0)]
set_option maxRecDepth 100000 in
theorem q1219_ok : rf_chkB q1219_P q1219_U wLay q1219_M ddX12_must [(1,[0]),(13,[1]),(20,[2])] [] [0] 600 q1219_N = true := by decide +kernel
set_option maxHeartbeats 4000000 in
theorem q1219_met {G : rfG} (h : okG G) (hh : w1OK G) : rf_met G q1219_M := rf_methodB h.1 (P := q1219_P) (U := q1219_U) (N := q1219_N) ⟨wflT h flokX12, wcsT h csokX12, wlcT h lcokX12, spokX12 h, List.forall_mem_cons.mpr ⟨q1214_met h, List.forall_mem_cons.mpr ⟨q681_met h hh, List.forall_mem_cons.mpr ⟨q1218_met h, fun _ h => absurd h List.not_mem_nil⟩⟩⟩, fun _ h => absurd h List.not_mem_nil, List.forall_mem_cons.mpr ⟨fun M hM => Option.some.inj (show some q1214_M = some M from hM) ▸ wlkV (lkX12_223 h) q1214_M rfl rfl, List.forall_mem_cons.mpr ⟨fun M hM => Option.some.inj (show some q681_M = some M from hM) ▸ wlkV (lkX12_227 h) q681_M rfl rfl, List.forall_mem_cons.mpr ⟨fun M hM => Option.some.inj (show some q1218_M = some M from hM) ▸ wlkV (lkX12_230 h) q1218_M rfl rfl, fun _ h => absurd h List.not_mem_nil⟩⟩⟩, fun _ h => absurd h List.not_mem_nil, fun _ h => absurd h List.not_mem_nil⟩ dkX12_must (by decide +kernel) (by rw [h.2.2.1]; exact q1219_ok)
/-- NearSpellModel.numeral -/
def q1220_M : rfM := ((⟨"NearSpellModel", "numeral", "(II)I"⟩, prog_14_method_14_code, 4, (some .int)), (5,322), ([.inr (.inl [114]),.inl ((0,0,0),none),.inl ((999,999,0),none)],[((114,7),(0,1600,1),none)]), [(114,5),(114,6),(114,7),(114,8),(114,9),(114,10),(114,11),(998,2)], [(some (.inl ((0,0,0),none)),[],[((114,4),(1,4,1),none),((114,7),(0,1600,1),some ((114,7),0,0))]),(some (.inl ((0,999,1),none)),[],[((114,4),(0,0,1),none),((114,7),(1,1600,1),some ((114,7),1,4294967296)),((114,8),(5,5,0),none),((998,1),(1,1,0),none)]),(some (.inl ((0,999,1),none)),[],[((114,4),(0,0,1),none),((114,7),(0,1600,1),none),((114,8),(0,0,0),none),((998,1),(1,1,0),none)]),(some (.inl ((0,999,1),none)),[],[((114,4),(0,0,1),none),((114,7),(1,1600,1),some ((114,7),1,4294967296)),((114,8),(1,4,1),none),((998,1),(1,1,0),none)]),(some (.inl ((0,0,0),none)),[],[((114,4),(4,4,0),none),((114,5),(0,1600,1),none),((114,7),(0,1600,1),some ((114,7),0,0)),((114,8),(4,4,1),none)])])
def q1220_P : rfP := (flX12,csX12,lcX12,spX12,[q1214_M,q1218_M,q682_M,q689_M,q692_M,q681_M],[],[(219,4,12),(223,0,12),(223,2,12),(223,3,12),(227,5,12),(230,1,12)],([],[]))
def q1220_U : rfU := []
set_option maxHeartbeats 8000000 in
def q1220_N : List rfB := [(0,([(0,.inr (.inl [114])),(1,.inl ((0,0,0),none)),(2,.inl ((999,999,0),none))],[],[((114,7),(0,1600,1),some ((114,7),0,0))]),(78,[]),0),
  (44,([(0,.inr (.inl [114])),(1,.inl ((0,0,0),none)),(2,.inl ((999,999,0),none))],[],[((114,4),(0,0,1),none),((114,7),(0,1600,1),some ((114,7),0,0)),((114,8),(4,4,1),none)]),(15,[]),0)]
set_option maxRecDepth 100000 in
theorem q1220_ok : rf_chkB q1220_P q1220_U wLay q1220_M ddX12_numeral [(1,[0]),(18,[1]),(22,[2,3]),(50,[4]),(59,[2,3]),(66,[5]),(70,[2,3])] [] [0,44] 600 q1220_N = true := by decide +kernel
set_option maxHeartbeats 4000000 in
theorem q1220_met {G : rfG} (h : okG G) (hh : w1OK G) : rf_met G q1220_M := rf_methodB h.1 (P := q1220_P) (U := q1220_U) (N := q1220_N) ⟨wflT h flokX12, wcsT h csokX12, wlcT h lcokX12, spokX12 h, List.forall_mem_cons.mpr ⟨q1214_met h, List.forall_mem_cons.mpr ⟨q1218_met h, List.forall_mem_cons.mpr ⟨q682_met h, List.forall_mem_cons.mpr ⟨q689_met h, List.forall_mem_cons.mpr ⟨q692_met h, List.forall_mem_cons.mpr ⟨q681_met h hh, fun _ h => absurd h List.not_mem_nil⟩⟩⟩⟩⟩⟩, fun _ h => absurd h List.not_mem_nil, List.forall_mem_cons.mpr ⟨fun M hM => Option.some.inj (show some q692_M = some M from hM) ▸ wlkV (lkX12_219 h) q692_M rfl rfl, List.forall_mem_cons.mpr ⟨fun M hM => Option.some.inj (show some q1214_M = some M from hM) ▸ wlkV (lkX12_223 h) q1214_M rfl rfl, List.forall_mem_cons.mpr ⟨fun M hM => Option.some.inj (show some q682_M = some M from hM) ▸ wlkV (lkX12_223 h) q682_M rfl rfl, List.forall_mem_cons.mpr ⟨fun M hM => Option.some.inj (show some q689_M = some M from hM) ▸ wlkV (lkX12_223 h) q689_M rfl rfl, List.forall_mem_cons.mpr ⟨fun M hM => Option.some.inj (show some q681_M = some M from hM) ▸ wlkV (lkX12_227 h) q681_M rfl rfl, List.forall_mem_cons.mpr ⟨fun M hM => Option.some.inj (show some q1218_M = some M from hM) ▸ wlkV (lkX12_230 h) q1218_M rfl rfl, fun _ h => absurd h List.not_mem_nil⟩⟩⟩⟩⟩⟩, fun _ h => absurd h List.not_mem_nil, fun _ h => absurd h List.not_mem_nil⟩ dkX12_numeral (by decide +kernel) (by rw [h.2.2.1]; exact q1220_ok)
/-- NearSpellModel.fails -/
def q1221_M : rfM := ((⟨"NearSpellModel", "fails", "(II)V"⟩, prog_14_method_5_code, 3, none), (0,0), ([.inr (.inl [114]),.inl ((4,4,0),none),.inl ((0,1600,1),none)],[]), [(114,5),(114,6)], [(none,[],[((114,4),(1,4,1),none)])])
def q1221_P : rfP := (flX12,csX12,lcX12,spX12,[],[],[],([],[]))
def q1221_U : rfU := []
set_option maxHeartbeats 8000000 in
def q1221_N : List rfB := [(0,([(0,.inr (.inl [114])),(1,.inl ((4,4,0),none)),(2,.inl ((0,1600,1),none))],[],[]),(10,[]),0)]
set_option maxRecDepth 100000 in
theorem q1221_ok : rf_chkB q1221_P q1221_U wLay q1221_M ddX12_fails [] [] [0] 600 q1221_N = true := by decide +kernel
set_option maxHeartbeats 4000000 in
theorem q1221_met {G : rfG} (h : okG G) : rf_met G q1221_M := rf_methodB h.1 (P := q1221_P) (U := q1221_U) (N := q1221_N) ⟨wflT h flokX12, wcsT h csokX12, wlcT h lcokX12, spokX12 h, fun _ h => absurd h List.not_mem_nil, fun _ h => absurd h List.not_mem_nil, fun _ h => absurd h List.not_mem_nil, fun _ h => absurd h List.not_mem_nil, fun _ h => absurd h List.not_mem_nil⟩ dkX12_fails (by decide +kernel) (by rw [h.2.2.1]; exact q1221_ok)
/-- NearSpellModel.fails -/
def q1222_M : rfM := ((⟨"NearSpellModel", "fails", "(II)V"⟩, prog_14_method_5_code, 3, none), (0,0), ([.inr (.inl [114]),.inl ((3,3,0),none),.inl ((0,1600,1),none)],[]), [(114,5),(114,6)], [(none,[],[((114,4),(1,4,1),none)])])
def q1222_P : rfP := (flX12,csX12,lcX12,spX12,[],[],[],([],[]))
def q1222_U : rfU := []
set_option maxHeartbeats 8000000 in
def q1222_N : List rfB := [(0,([(0,.inr (.inl [114])),(1,.inl ((3,3,0),none)),(2,.inl ((0,1600,1),none))],[],[]),(10,[]),0)]
set_option maxRecDepth 100000 in
theorem q1222_ok : rf_chkB q1222_P q1222_U wLay q1222_M ddX12_fails [] [] [0] 600 q1222_N = true := by decide +kernel
set_option maxHeartbeats 4000000 in
theorem q1222_met {G : rfG} (h : okG G) : rf_met G q1222_M := rf_methodB h.1 (P := q1222_P) (U := q1222_U) (N := q1222_N) ⟨wflT h flokX12, wcsT h csokX12, wlcT h lcokX12, spokX12 h, fun _ h => absurd h List.not_mem_nil, fun _ h => absurd h List.not_mem_nil, fun _ h => absurd h List.not_mem_nil, fun _ h => absurd h List.not_mem_nil, fun _ h => absurd h List.not_mem_nil⟩ dkX12_fails (by decide +kernel) (by rw [h.2.2.1]; exact q1222_ok)
/-- NearSpellModel.swapsAt -/
def q1223_M : rfM := ((⟨"NearSpellModel", "swapsAt", "(I)I"⟩, prog_14_method_59_code, 4, (some .int)), (1,21), ([.inr (.inl [114]),.inl ((0,12,1),none)],[]), [], [(some (.inl ((0,16383,1),none)),[],[])])
def ddX12_swapsAt : List (Nat × Instr × Nat) := [(0,.iconst 0,1),(1,.istore_n 2,1),(2,.iload_n 1,1),(3,.iconst 2,1),(4,.if_icmp .ge 5,3),(7,.iload_n 2,1),(8,.ireturn,1),(9,.iconst 0,1),(10,.istore_n 3,1),(11,.iload_n 3,1),(12,.iconst 2,1),(13,.iadd,1),(14,.aload_n 0,1),(15,.getfield 387,3),(18,.if_icmp .gt 66,3),(21,.aload_n 0,1),(22,.getfield 90,3),(25,.iload_n 1,1),(26,.iconst 2,1),(27,.isub,1),(28,.iaload,1),(29,.iload_n 3,1),(30,.invokestatic 251,3),(33,.ifCond .eq 45,3),(36,.aload_n 0,1),(37,.getfield 84,3),(40,.iload_n 1,1),(41,.iconst 2,1),(42,.isub,1),(43,.iaload,1),(44,.aload_n 0,1),(45,.getfield 87,3),(48,.iload_n 3,1),(49,.iconst 1,1),(50,.iadd,1),(51,.iaload,1),(52,.if_icmp .ne 26,3),(55,.aload_n 0,1),(56,.getfield 84,3),(59,.iload_n 1,1),(60,.iconst 1,1),(61,.isub,1),(62,.iaload,1),(63,.aload_n 0,1),(64,.getfield 87,3),(67,.iload_n 3,1),(68,.iaload,1),(69,.if_icmp .ne 9,3),(72,.iload_n 2,1),(73,.iconst 4,1),(74,.iload_n 3,1),(75,.ishl,1),(76,.ior,1),(77,.istore_n 2,1),(78,.iinc 3 1,3),(81,.goto (-70),3),(84,.iload_n 2,1),(85,.ireturn,1)]
set_option maxRecDepth 100000 in
theorem dkX12_swapsAt : rf_decs prog_14_method_59_code ddX12_swapsAt := rf_decs_of (by decide +kernel)
def q1223_P : rfP := (flX12,csX12,lcX12,spX12,[q684_M],[(251,0)],[],([],[]))
def q1223_U : rfU := []
set_option maxHeartbeats 8000000 in
def q1223_N : List rfB := [(0,([(0,.inr (.inl [114])),(1,.inl ((0,12,1),none))],[],[]),(598,[0]),0),
  (11,([(0,.inr (.inl [114])),(1,.inl ((2,12,1),none)),(2,.inl ((0,16383,1),none)),(3,.inl ((0,11,1),none))],[],[]),(587,[(-49)]),0),
  (78,([(0,.inr (.inl [114])),(1,.inl ((2,12,1),none)),(2,.inl ((0,16383,1),none)),(3,.inl ((0,10,1),none))],[],[((114,45),(2,12,1),none)]),(541,[(-49)]),0)]
set_option maxRecDepth 100000 in
theorem q1223_ok : rf_chkB q1223_P q1223_U wLay q1223_M ddX12_swapsAt [(30,[0])] [.inl 3] [0,11,78] 600 q1223_N = true := by decide +kernel
set_option maxHeartbeats 4000000 in
theorem q1223_met {G : rfG} (h : okG G) : rf_met G q1223_M := rf_methodB h.1 (P := q1223_P) (U := q1223_U) (N := q1223_N) ⟨wflT h flokX12, wcsT h csokX12, wlcT h lcokX12, spokX12 h, List.forall_mem_cons.mpr ⟨q684_met h, fun _ h => absurd h List.not_mem_nil⟩, List.forall_mem_cons.mpr ⟨fun M hM => Option.some.inj (show some q684_M = some M from hM) ▸ wlkS (lkX12_251 h) q684_M rfl rfl, fun _ h => absurd h List.not_mem_nil⟩, fun _ h => absurd h List.not_mem_nil, fun _ h => absurd h List.not_mem_nil, fun _ h => absurd h List.not_mem_nil⟩ dkX12_swapsAt (by decide +kernel) (by rw [h.2.2.1]; exact q1223_ok)
/-- NearSpellModel.within -/
def q1224_M : rfM := ((⟨"NearSpellModel", "within", "(II)I"⟩, prog_14_method_65_code, 5, (some .int)), (1,21), ([.inr (.inl [114]),.inl ((0,2147483647,1),none),.inl ((0,6,1),none)],[]), [], [(some (.inl ((0,16383,1),none)),[],[])])
def q1224_P : rfP := (flX12,csX12,lcX12,spX12,[q684_M],[(251,0)],[],([],[]))
def q1224_U : rfU := []
set_option maxHeartbeats 8000000 in
def q1224_N : List rfB := [(0,([(0,.inr (.inl [114])),(1,.inl ((0,2147483647,1),none)),(2,.inl ((0,6,1),none))],[],[]),(350,[0]),0),
  (5,([(0,.inr (.inl [114])),(1,.inl ((0,2147483647,1),none)),(2,.inl ((0,6,1),none)),(3,.inl ((0,16383,1),none)),(4,.inl ((0,14,1),none))],[],[]),(344,[(-23)]),0),
  (39,([(0,.inr (.inl [114])),(1,.inl ((0,2147483647,1),none)),(2,.inl ((0,6,1),none)),(3,.inl ((0,16383,1),none)),(4,.inl ((0,13,1),none))],[],[]),(324,[(-23)]),0)]
set_option maxRecDepth 100000 in
theorem q1224_ok : rf_chkB q1224_P q1224_U wLay q1224_M ddX12_within [(15,[0])] [.inl 4] [0,5,39] 600 q1224_N = true := by decide +kernel
set_option maxHeartbeats 4000000 in
theorem q1224_met {G : rfG} (h : okG G) : rf_met G q1224_M := rf_methodB h.1 (P := q1224_P) (U := q1224_U) (N := q1224_N) ⟨wflT h flokX12, wcsT h csokX12, wlcT h lcokX12, spokX12 h, List.forall_mem_cons.mpr ⟨q684_met h, fun _ h => absurd h List.not_mem_nil⟩, List.forall_mem_cons.mpr ⟨fun M hM => Option.some.inj (show some q684_M = some M from hM) ▸ wlkS (lkX12_251 h) q684_M rfl rfl, fun _ h => absurd h List.not_mem_nil⟩, fun _ h => absurd h List.not_mem_nil, fun _ h => absurd h List.not_mem_nil, fun _ h => absurd h List.not_mem_nil⟩ dkX12_within (by decide +kernel) (by rw [h.2.2.1]; exact q1224_ok)
