/-- NearSpell.Pieces.weighJoined -/
def q312_M : rfM := ((⟨"NearSpell$Pieces", "weighJoined", "(I)V"⟩, prog_7_method_3_code, 2, none), (5,112), ([.inr (.inl [58]),.inl ((0,3,1),none)],[]), [(17,0),(18,0),(19,0),(20,4),(20,5),(58,5),(58,6),(58,7),(58,8)], [(none,[],[])])
def q312_P : rfP := (flX5,csX5,lcX5,spX5,[q272_M,q305_M,q285_M,q311_M,q288_M,q289_M],[],[(26,0,5),(29,2,7),(43,1,8),(43,3,8),(48,4,7),(51,5,5)],([],[]))
def q312_U : rfU := []
set_option maxHeartbeats 8000000 in
def q312_N : List rfB := [(0,([(0,.inr (.inl [58])),(1,.inl ((0,3,1),none))],[],[]),(20,[]),0)]
set_option maxRecDepth 100000 in
theorem q312_ok : rf_chkB q312_P q312_U wLay q312_M ddX5_weighJoined [(1,[0]),(13,[1]),(16,[2]),(30,[3]),(33,[4]),(37,[5])] [] [0] 600 q312_N = true := by decide +kernel
set_option maxHeartbeats 4000000 in
theorem q312_met {G : rfG} (h : okG G) (hh : wHandOK G) : rf_met G q312_M := rf_methodB h.1 (P := q312_P) (U := q312_U) (N := q312_N) ⟨wflT h flokX5, wcsT h csokX5, wlcT h lcokX5, spokX5 h, List.forall_mem_cons.mpr ⟨q272_met h hh, List.forall_mem_cons.mpr ⟨q305_met h hh, List.forall_mem_cons.mpr ⟨q285_met h hh, List.forall_mem_cons.mpr ⟨q311_met h hh, List.forall_mem_cons.mpr ⟨q288_met h hh, List.forall_mem_cons.mpr ⟨q289_met h hh, fun _ h => absurd h List.not_mem_nil⟩⟩⟩⟩⟩⟩, fun _ h => absurd h List.not_mem_nil, List.forall_mem_cons.mpr ⟨fun M hM => Option.some.inj (show some q272_M = some M from hM) ▸ wlkV (lkX5_26 h) q272_M rfl rfl, List.forall_mem_cons.mpr ⟨fun M hM => Option.some.inj (show some q285_M = some M from hM) ▸ wlkV (lkX5_29 h) q285_M rfl rfl, List.forall_mem_cons.mpr ⟨fun M hM => Option.some.inj (show some q305_M = some M from hM) ▸ wlkV (lkX5_43 h) q305_M rfl rfl, List.forall_mem_cons.mpr ⟨fun M hM => Option.some.inj (show some q311_M = some M from hM) ▸ wlkV (lkX5_43 h) q311_M rfl rfl, List.forall_mem_cons.mpr ⟨fun M hM => Option.some.inj (show some q288_M = some M from hM) ▸ wlkV (lkX5_48 h) q288_M rfl rfl, List.forall_mem_cons.mpr ⟨fun M hM => Option.some.inj (show some q289_M = some M from hM) ▸ wlkV (lkX5_51 h) q289_M rfl rfl, fun _ h => absurd h List.not_mem_nil⟩⟩⟩⟩⟩⟩, fun _ h => absurd h List.not_mem_nil, fun _ h => absurd h List.not_mem_nil⟩ dkX5_weighJoined (by decide +kernel) (by rw [h.2.2.1]; exact q312_ok)
/-- NearSpell.Pieces.takeJoined -/
def q313_M : rfM := ((⟨"NearSpell$Pieces", "takeJoined", "(I)V"⟩, prog_7_method_10_code, 4, none), (0,0), ([.inr (.inl [58]),.inl ((2,5,1),none)],[]), [(56,0),(57,0)], [(none,[],[])])
def q313_P : rfP := (flX5,csX5,lcX5,spX5,[],[],[],([],[]))
def q313_U : rfU := []
set_option maxHeartbeats 8000000 in
def q313_N : List rfB := [(0,([(0,.inr (.inl [58])),(1,.inl ((2,5,1),none))],[],[]),(59,[]),0),
  (89,([(0,.inr (.inl [58])),(1,.inl ((2,5,1),none)),(2,.inl (((-2147483648),2147483647,1),none)),(3,.inl (((-2147483648),2147483647,1),none))],[],[]),(0,[]),0)]
set_option maxRecDepth 100000 in
theorem q313_ok : rf_chkB q313_P q313_U wLay q313_M ddX5_takeJoined [] [] [0,89] 600 q313_N = true := by decide +kernel
set_option maxHeartbeats 4000000 in
theorem q313_met {G : rfG} (h : okG G) (hh : wHandOK G) : rf_met G q313_M := rf_methodB h.1 (P := q313_P) (U := q313_U) (N := q313_N) ⟨wflT h flokX5, wcsT h csokX5, wlcT h lcokX5, spokX5 h, fun _ h => absurd h List.not_mem_nil, fun _ h => absurd h List.not_mem_nil, fun _ h => absurd h List.not_mem_nil, fun _ h => absurd h List.not_mem_nil, fun _ h => absurd h List.not_mem_nil⟩ dkX5_takeJoined (by decide +kernel) (by rw [h.2.2.1]; exact q313_ok)
/-- NearSpell.Pieces.weighTyped -/
def q314_M : rfM := ((⟨"NearSpell$Pieces", "weighTyped", "(I)V"⟩, prog_7_method_4_code, 3, none), (5,117), ([.inr (.inl [58]),.inl ((0,5,1),none)],[]), [(17,0),(18,0),(19,0),(20,4),(20,5),(58,5),(58,6),(58,7),(58,8)], [(none,[],[((20,3),(0,6,1),none)])])
def q314_P : rfP := (flX5,csX5,lcX5,spX5,[q233_M,q272_M,q285_M,q289_M,q100_M,q293_M],[(35,4)],[(26,1,5),(29,2,7),(39,5,5),(43,0,8),(51,3,5)],([],[]))
def q314_U : rfU := []
set_option maxHeartbeats 8000000 in
def q314_N : List rfB := [(0,([(0,.inr (.inl [58])),(1,.inl ((0,5,1),none))],[],[]),(18,[]),0)]
set_option maxRecDepth 100000 in
theorem q314_ok : rf_chkB q314_P q314_U wLay q314_M ddX5_weighTyped [(5,[0]),(10,[1]),(18,[2]),(22,[3]),(27,[4]),(31,[5])] [] [0] 600 q314_N = true := by decide +kernel
set_option maxHeartbeats 4000000 in
theorem q314_met {G : rfG} (h : okG G) (hh : wHandOK G) : rf_met G q314_M := rf_methodB h.1 (P := q314_P) (U := q314_U) (N := q314_N) ⟨wflT h flokX5, wcsT h csokX5, wlcT h lcokX5, spokX5 h, List.forall_mem_cons.mpr ⟨q233_met h hh, List.forall_mem_cons.mpr ⟨q272_met h hh, List.forall_mem_cons.mpr ⟨q285_met h hh, List.forall_mem_cons.mpr ⟨q289_met h hh, List.forall_mem_cons.mpr ⟨q100_met h hh, List.forall_mem_cons.mpr ⟨q293_met h hh, fun _ h => absurd h List.not_mem_nil⟩⟩⟩⟩⟩⟩, List.forall_mem_cons.mpr ⟨fun M hM => Option.some.inj (show some q100_M = some M from hM) ▸ wlkS (lkX5_35 h) q100_M rfl rfl, fun _ h => absurd h List.not_mem_nil⟩, List.forall_mem_cons.mpr ⟨fun M hM => Option.some.inj (show some q272_M = some M from hM) ▸ wlkV (lkX5_26 h) q272_M rfl rfl, List.forall_mem_cons.mpr ⟨fun M hM => Option.some.inj (show some q285_M = some M from hM) ▸ wlkV (lkX5_29 h) q285_M rfl rfl, List.forall_mem_cons.mpr ⟨fun M hM => Option.some.inj (show some q293_M = some M from hM) ▸ wlkV (lkX5_39 h) q293_M rfl rfl, List.forall_mem_cons.mpr ⟨fun M hM => Option.some.inj (show some q233_M = some M from hM) ▸ wlkV (lkX5_43 h) q233_M rfl rfl, List.forall_mem_cons.mpr ⟨fun M hM => Option.some.inj (show some q289_M = some M from hM) ▸ wlkV (lkX5_51 h) q289_M rfl rfl, fun _ h => absurd h List.not_mem_nil⟩⟩⟩⟩⟩, fun _ h => absurd h List.not_mem_nil, fun _ h => absurd h List.not_mem_nil⟩ dkX5_weighTyped (by decide +kernel) (by rw [h.2.2.1]; exact q314_ok)
/-- NearSpell.Pieces.takeJoined -/
def q315_M : rfM := ((⟨"NearSpell$Pieces", "takeJoined", "(I)V"⟩, prog_7_method_10_code, 4, none), (0,0), ([.inr (.inl [58]),.inl ((2,6,1),none)],[]), [(56,0),(57,0)], [(none,[],[])])
def q315_P : rfP := (flX5,csX5,lcX5,spX5,[],[],[],([],[]))
def q315_U : rfU := []
set_option maxHeartbeats 8000000 in
def q315_N : List rfB := [(0,([(0,.inr (.inl [58])),(1,.inl ((2,6,1),none))],[],[]),(59,[]),0),
  (89,([(0,.inr (.inl [58])),(1,.inl ((2,6,1),none)),(2,.inl (((-2147483648),2147483647,1),none)),(3,.inl (((-2147483648),2147483647,1),none))],[],[]),(0,[]),0)]
set_option maxRecDepth 100000 in
theorem q315_ok : rf_chkB q315_P q315_U wLay q315_M ddX5_takeJoined [] [] [0,89] 600 q315_N = true := by decide +kernel
set_option maxHeartbeats 4000000 in
theorem q315_met {G : rfG} (h : okG G) (hh : wHandOK G) : rf_met G q315_M := rf_methodB h.1 (P := q315_P) (U := q315_U) (N := q315_N) ⟨wflT h flokX5, wcsT h csokX5, wlcT h lcokX5, spokX5 h, fun _ h => absurd h List.not_mem_nil, fun _ h => absurd h List.not_mem_nil, fun _ h => absurd h List.not_mem_nil, fun _ h => absurd h List.not_mem_nil, fun _ h => absurd h List.not_mem_nil⟩ dkX5_takeJoined (by decide +kernel) (by rw [h.2.2.1]; exact q315_ok)
/-- NearSpell.Pieces.readPhrase -/
def q316_M : rfM := ((⟨"NearSpell$Pieces", "readPhrase", "()Z"⟩, prog_7_method_9_code, 3, (some .boolean)), (6,139), ([.inr (.inl [58])],[]), [(17,0),(18,0),(19,0),(20,4),(20,5),(56,0),(57,0),(58,5),(58,6),(58,7),(58,8)], [(some (.inl ((0,0,0),none)),[],[]),(some (.inl ((1,1,0),none)),[],[])])
def ddX5_readPhrase : List (Nat × Instr × Nat) := [(0,.aload_n 0,1),(1,.getfield 9,3),(4,.invokevirtual 97,3),(7,.istore_n 1,1),(8,.iload_n 1,1),(9,.ifCond .le 15,3),(12,.aload_n 0,1),(13,.getfield 9,3),(16,.invokevirtual 100,3),(19,.ifCond .ne 5,3),(22,.iconst 0,1),(23,.ireturn,1),(24,.aload_n 0,1),(25,.getfield 19,3),(28,.iconst 0,1),(29,.iconst 0,1),(30,.iastore,1),(31,.aload_n 0,1),(32,.getfield 23,3),(35,.iconst 0,1),(36,.iconst 1,1),(37,.iastore,1),(38,.iconst 1,1),(39,.istore_n 2,1),(40,.iload_n 2,1),(41,.iload_n 1,1),(42,.if_icmp .gt 77,3),(45,.iload_n 2,1),(46,.bipush 6,2),(48,.if_icmp .gt 71,3),(51,.aload_n 0,1),(52,.iload_n 2,1),(53,.iconst 1,1),(54,.isub,1),(55,.invokevirtual 103,3),(58,.aload_n 0,1),(59,.getfield 19,3),(62,.iload_n 2,1),(63,.aload_n 0,1),(64,.getfield 19,3),(67,.iload_n 2,1),(68,.iconst 1,1),(69,.isub,1),(70,.iaload,1),(71,.aload_n 0,1),(72,.getfield 54,3),(75,.iadd,1),(76,.iastore,1),(77,.aload_n 0,1),(78,.getfield 23,3),(81,.iload_n 2,1),(82,.aload_n 0,1),(83,.getfield 23,3),(86,.iload_n 2,1),(87,.iconst 1,1),(88,.isub,1),(89,.iaload,1),(90,.aload_n 0,1),(91,.getfield 64,3),(94,.imul,1),(95,.iastore,1),(96,.iload_n 2,1),(97,.iconst 1,1),(98,.if_icmp .le 15,3),(101,.aload_n 0,1),(102,.iload_n 2,1),(103,.iconst 2,1),(104,.isub,1),(105,.invokevirtual 106,3),(108,.aload_n 0,1),(109,.iload_n 2,1),(110,.invokevirtual 109,3),(113,.iinc 2 1,3),(116,.goto (-76),3),(119,.iconst 1,1),(120,.ireturn,1)]
set_option maxRecDepth 100000 in
theorem dkX5_readPhrase : rf_decs prog_7_method_9_code ddX5_readPhrase := rf_decs_of (by decide +kernel)
def q316_P : rfP := (flX5,csX5,lcX5,spX5,[q185_M,q181_M,q314_M,q290_M,q315_M],[],[(97,0,8),(100,1,8),(103,2,5),(106,3,5),(109,4,5)],([],[]))
def q316_U : rfU := []
set_option maxHeartbeats 8000000 in
def q316_N : List rfB := [(0,([(0,.inr (.inl [58]))],[],[]),(382,[0]),0),
  (24,([(0,.inr (.inl [58])),(1,.inl ((0,6,1),none))],[],[]),(370,[0]),0),
  (40,([(0,.inr (.inl [58])),(1,.inl ((0,6,1),none)),(2,.inl ((1,7,1),none))],[],[]),(407,[(-51)]),0),
  (113,([(0,.inr (.inl [58])),(1,.inl ((1,6,1),none)),(2,.inl ((1,6,1),none))],[],[]),(359,[(-51)]),0)]
set_option maxRecDepth 100000 in
theorem q316_ok : rf_chkB q316_P q316_U wLay q316_M ddX5_readPhrase [(4,[0]),(16,[1]),(55,[2]),(105,[3]),(110,[4])] [.inl 2] [0,24,40,113] 600 q316_N = true := by decide +kernel
set_option maxHeartbeats 4000000 in
theorem q316_met {G : rfG} (h : okG G) (hh : wHandOK G) : rf_met G q316_M := rf_methodB h.1 (P := q316_P) (U := q316_U) (N := q316_N) ⟨wflT h flokX5, wcsT h csokX5, wlcT h lcokX5, spokX5 h, List.forall_mem_cons.mpr ⟨q185_met h hh, List.forall_mem_cons.mpr ⟨q181_met h hh, List.forall_mem_cons.mpr ⟨q314_met h hh, List.forall_mem_cons.mpr ⟨q290_met h hh, List.forall_mem_cons.mpr ⟨q315_met h hh, fun _ h => absurd h List.not_mem_nil⟩⟩⟩⟩⟩, fun _ h => absurd h List.not_mem_nil, List.forall_mem_cons.mpr ⟨fun M hM => Option.some.inj (show some q185_M = some M from hM) ▸ wlkV (lkX5_97 h) q185_M rfl rfl, List.forall_mem_cons.mpr ⟨fun M hM => Option.some.inj (show some q181_M = some M from hM) ▸ wlkV (lkX5_100 h) q181_M rfl rfl, List.forall_mem_cons.mpr ⟨fun M hM => Option.some.inj (show some q314_M = some M from hM) ▸ wlkV (lkX5_103 h) q314_M rfl rfl, List.forall_mem_cons.mpr ⟨fun M hM => Option.some.inj (show some q290_M = some M from hM) ▸ wlkV (lkX5_106 h) q290_M rfl rfl, List.forall_mem_cons.mpr ⟨fun M hM => Option.some.inj (show some q315_M = some M from hM) ▸ wlkV (lkX5_109 h) q315_M rfl rfl, fun _ h => absurd h List.not_mem_nil⟩⟩⟩⟩⟩, fun _ h => absurd h List.not_mem_nil, fun _ h => absurd h List.not_mem_nil⟩ dkX5_readPhrase (by decide +kernel) (by rw [h.2.2.1]; exact q316_ok)
/-- NearSpell.Pieces.cost -/
def q317_M : rfM := ((⟨"NearSpell$Pieces", "cost", "()I"⟩, prog_7_method_11_code, 1, (some .int)), (1,20), ([.inr (.inl [58])],[]), [], [(some (.inl (((-2147483648),2147483647,1),none)),[],[])])
def ddX5_cost : List (Nat × Instr × Nat) := [(0,.aload_n 0,1),(1,.getfield 19,3),(4,.aload_n 0,1),(5,.getfield 9,3),(8,.invokevirtual 97,3),(11,.bipush 6,2),(13,.invokestatic 112,3),(16,.iaload,1),(17,.ireturn,1)]
set_option maxRecDepth 100000 in
theorem dkX5_cost : rf_decs prog_7_method_11_code ddX5_cost := rf_decs_of (by decide +kernel)
def q317_P : rfP := (flX5,csX5,lcX5,spX5,[q185_M],[],[(97,0,8)],([],[(112,1)]))
def q317_U : rfU := []
set_option maxHeartbeats 8000000 in
def q317_N : List rfB := [(0,([(0,.inr (.inl [58]))],[],[]),(8,[]),0)]
set_option maxRecDepth 100000 in
theorem q317_ok : rf_chkB q317_P q317_U wLay q317_M ddX5_cost [(8,[0])] [] [0] 600 q317_N = true := by decide +kernel
set_option maxHeartbeats 4000000 in
theorem q317_met {G : rfG} (h : okG G) (hh : wHandOK G) : rf_met G q317_M := rf_methodB h.1 (P := q317_P) (U := q317_U) (N := q317_N) ⟨wflT h flokX5, wcsT h csokX5, wlcT h lcokX5, spokX5 h, List.forall_mem_cons.mpr ⟨q185_met h hh, fun _ h => absurd h List.not_mem_nil⟩, fun _ h => absurd h List.not_mem_nil, List.forall_mem_cons.mpr ⟨fun M hM => Option.some.inj (show some q185_M = some M from hM) ▸ wlkV (lkX5_97 h) q185_M rfl rfl, fun _ h => absurd h List.not_mem_nil⟩, fun _ h => absurd h List.not_mem_nil, List.forall_mem_cons.mpr ⟨⟨wmT h (wmem (i := 130) (by decide +kernel) (by decide +kernel)), fun h => absurd h (by decide), fun _ => ⟨wmT h (wmem (i := 1134) (by decide +kernel) (by decide +kernel)), wmT h (wmem (i := 557) (by decide +kernel) (by decide +kernel)), wmT h (wmem (i := 558) (by decide +kernel) (by decide +kernel))⟩, fun h => absurd h (by decide)⟩, fun _ h => absurd h List.not_mem_nil⟩⟩ dkX5_cost (by decide +kernel) (by rw [h.2.2.1]; exact q317_ok)
/-- NearSpell.reading -/
def q318_M : rfM := ((⟨"NearSpell", "reading", "()I"⟩, prog_1_method_24_code, 1, (some .int)), (7,161), ([.inr (.inl [70])],[]), [(17,0),(18,0),(19,0),(20,4),(20,5),(56,0),(57,0),(58,5),(58,6),(58,7),(58,8)], [(some (.inl (((-2147483648),2147483647,1),none)),[],[])])
def ddX11_reading : List (Nat × Instr × Nat) := [(0,.aload_n 0,1),(1,.getfield 76,3),(4,.invokevirtual 257,3),(7,.ifCond .eq 13,3),(10,.aload_n 0,1),(11,.getfield 76,3),(14,.invokevirtual 261,3),(17,.goto 4,3),(20,.iconst (-1),1),(21,.ireturn,1)]
set_option maxRecDepth 100000 in
theorem dkX11_reading : rf_decs prog_1_method_24_code ddX11_reading := rf_decs_of (by decide +kernel)
def q318_P : rfP := (flX11,csX11,lcX11,spX11,[q316_M,q317_M],[],[(257,0,5),(261,1,5)],([],[]))
def q318_U : rfU := []
set_option maxHeartbeats 8000000 in
def q318_N : List rfB := [(0,([(0,.inr (.inl [70]))],[],[]),(11,[]),0)]
set_option maxRecDepth 100000 in
theorem q318_ok : rf_chkB q318_P q318_U wLay q318_M ddX11_reading [(4,[0]),(14,[1])] [] [0] 600 q318_N = true := by decide +kernel
set_option maxHeartbeats 4000000 in
theorem q318_met {G : rfG} (h : okG G) (hh : wHandOK G) : rf_met G q318_M := rf_methodB h.1 (P := q318_P) (U := q318_U) (N := q318_N) ⟨wflT h flokX11, wcsT h csokX11, wlcT h lcokX11, spokX11 h, List.forall_mem_cons.mpr ⟨q316_met h hh, List.forall_mem_cons.mpr ⟨q317_met h hh, fun _ h => absurd h List.not_mem_nil⟩⟩, fun _ h => absurd h List.not_mem_nil, List.forall_mem_cons.mpr ⟨fun M hM => Option.some.inj (show some q316_M = some M from hM) ▸ wlkV (lkX11_257 h) q316_M rfl rfl, List.forall_mem_cons.mpr ⟨fun M hM => Option.some.inj (show some q317_M = some M from hM) ▸ wlkV (lkX11_261 h) q317_M rfl rfl, fun _ h => absurd h List.not_mem_nil⟩⟩, fun _ h => absurd h List.not_mem_nil, fun _ h => absurd h List.not_mem_nil⟩ dkX11_reading (by decide +kernel) (by rw [h.2.2.1]; exact q318_ok)
/-- NearSpell.Pieces.ways -/
def q319_M : rfM := ((⟨"NearSpell$Pieces", "ways", "()I"⟩, prog_7_method_12_code, 1, (some .int)), (1,20), ([.inr (.inl [58])],[]), [], [(some (.inl (((-2147483648),2147483647,1),none)),[],[])])
def ddX5_ways : List (Nat × Instr × Nat) := [(0,.aload_n 0,1),(1,.getfield 23,3),(4,.aload_n 0,1),(5,.getfield 9,3),(8,.invokevirtual 97,3),(11,.bipush 6,2),(13,.invokestatic 112,3),(16,.iaload,1),(17,.ireturn,1)]
set_option maxRecDepth 100000 in
theorem dkX5_ways : rf_decs prog_7_method_12_code ddX5_ways := rf_decs_of (by decide +kernel)
def q319_P : rfP := (flX5,csX5,lcX5,spX5,[q185_M],[],[(97,0,8)],([],[(112,1)]))
def q319_U : rfU := []
set_option maxHeartbeats 8000000 in
def q319_N : List rfB := [(0,([(0,.inr (.inl [58]))],[],[]),(8,[]),0)]
set_option maxRecDepth 100000 in
theorem q319_ok : rf_chkB q319_P q319_U wLay q319_M ddX5_ways [(8,[0])] [] [0] 600 q319_N = true := by decide +kernel
set_option maxHeartbeats 4000000 in
theorem q319_met {G : rfG} (h : okG G) (hh : wHandOK G) : rf_met G q319_M := rf_methodB h.1 (P := q319_P) (U := q319_U) (N := q319_N) ⟨wflT h flokX5, wcsT h csokX5, wlcT h lcokX5, spokX5 h, List.forall_mem_cons.mpr ⟨q185_met h hh, fun _ h => absurd h List.not_mem_nil⟩, fun _ h => absurd h List.not_mem_nil, List.forall_mem_cons.mpr ⟨fun M hM => Option.some.inj (show some q185_M = some M from hM) ▸ wlkV (lkX5_97 h) q185_M rfl rfl, fun _ h => absurd h List.not_mem_nil⟩, fun _ h => absurd h List.not_mem_nil, List.forall_mem_cons.mpr ⟨⟨wmT h (wmem (i := 130) (by decide +kernel) (by decide +kernel)), fun h => absurd h (by decide), fun _ => ⟨wmT h (wmem (i := 1134) (by decide +kernel) (by decide +kernel)), wmT h (wmem (i := 557) (by decide +kernel) (by decide +kernel)), wmT h (wmem (i := 558) (by decide +kernel) (by decide +kernel))⟩, fun h => absurd h (by decide)⟩, fun _ h => absurd h List.not_mem_nil⟩⟩ dkX5_ways (by decide +kernel) (by rw [h.2.2.1]; exact q319_ok)
/-- NearSpell.readings -/
def q320_M : rfM := ((⟨"NearSpell", "readings", "()I"⟩, prog_1_method_25_code, 1, (some .int)), (7,161), ([.inr (.inl [70])],[]), [(17,0),(18,0),(19,0),(20,4),(20,5),(56,0),(57,0),(58,5),(58,6),(58,7),(58,8)], [(some (.inl (((-2147483648),2147483647,1),none)),[],[])])
def ddX11_readings : List (Nat × Instr × Nat) := [(0,.aload_n 0,1),(1,.getfield 76,3),(4,.invokevirtual 257,3),(7,.ifCond .eq 13,3),(10,.aload_n 0,1),(11,.getfield 76,3),(14,.invokevirtual 264,3),(17,.goto 4,3),(20,.iconst (-1),1),(21,.ireturn,1)]
set_option maxRecDepth 100000 in
theorem dkX11_readings : rf_decs prog_1_method_25_code ddX11_readings := rf_decs_of (by decide +kernel)
def q320_P : rfP := (flX11,csX11,lcX11,spX11,[q316_M,q319_M],[],[(257,0,5),(264,1,5)],([],[]))
def q320_U : rfU := []
set_option maxHeartbeats 8000000 in
def q320_N : List rfB := [(0,([(0,.inr (.inl [70]))],[],[]),(11,[]),0)]
set_option maxRecDepth 100000 in
theorem q320_ok : rf_chkB q320_P q320_U wLay q320_M ddX11_readings [(4,[0]),(14,[1])] [] [0] 600 q320_N = true := by decide +kernel
set_option maxHeartbeats 4000000 in
theorem q320_met {G : rfG} (h : okG G) (hh : wHandOK G) : rf_met G q320_M := rf_methodB h.1 (P := q320_P) (U := q320_U) (N := q320_N) ⟨wflT h flokX11, wcsT h csokX11, wlcT h lcokX11, spokX11 h, List.forall_mem_cons.mpr ⟨q316_met h hh, List.forall_mem_cons.mpr ⟨q319_met h hh, fun _ h => absurd h List.not_mem_nil⟩⟩, fun _ h => absurd h List.not_mem_nil, List.forall_mem_cons.mpr ⟨fun M hM => Option.some.inj (show some q316_M = some M from hM) ▸ wlkV (lkX11_257 h) q316_M rfl rfl, List.forall_mem_cons.mpr ⟨fun M hM => Option.some.inj (show some q319_M = some M from hM) ▸ wlkV (lkX11_264 h) q319_M rfl rfl, fun _ h => absurd h List.not_mem_nil⟩⟩, fun _ h => absurd h List.not_mem_nil, fun _ h => absurd h List.not_mem_nil⟩ dkX11_readings (by decide +kernel) (by rw [h.2.2.1]; exact q320_ok)
/-- NearSpell.Web.isIn -/
def q321_M : rfM := ((⟨"NearSpell$Web", "isIn", "(II)Z"⟩, prog_11_method_3_code, 3, (some .boolean)), (0,0), ([.inr (.inl [61]),.inl (((-2147483648),2147483647,1),none),.inl (((-2147483648),2147483647,1),none)],[]), [], [(some (.inl ((1,1,0),none)),[],[]),(some (.inl ((0,0,0),none)),[],[])])
def ddX9_isIn : List (Nat × Instr × Nat) := [(0,.iload_n 1,1),(1,.iload_n 2,1),(2,.ishr,1),(3,.iconst 1,1),(4,.iand,1),(5,.ifCond .eq 7,3),(8,.iconst 1,1),(9,.goto 4,3),(12,.iconst 0,1),(13,.ireturn,1)]
set_option maxRecDepth 100000 in
theorem dkX9_isIn : rf_decs prog_11_method_3_code ddX9_isIn := rf_decs_of (by decide +kernel)
def q321_P : rfP := (flX9,csX9,lcX9,spX9,[],[],[],([],[]))
def q321_U : rfU := []
set_option maxHeartbeats 8000000 in
def q321_N : List rfB := [(0,([(0,.inr (.inl [61])),(1,.inl (((-2147483648),2147483647,1),none)),(2,.inl (((-2147483648),2147483647,1),none))],[],[]),(10,[]),0)]
set_option maxRecDepth 100000 in
theorem q321_ok : rf_chkB q321_P q321_U wLay q321_M ddX9_isIn [] [] [0] 600 q321_N = true := by decide +kernel
set_option maxHeartbeats 4000000 in
theorem q321_met {G : rfG} (h : okG G) (hh : wHandOK G) : rf_met G q321_M := rf_methodB h.1 (P := q321_P) (U := q321_U) (N := q321_N) ⟨wflT h flokX9, wcsT h csokX9, wlcT h lcokX9, spokX9 h, fun _ h => absurd h List.not_mem_nil, fun _ h => absurd h List.not_mem_nil, fun _ h => absurd h List.not_mem_nil, fun _ h => absurd h List.not_mem_nil, fun _ h => absurd h List.not_mem_nil⟩ dkX9_isIn (by decide +kernel) (by rw [h.2.2.1]; exact q321_ok)
/-- NearSpell.State.spellingOf -/
def q322_M : rfM := ((⟨"NearSpell$State", "spellingOf", "(I)I"⟩, prog_10_method_7_code, 2, (some .int)), (0,0), ([.inr (.inl [13]),.inl ((0,10,1),none)],[]), [], [(some (.inl (((-2147483648),2147483647,1),none)),[],[])])
def q322_P : rfP := (flX8,csX8,lcX8,spX8,[],[],[],([],[]))
def q322_U : rfU := []
set_option maxHeartbeats 8000000 in
def q322_N : List rfB := [(0,([(0,.inr (.inl [13])),(1,.inl ((0,10,1),none))],[],[]),(12,[]),0)]
set_option maxRecDepth 100000 in
theorem q322_ok : rf_chkB q322_P q322_U wLay q322_M ddX8_spellingOf [] [] [0] 600 q322_N = true := by decide +kernel
set_option maxHeartbeats 4000000 in
theorem q322_met {G : rfG} (h : okG G) (hh : wHandOK G) : rf_met G q322_M := rf_methodB h.1 (P := q322_P) (U := q322_U) (N := q322_N) ⟨wflT h flokX8, wcsT h csokX8, wlcT h lcokX8, spokX8 h, fun _ h => absurd h List.not_mem_nil, fun _ h => absurd h List.not_mem_nil, fun _ h => absurd h List.not_mem_nil, fun _ h => absurd h List.not_mem_nil, fun _ h => absurd h List.not_mem_nil⟩ dkX8_spellingOf (by decide +kernel) (by rw [h.2.2.1]; exact q322_ok)
/-- NearSpell.Web.measure -/
def q323_M : rfM := ((⟨"NearSpell$Web", "measure", "()V"⟩, prog_11_method_2_code, 4, none), (4,91), ([.inr (.inl [61])],[]), [(17,0),(18,0),(19,0),(20,4),(20,5),(59,0),(61,5)], [(none,[],[((61,4),(0,2147483647,1),none)])])
def ddX9_measure : List (Nat × Instr × Nat) := [(0,.aload_n 0,1),(1,.iconst 0,1),(2,.putfield 26,3),(5,.iconst 0,1),(6,.istore_n 1,1),(7,.iload_n 1,1),(8,.aload_n 0,1),(9,.getfield 9,3),(12,.invokevirtual 30,3),(15,.if_icmp .ge 119,3),(18,.aload_n 0,1),(19,.getfield 9,3),(22,.iload_n 1,1),(23,.invokevirtual 36,3),(26,.ifCond .ne 6,3),(29,.goto 99,3),(32,.aload_n 0,1),(33,.getfield 15,3),(36,.aload_n 0,1),(37,.getfield 9,3),(40,.iload_n 1,1),(41,.invokevirtual 40,3),(44,.invokevirtual 44,3),(47,.iconst 0,1),(48,.istore_n 2,1),(49,.iload_n 2,1),(50,.iload_n 1,1),(51,.if_icmp .ge 65,3),(54,.aload_n 0,1),(55,.aload_n 0,1),(56,.getfield 26,3),(59,.iload_n 2,1),(60,.invokevirtual 50,3),(63,.ifCond .eq 21,3),(66,.aload_n 0,1),(67,.getfield 15,3),(70,.aload_n 0,1),(71,.getfield 9,3),(74,.iload_n 2,1),(75,.invokevirtual 40,3),(78,.invokevirtual 54,3),(81,.goto 4,3),(84,.iconst 0,1),(85,.istore_n 3,1),(86,.aload_n 0,1),(87,.getfield 19,3),(90,.iload_n 1,1),(91,.bipush 14,2),(93,.imul,1),(94,.iload_n 2,1),(95,.iadd,1),(96,.iload_n 3,1),(97,.iastore,1),(98,.aload_n 0,1),(99,.getfield 19,3),(102,.iload_n 2,1),(103,.bipush 14,2),(105,.imul,1),(106,.iload_n 1,1),(107,.iadd,1),(108,.iload_n 3,1),(109,.iastore,1),(110,.iinc 2 1,3),(113,.goto (-64),3),(116,.aload_n 0,1),(117,.dup,1),(118,.getfield 26,3),(121,.iconst 1,1),(122,.iload_n 1,1),(123,.ishl,1),(124,.ior,1),(125,.putfield 26,3),(128,.iinc 1 1,3),(131,.goto (-124),3),(134,.return_,1)]
set_option maxRecDepth 100000 in
theorem dkX9_measure : rf_decs prog_11_method_2_code ddX9_measure := rf_decs_of (by decide +kernel)
def q323_P : rfP := (flX9,csX9,lcX9,spX9,[q176_M,q174_M,q99_M,q285_M,q321_M,q173_M,q197_M],[],[(30,0,8),(36,1,8),(40,2,8),(40,5,8),(44,3,7),(50,4,9),(54,6,7)],([],[]))
def q323_U : rfU := []
set_option maxHeartbeats 8000000 in
def q323_N : List rfB := [(0,([(0,.inr (.inl [61]))],[],[]),(9305,[0,0]),0),
  (7,([(0,.inr (.inl [61])),(1,.inl ((0,14,1),none))],[],[((61,4),(0,2147483647,1),none)]),(9298,[(-620),0]),0),
  (128,([(0,.inr (.inl [61])),(1,.inl ((0,13,1),none))],[],[((61,4),(0,2147483647,1),none)]),(8681,[(-620),0]),0),
  (49,([(0,.inr (.inl [61])),(1,.inl ((0,13,1),none)),(2,.inl ((0,13,1),none))],[],[((12,34),(1,14,1),none),((20,3),(0,6,1),none),((20,4),(0,6,1),none),((61,4),(0,2147483647,1),none)]),(9277,[(-620),(-42)]),0),
  (86,([(0,.inr (.inl [61])),(1,.inl ((1,13,1),none)),(2,.inl ((0,12,1),none)),(3,.inl (((-2147483648),2147483647,1),none))],[],[((12,34),(1,14,1),none),((20,3),(0,6,1),none),((20,4),(0,6,1),none),((61,4),(0,2147483647,1),none)]),(9256,[(-620),(-42)]),0)]
set_option maxRecDepth 100000 in
theorem q323_ok : rf_chkB q323_P q323_U wLay q323_M ddX9_measure [(12,[0]),(23,[1]),(41,[2]),(44,[3]),(60,[4]),(75,[5]),(78,[6])] [.inl 1,.inl 2] [0,7,49,86,128] 600 q323_N = true := by decide +kernel
set_option maxHeartbeats 4000000 in
theorem q323_met {G : rfG} (h : okG G) (hh : wHandOK G) : rf_met G q323_M := rf_methodB h.1 (P := q323_P) (U := q323_U) (N := q323_N) ⟨wflT h flokX9, wcsT h csokX9, wlcT h lcokX9, spokX9 h, List.forall_mem_cons.mpr ⟨q176_met h hh, List.forall_mem_cons.mpr ⟨q174_met h hh, List.forall_mem_cons.mpr ⟨q99_met h hh, List.forall_mem_cons.mpr ⟨q285_met h hh, List.forall_mem_cons.mpr ⟨q321_met h hh, List.forall_mem_cons.mpr ⟨q173_met h hh, List.forall_mem_cons.mpr ⟨q197_met h hh, fun _ h => absurd h List.not_mem_nil⟩⟩⟩⟩⟩⟩⟩, fun _ h => absurd h List.not_mem_nil, List.forall_mem_cons.mpr ⟨fun M hM => Option.some.inj (show some q176_M = some M from hM) ▸ wlkV (lkX9_30 h) q176_M rfl rfl, List.forall_mem_cons.mpr ⟨fun M hM => Option.some.inj (show some q174_M = some M from hM) ▸ wlkV (lkX9_36 h) q174_M rfl rfl, List.forall_mem_cons.mpr ⟨fun M hM => Option.some.inj (show some q99_M = some M from hM) ▸ wlkV (lkX9_40 h) q99_M rfl rfl, List.forall_mem_cons.mpr ⟨fun M hM => Option.some.inj (show some q173_M = some M from hM) ▸ wlkV (lkX9_40 h) q173_M rfl rfl, List.forall_mem_cons.mpr ⟨fun M hM => Option.some.inj (show some q285_M = some M from hM) ▸ wlkV (lkX9_44 h) q285_M rfl rfl, List.forall_mem_cons.mpr ⟨fun M hM => Option.some.inj (show some q321_M = some M from hM) ▸ wlkV (lkX9_50 h) q321_M rfl rfl, List.forall_mem_cons.mpr ⟨fun M hM => Option.some.inj (show some q197_M = some M from hM) ▸ wlkV (lkX9_54 h) q197_M rfl rfl, fun _ h => absurd h List.not_mem_nil⟩⟩⟩⟩⟩⟩⟩, fun _ h => absurd h List.not_mem_nil, fun _ h => absurd h List.not_mem_nil⟩ dkX9_measure (by decide +kernel) (by rw [h.2.2.1]; exact q323_ok)
/-- NearSpell.Web.closestPair -/
def q324_M : rfM := ((⟨"NearSpell$Web", "closestPair", "(I)I"⟩, prog_11_method_5_code, 8, (some .int)), (5,114), ([.inr (.inl [61]),.inl ((0,2,1),none)],[]), [(17,0),(18,0),(19,0),(20,4),(20,5),(59,0),(61,5)], [(some (.inl (((-2147483648),2147483647,1),none)),[],[((61,4),(0,2147483647,1),none)])])
def ddX9_closestPair : List (Nat × Instr × Nat) := [(0,.aload_n 0,1),(1,.invokevirtual 57,3),(4,.iconst (-1),1),(5,.istore_n 2,1),(6,.iconst (-1),1),(7,.istore_n 3,1),(8,.bipush 7,2),(10,.istore 4,2),(12,.iconst 0,1),(13,.istore 5,2),(15,.iload 5,2),(17,.bipush 14,2),(19,.if_icmp .ge 105,3),(22,.iload 5,2),(24,.iconst 1,1),(25,.iadd,1),(26,.istore 6,2),(28,.iload 6,2),(30,.bipush 14,2),(32,.if_icmp .ge 86,3),(35,.aload_n 0,1),(36,.aload_n 0,1),(37,.getfield 26,3),(40,.iload 5,2),(42,.invokevirtual 50,3),(45,.ifCond .eq 20,3),(48,.aload_n 0,1),(49,.aload_n 0,1),(50,.getfield 26,3),(53,.iload 6,2),(55,.invokevirtual 50,3),(58,.ifCond .eq 7,3),(61,.iconst 1,1),(62,.goto 4,3),(65,.iconst 0,1),(66,.istore 7,2),(68,.iload 7,2),(70,.ifCond .eq 42,3),(73,.aload_n 0,1),(74,.getfield 19,3),(77,.iload 5,2),(79,.bipush 14,2),(81,.imul,1),(82,.iload 6,2),(84,.iadd,1),(85,.iaload,1),(86,.iload 4,2),(88,.if_icmp .ge 24,3),(91,.iload 5,2),(93,.istore_n 2,1),(94,.iload 6,2),(96,.istore_n 3,1),(97,.aload_n 0,1),(98,.getfield 19,3),(101,.iload 5,2),(103,.bipush 14,2),(105,.imul,1),(106,.iload 6,2),(108,.iadd,1),(109,.iaload,1),(110,.istore 4,2),(112,.iinc 6 1,3),(115,.goto (-87),3),(118,.iinc 5 1,3),(121,.goto (-106),3),(124,.iload_n 1,1),(125,.iconst 2,1),(126,.if_icmp .ne 6,3),(129,.iload 4,2),(131,.ireturn,1),(132,.iload_n 1,1),(133,.ifCond .ne 7,3),(136,.iload_n 2,1),(137,.goto 4,3),(140,.iload_n 3,1),(141,.ireturn,1)]
set_option maxRecDepth 100000 in
theorem dkX9_closestPair : rf_decs prog_11_method_5_code ddX9_closestPair := rf_decs_of (by decide +kernel)
def q324_P : rfP := (flX9,csX9,lcX9,spX9,[q323_M,q321_M],[],[(50,1,9),(57,0,9)],([],[]))
def q324_U : rfU := []
set_option maxHeartbeats 8000000 in
def q324_N : List rfB := [(0,([(0,.inr (.inl [61])),(1,.inl ((0,2,1),none))],[],[]),(10670,[0,0]),0),
  (15,([(0,.inr (.inl [61])),(1,.inl ((0,2,1),none)),(2,.inl (((-1),13,1),none)),(3,.inl (((-1),13,1),none)),(4,.inl (((-2147483648),2147483647,1),none)),(5,.inl ((0,14,1),none))],[],[((61,4),(0,2147483647,1),none)]),(10658,[(-710),0]),0),
  (28,([(0,.inr (.inl [61])),(1,.inl ((0,2,1),none)),(2,.inl (((-1),13,1),none)),(3,.inl (((-1),13,1),none)),(4,.inl (((-2147483648),2147483647,1),none)),(5,.inl ((0,13,1),none)),(6,.inl ((1,14,1),none))],[],[((61,4),(0,2147483647,1),none)]),(10699,[(-710),(-50)]),0),
  (65,([(0,.inr (.inl [61])),(1,.inl ((0,2,1),none)),(2,.inl (((-1),13,1),none)),(3,.inl (((-1),13,1),none)),(4,.inl (((-2147483648),2147483647,1),none)),(5,.inl ((0,13,1),none)),(6,.inl ((1,13,1),none))],[],[((61,4),(0,2147483647,1),none)]),(10679,[(-710),(-50)]),0),
  (68,([(0,.inr (.inl [61])),(1,.inl ((0,2,1),none)),(2,.inl (((-1),13,1),none)),(3,.inl (((-1),13,1),none)),(4,.inl (((-2147483648),2147483647,1),none)),(5,.inl ((0,13,1),none)),(6,.inl ((1,13,1),none)),(7,.inl ((0,1,1),none))],[],[((61,4),(0,2147483647,1),none)]),(10677,[(-710),(-50)]),0),
  (112,([(0,.inr (.inl [61])),(1,.inl ((0,2,1),none)),(2,.inl (((-1),13,1),none)),(3,.inl (((-1),13,1),none)),(4,.inl (((-2147483648),2147483647,1),none)),(5,.inl ((0,13,1),none)),(6,.inl ((1,13,1),none)),(7,.inl ((0,1,1),none))],[],[((61,4),(0,2147483647,1),none)]),(10652,[(-710),(-50)]),0),
  (141,([(0,.inr (.inl [61])),(1,.inl ((0,1,1),none)),(2,.inl (((-1),13,1),none)),(3,.inl (((-1),13,1),none)),(4,.inl (((-2147483648),2147483647,1),none)),(5,.inl ((14,14,1),none))],[.inl (((-1),13,1),none)],[((61,4),(0,2147483647,1),none)]),(0,[0,0]),0)]
set_option maxRecDepth 100000 in
theorem q324_ok : rf_chkB q324_P q324_U wLay q324_M ddX9_closestPair [(1,[0]),(42,[1]),(55,[1])] [.inl 5,.inl 6] [0,15,28,65,68,112,141] 600 q324_N = true := by decide +kernel
set_option maxHeartbeats 4000000 in
theorem q324_met {G : rfG} (h : okG G) (hh : wHandOK G) : rf_met G q324_M := rf_methodB h.1 (P := q324_P) (U := q324_U) (N := q324_N) ⟨wflT h flokX9, wcsT h csokX9, wlcT h lcokX9, spokX9 h, List.forall_mem_cons.mpr ⟨q323_met h hh, List.forall_mem_cons.mpr ⟨q321_met h hh, fun _ h => absurd h List.not_mem_nil⟩⟩, fun _ h => absurd h List.not_mem_nil, List.forall_mem_cons.mpr ⟨fun M hM => Option.some.inj (show some q321_M = some M from hM) ▸ wlkV (lkX9_50 h) q321_M rfl rfl, List.forall_mem_cons.mpr ⟨fun M hM => Option.some.inj (show some q323_M = some M from hM) ▸ wlkV (lkX9_57 h) q323_M rfl rfl, fun _ h => absurd h List.not_mem_nil⟩⟩, fun _ h => absurd h List.not_mem_nil, fun _ h => absurd h List.not_mem_nil⟩ dkX9_closestPair (by decide +kernel) (by rw [h.2.2.1]; exact q324_ok)
/-- NearSpell.closest -/
def q325_M : rfM := ((⟨"NearSpell", "closest", "(I)I"⟩, prog_1_method_26_code, 2, (some .int)), (6,141), ([.inr (.inl [70]),.inl (((-2147483648),2147483647,1),none)],[]), [(17,0),(18,0),(19,0),(20,4),(20,5),(59,0),(61,5)], [(some (.inl (((-2147483648),2147483647,1),none)),[],[])])
def ddX11_closest : List (Nat × Instr × Nat) := [(0,.iload_n 1,1),(1,.ifCond .lt 19,3),(4,.iload_n 1,1),(5,.iconst 2,1),(6,.if_icmp .gt 14,3),(9,.aload_n 0,1),(10,.getfield 35,3),(13,.invokevirtual 183,3),(16,.iconst 2,1),(17,.if_icmp .ge 5,3),(20,.iconst (-1),1),(21,.ireturn,1),(22,.aload_n 0,1),(23,.getfield 83,3),(26,.iload_n 1,1),(27,.invokevirtual 267,3),(30,.ireturn,1)]
set_option maxRecDepth 100000 in
theorem dkX11_closest : rf_decs prog_1_method_26_code ddX11_closest := rf_decs_of (by decide +kernel)
def q325_P : rfP := (flX11,csX11,lcX11,spX11,[q181_M,q324_M],[],[(183,0,8),(267,1,9)],([],[]))
def q325_U : rfU := []
set_option maxHeartbeats 8000000 in
def q325_N : List rfB := [(0,([(0,.inr (.inl [70])),(1,.inl (((-2147483648),2147483647,1),none))],[],[]),(16,[]),0),
  (20,([(0,.inr (.inl [70])),(1,.inl (((-2147483648),2147483647,1),none))],[],[]),(1,[]),0)]
set_option maxRecDepth 100000 in
theorem q325_ok : rf_chkB q325_P q325_U wLay q325_M ddX11_closest [(13,[0]),(27,[1])] [] [0,20] 600 q325_N = true := by decide +kernel
set_option maxHeartbeats 4000000 in
theorem q325_met {G : rfG} (h : okG G) (hh : wHandOK G) : rf_met G q325_M := rf_methodB h.1 (P := q325_P) (U := q325_U) (N := q325_N) ⟨wflT h flokX11, wcsT h csokX11, wlcT h lcokX11, spokX11 h, List.forall_mem_cons.mpr ⟨q181_met h hh, List.forall_mem_cons.mpr ⟨q324_met h hh, fun _ h => absurd h List.not_mem_nil⟩⟩, fun _ h => absurd h List.not_mem_nil, List.forall_mem_cons.mpr ⟨fun M hM => Option.some.inj (show some q181_M = some M from hM) ▸ wlkV (lkX11_183 h) q181_M rfl rfl, List.forall_mem_cons.mpr ⟨fun M hM => Option.some.inj (show some q324_M = some M from hM) ▸ wlkV (lkX11_267 h) q324_M rfl rfl, fun _ h => absurd h List.not_mem_nil⟩⟩, fun _ h => absurd h List.not_mem_nil, fun _ h => absurd h List.not_mem_nil⟩ dkX11_closest (by decide +kernel) (by rw [h.2.2.1]; exact q325_ok)
/-- NearSpell.Web.link -/
def q326_M : rfM := ((⟨"NearSpell$Web", "link", "(I)V"⟩, prog_11_method_4_code, 5, none), (5,114), ([.inr (.inl [61]),.inl ((0,6,1),none)],[]), [(17,0),(18,0),(19,0),(20,4),(20,5),(59,0),(60,0),(61,5)], [(none,[],[((61,4),(0,2147483647,1),none)])])
def ddX9_link : List (Nat × Instr × Nat) := [(0,.aload_n 0,1),(1,.invokevirtual 57,3),(4,.iconst 0,1),(5,.istore_n 2,1),(6,.iload_n 2,1),(7,.bipush 14,2),(9,.if_icmp .ge 98,3),(12,.aload_n 0,1),(13,.getfield 23,3),(16,.iload_n 2,1),(17,.iconst 0,1),(18,.iastore,1),(19,.iconst 0,1),(20,.istore_n 3,1),(21,.iload_n 3,1),(22,.bipush 14,2),(24,.if_icmp .ge 77,3),(27,.iload_n 3,1),(28,.iload_n 2,1),(29,.if_icmp .eq 31,3),(32,.aload_n 0,1),(33,.aload_n 0,1),(34,.getfield 26,3),(37,.iload_n 2,1),(38,.invokevirtual 50,3),(41,.ifCond .eq 19,3),(44,.aload_n 0,1),(45,.aload_n 0,1),(46,.getfield 26,3),(49,.iload_n 3,1),(50,.invokevirtual 50,3),(53,.ifCond .eq 7,3),(56,.iconst 1,1),(57,.goto 4,3),(60,.iconst 0,1),(61,.istore 4,2),(63,.iload 4,2),(65,.ifCond .eq 30,3),(68,.aload_n 0,1),(69,.getfield 19,3),(72,.iload_n 2,1),(73,.bipush 14,2),(75,.imul,1),(76,.iload_n 3,1),(77,.iadd,1),(78,.iaload,1),(79,.iload_n 1,1),(80,.if_icmp .gt 15,3),(83,.aload_n 0,1),(84,.getfield 23,3),(87,.iload_n 2,1),(88,.dup2,1),(89,.iaload,1),(90,.iconst 1,1),(91,.iload_n 3,1),(92,.ishl,1),(93,.ior,1),(94,.iastore,1),(95,.iinc 3 1,3),(98,.goto (-77),3),(101,.iinc 2 1,3),(104,.goto (-98),3),(107,.return_,1)]
set_option maxRecDepth 100000 in
theorem dkX9_link : rf_decs prog_11_method_4_code ddX9_link := rf_decs_of (by decide +kernel)
def q326_P : rfP := (flX9,csX9,lcX9,spX9,[q323_M,q321_M],[],[(50,1,9),(57,0,9)],([],[]))
def q326_U : rfU := []
set_option maxHeartbeats 8000000 in
def q326_N : List rfB := [(0,([(0,.inr (.inl [61])),(1,.inl ((0,6,1),none))],[],[]),(11449,[0,0]),0),
  (6,([(0,.inr (.inl [61])),(1,.inl ((0,6,1),none)),(2,.inl ((0,14,1),none))],[],[((61,4),(0,2147483647,1),none)]),(11443,[(-763),0]),0),
  (21,([(0,.inr (.inl [61])),(1,.inl ((0,6,1),none)),(2,.inl ((0,13,1),none)),(3,.inl ((0,14,1),none))],[],[((61,4),(0,2147483647,1),none)]),(11431,[(-763),(-50)]),0),
  (60,([(0,.inr (.inl [61])),(1,.inl ((0,6,1),none)),(2,.inl ((0,13,1),none)),(3,.inl ((0,13,1),none))],[],[((61,4),(0,2147483647,1),none)]),(11408,[(-763),(-50)]),0),
  (63,([(0,.inr (.inl [61])),(1,.inl ((0,6,1),none)),(2,.inl ((0,13,1),none)),(3,.inl ((0,13,1),none)),(4,.inl ((0,1,1),none))],[],[((61,4),(0,2147483647,1),none)]),(11406,[(-763),(-50)]),0),
  (95,([(0,.inr (.inl [61])),(1,.inl ((0,6,1),none)),(2,.inl ((0,13,1),none)),(3,.inl ((0,13,1),none)),(4,.inl ((0,1,1),none))],[],[((61,4),(0,2147483647,1),none)]),(11384,[(-763),(-50)]),0)]
set_option maxRecDepth 100000 in
theorem q326_ok : rf_chkB q326_P q326_U wLay q326_M ddX9_link [(1,[0]),(38,[1]),(50,[1])] [.inl 2,.inl 3] [0,6,21,60,63,95] 600 q326_N = true := by decide +kernel
set_option maxHeartbeats 4000000 in
theorem q326_met {G : rfG} (h : okG G) (hh : wHandOK G) : rf_met G q326_M := rf_methodB h.1 (P := q326_P) (U := q326_U) (N := q326_N) ⟨wflT h flokX9, wcsT h csokX9, wlcT h lcokX9, spokX9 h, List.forall_mem_cons.mpr ⟨q323_met h hh, List.forall_mem_cons.mpr ⟨q321_met h hh, fun _ h => absurd h List.not_mem_nil⟩⟩, fun _ h => absurd h List.not_mem_nil, List.forall_mem_cons.mpr ⟨fun M hM => Option.some.inj (show some q321_M = some M from hM) ▸ wlkV (lkX9_50 h) q321_M rfl rfl, List.forall_mem_cons.mpr ⟨fun M hM => Option.some.inj (show some q323_M = some M from hM) ▸ wlkV (lkX9_57 h) q323_M rfl rfl, fun _ h => absurd h List.not_mem_nil⟩⟩, fun _ h => absurd h List.not_mem_nil, fun _ h => absurd h List.not_mem_nil⟩ dkX9_link (by decide +kernel) (by rw [h.2.2.1]; exact q326_ok)
/-- NearSpell.Web.stepOn -/
def q327_M : rfM := ((⟨"NearSpell$Web", "stepOn", "(I)I"⟩, prog_11_method_8_code, 4, (some .int)), (1,22), ([.inr (.inl [61]),.inl ((1,1,0),none)],[]), [], [(some (.inl (((-2147483648),2147483647,1),none)),[],[])])
def ddX9_stepOn : List (Nat × Instr × Nat) := [(0,.iload_n 1,1),(1,.istore_n 2,1),(2,.iconst 0,1),(3,.istore_n 3,1),(4,.iload_n 3,1),(5,.bipush 14,2),(7,.if_icmp .ge 27,3),(10,.aload_n 0,1),(11,.iload_n 1,1),(12,.iload_n 3,1),(13,.invokevirtual 50,3),(16,.ifCond .eq 12,3),(19,.iload_n 2,1),(20,.aload_n 0,1),(21,.getfield 23,3),(24,.iload_n 3,1),(25,.iaload,1),(26,.ior,1),(27,.istore_n 2,1),(28,.iinc 3 1,3),(31,.goto (-27),3),(34,.iload_n 2,1),(35,.ireturn,1)]
set_option maxRecDepth 100000 in
theorem dkX9_stepOn : rf_decs prog_11_method_8_code ddX9_stepOn := rf_decs_of (by decide +kernel)
def q327_P : rfP := (flX9,csX9,lcX9,spX9,[q321_M],[],[(50,0,9)],([],[]))
def q327_U : rfU := []
set_option maxHeartbeats 8000000 in
def q327_N : List rfB := [(0,([(0,.inr (.inl [61])),(1,.inl ((1,1,0),none))],[],[]),(290,[0]),0),
  (4,([(0,.inr (.inl [61])),(1,.inl ((1,1,0),none)),(2,.inl (((-2147483648),2147483647,1),none)),(3,.inl ((0,14,1),none))],[],[]),(284,[(-19)]),0),
  (28,([(0,.inr (.inl [61])),(1,.inl ((1,1,0),none)),(2,.inl (((-2147483648),2147483647,1),none)),(3,.inl ((0,13,1),none))],[],[]),(268,[(-19)]),0)]
set_option maxRecDepth 100000 in
theorem q327_ok : rf_chkB q327_P q327_U wLay q327_M ddX9_stepOn [(13,[0])] [.inl 3] [0,4,28] 600 q327_N = true := by decide +kernel
set_option maxHeartbeats 4000000 in
theorem q327_met {G : rfG} (h : okG G) (hh : wHandOK G) : rf_met G q327_M := rf_methodB h.1 (P := q327_P) (U := q327_U) (N := q327_N) ⟨wflT h flokX9, wcsT h csokX9, wlcT h lcokX9, spokX9 h, List.forall_mem_cons.mpr ⟨q321_met h hh, fun _ h => absurd h List.not_mem_nil⟩, fun _ h => absurd h List.not_mem_nil, List.forall_mem_cons.mpr ⟨fun M hM => Option.some.inj (show some q321_M = some M from hM) ▸ wlkV (lkX9_50 h) q321_M rfl rfl, fun _ h => absurd h List.not_mem_nil⟩, fun _ h => absurd h List.not_mem_nil, fun _ h => absurd h List.not_mem_nil⟩ dkX9_stepOn (by decide +kernel) (by rw [h.2.2.1]; exact q327_ok)
/-- NearSpell.Web.stepOn -/
def q328_M : rfM := ((⟨"NearSpell$Web", "stepOn", "(I)I"⟩, prog_11_method_8_code, 4, (some .int)), (1,22), ([.inr (.inl [61]),.inl (((-2147483648),2147483647,1),none)],[]), [], [(some (.inl (((-2147483648),2147483647,1),none)),[],[])])
def q328_P : rfP := (flX9,csX9,lcX9,spX9,[q321_M],[],[(50,0,9)],([],[]))
def q328_U : rfU := []
set_option maxHeartbeats 8000000 in
def q328_N : List rfB := [(0,([(0,.inr (.inl [61])),(1,.inl (((-2147483648),2147483647,1),none))],[],[]),(290,[0]),0),
  (4,([(0,.inr (.inl [61])),(1,.inl (((-2147483648),2147483647,1),none)),(2,.inl (((-2147483648),2147483647,1),none)),(3,.inl ((0,14,1),none))],[],[]),(284,[(-19)]),0),
  (28,([(0,.inr (.inl [61])),(1,.inl (((-2147483648),2147483647,1),none)),(2,.inl (((-2147483648),2147483647,1),none)),(3,.inl ((0,13,1),none))],[],[]),(268,[(-19)]),0)]
set_option maxRecDepth 100000 in
theorem q328_ok : rf_chkB q328_P q328_U wLay q328_M ddX9_stepOn [(13,[0])] [.inl 3] [0,4,28] 600 q328_N = true := by decide +kernel
set_option maxHeartbeats 4000000 in
theorem q328_met {G : rfG} (h : okG G) (hh : wHandOK G) : rf_met G q328_M := rf_methodB h.1 (P := q328_P) (U := q328_U) (N := q328_N) ⟨wflT h flokX9, wcsT h csokX9, wlcT h lcokX9, spokX9 h, List.forall_mem_cons.mpr ⟨q321_met h hh, fun _ h => absurd h List.not_mem_nil⟩, fun _ h => absurd h List.not_mem_nil, List.forall_mem_cons.mpr ⟨fun M hM => Option.some.inj (show some q321_M = some M from hM) ▸ wlkV (lkX9_50 h) q321_M rfl rfl, fun _ h => absurd h List.not_mem_nil⟩, fun _ h => absurd h List.not_mem_nil, fun _ h => absurd h List.not_mem_nil⟩ dkX9_stepOn (by decide +kernel) (by rw [h.2.2.1]; exact q328_ok)
/-- NearSpell.Web.hangingTo -/
def q329_M : rfM := ((⟨"NearSpell$Web", "hangingTo", "(I)I"⟩, prog_11_method_7_code, 4, (some .int)), (2,45), ([.inr (.inl [61]),.inl ((1,1,0),none)],[]), [], [(some (.inl (((-2147483648),2147483647,1),none)),[],[])])
def ddX9_hangingTo : List (Nat × Instr × Nat) := [(0,.iload_n 1,1),(1,.istore_n 2,1),(2,.iconst 0,1),(3,.istore_n 3,1),(4,.iload_n 3,1),(5,.bipush 14,2),(7,.if_icmp .ge 15,3),(10,.aload_n 0,1),(11,.iload_n 2,1),(12,.invokevirtual 66,3),(15,.istore_n 2,1),(16,.iinc 3 1,3),(19,.goto (-15),3),(22,.iload_n 2,1),(23,.ireturn,1)]
set_option maxRecDepth 100000 in
theorem dkX9_hangingTo : rf_decs prog_11_method_7_code ddX9_hangingTo := rf_decs_of (by decide +kernel)
def q329_P : rfP := (flX9,csX9,lcX9,spX9,[q328_M],[],[(66,0,9)],([],[]))
def q329_U : rfU := []
set_option maxHeartbeats 8000000 in
def q329_N : List rfB := [(0,([(0,.inr (.inl [61])),(1,.inl ((1,1,0),none))],[],[]),(155,[0]),0),
  (4,([(0,.inr (.inl [61])),(1,.inl ((1,1,0),none)),(2,.inl (((-2147483648),2147483647,1),none)),(3,.inl ((0,14,1),none))],[],[]),(149,[(-10)]),0)]
set_option maxRecDepth 100000 in
theorem q329_ok : rf_chkB q329_P q329_U wLay q329_M ddX9_hangingTo [(12,[0])] [.inl 3] [0,4] 600 q329_N = true := by decide +kernel
set_option maxHeartbeats 4000000 in
theorem q329_met {G : rfG} (h : okG G) (hh : wHandOK G) : rf_met G q329_M := rf_methodB h.1 (P := q329_P) (U := q329_U) (N := q329_N) ⟨wflT h flokX9, wcsT h csokX9, wlcT h lcokX9, spokX9 h, List.forall_mem_cons.mpr ⟨q328_met h hh, fun _ h => absurd h List.not_mem_nil⟩, fun _ h => absurd h List.not_mem_nil, List.forall_mem_cons.mpr ⟨fun M hM => Option.some.inj (show some q328_M = some M from hM) ▸ wlkV (lkX9_66 h) q328_M rfl rfl, fun _ h => absurd h List.not_mem_nil⟩, fun _ h => absurd h List.not_mem_nil, fun _ h => absurd h List.not_mem_nil⟩ dkX9_hangingTo (by decide +kernel) (by rw [h.2.2.1]; exact q329_ok)
/-- NearSpell.Web.stepOn -/
def q330_M : rfM := ((⟨"NearSpell$Web", "stepOn", "(I)I"⟩, prog_11_method_8_code, 4, (some .int)), (1,22), ([.inr (.inl [61]),.inl ((1,2,1),none)],[]), [], [(some (.inl (((-2147483648),2147483647,1),none)),[],[])])
def q330_P : rfP := (flX9,csX9,lcX9,spX9,[q321_M],[],[(50,0,9)],([],[]))
def q330_U : rfU := []
set_option maxHeartbeats 8000000 in
def q330_N : List rfB := [(0,([(0,.inr (.inl [61])),(1,.inl ((1,2,1),none))],[],[]),(290,[0]),0),
  (4,([(0,.inr (.inl [61])),(1,.inl ((1,2,1),none)),(2,.inl (((-2147483648),2147483647,1),none)),(3,.inl ((0,14,1),none))],[],[]),(284,[(-19)]),0),
  (28,([(0,.inr (.inl [61])),(1,.inl ((1,2,1),none)),(2,.inl (((-2147483648),2147483647,1),none)),(3,.inl ((0,13,1),none))],[],[]),(268,[(-19)]),0)]
set_option maxRecDepth 100000 in
theorem q330_ok : rf_chkB q330_P q330_U wLay q330_M ddX9_stepOn [(13,[0])] [.inl 3] [0,4,28] 600 q330_N = true := by decide +kernel
set_option maxHeartbeats 4000000 in
theorem q330_met {G : rfG} (h : okG G) (hh : wHandOK G) : rf_met G q330_M := rf_methodB h.1 (P := q330_P) (U := q330_U) (N := q330_N) ⟨wflT h flokX9, wcsT h csokX9, wlcT h lcokX9, spokX9 h, List.forall_mem_cons.mpr ⟨q321_met h hh, fun _ h => absurd h List.not_mem_nil⟩, fun _ h => absurd h List.not_mem_nil, List.forall_mem_cons.mpr ⟨fun M hM => Option.some.inj (show some q321_M = some M from hM) ▸ wlkV (lkX9_50 h) q321_M rfl rfl, fun _ h => absurd h List.not_mem_nil⟩, fun _ h => absurd h List.not_mem_nil, fun _ h => absurd h List.not_mem_nil⟩ dkX9_stepOn (by decide +kernel) (by rw [h.2.2.1]; exact q330_ok)
/-- NearSpell.Web.hangingTo -/
def q331_M : rfM := ((⟨"NearSpell$Web", "hangingTo", "(I)I"⟩, prog_11_method_7_code, 4, (some .int)), (2,45), ([.inr (.inl [61]),.inl ((1,2,1),none)],[]), [], [(some (.inl (((-2147483648),2147483647,1),none)),[],[])])
def q331_P : rfP := (flX9,csX9,lcX9,spX9,[q328_M],[],[(66,0,9)],([],[]))
def q331_U : rfU := []
set_option maxHeartbeats 8000000 in
def q331_N : List rfB := [(0,([(0,.inr (.inl [61])),(1,.inl ((1,2,1),none))],[],[]),(155,[0]),0),
  (4,([(0,.inr (.inl [61])),(1,.inl ((1,2,1),none)),(2,.inl (((-2147483648),2147483647,1),none)),(3,.inl ((0,14,1),none))],[],[]),(149,[(-10)]),0)]
set_option maxRecDepth 100000 in
theorem q331_ok : rf_chkB q331_P q331_U wLay q331_M ddX9_hangingTo [(12,[0])] [.inl 3] [0,4] 600 q331_N = true := by decide +kernel
set_option maxHeartbeats 4000000 in
theorem q331_met {G : rfG} (h : okG G) (hh : wHandOK G) : rf_met G q331_M := rf_methodB h.1 (P := q331_P) (U := q331_U) (N := q331_N) ⟨wflT h flokX9, wcsT h csokX9, wlcT h lcokX9, spokX9 h, List.forall_mem_cons.mpr ⟨q328_met h hh, fun _ h => absurd h List.not_mem_nil⟩, fun _ h => absurd h List.not_mem_nil, List.forall_mem_cons.mpr ⟨fun M hM => Option.some.inj (show some q328_M = some M from hM) ▸ wlkV (lkX9_66 h) q328_M rfl rfl, fun _ h => absurd h List.not_mem_nil⟩, fun _ h => absurd h List.not_mem_nil, fun _ h => absurd h List.not_mem_nil⟩ dkX9_hangingTo (by decide +kernel) (by rw [h.2.2.1]; exact q331_ok)
/-- NearSpell.Web.stepOn -/
def q332_M : rfM := ((⟨"NearSpell$Web", "stepOn", "(I)I"⟩, prog_11_method_8_code, 4, (some .int)), (1,22), ([.inr (.inl [61]),.inl ((1,4,1),none)],[]), [], [(some (.inl (((-2147483648),2147483647,1),none)),[],[])])
def q332_P : rfP := (flX9,csX9,lcX9,spX9,[q321_M],[],[(50,0,9)],([],[]))
def q332_U : rfU := []
set_option maxHeartbeats 8000000 in
def q332_N : List rfB := [(0,([(0,.inr (.inl [61])),(1,.inl ((1,4,1),none))],[],[]),(290,[0]),0),
  (4,([(0,.inr (.inl [61])),(1,.inl ((1,4,1),none)),(2,.inl (((-2147483648),2147483647,1),none)),(3,.inl ((0,14,1),none))],[],[]),(284,[(-19)]),0),
  (28,([(0,.inr (.inl [61])),(1,.inl ((1,4,1),none)),(2,.inl (((-2147483648),2147483647,1),none)),(3,.inl ((0,13,1),none))],[],[]),(268,[(-19)]),0)]
set_option maxRecDepth 100000 in
theorem q332_ok : rf_chkB q332_P q332_U wLay q332_M ddX9_stepOn [(13,[0])] [.inl 3] [0,4,28] 600 q332_N = true := by decide +kernel
set_option maxHeartbeats 4000000 in
theorem q332_met {G : rfG} (h : okG G) (hh : wHandOK G) : rf_met G q332_M := rf_methodB h.1 (P := q332_P) (U := q332_U) (N := q332_N) ⟨wflT h flokX9, wcsT h csokX9, wlcT h lcokX9, spokX9 h, List.forall_mem_cons.mpr ⟨q321_met h hh, fun _ h => absurd h List.not_mem_nil⟩, fun _ h => absurd h List.not_mem_nil, List.forall_mem_cons.mpr ⟨fun M hM => Option.some.inj (show some q321_M = some M from hM) ▸ wlkV (lkX9_50 h) q321_M rfl rfl, fun _ h => absurd h List.not_mem_nil⟩, fun _ h => absurd h List.not_mem_nil, fun _ h => absurd h List.not_mem_nil⟩ dkX9_stepOn (by decide +kernel) (by rw [h.2.2.1]; exact q332_ok)
/-- NearSpell.Web.hangingTo -/
def q333_M : rfM := ((⟨"NearSpell$Web", "hangingTo", "(I)I"⟩, prog_11_method_7_code, 4, (some .int)), (2,45), ([.inr (.inl [61]),.inl ((1,4,1),none)],[]), [], [(some (.inl (((-2147483648),2147483647,1),none)),[],[])])
def q333_P : rfP := (flX9,csX9,lcX9,spX9,[q328_M],[],[(66,0,9)],([],[]))
def q333_U : rfU := []
set_option maxHeartbeats 8000000 in
def q333_N : List rfB := [(0,([(0,.inr (.inl [61])),(1,.inl ((1,4,1),none))],[],[]),(155,[0]),0),
  (4,([(0,.inr (.inl [61])),(1,.inl ((1,4,1),none)),(2,.inl (((-2147483648),2147483647,1),none)),(3,.inl ((0,14,1),none))],[],[]),(149,[(-10)]),0)]
set_option maxRecDepth 100000 in
theorem q333_ok : rf_chkB q333_P q333_U wLay q333_M ddX9_hangingTo [(12,[0])] [.inl 3] [0,4] 600 q333_N = true := by decide +kernel
set_option maxHeartbeats 4000000 in
theorem q333_met {G : rfG} (h : okG G) (hh : wHandOK G) : rf_met G q333_M := rf_methodB h.1 (P := q333_P) (U := q333_U) (N := q333_N) ⟨wflT h flokX9, wcsT h csokX9, wlcT h lcokX9, spokX9 h, List.forall_mem_cons.mpr ⟨q328_met h hh, fun _ h => absurd h List.not_mem_nil⟩, fun _ h => absurd h List.not_mem_nil, List.forall_mem_cons.mpr ⟨fun M hM => Option.some.inj (show some q328_M = some M from hM) ▸ wlkV (lkX9_66 h) q328_M rfl rfl, fun _ h => absurd h List.not_mem_nil⟩, fun _ h => absurd h List.not_mem_nil, fun _ h => absurd h List.not_mem_nil⟩ dkX9_hangingTo (by decide +kernel) (by rw [h.2.2.1]; exact q333_ok)
/-- NearSpell.Web.stepOn -/
def q334_M : rfM := ((⟨"NearSpell$Web", "stepOn", "(I)I"⟩, prog_11_method_8_code, 4, (some .int)), (1,22), ([.inr (.inl [61]),.inl ((1,9,1),none)],[]), [], [(some (.inl (((-2147483648),2147483647,1),none)),[],[])])
def q334_P : rfP := (flX9,csX9,lcX9,spX9,[q321_M],[],[(50,0,9)],([],[]))
def q334_U : rfU := []
set_option maxHeartbeats 8000000 in
def q334_N : List rfB := [(0,([(0,.inr (.inl [61])),(1,.inl ((1,9,1),none))],[],[]),(290,[0]),0),
  (4,([(0,.inr (.inl [61])),(1,.inl ((1,9,1),none)),(2,.inl (((-2147483648),2147483647,1),none)),(3,.inl ((0,14,1),none))],[],[]),(284,[(-19)]),0),
  (28,([(0,.inr (.inl [61])),(1,.inl ((1,9,1),none)),(2,.inl (((-2147483648),2147483647,1),none)),(3,.inl ((0,13,1),none))],[],[]),(268,[(-19)]),0)]
set_option maxRecDepth 100000 in
theorem q334_ok : rf_chkB q334_P q334_U wLay q334_M ddX9_stepOn [(13,[0])] [.inl 3] [0,4,28] 600 q334_N = true := by decide +kernel
set_option maxHeartbeats 4000000 in
theorem q334_met {G : rfG} (h : okG G) (hh : wHandOK G) : rf_met G q334_M := rf_methodB h.1 (P := q334_P) (U := q334_U) (N := q334_N) ⟨wflT h flokX9, wcsT h csokX9, wlcT h lcokX9, spokX9 h, List.forall_mem_cons.mpr ⟨q321_met h hh, fun _ h => absurd h List.not_mem_nil⟩, fun _ h => absurd h List.not_mem_nil, List.forall_mem_cons.mpr ⟨fun M hM => Option.some.inj (show some q321_M = some M from hM) ▸ wlkV (lkX9_50 h) q321_M rfl rfl, fun _ h => absurd h List.not_mem_nil⟩, fun _ h => absurd h List.not_mem_nil, fun _ h => absurd h List.not_mem_nil⟩ dkX9_stepOn (by decide +kernel) (by rw [h.2.2.1]; exact q334_ok)
/-- NearSpell.Web.hangingTo -/
def q335_M : rfM := ((⟨"NearSpell$Web", "hangingTo", "(I)I"⟩, prog_11_method_7_code, 4, (some .int)), (2,45), ([.inr (.inl [61]),.inl ((1,9,1),none)],[]), [], [(some (.inl (((-2147483648),2147483647,1),none)),[],[])])
def q335_P : rfP := (flX9,csX9,lcX9,spX9,[q328_M],[],[(66,0,9)],([],[]))
def q335_U : rfU := []
set_option maxHeartbeats 8000000 in
def q335_N : List rfB := [(0,([(0,.inr (.inl [61])),(1,.inl ((1,9,1),none))],[],[]),(155,[0]),0),
  (4,([(0,.inr (.inl [61])),(1,.inl ((1,9,1),none)),(2,.inl (((-2147483648),2147483647,1),none)),(3,.inl ((0,14,1),none))],[],[]),(149,[(-10)]),0)]
set_option maxRecDepth 100000 in
theorem q335_ok : rf_chkB q335_P q335_U wLay q335_M ddX9_hangingTo [(12,[0])] [.inl 3] [0,4] 600 q335_N = true := by decide +kernel
set_option maxHeartbeats 4000000 in
theorem q335_met {G : rfG} (h : okG G) (hh : wHandOK G) : rf_met G q335_M := rf_methodB h.1 (P := q335_P) (U := q335_U) (N := q335_N) ⟨wflT h flokX9, wcsT h csokX9, wlcT h lcokX9, spokX9 h, List.forall_mem_cons.mpr ⟨q328_met h hh, fun _ h => absurd h List.not_mem_nil⟩, fun _ h => absurd h List.not_mem_nil, List.forall_mem_cons.mpr ⟨fun M hM => Option.some.inj (show some q328_M = some M from hM) ▸ wlkV (lkX9_66 h) q328_M rfl rfl, fun _ h => absurd h List.not_mem_nil⟩, fun _ h => absurd h List.not_mem_nil, fun _ h => absurd h List.not_mem_nil⟩ dkX9_hangingTo (by decide +kernel) (by rw [h.2.2.1]; exact q335_ok)
/-- NearSpell.Web.stepOn -/
def q336_M : rfM := ((⟨"NearSpell$Web", "stepOn", "(I)I"⟩, prog_11_method_8_code, 4, (some .int)), (1,22), ([.inr (.inl [61]),.inl ((1,9999,1),none)],[]), [], [(some (.inl (((-2147483648),2147483647,1),none)),[],[])])
def q336_P : rfP := (flX9,csX9,lcX9,spX9,[q321_M],[],[(50,0,9)],([],[]))
def q336_U : rfU := []
set_option maxHeartbeats 8000000 in
def q336_N : List rfB := [(0,([(0,.inr (.inl [61])),(1,.inl ((1,9999,1),none))],[],[]),(290,[0]),0),
  (4,([(0,.inr (.inl [61])),(1,.inl ((1,9999,1),none)),(2,.inl (((-2147483648),2147483647,1),none)),(3,.inl ((0,14,1),none))],[],[]),(284,[(-19)]),0),
  (28,([(0,.inr (.inl [61])),(1,.inl ((1,9999,1),none)),(2,.inl (((-2147483648),2147483647,1),none)),(3,.inl ((0,13,1),none))],[],[]),(268,[(-19)]),0)]
set_option maxRecDepth 100000 in
theorem q336_ok : rf_chkB q336_P q336_U wLay q336_M ddX9_stepOn [(13,[0])] [.inl 3] [0,4,28] 600 q336_N = true := by decide +kernel
set_option maxHeartbeats 4000000 in
theorem q336_met {G : rfG} (h : okG G) (hh : wHandOK G) : rf_met G q336_M := rf_methodB h.1 (P := q336_P) (U := q336_U) (N := q336_N) ⟨wflT h flokX9, wcsT h csokX9, wlcT h lcokX9, spokX9 h, List.forall_mem_cons.mpr ⟨q321_met h hh, fun _ h => absurd h List.not_mem_nil⟩, fun _ h => absurd h List.not_mem_nil, List.forall_mem_cons.mpr ⟨fun M hM => Option.some.inj (show some q321_M = some M from hM) ▸ wlkV (lkX9_50 h) q321_M rfl rfl, fun _ h => absurd h List.not_mem_nil⟩, fun _ h => absurd h List.not_mem_nil, fun _ h => absurd h List.not_mem_nil⟩ dkX9_stepOn (by decide +kernel) (by rw [h.2.2.1]; exact q336_ok)
/-- NearSpell.Web.hangingTo -/
def q337_M : rfM := ((⟨"NearSpell$Web", "hangingTo", "(I)I"⟩, prog_11_method_7_code, 4, (some .int)), (2,45), ([.inr (.inl [61]),.inl ((1,9999,1),none)],[]), [], [(some (.inl (((-2147483648),2147483647,1),none)),[],[])])
def q337_P : rfP := (flX9,csX9,lcX9,spX9,[q328_M],[],[(66,0,9)],([],[]))
def q337_U : rfU := []
set_option maxHeartbeats 8000000 in
def q337_N : List rfB := [(0,([(0,.inr (.inl [61])),(1,.inl ((1,9999,1),none))],[],[]),(155,[0]),0),
  (4,([(0,.inr (.inl [61])),(1,.inl ((1,9999,1),none)),(2,.inl (((-2147483648),2147483647,1),none)),(3,.inl ((0,14,1),none))],[],[]),(149,[(-10)]),0)]
set_option maxRecDepth 100000 in
theorem q337_ok : rf_chkB q337_P q337_U wLay q337_M ddX9_hangingTo [(12,[0])] [.inl 3] [0,4] 600 q337_N = true := by decide +kernel
set_option maxHeartbeats 4000000 in
theorem q337_met {G : rfG} (h : okG G) (hh : wHandOK G) : rf_met G q337_M := rf_methodB h.1 (P := q337_P) (U := q337_U) (N := q337_N) ⟨wflT h flokX9, wcsT h csokX9, wlcT h lcokX9, spokX9 h, List.forall_mem_cons.mpr ⟨q328_met h hh, fun _ h => absurd h List.not_mem_nil⟩, fun _ h => absurd h List.not_mem_nil, List.forall_mem_cons.mpr ⟨fun M hM => Option.some.inj (show some q328_M = some M from hM) ▸ wlkV (lkX9_66 h) q328_M rfl rfl, fun _ h => absurd h List.not_mem_nil⟩, fun _ h => absurd h List.not_mem_nil, fun _ h => absurd h List.not_mem_nil⟩ dkX9_hangingTo (by decide +kernel) (by rw [h.2.2.1]; exact q337_ok)
/-- NearSpell.Web.countGroups -/
def q338_M : rfM := ((⟨"NearSpell$Web", "countGroups", "(I)I"⟩, prog_11_method_6_code, 5, (some .int)), (6,138), ([.inr (.inl [61]),.inl ((0,6,1),none)],[]), [(17,0),(18,0),(19,0),(20,4),(20,5),(59,0),(60,0),(61,5)], [(some (.inl (((-2147483648),2147483647,1),none)),[],[((61,4),(0,2147483647,1),none)])])
def ddX9_countGroups : List (Nat × Instr × Nat) := [(0,.aload_n 0,1),(1,.iload_n 1,1),(2,.invokevirtual 60,3),(5,.aload_n 0,1),(6,.getfield 26,3),(9,.istore_n 2,1),(10,.iconst 0,1),(11,.istore_n 3,1),(12,.iconst 0,1),(13,.istore 4,2),(15,.iload 4,2),(17,.bipush 14,2),(19,.if_icmp .ge 35,3),(22,.aload_n 0,1),(23,.iload_n 2,1),(24,.iload 4,2),(26,.invokevirtual 50,3),(29,.ifCond .eq 19,3),(32,.iload_n 2,1),(33,.aload_n 0,1),(34,.iconst 1,1),(35,.iload 4,2),(37,.ishl,1),(38,.invokevirtual 63,3),(41,.iconst (-1),1),(42,.ixor,1),(43,.iand,1),(44,.istore_n 2,1),(45,.iinc 3 1,3),(48,.iinc 4 1,3),(51,.goto (-36),3),(54,.iload_n 3,1),(55,.ireturn,1)]
set_option maxRecDepth 100000 in
theorem dkX9_countGroups : rf_decs prog_11_method_6_code ddX9_countGroups := rf_decs_of (by decide +kernel)
def q338_P : rfP := (flX9,csX9,lcX9,spX9,[q326_M,q321_M,q337_M],[],[(50,1,9),(60,0,9),(63,2,9)],([],[]))
def q338_U : rfU := []
set_option maxHeartbeats 8000000 in
def q338_N : List rfB := [(0,([(0,.inr (.inl [61])),(1,.inl ((0,6,1),none))],[],[]),(356,[0]),0),
  (15,([(0,.inr (.inl [61])),(1,.inl ((0,6,1),none)),(2,.inl ((0,2147483647,1),none)),(3,.inl (((-2147483648),2147483647,1),none)),(4,.inl ((0,14,1),none))],[],[((61,4),(0,2147483647,1),none)]),(344,[(-23)]),0),
  (48,([(0,.inr (.inl [61])),(1,.inl ((0,6,1),none)),(2,.inl ((0,2147483647,1),none)),(3,.inl (((-2147483648),2147483647,1),none)),(4,.inl ((0,13,1),none))],[],[((61,4),(0,2147483647,1),none)]),(324,[(-23)]),0)]
set_option maxRecDepth 100000 in
theorem q338_ok : rf_chkB q338_P q338_U wLay q338_M ddX9_countGroups [(2,[0]),(26,[1]),(38,[2])] [.inl 4] [0,15,48] 600 q338_N = true := by decide +kernel
set_option maxHeartbeats 4000000 in
theorem q338_met {G : rfG} (h : okG G) (hh : wHandOK G) : rf_met G q338_M := rf_methodB h.1 (P := q338_P) (U := q338_U) (N := q338_N) ⟨wflT h flokX9, wcsT h csokX9, wlcT h lcokX9, spokX9 h, List.forall_mem_cons.mpr ⟨q326_met h hh, List.forall_mem_cons.mpr ⟨q321_met h hh, List.forall_mem_cons.mpr ⟨q337_met h hh, fun _ h => absurd h List.not_mem_nil⟩⟩⟩, fun _ h => absurd h List.not_mem_nil, List.forall_mem_cons.mpr ⟨fun M hM => Option.some.inj (show some q321_M = some M from hM) ▸ wlkV (lkX9_50 h) q321_M rfl rfl, List.forall_mem_cons.mpr ⟨fun M hM => Option.some.inj (show some q326_M = some M from hM) ▸ wlkV (lkX9_60 h) q326_M rfl rfl, List.forall_mem_cons.mpr ⟨fun M hM => Option.some.inj (show some q337_M = some M from hM) ▸ wlkV (lkX9_63 h) q337_M rfl rfl, fun _ h => absurd h List.not_mem_nil⟩⟩⟩, fun _ h => absurd h List.not_mem_nil, fun _ h => absurd h List.not_mem_nil⟩ dkX9_countGroups (by decide +kernel) (by rw [h.2.2.1]; exact q338_ok)
/-- NearSpell.groups -/
def q339_M : rfM := ((⟨"NearSpell", "groups", "(I)I"⟩, prog_1_method_27_code, 2, (some .int)), (7,162), ([.inr (.inl [70]),.inl (((-2147483648),2147483647,1),none)],[]), [(17,0),(18,0),(19,0),(20,4),(20,5),(59,0),(60,0),(61,5)], [(some (.inl (((-2147483648),2147483647,1),none)),[],[])])
def ddX11_groups : List (Nat × Instr × Nat) := [(0,.iload_n 1,1),(1,.invokestatic 232,3),(4,.ifCond .eq 14,3),(7,.aload_n 0,1),(8,.getfield 83,3),(11,.iload_n 1,1),(12,.invokevirtual 270,3),(15,.goto 4,3),(18,.iconst (-1),1),(19,.ireturn,1)]
set_option maxRecDepth 100000 in
theorem dkX11_groups : rf_decs prog_1_method_27_code ddX11_groups := rf_decs_of (by decide +kernel)
def q339_P : rfP := (flX11,csX11,lcX11,spX11,[q265_M,q338_M],[(232,0)],[(270,1,9)],([],[]))
def q339_U : rfU := []
set_option maxHeartbeats 8000000 in
def q339_N : List rfB := [(0,([(0,.inr (.inl [70])),(1,.inl (((-2147483648),2147483647,1),none))],[],[]),(11,[]),0)]
set_option maxRecDepth 100000 in
theorem q339_ok : rf_chkB q339_P q339_U wLay q339_M ddX11_groups [(1,[0]),(12,[1])] [] [0] 600 q339_N = true := by decide +kernel
set_option maxHeartbeats 4000000 in
theorem q339_met {G : rfG} (h : okG G) (hh : wHandOK G) : rf_met G q339_M := rf_methodB h.1 (P := q339_P) (U := q339_U) (N := q339_N) ⟨wflT h flokX11, wcsT h csokX11, wlcT h lcokX11, spokX11 h, List.forall_mem_cons.mpr ⟨q265_met h hh, List.forall_mem_cons.mpr ⟨q338_met h hh, fun _ h => absurd h List.not_mem_nil⟩⟩, List.forall_mem_cons.mpr ⟨fun M hM => Option.some.inj (show some q265_M = some M from hM) ▸ wlkS (lkX11_232 h) q265_M rfl rfl, fun _ h => absurd h List.not_mem_nil⟩, List.forall_mem_cons.mpr ⟨fun M hM => Option.some.inj (show some q338_M = some M from hM) ▸ wlkV (lkX11_270 h) q338_M rfl rfl, fun _ h => absurd h List.not_mem_nil⟩, fun _ h => absurd h List.not_mem_nil, fun _ h => absurd h List.not_mem_nil⟩ dkX11_groups (by decide +kernel) (by rw [h.2.2.1]; exact q339_ok)
/-- NearSpell.Web.mostOf -/
def q340_M : rfM := ((⟨"NearSpell$Web", "mostOf", "(II)I"⟩, prog_11_method_14_code, 5, (some .int)), (0,0), ([.inr (.inl [61]),.inl (((-2147483648),2147483647,1),none),.inl (((-1),(-1),0),none)],[]), [], [(some (.inl ((0,0,0),none)),[],[])])
def ddX9_mostOf : List (Nat × Instr × Nat) := [(0,.iload_n 2,1),(1,.ifCond .lt 9,3),(4,.iload_n 2,1),(5,.bipush 14,2),(7,.if_icmp .lt 5,3),(10,.iconst 0,1),(11,.ireturn,1),(12,.aload_n 0,1),(13,.iload_n 1,1),(14,.iload_n 2,1),(15,.invokevirtual 50,3),(18,.ifCond .ne 12,3),(21,.aload_n 0,1),(22,.iload_n 1,1),(23,.iload_n 2,1),(24,.iconst 1,1),(25,.isub,1),(26,.invokevirtual 72,3),(29,.ireturn,1),(30,.iload_n 1,1),(31,.iconst 1,1),(32,.iload_n 2,1),(33,.ishl,1),(34,.iconst (-1),1),(35,.ixor,1),(36,.iand,1),(37,.istore_n 3,1),(38,.iconst 1,1),(39,.aload_n 0,1),(40,.iload_n 3,1),(41,.aload_n 0,1),(42,.getfield 23,3),(45,.iload_n 2,1),(46,.iaload,1),(47,.iconst (-1),1),(48,.ixor,1),(49,.iand,1),(50,.iload_n 2,1),(51,.iconst 1,1),(52,.isub,1),(53,.invokevirtual 72,3),(56,.iadd,1),(57,.istore 4,2),(59,.iload_n 3,1),(60,.aload_n 0,1),(61,.getfield 23,3),(64,.iload_n 2,1),(65,.iaload,1),(66,.iand,1),(67,.invokestatic 76,3),(70,.iconst 2,1),(71,.if_icmp .ge 6,3),(74,.iload 4,2),(76,.ireturn,1),(77,.iload 4,2),(79,.aload_n 0,1),(80,.iload_n 3,1),(81,.iload_n 2,1),(82,.iconst 1,1),(83,.isub,1),(84,.invokevirtual 72,3),(87,.invokestatic 81,3),(90,.ireturn,1)]
set_option maxRecDepth 100000 in
theorem dkX9_mostOf : rf_decs prog_11_method_14_code ddX9_mostOf := rf_decs_of (by decide +kernel)
def q340_P : rfP := (flX9,csX9,lcX9,spX9,[],[],[],([],[]))
def q340_U : rfU := []
set_option maxHeartbeats 8000000 in
def q340_N : List rfB := [(0,([(0,.inr (.inl [61])),(1,.inl (((-2147483648),2147483647,1),none)),(2,.inl (((-1),(-1),0),none))],[],[]),(3,[]),0)]
set_option maxRecDepth 100000 in
theorem q340_ok : rf_chkB q340_P q340_U wLay q340_M ddX9_mostOf [] [] [0] 600 q340_N = true := by decide +kernel
set_option maxHeartbeats 4000000 in
theorem q340_met {G : rfG} (h : okG G) (hh : wHandOK G) : rf_met G q340_M := rf_methodB h.1 (P := q340_P) (U := q340_U) (N := q340_N) ⟨wflT h flokX9, wcsT h csokX9, wlcT h lcokX9, spokX9 h, fun _ h => absurd h List.not_mem_nil, fun _ h => absurd h List.not_mem_nil, fun _ h => absurd h List.not_mem_nil, fun _ h => absurd h List.not_mem_nil, fun _ h => absurd h List.not_mem_nil⟩ dkX9_mostOf (by decide +kernel) (by rw [h.2.2.1]; exact q340_ok)
/-- java/lang/Integer.bitCount -/
def q341_M : rfM := ((⟨"java/lang/Integer", "bitCount", "(I)I"⟩, prog_16_method_49_code, 1, (some .int)), (0,0), ([.inl (((-2147483648),2147483647,1),none)],[]), [], [(some (.inl ((0,63,1),none)),[],[])])
def ddJ6_bitCount_0f7a4 : List (Nat × Instr × Nat) := [(0,.iload_n 0,1),(1,.iload_n 0,1),(2,.iconst 1,1),(3,.iushr,1),(4,.ldc_w 265,3),(7,.iand,1),(8,.isub,1),(9,.istore_n 0,1),(10,.iload_n 0,1),(11,.ldc_w 266,3),(14,.iand,1),(15,.iload_n 0,1),(16,.iconst 2,1),(17,.iushr,1),(18,.ldc_w 266,3),(21,.iand,1),(22,.iadd,1),(23,.istore_n 0,1),(24,.iload_n 0,1),(25,.iload_n 0,1),(26,.iconst 4,1),(27,.iushr,1),(28,.iadd,1),(29,.ldc_w 267,3),(32,.iand,1),(33,.istore_n 0,1),(34,.iload_n 0,1),(35,.iload_n 0,1),(36,.bipush 8,2),(38,.iushr,1),(39,.iadd,1),(40,.istore_n 0,1),(41,.iload_n 0,1),(42,.iload_n 0,1),(43,.bipush 16,2),(45,.iushr,1),(46,.iadd,1),(47,.istore_n 0,1),(48,.iload_n 0,1),(49,.bipush 63,2),(51,.iand,1),(52,.ireturn,1)]
set_option maxRecDepth 100000 in
theorem dkJ6_bitCount_0f7a4 : rf_decs prog_16_method_49_code ddJ6_bitCount_0f7a4 := rf_decs_of (by decide +kernel)
def q341_P : rfP := (flJ6,csJ6,lcJ6,spJ6,[],[],[],([],[]))
def q341_U : rfU := []
set_option maxHeartbeats 8000000 in
def q341_N : List rfB := [(0,([(0,.inl (((-2147483648),2147483647,1),none))],[],[]),(41,[]),0)]
set_option maxRecDepth 100000 in
theorem q341_ok : rf_chkB q341_P q341_U wLay q341_M ddJ6_bitCount_0f7a4 [] [] [0] 600 q341_N = true := by decide +kernel
set_option maxHeartbeats 4000000 in
theorem q341_met {G : rfG} (h : okG G) (hh : wHandOK G) : rf_met G q341_M := rf_methodB h.1 (P := q341_P) (U := q341_U) (N := q341_N) ⟨wflT h flokJ6, wcsT h csokJ6, wlcT h lcokJ6, spokJ6 h, fun _ h => absurd h List.not_mem_nil, fun _ h => absurd h List.not_mem_nil, fun _ h => absurd h List.not_mem_nil, fun _ h => absurd h List.not_mem_nil, fun _ h => absurd h List.not_mem_nil⟩ dkJ6_bitCount_0f7a4 (by decide +kernel) (by rw [h.2.2.1]; exact q341_ok)
/-- NearSpell.Web.mostOf -/
def q342_M : rfM := ((⟨"NearSpell$Web", "mostOf", "(II)I"⟩, prog_11_method_14_code, 5, (some .int)), (1,24), ([.inr (.inl [61]),.inl (((-2147483648),2147483647,1),none),.inl ((0,0,0),none)],[]), [], [(some (.inl ((0,1,1),none)),[],[])])
def q342_P : rfP := (flX9,csX9,lcX9,spX9,[q321_M,q340_M,q341_M],[(76,2)],[(50,0,9),(72,1,9)],([],[(81,0)]))
def q342_U : rfU := []
set_option maxHeartbeats 8000000 in
def q342_N : List rfB := [(0,([(0,.inr (.inl [61])),(1,.inl (((-2147483648),2147483647,1),none)),(2,.inl ((0,0,0),none))],[],[]),(61,[]),0)]
set_option maxRecDepth 100000 in
theorem q342_ok : rf_chkB q342_P q342_U wLay q342_M ddX9_mostOf [(15,[0]),(26,[1]),(53,[1]),(67,[2]),(84,[1])] [] [0] 600 q342_N = true := by decide +kernel
set_option maxHeartbeats 4000000 in
theorem q342_met {G : rfG} (h : okG G) (hh : wHandOK G) : rf_met G q342_M := rf_methodB h.1 (P := q342_P) (U := q342_U) (N := q342_N) ⟨wflT h flokX9, wcsT h csokX9, wlcT h lcokX9, spokX9 h, List.forall_mem_cons.mpr ⟨q321_met h hh, List.forall_mem_cons.mpr ⟨q340_met h hh, List.forall_mem_cons.mpr ⟨q341_met h hh, fun _ h => absurd h List.not_mem_nil⟩⟩⟩, List.forall_mem_cons.mpr ⟨fun M hM => Option.some.inj (show some q341_M = some M from hM) ▸ wlkS (lkX9_76 h) q341_M rfl rfl, fun _ h => absurd h List.not_mem_nil⟩, List.forall_mem_cons.mpr ⟨fun M hM => Option.some.inj (show some q321_M = some M from hM) ▸ wlkV (lkX9_50 h) q321_M rfl rfl, List.forall_mem_cons.mpr ⟨fun M hM => Option.some.inj (show some q340_M = some M from hM) ▸ wlkV (lkX9_72 h) q340_M rfl rfl, fun _ h => absurd h List.not_mem_nil⟩⟩, fun _ h => absurd h List.not_mem_nil, List.forall_mem_cons.mpr ⟨⟨wmT h (wmem (i := 130) (by decide +kernel) (by decide +kernel)), fun _ => ⟨wmT h (wmem (i := 1202) (by decide +kernel) (by decide +kernel)), wmT h (wmem (i := 652) (by decide +kernel) (by decide +kernel)), wmT h (wmem (i := 653) (by decide +kernel) (by decide +kernel))⟩, fun h => absurd h (by decide), fun h => absurd h (by decide)⟩, fun _ h => absurd h List.not_mem_nil⟩⟩ dkX9_mostOf (by decide +kernel) (by rw [h.2.2.1]; exact q342_ok)
/-- NearSpell.Web.mostOf -/
def q343_M : rfM := ((⟨"NearSpell$Web", "mostOf", "(II)I"⟩, prog_11_method_14_code, 5, (some .int)), (2,48), ([.inr (.inl [61]),.inl (((-2147483648),2147483647,1),none),.inl ((1,1,0),none)],[]), [], [(some (.inl ((0,2,1),none)),[],[])])
def q343_P : rfP := (flX9,csX9,lcX9,spX9,[q321_M,q342_M,q341_M],[(76,2)],[(50,0,9),(72,1,9)],([],[(81,0)]))
def q343_U : rfU := []
set_option maxHeartbeats 8000000 in
def q343_N : List rfB := [(0,([(0,.inr (.inl [61])),(1,.inl (((-2147483648),2147483647,1),none)),(2,.inl ((1,1,0),none))],[],[]),(61,[]),0)]
set_option maxRecDepth 100000 in
theorem q343_ok : rf_chkB q343_P q343_U wLay q343_M ddX9_mostOf [(15,[0]),(26,[1]),(53,[1]),(67,[2]),(84,[1])] [] [0] 600 q343_N = true := by decide +kernel
set_option maxHeartbeats 4000000 in
theorem q343_met {G : rfG} (h : okG G) (hh : wHandOK G) : rf_met G q343_M := rf_methodB h.1 (P := q343_P) (U := q343_U) (N := q343_N) ⟨wflT h flokX9, wcsT h csokX9, wlcT h lcokX9, spokX9 h, List.forall_mem_cons.mpr ⟨q321_met h hh, List.forall_mem_cons.mpr ⟨q342_met h hh, List.forall_mem_cons.mpr ⟨q341_met h hh, fun _ h => absurd h List.not_mem_nil⟩⟩⟩, List.forall_mem_cons.mpr ⟨fun M hM => Option.some.inj (show some q341_M = some M from hM) ▸ wlkS (lkX9_76 h) q341_M rfl rfl, fun _ h => absurd h List.not_mem_nil⟩, List.forall_mem_cons.mpr ⟨fun M hM => Option.some.inj (show some q321_M = some M from hM) ▸ wlkV (lkX9_50 h) q321_M rfl rfl, List.forall_mem_cons.mpr ⟨fun M hM => Option.some.inj (show some q342_M = some M from hM) ▸ wlkV (lkX9_72 h) q342_M rfl rfl, fun _ h => absurd h List.not_mem_nil⟩⟩, fun _ h => absurd h List.not_mem_nil, List.forall_mem_cons.mpr ⟨⟨wmT h (wmem (i := 130) (by decide +kernel) (by decide +kernel)), fun _ => ⟨wmT h (wmem (i := 1202) (by decide +kernel) (by decide +kernel)), wmT h (wmem (i := 652) (by decide +kernel) (by decide +kernel)), wmT h (wmem (i := 653) (by decide +kernel) (by decide +kernel))⟩, fun h => absurd h (by decide), fun h => absurd h (by decide)⟩, fun _ h => absurd h List.not_mem_nil⟩⟩ dkX9_mostOf (by decide +kernel) (by rw [h.2.2.1]; exact q343_ok)
/-- NearSpell.Web.mostOf -/
def q344_M : rfM := ((⟨"NearSpell$Web", "mostOf", "(II)I"⟩, prog_11_method_14_code, 5, (some .int)), (3,72), ([.inr (.inl [61]),.inl (((-2147483648),2147483647,1),none),.inl ((2,2,0),none)],[]), [], [(some (.inl ((0,3,1),none)),[],[])])
def q344_P : rfP := (flX9,csX9,lcX9,spX9,[q321_M,q343_M,q341_M],[(76,2)],[(50,0,9),(72,1,9)],([],[(81,0)]))
def q344_U : rfU := []
set_option maxHeartbeats 8000000 in
def q344_N : List rfB := [(0,([(0,.inr (.inl [61])),(1,.inl (((-2147483648),2147483647,1),none)),(2,.inl ((2,2,0),none))],[],[]),(61,[]),0)]
set_option maxRecDepth 100000 in
theorem q344_ok : rf_chkB q344_P q344_U wLay q344_M ddX9_mostOf [(15,[0]),(26,[1]),(53,[1]),(67,[2]),(84,[1])] [] [0] 600 q344_N = true := by decide +kernel
set_option maxHeartbeats 4000000 in
theorem q344_met {G : rfG} (h : okG G) (hh : wHandOK G) : rf_met G q344_M := rf_methodB h.1 (P := q344_P) (U := q344_U) (N := q344_N) ⟨wflT h flokX9, wcsT h csokX9, wlcT h lcokX9, spokX9 h, List.forall_mem_cons.mpr ⟨q321_met h hh, List.forall_mem_cons.mpr ⟨q343_met h hh, List.forall_mem_cons.mpr ⟨q341_met h hh, fun _ h => absurd h List.not_mem_nil⟩⟩⟩, List.forall_mem_cons.mpr ⟨fun M hM => Option.some.inj (show some q341_M = some M from hM) ▸ wlkS (lkX9_76 h) q341_M rfl rfl, fun _ h => absurd h List.not_mem_nil⟩, List.forall_mem_cons.mpr ⟨fun M hM => Option.some.inj (show some q321_M = some M from hM) ▸ wlkV (lkX9_50 h) q321_M rfl rfl, List.forall_mem_cons.mpr ⟨fun M hM => Option.some.inj (show some q343_M = some M from hM) ▸ wlkV (lkX9_72 h) q343_M rfl rfl, fun _ h => absurd h List.not_mem_nil⟩⟩, fun _ h => absurd h List.not_mem_nil, List.forall_mem_cons.mpr ⟨⟨wmT h (wmem (i := 130) (by decide +kernel) (by decide +kernel)), fun _ => ⟨wmT h (wmem (i := 1202) (by decide +kernel) (by decide +kernel)), wmT h (wmem (i := 652) (by decide +kernel) (by decide +kernel)), wmT h (wmem (i := 653) (by decide +kernel) (by decide +kernel))⟩, fun h => absurd h (by decide), fun h => absurd h (by decide)⟩, fun _ h => absurd h List.not_mem_nil⟩⟩ dkX9_mostOf (by decide +kernel) (by rw [h.2.2.1]; exact q344_ok)
/-- NearSpell.Web.mostOf -/
def q345_M : rfM := ((⟨"NearSpell$Web", "mostOf", "(II)I"⟩, prog_11_method_14_code, 5, (some .int)), (4,96), ([.inr (.inl [61]),.inl (((-2147483648),2147483647,1),none),.inl ((3,3,0),none)],[]), [], [(some (.inl ((0,4,1),none)),[],[])])
def q345_P : rfP := (flX9,csX9,lcX9,spX9,[q321_M,q344_M,q341_M],[(76,2)],[(50,0,9),(72,1,9)],([],[(81,0)]))
def q345_U : rfU := []
set_option maxHeartbeats 8000000 in
def q345_N : List rfB := [(0,([(0,.inr (.inl [61])),(1,.inl (((-2147483648),2147483647,1),none)),(2,.inl ((3,3,0),none))],[],[]),(61,[]),0)]
set_option maxRecDepth 100000 in
theorem q345_ok : rf_chkB q345_P q345_U wLay q345_M ddX9_mostOf [(15,[0]),(26,[1]),(53,[1]),(67,[2]),(84,[1])] [] [0] 600 q345_N = true := by decide +kernel
set_option maxHeartbeats 4000000 in
theorem q345_met {G : rfG} (h : okG G) (hh : wHandOK G) : rf_met G q345_M := rf_methodB h.1 (P := q345_P) (U := q345_U) (N := q345_N) ⟨wflT h flokX9, wcsT h csokX9, wlcT h lcokX9, spokX9 h, List.forall_mem_cons.mpr ⟨q321_met h hh, List.forall_mem_cons.mpr ⟨q344_met h hh, List.forall_mem_cons.mpr ⟨q341_met h hh, fun _ h => absurd h List.not_mem_nil⟩⟩⟩, List.forall_mem_cons.mpr ⟨fun M hM => Option.some.inj (show some q341_M = some M from hM) ▸ wlkS (lkX9_76 h) q341_M rfl rfl, fun _ h => absurd h List.not_mem_nil⟩, List.forall_mem_cons.mpr ⟨fun M hM => Option.some.inj (show some q321_M = some M from hM) ▸ wlkV (lkX9_50 h) q321_M rfl rfl, List.forall_mem_cons.mpr ⟨fun M hM => Option.some.inj (show some q344_M = some M from hM) ▸ wlkV (lkX9_72 h) q344_M rfl rfl, fun _ h => absurd h List.not_mem_nil⟩⟩, fun _ h => absurd h List.not_mem_nil, List.forall_mem_cons.mpr ⟨⟨wmT h (wmem (i := 130) (by decide +kernel) (by decide +kernel)), fun _ => ⟨wmT h (wmem (i := 1202) (by decide +kernel) (by decide +kernel)), wmT h (wmem (i := 652) (by decide +kernel) (by decide +kernel)), wmT h (wmem (i := 653) (by decide +kernel) (by decide +kernel))⟩, fun h => absurd h (by decide), fun h => absurd h (by decide)⟩, fun _ h => absurd h List.not_mem_nil⟩⟩ dkX9_mostOf (by decide +kernel) (by rw [h.2.2.1]; exact q345_ok)
/-- NearSpell.Web.mostOf -/
def q346_M : rfM := ((⟨"NearSpell$Web", "mostOf", "(II)I"⟩, prog_11_method_14_code, 5, (some .int)), (5,120), ([.inr (.inl [61]),.inl (((-2147483648),2147483647,1),none),.inl ((4,4,0),none)],[]), [], [(some (.inl ((0,5,1),none)),[],[])])
def q346_P : rfP := (flX9,csX9,lcX9,spX9,[q321_M,q345_M,q341_M],[(76,2)],[(50,0,9),(72,1,9)],([],[(81,0)]))
def q346_U : rfU := []
set_option maxHeartbeats 8000000 in
def q346_N : List rfB := [(0,([(0,.inr (.inl [61])),(1,.inl (((-2147483648),2147483647,1),none)),(2,.inl ((4,4,0),none))],[],[]),(61,[]),0)]
set_option maxRecDepth 100000 in
theorem q346_ok : rf_chkB q346_P q346_U wLay q346_M ddX9_mostOf [(15,[0]),(26,[1]),(53,[1]),(67,[2]),(84,[1])] [] [0] 600 q346_N = true := by decide +kernel
set_option maxHeartbeats 4000000 in
theorem q346_met {G : rfG} (h : okG G) (hh : wHandOK G) : rf_met G q346_M := rf_methodB h.1 (P := q346_P) (U := q346_U) (N := q346_N) ⟨wflT h flokX9, wcsT h csokX9, wlcT h lcokX9, spokX9 h, List.forall_mem_cons.mpr ⟨q321_met h hh, List.forall_mem_cons.mpr ⟨q345_met h hh, List.forall_mem_cons.mpr ⟨q341_met h hh, fun _ h => absurd h List.not_mem_nil⟩⟩⟩, List.forall_mem_cons.mpr ⟨fun M hM => Option.some.inj (show some q341_M = some M from hM) ▸ wlkS (lkX9_76 h) q341_M rfl rfl, fun _ h => absurd h List.not_mem_nil⟩, List.forall_mem_cons.mpr ⟨fun M hM => Option.some.inj (show some q321_M = some M from hM) ▸ wlkV (lkX9_50 h) q321_M rfl rfl, List.forall_mem_cons.mpr ⟨fun M hM => Option.some.inj (show some q345_M = some M from hM) ▸ wlkV (lkX9_72 h) q345_M rfl rfl, fun _ h => absurd h List.not_mem_nil⟩⟩, fun _ h => absurd h List.not_mem_nil, List.forall_mem_cons.mpr ⟨⟨wmT h (wmem (i := 130) (by decide +kernel) (by decide +kernel)), fun _ => ⟨wmT h (wmem (i := 1202) (by decide +kernel) (by decide +kernel)), wmT h (wmem (i := 652) (by decide +kernel) (by decide +kernel)), wmT h (wmem (i := 653) (by decide +kernel) (by decide +kernel))⟩, fun h => absurd h (by decide), fun h => absurd h (by decide)⟩, fun _ h => absurd h List.not_mem_nil⟩⟩ dkX9_mostOf (by decide +kernel) (by rw [h.2.2.1]; exact q346_ok)
/-- NearSpell.Web.mostOf -/
def q347_M : rfM := ((⟨"NearSpell$Web", "mostOf", "(II)I"⟩, prog_11_method_14_code, 5, (some .int)), (6,144), ([.inr (.inl [61]),.inl (((-2147483648),2147483647,1),none),.inl ((5,5,0),none)],[]), [], [(some (.inl ((0,6,1),none)),[],[])])
def q347_P : rfP := (flX9,csX9,lcX9,spX9,[q321_M,q346_M,q341_M],[(76,2)],[(50,0,9),(72,1,9)],([],[(81,0)]))
def q347_U : rfU := []
set_option maxHeartbeats 8000000 in
def q347_N : List rfB := [(0,([(0,.inr (.inl [61])),(1,.inl (((-2147483648),2147483647,1),none)),(2,.inl ((5,5,0),none))],[],[]),(61,[]),0)]
set_option maxRecDepth 100000 in
theorem q347_ok : rf_chkB q347_P q347_U wLay q347_M ddX9_mostOf [(15,[0]),(26,[1]),(53,[1]),(67,[2]),(84,[1])] [] [0] 600 q347_N = true := by decide +kernel
set_option maxHeartbeats 4000000 in
theorem q347_met {G : rfG} (h : okG G) (hh : wHandOK G) : rf_met G q347_M := rf_methodB h.1 (P := q347_P) (U := q347_U) (N := q347_N) ⟨wflT h flokX9, wcsT h csokX9, wlcT h lcokX9, spokX9 h, List.forall_mem_cons.mpr ⟨q321_met h hh, List.forall_mem_cons.mpr ⟨q346_met h hh, List.forall_mem_cons.mpr ⟨q341_met h hh, fun _ h => absurd h List.not_mem_nil⟩⟩⟩, List.forall_mem_cons.mpr ⟨fun M hM => Option.some.inj (show some q341_M = some M from hM) ▸ wlkS (lkX9_76 h) q341_M rfl rfl, fun _ h => absurd h List.not_mem_nil⟩, List.forall_mem_cons.mpr ⟨fun M hM => Option.some.inj (show some q321_M = some M from hM) ▸ wlkV (lkX9_50 h) q321_M rfl rfl, List.forall_mem_cons.mpr ⟨fun M hM => Option.some.inj (show some q346_M = some M from hM) ▸ wlkV (lkX9_72 h) q346_M rfl rfl, fun _ h => absurd h List.not_mem_nil⟩⟩, fun _ h => absurd h List.not_mem_nil, List.forall_mem_cons.mpr ⟨⟨wmT h (wmem (i := 130) (by decide +kernel) (by decide +kernel)), fun _ => ⟨wmT h (wmem (i := 1202) (by decide +kernel) (by decide +kernel)), wmT h (wmem (i := 652) (by decide +kernel) (by decide +kernel)), wmT h (wmem (i := 653) (by decide +kernel) (by decide +kernel))⟩, fun h => absurd h (by decide), fun h => absurd h (by decide)⟩, fun _ h => absurd h List.not_mem_nil⟩⟩ dkX9_mostOf (by decide +kernel) (by rw [h.2.2.1]; exact q347_ok)
/-- NearSpell.Web.mostOf -/
def q348_M : rfM := ((⟨"NearSpell$Web", "mostOf", "(II)I"⟩, prog_11_method_14_code, 5, (some .int)), (7,168), ([.inr (.inl [61]),.inl (((-2147483648),2147483647,1),none),.inl ((6,6,0),none)],[]), [], [(some (.inl ((0,7,1),none)),[],[])])
def q348_P : rfP := (flX9,csX9,lcX9,spX9,[q321_M,q347_M,q341_M],[(76,2)],[(50,0,9),(72,1,9)],([],[(81,0)]))
def q348_U : rfU := []
set_option maxHeartbeats 8000000 in
def q348_N : List rfB := [(0,([(0,.inr (.inl [61])),(1,.inl (((-2147483648),2147483647,1),none)),(2,.inl ((6,6,0),none))],[],[]),(61,[]),0)]
set_option maxRecDepth 100000 in
theorem q348_ok : rf_chkB q348_P q348_U wLay q348_M ddX9_mostOf [(15,[0]),(26,[1]),(53,[1]),(67,[2]),(84,[1])] [] [0] 600 q348_N = true := by decide +kernel
set_option maxHeartbeats 4000000 in
theorem q348_met {G : rfG} (h : okG G) (hh : wHandOK G) : rf_met G q348_M := rf_methodB h.1 (P := q348_P) (U := q348_U) (N := q348_N) ⟨wflT h flokX9, wcsT h csokX9, wlcT h lcokX9, spokX9 h, List.forall_mem_cons.mpr ⟨q321_met h hh, List.forall_mem_cons.mpr ⟨q347_met h hh, List.forall_mem_cons.mpr ⟨q341_met h hh, fun _ h => absurd h List.not_mem_nil⟩⟩⟩, List.forall_mem_cons.mpr ⟨fun M hM => Option.some.inj (show some q341_M = some M from hM) ▸ wlkS (lkX9_76 h) q341_M rfl rfl, fun _ h => absurd h List.not_mem_nil⟩, List.forall_mem_cons.mpr ⟨fun M hM => Option.some.inj (show some q321_M = some M from hM) ▸ wlkV (lkX9_50 h) q321_M rfl rfl, List.forall_mem_cons.mpr ⟨fun M hM => Option.some.inj (show some q347_M = some M from hM) ▸ wlkV (lkX9_72 h) q347_M rfl rfl, fun _ h => absurd h List.not_mem_nil⟩⟩, fun _ h => absurd h List.not_mem_nil, List.forall_mem_cons.mpr ⟨⟨wmT h (wmem (i := 130) (by decide +kernel) (by decide +kernel)), fun _ => ⟨wmT h (wmem (i := 1202) (by decide +kernel) (by decide +kernel)), wmT h (wmem (i := 652) (by decide +kernel) (by decide +kernel)), wmT h (wmem (i := 653) (by decide +kernel) (by decide +kernel))⟩, fun h => absurd h (by decide), fun h => absurd h (by decide)⟩, fun _ h => absurd h List.not_mem_nil⟩⟩ dkX9_mostOf (by decide +kernel) (by rw [h.2.2.1]; exact q348_ok)
/-- NearSpell.Web.mostOf -/
def q349_M : rfM := ((⟨"NearSpell$Web", "mostOf", "(II)I"⟩, prog_11_method_14_code, 5, (some .int)), (8,192), ([.inr (.inl [61]),.inl (((-2147483648),2147483647,1),none),.inl ((7,7,0),none)],[]), [], [(some (.inl ((0,8,1),none)),[],[])])
def q349_P : rfP := (flX9,csX9,lcX9,spX9,[q321_M,q348_M,q341_M],[(76,2)],[(50,0,9),(72,1,9)],([],[(81,0)]))
def q349_U : rfU := []
set_option maxHeartbeats 8000000 in
def q349_N : List rfB := [(0,([(0,.inr (.inl [61])),(1,.inl (((-2147483648),2147483647,1),none)),(2,.inl ((7,7,0),none))],[],[]),(61,[]),0)]
set_option maxRecDepth 100000 in
theorem q349_ok : rf_chkB q349_P q349_U wLay q349_M ddX9_mostOf [(15,[0]),(26,[1]),(53,[1]),(67,[2]),(84,[1])] [] [0] 600 q349_N = true := by decide +kernel
set_option maxHeartbeats 4000000 in
theorem q349_met {G : rfG} (h : okG G) (hh : wHandOK G) : rf_met G q349_M := rf_methodB h.1 (P := q349_P) (U := q349_U) (N := q349_N) ⟨wflT h flokX9, wcsT h csokX9, wlcT h lcokX9, spokX9 h, List.forall_mem_cons.mpr ⟨q321_met h hh, List.forall_mem_cons.mpr ⟨q348_met h hh, List.forall_mem_cons.mpr ⟨q341_met h hh, fun _ h => absurd h List.not_mem_nil⟩⟩⟩, List.forall_mem_cons.mpr ⟨fun M hM => Option.some.inj (show some q341_M = some M from hM) ▸ wlkS (lkX9_76 h) q341_M rfl rfl, fun _ h => absurd h List.not_mem_nil⟩, List.forall_mem_cons.mpr ⟨fun M hM => Option.some.inj (show some q321_M = some M from hM) ▸ wlkV (lkX9_50 h) q321_M rfl rfl, List.forall_mem_cons.mpr ⟨fun M hM => Option.some.inj (show some q348_M = some M from hM) ▸ wlkV (lkX9_72 h) q348_M rfl rfl, fun _ h => absurd h List.not_mem_nil⟩⟩, fun _ h => absurd h List.not_mem_nil, List.forall_mem_cons.mpr ⟨⟨wmT h (wmem (i := 130) (by decide +kernel) (by decide +kernel)), fun _ => ⟨wmT h (wmem (i := 1202) (by decide +kernel) (by decide +kernel)), wmT h (wmem (i := 652) (by decide +kernel) (by decide +kernel)), wmT h (wmem (i := 653) (by decide +kernel) (by decide +kernel))⟩, fun h => absurd h (by decide), fun h => absurd h (by decide)⟩, fun _ h => absurd h List.not_mem_nil⟩⟩ dkX9_mostOf (by decide +kernel) (by rw [h.2.2.1]; exact q349_ok)
/-- NearSpell.Web.mostOf -/
def q350_M : rfM := ((⟨"NearSpell$Web", "mostOf", "(II)I"⟩, prog_11_method_14_code, 5, (some .int)), (9,216), ([.inr (.inl [61]),.inl (((-2147483648),2147483647,1),none),.inl ((8,8,0),none)],[]), [], [(some (.inl ((0,9,1),none)),[],[])])
def q350_P : rfP := (flX9,csX9,lcX9,spX9,[q321_M,q349_M,q341_M],[(76,2)],[(50,0,9),(72,1,9)],([],[(81,0)]))
def q350_U : rfU := []
set_option maxHeartbeats 8000000 in
def q350_N : List rfB := [(0,([(0,.inr (.inl [61])),(1,.inl (((-2147483648),2147483647,1),none)),(2,.inl ((8,8,0),none))],[],[]),(61,[]),0)]
set_option maxRecDepth 100000 in
theorem q350_ok : rf_chkB q350_P q350_U wLay q350_M ddX9_mostOf [(15,[0]),(26,[1]),(53,[1]),(67,[2]),(84,[1])] [] [0] 600 q350_N = true := by decide +kernel
set_option maxHeartbeats 4000000 in
theorem q350_met {G : rfG} (h : okG G) (hh : wHandOK G) : rf_met G q350_M := rf_methodB h.1 (P := q350_P) (U := q350_U) (N := q350_N) ⟨wflT h flokX9, wcsT h csokX9, wlcT h lcokX9, spokX9 h, List.forall_mem_cons.mpr ⟨q321_met h hh, List.forall_mem_cons.mpr ⟨q349_met h hh, List.forall_mem_cons.mpr ⟨q341_met h hh, fun _ h => absurd h List.not_mem_nil⟩⟩⟩, List.forall_mem_cons.mpr ⟨fun M hM => Option.some.inj (show some q341_M = some M from hM) ▸ wlkS (lkX9_76 h) q341_M rfl rfl, fun _ h => absurd h List.not_mem_nil⟩, List.forall_mem_cons.mpr ⟨fun M hM => Option.some.inj (show some q321_M = some M from hM) ▸ wlkV (lkX9_50 h) q321_M rfl rfl, List.forall_mem_cons.mpr ⟨fun M hM => Option.some.inj (show some q349_M = some M from hM) ▸ wlkV (lkX9_72 h) q349_M rfl rfl, fun _ h => absurd h List.not_mem_nil⟩⟩, fun _ h => absurd h List.not_mem_nil, List.forall_mem_cons.mpr ⟨⟨wmT h (wmem (i := 130) (by decide +kernel) (by decide +kernel)), fun _ => ⟨wmT h (wmem (i := 1202) (by decide +kernel) (by decide +kernel)), wmT h (wmem (i := 652) (by decide +kernel) (by decide +kernel)), wmT h (wmem (i := 653) (by decide +kernel) (by decide +kernel))⟩, fun h => absurd h (by decide), fun h => absurd h (by decide)⟩, fun _ h => absurd h List.not_mem_nil⟩⟩ dkX9_mostOf (by decide +kernel) (by rw [h.2.2.1]; exact q350_ok)
/-- NearSpell.Web.mostOf -/
def q351_M : rfM := ((⟨"NearSpell$Web", "mostOf", "(II)I"⟩, prog_11_method_14_code, 5, (some .int)), (10,240), ([.inr (.inl [61]),.inl (((-2147483648),2147483647,1),none),.inl ((9,9,0),none)],[]), [], [(some (.inl ((0,10,1),none)),[],[])])
def q351_P : rfP := (flX9,csX9,lcX9,spX9,[q321_M,q350_M,q341_M],[(76,2)],[(50,0,9),(72,1,9)],([],[(81,0)]))
def q351_U : rfU := []
set_option maxHeartbeats 8000000 in
def q351_N : List rfB := [(0,([(0,.inr (.inl [61])),(1,.inl (((-2147483648),2147483647,1),none)),(2,.inl ((9,9,0),none))],[],[]),(61,[]),0)]
set_option maxRecDepth 100000 in
theorem q351_ok : rf_chkB q351_P q351_U wLay q351_M ddX9_mostOf [(15,[0]),(26,[1]),(53,[1]),(67,[2]),(84,[1])] [] [0] 600 q351_N = true := by decide +kernel
set_option maxHeartbeats 4000000 in
theorem q351_met {G : rfG} (h : okG G) (hh : wHandOK G) : rf_met G q351_M := rf_methodB h.1 (P := q351_P) (U := q351_U) (N := q351_N) ⟨wflT h flokX9, wcsT h csokX9, wlcT h lcokX9, spokX9 h, List.forall_mem_cons.mpr ⟨q321_met h hh, List.forall_mem_cons.mpr ⟨q350_met h hh, List.forall_mem_cons.mpr ⟨q341_met h hh, fun _ h => absurd h List.not_mem_nil⟩⟩⟩, List.forall_mem_cons.mpr ⟨fun M hM => Option.some.inj (show some q341_M = some M from hM) ▸ wlkS (lkX9_76 h) q341_M rfl rfl, fun _ h => absurd h List.not_mem_nil⟩, List.forall_mem_cons.mpr ⟨fun M hM => Option.some.inj (show some q321_M = some M from hM) ▸ wlkV (lkX9_50 h) q321_M rfl rfl, List.forall_mem_cons.mpr ⟨fun M hM => Option.some.inj (show some q350_M = some M from hM) ▸ wlkV (lkX9_72 h) q350_M rfl rfl, fun _ h => absurd h List.not_mem_nil⟩⟩, fun _ h => absurd h List.not_mem_nil, List.forall_mem_cons.mpr ⟨⟨wmT h (wmem (i := 130) (by decide +kernel) (by decide +kernel)), fun _ => ⟨wmT h (wmem (i := 1202) (by decide +kernel) (by decide +kernel)), wmT h (wmem (i := 652) (by decide +kernel) (by decide +kernel)), wmT h (wmem (i := 653) (by decide +kernel) (by decide +kernel))⟩, fun h => absurd h (by decide), fun h => absurd h (by decide)⟩, fun _ h => absurd h List.not_mem_nil⟩⟩ dkX9_mostOf (by decide +kernel) (by rw [h.2.2.1]; exact q351_ok)
/-- NearSpell.Web.mostOf -/
def q352_M : rfM := ((⟨"NearSpell$Web", "mostOf", "(II)I"⟩, prog_11_method_14_code, 5, (some .int)), (11,264), ([.inr (.inl [61]),.inl (((-2147483648),2147483647,1),none),.inl ((10,10,0),none)],[]), [], [(some (.inl ((0,11,1),none)),[],[])])
def q352_P : rfP := (flX9,csX9,lcX9,spX9,[q321_M,q351_M,q341_M],[(76,2)],[(50,0,9),(72,1,9)],([],[(81,0)]))
def q352_U : rfU := []
set_option maxHeartbeats 8000000 in
def q352_N : List rfB := [(0,([(0,.inr (.inl [61])),(1,.inl (((-2147483648),2147483647,1),none)),(2,.inl ((10,10,0),none))],[],[]),(61,[]),0)]
set_option maxRecDepth 100000 in
theorem q352_ok : rf_chkB q352_P q352_U wLay q352_M ddX9_mostOf [(15,[0]),(26,[1]),(53,[1]),(67,[2]),(84,[1])] [] [0] 600 q352_N = true := by decide +kernel
set_option maxHeartbeats 4000000 in
theorem q352_met {G : rfG} (h : okG G) (hh : wHandOK G) : rf_met G q352_M := rf_methodB h.1 (P := q352_P) (U := q352_U) (N := q352_N) ⟨wflT h flokX9, wcsT h csokX9, wlcT h lcokX9, spokX9 h, List.forall_mem_cons.mpr ⟨q321_met h hh, List.forall_mem_cons.mpr ⟨q351_met h hh, List.forall_mem_cons.mpr ⟨q341_met h hh, fun _ h => absurd h List.not_mem_nil⟩⟩⟩, List.forall_mem_cons.mpr ⟨fun M hM => Option.some.inj (show some q341_M = some M from hM) ▸ wlkS (lkX9_76 h) q341_M rfl rfl, fun _ h => absurd h List.not_mem_nil⟩, List.forall_mem_cons.mpr ⟨fun M hM => Option.some.inj (show some q321_M = some M from hM) ▸ wlkV (lkX9_50 h) q321_M rfl rfl, List.forall_mem_cons.mpr ⟨fun M hM => Option.some.inj (show some q351_M = some M from hM) ▸ wlkV (lkX9_72 h) q351_M rfl rfl, fun _ h => absurd h List.not_mem_nil⟩⟩, fun _ h => absurd h List.not_mem_nil, List.forall_mem_cons.mpr ⟨⟨wmT h (wmem (i := 130) (by decide +kernel) (by decide +kernel)), fun _ => ⟨wmT h (wmem (i := 1202) (by decide +kernel) (by decide +kernel)), wmT h (wmem (i := 652) (by decide +kernel) (by decide +kernel)), wmT h (wmem (i := 653) (by decide +kernel) (by decide +kernel))⟩, fun h => absurd h (by decide), fun h => absurd h (by decide)⟩, fun _ h => absurd h List.not_mem_nil⟩⟩ dkX9_mostOf (by decide +kernel) (by rw [h.2.2.1]; exact q352_ok)
/-- NearSpell.Web.mostOf -/
def q353_M : rfM := ((⟨"NearSpell$Web", "mostOf", "(II)I"⟩, prog_11_method_14_code, 5, (some .int)), (12,288), ([.inr (.inl [61]),.inl (((-2147483648),2147483647,1),none),.inl ((11,11,0),none)],[]), [], [(some (.inl ((0,12,1),none)),[],[])])
def q353_P : rfP := (flX9,csX9,lcX9,spX9,[q321_M,q352_M,q341_M],[(76,2)],[(50,0,9),(72,1,9)],([],[(81,0)]))
def q353_U : rfU := []
set_option maxHeartbeats 8000000 in
def q353_N : List rfB := [(0,([(0,.inr (.inl [61])),(1,.inl (((-2147483648),2147483647,1),none)),(2,.inl ((11,11,0),none))],[],[]),(61,[]),0)]
set_option maxRecDepth 100000 in
theorem q353_ok : rf_chkB q353_P q353_U wLay q353_M ddX9_mostOf [(15,[0]),(26,[1]),(53,[1]),(67,[2]),(84,[1])] [] [0] 600 q353_N = true := by decide +kernel
set_option maxHeartbeats 4000000 in
theorem q353_met {G : rfG} (h : okG G) (hh : wHandOK G) : rf_met G q353_M := rf_methodB h.1 (P := q353_P) (U := q353_U) (N := q353_N) ⟨wflT h flokX9, wcsT h csokX9, wlcT h lcokX9, spokX9 h, List.forall_mem_cons.mpr ⟨q321_met h hh, List.forall_mem_cons.mpr ⟨q352_met h hh, List.forall_mem_cons.mpr ⟨q341_met h hh, fun _ h => absurd h List.not_mem_nil⟩⟩⟩, List.forall_mem_cons.mpr ⟨fun M hM => Option.some.inj (show some q341_M = some M from hM) ▸ wlkS (lkX9_76 h) q341_M rfl rfl, fun _ h => absurd h List.not_mem_nil⟩, List.forall_mem_cons.mpr ⟨fun M hM => Option.some.inj (show some q321_M = some M from hM) ▸ wlkV (lkX9_50 h) q321_M rfl rfl, List.forall_mem_cons.mpr ⟨fun M hM => Option.some.inj (show some q352_M = some M from hM) ▸ wlkV (lkX9_72 h) q352_M rfl rfl, fun _ h => absurd h List.not_mem_nil⟩⟩, fun _ h => absurd h List.not_mem_nil, List.forall_mem_cons.mpr ⟨⟨wmT h (wmem (i := 130) (by decide +kernel) (by decide +kernel)), fun _ => ⟨wmT h (wmem (i := 1202) (by decide +kernel) (by decide +kernel)), wmT h (wmem (i := 652) (by decide +kernel) (by decide +kernel)), wmT h (wmem (i := 653) (by decide +kernel) (by decide +kernel))⟩, fun h => absurd h (by decide), fun h => absurd h (by decide)⟩, fun _ h => absurd h List.not_mem_nil⟩⟩ dkX9_mostOf (by decide +kernel) (by rw [h.2.2.1]; exact q353_ok)
/-- NearSpell.Web.mostOf -/
def q354_M : rfM := ((⟨"NearSpell$Web", "mostOf", "(II)I"⟩, prog_11_method_14_code, 5, (some .int)), (13,312), ([.inr (.inl [61]),.inl (((-2147483648),2147483647,1),none),.inl ((12,12,0),none)],[]), [], [(some (.inl ((0,13,1),none)),[],[])])
def q354_P : rfP := (flX9,csX9,lcX9,spX9,[q321_M,q353_M,q341_M],[(76,2)],[(50,0,9),(72,1,9)],([],[(81,0)]))
def q354_U : rfU := []
set_option maxHeartbeats 8000000 in
def q354_N : List rfB := [(0,([(0,.inr (.inl [61])),(1,.inl (((-2147483648),2147483647,1),none)),(2,.inl ((12,12,0),none))],[],[]),(61,[]),0)]
set_option maxRecDepth 100000 in
theorem q354_ok : rf_chkB q354_P q354_U wLay q354_M ddX9_mostOf [(15,[0]),(26,[1]),(53,[1]),(67,[2]),(84,[1])] [] [0] 600 q354_N = true := by decide +kernel
set_option maxHeartbeats 4000000 in
theorem q354_met {G : rfG} (h : okG G) (hh : wHandOK G) : rf_met G q354_M := rf_methodB h.1 (P := q354_P) (U := q354_U) (N := q354_N) ⟨wflT h flokX9, wcsT h csokX9, wlcT h lcokX9, spokX9 h, List.forall_mem_cons.mpr ⟨q321_met h hh, List.forall_mem_cons.mpr ⟨q353_met h hh, List.forall_mem_cons.mpr ⟨q341_met h hh, fun _ h => absurd h List.not_mem_nil⟩⟩⟩, List.forall_mem_cons.mpr ⟨fun M hM => Option.some.inj (show some q341_M = some M from hM) ▸ wlkS (lkX9_76 h) q341_M rfl rfl, fun _ h => absurd h List.not_mem_nil⟩, List.forall_mem_cons.mpr ⟨fun M hM => Option.some.inj (show some q321_M = some M from hM) ▸ wlkV (lkX9_50 h) q321_M rfl rfl, List.forall_mem_cons.mpr ⟨fun M hM => Option.some.inj (show some q353_M = some M from hM) ▸ wlkV (lkX9_72 h) q353_M rfl rfl, fun _ h => absurd h List.not_mem_nil⟩⟩, fun _ h => absurd h List.not_mem_nil, List.forall_mem_cons.mpr ⟨⟨wmT h (wmem (i := 130) (by decide +kernel) (by decide +kernel)), fun _ => ⟨wmT h (wmem (i := 1202) (by decide +kernel) (by decide +kernel)), wmT h (wmem (i := 652) (by decide +kernel) (by decide +kernel)), wmT h (wmem (i := 653) (by decide +kernel) (by decide +kernel))⟩, fun h => absurd h (by decide), fun h => absurd h (by decide)⟩, fun _ h => absurd h List.not_mem_nil⟩⟩ dkX9_mostOf (by decide +kernel) (by rw [h.2.2.1]; exact q354_ok)
/-- NearSpell.Web.mostOf -/
def q355_M : rfM := ((⟨"NearSpell$Web", "mostOf", "(II)I"⟩, prog_11_method_14_code, 5, (some .int)), (14,336), ([.inr (.inl [61]),.inl (((-2147483648),2147483647,1),none),.inl ((13,13,0),none)],[]), [], [(some (.inl ((0,14,1),none)),[],[])])
def q355_P : rfP := (flX9,csX9,lcX9,spX9,[q321_M,q354_M,q341_M],[(76,2)],[(50,0,9),(72,1,9)],([],[(81,0)]))
def q355_U : rfU := []
set_option maxHeartbeats 8000000 in
def q355_N : List rfB := [(0,([(0,.inr (.inl [61])),(1,.inl (((-2147483648),2147483647,1),none)),(2,.inl ((13,13,0),none))],[],[]),(61,[]),0)]
set_option maxRecDepth 100000 in
theorem q355_ok : rf_chkB q355_P q355_U wLay q355_M ddX9_mostOf [(15,[0]),(26,[1]),(53,[1]),(67,[2]),(84,[1])] [] [0] 600 q355_N = true := by decide +kernel
set_option maxHeartbeats 4000000 in
theorem q355_met {G : rfG} (h : okG G) (hh : wHandOK G) : rf_met G q355_M := rf_methodB h.1 (P := q355_P) (U := q355_U) (N := q355_N) ⟨wflT h flokX9, wcsT h csokX9, wlcT h lcokX9, spokX9 h, List.forall_mem_cons.mpr ⟨q321_met h hh, List.forall_mem_cons.mpr ⟨q354_met h hh, List.forall_mem_cons.mpr ⟨q341_met h hh, fun _ h => absurd h List.not_mem_nil⟩⟩⟩, List.forall_mem_cons.mpr ⟨fun M hM => Option.some.inj (show some q341_M = some M from hM) ▸ wlkS (lkX9_76 h) q341_M rfl rfl, fun _ h => absurd h List.not_mem_nil⟩, List.forall_mem_cons.mpr ⟨fun M hM => Option.some.inj (show some q321_M = some M from hM) ▸ wlkV (lkX9_50 h) q321_M rfl rfl, List.forall_mem_cons.mpr ⟨fun M hM => Option.some.inj (show some q354_M = some M from hM) ▸ wlkV (lkX9_72 h) q354_M rfl rfl, fun _ h => absurd h List.not_mem_nil⟩⟩, fun _ h => absurd h List.not_mem_nil, List.forall_mem_cons.mpr ⟨⟨wmT h (wmem (i := 130) (by decide +kernel) (by decide +kernel)), fun _ => ⟨wmT h (wmem (i := 1202) (by decide +kernel) (by decide +kernel)), wmT h (wmem (i := 652) (by decide +kernel) (by decide +kernel)), wmT h (wmem (i := 653) (by decide +kernel) (by decide +kernel))⟩, fun h => absurd h (by decide), fun h => absurd h (by decide)⟩, fun _ h => absurd h List.not_mem_nil⟩⟩ dkX9_mostOf (by decide +kernel) (by rw [h.2.2.1]; exact q355_ok)
/-- NearSpell.Web.mostOf -/
def q356_M : rfM := ((⟨"NearSpell$Web", "mostOf", "(II)I"⟩, prog_11_method_14_code, 5, (some .int)), (1,24), ([.inr (.inl [61]),.inl (((-2147483648),2147483647,1),none),.inl (((-1),0,1),none)],[]), [], [(some (.inl ((0,1,1),none)),[],[])])
def q356_P : rfP := (flX9,csX9,lcX9,spX9,[q321_M,q340_M,q341_M],[(76,2)],[(50,0,9),(72,1,9)],([],[(81,0)]))
def q356_U : rfU := []
set_option maxHeartbeats 8000000 in
def q356_N : List rfB := [(0,([(0,.inr (.inl [61])),(1,.inl (((-2147483648),2147483647,1),none)),(2,.inl (((-1),0,1),none))],[],[]),(63,[]),0)]
set_option maxRecDepth 100000 in
theorem q356_ok : rf_chkB q356_P q356_U wLay q356_M ddX9_mostOf [(15,[0]),(26,[1]),(53,[1]),(67,[2]),(84,[1])] [] [0] 600 q356_N = true := by decide +kernel
set_option maxHeartbeats 4000000 in
theorem q356_met {G : rfG} (h : okG G) (hh : wHandOK G) : rf_met G q356_M := rf_methodB h.1 (P := q356_P) (U := q356_U) (N := q356_N) ⟨wflT h flokX9, wcsT h csokX9, wlcT h lcokX9, spokX9 h, List.forall_mem_cons.mpr ⟨q321_met h hh, List.forall_mem_cons.mpr ⟨q340_met h hh, List.forall_mem_cons.mpr ⟨q341_met h hh, fun _ h => absurd h List.not_mem_nil⟩⟩⟩, List.forall_mem_cons.mpr ⟨fun M hM => Option.some.inj (show some q341_M = some M from hM) ▸ wlkS (lkX9_76 h) q341_M rfl rfl, fun _ h => absurd h List.not_mem_nil⟩, List.forall_mem_cons.mpr ⟨fun M hM => Option.some.inj (show some q321_M = some M from hM) ▸ wlkV (lkX9_50 h) q321_M rfl rfl, List.forall_mem_cons.mpr ⟨fun M hM => Option.some.inj (show some q340_M = some M from hM) ▸ wlkV (lkX9_72 h) q340_M rfl rfl, fun _ h => absurd h List.not_mem_nil⟩⟩, fun _ h => absurd h List.not_mem_nil, List.forall_mem_cons.mpr ⟨⟨wmT h (wmem (i := 130) (by decide +kernel) (by decide +kernel)), fun _ => ⟨wmT h (wmem (i := 1202) (by decide +kernel) (by decide +kernel)), wmT h (wmem (i := 652) (by decide +kernel) (by decide +kernel)), wmT h (wmem (i := 653) (by decide +kernel) (by decide +kernel))⟩, fun h => absurd h (by decide), fun h => absurd h (by decide)⟩, fun _ h => absurd h List.not_mem_nil⟩⟩ dkX9_mostOf (by decide +kernel) (by rw [h.2.2.1]; exact q356_ok)
/-- NearSpell.Web.mostOf -/
def q357_M : rfM := ((⟨"NearSpell$Web", "mostOf", "(II)I"⟩, prog_11_method_14_code, 5, (some .int)), (2,48), ([.inr (.inl [61]),.inl (((-2147483648),2147483647,1),none),.inl ((0,1,1),none)],[]), [], [(some (.inl ((0,2,1),none)),[],[])])
def q357_P : rfP := (flX9,csX9,lcX9,spX9,[q321_M,q356_M,q341_M],[(76,2)],[(50,0,9),(72,1,9)],([],[(81,0)]))
def q357_U : rfU := []
set_option maxHeartbeats 8000000 in
def q357_N : List rfB := [(0,([(0,.inr (.inl [61])),(1,.inl (((-2147483648),2147483647,1),none)),(2,.inl ((0,1,1),none))],[],[]),(61,[]),0)]
set_option maxRecDepth 100000 in
theorem q357_ok : rf_chkB q357_P q357_U wLay q357_M ddX9_mostOf [(15,[0]),(26,[1]),(53,[1]),(67,[2]),(84,[1])] [] [0] 600 q357_N = true := by decide +kernel
set_option maxHeartbeats 4000000 in
theorem q357_met {G : rfG} (h : okG G) (hh : wHandOK G) : rf_met G q357_M := rf_methodB h.1 (P := q357_P) (U := q357_U) (N := q357_N) ⟨wflT h flokX9, wcsT h csokX9, wlcT h lcokX9, spokX9 h, List.forall_mem_cons.mpr ⟨q321_met h hh, List.forall_mem_cons.mpr ⟨q356_met h hh, List.forall_mem_cons.mpr ⟨q341_met h hh, fun _ h => absurd h List.not_mem_nil⟩⟩⟩, List.forall_mem_cons.mpr ⟨fun M hM => Option.some.inj (show some q341_M = some M from hM) ▸ wlkS (lkX9_76 h) q341_M rfl rfl, fun _ h => absurd h List.not_mem_nil⟩, List.forall_mem_cons.mpr ⟨fun M hM => Option.some.inj (show some q321_M = some M from hM) ▸ wlkV (lkX9_50 h) q321_M rfl rfl, List.forall_mem_cons.mpr ⟨fun M hM => Option.some.inj (show some q356_M = some M from hM) ▸ wlkV (lkX9_72 h) q356_M rfl rfl, fun _ h => absurd h List.not_mem_nil⟩⟩, fun _ h => absurd h List.not_mem_nil, List.forall_mem_cons.mpr ⟨⟨wmT h (wmem (i := 130) (by decide +kernel) (by decide +kernel)), fun _ => ⟨wmT h (wmem (i := 1202) (by decide +kernel) (by decide +kernel)), wmT h (wmem (i := 652) (by decide +kernel) (by decide +kernel)), wmT h (wmem (i := 653) (by decide +kernel) (by decide +kernel))⟩, fun h => absurd h (by decide), fun h => absurd h (by decide)⟩, fun _ h => absurd h List.not_mem_nil⟩⟩ dkX9_mostOf (by decide +kernel) (by rw [h.2.2.1]; exact q357_ok)
/-- NearSpell.Web.mostOf -/
def q358_M : rfM := ((⟨"NearSpell$Web", "mostOf", "(II)I"⟩, prog_11_method_14_code, 5, (some .int)), (3,72), ([.inr (.inl [61]),.inl (((-2147483648),2147483647,1),none),.inl ((1,2,1),none)],[]), [], [(some (.inl ((0,3,1),none)),[],[])])
def q358_P : rfP := (flX9,csX9,lcX9,spX9,[q321_M,q357_M,q341_M],[(76,2)],[(50,0,9),(72,1,9)],([],[(81,0)]))
def q358_U : rfU := []
set_option maxHeartbeats 8000000 in
def q358_N : List rfB := [(0,([(0,.inr (.inl [61])),(1,.inl (((-2147483648),2147483647,1),none)),(2,.inl ((1,2,1),none))],[],[]),(61,[]),0)]
set_option maxRecDepth 100000 in
theorem q358_ok : rf_chkB q358_P q358_U wLay q358_M ddX9_mostOf [(15,[0]),(26,[1]),(53,[1]),(67,[2]),(84,[1])] [] [0] 600 q358_N = true := by decide +kernel
set_option maxHeartbeats 4000000 in
theorem q358_met {G : rfG} (h : okG G) (hh : wHandOK G) : rf_met G q358_M := rf_methodB h.1 (P := q358_P) (U := q358_U) (N := q358_N) ⟨wflT h flokX9, wcsT h csokX9, wlcT h lcokX9, spokX9 h, List.forall_mem_cons.mpr ⟨q321_met h hh, List.forall_mem_cons.mpr ⟨q357_met h hh, List.forall_mem_cons.mpr ⟨q341_met h hh, fun _ h => absurd h List.not_mem_nil⟩⟩⟩, List.forall_mem_cons.mpr ⟨fun M hM => Option.some.inj (show some q341_M = some M from hM) ▸ wlkS (lkX9_76 h) q341_M rfl rfl, fun _ h => absurd h List.not_mem_nil⟩, List.forall_mem_cons.mpr ⟨fun M hM => Option.some.inj (show some q321_M = some M from hM) ▸ wlkV (lkX9_50 h) q321_M rfl rfl, List.forall_mem_cons.mpr ⟨fun M hM => Option.some.inj (show some q357_M = some M from hM) ▸ wlkV (lkX9_72 h) q357_M rfl rfl, fun _ h => absurd h List.not_mem_nil⟩⟩, fun _ h => absurd h List.not_mem_nil, List.forall_mem_cons.mpr ⟨⟨wmT h (wmem (i := 130) (by decide +kernel) (by decide +kernel)), fun _ => ⟨wmT h (wmem (i := 1202) (by decide +kernel) (by decide +kernel)), wmT h (wmem (i := 652) (by decide +kernel) (by decide +kernel)), wmT h (wmem (i := 653) (by decide +kernel) (by decide +kernel))⟩, fun h => absurd h (by decide), fun h => absurd h (by decide)⟩, fun _ h => absurd h List.not_mem_nil⟩⟩ dkX9_mostOf (by decide +kernel) (by rw [h.2.2.1]; exact q358_ok)
/-- NearSpell.Web.mostOf -/
def q359_M : rfM := ((⟨"NearSpell$Web", "mostOf", "(II)I"⟩, prog_11_method_14_code, 5, (some .int)), (4,96), ([.inr (.inl [61]),.inl (((-2147483648),2147483647,1),none),.inl ((2,3,1),none)],[]), [], [(some (.inl ((0,4,1),none)),[],[])])
def q359_P : rfP := (flX9,csX9,lcX9,spX9,[q321_M,q358_M,q341_M],[(76,2)],[(50,0,9),(72,1,9)],([],[(81,0)]))
def q359_U : rfU := []
set_option maxHeartbeats 8000000 in
def q359_N : List rfB := [(0,([(0,.inr (.inl [61])),(1,.inl (((-2147483648),2147483647,1),none)),(2,.inl ((2,3,1),none))],[],[]),(61,[]),0)]
set_option maxRecDepth 100000 in
theorem q359_ok : rf_chkB q359_P q359_U wLay q359_M ddX9_mostOf [(15,[0]),(26,[1]),(53,[1]),(67,[2]),(84,[1])] [] [0] 600 q359_N = true := by decide +kernel
set_option maxHeartbeats 4000000 in
theorem q359_met {G : rfG} (h : okG G) (hh : wHandOK G) : rf_met G q359_M := rf_methodB h.1 (P := q359_P) (U := q359_U) (N := q359_N) ⟨wflT h flokX9, wcsT h csokX9, wlcT h lcokX9, spokX9 h, List.forall_mem_cons.mpr ⟨q321_met h hh, List.forall_mem_cons.mpr ⟨q358_met h hh, List.forall_mem_cons.mpr ⟨q341_met h hh, fun _ h => absurd h List.not_mem_nil⟩⟩⟩, List.forall_mem_cons.mpr ⟨fun M hM => Option.some.inj (show some q341_M = some M from hM) ▸ wlkS (lkX9_76 h) q341_M rfl rfl, fun _ h => absurd h List.not_mem_nil⟩, List.forall_mem_cons.mpr ⟨fun M hM => Option.some.inj (show some q321_M = some M from hM) ▸ wlkV (lkX9_50 h) q321_M rfl rfl, List.forall_mem_cons.mpr ⟨fun M hM => Option.some.inj (show some q358_M = some M from hM) ▸ wlkV (lkX9_72 h) q358_M rfl rfl, fun _ h => absurd h List.not_mem_nil⟩⟩, fun _ h => absurd h List.not_mem_nil, List.forall_mem_cons.mpr ⟨⟨wmT h (wmem (i := 130) (by decide +kernel) (by decide +kernel)), fun _ => ⟨wmT h (wmem (i := 1202) (by decide +kernel) (by decide +kernel)), wmT h (wmem (i := 652) (by decide +kernel) (by decide +kernel)), wmT h (wmem (i := 653) (by decide +kernel) (by decide +kernel))⟩, fun h => absurd h (by decide), fun h => absurd h (by decide)⟩, fun _ h => absurd h List.not_mem_nil⟩⟩ dkX9_mostOf (by decide +kernel) (by rw [h.2.2.1]; exact q359_ok)
/-- NearSpell.Web.mostOf -/
def q360_M : rfM := ((⟨"NearSpell$Web", "mostOf", "(II)I"⟩, prog_11_method_14_code, 5, (some .int)), (5,120), ([.inr (.inl [61]),.inl (((-2147483648),2147483647,1),none),.inl ((3,4,1),none)],[]), [], [(some (.inl ((0,5,1),none)),[],[])])
def q360_P : rfP := (flX9,csX9,lcX9,spX9,[q321_M,q359_M,q341_M],[(76,2)],[(50,0,9),(72,1,9)],([],[(81,0)]))
def q360_U : rfU := []
set_option maxHeartbeats 8000000 in
def q360_N : List rfB := [(0,([(0,.inr (.inl [61])),(1,.inl (((-2147483648),2147483647,1),none)),(2,.inl ((3,4,1),none))],[],[]),(61,[]),0)]
set_option maxRecDepth 100000 in
theorem q360_ok : rf_chkB q360_P q360_U wLay q360_M ddX9_mostOf [(15,[0]),(26,[1]),(53,[1]),(67,[2]),(84,[1])] [] [0] 600 q360_N = true := by decide +kernel
set_option maxHeartbeats 4000000 in
theorem q360_met {G : rfG} (h : okG G) (hh : wHandOK G) : rf_met G q360_M := rf_methodB h.1 (P := q360_P) (U := q360_U) (N := q360_N) ⟨wflT h flokX9, wcsT h csokX9, wlcT h lcokX9, spokX9 h, List.forall_mem_cons.mpr ⟨q321_met h hh, List.forall_mem_cons.mpr ⟨q359_met h hh, List.forall_mem_cons.mpr ⟨q341_met h hh, fun _ h => absurd h List.not_mem_nil⟩⟩⟩, List.forall_mem_cons.mpr ⟨fun M hM => Option.some.inj (show some q341_M = some M from hM) ▸ wlkS (lkX9_76 h) q341_M rfl rfl, fun _ h => absurd h List.not_mem_nil⟩, List.forall_mem_cons.mpr ⟨fun M hM => Option.some.inj (show some q321_M = some M from hM) ▸ wlkV (lkX9_50 h) q321_M rfl rfl, List.forall_mem_cons.mpr ⟨fun M hM => Option.some.inj (show some q359_M = some M from hM) ▸ wlkV (lkX9_72 h) q359_M rfl rfl, fun _ h => absurd h List.not_mem_nil⟩⟩, fun _ h => absurd h List.not_mem_nil, List.forall_mem_cons.mpr ⟨⟨wmT h (wmem (i := 130) (by decide +kernel) (by decide +kernel)), fun _ => ⟨wmT h (wmem (i := 1202) (by decide +kernel) (by decide +kernel)), wmT h (wmem (i := 652) (by decide +kernel) (by decide +kernel)), wmT h (wmem (i := 653) (by decide +kernel) (by decide +kernel))⟩, fun h => absurd h (by decide), fun h => absurd h (by decide)⟩, fun _ h => absurd h List.not_mem_nil⟩⟩ dkX9_mostOf (by decide +kernel) (by rw [h.2.2.1]; exact q360_ok)
/-- NearSpell.Web.mostOf -/
def q361_M : rfM := ((⟨"NearSpell$Web", "mostOf", "(II)I"⟩, prog_11_method_14_code, 5, (some .int)), (6,144), ([.inr (.inl [61]),.inl (((-2147483648),2147483647,1),none),.inl ((4,5,1),none)],[]), [], [(some (.inl ((0,6,1),none)),[],[])])
def q361_P : rfP := (flX9,csX9,lcX9,spX9,[q321_M,q360_M,q341_M],[(76,2)],[(50,0,9),(72,1,9)],([],[(81,0)]))
def q361_U : rfU := []
set_option maxHeartbeats 8000000 in
def q361_N : List rfB := [(0,([(0,.inr (.inl [61])),(1,.inl (((-2147483648),2147483647,1),none)),(2,.inl ((4,5,1),none))],[],[]),(61,[]),0)]
set_option maxRecDepth 100000 in
theorem q361_ok : rf_chkB q361_P q361_U wLay q361_M ddX9_mostOf [(15,[0]),(26,[1]),(53,[1]),(67,[2]),(84,[1])] [] [0] 600 q361_N = true := by decide +kernel
set_option maxHeartbeats 4000000 in
theorem q361_met {G : rfG} (h : okG G) (hh : wHandOK G) : rf_met G q361_M := rf_methodB h.1 (P := q361_P) (U := q361_U) (N := q361_N) ⟨wflT h flokX9, wcsT h csokX9, wlcT h lcokX9, spokX9 h, List.forall_mem_cons.mpr ⟨q321_met h hh, List.forall_mem_cons.mpr ⟨q360_met h hh, List.forall_mem_cons.mpr ⟨q341_met h hh, fun _ h => absurd h List.not_mem_nil⟩⟩⟩, List.forall_mem_cons.mpr ⟨fun M hM => Option.some.inj (show some q341_M = some M from hM) ▸ wlkS (lkX9_76 h) q341_M rfl rfl, fun _ h => absurd h List.not_mem_nil⟩, List.forall_mem_cons.mpr ⟨fun M hM => Option.some.inj (show some q321_M = some M from hM) ▸ wlkV (lkX9_50 h) q321_M rfl rfl, List.forall_mem_cons.mpr ⟨fun M hM => Option.some.inj (show some q360_M = some M from hM) ▸ wlkV (lkX9_72 h) q360_M rfl rfl, fun _ h => absurd h List.not_mem_nil⟩⟩, fun _ h => absurd h List.not_mem_nil, List.forall_mem_cons.mpr ⟨⟨wmT h (wmem (i := 130) (by decide +kernel) (by decide +kernel)), fun _ => ⟨wmT h (wmem (i := 1202) (by decide +kernel) (by decide +kernel)), wmT h (wmem (i := 652) (by decide +kernel) (by decide +kernel)), wmT h (wmem (i := 653) (by decide +kernel) (by decide +kernel))⟩, fun h => absurd h (by decide), fun h => absurd h (by decide)⟩, fun _ h => absurd h List.not_mem_nil⟩⟩ dkX9_mostOf (by decide +kernel) (by rw [h.2.2.1]; exact q361_ok)
