/-- NearSpell.Laid.countOwn -/
def q462_M : rfM := ((⟨"NearSpell$Laid", "countOwn", "(I)I"⟩, prog_6_method_10_code, 5, (some .int)), (2,46), ([.inr (.inl [53]),.inl ((0,0,0),none)],[]), [], [(some (.inl (((-2147483648),2147483647,1),none)),[],[])])
def ddX4_countOwn : List (Nat × Instr × Nat) := [(0,.aload_n 0,1),(1,.getfield 21,3),(4,.iload_n 1,1),(5,.aaload,1),(6,.astore_n 2,1),(7,.iconst 0,1),(8,.istore_n 3,1),(9,.iconst 0,1),(10,.istore 4,2),(12,.iload 4,2),(14,.aload_n 2,1),(15,.getfield 69,3),(18,.if_icmp .ge 34,3),(21,.aload_n 0,1),(22,.aload_n 2,1),(23,.getfield 78,3),(26,.iload 4,2),(28,.iaload,1),(29,.iload_n 1,1),(30,.aload_n 0,1),(31,.getfield 15,3),(34,.invokevirtual 57,3),(37,.invokevirtual 81,3),(40,.ifCond .ne 6,3),(43,.iinc 3 1,3),(46,.iinc 4 1,3),(49,.goto (-37),3),(52,.iload_n 3,1),(53,.ireturn,1)]
set_option maxRecDepth 100000 in
theorem dkX4_countOwn : rf_decs prog_6_method_10_code ddX4_countOwn := rf_decs_of (by decide +kernel)
def q462_P : rfP := (flX4,csX4,lcX4,spX4,[q176_M,q461_M],[],[(57,0,8),(81,1,4)],([],[]))
def q462_U : rfU := []
set_option maxHeartbeats 8000000 in
def q462_N : List rfB := [(0,([(0,.inr (.inl [53])),(1,.inl ((0,0,0),none))],[],[]),(470,[0]),0),
  (12,([(0,.inr (.inl [53])),(1,.inl ((0,0,0),none)),(2,.inr (.inl [22,24,26,28,30,32,34,36,38,40,42,44,46,48])),(3,.inl (((-2147483648),2147483647,1),none)),(4,.inl ((0,22,1),none))],[],[]),(459,[(-20)]),0),
  (46,([(0,.inr (.inl [53])),(1,.inl ((0,0,0),none)),(2,.inr (.inl [22,24,26,28,30,32,34,36,38,40,42,44,46,48])),(3,.inl (((-2147483648),2147483647,1),none)),(4,.inl ((0,21,1),none))],[],[]),(442,[(-20)]),0)]
set_option maxRecDepth 100000 in
theorem q462_ok : rf_chkB q462_P q462_U wLay q462_M ddX4_countOwn [(34,[0]),(37,[1])] [.inl 4] [0,12,46] 600 q462_N = true := by decide +kernel
set_option maxHeartbeats 4000000 in
theorem q462_met {G : rfG} (h : okG G) (hh : wHandOK G) : rf_met G q462_M := rf_methodB h.1 (P := q462_P) (U := q462_U) (N := q462_N) ⟨wflT h flokX4, wcsT h csokX4, wlcT h lcokX4, spokX4 h, List.forall_mem_cons.mpr ⟨q176_met h hh, List.forall_mem_cons.mpr ⟨q461_met h hh, fun _ h => absurd h List.not_mem_nil⟩⟩, fun _ h => absurd h List.not_mem_nil, List.forall_mem_cons.mpr ⟨fun M hM => Option.some.inj (show some q176_M = some M from hM) ▸ wlkV (lkX4_57 h) q176_M rfl rfl, List.forall_mem_cons.mpr ⟨fun M hM => Option.some.inj (show some q461_M = some M from hM) ▸ wlkV (lkX4_81 h) q461_M rfl rfl, fun _ h => absurd h List.not_mem_nil⟩⟩, fun _ h => absurd h List.not_mem_nil, fun _ h => absurd h List.not_mem_nil⟩ dkX4_countOwn (by decide +kernel) (by rw [h.2.2.1]; exact q462_ok)
/-- NearSpell.Laid.isOfOthers -/
def q463_M : rfM := ((⟨"NearSpell$Laid", "isOfOthers", "(III)Z"⟩, prog_6_method_11_code, 5, (some .boolean)), (1,22), ([.inr (.inl [53]),.inl (((-2147483648),2147483647,1),none),.inl ((0,1,1),none),.inl ((0,14,1),none)],[]), [], [(some (.inl ((1,1,0),none)),[(3,1,14)],[((12,34),(1,14,1),none)]),(some (.inl ((0,0,0),none)),[],[])])
def q463_P : rfP := (flX4,csX4,lcX4,spX4,[q174_M,q442_M],[],[(65,0,8),(85,1,3)],([],[]))
def q463_U : rfU := []
set_option maxHeartbeats 8000000 in
def q463_N : List rfB := [(0,([(0,.inr (.inl [53])),(1,.inl (((-2147483648),2147483647,1),none)),(2,.inl ((0,1,1),none)),(3,.inl ((0,14,1),none))],[],[]),(336,[0]),0),
  (3,([(0,.inr (.inl [53])),(1,.inl (((-2147483648),2147483647,1),none)),(2,.inl ((0,1,1),none)),(3,.inl ((0,14,1),none)),(4,.inl ((0,14,1),none))],[],[]),(332,[(-22)]),0),
  (43,([(0,.inr (.inl [53])),(1,.inl (((-2147483648),2147483647,1),none)),(2,.inl ((0,1,1),none)),(3,.inl ((1,14,1),none)),(4,.inl ((0,13,1),none))],[],[]),(313,[(-22)]),0)]
set_option maxRecDepth 100000 in
theorem q463_ok : rf_chkB q463_P q463_U wLay q463_M ddX4_isOfOthers [(21,[0]),(35,[1])] [.inl 4] [0,3,43] 600 q463_N = true := by decide +kernel
set_option maxHeartbeats 4000000 in
theorem q463_met {G : rfG} (h : okG G) (hh : wHandOK G) : rf_met G q463_M := rf_methodB h.1 (P := q463_P) (U := q463_U) (N := q463_N) ⟨wflT h flokX4, wcsT h csokX4, wlcT h lcokX4, spokX4 h, List.forall_mem_cons.mpr ⟨q174_met h hh, List.forall_mem_cons.mpr ⟨q442_met h hh, fun _ h => absurd h List.not_mem_nil⟩⟩, fun _ h => absurd h List.not_mem_nil, List.forall_mem_cons.mpr ⟨fun M hM => Option.some.inj (show some q174_M = some M from hM) ▸ wlkV (lkX4_65 h) q174_M rfl rfl, List.forall_mem_cons.mpr ⟨fun M hM => Option.some.inj (show some q442_M = some M from hM) ▸ wlkV (lkX4_85 h) q442_M rfl rfl, fun _ h => absurd h List.not_mem_nil⟩⟩, fun _ h => absurd h List.not_mem_nil, fun _ h => absurd h List.not_mem_nil⟩ dkX4_isOfOthers (by decide +kernel) (by rw [h.2.2.1]; exact q463_ok)
/-- NearSpell.Laid.countOwn -/
def q464_M : rfM := ((⟨"NearSpell$Laid", "countOwn", "(I)I"⟩, prog_6_method_10_code, 5, (some .int)), (2,46), ([.inr (.inl [53]),.inl ((0,1,1),none)],[]), [], [(some (.inl (((-2147483648),2147483647,1),none)),[],[])])
def q464_P : rfP := (flX4,csX4,lcX4,spX4,[q176_M,q463_M],[],[(57,0,8),(81,1,4)],([],[]))
def q464_U : rfU := []
set_option maxHeartbeats 8000000 in
def q464_N : List rfB := [(0,([(0,.inr (.inl [53])),(1,.inl ((0,1,1),none))],[],[]),(470,[0]),0),
  (12,([(0,.inr (.inl [53])),(1,.inl ((0,1,1),none)),(2,.inr (.inl [22,24,26,28,30,32,34,36,38,40,42,44,46,48])),(3,.inl (((-2147483648),2147483647,1),none)),(4,.inl ((0,22,1),none))],[],[]),(459,[(-20)]),0),
  (46,([(0,.inr (.inl [53])),(1,.inl ((0,1,1),none)),(2,.inr (.inl [22,24,26,28,30,32,34,36,38,40,42,44,46,48])),(3,.inl (((-2147483648),2147483647,1),none)),(4,.inl ((0,21,1),none))],[],[]),(442,[(-20)]),0)]
set_option maxRecDepth 100000 in
theorem q464_ok : rf_chkB q464_P q464_U wLay q464_M ddX4_countOwn [(34,[0]),(37,[1])] [.inl 4] [0,12,46] 600 q464_N = true := by decide +kernel
set_option maxHeartbeats 4000000 in
theorem q464_met {G : rfG} (h : okG G) (hh : wHandOK G) : rf_met G q464_M := rf_methodB h.1 (P := q464_P) (U := q464_U) (N := q464_N) ⟨wflT h flokX4, wcsT h csokX4, wlcT h lcokX4, spokX4 h, List.forall_mem_cons.mpr ⟨q176_met h hh, List.forall_mem_cons.mpr ⟨q463_met h hh, fun _ h => absurd h List.not_mem_nil⟩⟩, fun _ h => absurd h List.not_mem_nil, List.forall_mem_cons.mpr ⟨fun M hM => Option.some.inj (show some q176_M = some M from hM) ▸ wlkV (lkX4_57 h) q176_M rfl rfl, List.forall_mem_cons.mpr ⟨fun M hM => Option.some.inj (show some q463_M = some M from hM) ▸ wlkV (lkX4_81 h) q463_M rfl rfl, fun _ h => absurd h List.not_mem_nil⟩⟩, fun _ h => absurd h List.not_mem_nil, fun _ h => absurd h List.not_mem_nil⟩ dkX4_countOwn (by decide +kernel) (by rw [h.2.2.1]; exact q464_ok)
/-- NearSpell.Laid.isOfOthers -/
def q465_M : rfM := ((⟨"NearSpell$Laid", "isOfOthers", "(III)Z"⟩, prog_6_method_11_code, 5, (some .boolean)), (1,22), ([.inr (.inl [53]),.inl (((-2147483648),2147483647,1),none),.inl ((0,2,1),none),.inl ((0,14,1),none)],[]), [], [(some (.inl ((1,1,0),none)),[(3,1,14)],[((12,34),(1,14,1),none)]),(some (.inl ((0,0,0),none)),[],[])])
def q465_P : rfP := (flX4,csX4,lcX4,spX4,[q174_M,q442_M],[],[(65,0,8),(85,1,3)],([],[]))
def q465_U : rfU := []
set_option maxHeartbeats 8000000 in
def q465_N : List rfB := [(0,([(0,.inr (.inl [53])),(1,.inl (((-2147483648),2147483647,1),none)),(2,.inl ((0,2,1),none)),(3,.inl ((0,14,1),none))],[],[]),(336,[0]),0),
  (3,([(0,.inr (.inl [53])),(1,.inl (((-2147483648),2147483647,1),none)),(2,.inl ((0,2,1),none)),(3,.inl ((0,14,1),none)),(4,.inl ((0,14,1),none))],[],[]),(332,[(-22)]),0),
  (43,([(0,.inr (.inl [53])),(1,.inl (((-2147483648),2147483647,1),none)),(2,.inl ((0,2,1),none)),(3,.inl ((1,14,1),none)),(4,.inl ((0,13,1),none))],[],[]),(313,[(-22)]),0)]
set_option maxRecDepth 100000 in
theorem q465_ok : rf_chkB q465_P q465_U wLay q465_M ddX4_isOfOthers [(21,[0]),(35,[1])] [.inl 4] [0,3,43] 600 q465_N = true := by decide +kernel
set_option maxHeartbeats 4000000 in
theorem q465_met {G : rfG} (h : okG G) (hh : wHandOK G) : rf_met G q465_M := rf_methodB h.1 (P := q465_P) (U := q465_U) (N := q465_N) ⟨wflT h flokX4, wcsT h csokX4, wlcT h lcokX4, spokX4 h, List.forall_mem_cons.mpr ⟨q174_met h hh, List.forall_mem_cons.mpr ⟨q442_met h hh, fun _ h => absurd h List.not_mem_nil⟩⟩, fun _ h => absurd h List.not_mem_nil, List.forall_mem_cons.mpr ⟨fun M hM => Option.some.inj (show some q174_M = some M from hM) ▸ wlkV (lkX4_65 h) q174_M rfl rfl, List.forall_mem_cons.mpr ⟨fun M hM => Option.some.inj (show some q442_M = some M from hM) ▸ wlkV (lkX4_85 h) q442_M rfl rfl, fun _ h => absurd h List.not_mem_nil⟩⟩, fun _ h => absurd h List.not_mem_nil, fun _ h => absurd h List.not_mem_nil⟩ dkX4_isOfOthers (by decide +kernel) (by rw [h.2.2.1]; exact q465_ok)
/-- NearSpell.Laid.countOwn -/
def q466_M : rfM := ((⟨"NearSpell$Laid", "countOwn", "(I)I"⟩, prog_6_method_10_code, 5, (some .int)), (2,46), ([.inr (.inl [53]),.inl ((0,2,1),none)],[]), [], [(some (.inl (((-2147483648),2147483647,1),none)),[],[])])
def q466_P : rfP := (flX4,csX4,lcX4,spX4,[q176_M,q465_M],[],[(57,0,8),(81,1,4)],([],[]))
def q466_U : rfU := []
set_option maxHeartbeats 8000000 in
def q466_N : List rfB := [(0,([(0,.inr (.inl [53])),(1,.inl ((0,2,1),none))],[],[]),(470,[0]),0),
  (12,([(0,.inr (.inl [53])),(1,.inl ((0,2,1),none)),(2,.inr (.inl [22,24,26,28,30,32,34,36,38,40,42,44,46,48])),(3,.inl (((-2147483648),2147483647,1),none)),(4,.inl ((0,22,1),none))],[],[]),(459,[(-20)]),0),
  (46,([(0,.inr (.inl [53])),(1,.inl ((0,2,1),none)),(2,.inr (.inl [22,24,26,28,30,32,34,36,38,40,42,44,46,48])),(3,.inl (((-2147483648),2147483647,1),none)),(4,.inl ((0,21,1),none))],[],[]),(442,[(-20)]),0)]
set_option maxRecDepth 100000 in
theorem q466_ok : rf_chkB q466_P q466_U wLay q466_M ddX4_countOwn [(34,[0]),(37,[1])] [.inl 4] [0,12,46] 600 q466_N = true := by decide +kernel
set_option maxHeartbeats 4000000 in
theorem q466_met {G : rfG} (h : okG G) (hh : wHandOK G) : rf_met G q466_M := rf_methodB h.1 (P := q466_P) (U := q466_U) (N := q466_N) ⟨wflT h flokX4, wcsT h csokX4, wlcT h lcokX4, spokX4 h, List.forall_mem_cons.mpr ⟨q176_met h hh, List.forall_mem_cons.mpr ⟨q465_met h hh, fun _ h => absurd h List.not_mem_nil⟩⟩, fun _ h => absurd h List.not_mem_nil, List.forall_mem_cons.mpr ⟨fun M hM => Option.some.inj (show some q176_M = some M from hM) ▸ wlkV (lkX4_57 h) q176_M rfl rfl, List.forall_mem_cons.mpr ⟨fun M hM => Option.some.inj (show some q465_M = some M from hM) ▸ wlkV (lkX4_81 h) q465_M rfl rfl, fun _ h => absurd h List.not_mem_nil⟩⟩, fun _ h => absurd h List.not_mem_nil, fun _ h => absurd h List.not_mem_nil⟩ dkX4_countOwn (by decide +kernel) (by rw [h.2.2.1]; exact q466_ok)
/-- NearSpell.Laid.isOfOthers -/
def q467_M : rfM := ((⟨"NearSpell$Laid", "isOfOthers", "(III)Z"⟩, prog_6_method_11_code, 5, (some .boolean)), (1,22), ([.inr (.inl [53]),.inl (((-2147483648),2147483647,1),none),.inl ((0,3,1),none),.inl ((0,14,1),none)],[]), [], [(some (.inl ((1,1,0),none)),[(3,1,14)],[((12,34),(1,14,1),none)]),(some (.inl ((0,0,0),none)),[],[])])
def q467_P : rfP := (flX4,csX4,lcX4,spX4,[q174_M,q442_M],[],[(65,0,8),(85,1,3)],([],[]))
def q467_U : rfU := []
set_option maxHeartbeats 8000000 in
def q467_N : List rfB := [(0,([(0,.inr (.inl [53])),(1,.inl (((-2147483648),2147483647,1),none)),(2,.inl ((0,3,1),none)),(3,.inl ((0,14,1),none))],[],[]),(336,[0]),0),
  (3,([(0,.inr (.inl [53])),(1,.inl (((-2147483648),2147483647,1),none)),(2,.inl ((0,3,1),none)),(3,.inl ((0,14,1),none)),(4,.inl ((0,14,1),none))],[],[]),(332,[(-22)]),0),
  (43,([(0,.inr (.inl [53])),(1,.inl (((-2147483648),2147483647,1),none)),(2,.inl ((0,3,1),none)),(3,.inl ((1,14,1),none)),(4,.inl ((0,13,1),none))],[],[]),(313,[(-22)]),0)]
set_option maxRecDepth 100000 in
theorem q467_ok : rf_chkB q467_P q467_U wLay q467_M ddX4_isOfOthers [(21,[0]),(35,[1])] [.inl 4] [0,3,43] 600 q467_N = true := by decide +kernel
set_option maxHeartbeats 4000000 in
theorem q467_met {G : rfG} (h : okG G) (hh : wHandOK G) : rf_met G q467_M := rf_methodB h.1 (P := q467_P) (U := q467_U) (N := q467_N) ⟨wflT h flokX4, wcsT h csokX4, wlcT h lcokX4, spokX4 h, List.forall_mem_cons.mpr ⟨q174_met h hh, List.forall_mem_cons.mpr ⟨q442_met h hh, fun _ h => absurd h List.not_mem_nil⟩⟩, fun _ h => absurd h List.not_mem_nil, List.forall_mem_cons.mpr ⟨fun M hM => Option.some.inj (show some q174_M = some M from hM) ▸ wlkV (lkX4_65 h) q174_M rfl rfl, List.forall_mem_cons.mpr ⟨fun M hM => Option.some.inj (show some q442_M = some M from hM) ▸ wlkV (lkX4_85 h) q442_M rfl rfl, fun _ h => absurd h List.not_mem_nil⟩⟩, fun _ h => absurd h List.not_mem_nil, fun _ h => absurd h List.not_mem_nil⟩ dkX4_isOfOthers (by decide +kernel) (by rw [h.2.2.1]; exact q467_ok)
/-- NearSpell.Laid.countOwn -/
def q468_M : rfM := ((⟨"NearSpell$Laid", "countOwn", "(I)I"⟩, prog_6_method_10_code, 5, (some .int)), (2,46), ([.inr (.inl [53]),.inl ((0,3,1),none)],[]), [], [(some (.inl (((-2147483648),2147483647,1),none)),[],[])])
def q468_P : rfP := (flX4,csX4,lcX4,spX4,[q176_M,q467_M],[],[(57,0,8),(81,1,4)],([],[]))
def q468_U : rfU := []
set_option maxHeartbeats 8000000 in
def q468_N : List rfB := [(0,([(0,.inr (.inl [53])),(1,.inl ((0,3,1),none))],[],[]),(470,[0]),0),
  (12,([(0,.inr (.inl [53])),(1,.inl ((0,3,1),none)),(2,.inr (.inl [22,24,26,28,30,32,34,36,38,40,42,44,46,48])),(3,.inl (((-2147483648),2147483647,1),none)),(4,.inl ((0,22,1),none))],[],[]),(459,[(-20)]),0),
  (46,([(0,.inr (.inl [53])),(1,.inl ((0,3,1),none)),(2,.inr (.inl [22,24,26,28,30,32,34,36,38,40,42,44,46,48])),(3,.inl (((-2147483648),2147483647,1),none)),(4,.inl ((0,21,1),none))],[],[]),(442,[(-20)]),0)]
set_option maxRecDepth 100000 in
theorem q468_ok : rf_chkB q468_P q468_U wLay q468_M ddX4_countOwn [(34,[0]),(37,[1])] [.inl 4] [0,12,46] 600 q468_N = true := by decide +kernel
set_option maxHeartbeats 4000000 in
theorem q468_met {G : rfG} (h : okG G) (hh : wHandOK G) : rf_met G q468_M := rf_methodB h.1 (P := q468_P) (U := q468_U) (N := q468_N) ⟨wflT h flokX4, wcsT h csokX4, wlcT h lcokX4, spokX4 h, List.forall_mem_cons.mpr ⟨q176_met h hh, List.forall_mem_cons.mpr ⟨q467_met h hh, fun _ h => absurd h List.not_mem_nil⟩⟩, fun _ h => absurd h List.not_mem_nil, List.forall_mem_cons.mpr ⟨fun M hM => Option.some.inj (show some q176_M = some M from hM) ▸ wlkV (lkX4_57 h) q176_M rfl rfl, List.forall_mem_cons.mpr ⟨fun M hM => Option.some.inj (show some q467_M = some M from hM) ▸ wlkV (lkX4_81 h) q467_M rfl rfl, fun _ h => absurd h List.not_mem_nil⟩⟩, fun _ h => absurd h List.not_mem_nil, fun _ h => absurd h List.not_mem_nil⟩ dkX4_countOwn (by decide +kernel) (by rw [h.2.2.1]; exact q468_ok)
/-- NearSpell.Laid.isOfOthers -/
def q469_M : rfM := ((⟨"NearSpell$Laid", "isOfOthers", "(III)Z"⟩, prog_6_method_11_code, 5, (some .boolean)), (1,22), ([.inr (.inl [53]),.inl (((-2147483648),2147483647,1),none),.inl ((0,12,1),none),.inl ((0,14,1),none)],[]), [], [(some (.inl ((1,1,0),none)),[(3,1,14)],[((12,34),(1,14,1),none)]),(some (.inl ((0,0,0),none)),[],[])])
def q469_P : rfP := (flX4,csX4,lcX4,spX4,[q174_M,q442_M],[],[(65,0,8),(85,1,3)],([],[]))
def q469_U : rfU := []
set_option maxHeartbeats 8000000 in
def q469_N : List rfB := [(0,([(0,.inr (.inl [53])),(1,.inl (((-2147483648),2147483647,1),none)),(2,.inl ((0,12,1),none)),(3,.inl ((0,14,1),none))],[],[]),(336,[0]),0),
  (3,([(0,.inr (.inl [53])),(1,.inl (((-2147483648),2147483647,1),none)),(2,.inl ((0,12,1),none)),(3,.inl ((0,14,1),none)),(4,.inl ((0,14,1),none))],[],[]),(332,[(-22)]),0),
  (43,([(0,.inr (.inl [53])),(1,.inl (((-2147483648),2147483647,1),none)),(2,.inl ((0,12,1),none)),(3,.inl ((1,14,1),none)),(4,.inl ((0,13,1),none))],[],[]),(313,[(-22)]),0)]
set_option maxRecDepth 100000 in
theorem q469_ok : rf_chkB q469_P q469_U wLay q469_M ddX4_isOfOthers [(21,[0]),(35,[1])] [.inl 4] [0,3,43] 600 q469_N = true := by decide +kernel
set_option maxHeartbeats 4000000 in
theorem q469_met {G : rfG} (h : okG G) (hh : wHandOK G) : rf_met G q469_M := rf_methodB h.1 (P := q469_P) (U := q469_U) (N := q469_N) ⟨wflT h flokX4, wcsT h csokX4, wlcT h lcokX4, spokX4 h, List.forall_mem_cons.mpr ⟨q174_met h hh, List.forall_mem_cons.mpr ⟨q442_met h hh, fun _ h => absurd h List.not_mem_nil⟩⟩, fun _ h => absurd h List.not_mem_nil, List.forall_mem_cons.mpr ⟨fun M hM => Option.some.inj (show some q174_M = some M from hM) ▸ wlkV (lkX4_65 h) q174_M rfl rfl, List.forall_mem_cons.mpr ⟨fun M hM => Option.some.inj (show some q442_M = some M from hM) ▸ wlkV (lkX4_85 h) q442_M rfl rfl, fun _ h => absurd h List.not_mem_nil⟩⟩, fun _ h => absurd h List.not_mem_nil, fun _ h => absurd h List.not_mem_nil⟩ dkX4_isOfOthers (by decide +kernel) (by rw [h.2.2.1]; exact q469_ok)
/-- NearSpell.Laid.countOwn -/
def q470_M : rfM := ((⟨"NearSpell$Laid", "countOwn", "(I)I"⟩, prog_6_method_10_code, 5, (some .int)), (2,46), ([.inr (.inl [53]),.inl ((0,12,1),none)],[]), [], [(some (.inl (((-2147483648),2147483647,1),none)),[],[])])
def q470_P : rfP := (flX4,csX4,lcX4,spX4,[q176_M,q469_M],[],[(57,0,8),(81,1,4)],([],[]))
def q470_U : rfU := []
set_option maxHeartbeats 8000000 in
def q470_N : List rfB := [(0,([(0,.inr (.inl [53])),(1,.inl ((0,12,1),none))],[],[]),(470,[0]),0),
  (12,([(0,.inr (.inl [53])),(1,.inl ((0,12,1),none)),(2,.inr (.inl [22,24,26,28,30,32,34,36,38,40,42,44,46,48])),(3,.inl (((-2147483648),2147483647,1),none)),(4,.inl ((0,22,1),none))],[],[]),(459,[(-20)]),0),
  (46,([(0,.inr (.inl [53])),(1,.inl ((0,12,1),none)),(2,.inr (.inl [22,24,26,28,30,32,34,36,38,40,42,44,46,48])),(3,.inl (((-2147483648),2147483647,1),none)),(4,.inl ((0,21,1),none))],[],[]),(442,[(-20)]),0)]
set_option maxRecDepth 100000 in
theorem q470_ok : rf_chkB q470_P q470_U wLay q470_M ddX4_countOwn [(34,[0]),(37,[1])] [.inl 4] [0,12,46] 600 q470_N = true := by decide +kernel
set_option maxHeartbeats 4000000 in
theorem q470_met {G : rfG} (h : okG G) (hh : wHandOK G) : rf_met G q470_M := rf_methodB h.1 (P := q470_P) (U := q470_U) (N := q470_N) ⟨wflT h flokX4, wcsT h csokX4, wlcT h lcokX4, spokX4 h, List.forall_mem_cons.mpr ⟨q176_met h hh, List.forall_mem_cons.mpr ⟨q469_met h hh, fun _ h => absurd h List.not_mem_nil⟩⟩, fun _ h => absurd h List.not_mem_nil, List.forall_mem_cons.mpr ⟨fun M hM => Option.some.inj (show some q176_M = some M from hM) ▸ wlkV (lkX4_57 h) q176_M rfl rfl, List.forall_mem_cons.mpr ⟨fun M hM => Option.some.inj (show some q469_M = some M from hM) ▸ wlkV (lkX4_81 h) q469_M rfl rfl, fun _ h => absurd h List.not_mem_nil⟩⟩, fun _ h => absurd h List.not_mem_nil, fun _ h => absurd h List.not_mem_nil⟩ dkX4_countOwn (by decide +kernel) (by rw [h.2.2.1]; exact q470_ok)
/-- NearSpell.Laid.isOfOthers -/
def q471_M : rfM := ((⟨"NearSpell$Laid", "isOfOthers", "(III)Z"⟩, prog_6_method_11_code, 5, (some .boolean)), (1,22), ([.inr (.inl [53]),.inl (((-2147483648),2147483647,1),none),.inl ((0,13,1),none),.inl ((0,14,1),none)],[]), [], [(some (.inl ((1,1,0),none)),[(3,1,14)],[((12,34),(1,14,1),none)]),(some (.inl ((0,0,0),none)),[],[])])
def q471_P : rfP := (flX4,csX4,lcX4,spX4,[q174_M,q442_M],[],[(65,0,8),(85,1,3)],([],[]))
def q471_U : rfU := []
set_option maxHeartbeats 8000000 in
def q471_N : List rfB := [(0,([(0,.inr (.inl [53])),(1,.inl (((-2147483648),2147483647,1),none)),(2,.inl ((0,13,1),none)),(3,.inl ((0,14,1),none))],[],[]),(336,[0]),0),
  (3,([(0,.inr (.inl [53])),(1,.inl (((-2147483648),2147483647,1),none)),(2,.inl ((0,13,1),none)),(3,.inl ((0,14,1),none)),(4,.inl ((0,14,1),none))],[],[]),(332,[(-22)]),0),
  (43,([(0,.inr (.inl [53])),(1,.inl (((-2147483648),2147483647,1),none)),(2,.inl ((0,13,1),none)),(3,.inl ((1,14,1),none)),(4,.inl ((0,13,1),none))],[],[]),(313,[(-22)]),0)]
set_option maxRecDepth 100000 in
theorem q471_ok : rf_chkB q471_P q471_U wLay q471_M ddX4_isOfOthers [(21,[0]),(35,[1])] [.inl 4] [0,3,43] 600 q471_N = true := by decide +kernel
set_option maxHeartbeats 4000000 in
theorem q471_met {G : rfG} (h : okG G) (hh : wHandOK G) : rf_met G q471_M := rf_methodB h.1 (P := q471_P) (U := q471_U) (N := q471_N) ⟨wflT h flokX4, wcsT h csokX4, wlcT h lcokX4, spokX4 h, List.forall_mem_cons.mpr ⟨q174_met h hh, List.forall_mem_cons.mpr ⟨q442_met h hh, fun _ h => absurd h List.not_mem_nil⟩⟩, fun _ h => absurd h List.not_mem_nil, List.forall_mem_cons.mpr ⟨fun M hM => Option.some.inj (show some q174_M = some M from hM) ▸ wlkV (lkX4_65 h) q174_M rfl rfl, List.forall_mem_cons.mpr ⟨fun M hM => Option.some.inj (show some q442_M = some M from hM) ▸ wlkV (lkX4_85 h) q442_M rfl rfl, fun _ h => absurd h List.not_mem_nil⟩⟩, fun _ h => absurd h List.not_mem_nil, fun _ h => absurd h List.not_mem_nil⟩ dkX4_isOfOthers (by decide +kernel) (by rw [h.2.2.1]; exact q471_ok)
/-- NearSpell.Laid.countOwn -/
def q472_M : rfM := ((⟨"NearSpell$Laid", "countOwn", "(I)I"⟩, prog_6_method_10_code, 5, (some .int)), (2,46), ([.inr (.inl [53]),.inl ((0,13,1),none)],[]), [], [(some (.inl (((-2147483648),2147483647,1),none)),[],[])])
def q472_P : rfP := (flX4,csX4,lcX4,spX4,[q176_M,q471_M],[],[(57,0,8),(81,1,4)],([],[]))
def q472_U : rfU := []
set_option maxHeartbeats 8000000 in
def q472_N : List rfB := [(0,([(0,.inr (.inl [53])),(1,.inl ((0,13,1),none))],[],[]),(470,[0]),0),
  (12,([(0,.inr (.inl [53])),(1,.inl ((0,13,1),none)),(2,.inr (.inl [22,24,26,28,30,32,34,36,38,40,42,44,46,48])),(3,.inl (((-2147483648),2147483647,1),none)),(4,.inl ((0,22,1),none))],[],[]),(459,[(-20)]),0),
  (46,([(0,.inr (.inl [53])),(1,.inl ((0,13,1),none)),(2,.inr (.inl [22,24,26,28,30,32,34,36,38,40,42,44,46,48])),(3,.inl (((-2147483648),2147483647,1),none)),(4,.inl ((0,21,1),none))],[],[]),(442,[(-20)]),0)]
set_option maxRecDepth 100000 in
theorem q472_ok : rf_chkB q472_P q472_U wLay q472_M ddX4_countOwn [(34,[0]),(37,[1])] [.inl 4] [0,12,46] 600 q472_N = true := by decide +kernel
set_option maxHeartbeats 4000000 in
theorem q472_met {G : rfG} (h : okG G) (hh : wHandOK G) : rf_met G q472_M := rf_methodB h.1 (P := q472_P) (U := q472_U) (N := q472_N) ⟨wflT h flokX4, wcsT h csokX4, wlcT h lcokX4, spokX4 h, List.forall_mem_cons.mpr ⟨q176_met h hh, List.forall_mem_cons.mpr ⟨q471_met h hh, fun _ h => absurd h List.not_mem_nil⟩⟩, fun _ h => absurd h List.not_mem_nil, List.forall_mem_cons.mpr ⟨fun M hM => Option.some.inj (show some q176_M = some M from hM) ▸ wlkV (lkX4_57 h) q176_M rfl rfl, List.forall_mem_cons.mpr ⟨fun M hM => Option.some.inj (show some q471_M = some M from hM) ▸ wlkV (lkX4_81 h) q471_M rfl rfl, fun _ h => absurd h List.not_mem_nil⟩⟩, fun _ h => absurd h List.not_mem_nil, fun _ h => absurd h List.not_mem_nil⟩ dkX4_countOwn (by decide +kernel) (by rw [h.2.2.1]; exact q472_ok)
/-- NearSpell.Laid.rarestEntry -/
def q473_M : rfM := ((⟨"NearSpell$Laid", "rarestEntry", "()I"⟩, prog_6_method_9_code, 5, (some .int)), (4,93), ([.inr (.inl [53])],[]), [(21,0),(22,2),(22,3),(22,4),(22,5),(23,0),(24,2),(24,3),(24,4),(24,5),(25,0),(26,2),(26,3),(26,4),(26,5),(27,0),(28,2),(28,3),(28,4),(28,5),(29,0),(30,2),(30,3),(30,4),(30,5),(31,0),(32,2),(32,3),(32,4),(32,5),(33,0),(34,2),(34,3),(34,4),(34,5),(35,0),(36,2),(36,3),(36,4),(36,5),(37,0),(38,2),(38,3),(38,4),(38,5),(39,0),(40,2),(40,3),(40,4),(40,5),(41,0),(42,2),(42,3),(42,4),(42,5),(43,0),(44,2),(44,3),(44,4),(44,5),(45,0),(46,2),(46,3),(46,4),(46,5),(47,0),(48,2),(48,3),(48,4),(48,5)], [(some (.inl (((-1),13,1),none)),[],[])])
def ddX4_rarestEntry : List (Nat × Instr × Nat) := [(0,.aload_n 0,1),(1,.invokevirtual 72,3),(4,.iconst (-1),1),(5,.istore_n 1,1),(6,.iconst (-1),1),(7,.istore_n 2,1),(8,.iconst 0,1),(9,.istore_n 3,1),(10,.iload_n 3,1),(11,.aload_n 0,1),(12,.getfield 15,3),(15,.invokevirtual 57,3),(18,.if_icmp .ge 42,3),(21,.aload_n 0,1),(22,.getfield 15,3),(25,.iload_n 3,1),(26,.invokevirtual 65,3),(29,.ifCond .eq 11,3),(32,.aload_n 0,1),(33,.iload_n 3,1),(34,.invokevirtual 75,3),(37,.goto 4,3),(40,.iconst (-1),1),(41,.istore 4,2),(43,.iload 4,2),(45,.iload_n 2,1),(46,.if_icmp .le 8,3),(49,.iload_n 3,1),(50,.istore_n 1,1),(51,.iload 4,2),(53,.istore_n 2,1),(54,.iinc 3 1,3),(57,.goto (-47),3),(60,.iload_n 1,1),(61,.ireturn,1)]
set_option maxRecDepth 100000 in
theorem dkX4_rarestEntry : rf_decs prog_6_method_9_code ddX4_rarestEntry := rf_decs_of (by decide +kernel)
def q473_P : rfP := (flX4,csX4,lcX4,spX4,[q424_M,q176_M,q174_M,q472_M],[],[(57,1,8),(65,2,8),(72,0,4),(75,3,4)],([],[]))
def q473_U : rfU := []
set_option maxHeartbeats 8000000 in
def q473_N : List rfB := [(0,([(0,.inr (.inl [53]))],[],[]),(429,[0]),0),
  (10,([(0,.inr (.inl [53])),(1,.inl (((-1),13,1),none)),(2,.inl (((-1),2147483647,1),none)),(3,.inl ((0,14,1),none))],[],[]),(419,[(-28)]),0),
  (43,([(0,.inr (.inl [53])),(1,.inl (((-1),13,1),none)),(2,.inl (((-1),2147483647,1),none)),(3,.inl ((0,13,1),none)),(4,.inl (((-2147483648),2147483647,1),none))],[],[]),(401,[(-28)]),0),
  (54,([(0,.inr (.inl [53])),(1,.inl (((-1),13,1),none)),(2,.inl (((-1),2147483647,1),none)),(3,.inl ((0,13,1),none)),(4,.inl (((-2147483648),2147483647,1),none))],[],[]),(394,[(-28)]),0)]
set_option maxRecDepth 100000 in
theorem q473_ok : rf_chkB q473_P q473_U wLay q473_M ddX4_rarestEntry [(1,[0]),(15,[1]),(26,[2]),(34,[3])] [.inl 3] [0,10,43,54] 600 q473_N = true := by decide +kernel
set_option maxHeartbeats 4000000 in
theorem q473_met {G : rfG} (h : okG G) (hh : wHandOK G) : rf_met G q473_M := rf_methodB h.1 (P := q473_P) (U := q473_U) (N := q473_N) ⟨wflT h flokX4, wcsT h csokX4, wlcT h lcokX4, spokX4 h, List.forall_mem_cons.mpr ⟨q424_met h hh, List.forall_mem_cons.mpr ⟨q176_met h hh, List.forall_mem_cons.mpr ⟨q174_met h hh, List.forall_mem_cons.mpr ⟨q472_met h hh, fun _ h => absurd h List.not_mem_nil⟩⟩⟩⟩, fun _ h => absurd h List.not_mem_nil, List.forall_mem_cons.mpr ⟨fun M hM => Option.some.inj (show some q176_M = some M from hM) ▸ wlkV (lkX4_57 h) q176_M rfl rfl, List.forall_mem_cons.mpr ⟨fun M hM => Option.some.inj (show some q174_M = some M from hM) ▸ wlkV (lkX4_65 h) q174_M rfl rfl, List.forall_mem_cons.mpr ⟨fun M hM => Option.some.inj (show some q424_M = some M from hM) ▸ wlkV (lkX4_72 h) q424_M rfl rfl, List.forall_mem_cons.mpr ⟨fun M hM => Option.some.inj (show some q472_M = some M from hM) ▸ wlkV (lkX4_75 h) q472_M rfl rfl, fun _ h => absurd h List.not_mem_nil⟩⟩⟩⟩, fun _ h => absurd h List.not_mem_nil, fun _ h => absurd h List.not_mem_nil⟩ dkX4_rarestEntry (by decide +kernel) (by rw [h.2.2.1]; exact q473_ok)
/-- NearSpell.rarest -/
def q474_M : rfM := ((⟨"NearSpell", "rarest", "()I"⟩, prog_1_method_37_code, 1, (some .int)), (5,117), ([.inr (.inl [70])],[]), [(21,0),(22,2),(22,3),(22,4),(22,5),(23,0),(24,2),(24,3),(24,4),(24,5),(25,0),(26,2),(26,3),(26,4),(26,5),(27,0),(28,2),(28,3),(28,4),(28,5),(29,0),(30,2),(30,3),(30,4),(30,5),(31,0),(32,2),(32,3),(32,4),(32,5),(33,0),(34,2),(34,3),(34,4),(34,5),(35,0),(36,2),(36,3),(36,4),(36,5),(37,0),(38,2),(38,3),(38,4),(38,5),(39,0),(40,2),(40,3),(40,4),(40,5),(41,0),(42,2),(42,3),(42,4),(42,5),(43,0),(44,2),(44,3),(44,4),(44,5),(45,0),(46,2),(46,3),(46,4),(46,5),(47,0),(48,2),(48,3),(48,4),(48,5)], [(some (.inl (((-1),13,1),none)),[],[])])
def ddX11_rarest : List (Nat × Instr × Nat) := [(0,.aload_n 0,1),(1,.getfield 58,3),(4,.invokevirtual 312,3),(7,.ireturn,1)]
set_option maxRecDepth 100000 in
theorem dkX11_rarest : rf_decs prog_1_method_37_code ddX11_rarest := rf_decs_of (by decide +kernel)
def q474_P : rfP := (flX11,csX11,lcX11,spX11,[q473_M],[],[(312,0,4)],([],[]))
def q474_U : rfU := []
set_option maxHeartbeats 8000000 in
def q474_N : List rfB := [(0,([(0,.inr (.inl [70]))],[],[]),(3,[]),0)]
set_option maxRecDepth 100000 in
theorem q474_ok : rf_chkB q474_P q474_U wLay q474_M ddX11_rarest [(4,[0])] [] [0] 600 q474_N = true := by decide +kernel
set_option maxHeartbeats 4000000 in
theorem q474_met {G : rfG} (h : okG G) (hh : wHandOK G) : rf_met G q474_M := rf_methodB h.1 (P := q474_P) (U := q474_U) (N := q474_N) ⟨wflT h flokX11, wcsT h csokX11, wlcT h lcokX11, spokX11 h, List.forall_mem_cons.mpr ⟨q473_met h hh, fun _ h => absurd h List.not_mem_nil⟩, fun _ h => absurd h List.not_mem_nil, List.forall_mem_cons.mpr ⟨fun M hM => Option.some.inj (show some q473_M = some M from hM) ▸ wlkV (lkX11_312 h) q473_M rfl rfl, fun _ h => absurd h List.not_mem_nil⟩, fun _ h => absurd h List.not_mem_nil, fun _ h => absurd h List.not_mem_nil⟩ dkX11_rarest (by decide +kernel) (by rw [h.2.2.1]; exact q474_ok)
/-- NearSpell.law -/
def q475_M : rfM := ((⟨"NearSpell", "law", "(I)I"⟩, prog_1_method_38_code, 2, (some .int)), (4,95), ([.inr (.inl [70]),.inl (((-2147483648),2147483647,1),none)],[]), [(49,0),(50,2),(50,3),(50,4),(50,5)], [(some (.inl (((-2147483648),2147483647,1),none)),[],[])])
def ddX11_law : List (Nat × Instr × Nat) := [(0,.iload_n 1,1),(1,.ifCond .lt 19,3),(4,.iload_n 1,1),(5,.iconst 2,1),(6,.if_icmp .gt 14,3),(9,.aload_n 0,1),(10,.getfield 58,3),(13,.iload_n 1,1),(14,.invokevirtual 306,3),(17,.goto 4,3),(20,.iconst (-1),1),(21,.ireturn,1)]
set_option maxRecDepth 100000 in
theorem dkX11_law : rf_decs prog_1_method_38_code ddX11_law := rf_decs_of (by decide +kernel)
def q475_P : rfP := (flX11,csX11,lcX11,spX11,[q438_M],[],[(306,0,4)],([],[]))
def q475_U : rfU := []
set_option maxHeartbeats 8000000 in
def q475_N : List rfB := [(0,([(0,.inr (.inl [70])),(1,.inl (((-2147483648),2147483647,1),none))],[],[]),(12,[]),0),
  (20,([(0,.inr (.inl [70])),(1,.inl (((-2147483648),2147483647,1),none))],[],[]),(1,[]),0)]
set_option maxRecDepth 100000 in
theorem q475_ok : rf_chkB q475_P q475_U wLay q475_M ddX11_law [(14,[0])] [] [0,20] 600 q475_N = true := by decide +kernel
set_option maxHeartbeats 4000000 in
theorem q475_met {G : rfG} (h : okG G) (hh : wHandOK G) : rf_met G q475_M := rf_methodB h.1 (P := q475_P) (U := q475_U) (N := q475_N) ⟨wflT h flokX11, wcsT h csokX11, wlcT h lcokX11, spokX11 h, List.forall_mem_cons.mpr ⟨q438_met h hh, fun _ h => absurd h List.not_mem_nil⟩, fun _ h => absurd h List.not_mem_nil, List.forall_mem_cons.mpr ⟨fun M hM => Option.some.inj (show some q438_M = some M from hM) ▸ wlkV (lkX11_306 h) q438_M rfl rfl, fun _ h => absurd h List.not_mem_nil⟩, fun _ h => absurd h List.not_mem_nil, fun _ h => absurd h List.not_mem_nil⟩ dkX11_law (by decide +kernel) (by rw [h.2.2.1]; exact q475_ok)
/-- NearSpell.commonDivisor -/
def q476_M : rfM := ((⟨"NearSpell", "commonDivisor", "(II)I"⟩, prog_1_method_51_code, 6, (some .int)), (0,0), ([.inl ((100,100,0),none),.inl ((0,100,1),none)],[]), [], [(some (.inl ((1,100,1),none)),[],[])])
def ddX11_commonDivisor : List (Nat × Instr × Nat) := [(0,.iload_n 0,1),(1,.istore_n 2,1),(2,.iload_n 1,1),(3,.istore_n 3,1),(4,.iconst 0,1),(5,.istore 4,2),(7,.iload 4,2),(9,.bipush 100,2),(11,.if_icmp .ge 23,3),(14,.iload_n 3,1),(15,.ifCond .eq 19,3),(18,.iload_n 2,1),(19,.iload_n 3,1),(20,.irem,1),(21,.istore 5,2),(23,.iload_n 3,1),(24,.istore_n 2,1),(25,.iload 5,2),(27,.istore_n 3,1),(28,.iinc 4 1,3),(31,.goto (-24),3),(34,.iload_n 2,1),(35,.ireturn,1)]
set_option maxRecDepth 100000 in
theorem dkX11_commonDivisor : rf_decs prog_1_method_51_code ddX11_commonDivisor := rf_decs_of (by decide +kernel)
def q476_P : rfP := (flX11,csX11,lcX11,spX11,[],[],[],([],[]))
def q476_U : rfU := []
set_option maxHeartbeats 8000000 in
def q476_N : List rfB := [(0,([(0,.inl ((100,100,0),none)),(1,.inl ((0,100,1),none))],[],[]),(1623,[0]),0),
  (7,([(0,.inl ((100,100,0),none)),(1,.inl ((0,100,1),none)),(2,.inl ((1,100,1),none)),(3,.inl ((0,100,1),none)),(4,.inl ((0,100,1),none))],[],[]),(14,[16]),0),
  (34,([(0,.inl ((100,100,0),none)),(1,.inl ((0,100,1),none)),(2,.inl ((1,100,1),none)),(3,.inl ((0,100,1),none)),(4,.inl ((0,100,1),none))],[],[]),(1,[0]),0)]
set_option maxRecDepth 100000 in
theorem q476_ok : rf_chkB q476_P q476_U wLay q476_M ddX11_commonDivisor [] [.inl 3] [0,7,34] 600 q476_N = true := by decide +kernel
set_option maxHeartbeats 4000000 in
theorem q476_met {G : rfG} (h : okG G) (hh : wHandOK G) : rf_met G q476_M := rf_methodB h.1 (P := q476_P) (U := q476_U) (N := q476_N) ⟨wflT h flokX11, wcsT h csokX11, wlcT h lcokX11, spokX11 h, fun _ h => absurd h List.not_mem_nil, fun _ h => absurd h List.not_mem_nil, fun _ h => absurd h List.not_mem_nil, fun _ h => absurd h List.not_mem_nil, fun _ h => absurd h List.not_mem_nil⟩ dkX11_commonDivisor (by decide +kernel) (by rw [h.2.2.1]; exact q476_ok)
/-- NearSpell.odds -/
def q477_M : rfM := ((⟨"NearSpell", "odds", "(II)I"⟩, prog_1_method_39_code, 8, (some .int)), (1,25), ([.inr (.inl [70]),.inl (((-2147483648),2147483647,1),none),.inl (((-2147483648),2147483647,1),none)],[]), [], [(some (.inl (((-2147483648),2147483647,1),none)),[],[])])
def ddX11_odds : List (Nat × Instr × Nat) := [(0,.iload_n 1,1),(1,.ifCond .lt 17,3),(4,.iload_n 1,1),(5,.iconst 4,1),(6,.if_icmp .gt 12,3),(9,.iload_n 2,1),(10,.ifCond .lt 8,3),(13,.iload_n 2,1),(14,.iconst 1,1),(15,.if_icmp .le 5,3),(18,.iconst (-1),1),(19,.ireturn,1),(20,.bipush 100,2),(22,.aload_n 0,1),(23,.getfield 16,3),(26,.getfield 192,3),(29,.isub,1),(30,.istore_n 3,1),(31,.bipush 100,2),(33,.iload_n 3,1),(34,.invokestatic 315,3),(37,.istore 4,2),(39,.iload_n 2,1),(40,.ifCond .ne 7,3),(43,.iload_n 3,1),(44,.goto 5,3),(47,.bipush 100,2),(49,.istore 5,2),(51,.iload 4,2),(53,.ifCond .le 10,3),(56,.iload 5,2),(58,.iload 4,2),(60,.idiv,1),(61,.istore 5,2),(63,.iconst 1,1),(64,.istore 6,2),(66,.iconst 0,1),(67,.istore 7,2),(69,.iload 7,2),(71,.iload_n 1,1),(72,.if_icmp .ge 16,3),(75,.iload 6,2),(77,.iload 5,2),(79,.imul,1),(80,.istore 6,2),(82,.iinc 7 1,3),(85,.goto (-16),3),(88,.iload 6,2),(90,.ireturn,1)]
set_option maxRecDepth 100000 in
theorem dkX11_odds : rf_decs prog_1_method_39_code ddX11_odds := rf_decs_of (by decide +kernel)
def q477_P : rfP := (flX11,csX11,lcX11,spX11,[q476_M],[(315,0)],[],([],[]))
def q477_U : rfU := []
set_option maxHeartbeats 8000000 in
def q477_N : List rfB := [(0,([(0,.inr (.inl [70])),(1,.inl (((-2147483648),2147483647,1),none)),(2,.inl (((-2147483648),2147483647,1),none))],[],[]),(89,[0]),0),
  (18,([(0,.inr (.inl [70])),(1,.inl (((-2147483648),2147483647,1),none)),(2,.inl (((-2147483648),2147483647,1),none))],[],[]),(1,[0]),0),
  (49,([(0,.inr (.inl [70])),(1,.inl ((0,4,1),none)),(2,.inl ((0,1,1),none)),(3,.inl ((0,100,1),none)),(4,.inl ((1,100,1),none))],[.inl ((0,100,1),none)],[]),(64,[0]),0),
  (69,([(0,.inr (.inl [70])),(1,.inl ((0,4,1),none)),(2,.inl ((0,1,1),none)),(3,.inl ((0,100,1),none)),(4,.inl ((1,100,1),none)),(5,.inl (((-2147483648),2147483647,1),none)),(6,.inl (((-2147483648),2147483647,1),none)),(7,.inl ((0,4,1),none))],[],[]),(51,[(-10)]),0)]
set_option maxRecDepth 100000 in
theorem q477_ok : rf_chkB q477_P q477_U wLay q477_M ddX11_odds [(34,[0])] [.inl 7] [0,18,49,69] 600 q477_N = true := by decide +kernel
set_option maxHeartbeats 4000000 in
theorem q477_met {G : rfG} (h : okG G) (hh : wHandOK G) : rf_met G q477_M := rf_methodB h.1 (P := q477_P) (U := q477_U) (N := q477_N) ⟨wflT h flokX11, wcsT h csokX11, wlcT h lcokX11, spokX11 h, List.forall_mem_cons.mpr ⟨q476_met h hh, fun _ h => absurd h List.not_mem_nil⟩, List.forall_mem_cons.mpr ⟨fun M hM => Option.some.inj (show some q476_M = some M from hM) ▸ wlkS (lkX11_315 h) q476_M rfl rfl, fun _ h => absurd h List.not_mem_nil⟩, fun _ h => absurd h List.not_mem_nil, fun _ h => absurd h List.not_mem_nil, fun _ h => absurd h List.not_mem_nil⟩ dkX11_odds (by decide +kernel) (by rw [h.2.2.1]; exact q477_ok)
/-- NearSpell.lies -/
def q478_M : rfM := ((⟨"NearSpell", "lies", "(I)I"⟩, prog_1_method_40_code, 2, (some .int)), (0,0), ([.inr (.inl [70]),.inl (((-2147483648),2147483647,1),none)],[]), [], [(some (.inl (((-2147483648),2147483647,1),none)),[],[])])
def ddX11_lies : List (Nat × Instr × Nat) := [(0,.iload_n 1,1),(1,.ifCond .lt 29,3),(4,.iload_n 1,1),(5,.aload_n 0,1),(6,.getfield 104,3),(9,.if_icmp .ge 21,3),(12,.iload_n 1,1),(13,.aload_n 0,1),(14,.getfield 96,3),(17,.arraylength,1),(18,.if_icmp .ge 12,3),(21,.aload_n 0,1),(22,.getfield 96,3),(25,.iload_n 1,1),(26,.iaload,1),(27,.goto 5,3),(30,.bipush (-2),2),(32,.ireturn,1)]
set_option maxRecDepth 100000 in
theorem dkX11_lies : rf_decs prog_1_method_40_code ddX11_lies := rf_decs_of (by decide +kernel)
def q478_P : rfP := (flX11,csX11,lcX11,spX11,[],[],[],([],[]))
def q478_U : rfU := []
set_option maxHeartbeats 8000000 in
def q478_N : List rfB := [(0,([(0,.inr (.inl [70])),(1,.inl (((-2147483648),2147483647,1),none))],[],[]),(18,[]),0),
  (30,([(0,.inr (.inl [70])),(1,.inl (((-2147483648),2147483647,1),none))],[],[]),(1,[]),0)]
set_option maxRecDepth 100000 in
theorem q478_ok : rf_chkB q478_P q478_U wLay q478_M ddX11_lies [] [] [0,30] 600 q478_N = true := by decide +kernel
set_option maxHeartbeats 4000000 in
theorem q478_met {G : rfG} (h : okG G) (hh : wHandOK G) : rf_met G q478_M := rf_methodB h.1 (P := q478_P) (U := q478_U) (N := q478_N) ⟨wflT h flokX11, wcsT h csokX11, wlcT h lcokX11, spokX11 h, fun _ h => absurd h List.not_mem_nil, fun _ h => absurd h List.not_mem_nil, fun _ h => absurd h List.not_mem_nil, fun _ h => absurd h List.not_mem_nil, fun _ h => absurd h List.not_mem_nil⟩ dkX11_lies (by decide +kernel) (by rw [h.2.2.1]; exact q478_ok)
/-- NearSpell.Witness.tell -/
def q479_M : rfM := ((⟨"NearSpell$Witness", "tell", "(IIZ)I"⟩, prog_12_method_4_code, 5, (some .int)), (0,0), ([.inr (.inl [68]),.inl ((0,387420488,1),none),.inl ((0,6,1),none),.inl ((0,1,1),none)],[]), [(62,0),(63,0),(64,0),(65,0),(66,0),(68,9)], [(some (.inl (((-1),29,1),none)),[],[])])
def ddX10_tell : List (Nat × Instr × Nat) := [(0,.aload_n 0,1),(1,.getfield 31,3),(4,.istore 4,2),(6,.aload_n 0,1),(7,.getfield 38,3),(10,.getfield 47,3),(13,.ifCond .eq 10,3),(16,.iload 4,2),(18,.bipush 30,2),(20,.if_icmp .lt 5,3),(23,.iconst (-1),1),(24,.ireturn,1),(25,.aload_n 0,1),(26,.getfield 11,3),(29,.iload 4,2),(31,.iload_n 1,1),(32,.iastore,1),(33,.aload_n 0,1),(34,.getfield 15,3),(37,.iload 4,2),(39,.iload_n 2,1),(40,.iastore,1),(41,.aload_n 0,1),(42,.getfield 18,3),(45,.iload 4,2),(47,.iload_n 3,1),(48,.bastore,1),(49,.aload_n 0,1),(50,.getfield 22,3),(53,.iload 4,2),(55,.aload_n 0,1),(56,.getfield 35,3),(59,.iastore,1),(60,.aload_n 0,1),(61,.getfield 25,3),(64,.iload 4,2),(66,.iconst (-1),1),(67,.iastore,1),(68,.aload_n 0,1),(69,.dup,1),(70,.getfield 31,3),(73,.iconst 1,1),(74,.iadd,1),(75,.putfield 31,3),(78,.iload 4,2),(80,.ireturn,1)]
set_option maxRecDepth 100000 in
theorem dkX10_tell : rf_decs prog_12_method_4_code ddX10_tell := rf_decs_of (by decide +kernel)
def q479_P : rfP := (flX10,csX10,lcX10,spX10,[],[],[],([],[]))
def q479_U : rfU := []
set_option maxHeartbeats 8000000 in
def q479_N : List rfB := [(0,([(0,.inr (.inl [68])),(1,.inl ((0,387420488,1),none)),(2,.inl ((0,6,1),none)),(3,.inl ((0,1,1),none))],[],[]),(45,[]),0),
  (23,([(0,.inr (.inl [68])),(1,.inl ((0,387420488,1),none)),(2,.inl ((0,6,1),none)),(3,.inl ((0,1,1),none)),(4,.inl ((0,30,1),some (.inr (68,8),some 0)))],[],[]),(1,[]),0)]
set_option maxRecDepth 100000 in
theorem q479_ok : rf_chkB q479_P q479_U wLay q479_M ddX10_tell [] [] [0,23] 600 q479_N = true := by decide +kernel
set_option maxHeartbeats 4000000 in
theorem q479_met {G : rfG} (h : okG G) (hh : wHandOK G) : rf_met G q479_M := rf_methodB h.1 (P := q479_P) (U := q479_U) (N := q479_N) ⟨wflT h flokX10, wcsT h csokX10, wlcT h lcokX10, spokX10 h, fun _ h => absurd h List.not_mem_nil, fun _ h => absurd h List.not_mem_nil, fun _ h => absurd h List.not_mem_nil, fun _ h => absurd h List.not_mem_nil, fun _ h => absurd h List.not_mem_nil⟩ dkX10_tell (by decide +kernel) (by rw [h.2.2.1]; exact q479_ok)
/-- NearSpell.seen -/
def q480_M : rfM := ((⟨"NearSpell", "seen", "(IIZ)I"⟩, prog_1_method_41_code, 4, (some .int)), (1,24), ([.inr (.inl [70]),.inl (((-2147483648),2147483647,1),none),.inl (((-2147483648),2147483647,1),none),.inl ((0,1,1),none)],[]), [(62,0),(63,0),(64,0),(65,0),(66,0),(68,9)], [(some (.inl (((-1),29,1),none)),[],[])])
def ddX11_seen : List (Nat × Instr × Nat) := [(0,.iload_n 1,1),(1,.invokestatic 163,3),(4,.ifCond .eq 10,3),(7,.iload_n 2,1),(8,.invokestatic 232,3),(11,.ifCond .ne 5,3),(14,.iconst (-1),1),(15,.ireturn,1),(16,.aload_n 0,1),(17,.getfield 92,3),(20,.iload_n 1,1),(21,.iload_n 2,1),(22,.iload_n 3,1),(23,.invokevirtual 318,3),(26,.ireturn,1)]
set_option maxRecDepth 100000 in
theorem dkX11_seen : rf_decs prog_1_method_41_code ddX11_seen := rf_decs_of (by decide +kernel)
def q480_P : rfP := (flX11,csX11,lcX11,spX11,[q159_M,q265_M,q479_M],[(163,0),(232,1)],[(318,2,10)],([],[]))
def q480_U : rfU := []
set_option maxHeartbeats 8000000 in
def q480_N : List rfB := [(0,([(0,.inr (.inl [70])),(1,.inl (((-2147483648),2147483647,1),none)),(2,.inl (((-2147483648),2147483647,1),none)),(3,.inl ((0,1,1),none))],[],[]),(16,[]),0),
  (14,([(0,.inr (.inl [70])),(1,.inl (((-2147483648),2147483647,1),none)),(2,.inl (((-2147483648),2147483647,1),none)),(3,.inl ((0,1,1),none))],[],[]),(1,[]),0)]
set_option maxRecDepth 100000 in
theorem q480_ok : rf_chkB q480_P q480_U wLay q480_M ddX11_seen [(1,[0]),(8,[1]),(23,[2])] [] [0,14] 600 q480_N = true := by decide +kernel
set_option maxHeartbeats 4000000 in
theorem q480_met {G : rfG} (h : okG G) (hh : wHandOK G) : rf_met G q480_M := rf_methodB h.1 (P := q480_P) (U := q480_U) (N := q480_N) ⟨wflT h flokX11, wcsT h csokX11, wlcT h lcokX11, spokX11 h, List.forall_mem_cons.mpr ⟨q159_met h hh, List.forall_mem_cons.mpr ⟨q265_met h hh, List.forall_mem_cons.mpr ⟨q479_met h hh, fun _ h => absurd h List.not_mem_nil⟩⟩⟩, List.forall_mem_cons.mpr ⟨fun M hM => Option.some.inj (show some q159_M = some M from hM) ▸ wlkS (lkX11_163 h) q159_M rfl rfl, List.forall_mem_cons.mpr ⟨fun M hM => Option.some.inj (show some q265_M = some M from hM) ▸ wlkS (lkX11_232 h) q265_M rfl rfl, fun _ h => absurd h List.not_mem_nil⟩⟩, List.forall_mem_cons.mpr ⟨fun M hM => Option.some.inj (show some q479_M = some M from hM) ▸ wlkV (lkX11_318 h) q479_M rfl rfl, fun _ h => absurd h List.not_mem_nil⟩, fun _ h => absurd h List.not_mem_nil, fun _ h => absurd h List.not_mem_nil⟩ dkX11_seen (by decide +kernel) (by rw [h.2.2.1]; exact q480_ok)
/-- NearSpell.Witness.takeBack -/
def q481_M : rfM := ((⟨"NearSpell$Witness", "takeBack", "(I)Z"⟩, prog_12_method_5_code, 2, (some .boolean)), (0,0), ([.inr (.inl [68]),.inl (((-2147483648),2147483647,1),none)],[]), [(66,0)], [(some (.inl ((0,0,0),none)),[],[]),(some (.inl ((1,1,0),none)),[(1,0,29)],[((68,8),(1,30,1),none)])])
def ddX10_takeBack : List (Nat × Instr × Nat) := [(0,.iload_n 1,1),(1,.ifCond .lt 21,3),(4,.iload_n 1,1),(5,.aload_n 0,1),(6,.getfield 31,3),(9,.if_icmp .ge 13,3),(12,.aload_n 0,1),(13,.getfield 25,3),(16,.iload_n 1,1),(17,.iaload,1),(18,.iconst (-1),1),(19,.if_icmp .eq 5,3),(22,.iconst 0,1),(23,.ireturn,1),(24,.aload_n 0,1),(25,.getfield 25,3),(28,.iload_n 1,1),(29,.aload_n 0,1),(30,.getfield 35,3),(33,.iastore,1),(34,.iconst 1,1),(35,.ireturn,1)]
set_option maxRecDepth 100000 in
theorem dkX10_takeBack : rf_decs prog_12_method_5_code ddX10_takeBack := rf_decs_of (by decide +kernel)
def q481_P : rfP := (flX10,csX10,lcX10,spX10,[],[],[],([],[]))
def q481_U : rfU := []
set_option maxHeartbeats 8000000 in
def q481_N : List rfB := [(0,([(0,.inr (.inl [68])),(1,.inl (((-2147483648),2147483647,1),none))],[],[]),(21,[]),0),
  (22,([(0,.inr (.inl [68])),(1,.inl (((-2147483648),2147483647,1),none))],[],[]),(1,[]),0)]
set_option maxRecDepth 100000 in
theorem q481_ok : rf_chkB q481_P q481_U wLay q481_M ddX10_takeBack [] [] [0,22] 600 q481_N = true := by decide +kernel
set_option maxHeartbeats 4000000 in
theorem q481_met {G : rfG} (h : okG G) (hh : wHandOK G) : rf_met G q481_M := rf_methodB h.1 (P := q481_P) (U := q481_U) (N := q481_N) ⟨wflT h flokX10, wcsT h csokX10, wlcT h lcokX10, spokX10 h, fun _ h => absurd h List.not_mem_nil, fun _ h => absurd h List.not_mem_nil, fun _ h => absurd h List.not_mem_nil, fun _ h => absurd h List.not_mem_nil, fun _ h => absurd h List.not_mem_nil⟩ dkX10_takeBack (by decide +kernel) (by rw [h.2.2.1]; exact q481_ok)
/-- NearSpell.untell -/
def q482_M : rfM := ((⟨"NearSpell", "untell", "(I)Z"⟩, prog_1_method_42_code, 2, (some .boolean)), (1,21), ([.inr (.inl [70]),.inl (((-2147483648),2147483647,1),none)],[]), [(66,0)], [(some (.inl ((1,1,0),none)),[(1,0,29)],[((68,8),(1,30,1),none)]),(some (.inl ((0,0,0),none)),[],[])])
def ddX11_untell : List (Nat × Instr × Nat) := [(0,.aload_n 0,1),(1,.getfield 92,3),(4,.iload_n 1,1),(5,.invokevirtual 322,3),(8,.ireturn,1)]
set_option maxRecDepth 100000 in
theorem dkX11_untell : rf_decs prog_1_method_42_code ddX11_untell := rf_decs_of (by decide +kernel)
def q482_P : rfP := (flX11,csX11,lcX11,spX11,[q481_M],[],[(322,0,10)],([],[]))
def q482_U : rfU := []
set_option maxHeartbeats 8000000 in
def q482_N : List rfB := [(0,([(0,.inr (.inl [70])),(1,.inl (((-2147483648),2147483647,1),none))],[],[]),(5,[]),0)]
set_option maxRecDepth 100000 in
theorem q482_ok : rf_chkB q482_P q482_U wLay q482_M ddX11_untell [(5,[0])] [] [0] 600 q482_N = true := by decide +kernel
set_option maxHeartbeats 4000000 in
theorem q482_met {G : rfG} (h : okG G) (hh : wHandOK G) : rf_met G q482_M := rf_methodB h.1 (P := q482_P) (U := q482_U) (N := q482_N) ⟨wflT h flokX11, wcsT h csokX11, wlcT h lcokX11, spokX11 h, List.forall_mem_cons.mpr ⟨q481_met h hh, fun _ h => absurd h List.not_mem_nil⟩, fun _ h => absurd h List.not_mem_nil, List.forall_mem_cons.mpr ⟨fun M hM => Option.some.inj (show some q481_M = some M from hM) ▸ wlkV (lkX11_322 h) q481_M rfl rfl, fun _ h => absurd h List.not_mem_nil⟩, fun _ h => absurd h List.not_mem_nil, fun _ h => absurd h List.not_mem_nil⟩ dkX11_untell (by decide +kernel) (by rw [h.2.2.1]; exact q482_ok)
/-- NearSpell.later -/
def q484_M : rfM := ((⟨"NearSpell", "later", "(I)I"⟩, prog_1_method_43_code, 2, (some .int)), (21,2021), ([.inr (.inl [70]),.inl (((-2147483648),2147483647,1),none)],[]), [(68,10)], [(some (.inl (((-1),100000,1),none)),[],[])])
def ddX11_later : List (Nat × Instr × Nat) := [(0,.aload_n 0,1),(1,.getfield 92,3),(4,.iload_n 1,1),(5,.invokevirtual 324,3),(8,.ireturn,1)]
set_option maxRecDepth 100000 in
theorem dkX11_later : rf_decs prog_1_method_43_code ddX11_later := rf_decs_of (by decide +kernel)
def q484_P : rfP := (flX11,csX11,lcX11,spX11,[q483_M],[],[(324,0,10)],([],[]))
def q484_U : rfU := []
set_option maxHeartbeats 8000000 in
def q484_N : List rfB := [(0,([(0,.inr (.inl [70])),(1,.inl (((-2147483648),2147483647,1),none))],[],[]),(4,[]),0)]
set_option maxRecDepth 100000 in
theorem q484_ok : rf_chkB q484_P q484_U wLay q484_M ddX11_later [(5,[0])] [] [0] 600 q484_N = true := by decide +kernel
set_option maxHeartbeats 4000000 in
theorem q484_met {G : rfG} (h : okG G) (hh : wHandOK G) : rf_met G q484_M := rf_methodB h.1 (P := q484_P) (U := q484_U) (N := q484_N) ⟨wflT h flokX11, wcsT h csokX11, wlcT h lcokX11, spokX11 h, List.forall_mem_cons.mpr ⟨q483_met h hh, fun _ h => absurd h List.not_mem_nil⟩, fun _ h => absurd h List.not_mem_nil, List.forall_mem_cons.mpr ⟨fun M hM => Option.some.inj (show some q483_M = some M from hM) ▸ wlkV (lkX11_324 h) q483_M rfl rfl, fun _ h => absurd h List.not_mem_nil⟩, fun _ h => absurd h List.not_mem_nil, fun _ h => absurd h List.not_mem_nil⟩ dkX11_later (by decide +kernel) (by rw [h.2.2.1]; exact q484_ok)
/-- NearSpell.Witness.countsAt -/
def q485_M : rfM := ((⟨"NearSpell$Witness", "countsAt", "(II)Z"⟩, prog_12_method_6_code, 4, (some .boolean)), (0,0), ([.inr (.inl [68]),.inl ((0,0,0),none),.inl (((-2147483648),2147483647,1),none)],[]), [], [(some (.inl ((1,1,0),none)),[],[]),(some (.inl ((0,0,0),none)),[],[])])
def ddX10_countsAt : List (Nat × Instr × Nat) := [(0,.aload_n 0,1),(1,.getfield 25,3),(4,.iload_n 1,1),(5,.iaload,1),(6,.iconst (-1),1),(7,.if_icmp .eq 17,3),(10,.aload_n 0,1),(11,.getfield 25,3),(14,.iload_n 1,1),(15,.iaload,1),(16,.iload_n 2,1),(17,.if_icmp .gt 7,3),(20,.iconst 1,1),(21,.goto 4,3),(24,.iconst 0,1),(25,.istore_n 3,1),(26,.aload_n 0,1),(27,.getfield 22,3),(30,.iload_n 1,1),(31,.iaload,1),(32,.iload_n 2,1),(33,.if_icmp .gt 11,3),(36,.iload_n 3,1),(37,.ifCond .ne 7,3),(40,.iconst 1,1),(41,.goto 4,3),(44,.iconst 0,1),(45,.ireturn,1)]
set_option maxRecDepth 100000 in
theorem dkX10_countsAt : rf_decs prog_12_method_6_code ddX10_countsAt := rf_decs_of (by decide +kernel)
def q485_P : rfP := (flX10,csX10,lcX10,spX10,[],[],[],([],[]))
def q485_U : rfU := []
set_option maxHeartbeats 8000000 in
def q485_N : List rfB := [(0,([(0,.inr (.inl [68])),(1,.inl ((0,0,0),none)),(2,.inl (((-2147483648),2147483647,1),none))],[],[]),(29,[]),0),
  (24,([(0,.inr (.inl [68])),(1,.inl ((0,0,0),none)),(2,.inl (((-2147483648),2147483647,1),none))],[],[((66,0),((-2147483647),2147483647,1),none)]),(14,[]),0),
  (26,([(0,.inr (.inl [68])),(1,.inl ((0,0,0),none)),(2,.inl (((-2147483648),2147483647,1),none)),(3,.inl ((0,1,1),none))],[],[]),(12,[]),0),
  (44,([(0,.inr (.inl [68])),(1,.inl ((0,0,0),none)),(2,.inl (((-2147483648),2147483647,1),none)),(3,.inl ((0,1,1),none))],[],[]),(1,[]),0)]
set_option maxRecDepth 100000 in
theorem q485_ok : rf_chkB q485_P q485_U wLay q485_M ddX10_countsAt [] [] [0,24,26,44] 600 q485_N = true := by decide +kernel
set_option maxHeartbeats 4000000 in
theorem q485_met {G : rfG} (h : okG G) (hh : wHandOK G) : rf_met G q485_M := rf_methodB h.1 (P := q485_P) (U := q485_U) (N := q485_N) ⟨wflT h flokX10, wcsT h csokX10, wlcT h lcokX10, spokX10 h, fun _ h => absurd h List.not_mem_nil, fun _ h => absurd h List.not_mem_nil, fun _ h => absurd h List.not_mem_nil, fun _ h => absurd h List.not_mem_nil, fun _ h => absurd h List.not_mem_nil⟩ dkX10_countsAt (by decide +kernel) (by rw [h.2.2.1]; exact q485_ok)
/-- NearSpell.Witness.countsAt -/
def q486_M : rfM := ((⟨"NearSpell$Witness", "countsAt", "(II)Z"⟩, prog_12_method_6_code, 4, (some .boolean)), (0,0), ([.inr (.inl [68]),.inl ((0,1,1),none),.inl (((-2147483648),2147483647,1),none)],[]), [], [(some (.inl ((1,1,0),none)),[],[]),(some (.inl ((0,0,0),none)),[],[])])
def q486_P : rfP := (flX10,csX10,lcX10,spX10,[],[],[],([],[]))
def q486_U : rfU := []
set_option maxHeartbeats 8000000 in
def q486_N : List rfB := [(0,([(0,.inr (.inl [68])),(1,.inl ((0,1,1),none)),(2,.inl (((-2147483648),2147483647,1),none))],[],[]),(29,[]),0),
  (24,([(0,.inr (.inl [68])),(1,.inl ((0,1,1),none)),(2,.inl (((-2147483648),2147483647,1),none))],[],[]),(14,[]),0),
  (26,([(0,.inr (.inl [68])),(1,.inl ((0,1,1),none)),(2,.inl (((-2147483648),2147483647,1),none)),(3,.inl ((0,1,1),none))],[],[]),(12,[]),0),
  (44,([(0,.inr (.inl [68])),(1,.inl ((0,1,1),none)),(2,.inl (((-2147483648),2147483647,1),none)),(3,.inl ((0,1,1),none))],[],[]),(1,[]),0)]
set_option maxRecDepth 100000 in
theorem q486_ok : rf_chkB q486_P q486_U wLay q486_M ddX10_countsAt [] [] [0,24,26,44] 600 q486_N = true := by decide +kernel
set_option maxHeartbeats 4000000 in
theorem q486_met {G : rfG} (h : okG G) (hh : wHandOK G) : rf_met G q486_M := rf_methodB h.1 (P := q486_P) (U := q486_U) (N := q486_N) ⟨wflT h flokX10, wcsT h csokX10, wlcT h lcokX10, spokX10 h, fun _ h => absurd h List.not_mem_nil, fun _ h => absurd h List.not_mem_nil, fun _ h => absurd h List.not_mem_nil, fun _ h => absurd h List.not_mem_nil, fun _ h => absurd h List.not_mem_nil⟩ dkX10_countsAt (by decide +kernel) (by rw [h.2.2.1]; exact q486_ok)
/-- NearSpell.Witness.countsAt -/
def q487_M : rfM := ((⟨"NearSpell$Witness", "countsAt", "(II)Z"⟩, prog_12_method_6_code, 4, (some .boolean)), (0,0), ([.inr (.inl [68]),.inl ((0,2,1),none),.inl (((-2147483648),2147483647,1),none)],[]), [], [(some (.inl ((1,1,0),none)),[],[]),(some (.inl ((0,0,0),none)),[],[])])
def q487_P : rfP := (flX10,csX10,lcX10,spX10,[],[],[],([],[]))
def q487_U : rfU := []
set_option maxHeartbeats 8000000 in
def q487_N : List rfB := [(0,([(0,.inr (.inl [68])),(1,.inl ((0,2,1),none)),(2,.inl (((-2147483648),2147483647,1),none))],[],[]),(29,[]),0),
  (24,([(0,.inr (.inl [68])),(1,.inl ((0,2,1),none)),(2,.inl (((-2147483648),2147483647,1),none))],[],[]),(14,[]),0),
  (26,([(0,.inr (.inl [68])),(1,.inl ((0,2,1),none)),(2,.inl (((-2147483648),2147483647,1),none)),(3,.inl ((0,1,1),none))],[],[]),(12,[]),0),
  (44,([(0,.inr (.inl [68])),(1,.inl ((0,2,1),none)),(2,.inl (((-2147483648),2147483647,1),none)),(3,.inl ((0,1,1),none))],[],[]),(1,[]),0)]
set_option maxRecDepth 100000 in
theorem q487_ok : rf_chkB q487_P q487_U wLay q487_M ddX10_countsAt [] [] [0,24,26,44] 600 q487_N = true := by decide +kernel
set_option maxHeartbeats 4000000 in
theorem q487_met {G : rfG} (h : okG G) (hh : wHandOK G) : rf_met G q487_M := rf_methodB h.1 (P := q487_P) (U := q487_U) (N := q487_N) ⟨wflT h flokX10, wcsT h csokX10, wlcT h lcokX10, spokX10 h, fun _ h => absurd h List.not_mem_nil, fun _ h => absurd h List.not_mem_nil, fun _ h => absurd h List.not_mem_nil, fun _ h => absurd h List.not_mem_nil, fun _ h => absurd h List.not_mem_nil⟩ dkX10_countsAt (by decide +kernel) (by rw [h.2.2.1]; exact q487_ok)
/-- NearSpell.Witness.countsAt -/
def q488_M : rfM := ((⟨"NearSpell$Witness", "countsAt", "(II)Z"⟩, prog_12_method_6_code, 4, (some .boolean)), (0,0), ([.inr (.inl [68]),.inl ((0,3,1),none),.inl (((-2147483648),2147483647,1),none)],[]), [], [(some (.inl ((1,1,0),none)),[],[]),(some (.inl ((0,0,0),none)),[],[])])
def q488_P : rfP := (flX10,csX10,lcX10,spX10,[],[],[],([],[]))
def q488_U : rfU := []
set_option maxHeartbeats 8000000 in
def q488_N : List rfB := [(0,([(0,.inr (.inl [68])),(1,.inl ((0,3,1),none)),(2,.inl (((-2147483648),2147483647,1),none))],[],[]),(29,[]),0),
  (24,([(0,.inr (.inl [68])),(1,.inl ((0,3,1),none)),(2,.inl (((-2147483648),2147483647,1),none))],[],[]),(14,[]),0),
  (26,([(0,.inr (.inl [68])),(1,.inl ((0,3,1),none)),(2,.inl (((-2147483648),2147483647,1),none)),(3,.inl ((0,1,1),none))],[],[]),(12,[]),0),
  (44,([(0,.inr (.inl [68])),(1,.inl ((0,3,1),none)),(2,.inl (((-2147483648),2147483647,1),none)),(3,.inl ((0,1,1),none))],[],[]),(1,[]),0)]
set_option maxRecDepth 100000 in
theorem q488_ok : rf_chkB q488_P q488_U wLay q488_M ddX10_countsAt [] [] [0,24,26,44] 600 q488_N = true := by decide +kernel
set_option maxHeartbeats 4000000 in
theorem q488_met {G : rfG} (h : okG G) (hh : wHandOK G) : rf_met G q488_M := rf_methodB h.1 (P := q488_P) (U := q488_U) (N := q488_N) ⟨wflT h flokX10, wcsT h csokX10, wlcT h lcokX10, spokX10 h, fun _ h => absurd h List.not_mem_nil, fun _ h => absurd h List.not_mem_nil, fun _ h => absurd h List.not_mem_nil, fun _ h => absurd h List.not_mem_nil, fun _ h => absurd h List.not_mem_nil⟩ dkX10_countsAt (by decide +kernel) (by rw [h.2.2.1]; exact q488_ok)
/-- NearSpell.Witness.countsAt -/
def q489_M : rfM := ((⟨"NearSpell$Witness", "countsAt", "(II)Z"⟩, prog_12_method_6_code, 4, (some .boolean)), (0,0), ([.inr (.inl [68]),.inl ((0,12,1),none),.inl (((-2147483648),2147483647,1),none)],[]), [], [(some (.inl ((1,1,0),none)),[],[]),(some (.inl ((0,0,0),none)),[],[])])
def q489_P : rfP := (flX10,csX10,lcX10,spX10,[],[],[],([],[]))
def q489_U : rfU := []
set_option maxHeartbeats 8000000 in
def q489_N : List rfB := [(0,([(0,.inr (.inl [68])),(1,.inl ((0,12,1),none)),(2,.inl (((-2147483648),2147483647,1),none))],[],[]),(29,[]),0),
  (24,([(0,.inr (.inl [68])),(1,.inl ((0,12,1),none)),(2,.inl (((-2147483648),2147483647,1),none))],[],[]),(14,[]),0),
  (26,([(0,.inr (.inl [68])),(1,.inl ((0,12,1),none)),(2,.inl (((-2147483648),2147483647,1),none)),(3,.inl ((0,1,1),none))],[],[]),(12,[]),0),
  (44,([(0,.inr (.inl [68])),(1,.inl ((0,12,1),none)),(2,.inl (((-2147483648),2147483647,1),none)),(3,.inl ((0,1,1),none))],[],[]),(1,[]),0)]
set_option maxRecDepth 100000 in
theorem q489_ok : rf_chkB q489_P q489_U wLay q489_M ddX10_countsAt [] [] [0,24,26,44] 600 q489_N = true := by decide +kernel
set_option maxHeartbeats 4000000 in
theorem q489_met {G : rfG} (h : okG G) (hh : wHandOK G) : rf_met G q489_M := rf_methodB h.1 (P := q489_P) (U := q489_U) (N := q489_N) ⟨wflT h flokX10, wcsT h csokX10, wlcT h lcokX10, spokX10 h, fun _ h => absurd h List.not_mem_nil, fun _ h => absurd h List.not_mem_nil, fun _ h => absurd h List.not_mem_nil, fun _ h => absurd h List.not_mem_nil, fun _ h => absurd h List.not_mem_nil⟩ dkX10_countsAt (by decide +kernel) (by rw [h.2.2.1]; exact q489_ok)
/-- NearSpell.Witness.countsAt -/
def q490_M : rfM := ((⟨"NearSpell$Witness", "countsAt", "(II)Z"⟩, prog_12_method_6_code, 4, (some .boolean)), (0,0), ([.inr (.inl [68]),.inl ((0,13,1),none),.inl (((-2147483648),2147483647,1),none)],[]), [], [(some (.inl ((1,1,0),none)),[],[]),(some (.inl ((0,0,0),none)),[],[])])
def q490_P : rfP := (flX10,csX10,lcX10,spX10,[],[],[],([],[]))
def q490_U : rfU := []
set_option maxHeartbeats 8000000 in
def q490_N : List rfB := [(0,([(0,.inr (.inl [68])),(1,.inl ((0,13,1),none)),(2,.inl (((-2147483648),2147483647,1),none))],[],[]),(29,[]),0),
  (24,([(0,.inr (.inl [68])),(1,.inl ((0,13,1),none)),(2,.inl (((-2147483648),2147483647,1),none))],[],[]),(14,[]),0),
  (26,([(0,.inr (.inl [68])),(1,.inl ((0,13,1),none)),(2,.inl (((-2147483648),2147483647,1),none)),(3,.inl ((0,1,1),none))],[],[]),(12,[]),0),
  (44,([(0,.inr (.inl [68])),(1,.inl ((0,13,1),none)),(2,.inl (((-2147483648),2147483647,1),none)),(3,.inl ((0,1,1),none))],[],[]),(1,[]),0)]
set_option maxRecDepth 100000 in
theorem q490_ok : rf_chkB q490_P q490_U wLay q490_M ddX10_countsAt [] [] [0,24,26,44] 600 q490_N = true := by decide +kernel
set_option maxHeartbeats 4000000 in
theorem q490_met {G : rfG} (h : okG G) (hh : wHandOK G) : rf_met G q490_M := rf_methodB h.1 (P := q490_P) (U := q490_U) (N := q490_N) ⟨wflT h flokX10, wcsT h csokX10, wlcT h lcokX10, spokX10 h, fun _ h => absurd h List.not_mem_nil, fun _ h => absurd h List.not_mem_nil, fun _ h => absurd h List.not_mem_nil, fun _ h => absurd h List.not_mem_nil, fun _ h => absurd h List.not_mem_nil⟩ dkX10_countsAt (by decide +kernel) (by rw [h.2.2.1]; exact q490_ok)
/-- NearSpell.Witness.countsAt -/
def q491_M : rfM := ((⟨"NearSpell$Witness", "countsAt", "(II)Z"⟩, prog_12_method_6_code, 4, (some .boolean)), (0,0), ([.inr (.inl [68]),.inl ((0,14,1),none),.inl (((-2147483648),2147483647,1),none)],[]), [], [(some (.inl ((1,1,0),none)),[],[]),(some (.inl ((0,0,0),none)),[],[])])
def q491_P : rfP := (flX10,csX10,lcX10,spX10,[],[],[],([],[]))
def q491_U : rfU := []
set_option maxHeartbeats 8000000 in
def q491_N : List rfB := [(0,([(0,.inr (.inl [68])),(1,.inl ((0,14,1),none)),(2,.inl (((-2147483648),2147483647,1),none))],[],[]),(29,[]),0),
  (24,([(0,.inr (.inl [68])),(1,.inl ((0,14,1),none)),(2,.inl (((-2147483648),2147483647,1),none))],[],[]),(14,[]),0),
  (26,([(0,.inr (.inl [68])),(1,.inl ((0,14,1),none)),(2,.inl (((-2147483648),2147483647,1),none)),(3,.inl ((0,1,1),none))],[],[]),(12,[]),0),
  (44,([(0,.inr (.inl [68])),(1,.inl ((0,14,1),none)),(2,.inl (((-2147483648),2147483647,1),none)),(3,.inl ((0,1,1),none))],[],[]),(1,[]),0)]
set_option maxRecDepth 100000 in
theorem q491_ok : rf_chkB q491_P q491_U wLay q491_M ddX10_countsAt [] [] [0,24,26,44] 600 q491_N = true := by decide +kernel
set_option maxHeartbeats 4000000 in
theorem q491_met {G : rfG} (h : okG G) (hh : wHandOK G) : rf_met G q491_M := rf_methodB h.1 (P := q491_P) (U := q491_U) (N := q491_N) ⟨wflT h flokX10, wcsT h csokX10, wlcT h lcokX10, spokX10 h, fun _ h => absurd h List.not_mem_nil, fun _ h => absurd h List.not_mem_nil, fun _ h => absurd h List.not_mem_nil, fun _ h => absurd h List.not_mem_nil, fun _ h => absurd h List.not_mem_nil⟩ dkX10_countsAt (by decide +kernel) (by rw [h.2.2.1]; exact q491_ok)
/-- NearSpell.Witness.countsAt -/
def q492_M : rfM := ((⟨"NearSpell$Witness", "countsAt", "(II)Z"⟩, prog_12_method_6_code, 4, (some .boolean)), (0,0), ([.inr (.inl [68]),.inl ((0,26,1),none),.inl (((-2147483648),2147483647,1),none)],[]), [], [(some (.inl ((1,1,0),none)),[],[]),(some (.inl ((0,0,0),none)),[],[])])
def q492_P : rfP := (flX10,csX10,lcX10,spX10,[],[],[],([],[]))
def q492_U : rfU := []
set_option maxHeartbeats 8000000 in
def q492_N : List rfB := [(0,([(0,.inr (.inl [68])),(1,.inl ((0,26,1),none)),(2,.inl (((-2147483648),2147483647,1),none))],[],[]),(29,[]),0),
  (24,([(0,.inr (.inl [68])),(1,.inl ((0,26,1),none)),(2,.inl (((-2147483648),2147483647,1),none))],[],[]),(14,[]),0),
  (26,([(0,.inr (.inl [68])),(1,.inl ((0,26,1),none)),(2,.inl (((-2147483648),2147483647,1),none)),(3,.inl ((0,1,1),none))],[],[]),(12,[]),0),
  (44,([(0,.inr (.inl [68])),(1,.inl ((0,26,1),none)),(2,.inl (((-2147483648),2147483647,1),none)),(3,.inl ((0,1,1),none))],[],[]),(1,[]),0)]
set_option maxRecDepth 100000 in
theorem q492_ok : rf_chkB q492_P q492_U wLay q492_M ddX10_countsAt [] [] [0,24,26,44] 600 q492_N = true := by decide +kernel
set_option maxHeartbeats 4000000 in
theorem q492_met {G : rfG} (h : okG G) (hh : wHandOK G) : rf_met G q492_M := rf_methodB h.1 (P := q492_P) (U := q492_U) (N := q492_N) ⟨wflT h flokX10, wcsT h csokX10, wlcT h lcokX10, spokX10 h, fun _ h => absurd h List.not_mem_nil, fun _ h => absurd h List.not_mem_nil, fun _ h => absurd h List.not_mem_nil, fun _ h => absurd h List.not_mem_nil, fun _ h => absurd h List.not_mem_nil⟩ dkX10_countsAt (by decide +kernel) (by rw [h.2.2.1]; exact q492_ok)
/-- NearSpell.Witness.countsAt -/
def q493_M : rfM := ((⟨"NearSpell$Witness", "countsAt", "(II)Z"⟩, prog_12_method_6_code, 4, (some .boolean)), (0,0), ([.inr (.inl [68]),.inl ((0,29,1),none),.inl (((-2147483648),2147483647,1),none)],[]), [], [(some (.inl ((1,1,0),none)),[],[]),(some (.inl ((0,0,0),none)),[],[])])
def q493_P : rfP := (flX10,csX10,lcX10,spX10,[],[],[],([],[]))
def q493_U : rfU := []
set_option maxHeartbeats 8000000 in
def q493_N : List rfB := [(0,([(0,.inr (.inl [68])),(1,.inl ((0,29,1),none)),(2,.inl (((-2147483648),2147483647,1),none))],[],[]),(29,[]),0),
  (24,([(0,.inr (.inl [68])),(1,.inl ((0,29,1),none)),(2,.inl (((-2147483648),2147483647,1),none))],[],[]),(14,[]),0),
  (26,([(0,.inr (.inl [68])),(1,.inl ((0,29,1),none)),(2,.inl (((-2147483648),2147483647,1),none)),(3,.inl ((0,1,1),none))],[],[]),(12,[]),0),
  (44,([(0,.inr (.inl [68])),(1,.inl ((0,29,1),none)),(2,.inl (((-2147483648),2147483647,1),none)),(3,.inl ((0,1,1),none))],[],[]),(1,[]),0)]
set_option maxRecDepth 100000 in
theorem q493_ok : rf_chkB q493_P q493_U wLay q493_M ddX10_countsAt [] [] [0,24,26,44] 600 q493_N = true := by decide +kernel
set_option maxHeartbeats 4000000 in
theorem q493_met {G : rfG} (h : okG G) (hh : wHandOK G) : rf_met G q493_M := rf_methodB h.1 (P := q493_P) (U := q493_U) (N := q493_N) ⟨wflT h flokX10, wcsT h csokX10, wlcT h lcokX10, spokX10 h, fun _ h => absurd h List.not_mem_nil, fun _ h => absurd h List.not_mem_nil, fun _ h => absurd h List.not_mem_nil, fun _ h => absurd h List.not_mem_nil, fun _ h => absurd h List.not_mem_nil⟩ dkX10_countsAt (by decide +kernel) (by rw [h.2.2.1]; exact q493_ok)
/-- NearSpell.Witness.isFitting -/
def q494_M : rfM := ((⟨"NearSpell$Witness", "isFitting", "(II)Z"⟩, prog_12_method_8_code, 4, (some .boolean)), (4,91), ([.inr (.inl [68]),.inl (((-2147483648),2147483647,1),none),.inl (((-2147483648),2147483647,1),none)],[]), [(17,0),(18,0),(19,0),(20,4),(20,5)], [(some (.inl ((0,0,0),none)),[],[((20,3),(0,6,1),none),((20,4),(0,6,1),none),((68,8),(1,30,1),none)]),(some (.inl ((1,1,0),none)),[],[((20,3),(0,6,1),none),((20,4),(0,6,1),none)])])
def ddX10_isFitting : List (Nat × Instr × Nat) := [(0,.aload_n 0,1),(1,.getfield 42,3),(4,.iload_n 1,1),(5,.invokevirtual 59,3),(8,.iconst 0,1),(9,.istore_n 3,1),(10,.iload_n 3,1),(11,.aload_n 0,1),(12,.getfield 31,3),(15,.if_icmp .ge 56,3),(18,.aload_n 0,1),(19,.iload_n 3,1),(20,.iload_n 2,1),(21,.invokevirtual 65,3),(24,.ifCond .eq 41,3),(27,.aload_n 0,1),(28,.getfield 42,3),(31,.aload_n 0,1),(32,.getfield 11,3),(35,.iload_n 3,1),(36,.iaload,1),(37,.invokevirtual 68,3),(40,.aload_n 0,1),(41,.getfield 15,3),(44,.iload_n 3,1),(45,.iaload,1),(46,.if_icmp .gt 7,3),(49,.iconst 1,1),(50,.goto 4,3),(53,.iconst 0,1),(54,.aload_n 0,1),(55,.getfield 18,3),(58,.iload_n 3,1),(59,.baload,1),(60,.if_icmp .eq 5,3),(63,.iconst 0,1),(64,.ireturn,1),(65,.iinc 3 1,3),(68,.goto (-58),3),(71,.iconst 1,1),(72,.ireturn,1)]
set_option maxRecDepth 100000 in
theorem dkX10_isFitting : rf_decs prog_12_method_8_code ddX10_isFitting := rf_decs_of (by decide +kernel)
def q494_P : rfP := (flX10,csX10,lcX10,spX10,[q285_M,q493_M,q197_M],[],[(59,0,7),(65,1,10),(68,2,7)],([],[]))
def q494_U : rfU := []
set_option maxHeartbeats 8000000 in
def q494_N : List rfB := [(0,([(0,.inr (.inl [68])),(1,.inl (((-2147483648),2147483647,1),none)),(2,.inl (((-2147483648),2147483647,1),none))],[],[]),(1187,[0]),0),
  (10,([(0,.inr (.inl [68])),(1,.inl (((-2147483648),2147483647,1),none)),(2,.inl (((-2147483648),2147483647,1),none)),(3,.inl ((0,30,1),none))],[],[((20,3),(0,6,1),none),((20,4),(0,6,1),none)]),(1179,[(-38)]),0),
  (65,([(0,.inr (.inl [68])),(1,.inl (((-2147483648),2147483647,1),none)),(2,.inl (((-2147483648),2147483647,1),none)),(3,.inl ((0,29,1),none))],[],[((20,3),(0,6,1),none),((20,4),(0,6,1),none),((68,8),(1,30,1),none)]),(1144,[(-38)]),0),
  (63,([(0,.inr (.inl [68])),(1,.inl (((-2147483648),2147483647,1),none)),(2,.inl (((-2147483648),2147483647,1),none)),(3,.inl ((0,29,1),none))],[],[((20,3),(0,6,1),none),((20,4),(0,6,1),none),((68,8),(1,30,1),none)]),(3,[0]),0)]
set_option maxRecDepth 100000 in
theorem q494_ok : rf_chkB q494_P q494_U wLay q494_M ddX10_isFitting [(5,[0]),(21,[1]),(37,[2])] [.inl 3] [0,10,63,65] 600 q494_N = true := by decide +kernel
set_option maxHeartbeats 4000000 in
theorem q494_met {G : rfG} (h : okG G) (hh : wHandOK G) : rf_met G q494_M := rf_methodB h.1 (P := q494_P) (U := q494_U) (N := q494_N) ⟨wflT h flokX10, wcsT h csokX10, wlcT h lcokX10, spokX10 h, List.forall_mem_cons.mpr ⟨q285_met h hh, List.forall_mem_cons.mpr ⟨q493_met h hh, List.forall_mem_cons.mpr ⟨q197_met h hh, fun _ h => absurd h List.not_mem_nil⟩⟩⟩, fun _ h => absurd h List.not_mem_nil, List.forall_mem_cons.mpr ⟨fun M hM => Option.some.inj (show some q285_M = some M from hM) ▸ wlkV (lkX10_59 h) q285_M rfl rfl, List.forall_mem_cons.mpr ⟨fun M hM => Option.some.inj (show some q493_M = some M from hM) ▸ wlkV (lkX10_65 h) q493_M rfl rfl, List.forall_mem_cons.mpr ⟨fun M hM => Option.some.inj (show some q197_M = some M from hM) ▸ wlkV (lkX10_68 h) q197_M rfl rfl, fun _ h => absurd h List.not_mem_nil⟩⟩⟩, fun _ h => absurd h List.not_mem_nil, fun _ h => absurd h List.not_mem_nil⟩ dkX10_isFitting (by decide +kernel) (by rw [h.2.2.1]; exact q494_ok)
/-- NearSpell.Witness.fitting -/
def q495_M : rfM := ((⟨"NearSpell$Witness", "fitting", "(I)I"⟩, prog_12_method_7_code, 4, (some .int)), (5,114), ([.inr (.inl [68]),.inl (((-2147483648),2147483647,1),none)],[]), [(17,0),(18,0),(19,0),(20,4),(20,5)], [(some (.inl ((0,2147483647,1),none)),[],[])])
def ddX10_fitting : List (Nat × Instr × Nat) := [(0,.iconst 0,1),(1,.istore_n 2,1),(2,.iconst 0,1),(3,.istore_n 3,1),(4,.iload_n 3,1),(5,.aload_n 0,1),(6,.getfield 38,3),(9,.getfield 47,3),(12,.if_icmp .ge 32,3),(15,.aload_n 0,1),(16,.aload_n 0,1),(17,.getfield 38,3),(20,.getfield 52,3),(23,.iload_n 3,1),(24,.iaload,1),(25,.iload_n 1,1),(26,.invokevirtual 55,3),(29,.ifCond .eq 9,3),(32,.iload_n 2,1),(33,.iconst 1,1),(34,.iload_n 3,1),(35,.ishl,1),(36,.ior,1),(37,.istore_n 2,1),(38,.iinc 3 1,3),(41,.goto (-37),3),(44,.iload_n 2,1),(45,.ireturn,1)]
set_option maxRecDepth 100000 in
theorem dkX10_fitting : rf_decs prog_12_method_7_code ddX10_fitting := rf_decs_of (by decide +kernel)
def q495_P : rfP := (flX10,csX10,lcX10,spX10,[q494_M],[],[(55,0,10)],([],[]))
def q495_U : rfU := []
set_option maxHeartbeats 8000000 in
def q495_N : List rfB := [(0,([(0,.inr (.inl [68])),(1,.inl (((-2147483648),2147483647,1),none))],[],[]),(269,[0]),0),
  (4,([(0,.inr (.inl [68])),(1,.inl (((-2147483648),2147483647,1),none)),(2,.inl ((0,2147483647,1),none)),(3,.inl ((0,10,1),none))],[],[]),(263,[(-24)]),0),
  (38,([(0,.inr (.inl [68])),(1,.inl (((-2147483648),2147483647,1),none)),(2,.inl ((0,2147483647,1),none)),(3,.inl ((0,9,1),none))],[],[((5,4),(1,10,1),none),((20,3),(0,6,1),none),((20,4),(0,6,1),none)]),(242,[(-24)]),0)]
set_option maxRecDepth 100000 in
theorem q495_ok : rf_chkB q495_P q495_U wLay q495_M ddX10_fitting [(26,[0])] [.inl 3] [0,4,38] 600 q495_N = true := by decide +kernel
set_option maxHeartbeats 4000000 in
theorem q495_met {G : rfG} (h : okG G) (hh : wHandOK G) : rf_met G q495_M := rf_methodB h.1 (P := q495_P) (U := q495_U) (N := q495_N) ⟨wflT h flokX10, wcsT h csokX10, wlcT h lcokX10, spokX10 h, List.forall_mem_cons.mpr ⟨q494_met h hh, fun _ h => absurd h List.not_mem_nil⟩, fun _ h => absurd h List.not_mem_nil, List.forall_mem_cons.mpr ⟨fun M hM => Option.some.inj (show some q494_M = some M from hM) ▸ wlkV (lkX10_55 h) q494_M rfl rfl, fun _ h => absurd h List.not_mem_nil⟩, fun _ h => absurd h List.not_mem_nil, fun _ h => absurd h List.not_mem_nil⟩ dkX10_fitting (by decide +kernel) (by rw [h.2.2.1]; exact q495_ok)
/-- NearSpell.fits -/
def q496_M : rfM := ((⟨"NearSpell", "fits", "(I)I"⟩, prog_1_method_44_code, 2, (some .int)), (6,137), ([.inr (.inl [70]),.inl (((-2147483648),2147483647,1),none)],[]), [(17,0),(18,0),(19,0),(20,4),(20,5)], [(some (.inl ((0,2147483647,1),none)),[],[])])
def ddX11_fits : List (Nat × Instr × Nat) := [(0,.aload_n 0,1),(1,.getfield 92,3),(4,.iload_n 1,1),(5,.invokevirtual 327,3),(8,.ireturn,1)]
set_option maxRecDepth 100000 in
theorem dkX11_fits : rf_decs prog_1_method_44_code ddX11_fits := rf_decs_of (by decide +kernel)
def q496_P : rfP := (flX11,csX11,lcX11,spX11,[q495_M],[],[(327,0,10)],([],[]))
def q496_U : rfU := []
set_option maxHeartbeats 8000000 in
def q496_N : List rfB := [(0,([(0,.inr (.inl [70])),(1,.inl (((-2147483648),2147483647,1),none))],[],[]),(4,[]),0)]
set_option maxRecDepth 100000 in
theorem q496_ok : rf_chkB q496_P q496_U wLay q496_M ddX11_fits [(5,[0])] [] [0] 600 q496_N = true := by decide +kernel
set_option maxHeartbeats 4000000 in
theorem q496_met {G : rfG} (h : okG G) (hh : wHandOK G) : rf_met G q496_M := rf_methodB h.1 (P := q496_P) (U := q496_U) (N := q496_N) ⟨wflT h flokX11, wcsT h csokX11, wlcT h lcokX11, spokX11 h, List.forall_mem_cons.mpr ⟨q495_met h hh, fun _ h => absurd h List.not_mem_nil⟩, fun _ h => absurd h List.not_mem_nil, List.forall_mem_cons.mpr ⟨fun M hM => Option.some.inj (show some q495_M = some M from hM) ▸ wlkV (lkX11_327 h) q495_M rfl rfl, fun _ h => absurd h List.not_mem_nil⟩, fun _ h => absurd h List.not_mem_nil, fun _ h => absurd h List.not_mem_nil⟩ dkX11_fits (by decide +kernel) (by rw [h.2.2.1]; exact q496_ok)
/-- NearSpell.Witness.mostLeftBy -/
def q497_M : rfM := ((⟨"NearSpell$Witness", "mostLeftBy", "(II)I"⟩, prog_12_method_10_code, 6, (some .int)), (4,91), ([.inr (.inl [68]),.inl (((-2147483648),2147483647,1),none),.inl ((1,2147483647,1),none)],[]), [(17,0),(18,0),(19,0),(20,4),(20,5),(67,0)], [(some (.inl ((0,2147483647,1),none)),[],[((20,3),(0,6,1),none),((20,4),(0,6,1),none)])])
def ddX10_mostLeftBy : List (Nat × Instr × Nat) := [(0,.iconst 0,1),(1,.istore_n 3,1),(2,.iload_n 3,1),(3,.aload_n 0,1),(4,.getfield 28,3),(7,.arraylength,1),(8,.if_icmp .ge 16,3),(11,.aload_n 0,1),(12,.getfield 28,3),(15,.iload_n 3,1),(16,.iconst 0,1),(17,.iastore,1),(18,.iinc 3 1,3),(21,.goto (-19),3),(24,.aload_n 0,1),(25,.getfield 42,3),(28,.iload_n 1,1),(29,.invokevirtual 59,3),(32,.iconst 0,1),(33,.istore_n 3,1),(34,.iconst 0,1),(35,.istore 4,2),(37,.iload 4,2),(39,.aload_n 0,1),(40,.getfield 38,3),(43,.getfield 47,3),(46,.if_icmp .ge 79,3),(49,.iload_n 2,1),(50,.iload 4,2),(52,.ishr,1),(53,.iconst 1,1),(54,.iand,1),(55,.ifCond .eq 23,3),(58,.aload_n 0,1),(59,.getfield 42,3),(62,.aload_n 0,1),(63,.getfield 38,3),(66,.getfield 52,3),(69,.iload 4,2),(71,.iaload,1),(72,.invokevirtual 68,3),(75,.goto 4,3),(78,.iconst (-1),1),(79,.istore 5,2),(81,.iload 5,2),(83,.ifCond .lt 36,3),(86,.iload 5,2),(88,.aload_n 0,1),(89,.getfield 28,3),(92,.arraylength,1),(93,.if_icmp .ge 26,3),(96,.aload_n 0,1),(97,.getfield 28,3),(100,.iload 5,2),(102,.dup2,1),(103,.iaload,1),(104,.iconst 1,1),(105,.iadd,1),(106,.iastore,1),(107,.iload_n 3,1),(108,.aload_n 0,1),(109,.getfield 28,3),(112,.iload 5,2),(114,.iaload,1),(115,.invokestatic 79,3),(118,.istore_n 3,1),(119,.iinc 4 1,3),(122,.goto (-85),3),(125,.iload_n 3,1),(126,.ireturn,1)]
set_option maxRecDepth 100000 in
theorem dkX10_mostLeftBy : rf_decs prog_12_method_10_code ddX10_mostLeftBy := rf_decs_of (by decide +kernel)
def q497_P : rfP := (flX10,csX10,lcX10,spX10,[q285_M,q197_M],[],[(59,0,7),(68,1,7)],([],[(79,0)]))
def q497_U : rfU := []
set_option maxHeartbeats 8000000 in
def q497_N : List rfB := [(0,([(0,.inr (.inl [68])),(1,.inl (((-2147483648),2147483647,1),none)),(2,.inl ((1,2147483647,1),none))],[],[]),(643,[0,0]),0),
  (2,([(0,.inr (.inl [68])),(1,.inl (((-2147483648),2147483647,1),none)),(2,.inl ((1,2147483647,1),none)),(3,.inl ((0,7,1),none))],[],[]),(639,[(-13),0]),0),
  (37,([(0,.inr (.inl [68])),(1,.inl (((-2147483648),2147483647,1),none)),(2,.inl ((1,2147483647,1),none)),(3,.inl ((0,2147483647,1),none)),(4,.inl ((0,10,1),none))],[],[((20,3),(0,6,1),none),((20,4),(0,6,1),none)]),(527,[0,(-48)]),0),
  (81,([(0,.inr (.inl [68])),(1,.inl (((-2147483648),2147483647,1),none)),(2,.inl ((1,2147483647,1),none)),(3,.inl ((0,2147483647,1),none)),(4,.inl ((0,9,1),none)),(5,.inl (((-2147483648),2147483647,1),none))],[],[((5,4),(1,10,1),none),((20,3),(0,6,1),none),((20,4),(0,6,1),none)]),(504,[0,(-48)]),0),
  (119,([(0,.inr (.inl [68])),(1,.inl (((-2147483648),2147483647,1),none)),(2,.inl ((1,2147483647,1),none)),(3,.inl ((0,2147483647,1),none)),(4,.inl ((0,9,1),none)),(5,.inl (((-2147483648),2147483647,1),none))],[],[((5,4),(1,10,1),none),((20,3),(0,6,1),none),((20,4),(0,6,1),none)]),(482,[0,(-48)]),0)]
set_option maxRecDepth 100000 in
theorem q497_ok : rf_chkB q497_P q497_U wLay q497_M ddX10_mostLeftBy [(29,[0]),(72,[1])] [.inl 3,.inl 4] [0,2,37,81,119] 600 q497_N = true := by decide +kernel
set_option maxHeartbeats 4000000 in
theorem q497_met {G : rfG} (h : okG G) (hh : wHandOK G) : rf_met G q497_M := rf_methodB h.1 (P := q497_P) (U := q497_U) (N := q497_N) ⟨wflT h flokX10, wcsT h csokX10, wlcT h lcokX10, spokX10 h, List.forall_mem_cons.mpr ⟨q285_met h hh, List.forall_mem_cons.mpr ⟨q197_met h hh, fun _ h => absurd h List.not_mem_nil⟩⟩, fun _ h => absurd h List.not_mem_nil, List.forall_mem_cons.mpr ⟨fun M hM => Option.some.inj (show some q285_M = some M from hM) ▸ wlkV (lkX10_59 h) q285_M rfl rfl, List.forall_mem_cons.mpr ⟨fun M hM => Option.some.inj (show some q197_M = some M from hM) ▸ wlkV (lkX10_68 h) q197_M rfl rfl, fun _ h => absurd h List.not_mem_nil⟩⟩, fun _ h => absurd h List.not_mem_nil, List.forall_mem_cons.mpr ⟨⟨wmT h (wmem (i := 130) (by decide +kernel) (by decide +kernel)), fun _ => ⟨wmT h (wmem (i := 1377) (by decide +kernel) (by decide +kernel)), wmT h (wmem (i := 652) (by decide +kernel) (by decide +kernel)), wmT h (wmem (i := 653) (by decide +kernel) (by decide +kernel))⟩, fun h => absurd h (by decide), fun h => absurd h (by decide)⟩, fun _ h => absurd h List.not_mem_nil⟩⟩ dkX10_mostLeftBy (by decide +kernel) (by rw [h.2.2.1]; exact q497_ok)
/-- NearSpell.Witness.bestToAsk -/
def q498_M : rfM := ((⟨"NearSpell$Witness", "bestToAsk", "(II)I"⟩, prog_12_method_9_code, 8, (some .int)), (6,137), ([.inr (.inl [68]),.inl ((0,1,1),none),.inl (((-2147483648),2147483647,1),none)],[]), [(17,0),(18,0),(19,0),(20,4),(20,5),(67,0)], [(some (.inl (((-1),11,1),none)),[],[])])
def ddX10_bestToAsk : List (Nat × Instr × Nat) := [(0,.aload_n 0,1),(1,.iload_n 2,1),(2,.invokevirtual 72,3),(5,.istore_n 3,1),(6,.iload_n 3,1),(7,.ifCond .ne 5,3),(10,.iconst (-1),1),(11,.ireturn,1),(12,.iconst (-1),1),(13,.istore 4,2),(15,.bipush 11,2),(17,.istore 5,2),(19,.iconst 0,1),(20,.istore 6,2),(22,.iload 6,2),(24,.aload_n 0,1),(25,.getfield 38,3),(28,.getfield 47,3),(31,.if_icmp .ge 41,3),(34,.aload_n 0,1),(35,.aload_n 0,1),(36,.getfield 38,3),(39,.getfield 52,3),(42,.iload 6,2),(44,.iaload,1),(45,.iload_n 3,1),(46,.invokevirtual 75,3),(49,.istore 7,2),(51,.iload 7,2),(53,.iload 5,2),(55,.if_icmp .ge 11,3),(58,.iload 6,2),(60,.istore 4,2),(62,.iload 7,2),(64,.istore 5,2),(66,.iinc 6 1,3),(69,.goto (-47),3),(72,.iload_n 1,1),(73,.ifCond .ne 8,3),(76,.iload 4,2),(78,.goto 5,3),(81,.iload 5,2),(83,.ireturn,1)]
set_option maxRecDepth 100000 in
theorem dkX10_bestToAsk : rf_decs prog_12_method_9_code ddX10_bestToAsk := rf_decs_of (by decide +kernel)
def q498_P : rfP := (flX10,csX10,lcX10,spX10,[q495_M,q497_M],[],[(72,0,10),(75,1,10)],([],[]))
def q498_U : rfU := []
set_option maxHeartbeats 8000000 in
def q498_N : List rfB := [(0,([(0,.inr (.inl [68])),(1,.inl ((0,1,1),none)),(2,.inl (((-2147483648),2147483647,1),none))],[],[]),(283,[0]),0),
  (22,([(0,.inr (.inl [68])),(1,.inl ((0,1,1),none)),(2,.inl (((-2147483648),2147483647,1),none)),(3,.inl ((1,2147483647,1),none)),(4,.inl (((-1),9,1),none)),(5,.inl ((0,11,1),none)),(6,.inl ((0,10,1),none))],[],[]),(267,[(-24)]),0),
  (66,([(0,.inr (.inl [68])),(1,.inl ((0,1,1),none)),(2,.inl (((-2147483648),2147483647,1),none)),(3,.inl ((1,2147483647,1),none)),(4,.inl (((-1),9,1),none)),(5,.inl ((0,11,1),none)),(6,.inl ((0,9,1),none)),(7,.inl ((0,2147483647,1),none))],[],[((5,4),(1,10,1),none),((20,3),(0,6,1),none),((20,4),(0,6,1),none)]),(246,[(-24)]),0),
  (83,([(0,.inr (.inl [68])),(1,.inl ((0,1,1),none)),(2,.inl (((-2147483648),2147483647,1),none)),(3,.inl ((1,2147483647,1),none)),(4,.inl (((-1),9,1),none)),(5,.inl ((0,11,1),none)),(6,.inl ((0,10,1),none))],[.inl (((-1),11,1),none)],[]),(0,[0]),0)]
set_option maxRecDepth 100000 in
theorem q498_ok : rf_chkB q498_P q498_U wLay q498_M ddX10_bestToAsk [(2,[0]),(46,[1])] [.inl 6] [0,22,66,83] 600 q498_N = true := by decide +kernel
set_option maxHeartbeats 4000000 in
theorem q498_met {G : rfG} (h : okG G) (hh : wHandOK G) : rf_met G q498_M := rf_methodB h.1 (P := q498_P) (U := q498_U) (N := q498_N) ⟨wflT h flokX10, wcsT h csokX10, wlcT h lcokX10, spokX10 h, List.forall_mem_cons.mpr ⟨q495_met h hh, List.forall_mem_cons.mpr ⟨q497_met h hh, fun _ h => absurd h List.not_mem_nil⟩⟩, fun _ h => absurd h List.not_mem_nil, List.forall_mem_cons.mpr ⟨fun M hM => Option.some.inj (show some q495_M = some M from hM) ▸ wlkV (lkX10_72 h) q495_M rfl rfl, List.forall_mem_cons.mpr ⟨fun M hM => Option.some.inj (show some q497_M = some M from hM) ▸ wlkV (lkX10_75 h) q497_M rfl rfl, fun _ h => absurd h List.not_mem_nil⟩⟩, fun _ h => absurd h List.not_mem_nil, fun _ h => absurd h List.not_mem_nil⟩ dkX10_bestToAsk (by decide +kernel) (by rw [h.2.2.1]; exact q498_ok)
/-- NearSpell.ask -/
def q499_M : rfM := ((⟨"NearSpell", "ask", "(II)I"⟩, prog_1_method_45_code, 3, (some .int)), (7,164), ([.inr (.inl [70]),.inl (((-2147483648),2147483647,1),none),.inl (((-2147483648),2147483647,1),none)],[]), [(17,0),(18,0),(19,0),(20,4),(20,5),(67,0)], [(some (.inl (((-1),11,1),none)),[],[])])
def ddX11_ask : List (Nat × Instr × Nat) := [(0,.iload_n 1,1),(1,.ifCond .lt 8,3),(4,.iload_n 1,1),(5,.iconst 1,1),(6,.if_icmp .le 5,3),(9,.iconst (-1),1),(10,.ireturn,1),(11,.aload_n 0,1),(12,.getfield 92,3),(15,.iload_n 1,1),(16,.iload_n 2,1),(17,.invokevirtual 330,3),(20,.ireturn,1)]
set_option maxRecDepth 100000 in
theorem dkX11_ask : rf_decs prog_1_method_45_code ddX11_ask := rf_decs_of (by decide +kernel)
def q499_P : rfP := (flX11,csX11,lcX11,spX11,[q498_M],[],[(330,0,10)],([],[]))
def q499_U : rfU := []
set_option maxHeartbeats 8000000 in
def q499_N : List rfB := [(0,([(0,.inr (.inl [70])),(1,.inl (((-2147483648),2147483647,1),none)),(2,.inl (((-2147483648),2147483647,1),none))],[],[]),(12,[]),0),
  (9,([(0,.inr (.inl [70])),(1,.inl (((-2147483648),2147483647,1),none)),(2,.inl (((-2147483648),2147483647,1),none))],[],[]),(1,[]),0)]
set_option maxRecDepth 100000 in
theorem q499_ok : rf_chkB q499_P q499_U wLay q499_M ddX11_ask [(17,[0])] [] [0,9] 600 q499_N = true := by decide +kernel
set_option maxHeartbeats 4000000 in
theorem q499_met {G : rfG} (h : okG G) (hh : wHandOK G) : rf_met G q499_M := rf_methodB h.1 (P := q499_P) (U := q499_U) (N := q499_N) ⟨wflT h flokX11, wcsT h csokX11, wlcT h lcokX11, spokX11 h, List.forall_mem_cons.mpr ⟨q498_met h hh, fun _ h => absurd h List.not_mem_nil⟩, fun _ h => absurd h List.not_mem_nil, List.forall_mem_cons.mpr ⟨fun M hM => Option.some.inj (show some q498_M = some M from hM) ▸ wlkV (lkX11_330 h) q498_M rfl rfl, fun _ h => absurd h List.not_mem_nil⟩, fun _ h => absurd h List.not_mem_nil, fun _ h => absurd h List.not_mem_nil⟩ dkX11_ask (by decide +kernel) (by rw [h.2.2.1]; exact q499_ok)
/-- NearSpell.Archive.keepBox -/
def q500_M : rfM := ((⟨"NearSpell$Archive", "keepBox", "(ILNearSpell$State;)V"⟩, prog_2_method_10_code, 3, none), (1,18), ([.inr (.inl [16]),.inl ((0,2,1),none),.inr (.inl [13])],[]), [(15,0),(16,3)], [(none,[],[])])
def ddX0_keepBox : List (Nat × Instr × Nat) := [(0,.iload_n 1,1),(1,.ifCond .lt 38,3),(4,.iload_n 1,1),(5,.iconst 3,1),(6,.if_icmp .ge 33,3),(9,.aload_n 2,1),(10,.getfield 40,3),(13,.iconst 0,1),(14,.aload_n 0,1),(15,.getfield 17,3),(18,.iload_n 1,1),(19,.bipush 37,2),(21,.imul,1),(22,.bipush 37,2),(24,.invokestatic 47,3),(27,.aload_n 0,1),(28,.dup,1),(29,.getfield 20,3),(32,.iconst 1,1),(33,.iload_n 1,1),(34,.ishl,1),(35,.ior,1),(36,.putfield 20,3),(39,.return_,1)]
set_option maxRecDepth 100000 in
theorem dkX0_keepBox : rf_decs prog_2_method_10_code ddX0_keepBox := rf_decs_of (by decide +kernel)
def q500_P : rfP := (flX0,csX0,lcX0,spX0,[],[],[],([47],[]))
def q500_U : rfU := []
set_option maxHeartbeats 8000000 in
def q500_N : List rfB := [(0,([(0,.inr (.inl [16])),(1,.inl ((0,2,1),none)),(2,.inr (.inl [13]))],[],[]),(23,[]),0)]
set_option maxRecDepth 100000 in
theorem q500_ok : rf_chkB q500_P q500_U wLay q500_M ddX0_keepBox [] [] [0] 600 q500_N = true := by decide +kernel
set_option maxHeartbeats 4000000 in
theorem q500_met {G : rfG} (h : okG G) (hh : wHandOK G) : rf_met G q500_M := rf_methodB h.1 (P := q500_P) (U := q500_U) (N := q500_N) ⟨wflT h flokX0, wcsT h csokX0, wlcT h lcokX0, spokX0 h, fun _ h => absurd h List.not_mem_nil, fun _ h => absurd h List.not_mem_nil, fun _ h => absurd h List.not_mem_nil, List.forall_mem_cons.mpr ⟨⟨wmT h (wmem (i := 776) (by decide +kernel) (by decide +kernel)), wmT h (wmem (i := 755) (by decide +kernel) (by decide +kernel)), wmT h (wmem (i := 754) (by decide +kernel) (by decide +kernel)), wmT h (wmem (i := 136) (by decide +kernel) (by decide +kernel))⟩, fun _ h => absurd h List.not_mem_nil⟩, fun _ h => absurd h List.not_mem_nil⟩ dkX0_keepBox (by decide +kernel) (by rw [h.2.2.1]; exact q500_ok)
/-- NearSpell.image -/
def q501_M : rfM := ((⟨"NearSpell", "image", "(I)I"⟩, prog_1_method_46_code, 2, (some .int)), (2,43), ([.inr (.inl [70]),.inl (((-2147483648),2147483647,1),none)],[]), [(15,0),(16,3)], [(some (.inl (((-2147483648),2147483647,1),none)),[],[])])
def ddX11_image : List (Nat × Instr × Nat) := [(0,.iload_n 1,1),(1,.ifCond .lt 8,3),(4,.iload_n 1,1),(5,.iconst 3,1),(6,.if_icmp .lt 5,3),(9,.iconst (-1),1),(10,.ireturn,1),(11,.aload_n 0,1),(12,.getfield 42,3),(15,.iload_n 1,1),(16,.aload_n 0,1),(17,.getfield 35,3),(20,.invokevirtual 333,3),(23,.aload_n 0,1),(24,.getfield 35,3),(27,.invokevirtual 183,3),(30,.ireturn,1)]
set_option maxRecDepth 100000 in
theorem dkX11_image : rf_decs prog_1_method_46_code ddX11_image := rf_decs_of (by decide +kernel)
def q501_P : rfP := (flX11,csX11,lcX11,spX11,[q500_M,q181_M],[],[(183,1,8),(333,0,0)],([],[]))
def q501_U : rfU := []
set_option maxHeartbeats 8000000 in
def q501_N : List rfB := [(0,([(0,.inr (.inl [70])),(1,.inl (((-2147483648),2147483647,1),none))],[],[]),(16,[]),0),
  (9,([(0,.inr (.inl [70])),(1,.inl (((-2147483648),2147483647,1),none))],[],[]),(1,[]),0)]
set_option maxRecDepth 100000 in
theorem q501_ok : rf_chkB q501_P q501_U wLay q501_M ddX11_image [(20,[0]),(27,[1])] [] [0,9] 600 q501_N = true := by decide +kernel
set_option maxHeartbeats 4000000 in
theorem q501_met {G : rfG} (h : okG G) (hh : wHandOK G) : rf_met G q501_M := rf_methodB h.1 (P := q501_P) (U := q501_U) (N := q501_N) ⟨wflT h flokX11, wcsT h csokX11, wlcT h lcokX11, spokX11 h, List.forall_mem_cons.mpr ⟨q500_met h hh, List.forall_mem_cons.mpr ⟨q181_met h hh, fun _ h => absurd h List.not_mem_nil⟩⟩, fun _ h => absurd h List.not_mem_nil, List.forall_mem_cons.mpr ⟨fun M hM => Option.some.inj (show some q181_M = some M from hM) ▸ wlkV (lkX11_183 h) q181_M rfl rfl, List.forall_mem_cons.mpr ⟨fun M hM => Option.some.inj (show some q500_M = some M from hM) ▸ wlkV (lkX11_333 h) q500_M rfl rfl, fun _ h => absurd h List.not_mem_nil⟩⟩, fun _ h => absurd h List.not_mem_nil, fun _ h => absurd h List.not_mem_nil⟩ dkX11_image (by decide +kernel) (by rw [h.2.2.1]; exact q501_ok)
/-- NearSpell.Archive.openBox -/
def q502_M : rfM := ((⟨"NearSpell$Archive", "openBox", "(ILNearSpell$State;)Z"⟩, prog_2_method_11_code, 3, (some .boolean)), (1,18), ([.inr (.inl [16]),.inl (((-2147483648),2147483647,1),none),.inr (.inl [13])],[]), [(12,0)], [(some (.inl ((0,0,0),none)),[],[]),(some (.inl ((1,1,0),none)),[(1,0,2)],[])])
def ddX0_openBox : List (Nat × Instr × Nat) := [(0,.iload_n 1,1),(1,.ifCond .lt 19,3),(4,.iload_n 1,1),(5,.iconst 3,1),(6,.if_icmp .ge 14,3),(9,.aload_n 0,1),(10,.getfield 20,3),(13,.iload_n 1,1),(14,.ishr,1),(15,.iconst 1,1),(16,.iand,1),(17,.ifCond .ne 5,3),(20,.iconst 0,1),(21,.ireturn,1),(22,.aload_n 0,1),(23,.getfield 17,3),(26,.iload_n 1,1),(27,.bipush 37,2),(29,.imul,1),(30,.aload_n 2,1),(31,.getfield 40,3),(34,.iconst 0,1),(35,.bipush 37,2),(37,.invokestatic 47,3),(40,.iconst 1,1),(41,.ireturn,1)]
set_option maxRecDepth 100000 in
theorem dkX0_openBox : rf_decs prog_2_method_11_code ddX0_openBox := rf_decs_of (by decide +kernel)
def q502_P : rfP := (flX0,csX0,lcX0,spX0,[],[],[],([47],[]))
def q502_U : rfU := []
set_option maxHeartbeats 8000000 in
def q502_N : List rfB := [(0,([(0,.inr (.inl [16])),(1,.inl (((-2147483648),2147483647,1),none)),(2,.inr (.inl [13]))],[],[]),(25,[]),0),
  (20,([(0,.inr (.inl [16])),(1,.inl (((-2147483648),2147483647,1),none)),(2,.inr (.inl [13]))],[],[]),(1,[]),0)]
set_option maxRecDepth 100000 in
theorem q502_ok : rf_chkB q502_P q502_U wLay q502_M ddX0_openBox [] [] [0,20] 600 q502_N = true := by decide +kernel
set_option maxHeartbeats 4000000 in
theorem q502_met {G : rfG} (h : okG G) (hh : wHandOK G) : rf_met G q502_M := rf_methodB h.1 (P := q502_P) (U := q502_U) (N := q502_N) ⟨wflT h flokX0, wcsT h csokX0, wlcT h lcokX0, spokX0 h, fun _ h => absurd h List.not_mem_nil, fun _ h => absurd h List.not_mem_nil, fun _ h => absurd h List.not_mem_nil, List.forall_mem_cons.mpr ⟨⟨wmT h (wmem (i := 776) (by decide +kernel) (by decide +kernel)), wmT h (wmem (i := 755) (by decide +kernel) (by decide +kernel)), wmT h (wmem (i := 754) (by decide +kernel) (by decide +kernel)), wmT h (wmem (i := 136) (by decide +kernel) (by decide +kernel))⟩, fun _ h => absurd h List.not_mem_nil⟩, fun _ h => absurd h List.not_mem_nil⟩ dkX0_openBox (by decide +kernel) (by rw [h.2.2.1]; exact q502_ok)
/-- NearSpell.back -/
def q503_M : rfM := ((⟨"NearSpell", "back", "(I)I"⟩, prog_1_method_47_code, 2, (some .int)), (3,62), ([.inr (.inl [70]),.inl (((-2147483648),2147483647,1),none)],[]), [(12,0),(14,0),(16,4),(16,5),(16,6)], [(some (.inl (((-2147483648),2147483647,1),none)),[],[])])
def ddX11_back : List (Nat × Instr × Nat) := [(0,.aload_n 0,1),(1,.getfield 42,3),(4,.iload_n 1,1),(5,.aload_n 0,1),(6,.getfield 35,3),(9,.invokevirtual 337,3),(12,.ifCond .ne 5,3),(15,.iconst (-1),1),(16,.ireturn,1),(17,.aload_n 0,1),(18,.getfield 42,3),(21,.aload_n 0,1),(22,.getfield 35,3),(25,.invokevirtual 122,3),(28,.aload_n 0,1),(29,.getfield 35,3),(32,.invokevirtual 183,3),(35,.ireturn,1)]
set_option maxRecDepth 100000 in
theorem dkX11_back : rf_decs prog_1_method_47_code ddX11_back := rf_decs_of (by decide +kernel)
def q503_P : rfP := (flX11,csX11,lcX11,spX11,[q502_M,q93_M,q181_M],[],[(122,1,0),(183,2,8),(337,0,0)],([],[]))
def q503_U : rfU := []
set_option maxHeartbeats 8000000 in
def q503_N : List rfB := [(0,([(0,.inr (.inl [70])),(1,.inl (((-2147483648),2147483647,1),none))],[],[]),(18,[]),0)]
set_option maxRecDepth 100000 in
theorem q503_ok : rf_chkB q503_P q503_U wLay q503_M ddX11_back [(9,[0]),(25,[1]),(32,[2])] [] [0] 600 q503_N = true := by decide +kernel
set_option maxHeartbeats 4000000 in
theorem q503_met {G : rfG} (h : okG G) (hh : wHandOK G) : rf_met G q503_M := rf_methodB h.1 (P := q503_P) (U := q503_U) (N := q503_N) ⟨wflT h flokX11, wcsT h csokX11, wlcT h lcokX11, spokX11 h, List.forall_mem_cons.mpr ⟨q502_met h hh, List.forall_mem_cons.mpr ⟨q93_met h hh, List.forall_mem_cons.mpr ⟨q181_met h hh, fun _ h => absurd h List.not_mem_nil⟩⟩⟩, fun _ h => absurd h List.not_mem_nil, List.forall_mem_cons.mpr ⟨fun M hM => Option.some.inj (show some q93_M = some M from hM) ▸ wlkV (lkX11_122 h) q93_M rfl rfl, List.forall_mem_cons.mpr ⟨fun M hM => Option.some.inj (show some q181_M = some M from hM) ▸ wlkV (lkX11_183 h) q181_M rfl rfl, List.forall_mem_cons.mpr ⟨fun M hM => Option.some.inj (show some q502_M = some M from hM) ▸ wlkV (lkX11_337 h) q502_M rfl rfl, fun _ h => absurd h List.not_mem_nil⟩⟩⟩, fun _ h => absurd h List.not_mem_nil, fun _ h => absurd h List.not_mem_nil⟩ dkX11_back (by decide +kernel) (by rw [h.2.2.1]; exact q503_ok)
/-- NearSpell.State.seed -/
def q504_M : rfM := ((⟨"NearSpell$State", "seed", "()I"⟩, prog_10_method_5_code, 1, (some .int)), (0,0), ([.inr (.inl [13])],[]), [], [(some (.inl (((-2147483648),2147483647,1),none)),[],[])])
def ddX8_seed : List (Nat × Instr × Nat) := [(0,.aload_n 0,1),(1,.getfield 11,3),(4,.bipush 36,2),(6,.iaload,1),(7,.ireturn,1)]
set_option maxRecDepth 100000 in
theorem dkX8_seed : rf_decs prog_10_method_5_code ddX8_seed := rf_decs_of (by decide +kernel)
def q504_P : rfP := (flX8,csX8,lcX8,spX8,[],[],[],([],[]))
def q504_U : rfU := []
set_option maxHeartbeats 8000000 in
def q504_N : List rfB := [(0,([(0,.inr (.inl [13]))],[],[]),(4,[]),0)]
set_option maxRecDepth 100000 in
theorem q504_ok : rf_chkB q504_P q504_U wLay q504_M ddX8_seed [] [] [0] 600 q504_N = true := by decide +kernel
set_option maxHeartbeats 4000000 in
theorem q504_met {G : rfG} (h : okG G) (hh : wHandOK G) : rf_met G q504_M := rf_methodB h.1 (P := q504_P) (U := q504_U) (N := q504_N) ⟨wflT h flokX8, wcsT h csokX8, wlcT h lcokX8, spokX8 h, fun _ h => absurd h List.not_mem_nil, fun _ h => absurd h List.not_mem_nil, fun _ h => absurd h List.not_mem_nil, fun _ h => absurd h List.not_mem_nil, fun _ h => absurd h List.not_mem_nil⟩ dkX8_seed (by decide +kernel) (by rw [h.2.2.1]; exact q504_ok)
/-- NearSpell.about -/
def q505_M : rfM := ((⟨"NearSpell", "about", "(I)I"⟩, prog_1_method_48_code, 2, (some .int)), (2,43), ([.inr (.inl [70]),.inl (((-2147483648),2147483647,1),none)],[]), [], [(some (.inl (((-2147483648),2147483647,1),none)),[],[])])
def ddX11_about : List (Nat × Instr × Nat) := [(0,.iload_n 1,1),(1,.tableswitch 201 0 15 #[79, 87, 95, 103, 111, 119, 127, 135, 143, 151, 159, 167, 175, 180, 188, 193],79),(80,.aload_n 0,1),(81,.getfield 16,3),(84,.getfield 132,3),(87,.ireturn,1),(88,.aload_n 0,1),(89,.getfield 35,3),(92,.invokevirtual 183,3),(95,.ireturn,1),(96,.aload_n 0,1),(97,.getfield 35,3),(100,.invokevirtual 169,3),(103,.ireturn,1),(104,.aload_n 0,1),(105,.getfield 35,3),(108,.invokevirtual 189,3),(111,.ireturn,1),(112,.aload_n 0,1),(113,.getfield 16,3),(116,.getfield 341,3),(119,.ireturn,1),(120,.aload_n 0,1),(121,.getfield 16,3),(124,.getfield 303,3),(127,.ireturn,1),(128,.aload_n 0,1),(129,.getfield 16,3),(132,.getfield 294,3),(135,.ireturn,1),(136,.aload_n 0,1),(137,.getfield 35,3),(140,.invokevirtual 344,3),(143,.ireturn,1),(144,.aload_n 0,1),(145,.getfield 42,3),(148,.getfield 347,3),(151,.ireturn,1),(152,.aload_n 0,1),(153,.getfield 42,3),(156,.getfield 350,3),(159,.ireturn,1),(160,.aload_n 0,1),(161,.getfield 92,3),(164,.getfield 353,3),(167,.ireturn,1),(168,.aload_n 0,1),(169,.getfield 92,3),(172,.getfield 354,3),(175,.ireturn,1),(176,.aload_n 0,1),(177,.getfield 100,3),(180,.ireturn,1),(181,.aload_n 0,1),(182,.getfield 16,3),(185,.getfield 357,3),(188,.ireturn,1),(189,.aload_n 0,1),(190,.getfield 104,3),(193,.ireturn,1),(194,.aload_n 0,1),(195,.getfield 16,3),(198,.getfield 192,3),(201,.ireturn,1),(202,.iconst (-1),1),(203,.ireturn,1)]
set_option maxRecDepth 100000 in
theorem dkX11_about : rf_decs prog_1_method_48_code ddX11_about := rf_decs_of (by decide +kernel)
def q505_P : rfP := (flX11,csX11,lcX11,spX11,[q181_M,q176_M,q185_M,q504_M],[],[(169,1,8),(183,0,8),(189,2,8),(344,3,8)],([],[]))
def q505_U : rfU := []
set_option maxHeartbeats 8000000 in
def q505_N : List rfB := [(0,([(0,.inr (.inl [70])),(1,.inl (((-2147483648),2147483647,1),none))],[],[]),(65,[]),0)]
set_option maxRecDepth 100000 in
theorem q505_ok : rf_chkB q505_P q505_U wLay q505_M ddX11_about [(92,[0]),(100,[1]),(108,[2]),(140,[3])] [] [0] 600 q505_N = true := by decide +kernel
set_option maxHeartbeats 4000000 in
theorem q505_met {G : rfG} (h : okG G) (hh : wHandOK G) : rf_met G q505_M := rf_methodB h.1 (P := q505_P) (U := q505_U) (N := q505_N) ⟨wflT h flokX11, wcsT h csokX11, wlcT h lcokX11, spokX11 h, List.forall_mem_cons.mpr ⟨q181_met h hh, List.forall_mem_cons.mpr ⟨q176_met h hh, List.forall_mem_cons.mpr ⟨q185_met h hh, List.forall_mem_cons.mpr ⟨q504_met h hh, fun _ h => absurd h List.not_mem_nil⟩⟩⟩⟩, fun _ h => absurd h List.not_mem_nil, List.forall_mem_cons.mpr ⟨fun M hM => Option.some.inj (show some q176_M = some M from hM) ▸ wlkV (lkX11_169 h) q176_M rfl rfl, List.forall_mem_cons.mpr ⟨fun M hM => Option.some.inj (show some q181_M = some M from hM) ▸ wlkV (lkX11_183 h) q181_M rfl rfl, List.forall_mem_cons.mpr ⟨fun M hM => Option.some.inj (show some q185_M = some M from hM) ▸ wlkV (lkX11_189 h) q185_M rfl rfl, List.forall_mem_cons.mpr ⟨fun M hM => Option.some.inj (show some q504_M = some M from hM) ▸ wlkV (lkX11_344 h) q504_M rfl rfl, fun _ h => absurd h List.not_mem_nil⟩⟩⟩⟩, fun _ h => absurd h List.not_mem_nil, fun _ h => absurd h List.not_mem_nil⟩ dkX11_about (by decide +kernel) (by rw [h.2.2.1]; exact q505_ok)
/-- NearSpellModel.feed -/
def q506_M : rfM := ((⟨"NearSpellModel", "feed", "(IIIII)I"⟩, prog_14_method_128_code, 8, (some .int)), (0,0), ([.inr (.inl [114]),.inl (((-2147483648),2147483647,1),none),.inl (((-2147483648),2147483647,1),none),.inl (((-2147483648),2147483647,1),none),.inl (((-2147483648),2147483647,1),none),.inl (((-2147483648),2147483647,1),none)],[((114,28),(0,0,0),none)]), [(71,0),(114,3)], [(some (.inl (((-1),1600,1),none)),[],[((114,2),(20,1600,1),none)])])
def ddX12_feed : List (Nat × Instr × Nat) := [(0,.aload_n 0,1),(1,.getfield 239,3),(4,.bipush 20,2),(6,.iadd,1),(7,.sipush 1600,3),(10,.if_icmp .le 5,3),(13,.iconst (-1),1),(14,.ireturn,1),(15,.iconst 0,1),(16,.istore 6,2),(18,.iload 6,2),(20,.bipush 20,2),(22,.if_icmp .ge 83,3),(25,.iload 6,2),(27,.iconst 4,1),(28,.if_icmp .ge 7,3),(31,.iload_n 1,1),(32,.goto 39,3),(35,.iload 6,2),(37,.bipush 8,2),(39,.if_icmp .ge 7,3),(42,.iload_n 2,1),(43,.goto 28,3),(46,.iload 6,2),(48,.bipush 12,2),(50,.if_icmp .ge 7,3),(53,.iload_n 3,1),(54,.goto 17,3),(57,.iload 6,2),(59,.bipush 16,2),(61,.if_icmp .ge 8,3),(64,.iload 4,2),(66,.goto 5,3),(69,.iload 5,2),(71,.istore 7,2),(73,.aload_n 0,1),(74,.getfield 7,3),(77,.aload_n 0,1),(78,.getfield 239,3),(81,.iload 6,2),(83,.iadd,1),(84,.iload 7,2),(86,.bipush 24,2),(88,.bipush 8,2),(90,.iload 6,2),(92,.iconst 3,1),(93,.iand,1),(94,.imul,1),(95,.isub,1),(96,.ishr,1),(97,.i2b,1),(98,.bastore,1),(99,.iinc 6 1,3),(102,.goto (-84),3),(105,.aload_n 0,1),(106,.dup,1),(107,.getfield 239,3),(110,.bipush 20,2),(112,.iadd,1),(113,.putfield 239,3),(116,.aload_n 0,1),(117,.getfield 239,3),(120,.ireturn,1)]
set_option maxRecDepth 100000 in
theorem dkX12_feed : rf_decs prog_14_method_128_code ddX12_feed := rf_decs_of (by decide +kernel)
def q506_P : rfP := (flX12,csX12,lcX12,spX12,[],[],[],([],[]))
def q506_U : rfU := []
set_option maxHeartbeats 8000000 in
def q506_N : List rfB := [(0,([(0,.inr (.inl [114])),(1,.inl (((-2147483648),2147483647,1),none)),(2,.inl (((-2147483648),2147483647,1),none)),(3,.inl (((-2147483648),2147483647,1),none)),(4,.inl (((-2147483648),2147483647,1),none)),(5,.inl (((-2147483648),2147483647,1),none))],[],[((114,28),(0,0,0),some ((114,28),0,0))]),(963,[0]),0),
  (18,([(0,.inr (.inl [114])),(1,.inl (((-2147483648),2147483647,1),none)),(2,.inl (((-2147483648),2147483647,1),none)),(3,.inl (((-2147483648),2147483647,1),none)),(4,.inl (((-2147483648),2147483647,1),none)),(5,.inl (((-2147483648),2147483647,1),none)),(6,.inl ((0,20,1),none))],[],[((114,2),(0,1580,1),none),((114,28),(0,0,0),some ((114,28),0,0))]),(951,[(-45)]),0),
  (71,([(0,.inr (.inl [114])),(1,.inl (((-2147483648),2147483647,1),none)),(2,.inl (((-2147483648),2147483647,1),none)),(3,.inl (((-2147483648),2147483647,1),none)),(4,.inl (((-2147483648),2147483647,1),none)),(5,.inl (((-2147483648),2147483647,1),none)),(6,.inl ((0,19,1),none))],[.inl (((-2147483648),2147483647,1),none)],[((114,2),(0,1580,1),none),((114,28),(0,0,0),some ((114,28),0,0))]),(927,[(-45)]),0)]
set_option maxRecDepth 100000 in
theorem q506_ok : rf_chkB q506_P q506_U wLay q506_M ddX12_feed [] [.inl 6] [0,18,71] 600 q506_N = true := by decide +kernel
set_option maxHeartbeats 4000000 in
theorem q506_met {G : rfG} (h : okG G) (hh : wHandOK G) : rf_met G q506_M := rf_methodB h.1 (P := q506_P) (U := q506_U) (N := q506_N) ⟨wflT h flokX12, wcsT h csokX12, wlcT h lcokX12, spokX12 h, fun _ h => absurd h List.not_mem_nil, fun _ h => absurd h List.not_mem_nil, fun _ h => absurd h List.not_mem_nil, fun _ h => absurd h List.not_mem_nil, fun _ h => absurd h List.not_mem_nil⟩ dkX12_feed (by decide +kernel) (by rw [h.2.2.1]; exact q506_ok)
/-- NearSpellModel.feed -/
def q507_M : rfM := ((⟨"NearSpellModel", "feed", "(IIIII)I"⟩, prog_14_method_128_code, 8, (some .int)), (0,0), ([.inr (.inl [114]),.inl (((-2147483648),2147483647,1),none),.inl (((-2147483648),2147483647,1),none),.inl (((-2147483648),2147483647,1),none),.inl (((-2147483648),2147483647,1),none),.inl (((-2147483648),2147483647,1),none)],[((77,1),(1,31,1),none),((114,28),(1,1,0),none)]), [(71,0),(114,3)], [(some (.inl (((-1),1600,1),none)),[],[((114,2),(20,1600,1),none)])])
def q507_P : rfP := (flX12,csX12,lcX12,spX12,[],[],[],([],[]))
def q507_U : rfU := []
set_option maxHeartbeats 8000000 in
def q507_N : List rfB := [(0,([(0,.inr (.inl [114])),(1,.inl (((-2147483648),2147483647,1),none)),(2,.inl (((-2147483648),2147483647,1),none)),(3,.inl (((-2147483648),2147483647,1),none)),(4,.inl (((-2147483648),2147483647,1),none)),(5,.inl (((-2147483648),2147483647,1),none))],[],[((77,1),(1,31,1),some ((77,1),0,0)),((114,28),(1,1,0),some ((114,28),0,0))]),(963,[0]),0),
  (18,([(0,.inr (.inl [114])),(1,.inl (((-2147483648),2147483647,1),none)),(2,.inl (((-2147483648),2147483647,1),none)),(3,.inl (((-2147483648),2147483647,1),none)),(4,.inl (((-2147483648),2147483647,1),none)),(5,.inl (((-2147483648),2147483647,1),none)),(6,.inl ((0,20,1),none))],[],[((77,1),(1,31,1),some ((77,1),0,0)),((114,2),(0,1580,1),none),((114,28),(1,1,0),some ((114,28),0,0))]),(951,[(-45)]),0),
  (71,([(0,.inr (.inl [114])),(1,.inl (((-2147483648),2147483647,1),none)),(2,.inl (((-2147483648),2147483647,1),none)),(3,.inl (((-2147483648),2147483647,1),none)),(4,.inl (((-2147483648),2147483647,1),none)),(5,.inl (((-2147483648),2147483647,1),none)),(6,.inl ((0,19,1),none))],[.inl (((-2147483648),2147483647,1),none)],[((77,1),(1,31,1),some ((77,1),0,0)),((114,2),(0,1580,1),none),((114,28),(1,1,0),some ((114,28),0,0))]),(927,[(-45)]),0)]
set_option maxRecDepth 100000 in
theorem q507_ok : rf_chkB q507_P q507_U wLay q507_M ddX12_feed [] [.inl 6] [0,18,71] 600 q507_N = true := by decide +kernel
set_option maxHeartbeats 4000000 in
theorem q507_met {G : rfG} (h : okG G) (hh : wHandOK G) : rf_met G q507_M := rf_methodB h.1 (P := q507_P) (U := q507_U) (N := q507_N) ⟨wflT h flokX12, wcsT h csokX12, wlcT h lcokX12, spokX12 h, fun _ h => absurd h List.not_mem_nil, fun _ h => absurd h List.not_mem_nil, fun _ h => absurd h List.not_mem_nil, fun _ h => absurd h List.not_mem_nil, fun _ h => absurd h List.not_mem_nil⟩ dkX12_feed (by decide +kernel) (by rw [h.2.2.1]; exact q507_ok)
/-- NearSpellModel.end -/
def q508_M : rfM := ((⟨"NearSpellModel", "end", "(I)I"⟩, prog_14_method_129_code, 2, (some .int)), (0,0), ([.inr (.inl [114]),.inl (((-2147483648),2147483647,1),none)],[((114,28),(0,0,0),none)]), [(114,3)], [(some (.inl (((-1),1600,1),none)),[],[])])
def ddX12_end : List (Nat × Instr × Nat) := [(0,.iload_n 1,1),(1,.ifCond .lt 11,3),(4,.iload_n 1,1),(5,.aload_n 0,1),(6,.getfield 239,3),(9,.if_icmp .le 5,3),(12,.iconst (-1),1),(13,.ireturn,1),(14,.aload_n 0,1),(15,.iload_n 1,1),(16,.putfield 239,3),(19,.iload_n 1,1),(20,.ireturn,1)]
set_option maxRecDepth 100000 in
theorem dkX12_end : rf_decs prog_14_method_129_code ddX12_end := rf_decs_of (by decide +kernel)
def q508_P : rfP := (flX12,csX12,lcX12,spX12,[],[],[],([],[]))
def q508_U : rfU := []
set_option maxHeartbeats 8000000 in
def q508_N : List rfB := [(0,([(0,.inr (.inl [114])),(1,.inl (((-2147483648),2147483647,1),none))],[],[((114,28),(0,0,0),some ((114,28),0,0))]),(12,[]),0),
  (12,([(0,.inr (.inl [114])),(1,.inl (((-2147483648),2147483647,1),none))],[],[((114,28),(0,0,0),some ((114,28),0,0))]),(1,[]),0)]
set_option maxRecDepth 100000 in
theorem q508_ok : rf_chkB q508_P q508_U wLay q508_M ddX12_end [] [] [0,12] 600 q508_N = true := by decide +kernel
set_option maxHeartbeats 4000000 in
theorem q508_met {G : rfG} (h : okG G) (hh : wHandOK G) : rf_met G q508_M := rf_methodB h.1 (P := q508_P) (U := q508_U) (N := q508_N) ⟨wflT h flokX12, wcsT h csokX12, wlcT h lcokX12, spokX12 h, fun _ h => absurd h List.not_mem_nil, fun _ h => absurd h List.not_mem_nil, fun _ h => absurd h List.not_mem_nil, fun _ h => absurd h List.not_mem_nil, fun _ h => absurd h List.not_mem_nil⟩ dkX12_end (by decide +kernel) (by rw [h.2.2.1]; exact q508_ok)
/-- NearSpellModel.end -/
def q509_M : rfM := ((⟨"NearSpellModel", "end", "(I)I"⟩, prog_14_method_129_code, 2, (some .int)), (0,0), ([.inr (.inl [114]),.inl (((-2147483648),2147483647,1),none)],[((77,1),(1,31,1),none),((114,28),(1,1,0),none)]), [(114,3)], [(some (.inl (((-1),1600,1),none)),[],[])])
def q509_P : rfP := (flX12,csX12,lcX12,spX12,[],[],[],([],[]))
def q509_U : rfU := []
set_option maxHeartbeats 8000000 in
def q509_N : List rfB := [(0,([(0,.inr (.inl [114])),(1,.inl (((-2147483648),2147483647,1),none))],[],[((77,1),(1,31,1),some ((77,1),0,0)),((114,28),(1,1,0),some ((114,28),0,0))]),(12,[]),0),
  (12,([(0,.inr (.inl [114])),(1,.inl (((-2147483648),2147483647,1),none))],[],[((77,1),(1,31,1),some ((77,1),0,0)),((114,28),(1,1,0),some ((114,28),0,0))]),(1,[]),0)]
set_option maxRecDepth 100000 in
theorem q509_ok : rf_chkB q509_P q509_U wLay q509_M ddX12_end [] [] [0,12] 600 q509_N = true := by decide +kernel
set_option maxHeartbeats 4000000 in
theorem q509_met {G : rfG} (h : okG G) (hh : wHandOK G) : rf_met G q509_M := rf_methodB h.1 (P := q509_P) (U := q509_U) (N := q509_N) ⟨wflT h flokX12, wcsT h csokX12, wlcT h lcokX12, spokX12 h, fun _ h => absurd h List.not_mem_nil, fun _ h => absurd h List.not_mem_nil, fun _ h => absurd h List.not_mem_nil, fun _ h => absurd h List.not_mem_nil, fun _ h => absurd h List.not_mem_nil⟩ dkX12_end (by decide +kernel) (by rw [h.2.2.1]; exact q509_ok)
/-- NearSpellModel.clearBank -/
def q510_M : rfM := ((⟨"NearSpellModel", "clearBank", "()V"⟩, prog_14_method_15_code, 1, none), (0,0), ([.inr (.inl [114])],[]), [(73,0),(74,0),(75,0),(76,0),(77,0),(78,0),(79,0),(80,0),(114,31)], [(none,[],[((114,30),(0,560,560),none)])])
def ddX12_clearBank : List (Nat × Instr × Nat) := [(0,.aload_n 0,1),(1,.getfield 20,3),(4,.aload_n 0,1),(5,.getfield 233,3),(8,.iconst 0,1),(9,.iastore,1),(10,.aload_n 0,1),(11,.getfield 24,3),(14,.aload_n 0,1),(15,.getfield 233,3),(18,.iconst 0,1),(19,.iastore,1),(20,.aload_n 0,1),(21,.getfield 27,3),(24,.aload_n 0,1),(25,.getfield 233,3),(28,.iconst 4,1),(29,.iastore,1),(30,.aload_n 0,1),(31,.getfield 30,3),(34,.aload_n 0,1),(35,.getfield 233,3),(38,.iconst 2,1),(39,.iastore,1),(40,.aload_n 0,1),(41,.getfield 33,3),(44,.aload_n 0,1),(45,.getfield 233,3),(48,.bipush 13,2),(50,.iastore,1),(51,.aload_n 0,1),(52,.getfield 36,3),(55,.aload_n 0,1),(56,.getfield 233,3),(59,.iconst 0,1),(60,.iastore,1),(61,.aload_n 0,1),(62,.getfield 39,3),(65,.aload_n 0,1),(66,.getfield 233,3),(69,.iconst 0,1),(70,.iastore,1),(71,.aload_n 0,1),(72,.getfield 42,3),(75,.aload_n 0,1),(76,.getfield 233,3),(79,.iconst 0,1),(80,.iastore,1),(81,.aload_n 0,1),(82,.sipush 560,3),(85,.aload_n 0,1),(86,.getfield 233,3),(89,.imul,1),(90,.putfield 236,3),(93,.return_,1)]
set_option maxRecDepth 100000 in
theorem dkX12_clearBank : rf_decs prog_14_method_15_code ddX12_clearBank := rf_decs_of (by decide +kernel)
def q510_P : rfP := (flX12,csX12,lcX12,spX12,[],[],[],([],[]))
def q510_U : rfU := []
set_option maxHeartbeats 8000000 in
def q510_N : List rfB := [(0,([(0,.inr (.inl [114]))],[],[]),(54,[]),0)]
set_option maxRecDepth 100000 in
theorem q510_ok : rf_chkB q510_P q510_U wLay q510_M ddX12_clearBank [] [] [0] 600 q510_N = true := by decide +kernel
set_option maxHeartbeats 4000000 in
theorem q510_met {G : rfG} (h : okG G) (hh : wHandOK G) : rf_met G q510_M := rf_methodB h.1 (P := q510_P) (U := q510_U) (N := q510_N) ⟨wflT h flokX12, wcsT h csokX12, wlcT h lcokX12, spokX12 h, fun _ h => absurd h List.not_mem_nil, fun _ h => absurd h List.not_mem_nil, fun _ h => absurd h List.not_mem_nil, fun _ h => absurd h List.not_mem_nil, fun _ h => absurd h List.not_mem_nil⟩ dkX12_clearBank (by decide +kernel) (by rw [h.2.2.1]; exact q510_ok)
/-- NearSpellModel.sign -/
def q511_M : rfM := ((⟨"NearSpellModel", "sign", "(I)I"⟩, prog_14_method_2_code, 2, (some .int)), (0,0), ([.inr (.inl [114]),.inl ((0,1600,1),none)],[]), [], [(some (.inl ((0,255,1),none)),[(1,0,1599)],[((114,3),(1,1600,1),none)]),(some (.inl ((0,0,0),none)),[],[])])
def ddX12_sign : List (Nat × Instr × Nat) := [(0,.iload_n 1,1),(1,.aload_n 0,1),(2,.getfield 151,3),(5,.if_icmp .ge 16,3),(8,.aload_n 0,1),(9,.getfield 13,3),(12,.iload_n 1,1),(13,.baload,1),(14,.sipush 255,3),(17,.iand,1),(18,.goto 4,3),(21,.iconst 0,1),(22,.ireturn,1)]
set_option maxRecDepth 100000 in
theorem dkX12_sign : rf_decs prog_14_method_2_code ddX12_sign := rf_decs_of (by decide +kernel)
def q511_P : rfP := (flX12,csX12,lcX12,spX12,[],[],[],([],[]))
def q511_U : rfU := []
set_option maxHeartbeats 8000000 in
def q511_N : List rfB := [(0,([(0,.inr (.inl [114])),(1,.inl ((0,1600,1),none))],[],[]),(13,[]),0)]
set_option maxRecDepth 100000 in
theorem q511_ok : rf_chkB q511_P q511_U wLay q511_M ddX12_sign [] [] [0] 600 q511_N = true := by decide +kernel
set_option maxHeartbeats 4000000 in
theorem q511_met {G : rfG} (h : okG G) (hh : wHandOK G) : rf_met G q511_M := rf_methodB h.1 (P := q511_P) (U := q511_U) (N := q511_N) ⟨wflT h flokX12, wcsT h csokX12, wlcT h lcokX12, spokX12 h, fun _ h => absurd h List.not_mem_nil, fun _ h => absurd h List.not_mem_nil, fun _ h => absurd h List.not_mem_nil, fun _ h => absurd h List.not_mem_nil, fun _ h => absurd h List.not_mem_nil⟩ dkX12_sign (by decide +kernel) (by rw [h.2.2.1]; exact q511_ok)
/-- NearSpellModel.isLetter -/
def q512_M : rfM := ((⟨"NearSpellModel", "isLetter", "(I)Z"⟩, prog_14_method_3_code, 1, (some .boolean)), (0,0), ([.inl ((0,255,1),none)],[]), [], [(some (.inl ((1,1,0),none)),[(0,97,122)],[]),(some (.inl ((0,0,0),none)),[],[])])
def ddX12_isLetter : List (Nat × Instr × Nat) := [(0,.iload_n 0,1),(1,.bipush 97,2),(3,.if_icmp .lt 13,3),(6,.iload_n 0,1),(7,.bipush 122,2),(9,.if_icmp .gt 7,3),(12,.iconst 1,1),(13,.goto 4,3),(16,.iconst 0,1),(17,.ireturn,1)]
set_option maxRecDepth 100000 in
theorem dkX12_isLetter : rf_decs prog_14_method_3_code ddX12_isLetter := rf_decs_of (by decide +kernel)
def q512_P : rfP := (flX12,csX12,lcX12,spX12,[],[],[],([],[]))
def q512_U : rfU := []
set_option maxHeartbeats 8000000 in
def q512_N : List rfB := [(0,([(0,.inl ((0,255,1),none))],[],[]),(10,[]),0),
  (16,([(0,.inl ((0,255,1),none))],[],[]),(1,[]),0)]
set_option maxRecDepth 100000 in
theorem q512_ok : rf_chkB q512_P q512_U wLay q512_M ddX12_isLetter [] [] [0,16] 600 q512_N = true := by decide +kernel
set_option maxHeartbeats 4000000 in
theorem q512_met {G : rfG} (h : okG G) (hh : wHandOK G) : rf_met G q512_M := rf_methodB h.1 (P := q512_P) (U := q512_U) (N := q512_N) ⟨wflT h flokX12, wcsT h csokX12, wlcT h lcokX12, spokX12 h, fun _ h => absurd h List.not_mem_nil, fun _ h => absurd h List.not_mem_nil, fun _ h => absurd h List.not_mem_nil, fun _ h => absurd h List.not_mem_nil, fun _ h => absurd h List.not_mem_nil⟩ dkX12_isLetter (by decide +kernel) (by rw [h.2.2.1]; exact q512_ok)
