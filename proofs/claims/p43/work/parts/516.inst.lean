/-- NearSpellModel.loadOf -/
def q830_M : rfM := ((⟨"NearSpellModel", "loadOf", "(I)I"⟩, prog_14_method_97_code, 5, (some .int)), (22,2045), ([.inr (.inl [114]),.inl ((0,30,1),none)],[((114,28),(0,0,0),none)]), [(89,0),(114,35)], [(some (.inl (((-2147483648),2147483647,1),none)),[],[])])
def ddX12_loadOf : List (Nat × Instr × Nat) := [(0,.iconst 0,1),(1,.istore_n 2,1),(2,.iconst 0,1),(3,.istore_n 3,1),(4,.iload_n 3,1),(5,.bipush 14,2),(7,.if_icmp .ge 57,3),(10,.iconst 0,1),(11,.istore 4,2),(13,.iload 4,2),(15,.aload_n 0,1),(16,.getfield 81,3),(19,.iload_n 3,1),(20,.iaload,1),(21,.if_icmp .ge 37,3),(24,.iload_n 2,1),(25,.aload_n 0,1),(26,.aload_n 0,1),(27,.getfield 78,3),(30,.bipush 64,2),(32,.iload_n 3,1),(33,.imul,1),(34,.iload 4,2),(36,.iadd,1),(37,.iaload,1),(38,.invokevirtual 369,3),(41,.iload_n 1,1),(42,.if_icmp .ne 7,3),(45,.iconst 1,1),(46,.goto 4,3),(49,.iconst 0,1),(50,.iadd,1),(51,.istore_n 2,1),(52,.iinc 4 1,3),(55,.goto (-42),3),(58,.iinc 3 1,3),(61,.goto (-57),3),(64,.iload_n 2,1),(65,.ireturn,1)]
set_option maxRecDepth 100000 in
theorem dkX12_loadOf : rf_decs prog_14_method_97_code ddX12_loadOf := rf_decs_of (by decide +kernel)
def q830_P : rfP := (flX12,csX12,lcX12,spX12,[q673_M],[],[(369,0,12)],([],[]))
def q830_U : rfU := []
set_option maxHeartbeats 8000000 in
def q830_N : List rfB := [(0,([(0,.inr (.inl [114])),(1,.inl ((0,30,1),none))],[],[((114,28),(0,0,0),some ((114,28),0,0))]),(27425,[0,0]),0),
  (4,([(0,.inr (.inl [114])),(1,.inl ((0,30,1),none)),(2,.inl (((-2147483648),2147483647,1),none)),(3,.inl ((0,14,1),none))],[],[((114,28),(0,0,0),some ((114,28),0,0))]),(27419,[(-1828),0]),0),
  (13,([(0,.inr (.inl [114])),(1,.inl ((0,30,1),none)),(2,.inl (((-2147483648),2147483647,1),none)),(3,.inl ((0,13,1),none)),(4,.inl ((0,64,1),none))],[],[((114,28),(0,0,0),some ((114,28),0,0))]),(27412,[(-1828),(-28)]),0),
  (51,([(0,.inr (.inl [114])),(1,.inl ((0,30,1),none)),(2,.inl (((-2147483648),2147483647,1),none)),(3,.inl ((0,13,1),none)),(4,.inl ((0,63,1),none))],[.inl (((-2147483648),2147483647,1),none)],[((114,28),(0,0,0),some ((114,28),0,0))]),(27388,[(-1828),(-28)]),0)]
set_option maxRecDepth 100000 in
theorem q830_ok : rf_chkB q830_P q830_U wLay q830_M ddX12_loadOf [(38,[0])] [.inl 3,.inl 4] [0,4,13,51] 600 q830_N = true := by decide +kernel
set_option maxHeartbeats 4000000 in
theorem q830_met {G : rfG} (h : okG G) (hh : wHandOK G) : rf_met G q830_M := rf_methodB h.1 (P := q830_P) (U := q830_U) (N := q830_N) ⟨wflT h flokX12, wcsT h csokX12, wlcT h lcokX12, spokX12 h, List.forall_mem_cons.mpr ⟨q673_met h hh, fun _ h => absurd h List.not_mem_nil⟩, fun _ h => absurd h List.not_mem_nil, List.forall_mem_cons.mpr ⟨fun M hM => Option.some.inj (show some q673_M = some M from hM) ▸ wlkV (lkX12_369 h) q673_M rfl rfl, fun _ h => absurd h List.not_mem_nil⟩, fun _ h => absurd h List.not_mem_nil, fun _ h => absurd h List.not_mem_nil⟩ dkX12_loadOf (by decide +kernel) (by rw [h.2.2.1]; exact q830_ok)
/-- NearSpellModel.load -/
def q831_M : rfM := ((⟨"NearSpellModel", "load", "(I)I"⟩, prog_14_method_98_code, 3, (some .int)), (23,2069), ([.inr (.inl [114]),.inl (((-2147483648),2147483647,1),none)],[((114,28),(0,0,0),none)]), [(89,0),(91,0),(92,0),(93,0),(114,35),(114,40)], [(some (.inl (((-2147483648),2147483647,1),none)),[],[])])
def ddX12_load : List (Nat × Instr × Nat) := [(0,.iload_n 1,1),(1,.iconst 0,1),(2,.aload_n 0,1),(3,.getfield 33,3),(6,.aload_n 0,1),(7,.getfield 242,3),(10,.iaload,1),(11,.iconst 1,1),(12,.isub,1),(13,.invokestatic 334,3),(16,.ifCond .ne 5,3),(19,.iconst (-1),1),(20,.ireturn,1),(21,.aload_n 0,1),(22,.aload_n 0,1),(23,.invokevirtual 372,3),(26,.invokevirtual 375,3),(29,.istore_n 2,1),(30,.iload_n 2,1),(31,.ifCond .ne 7,3),(34,.iconst 0,1),(35,.goto 8,3),(38,.aload_n 0,1),(39,.iload_n 1,1),(40,.invokevirtual 462,3),(43,.ireturn,1)]
set_option maxRecDepth 100000 in
theorem dkX12_load : rf_decs prog_14_method_98_code ddX12_load := rf_decs_of (by decide +kernel)
def q831_P : rfP := (flX12,csX12,lcX12,spX12,[q829_M,q609_M,q669_M,q830_M],[(334,0)],[(372,1,12),(375,2,12),(462,3,12)],([],[]))
def q831_U : rfU := []
set_option maxHeartbeats 8000000 in
def q831_N : List rfB := [(0,([(0,.inr (.inl [114])),(1,.inl (((-2147483648),2147483647,1),none))],[],[((114,28),(0,0,0),some ((114,28),0,0))]),(27,[]),0)]
set_option maxRecDepth 100000 in
theorem q831_ok : rf_chkB q831_P q831_U wLay q831_M ddX12_load [(13,[0]),(23,[1]),(26,[2]),(40,[3])] [] [0] 600 q831_N = true := by decide +kernel
set_option maxHeartbeats 4000000 in
theorem q831_met {G : rfG} (h : okG G) (hh : wHandOK G) : rf_met G q831_M := rf_methodB h.1 (P := q831_P) (U := q831_U) (N := q831_N) ⟨wflT h flokX12, wcsT h csokX12, wlcT h lcokX12, spokX12 h, List.forall_mem_cons.mpr ⟨q829_met h hh, List.forall_mem_cons.mpr ⟨q609_met h hh, List.forall_mem_cons.mpr ⟨q669_met h hh, List.forall_mem_cons.mpr ⟨q830_met h hh, fun _ h => absurd h List.not_mem_nil⟩⟩⟩⟩, List.forall_mem_cons.mpr ⟨fun M hM => Option.some.inj (show some q829_M = some M from hM) ▸ wlkS (lkX12_334 h) q829_M rfl rfl, fun _ h => absurd h List.not_mem_nil⟩, List.forall_mem_cons.mpr ⟨fun M hM => Option.some.inj (show some q609_M = some M from hM) ▸ wlkV (lkX12_372 h) q609_M rfl rfl, List.forall_mem_cons.mpr ⟨fun M hM => Option.some.inj (show some q669_M = some M from hM) ▸ wlkV (lkX12_375 h) q669_M rfl rfl, List.forall_mem_cons.mpr ⟨fun M hM => Option.some.inj (show some q830_M = some M from hM) ▸ wlkV (lkX12_462 h) q830_M rfl rfl, fun _ h => absurd h List.not_mem_nil⟩⟩⟩, fun _ h => absurd h List.not_mem_nil, fun _ h => absurd h List.not_mem_nil⟩ dkX12_load (by decide +kernel) (by rw [h.2.2.1]; exact q831_ok)
/-- NearSpellModel.loadOf -/
def q832_M : rfM := ((⟨"NearSpellModel", "loadOf", "(I)I"⟩, prog_14_method_97_code, 5, (some .int)), (22,2045), ([.inr (.inl [114]),.inl ((0,30,1),none)],[((77,1),(1,31,1),none),((114,28),(1,1,0),none)]), [(89,0),(114,35)], [(some (.inl (((-2147483648),2147483647,1),none)),[],[])])
def q832_P : rfP := (flX12,csX12,lcX12,spX12,[q693_M],[],[(369,0,12)],([],[]))
def q832_U : rfU := []
set_option maxHeartbeats 8000000 in
def q832_N : List rfB := [(0,([(0,.inr (.inl [114])),(1,.inl ((0,30,1),none))],[],[((77,1),(1,31,1),some ((77,1),0,0)),((114,28),(1,1,0),some ((114,28),0,0))]),(27425,[0,0]),0),
  (4,([(0,.inr (.inl [114])),(1,.inl ((0,30,1),none)),(2,.inl (((-2147483648),2147483647,1),none)),(3,.inl ((0,14,1),none))],[],[((77,1),(1,31,1),some ((77,1),0,0)),((114,28),(1,1,0),some ((114,28),0,0))]),(27419,[(-1828),0]),0),
  (13,([(0,.inr (.inl [114])),(1,.inl ((0,30,1),none)),(2,.inl (((-2147483648),2147483647,1),none)),(3,.inl ((0,13,1),none)),(4,.inl ((0,64,1),none))],[],[((77,1),(1,31,1),some ((77,1),0,0)),((114,28),(1,1,0),some ((114,28),0,0))]),(27412,[(-1828),(-28)]),0),
  (51,([(0,.inr (.inl [114])),(1,.inl ((0,30,1),none)),(2,.inl (((-2147483648),2147483647,1),none)),(3,.inl ((0,13,1),none)),(4,.inl ((0,63,1),none))],[.inl (((-2147483648),2147483647,1),none)],[((77,1),(1,31,1),some ((77,1),0,0)),((114,28),(1,1,0),some ((114,28),0,0))]),(27388,[(-1828),(-28)]),0)]
set_option maxRecDepth 100000 in
theorem q832_ok : rf_chkB q832_P q832_U wLay q832_M ddX12_loadOf [(38,[0])] [.inl 3,.inl 4] [0,4,13,51] 600 q832_N = true := by decide +kernel
set_option maxHeartbeats 4000000 in
theorem q832_met {G : rfG} (h : okG G) (hh : wHandOK G) : rf_met G q832_M := rf_methodB h.1 (P := q832_P) (U := q832_U) (N := q832_N) ⟨wflT h flokX12, wcsT h csokX12, wlcT h lcokX12, spokX12 h, List.forall_mem_cons.mpr ⟨q693_met h hh, fun _ h => absurd h List.not_mem_nil⟩, fun _ h => absurd h List.not_mem_nil, List.forall_mem_cons.mpr ⟨fun M hM => Option.some.inj (show some q693_M = some M from hM) ▸ wlkV (lkX12_369 h) q693_M rfl rfl, fun _ h => absurd h List.not_mem_nil⟩, fun _ h => absurd h List.not_mem_nil, fun _ h => absurd h List.not_mem_nil⟩ dkX12_loadOf (by decide +kernel) (by rw [h.2.2.1]; exact q832_ok)
/-- NearSpellModel.load -/
def q833_M : rfM := ((⟨"NearSpellModel", "load", "(I)I"⟩, prog_14_method_98_code, 3, (some .int)), (23,2069), ([.inr (.inl [114]),.inl (((-2147483648),2147483647,1),none)],[((77,1),(1,31,1),none),((114,28),(1,1,0),none)]), [(89,0),(91,0),(92,0),(93,0),(114,35),(114,40)], [(some (.inl (((-2147483648),2147483647,1),none)),[],[])])
def q833_P : rfP := (flX12,csX12,lcX12,spX12,[q829_M,q625_M,q692_M,q832_M],[(334,0)],[(372,1,12),(375,2,12),(462,3,12)],([],[]))
def q833_U : rfU := []
set_option maxHeartbeats 8000000 in
def q833_N : List rfB := [(0,([(0,.inr (.inl [114])),(1,.inl (((-2147483648),2147483647,1),none))],[],[((77,1),(1,31,1),some ((77,1),0,0)),((114,28),(1,1,0),some ((114,28),0,0))]),(27,[]),0)]
set_option maxRecDepth 100000 in
theorem q833_ok : rf_chkB q833_P q833_U wLay q833_M ddX12_load [(13,[0]),(23,[1]),(26,[2]),(40,[3])] [] [0] 600 q833_N = true := by decide +kernel
set_option maxHeartbeats 4000000 in
theorem q833_met {G : rfG} (h : okG G) (hh : wHandOK G) : rf_met G q833_M := rf_methodB h.1 (P := q833_P) (U := q833_U) (N := q833_N) ⟨wflT h flokX12, wcsT h csokX12, wlcT h lcokX12, spokX12 h, List.forall_mem_cons.mpr ⟨q829_met h hh, List.forall_mem_cons.mpr ⟨q625_met h hh, List.forall_mem_cons.mpr ⟨q692_met h hh, List.forall_mem_cons.mpr ⟨q832_met h hh, fun _ h => absurd h List.not_mem_nil⟩⟩⟩⟩, List.forall_mem_cons.mpr ⟨fun M hM => Option.some.inj (show some q829_M = some M from hM) ▸ wlkS (lkX12_334 h) q829_M rfl rfl, fun _ h => absurd h List.not_mem_nil⟩, List.forall_mem_cons.mpr ⟨fun M hM => Option.some.inj (show some q625_M = some M from hM) ▸ wlkV (lkX12_372 h) q625_M rfl rfl, List.forall_mem_cons.mpr ⟨fun M hM => Option.some.inj (show some q692_M = some M from hM) ▸ wlkV (lkX12_375 h) q692_M rfl rfl, List.forall_mem_cons.mpr ⟨fun M hM => Option.some.inj (show some q832_M = some M from hM) ▸ wlkV (lkX12_462 h) q832_M rfl rfl, fun _ h => absurd h List.not_mem_nil⟩⟩⟩, fun _ h => absurd h List.not_mem_nil, fun _ h => absurd h List.not_mem_nil⟩ dkX12_load (by decide +kernel) (by rw [h.2.2.1]; exact q833_ok)
/-- NearSpellModel.loadOf -/
def q834_M : rfM := ((⟨"NearSpellModel", "loadOf", "(I)I"⟩, prog_14_method_97_code, 5, (some .int)), (22,2045), ([.inr (.inl [114]),.inl ((0,0,0),none)],[((114,28),(0,0,0),none)]), [(89,0),(114,35)], [(some (.inl (((-2147483648),2147483647,1),none)),[],[])])
def q834_P : rfP := (flX12,csX12,lcX12,spX12,[q673_M],[],[(369,0,12)],([],[]))
def q834_U : rfU := []
set_option maxHeartbeats 8000000 in
def q834_N : List rfB := [(0,([(0,.inr (.inl [114])),(1,.inl ((0,0,0),none))],[],[((114,28),(0,0,0),some ((114,28),0,0))]),(27425,[0,0]),0),
  (4,([(0,.inr (.inl [114])),(1,.inl ((0,0,0),none)),(2,.inl (((-2147483648),2147483647,1),none)),(3,.inl ((0,14,1),none))],[],[((114,28),(0,0,0),some ((114,28),0,0))]),(27419,[(-1828),0]),0),
  (13,([(0,.inr (.inl [114])),(1,.inl ((0,0,0),none)),(2,.inl (((-2147483648),2147483647,1),none)),(3,.inl ((0,13,1),none)),(4,.inl ((0,64,1),none))],[],[((114,28),(0,0,0),some ((114,28),0,0))]),(27412,[(-1828),(-28)]),0),
  (51,([(0,.inr (.inl [114])),(1,.inl ((0,0,0),none)),(2,.inl (((-2147483648),2147483647,1),none)),(3,.inl ((0,13,1),none)),(4,.inl ((0,63,1),none))],[.inl (((-2147483648),2147483647,1),none)],[((114,28),(0,0,0),some ((114,28),0,0))]),(27388,[(-1828),(-28)]),0)]
set_option maxRecDepth 100000 in
theorem q834_ok : rf_chkB q834_P q834_U wLay q834_M ddX12_loadOf [(38,[0])] [.inl 3,.inl 4] [0,4,13,51] 600 q834_N = true := by decide +kernel
set_option maxHeartbeats 4000000 in
theorem q834_met {G : rfG} (h : okG G) (hh : wHandOK G) : rf_met G q834_M := rf_methodB h.1 (P := q834_P) (U := q834_U) (N := q834_N) ⟨wflT h flokX12, wcsT h csokX12, wlcT h lcokX12, spokX12 h, List.forall_mem_cons.mpr ⟨q673_met h hh, fun _ h => absurd h List.not_mem_nil⟩, fun _ h => absurd h List.not_mem_nil, List.forall_mem_cons.mpr ⟨fun M hM => Option.some.inj (show some q673_M = some M from hM) ▸ wlkV (lkX12_369 h) q673_M rfl rfl, fun _ h => absurd h List.not_mem_nil⟩, fun _ h => absurd h List.not_mem_nil, fun _ h => absurd h List.not_mem_nil⟩ dkX12_loadOf (by decide +kernel) (by rw [h.2.2.1]; exact q834_ok)
/-- NearSpellModel.loadOf -/
def q835_M : rfM := ((⟨"NearSpellModel", "loadOf", "(I)I"⟩, prog_14_method_97_code, 5, (some .int)), (22,2045), ([.inr (.inl [114]),.inl ((0,1,1),none)],[((114,28),(0,0,0),none)]), [(89,0),(114,35)], [(some (.inl (((-2147483648),2147483647,1),none)),[],[])])
def q835_P : rfP := (flX12,csX12,lcX12,spX12,[q673_M],[],[(369,0,12)],([],[]))
def q835_U : rfU := []
set_option maxHeartbeats 8000000 in
def q835_N : List rfB := [(0,([(0,.inr (.inl [114])),(1,.inl ((0,1,1),none))],[],[((114,28),(0,0,0),some ((114,28),0,0))]),(27425,[0,0]),0),
  (4,([(0,.inr (.inl [114])),(1,.inl ((0,1,1),none)),(2,.inl (((-2147483648),2147483647,1),none)),(3,.inl ((0,14,1),none))],[],[((114,28),(0,0,0),some ((114,28),0,0))]),(27419,[(-1828),0]),0),
  (13,([(0,.inr (.inl [114])),(1,.inl ((0,1,1),none)),(2,.inl (((-2147483648),2147483647,1),none)),(3,.inl ((0,13,1),none)),(4,.inl ((0,64,1),none))],[],[((114,28),(0,0,0),some ((114,28),0,0))]),(27412,[(-1828),(-28)]),0),
  (51,([(0,.inr (.inl [114])),(1,.inl ((0,1,1),none)),(2,.inl (((-2147483648),2147483647,1),none)),(3,.inl ((0,13,1),none)),(4,.inl ((0,63,1),none))],[.inl (((-2147483648),2147483647,1),none)],[((114,28),(0,0,0),some ((114,28),0,0))]),(27388,[(-1828),(-28)]),0)]
set_option maxRecDepth 100000 in
theorem q835_ok : rf_chkB q835_P q835_U wLay q835_M ddX12_loadOf [(38,[0])] [.inl 3,.inl 4] [0,4,13,51] 600 q835_N = true := by decide +kernel
set_option maxHeartbeats 4000000 in
theorem q835_met {G : rfG} (h : okG G) (hh : wHandOK G) : rf_met G q835_M := rf_methodB h.1 (P := q835_P) (U := q835_U) (N := q835_N) ⟨wflT h flokX12, wcsT h csokX12, wlcT h lcokX12, spokX12 h, List.forall_mem_cons.mpr ⟨q673_met h hh, fun _ h => absurd h List.not_mem_nil⟩, fun _ h => absurd h List.not_mem_nil, List.forall_mem_cons.mpr ⟨fun M hM => Option.some.inj (show some q673_M = some M from hM) ▸ wlkV (lkX12_369 h) q673_M rfl rfl, fun _ h => absurd h List.not_mem_nil⟩, fun _ h => absurd h List.not_mem_nil, fun _ h => absurd h List.not_mem_nil⟩ dkX12_loadOf (by decide +kernel) (by rw [h.2.2.1]; exact q835_ok)
/-- NearSpellModel.loadOf -/
def q836_M : rfM := ((⟨"NearSpellModel", "loadOf", "(I)I"⟩, prog_14_method_97_code, 5, (some .int)), (22,2045), ([.inr (.inl [114]),.inl ((0,2,1),none)],[((114,28),(0,0,0),none)]), [(89,0),(114,35)], [(some (.inl (((-2147483648),2147483647,1),none)),[],[])])
def q836_P : rfP := (flX12,csX12,lcX12,spX12,[q673_M],[],[(369,0,12)],([],[]))
def q836_U : rfU := []
set_option maxHeartbeats 8000000 in
def q836_N : List rfB := [(0,([(0,.inr (.inl [114])),(1,.inl ((0,2,1),none))],[],[((114,28),(0,0,0),some ((114,28),0,0))]),(27425,[0,0]),0),
  (4,([(0,.inr (.inl [114])),(1,.inl ((0,2,1),none)),(2,.inl (((-2147483648),2147483647,1),none)),(3,.inl ((0,14,1),none))],[],[((114,28),(0,0,0),some ((114,28),0,0))]),(27419,[(-1828),0]),0),
  (13,([(0,.inr (.inl [114])),(1,.inl ((0,2,1),none)),(2,.inl (((-2147483648),2147483647,1),none)),(3,.inl ((0,13,1),none)),(4,.inl ((0,64,1),none))],[],[((114,28),(0,0,0),some ((114,28),0,0))]),(27412,[(-1828),(-28)]),0),
  (51,([(0,.inr (.inl [114])),(1,.inl ((0,2,1),none)),(2,.inl (((-2147483648),2147483647,1),none)),(3,.inl ((0,13,1),none)),(4,.inl ((0,63,1),none))],[.inl (((-2147483648),2147483647,1),none)],[((114,28),(0,0,0),some ((114,28),0,0))]),(27388,[(-1828),(-28)]),0)]
set_option maxRecDepth 100000 in
theorem q836_ok : rf_chkB q836_P q836_U wLay q836_M ddX12_loadOf [(38,[0])] [.inl 3,.inl 4] [0,4,13,51] 600 q836_N = true := by decide +kernel
set_option maxHeartbeats 4000000 in
theorem q836_met {G : rfG} (h : okG G) (hh : wHandOK G) : rf_met G q836_M := rf_methodB h.1 (P := q836_P) (U := q836_U) (N := q836_N) ⟨wflT h flokX12, wcsT h csokX12, wlcT h lcokX12, spokX12 h, List.forall_mem_cons.mpr ⟨q673_met h hh, fun _ h => absurd h List.not_mem_nil⟩, fun _ h => absurd h List.not_mem_nil, List.forall_mem_cons.mpr ⟨fun M hM => Option.some.inj (show some q673_M = some M from hM) ▸ wlkV (lkX12_369 h) q673_M rfl rfl, fun _ h => absurd h List.not_mem_nil⟩, fun _ h => absurd h List.not_mem_nil, fun _ h => absurd h List.not_mem_nil⟩ dkX12_loadOf (by decide +kernel) (by rw [h.2.2.1]; exact q836_ok)
/-- NearSpellModel.loadOf -/
def q837_M : rfM := ((⟨"NearSpellModel", "loadOf", "(I)I"⟩, prog_14_method_97_code, 5, (some .int)), (22,2045), ([.inr (.inl [114]),.inl ((0,3,1),none)],[((114,28),(0,0,0),none)]), [(89,0),(114,35)], [(some (.inl (((-2147483648),2147483647,1),none)),[],[])])
def q837_P : rfP := (flX12,csX12,lcX12,spX12,[q673_M],[],[(369,0,12)],([],[]))
def q837_U : rfU := []
set_option maxHeartbeats 8000000 in
def q837_N : List rfB := [(0,([(0,.inr (.inl [114])),(1,.inl ((0,3,1),none))],[],[((114,28),(0,0,0),some ((114,28),0,0))]),(27425,[0,0]),0),
  (4,([(0,.inr (.inl [114])),(1,.inl ((0,3,1),none)),(2,.inl (((-2147483648),2147483647,1),none)),(3,.inl ((0,14,1),none))],[],[((114,28),(0,0,0),some ((114,28),0,0))]),(27419,[(-1828),0]),0),
  (13,([(0,.inr (.inl [114])),(1,.inl ((0,3,1),none)),(2,.inl (((-2147483648),2147483647,1),none)),(3,.inl ((0,13,1),none)),(4,.inl ((0,64,1),none))],[],[((114,28),(0,0,0),some ((114,28),0,0))]),(27412,[(-1828),(-28)]),0),
  (51,([(0,.inr (.inl [114])),(1,.inl ((0,3,1),none)),(2,.inl (((-2147483648),2147483647,1),none)),(3,.inl ((0,13,1),none)),(4,.inl ((0,63,1),none))],[.inl (((-2147483648),2147483647,1),none)],[((114,28),(0,0,0),some ((114,28),0,0))]),(27388,[(-1828),(-28)]),0)]
set_option maxRecDepth 100000 in
theorem q837_ok : rf_chkB q837_P q837_U wLay q837_M ddX12_loadOf [(38,[0])] [.inl 3,.inl 4] [0,4,13,51] 600 q837_N = true := by decide +kernel
set_option maxHeartbeats 4000000 in
theorem q837_met {G : rfG} (h : okG G) (hh : wHandOK G) : rf_met G q837_M := rf_methodB h.1 (P := q837_P) (U := q837_U) (N := q837_N) ⟨wflT h flokX12, wcsT h csokX12, wlcT h lcokX12, spokX12 h, List.forall_mem_cons.mpr ⟨q673_met h hh, fun _ h => absurd h List.not_mem_nil⟩, fun _ h => absurd h List.not_mem_nil, List.forall_mem_cons.mpr ⟨fun M hM => Option.some.inj (show some q673_M = some M from hM) ▸ wlkV (lkX12_369 h) q673_M rfl rfl, fun _ h => absurd h List.not_mem_nil⟩, fun _ h => absurd h List.not_mem_nil, fun _ h => absurd h List.not_mem_nil⟩ dkX12_loadOf (by decide +kernel) (by rw [h.2.2.1]; exact q837_ok)
/-- NearSpellModel.loadOf -/
def q838_M : rfM := ((⟨"NearSpellModel", "loadOf", "(I)I"⟩, prog_14_method_97_code, 5, (some .int)), (22,2045), ([.inr (.inl [114]),.inl ((0,12,1),none)],[((114,28),(0,0,0),none)]), [(89,0),(114,35)], [(some (.inl (((-2147483648),2147483647,1),none)),[],[])])
def q838_P : rfP := (flX12,csX12,lcX12,spX12,[q673_M],[],[(369,0,12)],([],[]))
def q838_U : rfU := []
set_option maxHeartbeats 8000000 in
def q838_N : List rfB := [(0,([(0,.inr (.inl [114])),(1,.inl ((0,12,1),none))],[],[((114,28),(0,0,0),some ((114,28),0,0))]),(27425,[0,0]),0),
  (4,([(0,.inr (.inl [114])),(1,.inl ((0,12,1),none)),(2,.inl (((-2147483648),2147483647,1),none)),(3,.inl ((0,14,1),none))],[],[((114,28),(0,0,0),some ((114,28),0,0))]),(27419,[(-1828),0]),0),
  (13,([(0,.inr (.inl [114])),(1,.inl ((0,12,1),none)),(2,.inl (((-2147483648),2147483647,1),none)),(3,.inl ((0,13,1),none)),(4,.inl ((0,64,1),none))],[],[((114,28),(0,0,0),some ((114,28),0,0))]),(27412,[(-1828),(-28)]),0),
  (51,([(0,.inr (.inl [114])),(1,.inl ((0,12,1),none)),(2,.inl (((-2147483648),2147483647,1),none)),(3,.inl ((0,13,1),none)),(4,.inl ((0,63,1),none))],[.inl (((-2147483648),2147483647,1),none)],[((114,28),(0,0,0),some ((114,28),0,0))]),(27388,[(-1828),(-28)]),0)]
set_option maxRecDepth 100000 in
theorem q838_ok : rf_chkB q838_P q838_U wLay q838_M ddX12_loadOf [(38,[0])] [.inl 3,.inl 4] [0,4,13,51] 600 q838_N = true := by decide +kernel
set_option maxHeartbeats 4000000 in
theorem q838_met {G : rfG} (h : okG G) (hh : wHandOK G) : rf_met G q838_M := rf_methodB h.1 (P := q838_P) (U := q838_U) (N := q838_N) ⟨wflT h flokX12, wcsT h csokX12, wlcT h lcokX12, spokX12 h, List.forall_mem_cons.mpr ⟨q673_met h hh, fun _ h => absurd h List.not_mem_nil⟩, fun _ h => absurd h List.not_mem_nil, List.forall_mem_cons.mpr ⟨fun M hM => Option.some.inj (show some q673_M = some M from hM) ▸ wlkV (lkX12_369 h) q673_M rfl rfl, fun _ h => absurd h List.not_mem_nil⟩, fun _ h => absurd h List.not_mem_nil, fun _ h => absurd h List.not_mem_nil⟩ dkX12_loadOf (by decide +kernel) (by rw [h.2.2.1]; exact q838_ok)
/-- NearSpellModel.loadOf -/
def q839_M : rfM := ((⟨"NearSpellModel", "loadOf", "(I)I"⟩, prog_14_method_97_code, 5, (some .int)), (22,2045), ([.inr (.inl [114]),.inl ((0,13,1),none)],[((114,28),(0,0,0),none)]), [(89,0),(114,35)], [(some (.inl (((-2147483648),2147483647,1),none)),[],[])])
def q839_P : rfP := (flX12,csX12,lcX12,spX12,[q673_M],[],[(369,0,12)],([],[]))
def q839_U : rfU := []
set_option maxHeartbeats 8000000 in
def q839_N : List rfB := [(0,([(0,.inr (.inl [114])),(1,.inl ((0,13,1),none))],[],[((114,28),(0,0,0),some ((114,28),0,0))]),(27425,[0,0]),0),
  (4,([(0,.inr (.inl [114])),(1,.inl ((0,13,1),none)),(2,.inl (((-2147483648),2147483647,1),none)),(3,.inl ((0,14,1),none))],[],[((114,28),(0,0,0),some ((114,28),0,0))]),(27419,[(-1828),0]),0),
  (13,([(0,.inr (.inl [114])),(1,.inl ((0,13,1),none)),(2,.inl (((-2147483648),2147483647,1),none)),(3,.inl ((0,13,1),none)),(4,.inl ((0,64,1),none))],[],[((114,28),(0,0,0),some ((114,28),0,0))]),(27412,[(-1828),(-28)]),0),
  (51,([(0,.inr (.inl [114])),(1,.inl ((0,13,1),none)),(2,.inl (((-2147483648),2147483647,1),none)),(3,.inl ((0,13,1),none)),(4,.inl ((0,63,1),none))],[.inl (((-2147483648),2147483647,1),none)],[((114,28),(0,0,0),some ((114,28),0,0))]),(27388,[(-1828),(-28)]),0)]
set_option maxRecDepth 100000 in
theorem q839_ok : rf_chkB q839_P q839_U wLay q839_M ddX12_loadOf [(38,[0])] [.inl 3,.inl 4] [0,4,13,51] 600 q839_N = true := by decide +kernel
set_option maxHeartbeats 4000000 in
theorem q839_met {G : rfG} (h : okG G) (hh : wHandOK G) : rf_met G q839_M := rf_methodB h.1 (P := q839_P) (U := q839_U) (N := q839_N) ⟨wflT h flokX12, wcsT h csokX12, wlcT h lcokX12, spokX12 h, List.forall_mem_cons.mpr ⟨q673_met h hh, fun _ h => absurd h List.not_mem_nil⟩, fun _ h => absurd h List.not_mem_nil, List.forall_mem_cons.mpr ⟨fun M hM => Option.some.inj (show some q673_M = some M from hM) ▸ wlkV (lkX12_369 h) q673_M rfl rfl, fun _ h => absurd h List.not_mem_nil⟩, fun _ h => absurd h List.not_mem_nil, fun _ h => absurd h List.not_mem_nil⟩ dkX12_loadOf (by decide +kernel) (by rw [h.2.2.1]; exact q839_ok)
/-- NearSpellModel.loadOf -/
def q840_M : rfM := ((⟨"NearSpellModel", "loadOf", "(I)I"⟩, prog_14_method_97_code, 5, (some .int)), (22,2045), ([.inr (.inl [114]),.inl ((0,14,1),none)],[((114,28),(0,0,0),none)]), [(89,0),(114,35)], [(some (.inl (((-2147483648),2147483647,1),none)),[],[])])
def q840_P : rfP := (flX12,csX12,lcX12,spX12,[q673_M],[],[(369,0,12)],([],[]))
def q840_U : rfU := []
set_option maxHeartbeats 8000000 in
def q840_N : List rfB := [(0,([(0,.inr (.inl [114])),(1,.inl ((0,14,1),none))],[],[((114,28),(0,0,0),some ((114,28),0,0))]),(27425,[0,0]),0),
  (4,([(0,.inr (.inl [114])),(1,.inl ((0,14,1),none)),(2,.inl (((-2147483648),2147483647,1),none)),(3,.inl ((0,14,1),none))],[],[((114,28),(0,0,0),some ((114,28),0,0))]),(27419,[(-1828),0]),0),
  (13,([(0,.inr (.inl [114])),(1,.inl ((0,14,1),none)),(2,.inl (((-2147483648),2147483647,1),none)),(3,.inl ((0,13,1),none)),(4,.inl ((0,64,1),none))],[],[((114,28),(0,0,0),some ((114,28),0,0))]),(27412,[(-1828),(-28)]),0),
  (51,([(0,.inr (.inl [114])),(1,.inl ((0,14,1),none)),(2,.inl (((-2147483648),2147483647,1),none)),(3,.inl ((0,13,1),none)),(4,.inl ((0,63,1),none))],[.inl (((-2147483648),2147483647,1),none)],[((114,28),(0,0,0),some ((114,28),0,0))]),(27388,[(-1828),(-28)]),0)]
set_option maxRecDepth 100000 in
theorem q840_ok : rf_chkB q840_P q840_U wLay q840_M ddX12_loadOf [(38,[0])] [.inl 3,.inl 4] [0,4,13,51] 600 q840_N = true := by decide +kernel
set_option maxHeartbeats 4000000 in
theorem q840_met {G : rfG} (h : okG G) (hh : wHandOK G) : rf_met G q840_M := rf_methodB h.1 (P := q840_P) (U := q840_U) (N := q840_N) ⟨wflT h flokX12, wcsT h csokX12, wlcT h lcokX12, spokX12 h, List.forall_mem_cons.mpr ⟨q673_met h hh, fun _ h => absurd h List.not_mem_nil⟩, fun _ h => absurd h List.not_mem_nil, List.forall_mem_cons.mpr ⟨fun M hM => Option.some.inj (show some q673_M = some M from hM) ▸ wlkV (lkX12_369 h) q673_M rfl rfl, fun _ h => absurd h List.not_mem_nil⟩, fun _ h => absurd h List.not_mem_nil, fun _ h => absurd h List.not_mem_nil⟩ dkX12_loadOf (by decide +kernel) (by rw [h.2.2.1]; exact q840_ok)
/-- NearSpellModel.loadOf -/
def q841_M : rfM := ((⟨"NearSpellModel", "loadOf", "(I)I"⟩, prog_14_method_97_code, 5, (some .int)), (22,2045), ([.inr (.inl [114]),.inl ((0,26,1),none)],[((114,28),(0,0,0),none)]), [(89,0),(114,35)], [(some (.inl (((-2147483648),2147483647,1),none)),[],[])])
def q841_P : rfP := (flX12,csX12,lcX12,spX12,[q673_M],[],[(369,0,12)],([],[]))
def q841_U : rfU := []
set_option maxHeartbeats 8000000 in
def q841_N : List rfB := [(0,([(0,.inr (.inl [114])),(1,.inl ((0,26,1),none))],[],[((114,28),(0,0,0),some ((114,28),0,0))]),(27425,[0,0]),0),
  (4,([(0,.inr (.inl [114])),(1,.inl ((0,26,1),none)),(2,.inl (((-2147483648),2147483647,1),none)),(3,.inl ((0,14,1),none))],[],[((114,28),(0,0,0),some ((114,28),0,0))]),(27419,[(-1828),0]),0),
  (13,([(0,.inr (.inl [114])),(1,.inl ((0,26,1),none)),(2,.inl (((-2147483648),2147483647,1),none)),(3,.inl ((0,13,1),none)),(4,.inl ((0,64,1),none))],[],[((114,28),(0,0,0),some ((114,28),0,0))]),(27412,[(-1828),(-28)]),0),
  (51,([(0,.inr (.inl [114])),(1,.inl ((0,26,1),none)),(2,.inl (((-2147483648),2147483647,1),none)),(3,.inl ((0,13,1),none)),(4,.inl ((0,63,1),none))],[.inl (((-2147483648),2147483647,1),none)],[((114,28),(0,0,0),some ((114,28),0,0))]),(27388,[(-1828),(-28)]),0)]
set_option maxRecDepth 100000 in
theorem q841_ok : rf_chkB q841_P q841_U wLay q841_M ddX12_loadOf [(38,[0])] [.inl 3,.inl 4] [0,4,13,51] 600 q841_N = true := by decide +kernel
set_option maxHeartbeats 4000000 in
theorem q841_met {G : rfG} (h : okG G) (hh : wHandOK G) : rf_met G q841_M := rf_methodB h.1 (P := q841_P) (U := q841_U) (N := q841_N) ⟨wflT h flokX12, wcsT h csokX12, wlcT h lcokX12, spokX12 h, List.forall_mem_cons.mpr ⟨q673_met h hh, fun _ h => absurd h List.not_mem_nil⟩, fun _ h => absurd h List.not_mem_nil, List.forall_mem_cons.mpr ⟨fun M hM => Option.some.inj (show some q673_M = some M from hM) ▸ wlkV (lkX12_369 h) q673_M rfl rfl, fun _ h => absurd h List.not_mem_nil⟩, fun _ h => absurd h List.not_mem_nil, fun _ h => absurd h List.not_mem_nil⟩ dkX12_loadOf (by decide +kernel) (by rw [h.2.2.1]; exact q841_ok)
/-- NearSpellModel.loadOf -/
def q842_M : rfM := ((⟨"NearSpellModel", "loadOf", "(I)I"⟩, prog_14_method_97_code, 5, (some .int)), (22,2045), ([.inr (.inl [114]),.inl ((0,29,1),none)],[((114,28),(0,0,0),none)]), [(89,0),(114,35)], [(some (.inl (((-2147483648),2147483647,1),none)),[],[])])
def q842_P : rfP := (flX12,csX12,lcX12,spX12,[q673_M],[],[(369,0,12)],([],[]))
def q842_U : rfU := []
set_option maxHeartbeats 8000000 in
def q842_N : List rfB := [(0,([(0,.inr (.inl [114])),(1,.inl ((0,29,1),none))],[],[((114,28),(0,0,0),some ((114,28),0,0))]),(27425,[0,0]),0),
  (4,([(0,.inr (.inl [114])),(1,.inl ((0,29,1),none)),(2,.inl (((-2147483648),2147483647,1),none)),(3,.inl ((0,14,1),none))],[],[((114,28),(0,0,0),some ((114,28),0,0))]),(27419,[(-1828),0]),0),
  (13,([(0,.inr (.inl [114])),(1,.inl ((0,29,1),none)),(2,.inl (((-2147483648),2147483647,1),none)),(3,.inl ((0,13,1),none)),(4,.inl ((0,64,1),none))],[],[((114,28),(0,0,0),some ((114,28),0,0))]),(27412,[(-1828),(-28)]),0),
  (51,([(0,.inr (.inl [114])),(1,.inl ((0,29,1),none)),(2,.inl (((-2147483648),2147483647,1),none)),(3,.inl ((0,13,1),none)),(4,.inl ((0,63,1),none))],[.inl (((-2147483648),2147483647,1),none)],[((114,28),(0,0,0),some ((114,28),0,0))]),(27388,[(-1828),(-28)]),0)]
set_option maxRecDepth 100000 in
theorem q842_ok : rf_chkB q842_P q842_U wLay q842_M ddX12_loadOf [(38,[0])] [.inl 3,.inl 4] [0,4,13,51] 600 q842_N = true := by decide +kernel
set_option maxHeartbeats 4000000 in
theorem q842_met {G : rfG} (h : okG G) (hh : wHandOK G) : rf_met G q842_M := rf_methodB h.1 (P := q842_P) (U := q842_U) (N := q842_N) ⟨wflT h flokX12, wcsT h csokX12, wlcT h lcokX12, spokX12 h, List.forall_mem_cons.mpr ⟨q673_met h hh, fun _ h => absurd h List.not_mem_nil⟩, fun _ h => absurd h List.not_mem_nil, List.forall_mem_cons.mpr ⟨fun M hM => Option.some.inj (show some q673_M = some M from hM) ▸ wlkV (lkX12_369 h) q673_M rfl rfl, fun _ h => absurd h List.not_mem_nil⟩, fun _ h => absurd h List.not_mem_nil, fun _ h => absurd h List.not_mem_nil⟩ dkX12_loadOf (by decide +kernel) (by rw [h.2.2.1]; exact q842_ok)
/-- NearSpellModel.fullest -/
def q843_M : rfM := ((⟨"NearSpellModel", "fullest", "()I"⟩, prog_14_method_99_code, 6, (some .int)), (23,2069), ([.inr (.inl [114])],[((114,28),(0,0,0),none)]), [(89,0),(91,0),(92,0),(93,0),(114,35),(114,40)], [(some (.inl ((0,31,1),none)),[],[])])
def ddX12_fullest : List (Nat × Instr × Nat) := [(0,.aload_n 0,1),(1,.aload_n 0,1),(2,.invokevirtual 372,3),(5,.invokevirtual 375,3),(8,.istore_n 1,1),(9,.iconst 0,1),(10,.istore_n 2,1),(11,.iconst 0,1),(12,.istore_n 3,1),(13,.iconst 0,1),(14,.istore 4,2),(16,.iload 4,2),(18,.aload_n 0,1),(19,.getfield 33,3),(22,.aload_n 0,1),(23,.getfield 242,3),(26,.iaload,1),(27,.if_icmp .ge 41,3),(30,.iload_n 1,1),(31,.ifCond .le 37,3),(34,.aload_n 0,1),(35,.iload 4,2),(37,.invokevirtual 462,3),(40,.istore 5,2),(42,.iload_n 1,1),(43,.iload 5,2),(45,.isub,1),(46,.istore_n 1,1),(47,.iload 5,2),(49,.iload_n 3,1),(50,.if_icmp .gt 6,3),(53,.goto 9,3),(56,.iload 4,2),(58,.istore_n 2,1),(59,.iload 5,2),(61,.istore_n 3,1),(62,.iinc 4 1,3),(65,.goto (-49),3),(68,.iload_n 2,1),(69,.ireturn,1)]
set_option maxRecDepth 100000 in
theorem dkX12_fullest : rf_decs prog_14_method_99_code ddX12_fullest := rf_decs_of (by decide +kernel)
def q843_P : rfP := (flX12,csX12,lcX12,spX12,[q609_M,q669_M,q830_M],[],[(372,0,12),(375,1,12),(462,2,12)],([],[]))
def q843_U : rfU := []
set_option maxHeartbeats 8000000 in
def q843_N : List rfB := [(0,([(0,.inr (.inl [114]))],[],[((114,28),(0,0,0),some ((114,28),0,0))]),(908,[0]),0),
  (16,([(0,.inr (.inl [114])),(1,.inl (((-2147483648),2147483647,1),none)),(2,.inl ((0,31,1),none)),(3,.inl ((0,2147483647,1),none)),(4,.inl ((0,31,1),none))],[],[((114,28),(0,0,0),some ((114,28),0,0))]),(895,[(-28)]),0),
  (68,([(0,.inr (.inl [114])),(1,.inl (((-2147483648),2147483647,1),none)),(2,.inl ((0,31,1),none)),(3,.inl ((0,2147483647,1),none)),(4,.inl ((0,31,1),none))],[],[((114,28),(0,0,0),some ((114,28),0,0))]),(1,[0]),0),
  (62,([(0,.inr (.inl [114])),(1,.inl (((-2147483648),2147483647,1),none)),(2,.inl ((0,31,1),none)),(3,.inl ((0,2147483647,1),none)),(4,.inl ((0,30,1),none)),(5,.inl (((-2147483648),2147483647,1),none))],[],[((114,28),(0,0,0),some ((114,28),0,0))]),(870,[(-28)]),0)]
set_option maxRecDepth 100000 in
theorem q843_ok : rf_chkB q843_P q843_U wLay q843_M ddX12_fullest [(2,[0]),(5,[1]),(37,[2])] [.inl 4] [0,16,62,68] 600 q843_N = true := by decide +kernel
set_option maxHeartbeats 4000000 in
theorem q843_met {G : rfG} (h : okG G) (hh : wHandOK G) : rf_met G q843_M := rf_methodB h.1 (P := q843_P) (U := q843_U) (N := q843_N) ⟨wflT h flokX12, wcsT h csokX12, wlcT h lcokX12, spokX12 h, List.forall_mem_cons.mpr ⟨q609_met h hh, List.forall_mem_cons.mpr ⟨q669_met h hh, List.forall_mem_cons.mpr ⟨q830_met h hh, fun _ h => absurd h List.not_mem_nil⟩⟩⟩, fun _ h => absurd h List.not_mem_nil, List.forall_mem_cons.mpr ⟨fun M hM => Option.some.inj (show some q609_M = some M from hM) ▸ wlkV (lkX12_372 h) q609_M rfl rfl, List.forall_mem_cons.mpr ⟨fun M hM => Option.some.inj (show some q669_M = some M from hM) ▸ wlkV (lkX12_375 h) q669_M rfl rfl, List.forall_mem_cons.mpr ⟨fun M hM => Option.some.inj (show some q830_M = some M from hM) ▸ wlkV (lkX12_462 h) q830_M rfl rfl, fun _ h => absurd h List.not_mem_nil⟩⟩⟩, fun _ h => absurd h List.not_mem_nil, fun _ h => absurd h List.not_mem_nil⟩ dkX12_fullest (by decide +kernel) (by rw [h.2.2.1]; exact q843_ok)
/-- NearSpellModel.loadOf -/
def q844_M : rfM := ((⟨"NearSpellModel", "loadOf", "(I)I"⟩, prog_14_method_97_code, 5, (some .int)), (22,2045), ([.inr (.inl [114]),.inl ((0,0,0),none)],[((77,1),(1,31,1),none),((114,28),(1,1,0),none)]), [(89,0),(114,35)], [(some (.inl (((-2147483648),2147483647,1),none)),[],[])])
def q844_P : rfP := (flX12,csX12,lcX12,spX12,[q693_M],[],[(369,0,12)],([],[]))
def q844_U : rfU := []
set_option maxHeartbeats 8000000 in
def q844_N : List rfB := [(0,([(0,.inr (.inl [114])),(1,.inl ((0,0,0),none))],[],[((77,1),(1,31,1),some ((77,1),0,0)),((114,28),(1,1,0),some ((114,28),0,0))]),(27425,[0,0]),0),
  (4,([(0,.inr (.inl [114])),(1,.inl ((0,0,0),none)),(2,.inl (((-2147483648),2147483647,1),none)),(3,.inl ((0,14,1),none))],[],[((77,1),(1,31,1),some ((77,1),0,0)),((114,28),(1,1,0),some ((114,28),0,0))]),(27419,[(-1828),0]),0),
  (13,([(0,.inr (.inl [114])),(1,.inl ((0,0,0),none)),(2,.inl (((-2147483648),2147483647,1),none)),(3,.inl ((0,13,1),none)),(4,.inl ((0,64,1),none))],[],[((77,1),(1,31,1),some ((77,1),0,0)),((114,28),(1,1,0),some ((114,28),0,0))]),(27412,[(-1828),(-28)]),0),
  (51,([(0,.inr (.inl [114])),(1,.inl ((0,0,0),none)),(2,.inl (((-2147483648),2147483647,1),none)),(3,.inl ((0,13,1),none)),(4,.inl ((0,63,1),none))],[.inl (((-2147483648),2147483647,1),none)],[((77,1),(1,31,1),some ((77,1),0,0)),((114,28),(1,1,0),some ((114,28),0,0))]),(27388,[(-1828),(-28)]),0)]
set_option maxRecDepth 100000 in
theorem q844_ok : rf_chkB q844_P q844_U wLay q844_M ddX12_loadOf [(38,[0])] [.inl 3,.inl 4] [0,4,13,51] 600 q844_N = true := by decide +kernel
set_option maxHeartbeats 4000000 in
theorem q844_met {G : rfG} (h : okG G) (hh : wHandOK G) : rf_met G q844_M := rf_methodB h.1 (P := q844_P) (U := q844_U) (N := q844_N) ⟨wflT h flokX12, wcsT h csokX12, wlcT h lcokX12, spokX12 h, List.forall_mem_cons.mpr ⟨q693_met h hh, fun _ h => absurd h List.not_mem_nil⟩, fun _ h => absurd h List.not_mem_nil, List.forall_mem_cons.mpr ⟨fun M hM => Option.some.inj (show some q693_M = some M from hM) ▸ wlkV (lkX12_369 h) q693_M rfl rfl, fun _ h => absurd h List.not_mem_nil⟩, fun _ h => absurd h List.not_mem_nil, fun _ h => absurd h List.not_mem_nil⟩ dkX12_loadOf (by decide +kernel) (by rw [h.2.2.1]; exact q844_ok)
/-- NearSpellModel.loadOf -/
def q845_M : rfM := ((⟨"NearSpellModel", "loadOf", "(I)I"⟩, prog_14_method_97_code, 5, (some .int)), (22,2045), ([.inr (.inl [114]),.inl ((0,1,1),none)],[((77,1),(1,31,1),none),((114,28),(1,1,0),none)]), [(89,0),(114,35)], [(some (.inl (((-2147483648),2147483647,1),none)),[],[])])
def q845_P : rfP := (flX12,csX12,lcX12,spX12,[q693_M],[],[(369,0,12)],([],[]))
def q845_U : rfU := []
set_option maxHeartbeats 8000000 in
def q845_N : List rfB := [(0,([(0,.inr (.inl [114])),(1,.inl ((0,1,1),none))],[],[((77,1),(1,31,1),some ((77,1),0,0)),((114,28),(1,1,0),some ((114,28),0,0))]),(27425,[0,0]),0),
  (4,([(0,.inr (.inl [114])),(1,.inl ((0,1,1),none)),(2,.inl (((-2147483648),2147483647,1),none)),(3,.inl ((0,14,1),none))],[],[((77,1),(1,31,1),some ((77,1),0,0)),((114,28),(1,1,0),some ((114,28),0,0))]),(27419,[(-1828),0]),0),
  (13,([(0,.inr (.inl [114])),(1,.inl ((0,1,1),none)),(2,.inl (((-2147483648),2147483647,1),none)),(3,.inl ((0,13,1),none)),(4,.inl ((0,64,1),none))],[],[((77,1),(1,31,1),some ((77,1),0,0)),((114,28),(1,1,0),some ((114,28),0,0))]),(27412,[(-1828),(-28)]),0),
  (51,([(0,.inr (.inl [114])),(1,.inl ((0,1,1),none)),(2,.inl (((-2147483648),2147483647,1),none)),(3,.inl ((0,13,1),none)),(4,.inl ((0,63,1),none))],[.inl (((-2147483648),2147483647,1),none)],[((77,1),(1,31,1),some ((77,1),0,0)),((114,28),(1,1,0),some ((114,28),0,0))]),(27388,[(-1828),(-28)]),0)]
set_option maxRecDepth 100000 in
theorem q845_ok : rf_chkB q845_P q845_U wLay q845_M ddX12_loadOf [(38,[0])] [.inl 3,.inl 4] [0,4,13,51] 600 q845_N = true := by decide +kernel
set_option maxHeartbeats 4000000 in
theorem q845_met {G : rfG} (h : okG G) (hh : wHandOK G) : rf_met G q845_M := rf_methodB h.1 (P := q845_P) (U := q845_U) (N := q845_N) ⟨wflT h flokX12, wcsT h csokX12, wlcT h lcokX12, spokX12 h, List.forall_mem_cons.mpr ⟨q693_met h hh, fun _ h => absurd h List.not_mem_nil⟩, fun _ h => absurd h List.not_mem_nil, List.forall_mem_cons.mpr ⟨fun M hM => Option.some.inj (show some q693_M = some M from hM) ▸ wlkV (lkX12_369 h) q693_M rfl rfl, fun _ h => absurd h List.not_mem_nil⟩, fun _ h => absurd h List.not_mem_nil, fun _ h => absurd h List.not_mem_nil⟩ dkX12_loadOf (by decide +kernel) (by rw [h.2.2.1]; exact q845_ok)
/-- NearSpellModel.loadOf -/
def q846_M : rfM := ((⟨"NearSpellModel", "loadOf", "(I)I"⟩, prog_14_method_97_code, 5, (some .int)), (22,2045), ([.inr (.inl [114]),.inl ((0,2,1),none)],[((77,1),(1,31,1),none),((114,28),(1,1,0),none)]), [(89,0),(114,35)], [(some (.inl (((-2147483648),2147483647,1),none)),[],[])])
def q846_P : rfP := (flX12,csX12,lcX12,spX12,[q693_M],[],[(369,0,12)],([],[]))
def q846_U : rfU := []
set_option maxHeartbeats 8000000 in
def q846_N : List rfB := [(0,([(0,.inr (.inl [114])),(1,.inl ((0,2,1),none))],[],[((77,1),(1,31,1),some ((77,1),0,0)),((114,28),(1,1,0),some ((114,28),0,0))]),(27425,[0,0]),0),
  (4,([(0,.inr (.inl [114])),(1,.inl ((0,2,1),none)),(2,.inl (((-2147483648),2147483647,1),none)),(3,.inl ((0,14,1),none))],[],[((77,1),(1,31,1),some ((77,1),0,0)),((114,28),(1,1,0),some ((114,28),0,0))]),(27419,[(-1828),0]),0),
  (13,([(0,.inr (.inl [114])),(1,.inl ((0,2,1),none)),(2,.inl (((-2147483648),2147483647,1),none)),(3,.inl ((0,13,1),none)),(4,.inl ((0,64,1),none))],[],[((77,1),(1,31,1),some ((77,1),0,0)),((114,28),(1,1,0),some ((114,28),0,0))]),(27412,[(-1828),(-28)]),0),
  (51,([(0,.inr (.inl [114])),(1,.inl ((0,2,1),none)),(2,.inl (((-2147483648),2147483647,1),none)),(3,.inl ((0,13,1),none)),(4,.inl ((0,63,1),none))],[.inl (((-2147483648),2147483647,1),none)],[((77,1),(1,31,1),some ((77,1),0,0)),((114,28),(1,1,0),some ((114,28),0,0))]),(27388,[(-1828),(-28)]),0)]
set_option maxRecDepth 100000 in
theorem q846_ok : rf_chkB q846_P q846_U wLay q846_M ddX12_loadOf [(38,[0])] [.inl 3,.inl 4] [0,4,13,51] 600 q846_N = true := by decide +kernel
set_option maxHeartbeats 4000000 in
theorem q846_met {G : rfG} (h : okG G) (hh : wHandOK G) : rf_met G q846_M := rf_methodB h.1 (P := q846_P) (U := q846_U) (N := q846_N) ⟨wflT h flokX12, wcsT h csokX12, wlcT h lcokX12, spokX12 h, List.forall_mem_cons.mpr ⟨q693_met h hh, fun _ h => absurd h List.not_mem_nil⟩, fun _ h => absurd h List.not_mem_nil, List.forall_mem_cons.mpr ⟨fun M hM => Option.some.inj (show some q693_M = some M from hM) ▸ wlkV (lkX12_369 h) q693_M rfl rfl, fun _ h => absurd h List.not_mem_nil⟩, fun _ h => absurd h List.not_mem_nil, fun _ h => absurd h List.not_mem_nil⟩ dkX12_loadOf (by decide +kernel) (by rw [h.2.2.1]; exact q846_ok)
/-- NearSpellModel.loadOf -/
def q847_M : rfM := ((⟨"NearSpellModel", "loadOf", "(I)I"⟩, prog_14_method_97_code, 5, (some .int)), (22,2045), ([.inr (.inl [114]),.inl ((0,3,1),none)],[((77,1),(1,31,1),none),((114,28),(1,1,0),none)]), [(89,0),(114,35)], [(some (.inl (((-2147483648),2147483647,1),none)),[],[])])
def q847_P : rfP := (flX12,csX12,lcX12,spX12,[q693_M],[],[(369,0,12)],([],[]))
def q847_U : rfU := []
set_option maxHeartbeats 8000000 in
def q847_N : List rfB := [(0,([(0,.inr (.inl [114])),(1,.inl ((0,3,1),none))],[],[((77,1),(1,31,1),some ((77,1),0,0)),((114,28),(1,1,0),some ((114,28),0,0))]),(27425,[0,0]),0),
  (4,([(0,.inr (.inl [114])),(1,.inl ((0,3,1),none)),(2,.inl (((-2147483648),2147483647,1),none)),(3,.inl ((0,14,1),none))],[],[((77,1),(1,31,1),some ((77,1),0,0)),((114,28),(1,1,0),some ((114,28),0,0))]),(27419,[(-1828),0]),0),
  (13,([(0,.inr (.inl [114])),(1,.inl ((0,3,1),none)),(2,.inl (((-2147483648),2147483647,1),none)),(3,.inl ((0,13,1),none)),(4,.inl ((0,64,1),none))],[],[((77,1),(1,31,1),some ((77,1),0,0)),((114,28),(1,1,0),some ((114,28),0,0))]),(27412,[(-1828),(-28)]),0),
  (51,([(0,.inr (.inl [114])),(1,.inl ((0,3,1),none)),(2,.inl (((-2147483648),2147483647,1),none)),(3,.inl ((0,13,1),none)),(4,.inl ((0,63,1),none))],[.inl (((-2147483648),2147483647,1),none)],[((77,1),(1,31,1),some ((77,1),0,0)),((114,28),(1,1,0),some ((114,28),0,0))]),(27388,[(-1828),(-28)]),0)]
set_option maxRecDepth 100000 in
theorem q847_ok : rf_chkB q847_P q847_U wLay q847_M ddX12_loadOf [(38,[0])] [.inl 3,.inl 4] [0,4,13,51] 600 q847_N = true := by decide +kernel
set_option maxHeartbeats 4000000 in
theorem q847_met {G : rfG} (h : okG G) (hh : wHandOK G) : rf_met G q847_M := rf_methodB h.1 (P := q847_P) (U := q847_U) (N := q847_N) ⟨wflT h flokX12, wcsT h csokX12, wlcT h lcokX12, spokX12 h, List.forall_mem_cons.mpr ⟨q693_met h hh, fun _ h => absurd h List.not_mem_nil⟩, fun _ h => absurd h List.not_mem_nil, List.forall_mem_cons.mpr ⟨fun M hM => Option.some.inj (show some q693_M = some M from hM) ▸ wlkV (lkX12_369 h) q693_M rfl rfl, fun _ h => absurd h List.not_mem_nil⟩, fun _ h => absurd h List.not_mem_nil, fun _ h => absurd h List.not_mem_nil⟩ dkX12_loadOf (by decide +kernel) (by rw [h.2.2.1]; exact q847_ok)
/-- NearSpellModel.loadOf -/
def q848_M : rfM := ((⟨"NearSpellModel", "loadOf", "(I)I"⟩, prog_14_method_97_code, 5, (some .int)), (22,2045), ([.inr (.inl [114]),.inl ((0,12,1),none)],[((77,1),(1,31,1),none),((114,28),(1,1,0),none)]), [(89,0),(114,35)], [(some (.inl (((-2147483648),2147483647,1),none)),[],[])])
def q848_P : rfP := (flX12,csX12,lcX12,spX12,[q693_M],[],[(369,0,12)],([],[]))
def q848_U : rfU := []
set_option maxHeartbeats 8000000 in
def q848_N : List rfB := [(0,([(0,.inr (.inl [114])),(1,.inl ((0,12,1),none))],[],[((77,1),(1,31,1),some ((77,1),0,0)),((114,28),(1,1,0),some ((114,28),0,0))]),(27425,[0,0]),0),
  (4,([(0,.inr (.inl [114])),(1,.inl ((0,12,1),none)),(2,.inl (((-2147483648),2147483647,1),none)),(3,.inl ((0,14,1),none))],[],[((77,1),(1,31,1),some ((77,1),0,0)),((114,28),(1,1,0),some ((114,28),0,0))]),(27419,[(-1828),0]),0),
  (13,([(0,.inr (.inl [114])),(1,.inl ((0,12,1),none)),(2,.inl (((-2147483648),2147483647,1),none)),(3,.inl ((0,13,1),none)),(4,.inl ((0,64,1),none))],[],[((77,1),(1,31,1),some ((77,1),0,0)),((114,28),(1,1,0),some ((114,28),0,0))]),(27412,[(-1828),(-28)]),0),
  (51,([(0,.inr (.inl [114])),(1,.inl ((0,12,1),none)),(2,.inl (((-2147483648),2147483647,1),none)),(3,.inl ((0,13,1),none)),(4,.inl ((0,63,1),none))],[.inl (((-2147483648),2147483647,1),none)],[((77,1),(1,31,1),some ((77,1),0,0)),((114,28),(1,1,0),some ((114,28),0,0))]),(27388,[(-1828),(-28)]),0)]
set_option maxRecDepth 100000 in
theorem q848_ok : rf_chkB q848_P q848_U wLay q848_M ddX12_loadOf [(38,[0])] [.inl 3,.inl 4] [0,4,13,51] 600 q848_N = true := by decide +kernel
set_option maxHeartbeats 4000000 in
theorem q848_met {G : rfG} (h : okG G) (hh : wHandOK G) : rf_met G q848_M := rf_methodB h.1 (P := q848_P) (U := q848_U) (N := q848_N) ⟨wflT h flokX12, wcsT h csokX12, wlcT h lcokX12, spokX12 h, List.forall_mem_cons.mpr ⟨q693_met h hh, fun _ h => absurd h List.not_mem_nil⟩, fun _ h => absurd h List.not_mem_nil, List.forall_mem_cons.mpr ⟨fun M hM => Option.some.inj (show some q693_M = some M from hM) ▸ wlkV (lkX12_369 h) q693_M rfl rfl, fun _ h => absurd h List.not_mem_nil⟩, fun _ h => absurd h List.not_mem_nil, fun _ h => absurd h List.not_mem_nil⟩ dkX12_loadOf (by decide +kernel) (by rw [h.2.2.1]; exact q848_ok)
/-- NearSpellModel.loadOf -/
def q849_M : rfM := ((⟨"NearSpellModel", "loadOf", "(I)I"⟩, prog_14_method_97_code, 5, (some .int)), (22,2045), ([.inr (.inl [114]),.inl ((0,13,1),none)],[((77,1),(1,31,1),none),((114,28),(1,1,0),none)]), [(89,0),(114,35)], [(some (.inl (((-2147483648),2147483647,1),none)),[],[])])
def q849_P : rfP := (flX12,csX12,lcX12,spX12,[q693_M],[],[(369,0,12)],([],[]))
def q849_U : rfU := []
set_option maxHeartbeats 8000000 in
def q849_N : List rfB := [(0,([(0,.inr (.inl [114])),(1,.inl ((0,13,1),none))],[],[((77,1),(1,31,1),some ((77,1),0,0)),((114,28),(1,1,0),some ((114,28),0,0))]),(27425,[0,0]),0),
  (4,([(0,.inr (.inl [114])),(1,.inl ((0,13,1),none)),(2,.inl (((-2147483648),2147483647,1),none)),(3,.inl ((0,14,1),none))],[],[((77,1),(1,31,1),some ((77,1),0,0)),((114,28),(1,1,0),some ((114,28),0,0))]),(27419,[(-1828),0]),0),
  (13,([(0,.inr (.inl [114])),(1,.inl ((0,13,1),none)),(2,.inl (((-2147483648),2147483647,1),none)),(3,.inl ((0,13,1),none)),(4,.inl ((0,64,1),none))],[],[((77,1),(1,31,1),some ((77,1),0,0)),((114,28),(1,1,0),some ((114,28),0,0))]),(27412,[(-1828),(-28)]),0),
  (51,([(0,.inr (.inl [114])),(1,.inl ((0,13,1),none)),(2,.inl (((-2147483648),2147483647,1),none)),(3,.inl ((0,13,1),none)),(4,.inl ((0,63,1),none))],[.inl (((-2147483648),2147483647,1),none)],[((77,1),(1,31,1),some ((77,1),0,0)),((114,28),(1,1,0),some ((114,28),0,0))]),(27388,[(-1828),(-28)]),0)]
set_option maxRecDepth 100000 in
theorem q849_ok : rf_chkB q849_P q849_U wLay q849_M ddX12_loadOf [(38,[0])] [.inl 3,.inl 4] [0,4,13,51] 600 q849_N = true := by decide +kernel
set_option maxHeartbeats 4000000 in
theorem q849_met {G : rfG} (h : okG G) (hh : wHandOK G) : rf_met G q849_M := rf_methodB h.1 (P := q849_P) (U := q849_U) (N := q849_N) ⟨wflT h flokX12, wcsT h csokX12, wlcT h lcokX12, spokX12 h, List.forall_mem_cons.mpr ⟨q693_met h hh, fun _ h => absurd h List.not_mem_nil⟩, fun _ h => absurd h List.not_mem_nil, List.forall_mem_cons.mpr ⟨fun M hM => Option.some.inj (show some q693_M = some M from hM) ▸ wlkV (lkX12_369 h) q693_M rfl rfl, fun _ h => absurd h List.not_mem_nil⟩, fun _ h => absurd h List.not_mem_nil, fun _ h => absurd h List.not_mem_nil⟩ dkX12_loadOf (by decide +kernel) (by rw [h.2.2.1]; exact q849_ok)
/-- NearSpellModel.loadOf -/
def q850_M : rfM := ((⟨"NearSpellModel", "loadOf", "(I)I"⟩, prog_14_method_97_code, 5, (some .int)), (22,2045), ([.inr (.inl [114]),.inl ((0,14,1),none)],[((77,1),(1,31,1),none),((114,28),(1,1,0),none)]), [(89,0),(114,35)], [(some (.inl (((-2147483648),2147483647,1),none)),[],[])])
def q850_P : rfP := (flX12,csX12,lcX12,spX12,[q693_M],[],[(369,0,12)],([],[]))
def q850_U : rfU := []
set_option maxHeartbeats 8000000 in
def q850_N : List rfB := [(0,([(0,.inr (.inl [114])),(1,.inl ((0,14,1),none))],[],[((77,1),(1,31,1),some ((77,1),0,0)),((114,28),(1,1,0),some ((114,28),0,0))]),(27425,[0,0]),0),
  (4,([(0,.inr (.inl [114])),(1,.inl ((0,14,1),none)),(2,.inl (((-2147483648),2147483647,1),none)),(3,.inl ((0,14,1),none))],[],[((77,1),(1,31,1),some ((77,1),0,0)),((114,28),(1,1,0),some ((114,28),0,0))]),(27419,[(-1828),0]),0),
  (13,([(0,.inr (.inl [114])),(1,.inl ((0,14,1),none)),(2,.inl (((-2147483648),2147483647,1),none)),(3,.inl ((0,13,1),none)),(4,.inl ((0,64,1),none))],[],[((77,1),(1,31,1),some ((77,1),0,0)),((114,28),(1,1,0),some ((114,28),0,0))]),(27412,[(-1828),(-28)]),0),
  (51,([(0,.inr (.inl [114])),(1,.inl ((0,14,1),none)),(2,.inl (((-2147483648),2147483647,1),none)),(3,.inl ((0,13,1),none)),(4,.inl ((0,63,1),none))],[.inl (((-2147483648),2147483647,1),none)],[((77,1),(1,31,1),some ((77,1),0,0)),((114,28),(1,1,0),some ((114,28),0,0))]),(27388,[(-1828),(-28)]),0)]
set_option maxRecDepth 100000 in
theorem q850_ok : rf_chkB q850_P q850_U wLay q850_M ddX12_loadOf [(38,[0])] [.inl 3,.inl 4] [0,4,13,51] 600 q850_N = true := by decide +kernel
set_option maxHeartbeats 4000000 in
theorem q850_met {G : rfG} (h : okG G) (hh : wHandOK G) : rf_met G q850_M := rf_methodB h.1 (P := q850_P) (U := q850_U) (N := q850_N) ⟨wflT h flokX12, wcsT h csokX12, wlcT h lcokX12, spokX12 h, List.forall_mem_cons.mpr ⟨q693_met h hh, fun _ h => absurd h List.not_mem_nil⟩, fun _ h => absurd h List.not_mem_nil, List.forall_mem_cons.mpr ⟨fun M hM => Option.some.inj (show some q693_M = some M from hM) ▸ wlkV (lkX12_369 h) q693_M rfl rfl, fun _ h => absurd h List.not_mem_nil⟩, fun _ h => absurd h List.not_mem_nil, fun _ h => absurd h List.not_mem_nil⟩ dkX12_loadOf (by decide +kernel) (by rw [h.2.2.1]; exact q850_ok)
/-- NearSpellModel.loadOf -/
def q851_M : rfM := ((⟨"NearSpellModel", "loadOf", "(I)I"⟩, prog_14_method_97_code, 5, (some .int)), (22,2045), ([.inr (.inl [114]),.inl ((0,26,1),none)],[((77,1),(1,31,1),none),((114,28),(1,1,0),none)]), [(89,0),(114,35)], [(some (.inl (((-2147483648),2147483647,1),none)),[],[])])
def q851_P : rfP := (flX12,csX12,lcX12,spX12,[q693_M],[],[(369,0,12)],([],[]))
def q851_U : rfU := []
set_option maxHeartbeats 8000000 in
def q851_N : List rfB := [(0,([(0,.inr (.inl [114])),(1,.inl ((0,26,1),none))],[],[((77,1),(1,31,1),some ((77,1),0,0)),((114,28),(1,1,0),some ((114,28),0,0))]),(27425,[0,0]),0),
  (4,([(0,.inr (.inl [114])),(1,.inl ((0,26,1),none)),(2,.inl (((-2147483648),2147483647,1),none)),(3,.inl ((0,14,1),none))],[],[((77,1),(1,31,1),some ((77,1),0,0)),((114,28),(1,1,0),some ((114,28),0,0))]),(27419,[(-1828),0]),0),
  (13,([(0,.inr (.inl [114])),(1,.inl ((0,26,1),none)),(2,.inl (((-2147483648),2147483647,1),none)),(3,.inl ((0,13,1),none)),(4,.inl ((0,64,1),none))],[],[((77,1),(1,31,1),some ((77,1),0,0)),((114,28),(1,1,0),some ((114,28),0,0))]),(27412,[(-1828),(-28)]),0),
  (51,([(0,.inr (.inl [114])),(1,.inl ((0,26,1),none)),(2,.inl (((-2147483648),2147483647,1),none)),(3,.inl ((0,13,1),none)),(4,.inl ((0,63,1),none))],[.inl (((-2147483648),2147483647,1),none)],[((77,1),(1,31,1),some ((77,1),0,0)),((114,28),(1,1,0),some ((114,28),0,0))]),(27388,[(-1828),(-28)]),0)]
set_option maxRecDepth 100000 in
theorem q851_ok : rf_chkB q851_P q851_U wLay q851_M ddX12_loadOf [(38,[0])] [.inl 3,.inl 4] [0,4,13,51] 600 q851_N = true := by decide +kernel
set_option maxHeartbeats 4000000 in
theorem q851_met {G : rfG} (h : okG G) (hh : wHandOK G) : rf_met G q851_M := rf_methodB h.1 (P := q851_P) (U := q851_U) (N := q851_N) ⟨wflT h flokX12, wcsT h csokX12, wlcT h lcokX12, spokX12 h, List.forall_mem_cons.mpr ⟨q693_met h hh, fun _ h => absurd h List.not_mem_nil⟩, fun _ h => absurd h List.not_mem_nil, List.forall_mem_cons.mpr ⟨fun M hM => Option.some.inj (show some q693_M = some M from hM) ▸ wlkV (lkX12_369 h) q693_M rfl rfl, fun _ h => absurd h List.not_mem_nil⟩, fun _ h => absurd h List.not_mem_nil, fun _ h => absurd h List.not_mem_nil⟩ dkX12_loadOf (by decide +kernel) (by rw [h.2.2.1]; exact q851_ok)
/-- NearSpellModel.loadOf -/
def q852_M : rfM := ((⟨"NearSpellModel", "loadOf", "(I)I"⟩, prog_14_method_97_code, 5, (some .int)), (22,2045), ([.inr (.inl [114]),.inl ((0,29,1),none)],[((77,1),(1,31,1),none),((114,28),(1,1,0),none)]), [(89,0),(114,35)], [(some (.inl (((-2147483648),2147483647,1),none)),[],[])])
def q852_P : rfP := (flX12,csX12,lcX12,spX12,[q693_M],[],[(369,0,12)],([],[]))
def q852_U : rfU := []
set_option maxHeartbeats 8000000 in
def q852_N : List rfB := [(0,([(0,.inr (.inl [114])),(1,.inl ((0,29,1),none))],[],[((77,1),(1,31,1),some ((77,1),0,0)),((114,28),(1,1,0),some ((114,28),0,0))]),(27425,[0,0]),0),
  (4,([(0,.inr (.inl [114])),(1,.inl ((0,29,1),none)),(2,.inl (((-2147483648),2147483647,1),none)),(3,.inl ((0,14,1),none))],[],[((77,1),(1,31,1),some ((77,1),0,0)),((114,28),(1,1,0),some ((114,28),0,0))]),(27419,[(-1828),0]),0),
  (13,([(0,.inr (.inl [114])),(1,.inl ((0,29,1),none)),(2,.inl (((-2147483648),2147483647,1),none)),(3,.inl ((0,13,1),none)),(4,.inl ((0,64,1),none))],[],[((77,1),(1,31,1),some ((77,1),0,0)),((114,28),(1,1,0),some ((114,28),0,0))]),(27412,[(-1828),(-28)]),0),
  (51,([(0,.inr (.inl [114])),(1,.inl ((0,29,1),none)),(2,.inl (((-2147483648),2147483647,1),none)),(3,.inl ((0,13,1),none)),(4,.inl ((0,63,1),none))],[.inl (((-2147483648),2147483647,1),none)],[((77,1),(1,31,1),some ((77,1),0,0)),((114,28),(1,1,0),some ((114,28),0,0))]),(27388,[(-1828),(-28)]),0)]
set_option maxRecDepth 100000 in
theorem q852_ok : rf_chkB q852_P q852_U wLay q852_M ddX12_loadOf [(38,[0])] [.inl 3,.inl 4] [0,4,13,51] 600 q852_N = true := by decide +kernel
set_option maxHeartbeats 4000000 in
theorem q852_met {G : rfG} (h : okG G) (hh : wHandOK G) : rf_met G q852_M := rf_methodB h.1 (P := q852_P) (U := q852_U) (N := q852_N) ⟨wflT h flokX12, wcsT h csokX12, wlcT h lcokX12, spokX12 h, List.forall_mem_cons.mpr ⟨q693_met h hh, fun _ h => absurd h List.not_mem_nil⟩, fun _ h => absurd h List.not_mem_nil, List.forall_mem_cons.mpr ⟨fun M hM => Option.some.inj (show some q693_M = some M from hM) ▸ wlkV (lkX12_369 h) q693_M rfl rfl, fun _ h => absurd h List.not_mem_nil⟩, fun _ h => absurd h List.not_mem_nil, fun _ h => absurd h List.not_mem_nil⟩ dkX12_loadOf (by decide +kernel) (by rw [h.2.2.1]; exact q852_ok)
/-- NearSpellModel.fullest -/
def q853_M : rfM := ((⟨"NearSpellModel", "fullest", "()I"⟩, prog_14_method_99_code, 6, (some .int)), (23,2069), ([.inr (.inl [114])],[((77,1),(1,31,1),none),((114,28),(1,1,0),none)]), [(89,0),(91,0),(92,0),(93,0),(114,35),(114,40)], [(some (.inl ((0,31,1),none)),[],[])])
def q853_P : rfP := (flX12,csX12,lcX12,spX12,[q625_M,q692_M,q832_M],[],[(372,0,12),(375,1,12),(462,2,12)],([],[]))
def q853_U : rfU := []
set_option maxHeartbeats 8000000 in
def q853_N : List rfB := [(0,([(0,.inr (.inl [114]))],[],[((77,1),(1,31,1),some ((77,1),0,0)),((114,28),(1,1,0),some ((114,28),0,0))]),(908,[0]),0),
  (16,([(0,.inr (.inl [114])),(1,.inl (((-2147483648),2147483647,1),none)),(2,.inl ((0,31,1),none)),(3,.inl ((0,2147483647,1),none)),(4,.inl ((0,31,1),none))],[],[((77,1),(1,31,1),some ((77,1),0,0)),((114,28),(1,1,0),some ((114,28),0,0))]),(895,[(-28)]),0),
  (68,([(0,.inr (.inl [114])),(1,.inl (((-2147483648),2147483647,1),none)),(2,.inl ((0,31,1),none)),(3,.inl ((0,2147483647,1),none)),(4,.inl ((0,31,1),none))],[],[((77,1),(1,31,1),some ((77,1),0,0)),((114,28),(1,1,0),some ((114,28),0,0))]),(1,[0]),0),
  (62,([(0,.inr (.inl [114])),(1,.inl (((-2147483648),2147483647,1),none)),(2,.inl ((0,31,1),none)),(3,.inl ((0,2147483647,1),none)),(4,.inl ((0,30,1),none)),(5,.inl (((-2147483648),2147483647,1),none))],[],[((77,1),(1,31,1),some ((77,1),0,0)),((114,28),(1,1,0),some ((114,28),0,0))]),(870,[(-28)]),0)]
set_option maxRecDepth 100000 in
theorem q853_ok : rf_chkB q853_P q853_U wLay q853_M ddX12_fullest [(2,[0]),(5,[1]),(37,[2])] [.inl 4] [0,16,62,68] 600 q853_N = true := by decide +kernel
set_option maxHeartbeats 4000000 in
theorem q853_met {G : rfG} (h : okG G) (hh : wHandOK G) : rf_met G q853_M := rf_methodB h.1 (P := q853_P) (U := q853_U) (N := q853_N) ⟨wflT h flokX12, wcsT h csokX12, wlcT h lcokX12, spokX12 h, List.forall_mem_cons.mpr ⟨q625_met h hh, List.forall_mem_cons.mpr ⟨q692_met h hh, List.forall_mem_cons.mpr ⟨q832_met h hh, fun _ h => absurd h List.not_mem_nil⟩⟩⟩, fun _ h => absurd h List.not_mem_nil, List.forall_mem_cons.mpr ⟨fun M hM => Option.some.inj (show some q625_M = some M from hM) ▸ wlkV (lkX12_372 h) q625_M rfl rfl, List.forall_mem_cons.mpr ⟨fun M hM => Option.some.inj (show some q692_M = some M from hM) ▸ wlkV (lkX12_375 h) q692_M rfl rfl, List.forall_mem_cons.mpr ⟨fun M hM => Option.some.inj (show some q832_M = some M from hM) ▸ wlkV (lkX12_462 h) q832_M rfl rfl, fun _ h => absurd h List.not_mem_nil⟩⟩⟩, fun _ h => absurd h List.not_mem_nil, fun _ h => absurd h List.not_mem_nil⟩ dkX12_fullest (by decide +kernel) (by rw [h.2.2.1]; exact q853_ok)
/-- NearSpellModel.store -/
def q854_M : rfM := ((⟨"NearSpellModel", "store", "()I"⟩, prog_14_method_100_code, 1, (some .int)), (5,117), ([.inr (.inl [114])],[((114,28),(0,0,0),none)]), [(91,0),(92,0),(93,0),(114,40)], [(some (.inl (((-2147483648),2147483647,1),none)),[],[])])
def ddX12_store : List (Nat × Instr × Nat) := [(0,.aload_n 0,1),(1,.aload_n 0,1),(2,.invokevirtual 372,3),(5,.invokevirtual 375,3),(8,.ireturn,1)]
set_option maxRecDepth 100000 in
theorem dkX12_store : rf_decs prog_14_method_100_code ddX12_store := rf_decs_of (by decide +kernel)
def q854_P : rfP := (flX12,csX12,lcX12,spX12,[q609_M,q669_M],[],[(372,0,12),(375,1,12)],([],[]))
def q854_U : rfU := []
set_option maxHeartbeats 8000000 in
def q854_N : List rfB := [(0,([(0,.inr (.inl [114]))],[],[((114,28),(0,0,0),some ((114,28),0,0))]),(4,[]),0)]
set_option maxRecDepth 100000 in
theorem q854_ok : rf_chkB q854_P q854_U wLay q854_M ddX12_store [(2,[0]),(5,[1])] [] [0] 600 q854_N = true := by decide +kernel
set_option maxHeartbeats 4000000 in
theorem q854_met {G : rfG} (h : okG G) (hh : wHandOK G) : rf_met G q854_M := rf_methodB h.1 (P := q854_P) (U := q854_U) (N := q854_N) ⟨wflT h flokX12, wcsT h csokX12, wlcT h lcokX12, spokX12 h, List.forall_mem_cons.mpr ⟨q609_met h hh, List.forall_mem_cons.mpr ⟨q669_met h hh, fun _ h => absurd h List.not_mem_nil⟩⟩, fun _ h => absurd h List.not_mem_nil, List.forall_mem_cons.mpr ⟨fun M hM => Option.some.inj (show some q609_M = some M from hM) ▸ wlkV (lkX12_372 h) q609_M rfl rfl, List.forall_mem_cons.mpr ⟨fun M hM => Option.some.inj (show some q669_M = some M from hM) ▸ wlkV (lkX12_375 h) q669_M rfl rfl, fun _ h => absurd h List.not_mem_nil⟩⟩, fun _ h => absurd h List.not_mem_nil, fun _ h => absurd h List.not_mem_nil⟩ dkX12_store (by decide +kernel) (by rw [h.2.2.1]; exact q854_ok)
/-- NearSpellModel.store -/
def q855_M : rfM := ((⟨"NearSpellModel", "store", "()I"⟩, prog_14_method_100_code, 1, (some .int)), (5,117), ([.inr (.inl [114])],[((77,1),(1,31,1),none),((114,28),(1,1,0),none)]), [(91,0),(92,0),(93,0),(114,40)], [(some (.inl (((-2147483648),2147483647,1),none)),[],[])])
def q855_P : rfP := (flX12,csX12,lcX12,spX12,[q625_M,q692_M],[],[(372,0,12),(375,1,12)],([],[]))
def q855_U : rfU := []
set_option maxHeartbeats 8000000 in
def q855_N : List rfB := [(0,([(0,.inr (.inl [114]))],[],[((77,1),(1,31,1),some ((77,1),0,0)),((114,28),(1,1,0),some ((114,28),0,0))]),(4,[]),0)]
set_option maxRecDepth 100000 in
theorem q855_ok : rf_chkB q855_P q855_U wLay q855_M ddX12_store [(2,[0]),(5,[1])] [] [0] 600 q855_N = true := by decide +kernel
set_option maxHeartbeats 4000000 in
theorem q855_met {G : rfG} (h : okG G) (hh : wHandOK G) : rf_met G q855_M := rf_methodB h.1 (P := q855_P) (U := q855_U) (N := q855_N) ⟨wflT h flokX12, wcsT h csokX12, wlcT h lcokX12, spokX12 h, List.forall_mem_cons.mpr ⟨q625_met h hh, List.forall_mem_cons.mpr ⟨q692_met h hh, fun _ h => absurd h List.not_mem_nil⟩⟩, fun _ h => absurd h List.not_mem_nil, List.forall_mem_cons.mpr ⟨fun M hM => Option.some.inj (show some q625_M = some M from hM) ▸ wlkV (lkX12_372 h) q625_M rfl rfl, List.forall_mem_cons.mpr ⟨fun M hM => Option.some.inj (show some q692_M = some M from hM) ▸ wlkV (lkX12_375 h) q692_M rfl rfl, fun _ h => absurd h List.not_mem_nil⟩⟩, fun _ h => absurd h List.not_mem_nil, fun _ h => absurd h List.not_mem_nil⟩ dkX12_store (by decide +kernel) (by rw [h.2.2.1]; exact q855_ok)
/-- NearSpellModel.isElsewhere -/
def q856_M : rfM := ((⟨"NearSpellModel", "isElsewhere", "(III)Z"⟩, prog_14_method_102_code, 5, (some .boolean)), (0,0), ([.inr (.inl [114]),.inl (((-2147483648),2147483647,1),none),.inl ((0,0,0),none),.inl ((0,0,0),none)],[]), [], [(some (.inl ((0,0,0),none)),[],[])])
def ddX12_isElsewhere : List (Nat × Instr × Nat) := [(0,.iload_n 2,1),(1,.istore 4,2),(3,.iload 4,2),(5,.iload_n 3,1),(6,.if_icmp .ge 21,3),(9,.aload_n 0,1),(10,.iload 4,2),(12,.iload_n 1,1),(13,.invokevirtual 381,3),(16,.ifCond .eq 5,3),(19,.iconst 1,1),(20,.ireturn,1),(21,.iinc 4 1,3),(24,.goto (-21),3),(27,.iconst 0,1),(28,.ireturn,1)]
set_option maxRecDepth 100000 in
theorem dkX12_isElsewhere : rf_decs prog_14_method_102_code ddX12_isElsewhere := rf_decs_of (by decide +kernel)
def q856_P : rfP := (flX12,csX12,lcX12,spX12,[],[],[],([],[]))
def q856_U : rfU := []
set_option maxHeartbeats 8000000 in
def q856_N : List rfB := [(0,([(0,.inr (.inl [114])),(1,.inl (((-2147483648),2147483647,1),none)),(2,.inl ((0,0,0),none)),(3,.inl ((0,0,0),none))],[],[]),(6,[]),0)]
set_option maxRecDepth 100000 in
theorem q856_ok : rf_chkB q856_P q856_U wLay q856_M ddX12_isElsewhere [] [] [0] 600 q856_N = true := by decide +kernel
set_option maxHeartbeats 4000000 in
theorem q856_met {G : rfG} (h : okG G) (hh : wHandOK G) : rf_met G q856_M := rf_methodB h.1 (P := q856_P) (U := q856_U) (N := q856_N) ⟨wflT h flokX12, wcsT h csokX12, wlcT h lcokX12, spokX12 h, fun _ h => absurd h List.not_mem_nil, fun _ h => absurd h List.not_mem_nil, fun _ h => absurd h List.not_mem_nil, fun _ h => absurd h List.not_mem_nil, fun _ h => absurd h List.not_mem_nil⟩ dkX12_isElsewhere (by decide +kernel) (by rw [h.2.2.1]; exact q856_ok)
/-- NearSpellModel.isElsewhere -/
def q857_M : rfM := ((⟨"NearSpellModel", "isElsewhere", "(III)Z"⟩, prog_14_method_102_code, 5, (some .boolean)), (1,23), ([.inr (.inl [114]),.inl (((-2147483648),2147483647,1),none),.inl ((0,0,0),none),.inl ((0,1,1),none)],[]), [], [(some (.inl ((1,1,0),none)),[(3,1,1)],[((93,0),(1,64,1),none)]),(some (.inl ((0,0,0),none)),[],[])])
def q857_P : rfP := (flX12,csX12,lcX12,spX12,[q674_M],[],[(381,0,12)],([],[]))
def q857_U : rfU := []
set_option maxHeartbeats 8000000 in
def q857_N : List rfB := [(0,([(0,.inr (.inl [114])),(1,.inl (((-2147483648),2147483647,1),none)),(2,.inl ((0,0,0),none)),(3,.inl ((0,1,1),none))],[],[]),(28,[0]),0),
  (3,([(0,.inr (.inl [114])),(1,.inl (((-2147483648),2147483647,1),none)),(2,.inl ((0,0,0),none)),(3,.inl ((0,1,1),none)),(4,.inl ((0,1,1),none))],[],[]),(24,[(-11)]),0)]
set_option maxRecDepth 100000 in
theorem q857_ok : rf_chkB q857_P q857_U wLay q857_M ddX12_isElsewhere [(13,[0])] [.inl 4] [0,3] 600 q857_N = true := by decide +kernel
set_option maxHeartbeats 4000000 in
theorem q857_met {G : rfG} (h : okG G) (hh : wHandOK G) : rf_met G q857_M := rf_methodB h.1 (P := q857_P) (U := q857_U) (N := q857_N) ⟨wflT h flokX12, wcsT h csokX12, wlcT h lcokX12, spokX12 h, List.forall_mem_cons.mpr ⟨q674_met h hh, fun _ h => absurd h List.not_mem_nil⟩, fun _ h => absurd h List.not_mem_nil, List.forall_mem_cons.mpr ⟨fun M hM => Option.some.inj (show some q674_M = some M from hM) ▸ wlkV (lkX12_381 h) q674_M rfl rfl, fun _ h => absurd h List.not_mem_nil⟩, fun _ h => absurd h List.not_mem_nil, fun _ h => absurd h List.not_mem_nil⟩ dkX12_isElsewhere (by decide +kernel) (by rw [h.2.2.1]; exact q857_ok)
/-- NearSpellModel.isElsewhere -/
def q858_M : rfM := ((⟨"NearSpellModel", "isElsewhere", "(III)Z"⟩, prog_14_method_102_code, 5, (some .boolean)), (1,23), ([.inr (.inl [114]),.inl (((-2147483648),2147483647,1),none),.inl ((0,0,0),none),.inl ((0,2,1),none)],[]), [], [(some (.inl ((1,1,0),none)),[(3,1,2)],[]),(some (.inl ((0,0,0),none)),[],[])])
def q858_P : rfP := (flX12,csX12,lcX12,spX12,[q675_M],[],[(381,0,12)],([],[]))
def q858_U : rfU := []
set_option maxHeartbeats 8000000 in
def q858_N : List rfB := [(0,([(0,.inr (.inl [114])),(1,.inl (((-2147483648),2147483647,1),none)),(2,.inl ((0,0,0),none)),(3,.inl ((0,2,1),none))],[],[]),(39,[0]),0),
  (3,([(0,.inr (.inl [114])),(1,.inl (((-2147483648),2147483647,1),none)),(2,.inl ((0,0,0),none)),(3,.inl ((0,2,1),none)),(4,.inl ((0,2,1),none))],[],[]),(35,[(-11)]),0)]
set_option maxRecDepth 100000 in
theorem q858_ok : rf_chkB q858_P q858_U wLay q858_M ddX12_isElsewhere [(13,[0])] [.inl 4] [0,3] 600 q858_N = true := by decide +kernel
set_option maxHeartbeats 4000000 in
theorem q858_met {G : rfG} (h : okG G) (hh : wHandOK G) : rf_met G q858_M := rf_methodB h.1 (P := q858_P) (U := q858_U) (N := q858_N) ⟨wflT h flokX12, wcsT h csokX12, wlcT h lcokX12, spokX12 h, List.forall_mem_cons.mpr ⟨q675_met h hh, fun _ h => absurd h List.not_mem_nil⟩, fun _ h => absurd h List.not_mem_nil, List.forall_mem_cons.mpr ⟨fun M hM => Option.some.inj (show some q675_M = some M from hM) ▸ wlkV (lkX12_381 h) q675_M rfl rfl, fun _ h => absurd h List.not_mem_nil⟩, fun _ h => absurd h List.not_mem_nil, fun _ h => absurd h List.not_mem_nil⟩ dkX12_isElsewhere (by decide +kernel) (by rw [h.2.2.1]; exact q858_ok)
/-- NearSpellModel.hasForm -/
def q859_M : rfM := ((⟨"NearSpellModel", "hasForm", "(II)Z"⟩, prog_14_method_53_code, 4, (some .boolean)), (0,0), ([.inr (.inl [114]),.inl ((0,3,1),none),.inl (((-2147483648),2147483647,1),none)],[]), [], [(some (.inl ((1,1,0),none)),[],[]),(some (.inl ((0,0,0),none)),[],[])])
def q859_P : rfP := (flX12,csX12,lcX12,spX12,[],[],[],([],[]))
def q859_U : rfU := []
set_option maxHeartbeats 8000000 in
def q859_N : List rfB := [(0,([(0,.inr (.inl [114])),(1,.inl ((0,3,1),none)),(2,.inl (((-2147483648),2147483647,1),none))],[],[]),(1240,[0]),0),
  (2,([(0,.inr (.inl [114])),(1,.inl ((0,3,1),none)),(2,.inl (((-2147483648),2147483647,1),none)),(3,.inl ((0,64,1),none))],[],[]),(1236,[(-19)]),0)]
set_option maxRecDepth 100000 in
theorem q859_ok : rf_chkB q859_P q859_U wLay q859_M ddX12_hasForm [] [.inl 3] [0,2] 600 q859_N = true := by decide +kernel
set_option maxHeartbeats 4000000 in
theorem q859_met {G : rfG} (h : okG G) (hh : wHandOK G) : rf_met G q859_M := rf_methodB h.1 (P := q859_P) (U := q859_U) (N := q859_N) ⟨wflT h flokX12, wcsT h csokX12, wlcT h lcokX12, spokX12 h, fun _ h => absurd h List.not_mem_nil, fun _ h => absurd h List.not_mem_nil, fun _ h => absurd h List.not_mem_nil, fun _ h => absurd h List.not_mem_nil, fun _ h => absurd h List.not_mem_nil⟩ dkX12_hasForm (by decide +kernel) (by rw [h.2.2.1]; exact q859_ok)
/-- NearSpellModel.isElsewhere -/
def q860_M : rfM := ((⟨"NearSpellModel", "isElsewhere", "(III)Z"⟩, prog_14_method_102_code, 5, (some .boolean)), (1,23), ([.inr (.inl [114]),.inl (((-2147483648),2147483647,1),none),.inl ((0,0,0),none),.inl ((0,12,1),none)],[]), [], [(some (.inl ((1,1,0),none)),[(3,1,12)],[]),(some (.inl ((0,0,0),none)),[],[])])
def q860_P : rfP := (flX12,csX12,lcX12,spX12,[q677_M],[],[(381,0,12)],([],[]))
def q860_U : rfU := []
set_option maxHeartbeats 8000000 in
def q860_N : List rfB := [(0,([(0,.inr (.inl [114])),(1,.inl (((-2147483648),2147483647,1),none)),(2,.inl ((0,0,0),none)),(3,.inl ((0,12,1),none))],[],[]),(149,[0]),0),
  (3,([(0,.inr (.inl [114])),(1,.inl (((-2147483648),2147483647,1),none)),(2,.inl ((0,0,0),none)),(3,.inl ((0,12,1),none)),(4,.inl ((0,12,1),none))],[],[]),(145,[(-11)]),0)]
set_option maxRecDepth 100000 in
theorem q860_ok : rf_chkB q860_P q860_U wLay q860_M ddX12_isElsewhere [(13,[0])] [.inl 4] [0,3] 600 q860_N = true := by decide +kernel
set_option maxHeartbeats 4000000 in
theorem q860_met {G : rfG} (h : okG G) (hh : wHandOK G) : rf_met G q860_M := rf_methodB h.1 (P := q860_P) (U := q860_U) (N := q860_N) ⟨wflT h flokX12, wcsT h csokX12, wlcT h lcokX12, spokX12 h, List.forall_mem_cons.mpr ⟨q677_met h hh, fun _ h => absurd h List.not_mem_nil⟩, fun _ h => absurd h List.not_mem_nil, List.forall_mem_cons.mpr ⟨fun M hM => Option.some.inj (show some q677_M = some M from hM) ▸ wlkV (lkX12_381 h) q677_M rfl rfl, fun _ h => absurd h List.not_mem_nil⟩, fun _ h => absurd h List.not_mem_nil, fun _ h => absurd h List.not_mem_nil⟩ dkX12_isElsewhere (by decide +kernel) (by rw [h.2.2.1]; exact q860_ok)
/-- NearSpellModel.isElsewhere -/
def q861_M : rfM := ((⟨"NearSpellModel", "isElsewhere", "(III)Z"⟩, prog_14_method_102_code, 5, (some .boolean)), (1,23), ([.inr (.inl [114]),.inl (((-2147483648),2147483647,1),none),.inl ((0,0,0),none),.inl ((0,13,1),none)],[]), [], [(some (.inl ((1,1,0),none)),[(3,1,13)],[]),(some (.inl ((0,0,0),none)),[],[])])
def q861_P : rfP := (flX12,csX12,lcX12,spX12,[q677_M],[],[(381,0,12)],([],[]))
def q861_U : rfU := []
set_option maxHeartbeats 8000000 in
def q861_N : List rfB := [(0,([(0,.inr (.inl [114])),(1,.inl (((-2147483648),2147483647,1),none)),(2,.inl ((0,0,0),none)),(3,.inl ((0,13,1),none))],[],[]),(160,[0]),0),
  (3,([(0,.inr (.inl [114])),(1,.inl (((-2147483648),2147483647,1),none)),(2,.inl ((0,0,0),none)),(3,.inl ((0,13,1),none)),(4,.inl ((0,13,1),none))],[],[]),(156,[(-11)]),0)]
set_option maxRecDepth 100000 in
theorem q861_ok : rf_chkB q861_P q861_U wLay q861_M ddX12_isElsewhere [(13,[0])] [.inl 4] [0,3] 600 q861_N = true := by decide +kernel
set_option maxHeartbeats 4000000 in
theorem q861_met {G : rfG} (h : okG G) (hh : wHandOK G) : rf_met G q861_M := rf_methodB h.1 (P := q861_P) (U := q861_U) (N := q861_N) ⟨wflT h flokX12, wcsT h csokX12, wlcT h lcokX12, spokX12 h, List.forall_mem_cons.mpr ⟨q677_met h hh, fun _ h => absurd h List.not_mem_nil⟩, fun _ h => absurd h List.not_mem_nil, List.forall_mem_cons.mpr ⟨fun M hM => Option.some.inj (show some q677_M = some M from hM) ▸ wlkV (lkX12_381 h) q677_M rfl rfl, fun _ h => absurd h List.not_mem_nil⟩, fun _ h => absurd h List.not_mem_nil, fun _ h => absurd h List.not_mem_nil⟩ dkX12_isElsewhere (by decide +kernel) (by rw [h.2.2.1]; exact q861_ok)
/-- NearSpellModel.clashes -/
def q862_M : rfM := ((⟨"NearSpellModel", "clashes", "()I"⟩, prog_14_method_103_code, 7, (some .int)), (22,2045), ([.inr (.inl [114])],[((114,28),(0,0,0),none)]), [(89,0),(91,0),(92,0),(93,0),(104,0),(114,35),(114,40)], [(some (.inl (((-2147483648),2147483647,1),none)),[],[])])
def ddX12_clashes : List (Nat × Instr × Nat) := [(0,.aload_n 0,1),(1,.aload_n 0,1),(2,.invokevirtual 372,3),(5,.invokevirtual 375,3),(8,.istore_n 1,1),(9,.iconst 0,1),(10,.istore_n 2,1),(11,.iload_n 2,1),(12,.bipush 31,2),(14,.if_icmp .ge 16,3),(17,.aload_n 0,1),(18,.getfield 114,3),(21,.iload_n 2,1),(22,.iconst 0,1),(23,.iastore,1),(24,.iinc 2 1,3),(27,.goto (-16),3),(30,.iconst 0,1),(31,.istore_n 2,1),(32,.iconst 0,1),(33,.istore_n 3,1),(34,.iload_n 3,1),(35,.bipush 14,2),(37,.if_icmp .ge 90,3),(40,.iload_n 1,1),(41,.ifCond .le 86,3),(44,.iconst 0,1),(45,.istore 4,2),(47,.iload 4,2),(49,.aload_n 0,1),(50,.getfield 81,3),(53,.iload_n 3,1),(54,.iaload,1),(55,.if_icmp .ge 66,3),(58,.aload_n 0,1),(59,.getfield 78,3),(62,.bipush 64,2),(64,.iload_n 3,1),(65,.imul,1),(66,.iload 4,2),(68,.iadd,1),(69,.iaload,1),(70,.istore 5,2),(72,.aload_n 0,1),(73,.iload 5,2),(75,.iconst 0,1),(76,.iload_n 3,1),(77,.invokevirtual 465,3),(80,.ifCond .eq 6,3),(83,.goto 32,3),(86,.aload_n 0,1),(87,.iload 5,2),(89,.invokevirtual 369,3),(92,.istore 6,2),(94,.iload_n 2,1),(95,.aload_n 0,1),(96,.getfield 114,3),(99,.iload 6,2),(101,.iaload,1),(102,.iadd,1),(103,.istore_n 2,1),(104,.aload_n 0,1),(105,.getfield 114,3),(108,.iload 6,2),(110,.dup2,1),(111,.iaload,1),(112,.iconst 1,1),(113,.iadd,1),(114,.iastore,1),(115,.iinc 4 1,3),(118,.goto (-71),3),(121,.iinc 3 1,3),(124,.goto (-90),3),(127,.iload_n 2,1),(128,.ireturn,1)]
set_option maxRecDepth 100000 in
theorem dkX12_clashes : rf_decs prog_14_method_103_code ddX12_clashes := rf_decs_of (by decide +kernel)
def q862_P : rfP := (flX12,csX12,lcX12,spX12,[q609_M,q669_M,q861_M,q673_M],[],[(369,3,12),(372,0,12),(375,1,12),(465,2,12)],([],[]))
def q862_U : rfU := []
set_option maxHeartbeats 8000000 in
def q862_N : List rfB := [(0,([(0,.inr (.inl [114]))],[],[((114,28),(0,0,0),some ((114,28),0,0))]),(44389,[0,0,0]),0),
  (11,([(0,.inr (.inl [114])),(1,.inl (((-2147483648),2147483647,1),none)),(2,.inl ((0,31,1),none))],[],[((114,28),(0,0,0),some ((114,28),0,0))]),(44380,[(-11),0,0]),0),
  (34,([(0,.inr (.inl [114])),(1,.inl (((-2147483648),2147483647,1),none)),(2,.inl (((-2147483648),2147483647,1),none)),(3,.inl ((0,14,1),none))],[],[((114,28),(0,0,0),some ((114,28),0,0))]),(44024,[0,(-2935),0]),0),
  (47,([(0,.inr (.inl [114])),(1,.inl ((1,2147483647,1),none)),(2,.inl (((-2147483648),2147483647,1),none)),(3,.inl ((0,13,1),none)),(4,.inl ((0,64,1),none))],[],[((114,28),(0,0,0),some ((114,28),0,0))]),(44015,[0,(-2935),(-45)]),0),
  (127,([(0,.inr (.inl [114])),(1,.inl (((-2147483648),2147483647,1),none)),(2,.inl (((-2147483648),2147483647,1),none)),(3,.inl ((0,14,1),none))],[],[((114,28),(0,0,0),some ((114,28),0,0))]),(1,[0,0,0]),0),
  (115,([(0,.inr (.inl [114])),(1,.inl ((1,2147483647,1),none)),(2,.inl (((-2147483648),2147483647,1),none)),(3,.inl ((0,13,1),none)),(4,.inl ((0,63,1),none)),(5,.inl (((-2147483648),2147483647,1),none))],[],[((114,28),(0,0,0),some ((114,28),0,0))]),(43973,[0,(-2935),(-45)]),0)]
set_option maxRecDepth 100000 in
theorem q862_ok : rf_chkB q862_P q862_U wLay q862_M ddX12_clashes [(2,[0]),(5,[1]),(77,[2]),(89,[3])] [.inl 2,.inl 3,.inl 4] [0,11,34,47,115,127] 600 q862_N = true := by decide +kernel
set_option maxHeartbeats 4000000 in
theorem q862_met {G : rfG} (h : okG G) (hh : wHandOK G) : rf_met G q862_M := rf_methodB h.1 (P := q862_P) (U := q862_U) (N := q862_N) ⟨wflT h flokX12, wcsT h csokX12, wlcT h lcokX12, spokX12 h, List.forall_mem_cons.mpr ⟨q609_met h hh, List.forall_mem_cons.mpr ⟨q669_met h hh, List.forall_mem_cons.mpr ⟨q861_met h hh, List.forall_mem_cons.mpr ⟨q673_met h hh, fun _ h => absurd h List.not_mem_nil⟩⟩⟩⟩, fun _ h => absurd h List.not_mem_nil, List.forall_mem_cons.mpr ⟨fun M hM => Option.some.inj (show some q673_M = some M from hM) ▸ wlkV (lkX12_369 h) q673_M rfl rfl, List.forall_mem_cons.mpr ⟨fun M hM => Option.some.inj (show some q609_M = some M from hM) ▸ wlkV (lkX12_372 h) q609_M rfl rfl, List.forall_mem_cons.mpr ⟨fun M hM => Option.some.inj (show some q669_M = some M from hM) ▸ wlkV (lkX12_375 h) q669_M rfl rfl, List.forall_mem_cons.mpr ⟨fun M hM => Option.some.inj (show some q861_M = some M from hM) ▸ wlkV (lkX12_465 h) q861_M rfl rfl, fun _ h => absurd h List.not_mem_nil⟩⟩⟩⟩, fun _ h => absurd h List.not_mem_nil, fun _ h => absurd h List.not_mem_nil⟩ dkX12_clashes (by decide +kernel) (by rw [h.2.2.1]; exact q862_ok)
/-- NearSpellModel.clashes -/
def q863_M : rfM := ((⟨"NearSpellModel", "clashes", "()I"⟩, prog_14_method_103_code, 7, (some .int)), (22,2045), ([.inr (.inl [114])],[((77,1),(1,31,1),none),((114,28),(1,1,0),none)]), [(89,0),(91,0),(92,0),(93,0),(104,0),(114,35),(114,40)], [(some (.inl (((-2147483648),2147483647,1),none)),[],[])])
def q863_P : rfP := (flX12,csX12,lcX12,spX12,[q625_M,q692_M,q861_M,q693_M],[],[(369,3,12),(372,0,12),(375,1,12),(465,2,12)],([],[]))
def q863_U : rfU := []
set_option maxHeartbeats 8000000 in
def q863_N : List rfB := [(0,([(0,.inr (.inl [114]))],[],[((77,1),(1,31,1),some ((77,1),0,0)),((114,28),(1,1,0),some ((114,28),0,0))]),(44389,[0,0,0]),0),
  (11,([(0,.inr (.inl [114])),(1,.inl (((-2147483648),2147483647,1),none)),(2,.inl ((0,31,1),none))],[],[((77,1),(1,31,1),some ((77,1),0,0)),((114,28),(1,1,0),some ((114,28),0,0))]),(44380,[(-11),0,0]),0),
  (34,([(0,.inr (.inl [114])),(1,.inl (((-2147483648),2147483647,1),none)),(2,.inl (((-2147483648),2147483647,1),none)),(3,.inl ((0,14,1),none))],[],[((77,1),(1,31,1),some ((77,1),0,0)),((114,28),(1,1,0),some ((114,28),0,0))]),(44024,[0,(-2935),0]),0),
  (47,([(0,.inr (.inl [114])),(1,.inl ((1,2147483647,1),none)),(2,.inl (((-2147483648),2147483647,1),none)),(3,.inl ((0,13,1),none)),(4,.inl ((0,64,1),none))],[],[((77,1),(1,31,1),some ((77,1),0,0)),((114,28),(1,1,0),some ((114,28),0,0))]),(44015,[0,(-2935),(-45)]),0),
  (127,([(0,.inr (.inl [114])),(1,.inl (((-2147483648),2147483647,1),none)),(2,.inl (((-2147483648),2147483647,1),none)),(3,.inl ((0,14,1),none))],[],[((77,1),(1,31,1),some ((77,1),0,0)),((114,28),(1,1,0),some ((114,28),0,0))]),(1,[0,0,0]),0),
  (115,([(0,.inr (.inl [114])),(1,.inl ((1,2147483647,1),none)),(2,.inl (((-2147483648),2147483647,1),none)),(3,.inl ((0,13,1),none)),(4,.inl ((0,63,1),none)),(5,.inl (((-2147483648),2147483647,1),none))],[],[((77,1),(1,31,1),some ((77,1),0,0)),((114,28),(1,1,0),some ((114,28),0,0))]),(43973,[0,(-2935),(-45)]),0)]
set_option maxRecDepth 100000 in
theorem q863_ok : rf_chkB q863_P q863_U wLay q863_M ddX12_clashes [(2,[0]),(5,[1]),(77,[2]),(89,[3])] [.inl 2,.inl 3,.inl 4] [0,11,34,47,115,127] 600 q863_N = true := by decide +kernel
set_option maxHeartbeats 4000000 in
theorem q863_met {G : rfG} (h : okG G) (hh : wHandOK G) : rf_met G q863_M := rf_methodB h.1 (P := q863_P) (U := q863_U) (N := q863_N) ⟨wflT h flokX12, wcsT h csokX12, wlcT h lcokX12, spokX12 h, List.forall_mem_cons.mpr ⟨q625_met h hh, List.forall_mem_cons.mpr ⟨q692_met h hh, List.forall_mem_cons.mpr ⟨q861_met h hh, List.forall_mem_cons.mpr ⟨q693_met h hh, fun _ h => absurd h List.not_mem_nil⟩⟩⟩⟩, fun _ h => absurd h List.not_mem_nil, List.forall_mem_cons.mpr ⟨fun M hM => Option.some.inj (show some q693_M = some M from hM) ▸ wlkV (lkX12_369 h) q693_M rfl rfl, List.forall_mem_cons.mpr ⟨fun M hM => Option.some.inj (show some q625_M = some M from hM) ▸ wlkV (lkX12_372 h) q625_M rfl rfl, List.forall_mem_cons.mpr ⟨fun M hM => Option.some.inj (show some q692_M = some M from hM) ▸ wlkV (lkX12_375 h) q692_M rfl rfl, List.forall_mem_cons.mpr ⟨fun M hM => Option.some.inj (show some q861_M = some M from hM) ▸ wlkV (lkX12_465 h) q861_M rfl rfl, fun _ h => absurd h List.not_mem_nil⟩⟩⟩⟩, fun _ h => absurd h List.not_mem_nil, fun _ h => absurd h List.not_mem_nil⟩ dkX12_clashes (by decide +kernel) (by rw [h.2.2.1]; exact q863_ok)
/-- NearSpellModel.hasForm -/
def q864_M : rfM := ((⟨"NearSpellModel", "hasForm", "(II)Z"⟩, prog_14_method_53_code, 4, (some .boolean)), (0,0), ([.inr (.inl [114]),.inl ((1,1,0),none),.inl (((-2147483648),2147483647,1),none)],[]), [], [(some (.inl ((1,1,0),none)),[],[((93,1),(1,64,1),none)]),(some (.inl ((0,0,0),none)),[],[])])
def q864_P : rfP := (flX12,csX12,lcX12,spX12,[],[],[],([],[]))
def q864_U : rfU := []
set_option maxHeartbeats 8000000 in
def q864_N : List rfB := [(0,([(0,.inr (.inl [114])),(1,.inl ((1,1,0),none)),(2,.inl (((-2147483648),2147483647,1),none))],[],[]),(1240,[0]),0),
  (2,([(0,.inr (.inl [114])),(1,.inl ((1,1,0),none)),(2,.inl (((-2147483648),2147483647,1),none)),(3,.inl ((0,64,1),none))],[],[]),(1236,[(-19)]),0)]
set_option maxRecDepth 100000 in
theorem q864_ok : rf_chkB q864_P q864_U wLay q864_M ddX12_hasForm [] [.inl 3] [0,2] 600 q864_N = true := by decide +kernel
set_option maxHeartbeats 4000000 in
theorem q864_met {G : rfG} (h : okG G) (hh : wHandOK G) : rf_met G q864_M := rf_methodB h.1 (P := q864_P) (U := q864_U) (N := q864_N) ⟨wflT h flokX12, wcsT h csokX12, wlcT h lcokX12, spokX12 h, fun _ h => absurd h List.not_mem_nil, fun _ h => absurd h List.not_mem_nil, fun _ h => absurd h List.not_mem_nil, fun _ h => absurd h List.not_mem_nil, fun _ h => absurd h List.not_mem_nil⟩ dkX12_hasForm (by decide +kernel) (by rw [h.2.2.1]; exact q864_ok)
/-- NearSpellModel.hasForm -/
def q865_M : rfM := ((⟨"NearSpellModel", "hasForm", "(II)Z"⟩, prog_14_method_53_code, 4, (some .boolean)), (0,0), ([.inr (.inl [114]),.inl ((1,2,1),none),.inl (((-2147483648),2147483647,1),none)],[]), [], [(some (.inl ((1,1,0),none)),[],[]),(some (.inl ((0,0,0),none)),[],[])])
def q865_P : rfP := (flX12,csX12,lcX12,spX12,[],[],[],([],[]))
def q865_U : rfU := []
set_option maxHeartbeats 8000000 in
def q865_N : List rfB := [(0,([(0,.inr (.inl [114])),(1,.inl ((1,2,1),none)),(2,.inl (((-2147483648),2147483647,1),none))],[],[]),(1240,[0]),0),
  (2,([(0,.inr (.inl [114])),(1,.inl ((1,2,1),none)),(2,.inl (((-2147483648),2147483647,1),none)),(3,.inl ((0,64,1),none))],[],[]),(1236,[(-19)]),0)]
set_option maxRecDepth 100000 in
theorem q865_ok : rf_chkB q865_P q865_U wLay q865_M ddX12_hasForm [] [.inl 3] [0,2] 600 q865_N = true := by decide +kernel
set_option maxHeartbeats 4000000 in
theorem q865_met {G : rfG} (h : okG G) (hh : wHandOK G) : rf_met G q865_M := rf_methodB h.1 (P := q865_P) (U := q865_U) (N := q865_N) ⟨wflT h flokX12, wcsT h csokX12, wlcT h lcokX12, spokX12 h, fun _ h => absurd h List.not_mem_nil, fun _ h => absurd h List.not_mem_nil, fun _ h => absurd h List.not_mem_nil, fun _ h => absurd h List.not_mem_nil, fun _ h => absurd h List.not_mem_nil⟩ dkX12_hasForm (by decide +kernel) (by rw [h.2.2.1]; exact q865_ok)
/-- NearSpellModel.hasForm -/
def q866_M : rfM := ((⟨"NearSpellModel", "hasForm", "(II)Z"⟩, prog_14_method_53_code, 4, (some .boolean)), (0,0), ([.inr (.inl [114]),.inl ((1,3,1),none),.inl (((-2147483648),2147483647,1),none)],[]), [], [(some (.inl ((1,1,0),none)),[],[]),(some (.inl ((0,0,0),none)),[],[])])
def q866_P : rfP := (flX12,csX12,lcX12,spX12,[],[],[],([],[]))
def q866_U : rfU := []
set_option maxHeartbeats 8000000 in
def q866_N : List rfB := [(0,([(0,.inr (.inl [114])),(1,.inl ((1,3,1),none)),(2,.inl (((-2147483648),2147483647,1),none))],[],[]),(1240,[0]),0),
  (2,([(0,.inr (.inl [114])),(1,.inl ((1,3,1),none)),(2,.inl (((-2147483648),2147483647,1),none)),(3,.inl ((0,64,1),none))],[],[]),(1236,[(-19)]),0)]
set_option maxRecDepth 100000 in
theorem q866_ok : rf_chkB q866_P q866_U wLay q866_M ddX12_hasForm [] [.inl 3] [0,2] 600 q866_N = true := by decide +kernel
set_option maxHeartbeats 4000000 in
theorem q866_met {G : rfG} (h : okG G) (hh : wHandOK G) : rf_met G q866_M := rf_methodB h.1 (P := q866_P) (U := q866_U) (N := q866_N) ⟨wflT h flokX12, wcsT h csokX12, wlcT h lcokX12, spokX12 h, fun _ h => absurd h List.not_mem_nil, fun _ h => absurd h List.not_mem_nil, fun _ h => absurd h List.not_mem_nil, fun _ h => absurd h List.not_mem_nil, fun _ h => absurd h List.not_mem_nil⟩ dkX12_hasForm (by decide +kernel) (by rw [h.2.2.1]; exact q866_ok)
/-- NearSpellModel.hasForm -/
def q867_M : rfM := ((⟨"NearSpellModel", "hasForm", "(II)Z"⟩, prog_14_method_53_code, 4, (some .boolean)), (0,0), ([.inr (.inl [114]),.inl ((1,4,1),none),.inl (((-2147483648),2147483647,1),none)],[]), [], [(some (.inl ((1,1,0),none)),[],[]),(some (.inl ((0,0,0),none)),[],[])])
def q867_P : rfP := (flX12,csX12,lcX12,spX12,[],[],[],([],[]))
def q867_U : rfU := []
set_option maxHeartbeats 8000000 in
def q867_N : List rfB := [(0,([(0,.inr (.inl [114])),(1,.inl ((1,4,1),none)),(2,.inl (((-2147483648),2147483647,1),none))],[],[]),(1240,[0]),0),
  (2,([(0,.inr (.inl [114])),(1,.inl ((1,4,1),none)),(2,.inl (((-2147483648),2147483647,1),none)),(3,.inl ((0,64,1),none))],[],[]),(1236,[(-19)]),0)]
set_option maxRecDepth 100000 in
theorem q867_ok : rf_chkB q867_P q867_U wLay q867_M ddX12_hasForm [] [.inl 3] [0,2] 600 q867_N = true := by decide +kernel
set_option maxHeartbeats 4000000 in
theorem q867_met {G : rfG} (h : okG G) (hh : wHandOK G) : rf_met G q867_M := rf_methodB h.1 (P := q867_P) (U := q867_U) (N := q867_N) ⟨wflT h flokX12, wcsT h csokX12, wlcT h lcokX12, spokX12 h, fun _ h => absurd h List.not_mem_nil, fun _ h => absurd h List.not_mem_nil, fun _ h => absurd h List.not_mem_nil, fun _ h => absurd h List.not_mem_nil, fun _ h => absurd h List.not_mem_nil⟩ dkX12_hasForm (by decide +kernel) (by rw [h.2.2.1]; exact q867_ok)
/-- NearSpellModel.hasForm -/
def q868_M : rfM := ((⟨"NearSpellModel", "hasForm", "(II)Z"⟩, prog_14_method_53_code, 4, (some .boolean)), (0,0), ([.inr (.inl [114]),.inl ((1,12,1),none),.inl (((-2147483648),2147483647,1),none)],[]), [], [(some (.inl ((1,1,0),none)),[],[]),(some (.inl ((0,0,0),none)),[],[])])
def q868_P : rfP := (flX12,csX12,lcX12,spX12,[],[],[],([],[]))
def q868_U : rfU := []
set_option maxHeartbeats 8000000 in
def q868_N : List rfB := [(0,([(0,.inr (.inl [114])),(1,.inl ((1,12,1),none)),(2,.inl (((-2147483648),2147483647,1),none))],[],[]),(1240,[0]),0),
  (2,([(0,.inr (.inl [114])),(1,.inl ((1,12,1),none)),(2,.inl (((-2147483648),2147483647,1),none)),(3,.inl ((0,64,1),none))],[],[]),(1236,[(-19)]),0)]
set_option maxRecDepth 100000 in
theorem q868_ok : rf_chkB q868_P q868_U wLay q868_M ddX12_hasForm [] [.inl 3] [0,2] 600 q868_N = true := by decide +kernel
set_option maxHeartbeats 4000000 in
theorem q868_met {G : rfG} (h : okG G) (hh : wHandOK G) : rf_met G q868_M := rf_methodB h.1 (P := q868_P) (U := q868_U) (N := q868_N) ⟨wflT h flokX12, wcsT h csokX12, wlcT h lcokX12, spokX12 h, fun _ h => absurd h List.not_mem_nil, fun _ h => absurd h List.not_mem_nil, fun _ h => absurd h List.not_mem_nil, fun _ h => absurd h List.not_mem_nil, fun _ h => absurd h List.not_mem_nil⟩ dkX12_hasForm (by decide +kernel) (by rw [h.2.2.1]; exact q868_ok)
/-- NearSpellModel.hasForm -/
def q869_M : rfM := ((⟨"NearSpellModel", "hasForm", "(II)Z"⟩, prog_14_method_53_code, 4, (some .boolean)), (0,0), ([.inr (.inl [114]),.inl ((1,13,1),none),.inl (((-2147483648),2147483647,1),none)],[]), [], [(some (.inl ((1,1,0),none)),[],[]),(some (.inl ((0,0,0),none)),[],[])])
def q869_P : rfP := (flX12,csX12,lcX12,spX12,[],[],[],([],[]))
def q869_U : rfU := []
set_option maxHeartbeats 8000000 in
def q869_N : List rfB := [(0,([(0,.inr (.inl [114])),(1,.inl ((1,13,1),none)),(2,.inl (((-2147483648),2147483647,1),none))],[],[]),(1240,[0]),0),
  (2,([(0,.inr (.inl [114])),(1,.inl ((1,13,1),none)),(2,.inl (((-2147483648),2147483647,1),none)),(3,.inl ((0,64,1),none))],[],[]),(1236,[(-19)]),0)]
set_option maxRecDepth 100000 in
theorem q869_ok : rf_chkB q869_P q869_U wLay q869_M ddX12_hasForm [] [.inl 3] [0,2] 600 q869_N = true := by decide +kernel
set_option maxHeartbeats 4000000 in
theorem q869_met {G : rfG} (h : okG G) (hh : wHandOK G) : rf_met G q869_M := rf_methodB h.1 (P := q869_P) (U := q869_U) (N := q869_N) ⟨wflT h flokX12, wcsT h csokX12, wlcT h lcokX12, spokX12 h, fun _ h => absurd h List.not_mem_nil, fun _ h => absurd h List.not_mem_nil, fun _ h => absurd h List.not_mem_nil, fun _ h => absurd h List.not_mem_nil, fun _ h => absurd h List.not_mem_nil⟩ dkX12_hasForm (by decide +kernel) (by rw [h.2.2.1]; exact q869_ok)
/-- NearSpellModel.isElsewhere -/
def q870_M : rfM := ((⟨"NearSpellModel", "isElsewhere", "(III)Z"⟩, prog_14_method_102_code, 5, (some .boolean)), (1,23), ([.inr (.inl [114]),.inl (((-2147483648),2147483647,1),none),.inl ((1,1,0),none),.inl ((14,14,0),none)],[]), [], [(some (.inl ((1,1,0),none)),[],[]),(some (.inl ((0,0,0),none)),[],[])])
def q870_P : rfP := (flX12,csX12,lcX12,spX12,[q869_M],[],[(381,0,12)],([],[]))
def q870_U : rfU := []
set_option maxHeartbeats 8000000 in
def q870_N : List rfB := [(0,([(0,.inr (.inl [114])),(1,.inl (((-2147483648),2147483647,1),none)),(2,.inl ((1,1,0),none)),(3,.inl ((14,14,0),none))],[],[]),(160,[0]),0),
  (3,([(0,.inr (.inl [114])),(1,.inl (((-2147483648),2147483647,1),none)),(2,.inl ((1,1,0),none)),(3,.inl ((14,14,0),none)),(4,.inl ((1,14,1),none))],[],[]),(167,[(-11)]),0)]
set_option maxRecDepth 100000 in
theorem q870_ok : rf_chkB q870_P q870_U wLay q870_M ddX12_isElsewhere [(13,[0])] [.inl 4] [0,3] 600 q870_N = true := by decide +kernel
set_option maxHeartbeats 4000000 in
theorem q870_met {G : rfG} (h : okG G) (hh : wHandOK G) : rf_met G q870_M := rf_methodB h.1 (P := q870_P) (U := q870_U) (N := q870_N) ⟨wflT h flokX12, wcsT h csokX12, wlcT h lcokX12, spokX12 h, List.forall_mem_cons.mpr ⟨q869_met h hh, fun _ h => absurd h List.not_mem_nil⟩, fun _ h => absurd h List.not_mem_nil, List.forall_mem_cons.mpr ⟨fun M hM => Option.some.inj (show some q869_M = some M from hM) ▸ wlkV (lkX12_381 h) q869_M rfl rfl, fun _ h => absurd h List.not_mem_nil⟩, fun _ h => absurd h List.not_mem_nil, fun _ h => absurd h List.not_mem_nil⟩ dkX12_isElsewhere (by decide +kernel) (by rw [h.2.2.1]; exact q870_ok)
/-- NearSpellModel.hasForm -/
def q871_M : rfM := ((⟨"NearSpellModel", "hasForm", "(II)Z"⟩, prog_14_method_53_code, 4, (some .boolean)), (0,0), ([.inr (.inl [114]),.inl ((1,5,1),none),.inl (((-2147483648),2147483647,1),none)],[]), [], [(some (.inl ((1,1,0),none)),[],[]),(some (.inl ((0,0,0),none)),[],[])])
def q871_P : rfP := (flX12,csX12,lcX12,spX12,[],[],[],([],[]))
def q871_U : rfU := []
set_option maxHeartbeats 8000000 in
def q871_N : List rfB := [(0,([(0,.inr (.inl [114])),(1,.inl ((1,5,1),none)),(2,.inl (((-2147483648),2147483647,1),none))],[],[]),(1240,[0]),0),
  (2,([(0,.inr (.inl [114])),(1,.inl ((1,5,1),none)),(2,.inl (((-2147483648),2147483647,1),none)),(3,.inl ((0,64,1),none))],[],[]),(1236,[(-19)]),0)]
set_option maxRecDepth 100000 in
theorem q871_ok : rf_chkB q871_P q871_U wLay q871_M ddX12_hasForm [] [.inl 3] [0,2] 600 q871_N = true := by decide +kernel
set_option maxHeartbeats 4000000 in
theorem q871_met {G : rfG} (h : okG G) (hh : wHandOK G) : rf_met G q871_M := rf_methodB h.1 (P := q871_P) (U := q871_U) (N := q871_N) ⟨wflT h flokX12, wcsT h csokX12, wlcT h lcokX12, spokX12 h, fun _ h => absurd h List.not_mem_nil, fun _ h => absurd h List.not_mem_nil, fun _ h => absurd h List.not_mem_nil, fun _ h => absurd h List.not_mem_nil, fun _ h => absurd h List.not_mem_nil⟩ dkX12_hasForm (by decide +kernel) (by rw [h.2.2.1]; exact q871_ok)
/-- NearSpellModel.isElsewhere -/
def q872_M : rfM := ((⟨"NearSpellModel", "isElsewhere", "(III)Z"⟩, prog_14_method_102_code, 5, (some .boolean)), (1,23), ([.inr (.inl [114]),.inl (((-2147483648),2147483647,1),none),.inl ((1,2,1),none),.inl ((14,14,0),none)],[]), [], [(some (.inl ((1,1,0),none)),[],[]),(some (.inl ((0,0,0),none)),[],[])])
def q872_P : rfP := (flX12,csX12,lcX12,spX12,[q869_M],[],[(381,0,12)],([],[]))
def q872_U : rfU := []
set_option maxHeartbeats 8000000 in
def q872_N : List rfB := [(0,([(0,.inr (.inl [114])),(1,.inl (((-2147483648),2147483647,1),none)),(2,.inl ((1,2,1),none)),(3,.inl ((14,14,0),none))],[],[]),(160,[0]),0),
  (3,([(0,.inr (.inl [114])),(1,.inl (((-2147483648),2147483647,1),none)),(2,.inl ((1,2,1),none)),(3,.inl ((14,14,0),none)),(4,.inl ((1,14,1),none))],[],[]),(167,[(-11)]),0)]
set_option maxRecDepth 100000 in
theorem q872_ok : rf_chkB q872_P q872_U wLay q872_M ddX12_isElsewhere [(13,[0])] [.inl 4] [0,3] 600 q872_N = true := by decide +kernel
set_option maxHeartbeats 4000000 in
theorem q872_met {G : rfG} (h : okG G) (hh : wHandOK G) : rf_met G q872_M := rf_methodB h.1 (P := q872_P) (U := q872_U) (N := q872_N) ⟨wflT h flokX12, wcsT h csokX12, wlcT h lcokX12, spokX12 h, List.forall_mem_cons.mpr ⟨q869_met h hh, fun _ h => absurd h List.not_mem_nil⟩, fun _ h => absurd h List.not_mem_nil, List.forall_mem_cons.mpr ⟨fun M hM => Option.some.inj (show some q869_M = some M from hM) ▸ wlkV (lkX12_381 h) q869_M rfl rfl, fun _ h => absurd h List.not_mem_nil⟩, fun _ h => absurd h List.not_mem_nil, fun _ h => absurd h List.not_mem_nil⟩ dkX12_isElsewhere (by decide +kernel) (by rw [h.2.2.1]; exact q872_ok)
/-- NearSpellModel.hasForm -/
def q873_M : rfM := ((⟨"NearSpellModel", "hasForm", "(II)Z"⟩, prog_14_method_53_code, 4, (some .boolean)), (0,0), ([.inr (.inl [114]),.inl ((1,6,1),none),.inl (((-2147483648),2147483647,1),none)],[]), [], [(some (.inl ((1,1,0),none)),[],[]),(some (.inl ((0,0,0),none)),[],[])])
def q873_P : rfP := (flX12,csX12,lcX12,spX12,[],[],[],([],[]))
def q873_U : rfU := []
set_option maxHeartbeats 8000000 in
def q873_N : List rfB := [(0,([(0,.inr (.inl [114])),(1,.inl ((1,6,1),none)),(2,.inl (((-2147483648),2147483647,1),none))],[],[]),(1240,[0]),0),
  (2,([(0,.inr (.inl [114])),(1,.inl ((1,6,1),none)),(2,.inl (((-2147483648),2147483647,1),none)),(3,.inl ((0,64,1),none))],[],[]),(1236,[(-19)]),0)]
set_option maxRecDepth 100000 in
theorem q873_ok : rf_chkB q873_P q873_U wLay q873_M ddX12_hasForm [] [.inl 3] [0,2] 600 q873_N = true := by decide +kernel
set_option maxHeartbeats 4000000 in
theorem q873_met {G : rfG} (h : okG G) (hh : wHandOK G) : rf_met G q873_M := rf_methodB h.1 (P := q873_P) (U := q873_U) (N := q873_N) ⟨wflT h flokX12, wcsT h csokX12, wlcT h lcokX12, spokX12 h, fun _ h => absurd h List.not_mem_nil, fun _ h => absurd h List.not_mem_nil, fun _ h => absurd h List.not_mem_nil, fun _ h => absurd h List.not_mem_nil, fun _ h => absurd h List.not_mem_nil⟩ dkX12_hasForm (by decide +kernel) (by rw [h.2.2.1]; exact q873_ok)
/-- NearSpellModel.isElsewhere -/
def q874_M : rfM := ((⟨"NearSpellModel", "isElsewhere", "(III)Z"⟩, prog_14_method_102_code, 5, (some .boolean)), (1,23), ([.inr (.inl [114]),.inl (((-2147483648),2147483647,1),none),.inl ((1,3,1),none),.inl ((14,14,0),none)],[]), [], [(some (.inl ((1,1,0),none)),[],[]),(some (.inl ((0,0,0),none)),[],[])])
def q874_P : rfP := (flX12,csX12,lcX12,spX12,[q869_M],[],[(381,0,12)],([],[]))
def q874_U : rfU := []
set_option maxHeartbeats 8000000 in
def q874_N : List rfB := [(0,([(0,.inr (.inl [114])),(1,.inl (((-2147483648),2147483647,1),none)),(2,.inl ((1,3,1),none)),(3,.inl ((14,14,0),none))],[],[]),(160,[0]),0),
  (3,([(0,.inr (.inl [114])),(1,.inl (((-2147483648),2147483647,1),none)),(2,.inl ((1,3,1),none)),(3,.inl ((14,14,0),none)),(4,.inl ((1,14,1),none))],[],[]),(167,[(-11)]),0)]
set_option maxRecDepth 100000 in
theorem q874_ok : rf_chkB q874_P q874_U wLay q874_M ddX12_isElsewhere [(13,[0])] [.inl 4] [0,3] 600 q874_N = true := by decide +kernel
set_option maxHeartbeats 4000000 in
theorem q874_met {G : rfG} (h : okG G) (hh : wHandOK G) : rf_met G q874_M := rf_methodB h.1 (P := q874_P) (U := q874_U) (N := q874_N) ⟨wflT h flokX12, wcsT h csokX12, wlcT h lcokX12, spokX12 h, List.forall_mem_cons.mpr ⟨q869_met h hh, fun _ h => absurd h List.not_mem_nil⟩, fun _ h => absurd h List.not_mem_nil, List.forall_mem_cons.mpr ⟨fun M hM => Option.some.inj (show some q869_M = some M from hM) ▸ wlkV (lkX12_381 h) q869_M rfl rfl, fun _ h => absurd h List.not_mem_nil⟩, fun _ h => absurd h List.not_mem_nil, fun _ h => absurd h List.not_mem_nil⟩ dkX12_isElsewhere (by decide +kernel) (by rw [h.2.2.1]; exact q874_ok)
/-- NearSpellModel.isElsewhere -/
def q875_M : rfM := ((⟨"NearSpellModel", "isElsewhere", "(III)Z"⟩, prog_14_method_102_code, 5, (some .boolean)), (1,23), ([.inr (.inl [114]),.inl (((-2147483648),2147483647,1),none),.inl ((1,12,1),none),.inl ((14,14,0),none)],[]), [], [(some (.inl ((1,1,0),none)),[],[]),(some (.inl ((0,0,0),none)),[],[])])
def q875_P : rfP := (flX12,csX12,lcX12,spX12,[q869_M],[],[(381,0,12)],([],[]))
def q875_U : rfU := []
set_option maxHeartbeats 8000000 in
def q875_N : List rfB := [(0,([(0,.inr (.inl [114])),(1,.inl (((-2147483648),2147483647,1),none)),(2,.inl ((1,12,1),none)),(3,.inl ((14,14,0),none))],[],[]),(160,[0]),0),
  (3,([(0,.inr (.inl [114])),(1,.inl (((-2147483648),2147483647,1),none)),(2,.inl ((1,12,1),none)),(3,.inl ((14,14,0),none)),(4,.inl ((1,14,1),none))],[],[]),(167,[(-11)]),0)]
set_option maxRecDepth 100000 in
theorem q875_ok : rf_chkB q875_P q875_U wLay q875_M ddX12_isElsewhere [(13,[0])] [.inl 4] [0,3] 600 q875_N = true := by decide +kernel
set_option maxHeartbeats 4000000 in
theorem q875_met {G : rfG} (h : okG G) (hh : wHandOK G) : rf_met G q875_M := rf_methodB h.1 (P := q875_P) (U := q875_U) (N := q875_N) ⟨wflT h flokX12, wcsT h csokX12, wlcT h lcokX12, spokX12 h, List.forall_mem_cons.mpr ⟨q869_met h hh, fun _ h => absurd h List.not_mem_nil⟩, fun _ h => absurd h List.not_mem_nil, List.forall_mem_cons.mpr ⟨fun M hM => Option.some.inj (show some q869_M = some M from hM) ▸ wlkV (lkX12_381 h) q869_M rfl rfl, fun _ h => absurd h List.not_mem_nil⟩, fun _ h => absurd h List.not_mem_nil, fun _ h => absurd h List.not_mem_nil⟩ dkX12_isElsewhere (by decide +kernel) (by rw [h.2.2.1]; exact q875_ok)
/-- NearSpellModel.isElsewhere -/
def q876_M : rfM := ((⟨"NearSpellModel", "isElsewhere", "(III)Z"⟩, prog_14_method_102_code, 5, (some .boolean)), (1,23), ([.inr (.inl [114]),.inl (((-2147483648),2147483647,1),none),.inl ((1,13,1),none),.inl ((14,14,0),none)],[]), [], [(some (.inl ((1,1,0),none)),[],[]),(some (.inl ((0,0,0),none)),[],[])])
def q876_P : rfP := (flX12,csX12,lcX12,spX12,[q869_M],[],[(381,0,12)],([],[]))
def q876_U : rfU := []
set_option maxHeartbeats 8000000 in
def q876_N : List rfB := [(0,([(0,.inr (.inl [114])),(1,.inl (((-2147483648),2147483647,1),none)),(2,.inl ((1,13,1),none)),(3,.inl ((14,14,0),none))],[],[]),(160,[0]),0),
  (3,([(0,.inr (.inl [114])),(1,.inl (((-2147483648),2147483647,1),none)),(2,.inl ((1,13,1),none)),(3,.inl ((14,14,0),none)),(4,.inl ((1,14,1),none))],[],[]),(167,[(-11)]),0)]
set_option maxRecDepth 100000 in
theorem q876_ok : rf_chkB q876_P q876_U wLay q876_M ddX12_isElsewhere [(13,[0])] [.inl 4] [0,3] 600 q876_N = true := by decide +kernel
set_option maxHeartbeats 4000000 in
theorem q876_met {G : rfG} (h : okG G) (hh : wHandOK G) : rf_met G q876_M := rf_methodB h.1 (P := q876_P) (U := q876_U) (N := q876_N) ⟨wflT h flokX12, wcsT h csokX12, wlcT h lcokX12, spokX12 h, List.forall_mem_cons.mpr ⟨q869_met h hh, fun _ h => absurd h List.not_mem_nil⟩, fun _ h => absurd h List.not_mem_nil, List.forall_mem_cons.mpr ⟨fun M hM => Option.some.inj (show some q869_M = some M from hM) ▸ wlkV (lkX12_381 h) q869_M rfl rfl, fun _ h => absurd h List.not_mem_nil⟩, fun _ h => absurd h List.not_mem_nil, fun _ h => absurd h List.not_mem_nil⟩ dkX12_isElsewhere (by decide +kernel) (by rw [h.2.2.1]; exact q876_ok)
/-- NearSpellModel.isElsewhere -/
def q877_M : rfM := ((⟨"NearSpellModel", "isElsewhere", "(III)Z"⟩, prog_14_method_102_code, 5, (some .boolean)), (1,23), ([.inr (.inl [114]),.inl (((-2147483648),2147483647,1),none),.inl ((1,14,1),none),.inl ((14,14,0),none)],[]), [], [(some (.inl ((1,1,0),none)),[],[]),(some (.inl ((0,0,0),none)),[],[])])
def q877_P : rfP := (flX12,csX12,lcX12,spX12,[q869_M],[],[(381,0,12)],([],[]))
def q877_U : rfU := []
set_option maxHeartbeats 8000000 in
def q877_N : List rfB := [(0,([(0,.inr (.inl [114])),(1,.inl (((-2147483648),2147483647,1),none)),(2,.inl ((1,14,1),none)),(3,.inl ((14,14,0),none))],[],[]),(160,[0]),0),
  (3,([(0,.inr (.inl [114])),(1,.inl (((-2147483648),2147483647,1),none)),(2,.inl ((1,14,1),none)),(3,.inl ((14,14,0),none)),(4,.inl ((1,14,1),none))],[],[]),(167,[(-11)]),0)]
set_option maxRecDepth 100000 in
theorem q877_ok : rf_chkB q877_P q877_U wLay q877_M ddX12_isElsewhere [(13,[0])] [.inl 4] [0,3] 600 q877_N = true := by decide +kernel
set_option maxHeartbeats 4000000 in
theorem q877_met {G : rfG} (h : okG G) (hh : wHandOK G) : rf_met G q877_M := rf_methodB h.1 (P := q877_P) (U := q877_U) (N := q877_N) ⟨wflT h flokX12, wcsT h csokX12, wlcT h lcokX12, spokX12 h, List.forall_mem_cons.mpr ⟨q869_met h hh, fun _ h => absurd h List.not_mem_nil⟩, fun _ h => absurd h List.not_mem_nil, List.forall_mem_cons.mpr ⟨fun M hM => Option.some.inj (show some q869_M = some M from hM) ▸ wlkV (lkX12_381 h) q869_M rfl rfl, fun _ h => absurd h List.not_mem_nil⟩, fun _ h => absurd h List.not_mem_nil, fun _ h => absurd h List.not_mem_nil⟩ dkX12_isElsewhere (by decide +kernel) (by rw [h.2.2.1]; exact q877_ok)
/-- NearSpellModel.rarest -/
def q878_M : rfM := ((⟨"NearSpellModel", "rarest", "()I"⟩, prog_14_method_104_code, 8, (some .int)), (5,117), ([.inr (.inl [114])],[((114,28),(0,0,0),none)]), [(91,0),(92,0),(93,0),(114,40)], [(some (.inl (((-1),13,1),none)),[],[])])
def ddX12_rarest : List (Nat × Instr × Nat) := [(0,.aload_n 0,1),(1,.aload_n 0,1),(2,.invokevirtual 372,3),(5,.invokevirtual 375,3),(8,.istore_n 1,1),(9,.iconst (-1),1),(10,.istore_n 2,1),(11,.iconst 0,1),(12,.istore_n 3,1),(13,.iconst 0,1),(14,.istore 4,2),(16,.iload 4,2),(18,.bipush 14,2),(20,.if_icmp .ge 120,3),(23,.iload_n 1,1),(24,.ifCond .le 116,3),(27,.aload_n 0,1),(28,.iload 4,2),(30,.invokevirtual 350,3),(33,.ifCond .ne 6,3),(36,.goto 98,3),(39,.iconst 0,1),(40,.istore 5,2),(42,.iconst 0,1),(43,.istore 6,2),(45,.iload 6,2),(47,.aload_n 0,1),(48,.getfield 81,3),(51,.iload 4,2),(53,.iaload,1),(54,.if_icmp .ge 61,3),(57,.aload_n 0,1),(58,.getfield 78,3),(61,.bipush 64,2),(63,.iload 4,2),(65,.imul,1),(66,.iload 6,2),(68,.iadd,1),(69,.iaload,1),(70,.istore 7,2),(72,.iload 5,2),(74,.aload_n 0,1),(75,.iload 7,2),(77,.iconst 0,1),(78,.iload 4,2),(80,.invokevirtual 465,3),(83,.ifCond .ne 18,3),(86,.aload_n 0,1),(87,.iload 7,2),(89,.iload 4,2),(91,.iconst 1,1),(92,.iadd,1),(93,.bipush 14,2),(95,.invokevirtual 465,3),(98,.ifCond .eq 7,3),(101,.iconst 0,1),(102,.goto 4,3),(105,.iconst 1,1),(106,.iadd,1),(107,.istore 5,2),(109,.iinc 6 1,3),(112,.goto (-67),3),(115,.iload_n 2,1),(116,.ifCond .lt 12,3),(119,.iload 5,2),(121,.iload_n 3,1),(122,.if_icmp .gt 6,3),(125,.goto 9,3),(128,.iload 4,2),(130,.istore_n 2,1),(131,.iload 5,2),(133,.istore_n 3,1),(134,.iinc 4 1,3),(137,.goto (-121),3),(140,.iload_n 2,1),(141,.ireturn,1)]
set_option maxRecDepth 100000 in
theorem dkX12_rarest : rf_decs prog_14_method_104_code ddX12_rarest := rf_decs_of (by decide +kernel)
def q878_P : rfP := (flX12,csX12,lcX12,spX12,[q609_M,q669_M,q646_M,q861_M,q877_M],[],[(350,2,12),(372,0,12),(375,1,12),(465,3,12),(465,4,12)],([],[]))
def q878_U : rfU := []
set_option maxHeartbeats 8000000 in
def q878_N : List rfB := [(0,([(0,.inr (.inl [114]))],[],[((114,28),(0,0,0),some ((114,28),0,0))]),(40407,[0,0]),0),
  (16,([(0,.inr (.inl [114])),(1,.inl (((-2147483648),2147483647,1),none)),(2,.inl (((-1),13,1),none)),(3,.inl (((-2147483648),2147483647,1),none)),(4,.inl ((0,14,1),none))],[],[((114,28),(0,0,0),some ((114,28),0,0))]),(40394,[(-2693),0]),0),
  (134,([(0,.inr (.inl [114])),(1,.inl ((1,2147483647,1),none)),(2,.inl (((-1),13,1),none)),(3,.inl (((-2147483648),2147483647,1),none)),(4,.inl ((0,13,1),none))],[],[((114,28),(0,0,0),some ((114,28),0,0))]),(37704,[(-2693),0]),0),
  (45,([(0,.inr (.inl [114])),(1,.inl ((1,2147483647,1),none)),(2,.inl (((-1),13,1),none)),(3,.inl (((-2147483648),2147483647,1),none)),(4,.inl ((0,13,1),none)),(5,.inl (((-2147483648),2147483647,1),none)),(6,.inl ((0,64,1),none))],[],[((90,28),(1,14,1),none),((114,28),(0,0,0),some ((114,28),0,0))]),(40379,[(-2693),(-41)]),0),
  (140,([(0,.inr (.inl [114])),(1,.inl (((-2147483648),2147483647,1),none)),(2,.inl (((-1),13,1),none)),(3,.inl (((-2147483648),2147483647,1),none)),(4,.inl ((0,14,1),none))],[],[((114,28),(0,0,0),some ((114,28),0,0))]),(1,[0,0]),0),
  (101,([(0,.inr (.inl [114])),(1,.inl ((1,2147483647,1),none)),(2,.inl (((-1),13,1),none)),(3,.inl (((-2147483648),2147483647,1),none)),(4,.inl ((0,13,1),none)),(5,.inl (((-2147483648),2147483647,1),none)),(6,.inl ((0,63,1),none)),(7,.inl (((-2147483648),2147483647,1),none))],[.inl (((-2147483648),2147483647,1),some (.inl 5,some 0))],[((90,28),(1,14,1),none),((114,28),(0,0,0),some ((114,28),0,0))]),(40348,[(-2693),(-41)]),0),
  (107,([(0,.inr (.inl [114])),(1,.inl ((1,2147483647,1),none)),(2,.inl (((-1),13,1),none)),(3,.inl (((-2147483648),2147483647,1),none)),(4,.inl ((0,13,1),none)),(5,.inl (((-2147483648),2147483647,1),none)),(6,.inl ((0,63,1),none)),(7,.inl (((-2147483648),2147483647,1),none))],[.inl (((-2147483648),2147483647,1),none)],[((90,28),(1,14,1),none),((114,28),(0,0,0),some ((114,28),0,0))]),(40342,[(-2693),(-41)]),0),
  (128,([(0,.inr (.inl [114])),(1,.inl ((1,2147483647,1),none)),(2,.inl (((-1),13,1),none)),(3,.inl (((-2147483648),2147483647,1),none)),(4,.inl ((0,13,1),none)),(5,.inl (((-2147483648),2147483647,1),none)),(6,.inl ((0,64,1),none))],[],[((90,28),(1,14,1),none),((114,28),(0,0,0),some ((114,28),0,0))]),(37710,[(-2693),0]),0)]
set_option maxRecDepth 100000 in
theorem q878_ok : rf_chkB q878_P q878_U wLay q878_M ddX12_rarest [(2,[0]),(5,[1]),(30,[2]),(80,[3]),(95,[4])] [.inl 4,.inl 6] [0,16,45,101,107,128,134,140] 600 q878_N = true := by decide +kernel
set_option maxHeartbeats 4000000 in
theorem q878_met {G : rfG} (h : okG G) (hh : wHandOK G) : rf_met G q878_M := rf_methodB h.1 (P := q878_P) (U := q878_U) (N := q878_N) ⟨wflT h flokX12, wcsT h csokX12, wlcT h lcokX12, spokX12 h, List.forall_mem_cons.mpr ⟨q609_met h hh, List.forall_mem_cons.mpr ⟨q669_met h hh, List.forall_mem_cons.mpr ⟨q646_met h hh, List.forall_mem_cons.mpr ⟨q861_met h hh, List.forall_mem_cons.mpr ⟨q877_met h hh, fun _ h => absurd h List.not_mem_nil⟩⟩⟩⟩⟩, fun _ h => absurd h List.not_mem_nil, List.forall_mem_cons.mpr ⟨fun M hM => Option.some.inj (show some q646_M = some M from hM) ▸ wlkV (lkX12_350 h) q646_M rfl rfl, List.forall_mem_cons.mpr ⟨fun M hM => Option.some.inj (show some q609_M = some M from hM) ▸ wlkV (lkX12_372 h) q609_M rfl rfl, List.forall_mem_cons.mpr ⟨fun M hM => Option.some.inj (show some q669_M = some M from hM) ▸ wlkV (lkX12_375 h) q669_M rfl rfl, List.forall_mem_cons.mpr ⟨fun M hM => Option.some.inj (show some q861_M = some M from hM) ▸ wlkV (lkX12_465 h) q861_M rfl rfl, List.forall_mem_cons.mpr ⟨fun M hM => Option.some.inj (show some q877_M = some M from hM) ▸ wlkV (lkX12_465 h) q877_M rfl rfl, fun _ h => absurd h List.not_mem_nil⟩⟩⟩⟩⟩, fun _ h => absurd h List.not_mem_nil, fun _ h => absurd h List.not_mem_nil⟩ dkX12_rarest (by decide +kernel) (by rw [h.2.2.1]; exact q878_ok)
/-- NearSpellModel.rarest -/
def q879_M : rfM := ((⟨"NearSpellModel", "rarest", "()I"⟩, prog_14_method_104_code, 8, (some .int)), (5,117), ([.inr (.inl [114])],[((77,1),(1,31,1),none),((114,28),(1,1,0),none)]), [(91,0),(92,0),(93,0),(114,40)], [(some (.inl (((-1),13,1),none)),[],[])])
def q879_P : rfP := (flX12,csX12,lcX12,spX12,[q625_M,q692_M,q646_M,q861_M,q877_M],[],[(350,2,12),(372,0,12),(375,1,12),(465,3,12),(465,4,12)],([],[]))
def q879_U : rfU := []
set_option maxHeartbeats 8000000 in
def q879_N : List rfB := [(0,([(0,.inr (.inl [114]))],[],[((77,1),(1,31,1),some ((77,1),0,0)),((114,28),(1,1,0),some ((114,28),0,0))]),(40407,[0,0]),0),
  (16,([(0,.inr (.inl [114])),(1,.inl (((-2147483648),2147483647,1),none)),(2,.inl (((-1),13,1),none)),(3,.inl (((-2147483648),2147483647,1),none)),(4,.inl ((0,14,1),none))],[],[((77,1),(1,31,1),some ((77,1),0,0)),((114,28),(1,1,0),some ((114,28),0,0))]),(40394,[(-2693),0]),0),
  (134,([(0,.inr (.inl [114])),(1,.inl ((1,2147483647,1),none)),(2,.inl (((-1),13,1),none)),(3,.inl (((-2147483648),2147483647,1),none)),(4,.inl ((0,13,1),none))],[],[((77,1),(1,31,1),some ((77,1),0,0)),((114,28),(1,1,0),some ((114,28),0,0))]),(37704,[(-2693),0]),0),
  (45,([(0,.inr (.inl [114])),(1,.inl ((1,2147483647,1),none)),(2,.inl (((-1),13,1),none)),(3,.inl (((-2147483648),2147483647,1),none)),(4,.inl ((0,13,1),none)),(5,.inl (((-2147483648),2147483647,1),none)),(6,.inl ((0,64,1),none))],[],[((77,1),(1,31,1),some ((77,1),0,0)),((90,28),(1,14,1),none),((114,28),(1,1,0),some ((114,28),0,0))]),(40379,[(-2693),(-41)]),0),
  (140,([(0,.inr (.inl [114])),(1,.inl (((-2147483648),2147483647,1),none)),(2,.inl (((-1),13,1),none)),(3,.inl (((-2147483648),2147483647,1),none)),(4,.inl ((0,14,1),none))],[],[((77,1),(1,31,1),some ((77,1),0,0)),((114,28),(1,1,0),some ((114,28),0,0))]),(1,[0,0]),0),
  (101,([(0,.inr (.inl [114])),(1,.inl ((1,2147483647,1),none)),(2,.inl (((-1),13,1),none)),(3,.inl (((-2147483648),2147483647,1),none)),(4,.inl ((0,13,1),none)),(5,.inl (((-2147483648),2147483647,1),none)),(6,.inl ((0,63,1),none)),(7,.inl (((-2147483648),2147483647,1),none))],[.inl (((-2147483648),2147483647,1),some (.inl 5,some 0))],[((77,1),(1,31,1),some ((77,1),0,0)),((90,28),(1,14,1),none),((114,28),(1,1,0),some ((114,28),0,0))]),(40348,[(-2693),(-41)]),0),
  (107,([(0,.inr (.inl [114])),(1,.inl ((1,2147483647,1),none)),(2,.inl (((-1),13,1),none)),(3,.inl (((-2147483648),2147483647,1),none)),(4,.inl ((0,13,1),none)),(5,.inl (((-2147483648),2147483647,1),none)),(6,.inl ((0,63,1),none)),(7,.inl (((-2147483648),2147483647,1),none))],[.inl (((-2147483648),2147483647,1),none)],[((77,1),(1,31,1),some ((77,1),0,0)),((90,28),(1,14,1),none),((114,28),(1,1,0),some ((114,28),0,0))]),(40342,[(-2693),(-41)]),0),
  (128,([(0,.inr (.inl [114])),(1,.inl ((1,2147483647,1),none)),(2,.inl (((-1),13,1),none)),(3,.inl (((-2147483648),2147483647,1),none)),(4,.inl ((0,13,1),none)),(5,.inl (((-2147483648),2147483647,1),none)),(6,.inl ((0,64,1),none))],[],[((77,1),(1,31,1),some ((77,1),0,0)),((90,28),(1,14,1),none),((114,28),(1,1,0),some ((114,28),0,0))]),(37710,[(-2693),0]),0)]
set_option maxRecDepth 100000 in
theorem q879_ok : rf_chkB q879_P q879_U wLay q879_M ddX12_rarest [(2,[0]),(5,[1]),(30,[2]),(80,[3]),(95,[4])] [.inl 4,.inl 6] [0,16,45,101,107,128,134,140] 600 q879_N = true := by decide +kernel
set_option maxHeartbeats 4000000 in
theorem q879_met {G : rfG} (h : okG G) (hh : wHandOK G) : rf_met G q879_M := rf_methodB h.1 (P := q879_P) (U := q879_U) (N := q879_N) ⟨wflT h flokX12, wcsT h csokX12, wlcT h lcokX12, spokX12 h, List.forall_mem_cons.mpr ⟨q625_met h hh, List.forall_mem_cons.mpr ⟨q692_met h hh, List.forall_mem_cons.mpr ⟨q646_met h hh, List.forall_mem_cons.mpr ⟨q861_met h hh, List.forall_mem_cons.mpr ⟨q877_met h hh, fun _ h => absurd h List.not_mem_nil⟩⟩⟩⟩⟩, fun _ h => absurd h List.not_mem_nil, List.forall_mem_cons.mpr ⟨fun M hM => Option.some.inj (show some q646_M = some M from hM) ▸ wlkV (lkX12_350 h) q646_M rfl rfl, List.forall_mem_cons.mpr ⟨fun M hM => Option.some.inj (show some q625_M = some M from hM) ▸ wlkV (lkX12_372 h) q625_M rfl rfl, List.forall_mem_cons.mpr ⟨fun M hM => Option.some.inj (show some q692_M = some M from hM) ▸ wlkV (lkX12_375 h) q692_M rfl rfl, List.forall_mem_cons.mpr ⟨fun M hM => Option.some.inj (show some q861_M = some M from hM) ▸ wlkV (lkX12_465 h) q861_M rfl rfl, List.forall_mem_cons.mpr ⟨fun M hM => Option.some.inj (show some q877_M = some M from hM) ▸ wlkV (lkX12_465 h) q877_M rfl rfl, fun _ h => absurd h List.not_mem_nil⟩⟩⟩⟩⟩, fun _ h => absurd h List.not_mem_nil, fun _ h => absurd h List.not_mem_nil⟩ dkX12_rarest (by decide +kernel) (by rw [h.2.2.1]; exact q879_ok)
