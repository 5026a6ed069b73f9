/-- NearSpellModel.law -/
def q880_M : rfM := ((⟨"NearSpellModel", "law", "(I)I"⟩, prog_14_method_101_code, 2, (some .int)), (5,117), ([.inr (.inl [114]),.inl (((-2147483648),2147483647,1),none)],[((114,28),(0,0,0),none)]), [(91,0),(92,0),(93,0),(114,40)], [(some (.inl (((-2147483648),2147483647,1),none)),[],[])])
def ddX12_law : List (Nat × Instr × Nat) := [(0,.iload_n 1,1),(1,.iconst 0,1),(2,.iconst 2,1),(3,.invokestatic 334,3),(6,.ifCond .eq 11,3),(9,.aload_n 0,1),(10,.iload_n 1,1),(11,.invokevirtual 375,3),(14,.goto 4,3),(17,.iconst (-1),1),(18,.ireturn,1)]
set_option maxRecDepth 100000 in
theorem dkX12_law : rf_decs prog_14_method_101_code ddX12_law := rf_decs_of (by decide +kernel)
def q880_P : rfP := (flX12,csX12,lcX12,spX12,[q715_M,q669_M],[(334,0)],[(375,1,12)],([],[]))
def q880_U : rfU := []
set_option maxHeartbeats 8000000 in
def q880_N : List rfB := [(0,([(0,.inr (.inl [114])),(1,.inl (((-2147483648),2147483647,1),none))],[],[((114,28),(0,0,0),some ((114,28),0,0))]),(12,[]),0)]
set_option maxRecDepth 100000 in
theorem q880_ok : rf_chkB q880_P q880_U wLay q880_M ddX12_law [(3,[0]),(11,[1])] [] [0] 600 q880_N = true := by decide +kernel
set_option maxHeartbeats 4000000 in
theorem q880_met {G : rfG} (h : okG G) (hh : wHandOK G) : rf_met G q880_M := rf_methodB h.1 (P := q880_P) (U := q880_U) (N := q880_N) ⟨wflT h flokX12, wcsT h csokX12, wlcT h lcokX12, spokX12 h, List.forall_mem_cons.mpr ⟨q715_met h hh, List.forall_mem_cons.mpr ⟨q669_met h hh, fun _ h => absurd h List.not_mem_nil⟩⟩, List.forall_mem_cons.mpr ⟨fun M hM => Option.some.inj (show some q715_M = some M from hM) ▸ wlkS (lkX12_334 h) q715_M rfl rfl, fun _ h => absurd h List.not_mem_nil⟩, List.forall_mem_cons.mpr ⟨fun M hM => Option.some.inj (show some q669_M = some M from hM) ▸ wlkV (lkX12_375 h) q669_M rfl rfl, fun _ h => absurd h List.not_mem_nil⟩, fun _ h => absurd h List.not_mem_nil, fun _ h => absurd h List.not_mem_nil⟩ dkX12_law (by decide +kernel) (by rw [h.2.2.1]; exact q880_ok)
/-- NearSpellModel.law -/
def q881_M : rfM := ((⟨"NearSpellModel", "law", "(I)I"⟩, prog_14_method_101_code, 2, (some .int)), (5,117), ([.inr (.inl [114]),.inl (((-2147483648),2147483647,1),none)],[((77,1),(1,31,1),none),((114,28),(1,1,0),none)]), [(91,0),(92,0),(93,0),(114,40)], [(some (.inl (((-2147483648),2147483647,1),none)),[],[])])
def q881_P : rfP := (flX12,csX12,lcX12,spX12,[q715_M,q692_M],[(334,0)],[(375,1,12)],([],[]))
def q881_U : rfU := []
set_option maxHeartbeats 8000000 in
def q881_N : List rfB := [(0,([(0,.inr (.inl [114])),(1,.inl (((-2147483648),2147483647,1),none))],[],[((77,1),(1,31,1),some ((77,1),0,0)),((114,28),(1,1,0),some ((114,28),0,0))]),(12,[]),0)]
set_option maxRecDepth 100000 in
theorem q881_ok : rf_chkB q881_P q881_U wLay q881_M ddX12_law [(3,[0]),(11,[1])] [] [0] 600 q881_N = true := by decide +kernel
set_option maxHeartbeats 4000000 in
theorem q881_met {G : rfG} (h : okG G) (hh : wHandOK G) : rf_met G q881_M := rf_methodB h.1 (P := q881_P) (U := q881_U) (N := q881_N) ⟨wflT h flokX12, wcsT h csokX12, wlcT h lcokX12, spokX12 h, List.forall_mem_cons.mpr ⟨q715_met h hh, List.forall_mem_cons.mpr ⟨q692_met h hh, fun _ h => absurd h List.not_mem_nil⟩⟩, List.forall_mem_cons.mpr ⟨fun M hM => Option.some.inj (show some q715_M = some M from hM) ▸ wlkS (lkX12_334 h) q715_M rfl rfl, fun _ h => absurd h List.not_mem_nil⟩, List.forall_mem_cons.mpr ⟨fun M hM => Option.some.inj (show some q692_M = some M from hM) ▸ wlkV (lkX12_375 h) q692_M rfl rfl, fun _ h => absurd h List.not_mem_nil⟩, fun _ h => absurd h List.not_mem_nil, fun _ h => absurd h List.not_mem_nil⟩ dkX12_law (by decide +kernel) (by rw [h.2.2.1]; exact q881_ok)
/-- NearSpellModel.isIn -/
def q882_M : rfM := ((⟨"NearSpellModel", "isIn", "(III)Z"⟩, prog_14_method_35_code, 3, (some .boolean)), (0,0), ([.inl (((-2147483648),2147483647,1),none),.inl ((0,0,0),none),.inl ((4,4,0),none)],[]), [], [(some (.inl ((1,1,0),none)),[(0,0,4)],[]),(some (.inl ((0,0,0),none)),[],[])])
def q882_P : rfP := (flX12,csX12,lcX12,spX12,[],[],[],([],[]))
def q882_U : rfU := []
set_option maxHeartbeats 8000000 in
def q882_N : List rfB := [(0,([(0,.inl (((-2147483648),2147483647,1),none)),(1,.inl ((0,0,0),none)),(2,.inl ((4,4,0),none))],[],[]),(10,[]),0),
  (14,([(0,.inl (((-2147483648),2147483647,1),none)),(1,.inl ((0,0,0),none)),(2,.inl ((4,4,0),none))],[],[]),(1,[]),0)]
set_option maxRecDepth 100000 in
theorem q882_ok : rf_chkB q882_P q882_U wLay q882_M ddX12_isIn [] [] [0,14] 600 q882_N = true := by decide +kernel
set_option maxHeartbeats 4000000 in
theorem q882_met {G : rfG} (h : okG G) (hh : wHandOK G) : rf_met G q882_M := rf_methodB h.1 (P := q882_P) (U := q882_U) (N := q882_N) ⟨wflT h flokX12, wcsT h csokX12, wlcT h lcokX12, spokX12 h, fun _ h => absurd h List.not_mem_nil, fun _ h => absurd h List.not_mem_nil, fun _ h => absurd h List.not_mem_nil, fun _ h => absurd h List.not_mem_nil, fun _ h => absurd h List.not_mem_nil⟩ dkX12_isIn (by decide +kernel) (by rw [h.2.2.1]; exact q882_ok)
/-- NearSpellModel.power -/
def q883_M : rfM := ((⟨"NearSpellModel", "power", "(II)I"⟩, prog_14_method_39_code, 4, (some .int)), (0,0), ([.inl ((0,100,1),none),.inl ((0,4,1),none)],[]), [], [(some (.inl ((0,100000000,1),none)),[],[])])
def ddX12_power : List (Nat × Instr × Nat) := [(0,.iconst 1,1),(1,.istore_n 2,1),(2,.iconst 0,1),(3,.istore_n 3,1),(4,.iload_n 3,1),(5,.iload_n 1,1),(6,.if_icmp .ge 13,3),(9,.iload_n 2,1),(10,.iload_n 0,1),(11,.imul,1),(12,.istore_n 2,1),(13,.iinc 3 1,3),(16,.goto (-12),3),(19,.iload_n 2,1),(20,.ireturn,1)]
set_option maxRecDepth 100000 in
theorem dkX12_power : rf_decs prog_14_method_39_code ddX12_power := rf_decs_of (by decide +kernel)
def q883_P : rfP := (flX12,csX12,lcX12,spX12,[],[],[],([],[]))
def q883_U : rfU := []
set_option maxHeartbeats 8000000 in
def q883_N : List rfB := [(0,([(0,.inl ((0,100,1),none)),(1,.inl ((0,4,1),none))],[],[]),(52,[]),0),
  (4,([(0,.inl ((0,100,1),none)),(1,.inl ((0,4,1),none)),(2,.inl ((1,1,0),none)),(3,.inl ((0,0,0),none))],[],[]),(48,[]),0),
  (4,([(0,.inl ((0,100,1),none)),(1,.inl ((1,4,1),none)),(2,.inl ((0,100,1),none)),(3,.inl ((1,1,0),none))],[],[]),(39,[]),0),
  (4,([(0,.inl ((0,100,1),none)),(1,.inl ((2,4,1),none)),(2,.inl ((0,10000,1),none)),(3,.inl ((2,2,0),none))],[],[]),(30,[]),0),
  (4,([(0,.inl ((0,100,1),none)),(1,.inl ((3,4,1),none)),(2,.inl ((0,1000000,1),none)),(3,.inl ((3,3,0),none))],[],[]),(21,[]),0),
  (4,([(0,.inl ((0,100,1),none)),(1,.inl ((4,4,1),none)),(2,.inl ((0,100000000,1),none)),(3,.inl ((4,4,0),none))],[],[]),(12,[]),0)]
set_option maxRecDepth 100000 in
theorem q883_ok : rf_chkB q883_P q883_U wLay q883_M ddX12_power [] [] [0,4] 600 q883_N = true := by decide +kernel
set_option maxHeartbeats 4000000 in
theorem q883_met {G : rfG} (h : okG G) (hh : wHandOK G) : rf_met G q883_M := rf_methodB h.1 (P := q883_P) (U := q883_U) (N := q883_N) ⟨wflT h flokX12, wcsT h csokX12, wlcT h lcokX12, spokX12 h, fun _ h => absurd h List.not_mem_nil, fun _ h => absurd h List.not_mem_nil, fun _ h => absurd h List.not_mem_nil, fun _ h => absurd h List.not_mem_nil, fun _ h => absurd h List.not_mem_nil⟩ dkX12_power (by decide +kernel) (by rw [h.2.2.1]; exact q883_ok)
/-- NearSpellModel.power -/
def q884_M : rfM := ((⟨"NearSpellModel", "power", "(II)I"⟩, prog_14_method_39_code, 4, (some .int)), (0,0), ([.inl ((100,100,0),none),.inl ((0,4,1),none)],[]), [], [(some (.inl ((1,100000000,99),none)),[],[])])
def q884_P : rfP := (flX12,csX12,lcX12,spX12,[],[],[],([],[]))
def q884_U : rfU := []
set_option maxHeartbeats 8000000 in
def q884_N : List rfB := [(0,([(0,.inl ((100,100,0),none)),(1,.inl ((0,4,1),none))],[],[]),(52,[]),0),
  (4,([(0,.inl ((100,100,0),none)),(1,.inl ((0,4,1),none)),(2,.inl ((1,1,0),none)),(3,.inl ((0,0,0),none))],[],[]),(48,[]),0),
  (4,([(0,.inl ((100,100,0),none)),(1,.inl ((1,4,1),none)),(2,.inl ((100,100,0),none)),(3,.inl ((1,1,0),none))],[],[]),(39,[]),0),
  (4,([(0,.inl ((100,100,0),none)),(1,.inl ((2,4,1),none)),(2,.inl ((10000,10000,0),none)),(3,.inl ((2,2,0),none))],[],[]),(30,[]),0),
  (4,([(0,.inl ((100,100,0),none)),(1,.inl ((3,4,1),none)),(2,.inl ((1000000,1000000,0),none)),(3,.inl ((3,3,0),none))],[],[]),(21,[]),0),
  (4,([(0,.inl ((100,100,0),none)),(1,.inl ((4,4,1),none)),(2,.inl ((100000000,100000000,0),none)),(3,.inl ((4,4,0),none))],[],[]),(12,[]),0)]
set_option maxRecDepth 100000 in
theorem q884_ok : rf_chkB q884_P q884_U wLay q884_M ddX12_power [] [] [0,4] 600 q884_N = true := by decide +kernel
set_option maxHeartbeats 4000000 in
theorem q884_met {G : rfG} (h : okG G) (hh : wHandOK G) : rf_met G q884_M := rf_methodB h.1 (P := q884_P) (U := q884_U) (N := q884_N) ⟨wflT h flokX12, wcsT h csokX12, wlcT h lcokX12, spokX12 h, fun _ h => absurd h List.not_mem_nil, fun _ h => absurd h List.not_mem_nil, fun _ h => absurd h List.not_mem_nil, fun _ h => absurd h List.not_mem_nil, fun _ h => absurd h List.not_mem_nil⟩ dkX12_power (by decide +kernel) (by rw [h.2.2.1]; exact q884_ok)
/-- NearSpellModel.divisor -/
def q885_M : rfM := ((⟨"NearSpellModel", "divisor", "(II)I"⟩, prog_14_method_38_code, 5, (some .int)), (0,0), ([.inl ((1,387420488,1),none),.inl ((0,387420488,1),none)],[]), [], [(some (.inl ((1,387420488,1),none)),[],[])])
def ddX12_divisor : List (Nat × Instr × Nat) := [(0,.iload_n 0,1),(1,.istore_n 2,1),(2,.iload_n 1,1),(3,.istore_n 3,1),(4,.iload_n 3,1),(5,.ifCond .le 16,3),(8,.iload_n 2,1),(9,.iload_n 3,1),(10,.irem,1),(11,.istore 4,2),(13,.iload_n 3,1),(14,.istore_n 2,1),(15,.iload 4,2),(17,.istore_n 3,1),(18,.goto (-14),3),(21,.iload_n 2,1),(22,.ireturn,1)]
set_option maxRecDepth 100000 in
theorem dkX12_divisor : rf_decs prog_14_method_38_code ddX12_divisor := rf_decs_of (by decide +kernel)
def q885_P : rfP := (flX12,csX12,lcX12,spX12,[],[],[],([],[]))
def q885_U : rfU := []
set_option maxHeartbeats 8000000 in
def q885_N : List rfB := [(0,([(0,.inl ((1,387420488,1),none)),(1,.inl ((0,387420488,1),none))],[],[]),(4649045873,[0]),0),
  (4,([(0,.inl ((1,387420488,1),none)),(1,.inl ((0,387420488,1),none)),(2,.inl ((1,387420488,1),none)),(3,.inl ((0,387420488,1),none))],[],[]),(11,[12]),0)]
set_option maxRecDepth 100000 in
theorem q885_ok : rf_chkB q885_P q885_U wLay q885_M ddX12_divisor [] [.inl 3] [0,4] 600 q885_N = true := by decide +kernel
set_option maxHeartbeats 4000000 in
theorem q885_met {G : rfG} (h : okG G) (hh : wHandOK G) : rf_met G q885_M := rf_methodB h.1 (P := q885_P) (U := q885_U) (N := q885_N) ⟨wflT h flokX12, wcsT h csokX12, wlcT h lcokX12, spokX12 h, fun _ h => absurd h List.not_mem_nil, fun _ h => absurd h List.not_mem_nil, fun _ h => absurd h List.not_mem_nil, fun _ h => absurd h List.not_mem_nil, fun _ h => absurd h List.not_mem_nil⟩ dkX12_divisor (by decide +kernel) (by rw [h.2.2.1]; exact q885_ok)
/-- NearSpellModel.odds -/
def q886_M : rfM := ((⟨"NearSpellModel", "odds", "(II)I"⟩, prog_14_method_115_code, 5, (some .int)), (1,24), ([.inr (.inl [114]),.inl (((-2147483648),2147483647,1),none),.inl (((-2147483648),2147483647,1),none)],[((114,28),(0,0,0),none)]), [], [(some (.inl (((-2147483648),2147483647,1),none)),[],[])])
def ddX12_odds : List (Nat × Instr × Nat) := [(0,.iload_n 1,1),(1,.iconst 0,1),(2,.iconst 4,1),(3,.invokestatic 334,3),(6,.ifCond .eq 12,3),(9,.iload_n 2,1),(10,.iconst 0,1),(11,.iconst 1,1),(12,.invokestatic 334,3),(15,.ifCond .ne 5,3),(18,.iconst (-1),1),(19,.ireturn,1),(20,.bipush 100,2),(22,.aload_n 0,1),(23,.getfield 36,3),(26,.aload_n 0,1),(27,.getfield 242,3),(30,.iaload,1),(31,.isub,1),(32,.iload_n 1,1),(33,.invokestatic 477,3),(36,.istore_n 3,1),(37,.bipush 100,2),(39,.iload_n 1,1),(40,.invokestatic 477,3),(43,.istore 4,2),(45,.iload_n 2,1),(46,.ifCond .ne 7,3),(49,.iload_n 3,1),(50,.goto 5,3),(53,.iload 4,2),(55,.iload 4,2),(57,.iload_n 3,1),(58,.invokestatic 480,3),(61,.idiv,1),(62,.ireturn,1)]
set_option maxRecDepth 100000 in
theorem dkX12_odds : rf_decs prog_14_method_115_code ddX12_odds := rf_decs_of (by decide +kernel)
def q886_P : rfP := (flX12,csX12,lcX12,spX12,[q882_M,q750_M,q883_M,q884_M,q885_M],[(334,0),(334,1),(477,2),(477,3),(480,4)],[],([],[]))
def q886_U : rfU := []
set_option maxHeartbeats 8000000 in
def q886_N : List rfB := [(0,([(0,.inr (.inl [114])),(1,.inl (((-2147483648),2147483647,1),none)),(2,.inl (((-2147483648),2147483647,1),none))],[],[((114,28),(0,0,0),some ((114,28),0,0))]),(37,[]),0),
  (18,([(0,.inr (.inl [114])),(1,.inl (((-2147483648),2147483647,1),none)),(2,.inl (((-2147483648),2147483647,1),none))],[],[((114,28),(0,0,0),some ((114,28),0,0))]),(26,[]),0),
  (55,([(0,.inr (.inl [114])),(1,.inl ((0,4,1),none)),(2,.inl ((0,1,1),none)),(3,.inl ((0,100000000,1),none)),(4,.inl ((1,100000000,99),none))],[.inl ((0,100000000,1),none)],[((114,28),(0,0,0),some ((114,28),0,0))]),(4,[]),0)]
set_option maxRecDepth 100000 in
theorem q886_ok : rf_chkB q886_P q886_U wLay q886_M ddX12_odds [(3,[0]),(12,[1]),(33,[2]),(40,[3]),(58,[4])] [] [0,18,55] 600 q886_N = true := by decide +kernel
set_option maxHeartbeats 4000000 in
theorem q886_met {G : rfG} (h : okG G) (hh : wHandOK G) : rf_met G q886_M := rf_methodB h.1 (P := q886_P) (U := q886_U) (N := q886_N) ⟨wflT h flokX12, wcsT h csokX12, wlcT h lcokX12, spokX12 h, List.forall_mem_cons.mpr ⟨q882_met h hh, List.forall_mem_cons.mpr ⟨q750_met h hh, List.forall_mem_cons.mpr ⟨q883_met h hh, List.forall_mem_cons.mpr ⟨q884_met h hh, List.forall_mem_cons.mpr ⟨q885_met h hh, fun _ h => absurd h List.not_mem_nil⟩⟩⟩⟩⟩, List.forall_mem_cons.mpr ⟨fun M hM => Option.some.inj (show some q882_M = some M from hM) ▸ wlkS (lkX12_334 h) q882_M rfl rfl, List.forall_mem_cons.mpr ⟨fun M hM => Option.some.inj (show some q750_M = some M from hM) ▸ wlkS (lkX12_334 h) q750_M rfl rfl, List.forall_mem_cons.mpr ⟨fun M hM => Option.some.inj (show some q883_M = some M from hM) ▸ wlkS (lkX12_477 h) q883_M rfl rfl, List.forall_mem_cons.mpr ⟨fun M hM => Option.some.inj (show some q884_M = some M from hM) ▸ wlkS (lkX12_477 h) q884_M rfl rfl, List.forall_mem_cons.mpr ⟨fun M hM => Option.some.inj (show some q885_M = some M from hM) ▸ wlkS (lkX12_480 h) q885_M rfl rfl, fun _ h => absurd h List.not_mem_nil⟩⟩⟩⟩⟩, fun _ h => absurd h List.not_mem_nil, fun _ h => absurd h List.not_mem_nil, fun _ h => absurd h List.not_mem_nil⟩ dkX12_odds (by decide +kernel) (by rw [h.2.2.1]; exact q886_ok)
/-- NearSpellModel.odds -/
def q887_M : rfM := ((⟨"NearSpellModel", "odds", "(II)I"⟩, prog_14_method_115_code, 5, (some .int)), (1,24), ([.inr (.inl [114]),.inl (((-2147483648),2147483647,1),none),.inl (((-2147483648),2147483647,1),none)],[((77,1),(1,31,1),none),((114,28),(1,1,0),none)]), [], [(some (.inl (((-2147483648),2147483647,1),none)),[],[])])
def q887_P : rfP := (flX12,csX12,lcX12,spX12,[q882_M,q750_M,q883_M,q884_M,q885_M],[(334,0),(334,1),(477,2),(477,3),(480,4)],[],([],[]))
def q887_U : rfU := []
set_option maxHeartbeats 8000000 in
def q887_N : List rfB := [(0,([(0,.inr (.inl [114])),(1,.inl (((-2147483648),2147483647,1),none)),(2,.inl (((-2147483648),2147483647,1),none))],[],[((77,1),(1,31,1),some ((77,1),0,0)),((114,28),(1,1,0),some ((114,28),0,0))]),(37,[]),0),
  (18,([(0,.inr (.inl [114])),(1,.inl (((-2147483648),2147483647,1),none)),(2,.inl (((-2147483648),2147483647,1),none))],[],[((77,1),(1,31,1),some ((77,1),0,0)),((114,28),(1,1,0),some ((114,28),0,0))]),(26,[]),0),
  (55,([(0,.inr (.inl [114])),(1,.inl ((0,4,1),none)),(2,.inl ((0,1,1),none)),(3,.inl ((0,100000000,1),none)),(4,.inl ((1,100000000,99),none))],[.inl ((0,100000000,1),none)],[((77,1),(1,31,1),some ((77,1),0,0)),((114,28),(1,1,0),some ((114,28),0,0))]),(4,[]),0)]
set_option maxRecDepth 100000 in
theorem q887_ok : rf_chkB q887_P q887_U wLay q887_M ddX12_odds [(3,[0]),(12,[1]),(33,[2]),(40,[3]),(58,[4])] [] [0,18,55] 600 q887_N = true := by decide +kernel
set_option maxHeartbeats 4000000 in
theorem q887_met {G : rfG} (h : okG G) (hh : wHandOK G) : rf_met G q887_M := rf_methodB h.1 (P := q887_P) (U := q887_U) (N := q887_N) ⟨wflT h flokX12, wcsT h csokX12, wlcT h lcokX12, spokX12 h, List.forall_mem_cons.mpr ⟨q882_met h hh, List.forall_mem_cons.mpr ⟨q750_met h hh, List.forall_mem_cons.mpr ⟨q883_met h hh, List.forall_mem_cons.mpr ⟨q884_met h hh, List.forall_mem_cons.mpr ⟨q885_met h hh, fun _ h => absurd h List.not_mem_nil⟩⟩⟩⟩⟩, List.forall_mem_cons.mpr ⟨fun M hM => Option.some.inj (show some q882_M = some M from hM) ▸ wlkS (lkX12_334 h) q882_M rfl rfl, List.forall_mem_cons.mpr ⟨fun M hM => Option.some.inj (show some q750_M = some M from hM) ▸ wlkS (lkX12_334 h) q750_M rfl rfl, List.forall_mem_cons.mpr ⟨fun M hM => Option.some.inj (show some q883_M = some M from hM) ▸ wlkS (lkX12_477 h) q883_M rfl rfl, List.forall_mem_cons.mpr ⟨fun M hM => Option.some.inj (show some q884_M = some M from hM) ▸ wlkS (lkX12_477 h) q884_M rfl rfl, List.forall_mem_cons.mpr ⟨fun M hM => Option.some.inj (show some q885_M = some M from hM) ▸ wlkS (lkX12_480 h) q885_M rfl rfl, fun _ h => absurd h List.not_mem_nil⟩⟩⟩⟩⟩, fun _ h => absurd h List.not_mem_nil, fun _ h => absurd h List.not_mem_nil, fun _ h => absurd h List.not_mem_nil⟩ dkX12_odds (by decide +kernel) (by rw [h.2.2.1]; exact q887_ok)
/-- NearSpellModel.isIn -/
def q888_M : rfM := ((⟨"NearSpellModel", "isIn", "(III)Z"⟩, prog_14_method_35_code, 3, (some .boolean)), (0,0), ([.inl (((-2147483648),2147483647,1),none),.inl ((0,0,0),none),.inl (((-1),63,1),none)],[]), [], [(some (.inl ((1,1,0),none)),[(0,0,63),(2,0,63)],[]),(some (.inl ((0,0,0),none)),[],[])])
def q888_P : rfP := (flX12,csX12,lcX12,spX12,[],[],[],([],[]))
def q888_U : rfU := []
set_option maxHeartbeats 8000000 in
def q888_N : List rfB := [(0,([(0,.inl (((-2147483648),2147483647,1),none)),(1,.inl ((0,0,0),none)),(2,.inl (((-1),63,1),none))],[],[]),(10,[]),0),
  (14,([(0,.inl (((-2147483648),2147483647,1),none)),(1,.inl ((0,0,0),none)),(2,.inl (((-1),63,1),none))],[],[]),(1,[]),0)]
set_option maxRecDepth 100000 in
theorem q888_ok : rf_chkB q888_P q888_U wLay q888_M ddX12_isIn [] [] [0,14] 600 q888_N = true := by decide +kernel
set_option maxHeartbeats 4000000 in
theorem q888_met {G : rfG} (h : okG G) (hh : wHandOK G) : rf_met G q888_M := rf_methodB h.1 (P := q888_P) (U := q888_U) (N := q888_N) ⟨wflT h flokX12, wcsT h csokX12, wlcT h lcokX12, spokX12 h, fun _ h => absurd h List.not_mem_nil, fun _ h => absurd h List.not_mem_nil, fun _ h => absurd h List.not_mem_nil, fun _ h => absurd h List.not_mem_nil, fun _ h => absurd h List.not_mem_nil⟩ dkX12_isIn (by decide +kernel) (by rw [h.2.2.1]; exact q888_ok)
/-- NearSpellModel.lies -/
def q889_M : rfM := ((⟨"NearSpellModel", "lies", "(I)I"⟩, prog_14_method_71_code, 2, (some .int)), (1,22), ([.inr (.inl [114]),.inl (((-2147483648),2147483647,1),none)],[((114,28),(0,0,0),none)]), [], [(some (.inl (((-2147483648),2147483647,1),none)),[],[])])
def ddX12_lies : List (Nat × Instr × Nat) := [(0,.iload_n 1,1),(1,.iconst 0,1),(2,.aload_n 0,1),(3,.getfield 347,3),(6,.iconst 1,1),(7,.isub,1),(8,.invokestatic 334,3),(11,.ifCond .eq 12,3),(14,.aload_n 0,1),(15,.getfield 99,3),(18,.iload_n 1,1),(19,.iaload,1),(20,.goto 5,3),(23,.bipush (-2),2),(25,.ireturn,1)]
set_option maxRecDepth 100000 in
theorem dkX12_lies : rf_decs prog_14_method_71_code ddX12_lies := rf_decs_of (by decide +kernel)
def q889_P : rfP := (flX12,csX12,lcX12,spX12,[q888_M],[(334,0)],[],([],[]))
def q889_U : rfU := []
set_option maxHeartbeats 8000000 in
def q889_N : List rfB := [(0,([(0,.inr (.inl [114])),(1,.inl (((-2147483648),2147483647,1),none))],[],[((114,28),(0,0,0),some ((114,28),0,0))]),(16,[]),0)]
set_option maxRecDepth 100000 in
theorem q889_ok : rf_chkB q889_P q889_U wLay q889_M ddX12_lies [(8,[0])] [] [0] 600 q889_N = true := by decide +kernel
set_option maxHeartbeats 4000000 in
theorem q889_met {G : rfG} (h : okG G) (hh : wHandOK G) : rf_met G q889_M := rf_methodB h.1 (P := q889_P) (U := q889_U) (N := q889_N) ⟨wflT h flokX12, wcsT h csokX12, wlcT h lcokX12, spokX12 h, List.forall_mem_cons.mpr ⟨q888_met h hh, fun _ h => absurd h List.not_mem_nil⟩, List.forall_mem_cons.mpr ⟨fun M hM => Option.some.inj (show some q888_M = some M from hM) ▸ wlkS (lkX12_334 h) q888_M rfl rfl, fun _ h => absurd h List.not_mem_nil⟩, fun _ h => absurd h List.not_mem_nil, fun _ h => absurd h List.not_mem_nil, fun _ h => absurd h List.not_mem_nil⟩ dkX12_lies (by decide +kernel) (by rw [h.2.2.1]; exact q889_ok)
/-- NearSpellModel.lies -/
def q890_M : rfM := ((⟨"NearSpellModel", "lies", "(I)I"⟩, prog_14_method_71_code, 2, (some .int)), (1,22), ([.inr (.inl [114]),.inl (((-2147483648),2147483647,1),none)],[((77,1),(1,31,1),none),((114,28),(1,1,0),none)]), [], [(some (.inl (((-2147483648),2147483647,1),none)),[],[])])
def q890_P : rfP := (flX12,csX12,lcX12,spX12,[q888_M],[(334,0)],[],([],[]))
def q890_U : rfU := []
set_option maxHeartbeats 8000000 in
def q890_N : List rfB := [(0,([(0,.inr (.inl [114])),(1,.inl (((-2147483648),2147483647,1),none))],[],[((77,1),(1,31,1),some ((77,1),0,0)),((114,28),(1,1,0),some ((114,28),0,0))]),(16,[]),0)]
set_option maxRecDepth 100000 in
theorem q890_ok : rf_chkB q890_P q890_U wLay q890_M ddX12_lies [(8,[0])] [] [0] 600 q890_N = true := by decide +kernel
set_option maxHeartbeats 4000000 in
theorem q890_met {G : rfG} (h : okG G) (hh : wHandOK G) : rf_met G q890_M := rf_methodB h.1 (P := q890_P) (U := q890_U) (N := q890_N) ⟨wflT h flokX12, wcsT h csokX12, wlcT h lcokX12, spokX12 h, List.forall_mem_cons.mpr ⟨q888_met h hh, fun _ h => absurd h List.not_mem_nil⟩, List.forall_mem_cons.mpr ⟨fun M hM => Option.some.inj (show some q888_M = some M from hM) ▸ wlkS (lkX12_334 h) q888_M rfl rfl, fun _ h => absurd h List.not_mem_nil⟩, fun _ h => absurd h List.not_mem_nil, fun _ h => absurd h List.not_mem_nil, fun _ h => absurd h List.not_mem_nil⟩ dkX12_lies (by decide +kernel) (by rw [h.2.2.1]; exact q890_ok)
/-- NearSpellModel.seen -/
def q891_M : rfM := ((⟨"NearSpellModel", "seen", "(IIZ)I"⟩, prog_14_method_117_code, 4, (some .int)), (2,43), ([.inr (.inl [114]),.inl (((-2147483648),2147483647,1),none),.inl (((-2147483648),2147483647,1),none),.inl ((0,1,1),none)],[((114,28),(0,0,0),none)]), [(106,0),(107,0),(108,0),(109,0),(110,0),(114,64)], [(some (.inl (((-1),29,1),none)),[],[])])
def ddX12_seen : List (Nat × Instr × Nat) := [(0,.iload_n 1,1),(1,.invokestatic 420,3),(4,.ifCond .eq 34,3),(7,.iload_n 2,1),(8,.iconst 0,1),(9,.bipush 6,2),(11,.invokestatic 334,3),(14,.ifCond .eq 24,3),(17,.aload_n 0,1),(18,.getfield 344,3),(21,.bipush 30,2),(23,.if_icmp .eq 15,3),(26,.aload_n 0,1),(27,.getfield 20,3),(30,.aload_n 0,1),(31,.getfield 242,3),(34,.iaload,1),(35,.ifCond .ne 5,3),(38,.iconst (-1),1),(39,.ireturn,1),(40,.aload_n 0,1),(41,.getfield 120,3),(44,.aload_n 0,1),(45,.getfield 344,3),(48,.iload_n 1,1),(49,.iastore,1),(50,.aload_n 0,1),(51,.getfield 123,3),(54,.aload_n 0,1),(55,.getfield 344,3),(58,.iload_n 2,1),(59,.iastore,1),(60,.aload_n 0,1),(61,.getfield 126,3),(64,.aload_n 0,1),(65,.getfield 344,3),(68,.iload_n 3,1),(69,.ifCond .eq 7,3),(72,.iconst 1,1),(73,.goto 4,3),(76,.iconst 0,1),(77,.iastore,1),(78,.aload_n 0,1),(79,.getfield 129,3),(82,.aload_n 0,1),(83,.getfield 344,3),(86,.aload_n 0,1),(87,.getfield 483,3),(90,.iastore,1),(91,.aload_n 0,1),(92,.getfield 132,3),(95,.aload_n 0,1),(96,.getfield 344,3),(99,.iconst (-1),1),(100,.iastore,1),(101,.aload_n 0,1),(102,.dup,1),(103,.getfield 344,3),(106,.iconst 1,1),(107,.iadd,1),(108,.putfield 344,3),(111,.aload_n 0,1),(112,.getfield 344,3),(115,.iconst 1,1),(116,.isub,1),(117,.ireturn,1)]
set_option maxRecDepth 100000 in
theorem dkX12_seen : rf_decs prog_14_method_117_code ddX12_seen := rf_decs_of (by decide +kernel)
def q891_P : rfP := (flX12,csX12,lcX12,spX12,[q629_M,q734_M],[(334,1),(420,0)],[],([],[]))
def q891_U : rfU := []
set_option maxHeartbeats 8000000 in
def q891_N : List rfB := [(0,([(0,.inr (.inl [114])),(1,.inl (((-2147483648),2147483647,1),none)),(2,.inl (((-2147483648),2147483647,1),none)),(3,.inl ((0,1,1),none))],[],[((114,28),(0,0,0),some ((114,28),0,0))]),(68,[]),0),
  (38,([(0,.inr (.inl [114])),(1,.inl (((-2147483648),2147483647,1),none)),(2,.inl (((-2147483648),2147483647,1),none)),(3,.inl ((0,1,1),none))],[],[((114,28),(0,0,0),some ((114,28),0,0))]),(1,[]),0),
  (78,([(0,.inr (.inl [114])),(1,.inl ((0,387420488,1),none)),(2,.inl ((0,6,1),none)),(3,.inl ((0,1,1),none))],[],[((73,0),(1,10,1),none),((114,28),(0,0,0),some ((114,28),0,0)),((114,63),(0,29,1),none)]),(26,[]),0)]
set_option maxRecDepth 100000 in
theorem q891_ok : rf_chkB q891_P q891_U wLay q891_M ddX12_seen [(1,[0]),(11,[1])] [] [0,38,78] 600 q891_N = true := by decide +kernel
set_option maxHeartbeats 4000000 in
theorem q891_met {G : rfG} (h : okG G) (hh : wHandOK G) : rf_met G q891_M := rf_methodB h.1 (P := q891_P) (U := q891_U) (N := q891_N) ⟨wflT h flokX12, wcsT h csokX12, wlcT h lcokX12, spokX12 h, List.forall_mem_cons.mpr ⟨q629_met h hh, List.forall_mem_cons.mpr ⟨q734_met h hh, fun _ h => absurd h List.not_mem_nil⟩⟩, List.forall_mem_cons.mpr ⟨fun M hM => Option.some.inj (show some q734_M = some M from hM) ▸ wlkS (lkX12_334 h) q734_M rfl rfl, List.forall_mem_cons.mpr ⟨fun M hM => Option.some.inj (show some q629_M = some M from hM) ▸ wlkS (lkX12_420 h) q629_M rfl rfl, fun _ h => absurd h List.not_mem_nil⟩⟩, fun _ h => absurd h List.not_mem_nil, fun _ h => absurd h List.not_mem_nil, fun _ h => absurd h List.not_mem_nil⟩ dkX12_seen (by decide +kernel) (by rw [h.2.2.1]; exact q891_ok)
/-- NearSpellModel.seen -/
def q892_M : rfM := ((⟨"NearSpellModel", "seen", "(IIZ)I"⟩, prog_14_method_117_code, 4, (some .int)), (2,43), ([.inr (.inl [114]),.inl (((-2147483648),2147483647,1),none),.inl (((-2147483648),2147483647,1),none),.inl ((0,1,1),none)],[((77,1),(1,31,1),none),((114,28),(1,1,0),none)]), [(106,0),(107,0),(108,0),(109,0),(110,0),(114,64)], [(some (.inl (((-1),29,1),none)),[],[])])
def q892_P : rfP := (flX12,csX12,lcX12,spX12,[q629_M,q734_M],[(334,1),(420,0)],[],([],[]))
def q892_U : rfU := []
set_option maxHeartbeats 8000000 in
def q892_N : List rfB := [(0,([(0,.inr (.inl [114])),(1,.inl (((-2147483648),2147483647,1),none)),(2,.inl (((-2147483648),2147483647,1),none)),(3,.inl ((0,1,1),none))],[],[((77,1),(1,31,1),some ((77,1),0,0)),((114,28),(1,1,0),some ((114,28),0,0))]),(68,[]),0),
  (38,([(0,.inr (.inl [114])),(1,.inl (((-2147483648),2147483647,1),none)),(2,.inl (((-2147483648),2147483647,1),none)),(3,.inl ((0,1,1),none))],[],[((77,1),(1,31,1),some ((77,1),0,0)),((114,28),(1,1,0),some ((114,28),0,0))]),(1,[]),0),
  (78,([(0,.inr (.inl [114])),(1,.inl ((0,387420488,1),none)),(2,.inl ((0,6,1),none)),(3,.inl ((0,1,1),none))],[],[((73,1),(1,10,1),none),((77,1),(1,31,1),some ((77,1),0,0)),((114,28),(1,1,0),some ((114,28),0,0)),((114,63),(0,29,1),none)]),(26,[]),0)]
set_option maxRecDepth 100000 in
theorem q892_ok : rf_chkB q892_P q892_U wLay q892_M ddX12_seen [(1,[0]),(11,[1])] [] [0,38,78] 600 q892_N = true := by decide +kernel
set_option maxHeartbeats 4000000 in
theorem q892_met {G : rfG} (h : okG G) (hh : wHandOK G) : rf_met G q892_M := rf_methodB h.1 (P := q892_P) (U := q892_U) (N := q892_N) ⟨wflT h flokX12, wcsT h csokX12, wlcT h lcokX12, spokX12 h, List.forall_mem_cons.mpr ⟨q629_met h hh, List.forall_mem_cons.mpr ⟨q734_met h hh, fun _ h => absurd h List.not_mem_nil⟩⟩, List.forall_mem_cons.mpr ⟨fun M hM => Option.some.inj (show some q734_M = some M from hM) ▸ wlkS (lkX12_334 h) q734_M rfl rfl, List.forall_mem_cons.mpr ⟨fun M hM => Option.some.inj (show some q629_M = some M from hM) ▸ wlkS (lkX12_420 h) q629_M rfl rfl, fun _ h => absurd h List.not_mem_nil⟩⟩, fun _ h => absurd h List.not_mem_nil, fun _ h => absurd h List.not_mem_nil, fun _ h => absurd h List.not_mem_nil⟩ dkX12_seen (by decide +kernel) (by rw [h.2.2.1]; exact q892_ok)
/-- NearSpellModel.isIn -/
def q893_M : rfM := ((⟨"NearSpellModel", "isIn", "(III)Z"⟩, prog_14_method_35_code, 3, (some .boolean)), (0,0), ([.inl (((-2147483648),2147483647,1),none),.inl ((0,0,0),none),.inl (((-1),29,1),none)],[]), [], [(some (.inl ((1,1,0),none)),[(0,0,29),(2,0,29)],[]),(some (.inl ((0,0,0),none)),[],[])])
def q893_P : rfP := (flX12,csX12,lcX12,spX12,[],[],[],([],[]))
def q893_U : rfU := []
set_option maxHeartbeats 8000000 in
def q893_N : List rfB := [(0,([(0,.inl (((-2147483648),2147483647,1),none)),(1,.inl ((0,0,0),none)),(2,.inl (((-1),29,1),none))],[],[]),(10,[]),0),
  (14,([(0,.inl (((-2147483648),2147483647,1),none)),(1,.inl ((0,0,0),none)),(2,.inl (((-1),29,1),none))],[],[]),(1,[]),0)]
set_option maxRecDepth 100000 in
theorem q893_ok : rf_chkB q893_P q893_U wLay q893_M ddX12_isIn [] [] [0,14] 600 q893_N = true := by decide +kernel
set_option maxHeartbeats 4000000 in
theorem q893_met {G : rfG} (h : okG G) (hh : wHandOK G) : rf_met G q893_M := rf_methodB h.1 (P := q893_P) (U := q893_U) (N := q893_N) ⟨wflT h flokX12, wcsT h csokX12, wlcT h lcokX12, spokX12 h, fun _ h => absurd h List.not_mem_nil, fun _ h => absurd h List.not_mem_nil, fun _ h => absurd h List.not_mem_nil, fun _ h => absurd h List.not_mem_nil, fun _ h => absurd h List.not_mem_nil⟩ dkX12_isIn (by decide +kernel) (by rw [h.2.2.1]; exact q893_ok)
/-- NearSpellModel.untell -/
def q894_M : rfM := ((⟨"NearSpellModel", "untell", "(I)Z"⟩, prog_14_method_118_code, 2, (some .boolean)), (1,22), ([.inr (.inl [114]),.inl (((-2147483648),2147483647,1),none)],[((114,28),(0,0,0),none)]), [(110,0)], [(some (.inl ((0,0,0),none)),[],[]),(some (.inl ((1,1,0),none)),[(1,0,29)],[((114,63),(1,30,1),none)])])
def ddX12_untell : List (Nat × Instr × Nat) := [(0,.iload_n 1,1),(1,.iconst 0,1),(2,.aload_n 0,1),(3,.getfield 344,3),(6,.iconst 1,1),(7,.isub,1),(8,.invokestatic 334,3),(11,.ifCond .eq 12,3),(14,.aload_n 0,1),(15,.getfield 132,3),(18,.iload_n 1,1),(19,.iaload,1),(20,.ifCond .lt 5,3),(23,.iconst 0,1),(24,.ireturn,1),(25,.aload_n 0,1),(26,.getfield 132,3),(29,.iload_n 1,1),(30,.aload_n 0,1),(31,.getfield 483,3),(34,.iastore,1),(35,.iconst 1,1),(36,.ireturn,1)]
set_option maxRecDepth 100000 in
theorem dkX12_untell : rf_decs prog_14_method_118_code ddX12_untell := rf_decs_of (by decide +kernel)
def q894_P : rfP := (flX12,csX12,lcX12,spX12,[q893_M],[(334,0)],[],([],[]))
def q894_U : rfU := []
set_option maxHeartbeats 8000000 in
def q894_N : List rfB := [(0,([(0,.inr (.inl [114])),(1,.inl (((-2147483648),2147483647,1),none))],[],[((114,28),(0,0,0),some ((114,28),0,0))]),(23,[]),0),
  (23,([(0,.inr (.inl [114])),(1,.inl (((-2147483648),2147483647,1),none))],[],[((114,28),(0,0,0),some ((114,28),0,0))]),(9,[]),0)]
set_option maxRecDepth 100000 in
theorem q894_ok : rf_chkB q894_P q894_U wLay q894_M ddX12_untell [(8,[0])] [] [0,23] 600 q894_N = true := by decide +kernel
set_option maxHeartbeats 4000000 in
theorem q894_met {G : rfG} (h : okG G) (hh : wHandOK G) : rf_met G q894_M := rf_methodB h.1 (P := q894_P) (U := q894_U) (N := q894_N) ⟨wflT h flokX12, wcsT h csokX12, wlcT h lcokX12, spokX12 h, List.forall_mem_cons.mpr ⟨q893_met h hh, fun _ h => absurd h List.not_mem_nil⟩, List.forall_mem_cons.mpr ⟨fun M hM => Option.some.inj (show some q893_M = some M from hM) ▸ wlkS (lkX12_334 h) q893_M rfl rfl, fun _ h => absurd h List.not_mem_nil⟩, fun _ h => absurd h List.not_mem_nil, fun _ h => absurd h List.not_mem_nil, fun _ h => absurd h List.not_mem_nil⟩ dkX12_untell (by decide +kernel) (by rw [h.2.2.1]; exact q894_ok)
/-- NearSpellModel.untell -/
def q895_M : rfM := ((⟨"NearSpellModel", "untell", "(I)Z"⟩, prog_14_method_118_code, 2, (some .boolean)), (1,22), ([.inr (.inl [114]),.inl (((-2147483648),2147483647,1),none)],[((77,1),(1,31,1),none),((114,28),(1,1,0),none)]), [(110,0)], [(some (.inl ((0,0,0),none)),[],[]),(some (.inl ((1,1,0),none)),[(1,0,29)],[((114,63),(1,30,1),none)])])
def q895_P : rfP := (flX12,csX12,lcX12,spX12,[q893_M],[(334,0)],[],([],[]))
def q895_U : rfU := []
set_option maxHeartbeats 8000000 in
def q895_N : List rfB := [(0,([(0,.inr (.inl [114])),(1,.inl (((-2147483648),2147483647,1),none))],[],[((77,1),(1,31,1),some ((77,1),0,0)),((114,28),(1,1,0),some ((114,28),0,0))]),(23,[]),0),
  (23,([(0,.inr (.inl [114])),(1,.inl (((-2147483648),2147483647,1),none))],[],[((77,1),(1,31,1),some ((77,1),0,0)),((114,28),(1,1,0),some ((114,28),0,0))]),(9,[]),0)]
set_option maxRecDepth 100000 in
theorem q895_ok : rf_chkB q895_P q895_U wLay q895_M ddX12_untell [(8,[0])] [] [0,23] 600 q895_N = true := by decide +kernel
set_option maxHeartbeats 4000000 in
theorem q895_met {G : rfG} (h : okG G) (hh : wHandOK G) : rf_met G q895_M := rf_methodB h.1 (P := q895_P) (U := q895_U) (N := q895_N) ⟨wflT h flokX12, wcsT h csokX12, wlcT h lcokX12, spokX12 h, List.forall_mem_cons.mpr ⟨q893_met h hh, fun _ h => absurd h List.not_mem_nil⟩, List.forall_mem_cons.mpr ⟨fun M hM => Option.some.inj (show some q893_M = some M from hM) ▸ wlkS (lkX12_334 h) q893_M rfl rfl, fun _ h => absurd h List.not_mem_nil⟩, fun _ h => absurd h List.not_mem_nil, fun _ h => absurd h List.not_mem_nil, fun _ h => absurd h List.not_mem_nil⟩ dkX12_untell (by decide +kernel) (by rw [h.2.2.1]; exact q895_ok)
/-- NearSpellModel.doesCount -/
def q898_M : rfM := ((⟨"NearSpellModel", "doesCount", "(II)Z"⟩, prog_14_method_120_code, 3, (some .boolean)), (0,0), ([.inr (.inl [114]),.inl ((0,0,0),none),.inl (((-2147483648),2147483647,1),none)],[]), [], [(some (.inl ((1,1,0),none)),[],[]),(some (.inl ((0,0,0),none)),[],[])])
def ddX12_doesCount : List (Nat × Instr × Nat) := [(0,.aload_n 0,1),(1,.getfield 129,3),(4,.iload_n 1,1),(5,.iaload,1),(6,.iload_n 2,1),(7,.if_icmp .gt 26,3),(10,.aload_n 0,1),(11,.getfield 132,3),(14,.iload_n 1,1),(15,.iaload,1),(16,.ifCond .lt 13,3),(19,.aload_n 0,1),(20,.getfield 132,3),(23,.iload_n 1,1),(24,.iaload,1),(25,.iload_n 2,1),(26,.if_icmp .le 7,3),(29,.iconst 1,1),(30,.goto 4,3),(33,.iconst 0,1),(34,.ireturn,1)]
set_option maxRecDepth 100000 in
theorem dkX12_doesCount : rf_decs prog_14_method_120_code ddX12_doesCount := rf_decs_of (by decide +kernel)
def q898_P : rfP := (flX12,csX12,lcX12,spX12,[],[],[],([],[]))
def q898_U : rfU := []
set_option maxHeartbeats 8000000 in
def q898_N : List rfB := [(0,([(0,.inr (.inl [114])),(1,.inl ((0,0,0),none)),(2,.inl (((-2147483648),2147483647,1),none))],[],[]),(21,[]),0),
  (33,([(0,.inr (.inl [114])),(1,.inl ((0,0,0),none)),(2,.inl (((-2147483648),2147483647,1),none))],[],[]),(1,[]),0),
  (29,([(0,.inr (.inl [114])),(1,.inl ((0,0,0),none)),(2,.inl (((-2147483648),2147483647,1),none))],[],[]),(4,[]),0)]
set_option maxRecDepth 100000 in
theorem q898_ok : rf_chkB q898_P q898_U wLay q898_M ddX12_doesCount [] [] [0,29,33] 600 q898_N = true := by decide +kernel
set_option maxHeartbeats 4000000 in
theorem q898_met {G : rfG} (h : okG G) (hh : wHandOK G) : rf_met G q898_M := rf_methodB h.1 (P := q898_P) (U := q898_U) (N := q898_N) ⟨wflT h flokX12, wcsT h csokX12, wlcT h lcokX12, spokX12 h, fun _ h => absurd h List.not_mem_nil, fun _ h => absurd h List.not_mem_nil, fun _ h => absurd h List.not_mem_nil, fun _ h => absurd h List.not_mem_nil, fun _ h => absurd h List.not_mem_nil⟩ dkX12_doesCount (by decide +kernel) (by rw [h.2.2.1]; exact q898_ok)
/-- NearSpellModel.wordOf -/
def q899_M : rfM := ((⟨"NearSpellModel", "wordOf", "(I)I"⟩, prog_14_method_116_code, 2, (some .int)), (0,0), ([.inr (.inl [114]),.inl ((0,0,0),none)],[((114,28),(0,0,0),none)]), [], [(some (.inl ((0,387420488,1),none)),[],[])])
def ddX12_wordOf : List (Nat × Instr × Nat) := [(0,.aload_n 0,1),(1,.getfield 45,3),(4,.bipush 10,2),(6,.aload_n 0,1),(7,.getfield 242,3),(10,.imul,1),(11,.iload_n 1,1),(12,.iadd,1),(13,.iaload,1),(14,.ireturn,1)]
set_option maxRecDepth 100000 in
theorem dkX12_wordOf : rf_decs prog_14_method_116_code ddX12_wordOf := rf_decs_of (by decide +kernel)
def q899_P : rfP := (flX12,csX12,lcX12,spX12,[],[],[],([],[]))
def q899_U : rfU := []
set_option maxHeartbeats 8000000 in
def q899_N : List rfB := [(0,([(0,.inr (.inl [114])),(1,.inl ((0,0,0),none))],[],[((114,28),(0,0,0),some ((114,28),0,0))]),(9,[]),0)]
set_option maxRecDepth 100000 in
theorem q899_ok : rf_chkB q899_P q899_U wLay q899_M ddX12_wordOf [] [] [0] 600 q899_N = true := by decide +kernel
set_option maxHeartbeats 4000000 in
theorem q899_met {G : rfG} (h : okG G) (hh : wHandOK G) : rf_met G q899_M := rf_methodB h.1 (P := q899_P) (U := q899_U) (N := q899_N) ⟨wflT h flokX12, wcsT h csokX12, wlcT h lcokX12, spokX12 h, fun _ h => absurd h List.not_mem_nil, fun _ h => absurd h List.not_mem_nil, fun _ h => absurd h List.not_mem_nil, fun _ h => absurd h List.not_mem_nil, fun _ h => absurd h List.not_mem_nil⟩ dkX12_wordOf (by decide +kernel) (by rw [h.2.2.1]; exact q899_ok)
/-- NearSpellModel.doesCount -/
def q900_M : rfM := ((⟨"NearSpellModel", "doesCount", "(II)Z"⟩, prog_14_method_120_code, 3, (some .boolean)), (0,0), ([.inr (.inl [114]),.inl ((0,1,1),none),.inl (((-2147483648),2147483647,1),none)],[]), [], [(some (.inl ((1,1,0),none)),[],[]),(some (.inl ((0,0,0),none)),[],[])])
def q900_P : rfP := (flX12,csX12,lcX12,spX12,[],[],[],([],[]))
def q900_U : rfU := []
set_option maxHeartbeats 8000000 in
def q900_N : List rfB := [(0,([(0,.inr (.inl [114])),(1,.inl ((0,1,1),none)),(2,.inl (((-2147483648),2147483647,1),none))],[],[]),(21,[]),0),
  (33,([(0,.inr (.inl [114])),(1,.inl ((0,1,1),none)),(2,.inl (((-2147483648),2147483647,1),none))],[],[]),(1,[]),0),
  (29,([(0,.inr (.inl [114])),(1,.inl ((0,1,1),none)),(2,.inl (((-2147483648),2147483647,1),none))],[],[]),(4,[]),0)]
set_option maxRecDepth 100000 in
theorem q900_ok : rf_chkB q900_P q900_U wLay q900_M ddX12_doesCount [] [] [0,29,33] 600 q900_N = true := by decide +kernel
set_option maxHeartbeats 4000000 in
theorem q900_met {G : rfG} (h : okG G) (hh : wHandOK G) : rf_met G q900_M := rf_methodB h.1 (P := q900_P) (U := q900_U) (N := q900_N) ⟨wflT h flokX12, wcsT h csokX12, wlcT h lcokX12, spokX12 h, fun _ h => absurd h List.not_mem_nil, fun _ h => absurd h List.not_mem_nil, fun _ h => absurd h List.not_mem_nil, fun _ h => absurd h List.not_mem_nil, fun _ h => absurd h List.not_mem_nil⟩ dkX12_doesCount (by decide +kernel) (by rw [h.2.2.1]; exact q900_ok)
/-- NearSpellModel.doesCount -/
def q901_M : rfM := ((⟨"NearSpellModel", "doesCount", "(II)Z"⟩, prog_14_method_120_code, 3, (some .boolean)), (0,0), ([.inr (.inl [114]),.inl ((0,2,1),none),.inl (((-2147483648),2147483647,1),none)],[]), [], [(some (.inl ((1,1,0),none)),[],[]),(some (.inl ((0,0,0),none)),[],[])])
def q901_P : rfP := (flX12,csX12,lcX12,spX12,[],[],[],([],[]))
def q901_U : rfU := []
set_option maxHeartbeats 8000000 in
def q901_N : List rfB := [(0,([(0,.inr (.inl [114])),(1,.inl ((0,2,1),none)),(2,.inl (((-2147483648),2147483647,1),none))],[],[]),(21,[]),0),
  (33,([(0,.inr (.inl [114])),(1,.inl ((0,2,1),none)),(2,.inl (((-2147483648),2147483647,1),none))],[],[]),(1,[]),0),
  (29,([(0,.inr (.inl [114])),(1,.inl ((0,2,1),none)),(2,.inl (((-2147483648),2147483647,1),none))],[],[]),(4,[]),0)]
set_option maxRecDepth 100000 in
theorem q901_ok : rf_chkB q901_P q901_U wLay q901_M ddX12_doesCount [] [] [0,29,33] 600 q901_N = true := by decide +kernel
set_option maxHeartbeats 4000000 in
theorem q901_met {G : rfG} (h : okG G) (hh : wHandOK G) : rf_met G q901_M := rf_methodB h.1 (P := q901_P) (U := q901_U) (N := q901_N) ⟨wflT h flokX12, wcsT h csokX12, wlcT h lcokX12, spokX12 h, fun _ h => absurd h List.not_mem_nil, fun _ h => absurd h List.not_mem_nil, fun _ h => absurd h List.not_mem_nil, fun _ h => absurd h List.not_mem_nil, fun _ h => absurd h List.not_mem_nil⟩ dkX12_doesCount (by decide +kernel) (by rw [h.2.2.1]; exact q901_ok)
/-- NearSpellModel.doesCount -/
def q902_M : rfM := ((⟨"NearSpellModel", "doesCount", "(II)Z"⟩, prog_14_method_120_code, 3, (some .boolean)), (0,0), ([.inr (.inl [114]),.inl ((0,3,1),none),.inl (((-2147483648),2147483647,1),none)],[]), [], [(some (.inl ((1,1,0),none)),[],[]),(some (.inl ((0,0,0),none)),[],[])])
def q902_P : rfP := (flX12,csX12,lcX12,spX12,[],[],[],([],[]))
def q902_U : rfU := []
set_option maxHeartbeats 8000000 in
def q902_N : List rfB := [(0,([(0,.inr (.inl [114])),(1,.inl ((0,3,1),none)),(2,.inl (((-2147483648),2147483647,1),none))],[],[]),(21,[]),0),
  (33,([(0,.inr (.inl [114])),(1,.inl ((0,3,1),none)),(2,.inl (((-2147483648),2147483647,1),none))],[],[]),(1,[]),0),
  (29,([(0,.inr (.inl [114])),(1,.inl ((0,3,1),none)),(2,.inl (((-2147483648),2147483647,1),none))],[],[]),(4,[]),0)]
set_option maxRecDepth 100000 in
theorem q902_ok : rf_chkB q902_P q902_U wLay q902_M ddX12_doesCount [] [] [0,29,33] 600 q902_N = true := by decide +kernel
set_option maxHeartbeats 4000000 in
theorem q902_met {G : rfG} (h : okG G) (hh : wHandOK G) : rf_met G q902_M := rf_methodB h.1 (P := q902_P) (U := q902_U) (N := q902_N) ⟨wflT h flokX12, wcsT h csokX12, wlcT h lcokX12, spokX12 h, fun _ h => absurd h List.not_mem_nil, fun _ h => absurd h List.not_mem_nil, fun _ h => absurd h List.not_mem_nil, fun _ h => absurd h List.not_mem_nil, fun _ h => absurd h List.not_mem_nil⟩ dkX12_doesCount (by decide +kernel) (by rw [h.2.2.1]; exact q902_ok)
/-- NearSpellModel.doesCount -/
def q903_M : rfM := ((⟨"NearSpellModel", "doesCount", "(II)Z"⟩, prog_14_method_120_code, 3, (some .boolean)), (0,0), ([.inr (.inl [114]),.inl ((0,12,1),none),.inl (((-2147483648),2147483647,1),none)],[]), [], [(some (.inl ((1,1,0),none)),[],[]),(some (.inl ((0,0,0),none)),[],[])])
def q903_P : rfP := (flX12,csX12,lcX12,spX12,[],[],[],([],[]))
def q903_U : rfU := []
set_option maxHeartbeats 8000000 in
def q903_N : List rfB := [(0,([(0,.inr (.inl [114])),(1,.inl ((0,12,1),none)),(2,.inl (((-2147483648),2147483647,1),none))],[],[]),(21,[]),0),
  (33,([(0,.inr (.inl [114])),(1,.inl ((0,12,1),none)),(2,.inl (((-2147483648),2147483647,1),none))],[],[]),(1,[]),0),
  (29,([(0,.inr (.inl [114])),(1,.inl ((0,12,1),none)),(2,.inl (((-2147483648),2147483647,1),none))],[],[]),(4,[]),0)]
set_option maxRecDepth 100000 in
theorem q903_ok : rf_chkB q903_P q903_U wLay q903_M ddX12_doesCount [] [] [0,29,33] 600 q903_N = true := by decide +kernel
set_option maxHeartbeats 4000000 in
theorem q903_met {G : rfG} (h : okG G) (hh : wHandOK G) : rf_met G q903_M := rf_methodB h.1 (P := q903_P) (U := q903_U) (N := q903_N) ⟨wflT h flokX12, wcsT h csokX12, wlcT h lcokX12, spokX12 h, fun _ h => absurd h List.not_mem_nil, fun _ h => absurd h List.not_mem_nil, fun _ h => absurd h List.not_mem_nil, fun _ h => absurd h List.not_mem_nil, fun _ h => absurd h List.not_mem_nil⟩ dkX12_doesCount (by decide +kernel) (by rw [h.2.2.1]; exact q903_ok)
/-- NearSpellModel.doesCount -/
def q904_M : rfM := ((⟨"NearSpellModel", "doesCount", "(II)Z"⟩, prog_14_method_120_code, 3, (some .boolean)), (0,0), ([.inr (.inl [114]),.inl ((0,13,1),none),.inl (((-2147483648),2147483647,1),none)],[]), [], [(some (.inl ((1,1,0),none)),[],[]),(some (.inl ((0,0,0),none)),[],[])])
def q904_P : rfP := (flX12,csX12,lcX12,spX12,[],[],[],([],[]))
def q904_U : rfU := []
set_option maxHeartbeats 8000000 in
def q904_N : List rfB := [(0,([(0,.inr (.inl [114])),(1,.inl ((0,13,1),none)),(2,.inl (((-2147483648),2147483647,1),none))],[],[]),(21,[]),0),
  (33,([(0,.inr (.inl [114])),(1,.inl ((0,13,1),none)),(2,.inl (((-2147483648),2147483647,1),none))],[],[]),(1,[]),0),
  (29,([(0,.inr (.inl [114])),(1,.inl ((0,13,1),none)),(2,.inl (((-2147483648),2147483647,1),none))],[],[]),(4,[]),0)]
set_option maxRecDepth 100000 in
theorem q904_ok : rf_chkB q904_P q904_U wLay q904_M ddX12_doesCount [] [] [0,29,33] 600 q904_N = true := by decide +kernel
set_option maxHeartbeats 4000000 in
theorem q904_met {G : rfG} (h : okG G) (hh : wHandOK G) : rf_met G q904_M := rf_methodB h.1 (P := q904_P) (U := q904_U) (N := q904_N) ⟨wflT h flokX12, wcsT h csokX12, wlcT h lcokX12, spokX12 h, fun _ h => absurd h List.not_mem_nil, fun _ h => absurd h List.not_mem_nil, fun _ h => absurd h List.not_mem_nil, fun _ h => absurd h List.not_mem_nil, fun _ h => absurd h List.not_mem_nil⟩ dkX12_doesCount (by decide +kernel) (by rw [h.2.2.1]; exact q904_ok)
/-- NearSpellModel.doesCount -/
def q905_M : rfM := ((⟨"NearSpellModel", "doesCount", "(II)Z"⟩, prog_14_method_120_code, 3, (some .boolean)), (0,0), ([.inr (.inl [114]),.inl ((0,14,1),none),.inl (((-2147483648),2147483647,1),none)],[]), [], [(some (.inl ((1,1,0),none)),[],[]),(some (.inl ((0,0,0),none)),[],[])])
def q905_P : rfP := (flX12,csX12,lcX12,spX12,[],[],[],([],[]))
def q905_U : rfU := []
set_option maxHeartbeats 8000000 in
def q905_N : List rfB := [(0,([(0,.inr (.inl [114])),(1,.inl ((0,14,1),none)),(2,.inl (((-2147483648),2147483647,1),none))],[],[]),(21,[]),0),
  (33,([(0,.inr (.inl [114])),(1,.inl ((0,14,1),none)),(2,.inl (((-2147483648),2147483647,1),none))],[],[]),(1,[]),0),
  (29,([(0,.inr (.inl [114])),(1,.inl ((0,14,1),none)),(2,.inl (((-2147483648),2147483647,1),none))],[],[]),(4,[]),0)]
set_option maxRecDepth 100000 in
theorem q905_ok : rf_chkB q905_P q905_U wLay q905_M ddX12_doesCount [] [] [0,29,33] 600 q905_N = true := by decide +kernel
set_option maxHeartbeats 4000000 in
theorem q905_met {G : rfG} (h : okG G) (hh : wHandOK G) : rf_met G q905_M := rf_methodB h.1 (P := q905_P) (U := q905_U) (N := q905_N) ⟨wflT h flokX12, wcsT h csokX12, wlcT h lcokX12, spokX12 h, fun _ h => absurd h List.not_mem_nil, fun _ h => absurd h List.not_mem_nil, fun _ h => absurd h List.not_mem_nil, fun _ h => absurd h List.not_mem_nil, fun _ h => absurd h List.not_mem_nil⟩ dkX12_doesCount (by decide +kernel) (by rw [h.2.2.1]; exact q905_ok)
/-- NearSpellModel.doesCount -/
def q906_M : rfM := ((⟨"NearSpellModel", "doesCount", "(II)Z"⟩, prog_14_method_120_code, 3, (some .boolean)), (0,0), ([.inr (.inl [114]),.inl ((0,26,1),none),.inl (((-2147483648),2147483647,1),none)],[]), [], [(some (.inl ((1,1,0),none)),[],[]),(some (.inl ((0,0,0),none)),[],[])])
def q906_P : rfP := (flX12,csX12,lcX12,spX12,[],[],[],([],[]))
def q906_U : rfU := []
set_option maxHeartbeats 8000000 in
def q906_N : List rfB := [(0,([(0,.inr (.inl [114])),(1,.inl ((0,26,1),none)),(2,.inl (((-2147483648),2147483647,1),none))],[],[]),(21,[]),0),
  (33,([(0,.inr (.inl [114])),(1,.inl ((0,26,1),none)),(2,.inl (((-2147483648),2147483647,1),none))],[],[]),(1,[]),0),
  (29,([(0,.inr (.inl [114])),(1,.inl ((0,26,1),none)),(2,.inl (((-2147483648),2147483647,1),none))],[],[]),(4,[]),0)]
set_option maxRecDepth 100000 in
theorem q906_ok : rf_chkB q906_P q906_U wLay q906_M ddX12_doesCount [] [] [0,29,33] 600 q906_N = true := by decide +kernel
set_option maxHeartbeats 4000000 in
theorem q906_met {G : rfG} (h : okG G) (hh : wHandOK G) : rf_met G q906_M := rf_methodB h.1 (P := q906_P) (U := q906_U) (N := q906_N) ⟨wflT h flokX12, wcsT h csokX12, wlcT h lcokX12, spokX12 h, fun _ h => absurd h List.not_mem_nil, fun _ h => absurd h List.not_mem_nil, fun _ h => absurd h List.not_mem_nil, fun _ h => absurd h List.not_mem_nil, fun _ h => absurd h List.not_mem_nil⟩ dkX12_doesCount (by decide +kernel) (by rw [h.2.2.1]; exact q906_ok)
/-- NearSpellModel.doesCount -/
def q907_M : rfM := ((⟨"NearSpellModel", "doesCount", "(II)Z"⟩, prog_14_method_120_code, 3, (some .boolean)), (0,0), ([.inr (.inl [114]),.inl ((0,29,1),none),.inl (((-2147483648),2147483647,1),none)],[]), [], [(some (.inl ((1,1,0),none)),[],[]),(some (.inl ((0,0,0),none)),[],[])])
def q907_P : rfP := (flX12,csX12,lcX12,spX12,[],[],[],([],[]))
def q907_U : rfU := []
set_option maxHeartbeats 8000000 in
def q907_N : List rfB := [(0,([(0,.inr (.inl [114])),(1,.inl ((0,29,1),none)),(2,.inl (((-2147483648),2147483647,1),none))],[],[]),(21,[]),0),
  (33,([(0,.inr (.inl [114])),(1,.inl ((0,29,1),none)),(2,.inl (((-2147483648),2147483647,1),none))],[],[]),(1,[]),0),
  (29,([(0,.inr (.inl [114])),(1,.inl ((0,29,1),none)),(2,.inl (((-2147483648),2147483647,1),none))],[],[]),(4,[]),0)]
set_option maxRecDepth 100000 in
theorem q907_ok : rf_chkB q907_P q907_U wLay q907_M ddX12_doesCount [] [] [0,29,33] 600 q907_N = true := by decide +kernel
set_option maxHeartbeats 4000000 in
theorem q907_met {G : rfG} (h : okG G) (hh : wHandOK G) : rf_met G q907_M := rf_methodB h.1 (P := q907_P) (U := q907_U) (N := q907_N) ⟨wflT h flokX12, wcsT h csokX12, wlcT h lcokX12, spokX12 h, fun _ h => absurd h List.not_mem_nil, fun _ h => absurd h List.not_mem_nil, fun _ h => absurd h List.not_mem_nil, fun _ h => absurd h List.not_mem_nil, fun _ h => absurd h List.not_mem_nil⟩ dkX12_doesCount (by decide +kernel) (by rw [h.2.2.1]; exact q907_ok)
/-- NearSpellModel.doesFit -/
def q908_M : rfM := ((⟨"NearSpellModel", "doesFit", "(II)Z"⟩, prog_14_method_121_code, 4, (some .boolean)), (22,2043), ([.inr (.inl [114]),.inl ((0,0,0),none),.inl (((-2147483648),2147483647,1),none)],[((114,28),(0,0,0),none)]), [(94,0),(95,0),(96,0),(97,0),(114,45),(114,46)], [(some (.inl ((0,0,0),none)),[],[((114,44),(0,6,1),none),((114,45),(0,6,1),none),((114,63),(1,30,1),none)]),(some (.inl ((1,1,0),none)),[],[])])
def ddX12_doesFit : List (Nat × Instr × Nat) := [(0,.iconst 0,1),(1,.istore_n 3,1),(2,.iload_n 3,1),(3,.aload_n 0,1),(4,.getfield 344,3),(7,.if_icmp .ge 67,3),(10,.aload_n 0,1),(11,.iload_n 3,1),(12,.iload_n 2,1),(13,.invokevirtual 487,3),(16,.ifCond .eq 52,3),(19,.aload_n 0,1),(20,.aload_n 0,1),(21,.iload_n 1,1),(22,.invokevirtual 490,3),(25,.aload_n 0,1),(26,.getfield 120,3),(29,.iload_n 3,1),(30,.iaload,1),(31,.invokevirtual 408,3),(34,.aload_n 0,1),(35,.getfield 123,3),(38,.iload_n 3,1),(39,.iaload,1),(40,.if_icmp .gt 7,3),(43,.iconst 1,1),(44,.goto 4,3),(47,.iconst 0,1),(48,.aload_n 0,1),(49,.getfield 126,3),(52,.iload_n 3,1),(53,.iaload,1),(54,.iconst 1,1),(55,.if_icmp .ne 7,3),(58,.iconst 1,1),(59,.goto 4,3),(62,.iconst 0,1),(63,.if_icmp .eq 5,3),(66,.iconst 0,1),(67,.ireturn,1),(68,.iinc 3 1,3),(71,.goto (-69),3),(74,.iconst 1,1),(75,.ireturn,1)]
set_option maxRecDepth 100000 in
theorem dkX12_doesFit : rf_decs prog_14_method_121_code ddX12_doesFit := rf_decs_of (by decide +kernel)
def q908_P : rfP := (flX12,csX12,lcX12,spX12,[q907_M,q899_M,q684_M],[],[(408,2,12),(487,0,12),(490,1,12)],([],[]))
def q908_U : rfU := []
set_option maxHeartbeats 8000000 in
def q908_N : List rfB := [(0,([(0,.inr (.inl [114])),(1,.inl ((0,0,0),none)),(2,.inl (((-2147483648),2147483647,1),none))],[],[((114,28),(0,0,0),some ((114,28),0,0))]),(1467,[0]),0),
  (2,([(0,.inr (.inl [114])),(1,.inl ((0,0,0),none)),(2,.inl (((-2147483648),2147483647,1),none)),(3,.inl ((0,30,1),none))],[],[((114,28),(0,0,0),some ((114,28),0,0))]),(1463,[(-47)]),0),
  (68,([(0,.inr (.inl [114])),(1,.inl ((0,0,0),none)),(2,.inl (((-2147483648),2147483647,1),none)),(3,.inl ((0,29,1),none))],[],[((114,28),(0,0,0),some ((114,28),0,0)),((114,63),(1,30,1),none)]),(1419,[(-47)]),0),
  (66,([(0,.inr (.inl [114])),(1,.inl ((0,0,0),none)),(2,.inl (((-2147483648),2147483647,1),none)),(3,.inl ((0,29,1),none))],[],[((114,28),(0,0,0),some ((114,28),0,0)),((114,44),(0,6,1),none),((114,45),(0,6,1),none),((114,63),(1,30,1),none)]),(3,[0]),0)]
set_option maxRecDepth 100000 in
theorem q908_ok : rf_chkB q908_P q908_U wLay q908_M ddX12_doesFit [(13,[0]),(22,[1]),(31,[2])] [.inl 3] [0,2,66,68] 600 q908_N = true := by decide +kernel
set_option maxHeartbeats 4000000 in
theorem q908_met {G : rfG} (h : okG G) (hh : wHandOK G) : rf_met G q908_M := rf_methodB h.1 (P := q908_P) (U := q908_U) (N := q908_N) ⟨wflT h flokX12, wcsT h csokX12, wlcT h lcokX12, spokX12 h, List.forall_mem_cons.mpr ⟨q907_met h hh, List.forall_mem_cons.mpr ⟨q899_met h hh, List.forall_mem_cons.mpr ⟨q684_met h hh, fun _ h => absurd h List.not_mem_nil⟩⟩⟩, fun _ h => absurd h List.not_mem_nil, List.forall_mem_cons.mpr ⟨fun M hM => Option.some.inj (show some q684_M = some M from hM) ▸ wlkV (lkX12_408 h) q684_M rfl rfl, List.forall_mem_cons.mpr ⟨fun M hM => Option.some.inj (show some q907_M = some M from hM) ▸ wlkV (lkX12_487 h) q907_M rfl rfl, List.forall_mem_cons.mpr ⟨fun M hM => Option.some.inj (show some q899_M = some M from hM) ▸ wlkV (lkX12_490 h) q899_M rfl rfl, fun _ h => absurd h List.not_mem_nil⟩⟩⟩, fun _ h => absurd h List.not_mem_nil, fun _ h => absurd h List.not_mem_nil⟩ dkX12_doesFit (by decide +kernel) (by rw [h.2.2.1]; exact q908_ok)
/-- NearSpellModel.wordOf -/
def q909_M : rfM := ((⟨"NearSpellModel", "wordOf", "(I)I"⟩, prog_14_method_116_code, 2, (some .int)), (0,0), ([.inr (.inl [114]),.inl ((0,1,1),none)],[((114,28),(0,0,0),none)]), [], [(some (.inl ((0,387420488,1),none)),[],[])])
def q909_P : rfP := (flX12,csX12,lcX12,spX12,[],[],[],([],[]))
def q909_U : rfU := []
set_option maxHeartbeats 8000000 in
def q909_N : List rfB := [(0,([(0,.inr (.inl [114])),(1,.inl ((0,1,1),none))],[],[((114,28),(0,0,0),some ((114,28),0,0))]),(9,[]),0)]
set_option maxRecDepth 100000 in
theorem q909_ok : rf_chkB q909_P q909_U wLay q909_M ddX12_wordOf [] [] [0] 600 q909_N = true := by decide +kernel
set_option maxHeartbeats 4000000 in
theorem q909_met {G : rfG} (h : okG G) (hh : wHandOK G) : rf_met G q909_M := rf_methodB h.1 (P := q909_P) (U := q909_U) (N := q909_N) ⟨wflT h flokX12, wcsT h csokX12, wlcT h lcokX12, spokX12 h, fun _ h => absurd h List.not_mem_nil, fun _ h => absurd h List.not_mem_nil, fun _ h => absurd h List.not_mem_nil, fun _ h => absurd h List.not_mem_nil, fun _ h => absurd h List.not_mem_nil⟩ dkX12_wordOf (by decide +kernel) (by rw [h.2.2.1]; exact q909_ok)
/-- NearSpellModel.doesFit -/
def q910_M : rfM := ((⟨"NearSpellModel", "doesFit", "(II)Z"⟩, prog_14_method_121_code, 4, (some .boolean)), (22,2043), ([.inr (.inl [114]),.inl ((0,1,1),none),.inl (((-2147483648),2147483647,1),none)],[((114,28),(0,0,0),none)]), [(94,0),(95,0),(96,0),(97,0),(114,45),(114,46)], [(some (.inl ((0,0,0),none)),[],[((114,44),(0,6,1),none),((114,45),(0,6,1),none),((114,63),(1,30,1),none)]),(some (.inl ((1,1,0),none)),[],[])])
def q910_P : rfP := (flX12,csX12,lcX12,spX12,[q907_M,q909_M,q684_M],[],[(408,2,12),(487,0,12),(490,1,12)],([],[]))
def q910_U : rfU := []
set_option maxHeartbeats 8000000 in
def q910_N : List rfB := [(0,([(0,.inr (.inl [114])),(1,.inl ((0,1,1),none)),(2,.inl (((-2147483648),2147483647,1),none))],[],[((114,28),(0,0,0),some ((114,28),0,0))]),(1467,[0]),0),
  (2,([(0,.inr (.inl [114])),(1,.inl ((0,1,1),none)),(2,.inl (((-2147483648),2147483647,1),none)),(3,.inl ((0,30,1),none))],[],[((114,28),(0,0,0),some ((114,28),0,0))]),(1463,[(-47)]),0),
  (68,([(0,.inr (.inl [114])),(1,.inl ((0,1,1),none)),(2,.inl (((-2147483648),2147483647,1),none)),(3,.inl ((0,29,1),none))],[],[((114,28),(0,0,0),some ((114,28),0,0)),((114,63),(1,30,1),none)]),(1419,[(-47)]),0),
  (66,([(0,.inr (.inl [114])),(1,.inl ((0,1,1),none)),(2,.inl (((-2147483648),2147483647,1),none)),(3,.inl ((0,29,1),none))],[],[((114,28),(0,0,0),some ((114,28),0,0)),((114,44),(0,6,1),none),((114,45),(0,6,1),none),((114,63),(1,30,1),none)]),(3,[0]),0)]
set_option maxRecDepth 100000 in
theorem q910_ok : rf_chkB q910_P q910_U wLay q910_M ddX12_doesFit [(13,[0]),(22,[1]),(31,[2])] [.inl 3] [0,2,66,68] 600 q910_N = true := by decide +kernel
set_option maxHeartbeats 4000000 in
theorem q910_met {G : rfG} (h : okG G) (hh : wHandOK G) : rf_met G q910_M := rf_methodB h.1 (P := q910_P) (U := q910_U) (N := q910_N) ⟨wflT h flokX12, wcsT h csokX12, wlcT h lcokX12, spokX12 h, List.forall_mem_cons.mpr ⟨q907_met h hh, List.forall_mem_cons.mpr ⟨q909_met h hh, List.forall_mem_cons.mpr ⟨q684_met h hh, fun _ h => absurd h List.not_mem_nil⟩⟩⟩, fun _ h => absurd h List.not_mem_nil, List.forall_mem_cons.mpr ⟨fun M hM => Option.some.inj (show some q684_M = some M from hM) ▸ wlkV (lkX12_408 h) q684_M rfl rfl, List.forall_mem_cons.mpr ⟨fun M hM => Option.some.inj (show some q907_M = some M from hM) ▸ wlkV (lkX12_487 h) q907_M rfl rfl, List.forall_mem_cons.mpr ⟨fun M hM => Option.some.inj (show some q909_M = some M from hM) ▸ wlkV (lkX12_490 h) q909_M rfl rfl, fun _ h => absurd h List.not_mem_nil⟩⟩⟩, fun _ h => absurd h List.not_mem_nil, fun _ h => absurd h List.not_mem_nil⟩ dkX12_doesFit (by decide +kernel) (by rw [h.2.2.1]; exact q910_ok)
/-- NearSpellModel.wordOf -/
def q911_M : rfM := ((⟨"NearSpellModel", "wordOf", "(I)I"⟩, prog_14_method_116_code, 2, (some .int)), (0,0), ([.inr (.inl [114]),.inl ((0,2,1),none)],[((114,28),(0,0,0),none)]), [], [(some (.inl ((0,387420488,1),none)),[],[])])
def q911_P : rfP := (flX12,csX12,lcX12,spX12,[],[],[],([],[]))
def q911_U : rfU := []
set_option maxHeartbeats 8000000 in
def q911_N : List rfB := [(0,([(0,.inr (.inl [114])),(1,.inl ((0,2,1),none))],[],[((114,28),(0,0,0),some ((114,28),0,0))]),(9,[]),0)]
set_option maxRecDepth 100000 in
theorem q911_ok : rf_chkB q911_P q911_U wLay q911_M ddX12_wordOf [] [] [0] 600 q911_N = true := by decide +kernel
set_option maxHeartbeats 4000000 in
theorem q911_met {G : rfG} (h : okG G) (hh : wHandOK G) : rf_met G q911_M := rf_methodB h.1 (P := q911_P) (U := q911_U) (N := q911_N) ⟨wflT h flokX12, wcsT h csokX12, wlcT h lcokX12, spokX12 h, fun _ h => absurd h List.not_mem_nil, fun _ h => absurd h List.not_mem_nil, fun _ h => absurd h List.not_mem_nil, fun _ h => absurd h List.not_mem_nil, fun _ h => absurd h List.not_mem_nil⟩ dkX12_wordOf (by decide +kernel) (by rw [h.2.2.1]; exact q911_ok)
/-- NearSpellModel.doesFit -/
def q912_M : rfM := ((⟨"NearSpellModel", "doesFit", "(II)Z"⟩, prog_14_method_121_code, 4, (some .boolean)), (22,2043), ([.inr (.inl [114]),.inl ((0,2,1),none),.inl (((-2147483648),2147483647,1),none)],[((114,28),(0,0,0),none)]), [(94,0),(95,0),(96,0),(97,0),(114,45),(114,46)], [(some (.inl ((0,0,0),none)),[],[((114,44),(0,6,1),none),((114,45),(0,6,1),none),((114,63),(1,30,1),none)]),(some (.inl ((1,1,0),none)),[],[])])
def q912_P : rfP := (flX12,csX12,lcX12,spX12,[q907_M,q911_M,q684_M],[],[(408,2,12),(487,0,12),(490,1,12)],([],[]))
def q912_U : rfU := []
set_option maxHeartbeats 8000000 in
def q912_N : List rfB := [(0,([(0,.inr (.inl [114])),(1,.inl ((0,2,1),none)),(2,.inl (((-2147483648),2147483647,1),none))],[],[((114,28),(0,0,0),some ((114,28),0,0))]),(1467,[0]),0),
  (2,([(0,.inr (.inl [114])),(1,.inl ((0,2,1),none)),(2,.inl (((-2147483648),2147483647,1),none)),(3,.inl ((0,30,1),none))],[],[((114,28),(0,0,0),some ((114,28),0,0))]),(1463,[(-47)]),0),
  (68,([(0,.inr (.inl [114])),(1,.inl ((0,2,1),none)),(2,.inl (((-2147483648),2147483647,1),none)),(3,.inl ((0,29,1),none))],[],[((114,28),(0,0,0),some ((114,28),0,0)),((114,63),(1,30,1),none)]),(1419,[(-47)]),0),
  (66,([(0,.inr (.inl [114])),(1,.inl ((0,2,1),none)),(2,.inl (((-2147483648),2147483647,1),none)),(3,.inl ((0,29,1),none))],[],[((114,28),(0,0,0),some ((114,28),0,0)),((114,44),(0,6,1),none),((114,45),(0,6,1),none),((114,63),(1,30,1),none)]),(3,[0]),0)]
set_option maxRecDepth 100000 in
theorem q912_ok : rf_chkB q912_P q912_U wLay q912_M ddX12_doesFit [(13,[0]),(22,[1]),(31,[2])] [.inl 3] [0,2,66,68] 600 q912_N = true := by decide +kernel
set_option maxHeartbeats 4000000 in
theorem q912_met {G : rfG} (h : okG G) (hh : wHandOK G) : rf_met G q912_M := rf_methodB h.1 (P := q912_P) (U := q912_U) (N := q912_N) ⟨wflT h flokX12, wcsT h csokX12, wlcT h lcokX12, spokX12 h, List.forall_mem_cons.mpr ⟨q907_met h hh, List.forall_mem_cons.mpr ⟨q911_met h hh, List.forall_mem_cons.mpr ⟨q684_met h hh, fun _ h => absurd h List.not_mem_nil⟩⟩⟩, fun _ h => absurd h List.not_mem_nil, List.forall_mem_cons.mpr ⟨fun M hM => Option.some.inj (show some q684_M = some M from hM) ▸ wlkV (lkX12_408 h) q684_M rfl rfl, List.forall_mem_cons.mpr ⟨fun M hM => Option.some.inj (show some q907_M = some M from hM) ▸ wlkV (lkX12_487 h) q907_M rfl rfl, List.forall_mem_cons.mpr ⟨fun M hM => Option.some.inj (show some q911_M = some M from hM) ▸ wlkV (lkX12_490 h) q911_M rfl rfl, fun _ h => absurd h List.not_mem_nil⟩⟩⟩, fun _ h => absurd h List.not_mem_nil, fun _ h => absurd h List.not_mem_nil⟩ dkX12_doesFit (by decide +kernel) (by rw [h.2.2.1]; exact q912_ok)
/-- NearSpellModel.wordOf -/
def q913_M : rfM := ((⟨"NearSpellModel", "wordOf", "(I)I"⟩, prog_14_method_116_code, 2, (some .int)), (0,0), ([.inr (.inl [114]),.inl ((0,3,1),none)],[((114,28),(0,0,0),none)]), [], [(some (.inl ((0,387420488,1),none)),[],[])])
def q913_P : rfP := (flX12,csX12,lcX12,spX12,[],[],[],([],[]))
def q913_U : rfU := []
set_option maxHeartbeats 8000000 in
def q913_N : List rfB := [(0,([(0,.inr (.inl [114])),(1,.inl ((0,3,1),none))],[],[((114,28),(0,0,0),some ((114,28),0,0))]),(9,[]),0)]
set_option maxRecDepth 100000 in
theorem q913_ok : rf_chkB q913_P q913_U wLay q913_M ddX12_wordOf [] [] [0] 600 q913_N = true := by decide +kernel
set_option maxHeartbeats 4000000 in
theorem q913_met {G : rfG} (h : okG G) (hh : wHandOK G) : rf_met G q913_M := rf_methodB h.1 (P := q913_P) (U := q913_U) (N := q913_N) ⟨wflT h flokX12, wcsT h csokX12, wlcT h lcokX12, spokX12 h, fun _ h => absurd h List.not_mem_nil, fun _ h => absurd h List.not_mem_nil, fun _ h => absurd h List.not_mem_nil, fun _ h => absurd h List.not_mem_nil, fun _ h => absurd h List.not_mem_nil⟩ dkX12_wordOf (by decide +kernel) (by rw [h.2.2.1]; exact q913_ok)
/-- NearSpellModel.doesFit -/
def q914_M : rfM := ((⟨"NearSpellModel", "doesFit", "(II)Z"⟩, prog_14_method_121_code, 4, (some .boolean)), (22,2043), ([.inr (.inl [114]),.inl ((0,3,1),none),.inl (((-2147483648),2147483647,1),none)],[((114,28),(0,0,0),none)]), [(94,0),(95,0),(96,0),(97,0),(114,45),(114,46)], [(some (.inl ((0,0,0),none)),[],[((114,44),(0,6,1),none),((114,45),(0,6,1),none),((114,63),(1,30,1),none)]),(some (.inl ((1,1,0),none)),[],[])])
def q914_P : rfP := (flX12,csX12,lcX12,spX12,[q907_M,q913_M,q684_M],[],[(408,2,12),(487,0,12),(490,1,12)],([],[]))
def q914_U : rfU := []
set_option maxHeartbeats 8000000 in
def q914_N : List rfB := [(0,([(0,.inr (.inl [114])),(1,.inl ((0,3,1),none)),(2,.inl (((-2147483648),2147483647,1),none))],[],[((114,28),(0,0,0),some ((114,28),0,0))]),(1467,[0]),0),
  (2,([(0,.inr (.inl [114])),(1,.inl ((0,3,1),none)),(2,.inl (((-2147483648),2147483647,1),none)),(3,.inl ((0,30,1),none))],[],[((114,28),(0,0,0),some ((114,28),0,0))]),(1463,[(-47)]),0),
  (68,([(0,.inr (.inl [114])),(1,.inl ((0,3,1),none)),(2,.inl (((-2147483648),2147483647,1),none)),(3,.inl ((0,29,1),none))],[],[((114,28),(0,0,0),some ((114,28),0,0)),((114,63),(1,30,1),none)]),(1419,[(-47)]),0),
  (66,([(0,.inr (.inl [114])),(1,.inl ((0,3,1),none)),(2,.inl (((-2147483648),2147483647,1),none)),(3,.inl ((0,29,1),none))],[],[((114,28),(0,0,0),some ((114,28),0,0)),((114,44),(0,6,1),none),((114,45),(0,6,1),none),((114,63),(1,30,1),none)]),(3,[0]),0)]
set_option maxRecDepth 100000 in
theorem q914_ok : rf_chkB q914_P q914_U wLay q914_M ddX12_doesFit [(13,[0]),(22,[1]),(31,[2])] [.inl 3] [0,2,66,68] 600 q914_N = true := by decide +kernel
set_option maxHeartbeats 4000000 in
theorem q914_met {G : rfG} (h : okG G) (hh : wHandOK G) : rf_met G q914_M := rf_methodB h.1 (P := q914_P) (U := q914_U) (N := q914_N) ⟨wflT h flokX12, wcsT h csokX12, wlcT h lcokX12, spokX12 h, List.forall_mem_cons.mpr ⟨q907_met h hh, List.forall_mem_cons.mpr ⟨q913_met h hh, List.forall_mem_cons.mpr ⟨q684_met h hh, fun _ h => absurd h List.not_mem_nil⟩⟩⟩, fun _ h => absurd h List.not_mem_nil, List.forall_mem_cons.mpr ⟨fun M hM => Option.some.inj (show some q684_M = some M from hM) ▸ wlkV (lkX12_408 h) q684_M rfl rfl, List.forall_mem_cons.mpr ⟨fun M hM => Option.some.inj (show some q907_M = some M from hM) ▸ wlkV (lkX12_487 h) q907_M rfl rfl, List.forall_mem_cons.mpr ⟨fun M hM => Option.some.inj (show some q913_M = some M from hM) ▸ wlkV (lkX12_490 h) q913_M rfl rfl, fun _ h => absurd h List.not_mem_nil⟩⟩⟩, fun _ h => absurd h List.not_mem_nil, fun _ h => absurd h List.not_mem_nil⟩ dkX12_doesFit (by decide +kernel) (by rw [h.2.2.1]; exact q914_ok)
/-- NearSpellModel.wordOf -/
def q915_M : rfM := ((⟨"NearSpellModel", "wordOf", "(I)I"⟩, prog_14_method_116_code, 2, (some .int)), (0,0), ([.inr (.inl [114]),.inl ((0,9,1),none)],[((114,28),(0,0,0),none)]), [], [(some (.inl ((0,387420488,1),none)),[],[])])
def q915_P : rfP := (flX12,csX12,lcX12,spX12,[],[],[],([],[]))
def q915_U : rfU := []
set_option maxHeartbeats 8000000 in
def q915_N : List rfB := [(0,([(0,.inr (.inl [114])),(1,.inl ((0,9,1),none))],[],[((114,28),(0,0,0),some ((114,28),0,0))]),(9,[]),0)]
set_option maxRecDepth 100000 in
theorem q915_ok : rf_chkB q915_P q915_U wLay q915_M ddX12_wordOf [] [] [0] 600 q915_N = true := by decide +kernel
set_option maxHeartbeats 4000000 in
theorem q915_met {G : rfG} (h : okG G) (hh : wHandOK G) : rf_met G q915_M := rf_methodB h.1 (P := q915_P) (U := q915_U) (N := q915_N) ⟨wflT h flokX12, wcsT h csokX12, wlcT h lcokX12, spokX12 h, fun _ h => absurd h List.not_mem_nil, fun _ h => absurd h List.not_mem_nil, fun _ h => absurd h List.not_mem_nil, fun _ h => absurd h List.not_mem_nil, fun _ h => absurd h List.not_mem_nil⟩ dkX12_wordOf (by decide +kernel) (by rw [h.2.2.1]; exact q915_ok)
/-- NearSpellModel.doesFit -/
def q916_M : rfM := ((⟨"NearSpellModel", "doesFit", "(II)Z"⟩, prog_14_method_121_code, 4, (some .boolean)), (22,2043), ([.inr (.inl [114]),.inl ((0,9,1),none),.inl (((-2147483648),2147483647,1),none)],[((114,28),(0,0,0),none)]), [(94,0),(95,0),(96,0),(97,0),(114,45),(114,46)], [(some (.inl ((0,0,0),none)),[],[((114,44),(0,6,1),none),((114,45),(0,6,1),none),((114,63),(1,30,1),none)]),(some (.inl ((1,1,0),none)),[],[])])
def q916_P : rfP := (flX12,csX12,lcX12,spX12,[q907_M,q915_M,q684_M],[],[(408,2,12),(487,0,12),(490,1,12)],([],[]))
def q916_U : rfU := []
set_option maxHeartbeats 8000000 in
def q916_N : List rfB := [(0,([(0,.inr (.inl [114])),(1,.inl ((0,9,1),none)),(2,.inl (((-2147483648),2147483647,1),none))],[],[((114,28),(0,0,0),some ((114,28),0,0))]),(1467,[0]),0),
  (2,([(0,.inr (.inl [114])),(1,.inl ((0,9,1),none)),(2,.inl (((-2147483648),2147483647,1),none)),(3,.inl ((0,30,1),none))],[],[((114,28),(0,0,0),some ((114,28),0,0))]),(1463,[(-47)]),0),
  (68,([(0,.inr (.inl [114])),(1,.inl ((0,9,1),none)),(2,.inl (((-2147483648),2147483647,1),none)),(3,.inl ((0,29,1),none))],[],[((114,28),(0,0,0),some ((114,28),0,0)),((114,63),(1,30,1),none)]),(1419,[(-47)]),0),
  (66,([(0,.inr (.inl [114])),(1,.inl ((0,9,1),none)),(2,.inl (((-2147483648),2147483647,1),none)),(3,.inl ((0,29,1),none))],[],[((114,28),(0,0,0),some ((114,28),0,0)),((114,44),(0,6,1),none),((114,45),(0,6,1),none),((114,63),(1,30,1),none)]),(3,[0]),0)]
set_option maxRecDepth 100000 in
theorem q916_ok : rf_chkB q916_P q916_U wLay q916_M ddX12_doesFit [(13,[0]),(22,[1]),(31,[2])] [.inl 3] [0,2,66,68] 600 q916_N = true := by decide +kernel
set_option maxHeartbeats 4000000 in
theorem q916_met {G : rfG} (h : okG G) (hh : wHandOK G) : rf_met G q916_M := rf_methodB h.1 (P := q916_P) (U := q916_U) (N := q916_N) ⟨wflT h flokX12, wcsT h csokX12, wlcT h lcokX12, spokX12 h, List.forall_mem_cons.mpr ⟨q907_met h hh, List.forall_mem_cons.mpr ⟨q915_met h hh, List.forall_mem_cons.mpr ⟨q684_met h hh, fun _ h => absurd h List.not_mem_nil⟩⟩⟩, fun _ h => absurd h List.not_mem_nil, List.forall_mem_cons.mpr ⟨fun M hM => Option.some.inj (show some q684_M = some M from hM) ▸ wlkV (lkX12_408 h) q684_M rfl rfl, List.forall_mem_cons.mpr ⟨fun M hM => Option.some.inj (show some q907_M = some M from hM) ▸ wlkV (lkX12_487 h) q907_M rfl rfl, List.forall_mem_cons.mpr ⟨fun M hM => Option.some.inj (show some q915_M = some M from hM) ▸ wlkV (lkX12_490 h) q915_M rfl rfl, fun _ h => absurd h List.not_mem_nil⟩⟩⟩, fun _ h => absurd h List.not_mem_nil, fun _ h => absurd h List.not_mem_nil⟩ dkX12_doesFit (by decide +kernel) (by rw [h.2.2.1]; exact q916_ok)
/-- NearSpellModel.fits -/
def q917_M : rfM := ((⟨"NearSpellModel", "fits", "(I)I"⟩, prog_14_method_122_code, 4, (some .int)), (23,2066), ([.inr (.inl [114]),.inl (((-2147483648),2147483647,1),none)],[((114,28),(0,0,0),none)]), [(94,0),(95,0),(96,0),(97,0),(114,45),(114,46)], [(some (.inl ((0,2147483647,1),none)),[],[])])
def ddX12_fits : List (Nat × Instr × Nat) := [(0,.iconst 0,1),(1,.istore_n 2,1),(2,.iconst 0,1),(3,.istore_n 3,1),(4,.iload_n 3,1),(5,.aload_n 0,1),(6,.getfield 20,3),(9,.aload_n 0,1),(10,.getfield 242,3),(13,.iaload,1),(14,.if_icmp .ge 24,3),(17,.aload_n 0,1),(18,.iload_n 3,1),(19,.iload_n 1,1),(20,.invokevirtual 493,3),(23,.ifCond .eq 9,3),(26,.iload_n 2,1),(27,.iconst 1,1),(28,.iload_n 3,1),(29,.ishl,1),(30,.ior,1),(31,.istore_n 2,1),(32,.iinc 3 1,3),(35,.goto (-31),3),(38,.iload_n 2,1),(39,.ireturn,1)]
set_option maxRecDepth 100000 in
theorem dkX12_fits : rf_decs prog_14_method_122_code ddX12_fits := rf_decs_of (by decide +kernel)
def q917_P : rfP := (flX12,csX12,lcX12,spX12,[q916_M],[],[(493,0,12)],([],[]))
def q917_U : rfU := []
set_option maxHeartbeats 8000000 in
def q917_N : List rfB := [(0,([(0,.inr (.inl [114])),(1,.inl (((-2147483648),2147483647,1),none))],[],[((114,28),(0,0,0),some ((114,28),0,0))]),(247,[0]),0),
  (4,([(0,.inr (.inl [114])),(1,.inl (((-2147483648),2147483647,1),none)),(2,.inl ((0,2147483647,1),none)),(3,.inl ((0,10,1),none))],[],[((114,28),(0,0,0),some ((114,28),0,0))]),(241,[(-22)]),0),
  (32,([(0,.inr (.inl [114])),(1,.inl (((-2147483648),2147483647,1),none)),(2,.inl ((0,2147483647,1),none)),(3,.inl ((0,9,1),none))],[],[((73,0),(1,10,1),none),((114,28),(0,0,0),some ((114,28),0,0))]),(222,[(-22)]),0)]
set_option maxRecDepth 100000 in
theorem q917_ok : rf_chkB q917_P q917_U wLay q917_M ddX12_fits [(20,[0])] [.inl 3] [0,4,32] 600 q917_N = true := by decide +kernel
set_option maxHeartbeats 4000000 in
theorem q917_met {G : rfG} (h : okG G) (hh : wHandOK G) : rf_met G q917_M := rf_methodB h.1 (P := q917_P) (U := q917_U) (N := q917_N) ⟨wflT h flokX12, wcsT h csokX12, wlcT h lcokX12, spokX12 h, List.forall_mem_cons.mpr ⟨q916_met h hh, fun _ h => absurd h List.not_mem_nil⟩, fun _ h => absurd h List.not_mem_nil, List.forall_mem_cons.mpr ⟨fun M hM => Option.some.inj (show some q916_M = some M from hM) ▸ wlkV (lkX12_493 h) q916_M rfl rfl, fun _ h => absurd h List.not_mem_nil⟩, fun _ h => absurd h List.not_mem_nil, fun _ h => absurd h List.not_mem_nil⟩ dkX12_fits (by decide +kernel) (by rw [h.2.2.1]; exact q917_ok)
/-- NearSpellModel.wordOf -/
def q918_M : rfM := ((⟨"NearSpellModel", "wordOf", "(I)I"⟩, prog_14_method_116_code, 2, (some .int)), (0,0), ([.inr (.inl [114]),.inl ((0,0,0),none)],[((114,28),(1,1,0),none)]), [], [(some (.inl ((0,387420488,1),none)),[],[])])
def q918_P : rfP := (flX12,csX12,lcX12,spX12,[],[],[],([],[]))
def q918_U : rfU := []
set_option maxHeartbeats 8000000 in
def q918_N : List rfB := [(0,([(0,.inr (.inl [114])),(1,.inl ((0,0,0),none))],[],[((114,28),(1,1,0),some ((114,28),0,0))]),(9,[]),0)]
set_option maxRecDepth 100000 in
theorem q918_ok : rf_chkB q918_P q918_U wLay q918_M ddX12_wordOf [] [] [0] 600 q918_N = true := by decide +kernel
set_option maxHeartbeats 4000000 in
theorem q918_met {G : rfG} (h : okG G) (hh : wHandOK G) : rf_met G q918_M := rf_methodB h.1 (P := q918_P) (U := q918_U) (N := q918_N) ⟨wflT h flokX12, wcsT h csokX12, wlcT h lcokX12, spokX12 h, fun _ h => absurd h List.not_mem_nil, fun _ h => absurd h List.not_mem_nil, fun _ h => absurd h List.not_mem_nil, fun _ h => absurd h List.not_mem_nil, fun _ h => absurd h List.not_mem_nil⟩ dkX12_wordOf (by decide +kernel) (by rw [h.2.2.1]; exact q918_ok)
/-- NearSpellModel.doesFit -/
def q919_M : rfM := ((⟨"NearSpellModel", "doesFit", "(II)Z"⟩, prog_14_method_121_code, 4, (some .boolean)), (22,2043), ([.inr (.inl [114]),.inl ((0,0,0),none),.inl (((-2147483648),2147483647,1),none)],[((114,28),(1,1,0),none)]), [(94,0),(95,0),(96,0),(97,0),(114,45),(114,46)], [(some (.inl ((0,0,0),none)),[],[((114,44),(0,6,1),none),((114,45),(0,6,1),none),((114,63),(1,30,1),none)]),(some (.inl ((1,1,0),none)),[],[])])
def q919_P : rfP := (flX12,csX12,lcX12,spX12,[q907_M,q918_M,q684_M],[],[(408,2,12),(487,0,12),(490,1,12)],([],[]))
def q919_U : rfU := []
set_option maxHeartbeats 8000000 in
def q919_N : List rfB := [(0,([(0,.inr (.inl [114])),(1,.inl ((0,0,0),none)),(2,.inl (((-2147483648),2147483647,1),none))],[],[((114,28),(1,1,0),some ((114,28),0,0))]),(1467,[0]),0),
  (2,([(0,.inr (.inl [114])),(1,.inl ((0,0,0),none)),(2,.inl (((-2147483648),2147483647,1),none)),(3,.inl ((0,30,1),none))],[],[((114,28),(1,1,0),some ((114,28),0,0))]),(1463,[(-47)]),0),
  (68,([(0,.inr (.inl [114])),(1,.inl ((0,0,0),none)),(2,.inl (((-2147483648),2147483647,1),none)),(3,.inl ((0,29,1),none))],[],[((114,28),(1,1,0),some ((114,28),0,0)),((114,63),(1,30,1),none)]),(1419,[(-47)]),0),
  (66,([(0,.inr (.inl [114])),(1,.inl ((0,0,0),none)),(2,.inl (((-2147483648),2147483647,1),none)),(3,.inl ((0,29,1),none))],[],[((114,28),(1,1,0),some ((114,28),0,0)),((114,44),(0,6,1),none),((114,45),(0,6,1),none),((114,63),(1,30,1),none)]),(3,[0]),0)]
set_option maxRecDepth 100000 in
theorem q919_ok : rf_chkB q919_P q919_U wLay q919_M ddX12_doesFit [(13,[0]),(22,[1]),(31,[2])] [.inl 3] [0,2,66,68] 600 q919_N = true := by decide +kernel
set_option maxHeartbeats 4000000 in
theorem q919_met {G : rfG} (h : okG G) (hh : wHandOK G) : rf_met G q919_M := rf_methodB h.1 (P := q919_P) (U := q919_U) (N := q919_N) ⟨wflT h flokX12, wcsT h csokX12, wlcT h lcokX12, spokX12 h, List.forall_mem_cons.mpr ⟨q907_met h hh, List.forall_mem_cons.mpr ⟨q918_met h hh, List.forall_mem_cons.mpr ⟨q684_met h hh, fun _ h => absurd h List.not_mem_nil⟩⟩⟩, fun _ h => absurd h List.not_mem_nil, List.forall_mem_cons.mpr ⟨fun M hM => Option.some.inj (show some q684_M = some M from hM) ▸ wlkV (lkX12_408 h) q684_M rfl rfl, List.forall_mem_cons.mpr ⟨fun M hM => Option.some.inj (show some q907_M = some M from hM) ▸ wlkV (lkX12_487 h) q907_M rfl rfl, List.forall_mem_cons.mpr ⟨fun M hM => Option.some.inj (show some q918_M = some M from hM) ▸ wlkV (lkX12_490 h) q918_M rfl rfl, fun _ h => absurd h List.not_mem_nil⟩⟩⟩, fun _ h => absurd h List.not_mem_nil, fun _ h => absurd h List.not_mem_nil⟩ dkX12_doesFit (by decide +kernel) (by rw [h.2.2.1]; exact q919_ok)
/-- NearSpellModel.wordOf -/
def q920_M : rfM := ((⟨"NearSpellModel", "wordOf", "(I)I"⟩, prog_14_method_116_code, 2, (some .int)), (0,0), ([.inr (.inl [114]),.inl ((0,1,1),none)],[((114,28),(1,1,0),none)]), [], [(some (.inl ((0,387420488,1),none)),[],[])])
def q920_P : rfP := (flX12,csX12,lcX12,spX12,[],[],[],([],[]))
def q920_U : rfU := []
set_option maxHeartbeats 8000000 in
def q920_N : List rfB := [(0,([(0,.inr (.inl [114])),(1,.inl ((0,1,1),none))],[],[((114,28),(1,1,0),some ((114,28),0,0))]),(9,[]),0)]
set_option maxRecDepth 100000 in
theorem q920_ok : rf_chkB q920_P q920_U wLay q920_M ddX12_wordOf [] [] [0] 600 q920_N = true := by decide +kernel
set_option maxHeartbeats 4000000 in
theorem q920_met {G : rfG} (h : okG G) (hh : wHandOK G) : rf_met G q920_M := rf_methodB h.1 (P := q920_P) (U := q920_U) (N := q920_N) ⟨wflT h flokX12, wcsT h csokX12, wlcT h lcokX12, spokX12 h, fun _ h => absurd h List.not_mem_nil, fun _ h => absurd h List.not_mem_nil, fun _ h => absurd h List.not_mem_nil, fun _ h => absurd h List.not_mem_nil, fun _ h => absurd h List.not_mem_nil⟩ dkX12_wordOf (by decide +kernel) (by rw [h.2.2.1]; exact q920_ok)
/-- NearSpellModel.doesFit -/
def q921_M : rfM := ((⟨"NearSpellModel", "doesFit", "(II)Z"⟩, prog_14_method_121_code, 4, (some .boolean)), (22,2043), ([.inr (.inl [114]),.inl ((0,1,1),none),.inl (((-2147483648),2147483647,1),none)],[((114,28),(1,1,0),none)]), [(94,0),(95,0),(96,0),(97,0),(114,45),(114,46)], [(some (.inl ((0,0,0),none)),[],[((114,44),(0,6,1),none),((114,45),(0,6,1),none),((114,63),(1,30,1),none)]),(some (.inl ((1,1,0),none)),[],[])])
def q921_P : rfP := (flX12,csX12,lcX12,spX12,[q907_M,q920_M,q684_M],[],[(408,2,12),(487,0,12),(490,1,12)],([],[]))
def q921_U : rfU := []
set_option maxHeartbeats 8000000 in
def q921_N : List rfB := [(0,([(0,.inr (.inl [114])),(1,.inl ((0,1,1),none)),(2,.inl (((-2147483648),2147483647,1),none))],[],[((114,28),(1,1,0),some ((114,28),0,0))]),(1467,[0]),0),
  (2,([(0,.inr (.inl [114])),(1,.inl ((0,1,1),none)),(2,.inl (((-2147483648),2147483647,1),none)),(3,.inl ((0,30,1),none))],[],[((114,28),(1,1,0),some ((114,28),0,0))]),(1463,[(-47)]),0),
  (68,([(0,.inr (.inl [114])),(1,.inl ((0,1,1),none)),(2,.inl (((-2147483648),2147483647,1),none)),(3,.inl ((0,29,1),none))],[],[((114,28),(1,1,0),some ((114,28),0,0)),((114,63),(1,30,1),none)]),(1419,[(-47)]),0),
  (66,([(0,.inr (.inl [114])),(1,.inl ((0,1,1),none)),(2,.inl (((-2147483648),2147483647,1),none)),(3,.inl ((0,29,1),none))],[],[((114,28),(1,1,0),some ((114,28),0,0)),((114,44),(0,6,1),none),((114,45),(0,6,1),none),((114,63),(1,30,1),none)]),(3,[0]),0)]
set_option maxRecDepth 100000 in
theorem q921_ok : rf_chkB q921_P q921_U wLay q921_M ddX12_doesFit [(13,[0]),(22,[1]),(31,[2])] [.inl 3] [0,2,66,68] 600 q921_N = true := by decide +kernel
set_option maxHeartbeats 4000000 in
theorem q921_met {G : rfG} (h : okG G) (hh : wHandOK G) : rf_met G q921_M := rf_methodB h.1 (P := q921_P) (U := q921_U) (N := q921_N) ⟨wflT h flokX12, wcsT h csokX12, wlcT h lcokX12, spokX12 h, List.forall_mem_cons.mpr ⟨q907_met h hh, List.forall_mem_cons.mpr ⟨q920_met h hh, List.forall_mem_cons.mpr ⟨q684_met h hh, fun _ h => absurd h List.not_mem_nil⟩⟩⟩, fun _ h => absurd h List.not_mem_nil, List.forall_mem_cons.mpr ⟨fun M hM => Option.some.inj (show some q684_M = some M from hM) ▸ wlkV (lkX12_408 h) q684_M rfl rfl, List.forall_mem_cons.mpr ⟨fun M hM => Option.some.inj (show some q907_M = some M from hM) ▸ wlkV (lkX12_487 h) q907_M rfl rfl, List.forall_mem_cons.mpr ⟨fun M hM => Option.some.inj (show some q920_M = some M from hM) ▸ wlkV (lkX12_490 h) q920_M rfl rfl, fun _ h => absurd h List.not_mem_nil⟩⟩⟩, fun _ h => absurd h List.not_mem_nil, fun _ h => absurd h List.not_mem_nil⟩ dkX12_doesFit (by decide +kernel) (by rw [h.2.2.1]; exact q921_ok)
/-- NearSpellModel.wordOf -/
def q922_M : rfM := ((⟨"NearSpellModel", "wordOf", "(I)I"⟩, prog_14_method_116_code, 2, (some .int)), (0,0), ([.inr (.inl [114]),.inl ((0,2,1),none)],[((114,28),(1,1,0),none)]), [], [(some (.inl ((0,387420488,1),none)),[],[])])
def q922_P : rfP := (flX12,csX12,lcX12,spX12,[],[],[],([],[]))
def q922_U : rfU := []
set_option maxHeartbeats 8000000 in
def q922_N : List rfB := [(0,([(0,.inr (.inl [114])),(1,.inl ((0,2,1),none))],[],[((114,28),(1,1,0),some ((114,28),0,0))]),(9,[]),0)]
set_option maxRecDepth 100000 in
theorem q922_ok : rf_chkB q922_P q922_U wLay q922_M ddX12_wordOf [] [] [0] 600 q922_N = true := by decide +kernel
set_option maxHeartbeats 4000000 in
theorem q922_met {G : rfG} (h : okG G) (hh : wHandOK G) : rf_met G q922_M := rf_methodB h.1 (P := q922_P) (U := q922_U) (N := q922_N) ⟨wflT h flokX12, wcsT h csokX12, wlcT h lcokX12, spokX12 h, fun _ h => absurd h List.not_mem_nil, fun _ h => absurd h List.not_mem_nil, fun _ h => absurd h List.not_mem_nil, fun _ h => absurd h List.not_mem_nil, fun _ h => absurd h List.not_mem_nil⟩ dkX12_wordOf (by decide +kernel) (by rw [h.2.2.1]; exact q922_ok)
/-- NearSpellModel.doesFit -/
def q923_M : rfM := ((⟨"NearSpellModel", "doesFit", "(II)Z"⟩, prog_14_method_121_code, 4, (some .boolean)), (22,2043), ([.inr (.inl [114]),.inl ((0,2,1),none),.inl (((-2147483648),2147483647,1),none)],[((114,28),(1,1,0),none)]), [(94,0),(95,0),(96,0),(97,0),(114,45),(114,46)], [(some (.inl ((0,0,0),none)),[],[((114,44),(0,6,1),none),((114,45),(0,6,1),none),((114,63),(1,30,1),none)]),(some (.inl ((1,1,0),none)),[],[])])
def q923_P : rfP := (flX12,csX12,lcX12,spX12,[q907_M,q922_M,q684_M],[],[(408,2,12),(487,0,12),(490,1,12)],([],[]))
def q923_U : rfU := []
set_option maxHeartbeats 8000000 in
def q923_N : List rfB := [(0,([(0,.inr (.inl [114])),(1,.inl ((0,2,1),none)),(2,.inl (((-2147483648),2147483647,1),none))],[],[((114,28),(1,1,0),some ((114,28),0,0))]),(1467,[0]),0),
  (2,([(0,.inr (.inl [114])),(1,.inl ((0,2,1),none)),(2,.inl (((-2147483648),2147483647,1),none)),(3,.inl ((0,30,1),none))],[],[((114,28),(1,1,0),some ((114,28),0,0))]),(1463,[(-47)]),0),
  (68,([(0,.inr (.inl [114])),(1,.inl ((0,2,1),none)),(2,.inl (((-2147483648),2147483647,1),none)),(3,.inl ((0,29,1),none))],[],[((114,28),(1,1,0),some ((114,28),0,0)),((114,63),(1,30,1),none)]),(1419,[(-47)]),0),
  (66,([(0,.inr (.inl [114])),(1,.inl ((0,2,1),none)),(2,.inl (((-2147483648),2147483647,1),none)),(3,.inl ((0,29,1),none))],[],[((114,28),(1,1,0),some ((114,28),0,0)),((114,44),(0,6,1),none),((114,45),(0,6,1),none),((114,63),(1,30,1),none)]),(3,[0]),0)]
set_option maxRecDepth 100000 in
theorem q923_ok : rf_chkB q923_P q923_U wLay q923_M ddX12_doesFit [(13,[0]),(22,[1]),(31,[2])] [.inl 3] [0,2,66,68] 600 q923_N = true := by decide +kernel
set_option maxHeartbeats 4000000 in
theorem q923_met {G : rfG} (h : okG G) (hh : wHandOK G) : rf_met G q923_M := rf_methodB h.1 (P := q923_P) (U := q923_U) (N := q923_N) ⟨wflT h flokX12, wcsT h csokX12, wlcT h lcokX12, spokX12 h, List.forall_mem_cons.mpr ⟨q907_met h hh, List.forall_mem_cons.mpr ⟨q922_met h hh, List.forall_mem_cons.mpr ⟨q684_met h hh, fun _ h => absurd h List.not_mem_nil⟩⟩⟩, fun _ h => absurd h List.not_mem_nil, List.forall_mem_cons.mpr ⟨fun M hM => Option.some.inj (show some q684_M = some M from hM) ▸ wlkV (lkX12_408 h) q684_M rfl rfl, List.forall_mem_cons.mpr ⟨fun M hM => Option.some.inj (show some q907_M = some M from hM) ▸ wlkV (lkX12_487 h) q907_M rfl rfl, List.forall_mem_cons.mpr ⟨fun M hM => Option.some.inj (show some q922_M = some M from hM) ▸ wlkV (lkX12_490 h) q922_M rfl rfl, fun _ h => absurd h List.not_mem_nil⟩⟩⟩, fun _ h => absurd h List.not_mem_nil, fun _ h => absurd h List.not_mem_nil⟩ dkX12_doesFit (by decide +kernel) (by rw [h.2.2.1]; exact q923_ok)
/-- NearSpellModel.wordOf -/
def q924_M : rfM := ((⟨"NearSpellModel", "wordOf", "(I)I"⟩, prog_14_method_116_code, 2, (some .int)), (0,0), ([.inr (.inl [114]),.inl ((0,3,1),none)],[((114,28),(1,1,0),none)]), [], [(some (.inl ((0,387420488,1),none)),[],[])])
def q924_P : rfP := (flX12,csX12,lcX12,spX12,[],[],[],([],[]))
def q924_U : rfU := []
set_option maxHeartbeats 8000000 in
def q924_N : List rfB := [(0,([(0,.inr (.inl [114])),(1,.inl ((0,3,1),none))],[],[((114,28),(1,1,0),some ((114,28),0,0))]),(9,[]),0)]
set_option maxRecDepth 100000 in
theorem q924_ok : rf_chkB q924_P q924_U wLay q924_M ddX12_wordOf [] [] [0] 600 q924_N = true := by decide +kernel
set_option maxHeartbeats 4000000 in
theorem q924_met {G : rfG} (h : okG G) (hh : wHandOK G) : rf_met G q924_M := rf_methodB h.1 (P := q924_P) (U := q924_U) (N := q924_N) ⟨wflT h flokX12, wcsT h csokX12, wlcT h lcokX12, spokX12 h, fun _ h => absurd h List.not_mem_nil, fun _ h => absurd h List.not_mem_nil, fun _ h => absurd h List.not_mem_nil, fun _ h => absurd h List.not_mem_nil, fun _ h => absurd h List.not_mem_nil⟩ dkX12_wordOf (by decide +kernel) (by rw [h.2.2.1]; exact q924_ok)
/-- NearSpellModel.doesFit -/
def q925_M : rfM := ((⟨"NearSpellModel", "doesFit", "(II)Z"⟩, prog_14_method_121_code, 4, (some .boolean)), (22,2043), ([.inr (.inl [114]),.inl ((0,3,1),none),.inl (((-2147483648),2147483647,1),none)],[((114,28),(1,1,0),none)]), [(94,0),(95,0),(96,0),(97,0),(114,45),(114,46)], [(some (.inl ((0,0,0),none)),[],[((114,44),(0,6,1),none),((114,45),(0,6,1),none),((114,63),(1,30,1),none)]),(some (.inl ((1,1,0),none)),[],[])])
def q925_P : rfP := (flX12,csX12,lcX12,spX12,[q907_M,q924_M,q684_M],[],[(408,2,12),(487,0,12),(490,1,12)],([],[]))
def q925_U : rfU := []
set_option maxHeartbeats 8000000 in
def q925_N : List rfB := [(0,([(0,.inr (.inl [114])),(1,.inl ((0,3,1),none)),(2,.inl (((-2147483648),2147483647,1),none))],[],[((114,28),(1,1,0),some ((114,28),0,0))]),(1467,[0]),0),
  (2,([(0,.inr (.inl [114])),(1,.inl ((0,3,1),none)),(2,.inl (((-2147483648),2147483647,1),none)),(3,.inl ((0,30,1),none))],[],[((114,28),(1,1,0),some ((114,28),0,0))]),(1463,[(-47)]),0),
  (68,([(0,.inr (.inl [114])),(1,.inl ((0,3,1),none)),(2,.inl (((-2147483648),2147483647,1),none)),(3,.inl ((0,29,1),none))],[],[((114,28),(1,1,0),some ((114,28),0,0)),((114,63),(1,30,1),none)]),(1419,[(-47)]),0),
  (66,([(0,.inr (.inl [114])),(1,.inl ((0,3,1),none)),(2,.inl (((-2147483648),2147483647,1),none)),(3,.inl ((0,29,1),none))],[],[((114,28),(1,1,0),some ((114,28),0,0)),((114,44),(0,6,1),none),((114,45),(0,6,1),none),((114,63),(1,30,1),none)]),(3,[0]),0)]
set_option maxRecDepth 100000 in
theorem q925_ok : rf_chkB q925_P q925_U wLay q925_M ddX12_doesFit [(13,[0]),(22,[1]),(31,[2])] [.inl 3] [0,2,66,68] 600 q925_N = true := by decide +kernel
set_option maxHeartbeats 4000000 in
theorem q925_met {G : rfG} (h : okG G) (hh : wHandOK G) : rf_met G q925_M := rf_methodB h.1 (P := q925_P) (U := q925_U) (N := q925_N) ⟨wflT h flokX12, wcsT h csokX12, wlcT h lcokX12, spokX12 h, List.forall_mem_cons.mpr ⟨q907_met h hh, List.forall_mem_cons.mpr ⟨q924_met h hh, List.forall_mem_cons.mpr ⟨q684_met h hh, fun _ h => absurd h List.not_mem_nil⟩⟩⟩, fun _ h => absurd h List.not_mem_nil, List.forall_mem_cons.mpr ⟨fun M hM => Option.some.inj (show some q684_M = some M from hM) ▸ wlkV (lkX12_408 h) q684_M rfl rfl, List.forall_mem_cons.mpr ⟨fun M hM => Option.some.inj (show some q907_M = some M from hM) ▸ wlkV (lkX12_487 h) q907_M rfl rfl, List.forall_mem_cons.mpr ⟨fun M hM => Option.some.inj (show some q924_M = some M from hM) ▸ wlkV (lkX12_490 h) q924_M rfl rfl, fun _ h => absurd h List.not_mem_nil⟩⟩⟩, fun _ h => absurd h List.not_mem_nil, fun _ h => absurd h List.not_mem_nil⟩ dkX12_doesFit (by decide +kernel) (by rw [h.2.2.1]; exact q925_ok)
/-- NearSpellModel.wordOf -/
def q926_M : rfM := ((⟨"NearSpellModel", "wordOf", "(I)I"⟩, prog_14_method_116_code, 2, (some .int)), (0,0), ([.inr (.inl [114]),.inl ((0,9,1),none)],[((114,28),(1,1,0),none)]), [], [(some (.inl ((0,387420488,1),none)),[],[])])
def q926_P : rfP := (flX12,csX12,lcX12,spX12,[],[],[],([],[]))
def q926_U : rfU := []
set_option maxHeartbeats 8000000 in
def q926_N : List rfB := [(0,([(0,.inr (.inl [114])),(1,.inl ((0,9,1),none))],[],[((114,28),(1,1,0),some ((114,28),0,0))]),(9,[]),0)]
set_option maxRecDepth 100000 in
theorem q926_ok : rf_chkB q926_P q926_U wLay q926_M ddX12_wordOf [] [] [0] 600 q926_N = true := by decide +kernel
set_option maxHeartbeats 4000000 in
theorem q926_met {G : rfG} (h : okG G) (hh : wHandOK G) : rf_met G q926_M := rf_methodB h.1 (P := q926_P) (U := q926_U) (N := q926_N) ⟨wflT h flokX12, wcsT h csokX12, wlcT h lcokX12, spokX12 h, fun _ h => absurd h List.not_mem_nil, fun _ h => absurd h List.not_mem_nil, fun _ h => absurd h List.not_mem_nil, fun _ h => absurd h List.not_mem_nil, fun _ h => absurd h List.not_mem_nil⟩ dkX12_wordOf (by decide +kernel) (by rw [h.2.2.1]; exact q926_ok)
/-- NearSpellModel.doesFit -/
def q927_M : rfM := ((⟨"NearSpellModel", "doesFit", "(II)Z"⟩, prog_14_method_121_code, 4, (some .boolean)), (22,2043), ([.inr (.inl [114]),.inl ((0,9,1),none),.inl (((-2147483648),2147483647,1),none)],[((114,28),(1,1,0),none)]), [(94,0),(95,0),(96,0),(97,0),(114,45),(114,46)], [(some (.inl ((0,0,0),none)),[],[((114,44),(0,6,1),none),((114,45),(0,6,1),none),((114,63),(1,30,1),none)]),(some (.inl ((1,1,0),none)),[],[])])
def q927_P : rfP := (flX12,csX12,lcX12,spX12,[q907_M,q926_M,q684_M],[],[(408,2,12),(487,0,12),(490,1,12)],([],[]))
def q927_U : rfU := []
set_option maxHeartbeats 8000000 in
def q927_N : List rfB := [(0,([(0,.inr (.inl [114])),(1,.inl ((0,9,1),none)),(2,.inl (((-2147483648),2147483647,1),none))],[],[((114,28),(1,1,0),some ((114,28),0,0))]),(1467,[0]),0),
  (2,([(0,.inr (.inl [114])),(1,.inl ((0,9,1),none)),(2,.inl (((-2147483648),2147483647,1),none)),(3,.inl ((0,30,1),none))],[],[((114,28),(1,1,0),some ((114,28),0,0))]),(1463,[(-47)]),0),
  (68,([(0,.inr (.inl [114])),(1,.inl ((0,9,1),none)),(2,.inl (((-2147483648),2147483647,1),none)),(3,.inl ((0,29,1),none))],[],[((114,28),(1,1,0),some ((114,28),0,0)),((114,63),(1,30,1),none)]),(1419,[(-47)]),0),
  (66,([(0,.inr (.inl [114])),(1,.inl ((0,9,1),none)),(2,.inl (((-2147483648),2147483647,1),none)),(3,.inl ((0,29,1),none))],[],[((114,28),(1,1,0),some ((114,28),0,0)),((114,44),(0,6,1),none),((114,45),(0,6,1),none),((114,63),(1,30,1),none)]),(3,[0]),0)]
set_option maxRecDepth 100000 in
theorem q927_ok : rf_chkB q927_P q927_U wLay q927_M ddX12_doesFit [(13,[0]),(22,[1]),(31,[2])] [.inl 3] [0,2,66,68] 600 q927_N = true := by decide +kernel
set_option maxHeartbeats 4000000 in
theorem q927_met {G : rfG} (h : okG G) (hh : wHandOK G) : rf_met G q927_M := rf_methodB h.1 (P := q927_P) (U := q927_U) (N := q927_N) ⟨wflT h flokX12, wcsT h csokX12, wlcT h lcokX12, spokX12 h, List.forall_mem_cons.mpr ⟨q907_met h hh, List.forall_mem_cons.mpr ⟨q926_met h hh, List.forall_mem_cons.mpr ⟨q684_met h hh, fun _ h => absurd h List.not_mem_nil⟩⟩⟩, fun _ h => absurd h List.not_mem_nil, List.forall_mem_cons.mpr ⟨fun M hM => Option.some.inj (show some q684_M = some M from hM) ▸ wlkV (lkX12_408 h) q684_M rfl rfl, List.forall_mem_cons.mpr ⟨fun M hM => Option.some.inj (show some q907_M = some M from hM) ▸ wlkV (lkX12_487 h) q907_M rfl rfl, List.forall_mem_cons.mpr ⟨fun M hM => Option.some.inj (show some q926_M = some M from hM) ▸ wlkV (lkX12_490 h) q926_M rfl rfl, fun _ h => absurd h List.not_mem_nil⟩⟩⟩, fun _ h => absurd h List.not_mem_nil, fun _ h => absurd h List.not_mem_nil⟩ dkX12_doesFit (by decide +kernel) (by rw [h.2.2.1]; exact q927_ok)
/-- NearSpellModel.fits -/
def q928_M : rfM := ((⟨"NearSpellModel", "fits", "(I)I"⟩, prog_14_method_122_code, 4, (some .int)), (23,2066), ([.inr (.inl [114]),.inl (((-2147483648),2147483647,1),none)],[((77,1),(1,31,1),none),((114,28),(1,1,0),none)]), [(94,0),(95,0),(96,0),(97,0),(114,45),(114,46)], [(some (.inl ((0,2147483647,1),none)),[],[])])
def q928_P : rfP := (flX12,csX12,lcX12,spX12,[q927_M],[],[(493,0,12)],([],[]))
def q928_U : rfU := []
set_option maxHeartbeats 8000000 in
def q928_N : List rfB := [(0,([(0,.inr (.inl [114])),(1,.inl (((-2147483648),2147483647,1),none))],[],[((77,1),(1,31,1),some ((77,1),0,0)),((114,28),(1,1,0),some ((114,28),0,0))]),(247,[0]),0),
  (4,([(0,.inr (.inl [114])),(1,.inl (((-2147483648),2147483647,1),none)),(2,.inl ((0,2147483647,1),none)),(3,.inl ((0,10,1),none))],[],[((77,1),(1,31,1),some ((77,1),0,0)),((114,28),(1,1,0),some ((114,28),0,0))]),(241,[(-22)]),0),
  (32,([(0,.inr (.inl [114])),(1,.inl (((-2147483648),2147483647,1),none)),(2,.inl ((0,2147483647,1),none)),(3,.inl ((0,9,1),none))],[],[((73,1),(1,10,1),none),((77,1),(1,31,1),some ((77,1),0,0)),((114,28),(1,1,0),some ((114,28),0,0))]),(222,[(-22)]),0)]
set_option maxRecDepth 100000 in
theorem q928_ok : rf_chkB q928_P q928_U wLay q928_M ddX12_fits [(20,[0])] [.inl 3] [0,4,32] 600 q928_N = true := by decide +kernel
set_option maxHeartbeats 4000000 in
theorem q928_met {G : rfG} (h : okG G) (hh : wHandOK G) : rf_met G q928_M := rf_methodB h.1 (P := q928_P) (U := q928_U) (N := q928_N) ⟨wflT h flokX12, wcsT h csokX12, wlcT h lcokX12, spokX12 h, List.forall_mem_cons.mpr ⟨q927_met h hh, fun _ h => absurd h List.not_mem_nil⟩, fun _ h => absurd h List.not_mem_nil, List.forall_mem_cons.mpr ⟨fun M hM => Option.some.inj (show some q927_M = some M from hM) ▸ wlkV (lkX12_493 h) q927_M rfl rfl, fun _ h => absurd h List.not_mem_nil⟩, fun _ h => absurd h List.not_mem_nil, fun _ h => absurd h List.not_mem_nil⟩ dkX12_fits (by decide +kernel) (by rw [h.2.2.1]; exact q928_ok)
/-- NearSpellModel.mostBehind -/
def q929_M : rfM := ((⟨"NearSpellModel", "mostBehind", "(II)I"⟩, prog_14_method_123_code, 6, (some .int)), (22,2043), ([.inr (.inl [114]),.inl ((0,0,0),none),.inl ((1,2147483647,1),none)],[((114,28),(0,0,0),none)]), [(94,0),(95,0),(96,0),(97,0),(111,0),(114,45),(114,46)], [(some (.inl (((-2147483648),2147483647,1),none)),[],[])])
def ddX12_mostBehind : List (Nat × Instr × Nat) := [(0,.iconst 0,1),(1,.istore_n 3,1),(2,.iload_n 3,1),(3,.bipush 13,2),(5,.if_icmp .ge 16,3),(8,.aload_n 0,1),(9,.getfield 135,3),(12,.iload_n 3,1),(13,.iconst 0,1),(14,.iastore,1),(15,.iinc 3 1,3),(18,.goto (-16),3),(21,.iconst 0,1),(22,.istore_n 3,1),(23,.iconst 0,1),(24,.istore 4,2),(26,.iload 4,2),(28,.aload_n 0,1),(29,.getfield 20,3),(32,.aload_n 0,1),(33,.getfield 242,3),(36,.iaload,1),(37,.if_icmp .ge 68,3),(40,.iload_n 2,1),(41,.iload 4,2),(43,.invokestatic 251,3),(46,.ifCond .ne 6,3),(49,.goto 50,3),(52,.aload_n 0,1),(53,.aload_n 0,1),(54,.iload_n 1,1),(55,.invokevirtual 490,3),(58,.aload_n 0,1),(59,.iload 4,2),(61,.invokevirtual 490,3),(64,.invokevirtual 408,3),(67,.istore 5,2),(69,.aload_n 0,1),(70,.getfield 135,3),(73,.iload 5,2),(75,.dup2,1),(76,.iaload,1),(77,.iconst 1,1),(78,.iadd,1),(79,.iastore,1),(80,.aload_n 0,1),(81,.getfield 135,3),(84,.iload 5,2),(86,.iaload,1),(87,.iload_n 3,1),(88,.if_icmp .le 11,3),(91,.aload_n 0,1),(92,.getfield 135,3),(95,.iload 5,2),(97,.iaload,1),(98,.istore_n 3,1),(99,.iinc 4 1,3),(102,.goto (-76),3),(105,.iload_n 3,1),(106,.ireturn,1)]
set_option maxRecDepth 100000 in
theorem dkX12_mostBehind : rf_decs prog_14_method_123_code ddX12_mostBehind := rf_decs_of (by decide +kernel)
def q929_P : rfP := (flX12,csX12,lcX12,spX12,[q522_M,q899_M,q915_M,q684_M],[(251,0)],[(408,3,12),(490,1,12),(490,2,12)],([],[]))
def q929_U : rfU := []
set_option maxHeartbeats 8000000 in
def q929_N : List rfB := [(0,([(0,.inr (.inl [114])),(1,.inl ((0,0,0),none)),(2,.inl ((1,2147483647,1),none))],[],[((114,28),(0,0,0),some ((114,28),0,0))]),(645,[0,0]),0),
  (2,([(0,.inr (.inl [114])),(1,.inl ((0,0,0),none)),(2,.inl ((1,2147483647,1),none)),(3,.inl ((0,13,1),none))],[],[((114,28),(0,0,0),some ((114,28),0,0))]),(641,[(-11),0]),0),
  (26,([(0,.inr (.inl [114])),(1,.inl ((0,0,0),none)),(2,.inl ((1,2147483647,1),none)),(3,.inl (((-2147483648),2147483647,1),none)),(4,.inl ((0,10,1),none))],[],[((114,28),(0,0,0),some ((114,28),0,0))]),(483,[0,(-44)]),0),
  (99,([(0,.inr (.inl [114])),(1,.inl ((0,0,0),none)),(2,.inl ((1,2147483647,1),none)),(3,.inl (((-2147483648),2147483647,1),none)),(4,.inl ((0,9,1),none))],[],[((73,0),(1,10,1),none),((114,28),(0,0,0),some ((114,28),0,0))]),(442,[0,(-44)]),0)]
set_option maxRecDepth 100000 in
theorem q929_ok : rf_chkB q929_P q929_U wLay q929_M ddX12_mostBehind [(43,[0]),(55,[1]),(61,[2]),(64,[3])] [.inl 3,.inl 4] [0,2,26,99] 600 q929_N = true := by decide +kernel
set_option maxHeartbeats 4000000 in
theorem q929_met {G : rfG} (h : okG G) (hh : wHandOK G) : rf_met G q929_M := rf_methodB h.1 (P := q929_P) (U := q929_U) (N := q929_N) ⟨wflT h flokX12, wcsT h csokX12, wlcT h lcokX12, spokX12 h, List.forall_mem_cons.mpr ⟨q522_met h hh, List.forall_mem_cons.mpr ⟨q899_met h hh, List.forall_mem_cons.mpr ⟨q915_met h hh, List.forall_mem_cons.mpr ⟨q684_met h hh, fun _ h => absurd h List.not_mem_nil⟩⟩⟩⟩, List.forall_mem_cons.mpr ⟨fun M hM => Option.some.inj (show some q522_M = some M from hM) ▸ wlkS (lkX12_251 h) q522_M rfl rfl, fun _ h => absurd h List.not_mem_nil⟩, List.forall_mem_cons.mpr ⟨fun M hM => Option.some.inj (show some q684_M = some M from hM) ▸ wlkV (lkX12_408 h) q684_M rfl rfl, List.forall_mem_cons.mpr ⟨fun M hM => Option.some.inj (show some q899_M = some M from hM) ▸ wlkV (lkX12_490 h) q899_M rfl rfl, List.forall_mem_cons.mpr ⟨fun M hM => Option.some.inj (show some q915_M = some M from hM) ▸ wlkV (lkX12_490 h) q915_M rfl rfl, fun _ h => absurd h List.not_mem_nil⟩⟩⟩, fun _ h => absurd h List.not_mem_nil, fun _ h => absurd h List.not_mem_nil⟩ dkX12_mostBehind (by decide +kernel) (by rw [h.2.2.1]; exact q929_ok)
/-- NearSpellModel.mostBehind -/
def q930_M : rfM := ((⟨"NearSpellModel", "mostBehind", "(II)I"⟩, prog_14_method_123_code, 6, (some .int)), (22,2043), ([.inr (.inl [114]),.inl ((0,1,1),none),.inl ((1,2147483647,1),none)],[((114,28),(0,0,0),none)]), [(94,0),(95,0),(96,0),(97,0),(111,0),(114,45),(114,46)], [(some (.inl (((-2147483648),2147483647,1),none)),[],[])])
def q930_P : rfP := (flX12,csX12,lcX12,spX12,[q522_M,q909_M,q915_M,q684_M],[(251,0)],[(408,3,12),(490,1,12),(490,2,12)],([],[]))
def q930_U : rfU := []
set_option maxHeartbeats 8000000 in
def q930_N : List rfB := [(0,([(0,.inr (.inl [114])),(1,.inl ((0,1,1),none)),(2,.inl ((1,2147483647,1),none))],[],[((114,28),(0,0,0),some ((114,28),0,0))]),(645,[0,0]),0),
  (2,([(0,.inr (.inl [114])),(1,.inl ((0,1,1),none)),(2,.inl ((1,2147483647,1),none)),(3,.inl ((0,13,1),none))],[],[((114,28),(0,0,0),some ((114,28),0,0))]),(641,[(-11),0]),0),
  (26,([(0,.inr (.inl [114])),(1,.inl ((0,1,1),none)),(2,.inl ((1,2147483647,1),none)),(3,.inl (((-2147483648),2147483647,1),none)),(4,.inl ((0,10,1),none))],[],[((114,28),(0,0,0),some ((114,28),0,0))]),(483,[0,(-44)]),0),
  (99,([(0,.inr (.inl [114])),(1,.inl ((0,1,1),none)),(2,.inl ((1,2147483647,1),none)),(3,.inl (((-2147483648),2147483647,1),none)),(4,.inl ((0,9,1),none))],[],[((73,0),(1,10,1),none),((114,28),(0,0,0),some ((114,28),0,0))]),(442,[0,(-44)]),0)]
set_option maxRecDepth 100000 in
theorem q930_ok : rf_chkB q930_P q930_U wLay q930_M ddX12_mostBehind [(43,[0]),(55,[1]),(61,[2]),(64,[3])] [.inl 3,.inl 4] [0,2,26,99] 600 q930_N = true := by decide +kernel
set_option maxHeartbeats 4000000 in
theorem q930_met {G : rfG} (h : okG G) (hh : wHandOK G) : rf_met G q930_M := rf_methodB h.1 (P := q930_P) (U := q930_U) (N := q930_N) ⟨wflT h flokX12, wcsT h csokX12, wlcT h lcokX12, spokX12 h, List.forall_mem_cons.mpr ⟨q522_met h hh, List.forall_mem_cons.mpr ⟨q909_met h hh, List.forall_mem_cons.mpr ⟨q915_met h hh, List.forall_mem_cons.mpr ⟨q684_met h hh, fun _ h => absurd h List.not_mem_nil⟩⟩⟩⟩, List.forall_mem_cons.mpr ⟨fun M hM => Option.some.inj (show some q522_M = some M from hM) ▸ wlkS (lkX12_251 h) q522_M rfl rfl, fun _ h => absurd h List.not_mem_nil⟩, List.forall_mem_cons.mpr ⟨fun M hM => Option.some.inj (show some q684_M = some M from hM) ▸ wlkV (lkX12_408 h) q684_M rfl rfl, List.forall_mem_cons.mpr ⟨fun M hM => Option.some.inj (show some q909_M = some M from hM) ▸ wlkV (lkX12_490 h) q909_M rfl rfl, List.forall_mem_cons.mpr ⟨fun M hM => Option.some.inj (show some q915_M = some M from hM) ▸ wlkV (lkX12_490 h) q915_M rfl rfl, fun _ h => absurd h List.not_mem_nil⟩⟩⟩, fun _ h => absurd h List.not_mem_nil, fun _ h => absurd h List.not_mem_nil⟩ dkX12_mostBehind (by decide +kernel) (by rw [h.2.2.1]; exact q930_ok)
/-- NearSpellModel.mostBehind -/
def q931_M : rfM := ((⟨"NearSpellModel", "mostBehind", "(II)I"⟩, prog_14_method_123_code, 6, (some .int)), (22,2043), ([.inr (.inl [114]),.inl ((0,2,1),none),.inl ((1,2147483647,1),none)],[((114,28),(0,0,0),none)]), [(94,0),(95,0),(96,0),(97,0),(111,0),(114,45),(114,46)], [(some (.inl (((-2147483648),2147483647,1),none)),[],[])])
def q931_P : rfP := (flX12,csX12,lcX12,spX12,[q522_M,q911_M,q915_M,q684_M],[(251,0)],[(408,3,12),(490,1,12),(490,2,12)],([],[]))
def q931_U : rfU := []
set_option maxHeartbeats 8000000 in
def q931_N : List rfB := [(0,([(0,.inr (.inl [114])),(1,.inl ((0,2,1),none)),(2,.inl ((1,2147483647,1),none))],[],[((114,28),(0,0,0),some ((114,28),0,0))]),(645,[0,0]),0),
  (2,([(0,.inr (.inl [114])),(1,.inl ((0,2,1),none)),(2,.inl ((1,2147483647,1),none)),(3,.inl ((0,13,1),none))],[],[((114,28),(0,0,0),some ((114,28),0,0))]),(641,[(-11),0]),0),
  (26,([(0,.inr (.inl [114])),(1,.inl ((0,2,1),none)),(2,.inl ((1,2147483647,1),none)),(3,.inl (((-2147483648),2147483647,1),none)),(4,.inl ((0,10,1),none))],[],[((114,28),(0,0,0),some ((114,28),0,0))]),(483,[0,(-44)]),0),
  (99,([(0,.inr (.inl [114])),(1,.inl ((0,2,1),none)),(2,.inl ((1,2147483647,1),none)),(3,.inl (((-2147483648),2147483647,1),none)),(4,.inl ((0,9,1),none))],[],[((73,0),(1,10,1),none),((114,28),(0,0,0),some ((114,28),0,0))]),(442,[0,(-44)]),0)]
set_option maxRecDepth 100000 in
theorem q931_ok : rf_chkB q931_P q931_U wLay q931_M ddX12_mostBehind [(43,[0]),(55,[1]),(61,[2]),(64,[3])] [.inl 3,.inl 4] [0,2,26,99] 600 q931_N = true := by decide +kernel
set_option maxHeartbeats 4000000 in
theorem q931_met {G : rfG} (h : okG G) (hh : wHandOK G) : rf_met G q931_M := rf_methodB h.1 (P := q931_P) (U := q931_U) (N := q931_N) ⟨wflT h flokX12, wcsT h csokX12, wlcT h lcokX12, spokX12 h, List.forall_mem_cons.mpr ⟨q522_met h hh, List.forall_mem_cons.mpr ⟨q911_met h hh, List.forall_mem_cons.mpr ⟨q915_met h hh, List.forall_mem_cons.mpr ⟨q684_met h hh, fun _ h => absurd h List.not_mem_nil⟩⟩⟩⟩, List.forall_mem_cons.mpr ⟨fun M hM => Option.some.inj (show some q522_M = some M from hM) ▸ wlkS (lkX12_251 h) q522_M rfl rfl, fun _ h => absurd h List.not_mem_nil⟩, List.forall_mem_cons.mpr ⟨fun M hM => Option.some.inj (show some q684_M = some M from hM) ▸ wlkV (lkX12_408 h) q684_M rfl rfl, List.forall_mem_cons.mpr ⟨fun M hM => Option.some.inj (show some q911_M = some M from hM) ▸ wlkV (lkX12_490 h) q911_M rfl rfl, List.forall_mem_cons.mpr ⟨fun M hM => Option.some.inj (show some q915_M = some M from hM) ▸ wlkV (lkX12_490 h) q915_M rfl rfl, fun _ h => absurd h List.not_mem_nil⟩⟩⟩, fun _ h => absurd h List.not_mem_nil, fun _ h => absurd h List.not_mem_nil⟩ dkX12_mostBehind (by decide +kernel) (by rw [h.2.2.1]; exact q931_ok)
