/-- NearSpellModel.entry -/
def q808_M : rfM := ((⟨"NearSpellModel", "entry", "(II)I"⟩, prog_14_method_68_code, 3, (some .int)), (4,93), ([.inr (.inl [114]),.inl (((-2147483648),2147483647,1),none),.inl (((-2147483648),2147483647,1),none)],[((77,1),(1,31,1),none),((114,28),(1,1,0),none),((998,0),(1,1,0),none)]), [(91,0),(114,40)], [(some (.inl (((-2147483648),2147483647,1),none)),[],[])])
def q808_P : rfP := (flX12,csX12,lcX12,spX12,[q788_M,q789_M,q806_M,q807_M],[(319,1)],[(350,0,12),(366,3,12),(372,2,12)],([],[]))
def q808_U : rfU := []
set_option maxHeartbeats 8000000 in
def q808_N : List rfB := [(0,([(0,.inr (.inl [114])),(1,.inl (((-2147483648),2147483647,1),none)),(2,.inl (((-2147483648),2147483647,1),none))],[],[((77,1),(1,31,1),some ((77,1),0,0)),((114,28),(1,1,0),some ((114,28),0,0)),((998,0),(1,1,0),some ((998,0),0,0))]),(45,[]),0)]
set_option maxRecDepth 100000 in
theorem q808_ok : rf_chkB q808_P q808_U wLay q808_M ddX12_entry [(2,[0]),(57,[1]),(81,[2]),(84,[3])] [] [0] 600 q808_N = true := by decide +kernel
set_option maxHeartbeats 4000000 in
theorem q808_met {G : rfG} (h : okG G) : rf_met G q808_M := rf_methodB h.1 (P := q808_P) (U := q808_U) (N := q808_N) ⟨wflT h flokX12, wcsT h csokX12, wlcT h lcokX12, spokX12 h, List.forall_mem_cons.mpr ⟨q788_met h, List.forall_mem_cons.mpr ⟨q789_met h, List.forall_mem_cons.mpr ⟨q806_met h, List.forall_mem_cons.mpr ⟨q807_met h, fun _ h => absurd h List.not_mem_nil⟩⟩⟩⟩, List.forall_mem_cons.mpr ⟨fun M hM => Option.some.inj (show some q789_M = some M from hM) ▸ wlkS (lkX12_319 h) q789_M rfl rfl, fun _ h => absurd h List.not_mem_nil⟩, List.forall_mem_cons.mpr ⟨fun M hM => Option.some.inj (show some q788_M = some M from hM) ▸ wlkV (lkX12_350 h) q788_M rfl rfl, List.forall_mem_cons.mpr ⟨fun M hM => Option.some.inj (show some q807_M = some M from hM) ▸ wlkV (lkX12_366 h) q807_M rfl rfl, List.forall_mem_cons.mpr ⟨fun M hM => Option.some.inj (show some q806_M = some M from hM) ▸ wlkV (lkX12_372 h) q806_M rfl rfl, fun _ h => absurd h List.not_mem_nil⟩⟩⟩, fun _ h => absurd h List.not_mem_nil, fun _ h => absurd h List.not_mem_nil⟩ dkX12_entry (by decide +kernel) (by rw [h.2.2.1]; exact q808_ok)
/-- NearSpellModel.isIn -/
def q809_M : rfM := ((⟨"NearSpellModel", "isIn", "(III)Z"⟩, prog_14_method_35_code, 3, (some .boolean)), (0,0), ([.inl (((-2147483648),2147483647,1),none),.inl ((0,0,0),none),.inl ((387420488,387420488,0),none)],[]), [], [(some (.inl ((1,1,0),none)),[(0,0,387420488)],[]),(some (.inl ((0,0,0),none)),[],[])])
def q809_P : rfP := (flX12,csX12,lcX12,spX12,[],[],[],([],[]))
def q809_U : rfU := []
set_option maxHeartbeats 8000000 in
def q809_N : List rfB := [(0,([(0,.inl (((-2147483648),2147483647,1),none)),(1,.inl ((0,0,0),none)),(2,.inl ((387420488,387420488,0),none))],[],[]),(10,[]),0),
  (14,([(0,.inl (((-2147483648),2147483647,1),none)),(1,.inl ((0,0,0),none)),(2,.inl ((387420488,387420488,0),none))],[],[]),(1,[]),0)]
set_option maxRecDepth 100000 in
theorem q809_ok : rf_chkB q809_P q809_U wLay q809_M ddX12_isIn [] [] [0,14] 600 q809_N = true := by decide +kernel
set_option maxHeartbeats 4000000 in
theorem q809_met {G : rfG} (h : okG G) : rf_met G q809_M := rf_methodB h.1 (P := q809_P) (U := q809_U) (N := q809_N) ⟨wflT h flokX12, wcsT h csokX12, wlcT h lcokX12, spokX12 h, fun _ h => absurd h List.not_mem_nil, fun _ h => absurd h List.not_mem_nil, fun _ h => absurd h List.not_mem_nil, fun _ h => absurd h List.not_mem_nil, fun _ h => absurd h List.not_mem_nil⟩ dkX12_isIn (by decide +kernel) (by rw [h.2.2.1]; exact q809_ok)
/-- NearSpellModel.canBe -/
def q810_M : rfM := ((⟨"NearSpellModel", "canBe", "(I)Z"⟩, prog_14_method_40_code, 2, (some .boolean)), (1,22), ([.inl (((-2147483648),2147483647,1),none)],[]), [], [(some (.inl ((0,0,0),none)),[],[]),(some (.inl ((1,1,0),none)),[(0,0,387420488)],[])])
def ddX12_canBe : List (Nat × Instr × Nat) := [(0,.iload_n 0,1),(1,.iconst 0,1),(2,.ldc_w 333,3),(5,.invokestatic 334,3),(8,.ifCond .ne 5,3),(11,.iconst 0,1),(12,.ireturn,1),(13,.iload_n 0,1),(14,.istore_n 1,1),(15,.iload_n 1,1),(16,.ifCond .le 20,3),(19,.iload_n 1,1),(20,.bipush 27,2),(22,.irem,1),(23,.ifCond .ne 5,3),(26,.iconst 0,1),(27,.ireturn,1),(28,.iload_n 1,1),(29,.bipush 27,2),(31,.idiv,1),(32,.istore_n 1,1),(33,.goto (-18),3),(36,.iconst 1,1),(37,.ireturn,1)]
set_option maxRecDepth 100000 in
theorem dkX12_canBe : rf_decs prog_14_method_40_code ddX12_canBe := rf_decs_of (by decide +kernel)
def q810_P : rfP := (flX12,csX12,lcX12,spX12,[q809_M],[(334,0)],[],([],[]))
def q810_U : rfU := []
set_option maxHeartbeats 8000000 in
def q810_N : List rfB := [(0,([(0,.inl (((-2147483648),2147483647,1),none))],[],[]),(4649045881,[0]),0),
  (15,([(0,.inl ((0,387420488,1),none)),(1,.inl ((0,387420488,1),none))],[],[]),(13,[12]),0)]
set_option maxRecDepth 100000 in
theorem q810_ok : rf_chkB q810_P q810_U wLay q810_M ddX12_canBe [(5,[0])] [.inl 1] [0,15] 600 q810_N = true := by decide +kernel
set_option maxHeartbeats 4000000 in
theorem q810_met {G : rfG} (h : okG G) : rf_met G q810_M := rf_methodB h.1 (P := q810_P) (U := q810_U) (N := q810_N) ⟨wflT h flokX12, wcsT h csokX12, wlcT h lcokX12, spokX12 h, List.forall_mem_cons.mpr ⟨q809_met h, fun _ h => absurd h List.not_mem_nil⟩, List.forall_mem_cons.mpr ⟨fun M hM => Option.some.inj (show some q809_M = some M from hM) ▸ wlkS (lkX12_334 h) q809_M rfl rfl, fun _ h => absurd h List.not_mem_nil⟩, fun _ h => absurd h List.not_mem_nil, fun _ h => absurd h List.not_mem_nil, fun _ h => absurd h List.not_mem_nil⟩ dkX12_canBe (by decide +kernel) (by rw [h.2.2.1]; exact q810_ok)
/-- NearSpellModel.isIn -/
def q811_M : rfM := ((⟨"NearSpellModel", "isIn", "(III)Z"⟩, prog_14_method_35_code, 3, (some .boolean)), (0,0), ([.inl (((-2147483648),2147483647,1),none),.inl ((0,0,0),none),.inl ((999,999,0),none)],[]), [], [(some (.inl ((1,1,0),none)),[(0,0,999)],[]),(some (.inl ((0,0,0),none)),[],[])])
def q811_P : rfP := (flX12,csX12,lcX12,spX12,[],[],[],([],[]))
def q811_U : rfU := []
set_option maxHeartbeats 8000000 in
def q811_N : List rfB := [(0,([(0,.inl (((-2147483648),2147483647,1),none)),(1,.inl ((0,0,0),none)),(2,.inl ((999,999,0),none))],[],[]),(10,[]),0),
  (14,([(0,.inl (((-2147483648),2147483647,1),none)),(1,.inl ((0,0,0),none)),(2,.inl ((999,999,0),none))],[],[]),(1,[]),0)]
set_option maxRecDepth 100000 in
theorem q811_ok : rf_chkB q811_P q811_U wLay q811_M ddX12_isIn [] [] [0,14] 600 q811_N = true := by decide +kernel
set_option maxHeartbeats 4000000 in
theorem q811_met {G : rfG} (h : okG G) : rf_met G q811_M := rf_methodB h.1 (P := q811_P) (U := q811_U) (N := q811_N) ⟨wflT h flokX12, wcsT h csokX12, wlcT h lcokX12, spokX12 h, fun _ h => absurd h List.not_mem_nil, fun _ h => absurd h List.not_mem_nil, fun _ h => absurd h List.not_mem_nil, fun _ h => absurd h List.not_mem_nil, fun _ h => absurd h List.not_mem_nil⟩ dkX12_isIn (by decide +kernel) (by rw [h.2.2.1]; exact q811_ok)
/-- NearSpellModel.isIn -/
def q812_M : rfM := ((⟨"NearSpellModel", "isIn", "(III)Z"⟩, prog_14_method_35_code, 3, (some .boolean)), (0,0), ([.inl ((0,0,0),none),.inl ((0,0,0),none),.inl (((-1),13,1),none)],[]), [], [(some (.inl ((1,1,0),none)),[(2,0,13)],[]),(some (.inl ((0,0,0),none)),[(2,(-1),(-1))],[])])
def q812_P : rfP := (flX12,csX12,lcX12,spX12,[],[],[],([],[]))
def q812_U : rfU := []
set_option maxHeartbeats 8000000 in
def q812_N : List rfB := [(0,([(0,.inl ((0,0,0),none)),(1,.inl ((0,0,0),none)),(2,.inl (((-1),13,1),none))],[],[]),(10,[]),0)]
set_option maxRecDepth 100000 in
theorem q812_ok : rf_chkB q812_P q812_U wLay q812_M ddX12_isIn [] [] [0] 600 q812_N = true := by decide +kernel
set_option maxHeartbeats 4000000 in
theorem q812_met {G : rfG} (h : okG G) : rf_met G q812_M := rf_methodB h.1 (P := q812_P) (U := q812_U) (N := q812_N) ⟨wflT h flokX12, wcsT h csokX12, wlcT h lcokX12, spokX12 h, fun _ h => absurd h List.not_mem_nil, fun _ h => absurd h List.not_mem_nil, fun _ h => absurd h List.not_mem_nil, fun _ h => absurd h List.not_mem_nil, fun _ h => absurd h List.not_mem_nil⟩ dkX12_isIn (by decide +kernel) (by rw [h.2.2.1]; exact q812_ok)
/-- NearSpellModel.isEntry -/
def q813_M : rfM := ((⟨"NearSpellModel", "isEntry", "(I)Z"⟩, prog_14_method_46_code, 2, (some .boolean)), (1,22), ([.inr (.inl [114]),.inl ((0,0,0),none)],[]), [], [(some (.inl ((1,1,0),none)),[],[((90,0),(0,387420488,1),none),((90,28),(1,14,1),none)]),(some (.inl ((0,0,0),none)),[],[])])
def q813_P : rfP := (flX12,csX12,lcX12,spX12,[q812_M],[(334,0)],[],([],[]))
def q813_U : rfU := []
set_option maxHeartbeats 8000000 in
def q813_N : List rfB := [(0,([(0,.inr (.inl [114])),(1,.inl ((0,0,0),none))],[],[]),(22,[]),0),
  (32,([(0,.inr (.inl [114])),(1,.inl ((0,0,0),none))],[],[]),(1,[]),0)]
set_option maxRecDepth 100000 in
theorem q813_ok : rf_chkB q813_P q813_U wLay q813_M ddX12_isEntry [(11,[0])] [] [0,32] 600 q813_N = true := by decide +kernel
set_option maxHeartbeats 4000000 in
theorem q813_met {G : rfG} (h : okG G) : rf_met G q813_M := rf_methodB h.1 (P := q813_P) (U := q813_U) (N := q813_N) ⟨wflT h flokX12, wcsT h csokX12, wlcT h lcokX12, spokX12 h, List.forall_mem_cons.mpr ⟨q812_met h, fun _ h => absurd h List.not_mem_nil⟩, List.forall_mem_cons.mpr ⟨fun M hM => Option.some.inj (show some q812_M = some M from hM) ▸ wlkS (lkX12_334 h) q812_M rfl rfl, fun _ h => absurd h List.not_mem_nil⟩, fun _ h => absurd h List.not_mem_nil, fun _ h => absurd h List.not_mem_nil, fun _ h => absurd h List.not_mem_nil⟩ dkX12_isEntry (by decide +kernel) (by rw [h.2.2.1]; exact q813_ok)
/-- NearSpellModel.isIn -/
def q814_M : rfM := ((⟨"NearSpellModel", "isIn", "(III)Z"⟩, prog_14_method_35_code, 3, (some .boolean)), (0,0), ([.inl ((0,1,1),none),.inl ((0,0,0),none),.inl (((-1),13,1),none)],[]), [], [(some (.inl ((1,1,0),none)),[(2,0,13)],[]),(some (.inl ((0,0,0),none)),[(2,(-1),0)],[])])
def q814_P : rfP := (flX12,csX12,lcX12,spX12,[],[],[],([],[]))
def q814_U : rfU := []
set_option maxHeartbeats 8000000 in
def q814_N : List rfB := [(0,([(0,.inl ((0,1,1),none)),(1,.inl ((0,0,0),none)),(2,.inl (((-1),13,1),none))],[],[]),(10,[]),0)]
set_option maxRecDepth 100000 in
theorem q814_ok : rf_chkB q814_P q814_U wLay q814_M ddX12_isIn [] [] [0] 600 q814_N = true := by decide +kernel
set_option maxHeartbeats 4000000 in
theorem q814_met {G : rfG} (h : okG G) : rf_met G q814_M := rf_methodB h.1 (P := q814_P) (U := q814_U) (N := q814_N) ⟨wflT h flokX12, wcsT h csokX12, wlcT h lcokX12, spokX12 h, fun _ h => absurd h List.not_mem_nil, fun _ h => absurd h List.not_mem_nil, fun _ h => absurd h List.not_mem_nil, fun _ h => absurd h List.not_mem_nil, fun _ h => absurd h List.not_mem_nil⟩ dkX12_isIn (by decide +kernel) (by rw [h.2.2.1]; exact q814_ok)
/-- NearSpellModel.isEntry -/
def q815_M : rfM := ((⟨"NearSpellModel", "isEntry", "(I)Z"⟩, prog_14_method_46_code, 2, (some .boolean)), (1,22), ([.inr (.inl [114]),.inl ((0,1,1),none)],[]), [], [(some (.inl ((1,1,0),none)),[],[((90,28),(1,14,1),none)]),(some (.inl ((0,0,0),none)),[],[])])
def q815_P : rfP := (flX12,csX12,lcX12,spX12,[q814_M],[(334,0)],[],([],[]))
def q815_U : rfU := []
set_option maxHeartbeats 8000000 in
def q815_N : List rfB := [(0,([(0,.inr (.inl [114])),(1,.inl ((0,1,1),none))],[],[]),(22,[]),0),
  (32,([(0,.inr (.inl [114])),(1,.inl ((0,1,1),none))],[],[]),(1,[]),0)]
set_option maxRecDepth 100000 in
theorem q815_ok : rf_chkB q815_P q815_U wLay q815_M ddX12_isEntry [(11,[0])] [] [0,32] 600 q815_N = true := by decide +kernel
set_option maxHeartbeats 4000000 in
theorem q815_met {G : rfG} (h : okG G) : rf_met G q815_M := rf_methodB h.1 (P := q815_P) (U := q815_U) (N := q815_N) ⟨wflT h flokX12, wcsT h csokX12, wlcT h lcokX12, spokX12 h, List.forall_mem_cons.mpr ⟨q814_met h, fun _ h => absurd h List.not_mem_nil⟩, List.forall_mem_cons.mpr ⟨fun M hM => Option.some.inj (show some q814_M = some M from hM) ▸ wlkS (lkX12_334 h) q814_M rfl rfl, fun _ h => absurd h List.not_mem_nil⟩, fun _ h => absurd h List.not_mem_nil, fun _ h => absurd h List.not_mem_nil, fun _ h => absurd h List.not_mem_nil⟩ dkX12_isEntry (by decide +kernel) (by rw [h.2.2.1]; exact q815_ok)
/-- NearSpellModel.isIn -/
def q816_M : rfM := ((⟨"NearSpellModel", "isIn", "(III)Z"⟩, prog_14_method_35_code, 3, (some .boolean)), (0,0), ([.inl ((0,2,1),none),.inl ((0,0,0),none),.inl (((-1),13,1),none)],[]), [], [(some (.inl ((1,1,0),none)),[(2,0,13)],[]),(some (.inl ((0,0,0),none)),[(2,(-1),1)],[])])
def q816_P : rfP := (flX12,csX12,lcX12,spX12,[],[],[],([],[]))
def q816_U : rfU := []
set_option maxHeartbeats 8000000 in
def q816_N : List rfB := [(0,([(0,.inl ((0,2,1),none)),(1,.inl ((0,0,0),none)),(2,.inl (((-1),13,1),none))],[],[]),(10,[]),0)]
set_option maxRecDepth 100000 in
theorem q816_ok : rf_chkB q816_P q816_U wLay q816_M ddX12_isIn [] [] [0] 600 q816_N = true := by decide +kernel
set_option maxHeartbeats 4000000 in
theorem q816_met {G : rfG} (h : okG G) : rf_met G q816_M := rf_methodB h.1 (P := q816_P) (U := q816_U) (N := q816_N) ⟨wflT h flokX12, wcsT h csokX12, wlcT h lcokX12, spokX12 h, fun _ h => absurd h List.not_mem_nil, fun _ h => absurd h List.not_mem_nil, fun _ h => absurd h List.not_mem_nil, fun _ h => absurd h List.not_mem_nil, fun _ h => absurd h List.not_mem_nil⟩ dkX12_isIn (by decide +kernel) (by rw [h.2.2.1]; exact q816_ok)
/-- NearSpellModel.isEntry -/
def q817_M : rfM := ((⟨"NearSpellModel", "isEntry", "(I)Z"⟩, prog_14_method_46_code, 2, (some .boolean)), (1,22), ([.inr (.inl [114]),.inl ((0,2,1),none)],[]), [], [(some (.inl ((1,1,0),none)),[],[((90,28),(1,14,1),none)]),(some (.inl ((0,0,0),none)),[],[])])
def q817_P : rfP := (flX12,csX12,lcX12,spX12,[q816_M],[(334,0)],[],([],[]))
def q817_U : rfU := []
set_option maxHeartbeats 8000000 in
def q817_N : List rfB := [(0,([(0,.inr (.inl [114])),(1,.inl ((0,2,1),none))],[],[]),(22,[]),0),
  (32,([(0,.inr (.inl [114])),(1,.inl ((0,2,1),none))],[],[]),(1,[]),0)]
set_option maxRecDepth 100000 in
theorem q817_ok : rf_chkB q817_P q817_U wLay q817_M ddX12_isEntry [(11,[0])] [] [0,32] 600 q817_N = true := by decide +kernel
set_option maxHeartbeats 4000000 in
theorem q817_met {G : rfG} (h : okG G) : rf_met G q817_M := rf_methodB h.1 (P := q817_P) (U := q817_U) (N := q817_N) ⟨wflT h flokX12, wcsT h csokX12, wlcT h lcokX12, spokX12 h, List.forall_mem_cons.mpr ⟨q816_met h, fun _ h => absurd h List.not_mem_nil⟩, List.forall_mem_cons.mpr ⟨fun M hM => Option.some.inj (show some q816_M = some M from hM) ▸ wlkS (lkX12_334 h) q816_M rfl rfl, fun _ h => absurd h List.not_mem_nil⟩, fun _ h => absurd h List.not_mem_nil, fun _ h => absurd h List.not_mem_nil, fun _ h => absurd h List.not_mem_nil⟩ dkX12_isEntry (by decide +kernel) (by rw [h.2.2.1]; exact q817_ok)
/-- NearSpellModel.isIn -/
def q818_M : rfM := ((⟨"NearSpellModel", "isIn", "(III)Z"⟩, prog_14_method_35_code, 3, (some .boolean)), (0,0), ([.inl ((0,3,1),none),.inl ((0,0,0),none),.inl (((-1),13,1),none)],[]), [], [(some (.inl ((1,1,0),none)),[(2,0,13)],[]),(some (.inl ((0,0,0),none)),[(2,(-1),2)],[])])
def q818_P : rfP := (flX12,csX12,lcX12,spX12,[],[],[],([],[]))
def q818_U : rfU := []
set_option maxHeartbeats 8000000 in
def q818_N : List rfB := [(0,([(0,.inl ((0,3,1),none)),(1,.inl ((0,0,0),none)),(2,.inl (((-1),13,1),none))],[],[]),(10,[]),0)]
set_option maxRecDepth 100000 in
theorem q818_ok : rf_chkB q818_P q818_U wLay q818_M ddX12_isIn [] [] [0] 600 q818_N = true := by decide +kernel
set_option maxHeartbeats 4000000 in
theorem q818_met {G : rfG} (h : okG G) : rf_met G q818_M := rf_methodB h.1 (P := q818_P) (U := q818_U) (N := q818_N) ⟨wflT h flokX12, wcsT h csokX12, wlcT h lcokX12, spokX12 h, fun _ h => absurd h List.not_mem_nil, fun _ h => absurd h List.not_mem_nil, fun _ h => absurd h List.not_mem_nil, fun _ h => absurd h List.not_mem_nil, fun _ h => absurd h List.not_mem_nil⟩ dkX12_isIn (by decide +kernel) (by rw [h.2.2.1]; exact q818_ok)
/-- NearSpellModel.isEntry -/
def q819_M : rfM := ((⟨"NearSpellModel", "isEntry", "(I)Z"⟩, prog_14_method_46_code, 2, (some .boolean)), (1,22), ([.inr (.inl [114]),.inl ((0,3,1),none)],[]), [], [(some (.inl ((1,1,0),none)),[],[((90,28),(1,14,1),none)]),(some (.inl ((0,0,0),none)),[],[])])
def q819_P : rfP := (flX12,csX12,lcX12,spX12,[q818_M],[(334,0)],[],([],[]))
def q819_U : rfU := []
set_option maxHeartbeats 8000000 in
def q819_N : List rfB := [(0,([(0,.inr (.inl [114])),(1,.inl ((0,3,1),none))],[],[]),(22,[]),0),
  (32,([(0,.inr (.inl [114])),(1,.inl ((0,3,1),none))],[],[]),(1,[]),0)]
set_option maxRecDepth 100000 in
theorem q819_ok : rf_chkB q819_P q819_U wLay q819_M ddX12_isEntry [(11,[0])] [] [0,32] 600 q819_N = true := by decide +kernel
set_option maxHeartbeats 4000000 in
theorem q819_met {G : rfG} (h : okG G) : rf_met G q819_M := rf_methodB h.1 (P := q819_P) (U := q819_U) (N := q819_N) ⟨wflT h flokX12, wcsT h csokX12, wlcT h lcokX12, spokX12 h, List.forall_mem_cons.mpr ⟨q818_met h, fun _ h => absurd h List.not_mem_nil⟩, List.forall_mem_cons.mpr ⟨fun M hM => Option.some.inj (show some q818_M = some M from hM) ▸ wlkS (lkX12_334 h) q818_M rfl rfl, fun _ h => absurd h List.not_mem_nil⟩, fun _ h => absurd h List.not_mem_nil, fun _ h => absurd h List.not_mem_nil, fun _ h => absurd h List.not_mem_nil⟩ dkX12_isEntry (by decide +kernel) (by rw [h.2.2.1]; exact q819_ok)
/-- NearSpellModel.isIn -/
def q820_M : rfM := ((⟨"NearSpellModel", "isIn", "(III)Z"⟩, prog_14_method_35_code, 3, (some .boolean)), (0,0), ([.inl ((0,6,1),none),.inl ((0,0,0),none),.inl (((-1),13,1),none)],[]), [], [(some (.inl ((1,1,0),none)),[(2,0,13)],[]),(some (.inl ((0,0,0),none)),[(2,(-1),5)],[])])
def q820_P : rfP := (flX12,csX12,lcX12,spX12,[],[],[],([],[]))
def q820_U : rfU := []
set_option maxHeartbeats 8000000 in
def q820_N : List rfB := [(0,([(0,.inl ((0,6,1),none)),(1,.inl ((0,0,0),none)),(2,.inl (((-1),13,1),none))],[],[]),(10,[]),0)]
set_option maxRecDepth 100000 in
theorem q820_ok : rf_chkB q820_P q820_U wLay q820_M ddX12_isIn [] [] [0] 600 q820_N = true := by decide +kernel
set_option maxHeartbeats 4000000 in
theorem q820_met {G : rfG} (h : okG G) : rf_met G q820_M := rf_methodB h.1 (P := q820_P) (U := q820_U) (N := q820_N) ⟨wflT h flokX12, wcsT h csokX12, wlcT h lcokX12, spokX12 h, fun _ h => absurd h List.not_mem_nil, fun _ h => absurd h List.not_mem_nil, fun _ h => absurd h List.not_mem_nil, fun _ h => absurd h List.not_mem_nil, fun _ h => absurd h List.not_mem_nil⟩ dkX12_isIn (by decide +kernel) (by rw [h.2.2.1]; exact q820_ok)
/-- NearSpellModel.isEntry -/
def q821_M : rfM := ((⟨"NearSpellModel", "isEntry", "(I)Z"⟩, prog_14_method_46_code, 2, (some .boolean)), (1,22), ([.inr (.inl [114]),.inl ((0,6,1),none)],[]), [], [(some (.inl ((1,1,0),none)),[],[((90,28),(1,14,1),none)]),(some (.inl ((0,0,0),none)),[],[])])
def q821_P : rfP := (flX12,csX12,lcX12,spX12,[q820_M],[(334,0)],[],([],[]))
def q821_U : rfU := []
set_option maxHeartbeats 8000000 in
def q821_N : List rfB := [(0,([(0,.inr (.inl [114])),(1,.inl ((0,6,1),none))],[],[]),(22,[]),0),
  (32,([(0,.inr (.inl [114])),(1,.inl ((0,6,1),none))],[],[]),(1,[]),0)]
set_option maxRecDepth 100000 in
theorem q821_ok : rf_chkB q821_P q821_U wLay q821_M ddX12_isEntry [(11,[0])] [] [0,32] 600 q821_N = true := by decide +kernel
set_option maxHeartbeats 4000000 in
theorem q821_met {G : rfG} (h : okG G) : rf_met G q821_M := rf_methodB h.1 (P := q821_P) (U := q821_U) (N := q821_N) ⟨wflT h flokX12, wcsT h csokX12, wlcT h lcokX12, spokX12 h, List.forall_mem_cons.mpr ⟨q820_met h, fun _ h => absurd h List.not_mem_nil⟩, List.forall_mem_cons.mpr ⟨fun M hM => Option.some.inj (show some q820_M = some M from hM) ▸ wlkS (lkX12_334 h) q820_M rfl rfl, fun _ h => absurd h List.not_mem_nil⟩, fun _ h => absurd h List.not_mem_nil, fun _ h => absurd h List.not_mem_nil, fun _ h => absurd h List.not_mem_nil⟩ dkX12_isEntry (by decide +kernel) (by rw [h.2.2.1]; exact q821_ok)
/-- NearSpellModel.isIn -/
def q822_M : rfM := ((⟨"NearSpellModel", "isIn", "(III)Z"⟩, prog_14_method_35_code, 3, (some .boolean)), (0,0), ([.inl ((0,9,1),none),.inl ((0,0,0),none),.inl (((-1),13,1),none)],[]), [], [(some (.inl ((1,1,0),none)),[(2,0,13)],[]),(some (.inl ((0,0,0),none)),[(2,(-1),8)],[])])
def q822_P : rfP := (flX12,csX12,lcX12,spX12,[],[],[],([],[]))
def q822_U : rfU := []
set_option maxHeartbeats 8000000 in
def q822_N : List rfB := [(0,([(0,.inl ((0,9,1),none)),(1,.inl ((0,0,0),none)),(2,.inl (((-1),13,1),none))],[],[]),(10,[]),0)]
set_option maxRecDepth 100000 in
theorem q822_ok : rf_chkB q822_P q822_U wLay q822_M ddX12_isIn [] [] [0] 600 q822_N = true := by decide +kernel
set_option maxHeartbeats 4000000 in
theorem q822_met {G : rfG} (h : okG G) : rf_met G q822_M := rf_methodB h.1 (P := q822_P) (U := q822_U) (N := q822_N) ⟨wflT h flokX12, wcsT h csokX12, wlcT h lcokX12, spokX12 h, fun _ h => absurd h List.not_mem_nil, fun _ h => absurd h List.not_mem_nil, fun _ h => absurd h List.not_mem_nil, fun _ h => absurd h List.not_mem_nil, fun _ h => absurd h List.not_mem_nil⟩ dkX12_isIn (by decide +kernel) (by rw [h.2.2.1]; exact q822_ok)
/-- NearSpellModel.isEntry -/
def q823_M : rfM := ((⟨"NearSpellModel", "isEntry", "(I)Z"⟩, prog_14_method_46_code, 2, (some .boolean)), (1,22), ([.inr (.inl [114]),.inl ((0,9,1),none)],[]), [], [(some (.inl ((1,1,0),none)),[],[((90,28),(1,14,1),none)]),(some (.inl ((0,0,0),none)),[],[])])
def q823_P : rfP := (flX12,csX12,lcX12,spX12,[q822_M],[(334,0)],[],([],[]))
def q823_U : rfU := []
set_option maxHeartbeats 8000000 in
def q823_N : List rfB := [(0,([(0,.inr (.inl [114])),(1,.inl ((0,9,1),none))],[],[]),(22,[]),0),
  (32,([(0,.inr (.inl [114])),(1,.inl ((0,9,1),none))],[],[]),(1,[]),0)]
set_option maxRecDepth 100000 in
theorem q823_ok : rf_chkB q823_P q823_U wLay q823_M ddX12_isEntry [(11,[0])] [] [0,32] 600 q823_N = true := by decide +kernel
set_option maxHeartbeats 4000000 in
theorem q823_met {G : rfG} (h : okG G) : rf_met G q823_M := rf_methodB h.1 (P := q823_P) (U := q823_U) (N := q823_N) ⟨wflT h flokX12, wcsT h csokX12, wlcT h lcokX12, spokX12 h, List.forall_mem_cons.mpr ⟨q822_met h, fun _ h => absurd h List.not_mem_nil⟩, List.forall_mem_cons.mpr ⟨fun M hM => Option.some.inj (show some q822_M = some M from hM) ▸ wlkS (lkX12_334 h) q822_M rfl rfl, fun _ h => absurd h List.not_mem_nil⟩, fun _ h => absurd h List.not_mem_nil, fun _ h => absurd h List.not_mem_nil, fun _ h => absurd h List.not_mem_nil⟩ dkX12_isEntry (by decide +kernel) (by rw [h.2.2.1]; exact q823_ok)
/-- NearSpellModel.isIn -/
def q824_M : rfM := ((⟨"NearSpellModel", "isIn", "(III)Z"⟩, prog_14_method_35_code, 3, (some .boolean)), (0,0), ([.inl ((0,12,1),none),.inl ((0,0,0),none),.inl (((-1),13,1),none)],[]), [], [(some (.inl ((1,1,0),none)),[(2,0,13)],[]),(some (.inl ((0,0,0),none)),[(2,(-1),11)],[])])
def q824_P : rfP := (flX12,csX12,lcX12,spX12,[],[],[],([],[]))
def q824_U : rfU := []
set_option maxHeartbeats 8000000 in
def q824_N : List rfB := [(0,([(0,.inl ((0,12,1),none)),(1,.inl ((0,0,0),none)),(2,.inl (((-1),13,1),none))],[],[]),(10,[]),0)]
set_option maxRecDepth 100000 in
theorem q824_ok : rf_chkB q824_P q824_U wLay q824_M ddX12_isIn [] [] [0] 600 q824_N = true := by decide +kernel
set_option maxHeartbeats 4000000 in
theorem q824_met {G : rfG} (h : okG G) : rf_met G q824_M := rf_methodB h.1 (P := q824_P) (U := q824_U) (N := q824_N) ⟨wflT h flokX12, wcsT h csokX12, wlcT h lcokX12, spokX12 h, fun _ h => absurd h List.not_mem_nil, fun _ h => absurd h List.not_mem_nil, fun _ h => absurd h List.not_mem_nil, fun _ h => absurd h List.not_mem_nil, fun _ h => absurd h List.not_mem_nil⟩ dkX12_isIn (by decide +kernel) (by rw [h.2.2.1]; exact q824_ok)
/-- NearSpellModel.isEntry -/
def q825_M : rfM := ((⟨"NearSpellModel", "isEntry", "(I)Z"⟩, prog_14_method_46_code, 2, (some .boolean)), (1,22), ([.inr (.inl [114]),.inl ((0,12,1),none)],[]), [], [(some (.inl ((1,1,0),none)),[],[((90,28),(1,14,1),none)]),(some (.inl ((0,0,0),none)),[],[])])
def q825_P : rfP := (flX12,csX12,lcX12,spX12,[q824_M],[(334,0)],[],([],[]))
def q825_U : rfU := []
set_option maxHeartbeats 8000000 in
def q825_N : List rfB := [(0,([(0,.inr (.inl [114])),(1,.inl ((0,12,1),none))],[],[]),(22,[]),0),
  (32,([(0,.inr (.inl [114])),(1,.inl ((0,12,1),none))],[],[]),(1,[]),0)]
set_option maxRecDepth 100000 in
theorem q825_ok : rf_chkB q825_P q825_U wLay q825_M ddX12_isEntry [(11,[0])] [] [0,32] 600 q825_N = true := by decide +kernel
set_option maxHeartbeats 4000000 in
theorem q825_met {G : rfG} (h : okG G) : rf_met G q825_M := rf_methodB h.1 (P := q825_P) (U := q825_U) (N := q825_N) ⟨wflT h flokX12, wcsT h csokX12, wlcT h lcokX12, spokX12 h, List.forall_mem_cons.mpr ⟨q824_met h, fun _ h => absurd h List.not_mem_nil⟩, List.forall_mem_cons.mpr ⟨fun M hM => Option.some.inj (show some q824_M = some M from hM) ▸ wlkS (lkX12_334 h) q824_M rfl rfl, fun _ h => absurd h List.not_mem_nil⟩, fun _ h => absurd h List.not_mem_nil, fun _ h => absurd h List.not_mem_nil, fun _ h => absurd h List.not_mem_nil⟩ dkX12_isEntry (by decide +kernel) (by rw [h.2.2.1]; exact q825_ok)
/-- NearSpellModel.isIn -/
def q826_M : rfM := ((⟨"NearSpellModel", "isIn", "(III)Z"⟩, prog_14_method_35_code, 3, (some .boolean)), (0,0), ([.inl ((0,13,1),none),.inl ((0,0,0),none),.inl (((-1),13,1),none)],[]), [], [(some (.inl ((1,1,0),none)),[(2,0,13)],[]),(some (.inl ((0,0,0),none)),[(2,(-1),12)],[])])
def q826_P : rfP := (flX12,csX12,lcX12,spX12,[],[],[],([],[]))
def q826_U : rfU := []
set_option maxHeartbeats 8000000 in
def q826_N : List rfB := [(0,([(0,.inl ((0,13,1),none)),(1,.inl ((0,0,0),none)),(2,.inl (((-1),13,1),none))],[],[]),(10,[]),0)]
set_option maxRecDepth 100000 in
theorem q826_ok : rf_chkB q826_P q826_U wLay q826_M ddX12_isIn [] [] [0] 600 q826_N = true := by decide +kernel
set_option maxHeartbeats 4000000 in
theorem q826_met {G : rfG} (h : okG G) : rf_met G q826_M := rf_methodB h.1 (P := q826_P) (U := q826_U) (N := q826_N) ⟨wflT h flokX12, wcsT h csokX12, wlcT h lcokX12, spokX12 h, fun _ h => absurd h List.not_mem_nil, fun _ h => absurd h List.not_mem_nil, fun _ h => absurd h List.not_mem_nil, fun _ h => absurd h List.not_mem_nil, fun _ h => absurd h List.not_mem_nil⟩ dkX12_isIn (by decide +kernel) (by rw [h.2.2.1]; exact q826_ok)
/-- NearSpellModel.isEntry -/
def q827_M : rfM := ((⟨"NearSpellModel", "isEntry", "(I)Z"⟩, prog_14_method_46_code, 2, (some .boolean)), (1,22), ([.inr (.inl [114]),.inl ((0,13,1),none)],[]), [], [(some (.inl ((1,1,0),none)),[],[((90,28),(1,14,1),none)]),(some (.inl ((0,0,0),none)),[],[])])
def q827_P : rfP := (flX12,csX12,lcX12,spX12,[q826_M],[(334,0)],[],([],[]))
def q827_U : rfU := []
set_option maxHeartbeats 8000000 in
def q827_N : List rfB := [(0,([(0,.inr (.inl [114])),(1,.inl ((0,13,1),none))],[],[]),(22,[]),0),
  (32,([(0,.inr (.inl [114])),(1,.inl ((0,13,1),none))],[],[]),(1,[]),0)]
set_option maxRecDepth 100000 in
theorem q827_ok : rf_chkB q827_P q827_U wLay q827_M ddX12_isEntry [(11,[0])] [] [0,32] 600 q827_N = true := by decide +kernel
set_option maxHeartbeats 4000000 in
theorem q827_met {G : rfG} (h : okG G) : rf_met G q827_M := rf_methodB h.1 (P := q827_P) (U := q827_U) (N := q827_N) ⟨wflT h flokX12, wcsT h csokX12, wlcT h lcokX12, spokX12 h, List.forall_mem_cons.mpr ⟨q826_met h, fun _ h => absurd h List.not_mem_nil⟩, List.forall_mem_cons.mpr ⟨fun M hM => Option.some.inj (show some q826_M = some M from hM) ▸ wlkS (lkX12_334 h) q826_M rfl rfl, fun _ h => absurd h List.not_mem_nil⟩, fun _ h => absurd h List.not_mem_nil, fun _ h => absurd h List.not_mem_nil, fun _ h => absurd h List.not_mem_nil⟩ dkX12_isEntry (by decide +kernel) (by rw [h.2.2.1]; exact q827_ok)
/-- NearSpellModel.isSpelled -/
def q828_M : rfM := ((⟨"NearSpellModel", "isSpelled", "(I)Z"⟩, prog_14_method_107_code, 3, (some .boolean)), (2,43), ([.inr (.inl [114]),.inl ((0,387420488,1),none)],[]), [], [(some (.inl ((1,1,0),none)),[],[((90,28),(1,14,1),none)]),(some (.inl ((0,0,0),none)),[],[])])
def ddX12_isSpelled : List (Nat × Instr × Nat) := [(0,.iconst 0,1),(1,.istore_n 2,1),(2,.iload_n 2,1),(3,.bipush 14,2),(5,.if_icmp .ge 31,3),(8,.aload_n 0,1),(9,.iload_n 2,1),(10,.invokevirtual 350,3),(13,.ifCond .eq 17,3),(16,.aload_n 0,1),(17,.getfield 72,3),(20,.iconst 0,1),(21,.iload_n 2,1),(22,.iadd,1),(23,.iaload,1),(24,.iload_n 1,1),(25,.if_icmp .ne 5,3),(28,.iconst 1,1),(29,.ireturn,1),(30,.iinc 2 1,3),(33,.goto (-31),3),(36,.iconst 0,1),(37,.ireturn,1)]
set_option maxRecDepth 100000 in
theorem dkX12_isSpelled : rf_decs prog_14_method_107_code ddX12_isSpelled := rf_decs_of (by decide +kernel)
def q828_P : rfP := (flX12,csX12,lcX12,spX12,[q827_M],[],[(350,0,12)],([],[]))
def q828_U : rfU := []
set_option maxHeartbeats 8000000 in
def q828_N : List rfB := [(0,([(0,.inr (.inl [114])),(1,.inl ((0,387420488,1),none))],[],[]),(290,[0]),0),
  (2,([(0,.inr (.inl [114])),(1,.inl ((0,387420488,1),none)),(2,.inl ((0,14,1),none))],[],[]),(286,[(-19)]),0),
  (30,([(0,.inr (.inl [114])),(1,.inl ((0,387420488,1),none)),(2,.inl ((0,13,1),none))],[],[]),(270,[(-19)]),0)]
set_option maxRecDepth 100000 in
theorem q828_ok : rf_chkB q828_P q828_U wLay q828_M ddX12_isSpelled [(10,[0])] [.inl 2] [0,2,30] 600 q828_N = true := by decide +kernel
set_option maxHeartbeats 4000000 in
theorem q828_met {G : rfG} (h : okG G) : rf_met G q828_M := rf_methodB h.1 (P := q828_P) (U := q828_U) (N := q828_N) ⟨wflT h flokX12, wcsT h csokX12, wlcT h lcokX12, spokX12 h, List.forall_mem_cons.mpr ⟨q827_met h, fun _ h => absurd h List.not_mem_nil⟩, fun _ h => absurd h List.not_mem_nil, List.forall_mem_cons.mpr ⟨fun M hM => Option.some.inj (show some q827_M = some M from hM) ▸ wlkV (lkX12_350 h) q827_M rfl rfl, fun _ h => absurd h List.not_mem_nil⟩, fun _ h => absurd h List.not_mem_nil, fun _ h => absurd h List.not_mem_nil⟩ dkX12_isSpelled (by decide +kernel) (by rw [h.2.2.1]; exact q828_ok)
/-- NearSpellModel.keepAct -/
def q829_M : rfM := ((⟨"NearSpellModel", "keepAct", "()V"⟩, prog_14_method_105_code, 2, none), (0,0), ([.inr (.inl [114])],[]), [(105,0),(114,56),(114,57)], [(none,[],[((114,55),(1,40,1),none),((114,56),(0,0,0),none)])])
def ddX12_keepAct : List (Nat × Instr × Nat) := [(0,.aload_n 0,1),(1,.getfield 338,3),(4,.bipush 40,2),(6,.if_icmp .ne 43,3),(9,.iconst 0,1),(10,.istore_n 1,1),(11,.iload_n 1,1),(12,.sipush 1480,3),(15,.if_icmp .ge 24,3),(18,.aload_n 0,1),(19,.getfield 117,3),(22,.iload_n 1,1),(23,.aload_n 0,1),(24,.getfield 117,3),(27,.iload_n 1,1),(28,.bipush 37,2),(30,.iadd,1),(31,.iaload,1),(32,.iastore,1),(33,.iinc 1 1,3),(36,.goto (-25),3),(39,.aload_n 0,1),(40,.dup,1),(41,.getfield 338,3),(44,.iconst 1,1),(45,.isub,1),(46,.putfield 338,3),(49,.iconst 0,1),(50,.istore_n 1,1),(51,.iload_n 1,1),(52,.bipush 37,2),(54,.if_icmp .ge 29,3),(57,.aload_n 0,1),(58,.getfield 117,3),(61,.bipush 37,2),(63,.aload_n 0,1),(64,.getfield 338,3),(67,.imul,1),(68,.iload_n 1,1),(69,.iadd,1),(70,.aload_n 0,1),(71,.getfield 72,3),(74,.iload_n 1,1),(75,.iaload,1),(76,.iastore,1),(77,.iinc 1 1,3),(80,.goto (-29),3),(83,.aload_n 0,1),(84,.dup,1),(85,.getfield 338,3),(88,.iconst 1,1),(89,.iadd,1),(90,.putfield 338,3),(93,.aload_n 0,1),(94,.iconst 0,1),(95,.putfield 341,3),(98,.return_,1)]
set_option maxRecDepth 100000 in
theorem dkX12_keepAct : rf_decs prog_14_method_105_code ddX12_keepAct := rf_decs_of (by decide +kernel)
def q829_P : rfP := (flX12,csX12,lcX12,spX12,[],[],[],([],[]))
def q829_U : rfU := []
set_option maxHeartbeats 8000000 in
def q829_N : List rfB := [(0,([(0,.inr (.inl [114]))],[],[]),(848807,[0]),0),
  (11,([(0,.inr (.inl [114])),(1,.inl ((0,1480,37),none))],[],[((114,55),(40,40,1),none)]),(848259,[(-556)]),0),
  (11,([(0,.inr (.inl [114])),(1,.inl ((1,1480,37),none))],[],[((114,55),(40,40,1),none)]),(848799,[(-556)]),0),
  (11,([(0,.inr (.inl [114])),(1,.inl ((2,1480,37),none))],[],[((114,55),(40,40,1),none)]),(848784,[(-556)]),0),
  (11,([(0,.inr (.inl [114])),(1,.inl ((3,1480,37),none))],[],[((114,55),(40,40,1),none)]),(848769,[(-556)]),0),
  (11,([(0,.inr (.inl [114])),(1,.inl ((4,1480,37),none))],[],[((114,55),(40,40,1),none)]),(848754,[(-556)]),0),
  (11,([(0,.inr (.inl [114])),(1,.inl ((5,1480,37),none))],[],[((114,55),(40,40,1),none)]),(848739,[(-556)]),0),
  (11,([(0,.inr (.inl [114])),(1,.inl ((6,1480,37),none))],[],[((114,55),(40,40,1),none)]),(848724,[(-556)]),0),
  (11,([(0,.inr (.inl [114])),(1,.inl ((7,1480,37),none))],[],[((114,55),(40,40,1),none)]),(848709,[(-556)]),0),
  (11,([(0,.inr (.inl [114])),(1,.inl ((8,1480,37),none))],[],[((114,55),(40,40,1),none)]),(848694,[(-556)]),0),
  (11,([(0,.inr (.inl [114])),(1,.inl ((9,1480,37),none))],[],[((114,55),(40,40,1),none)]),(848679,[(-556)]),0),
  (11,([(0,.inr (.inl [114])),(1,.inl ((10,1480,37),none))],[],[((114,55),(40,40,1),none)]),(848664,[(-556)]),0),
  (11,([(0,.inr (.inl [114])),(1,.inl ((11,1480,37),none))],[],[((114,55),(40,40,1),none)]),(848649,[(-556)]),0),
  (11,([(0,.inr (.inl [114])),(1,.inl ((12,1480,37),none))],[],[((114,55),(40,40,1),none)]),(848634,[(-556)]),0),
  (11,([(0,.inr (.inl [114])),(1,.inl ((13,1480,37),none))],[],[((114,55),(40,40,1),none)]),(848619,[(-556)]),0),
  (11,([(0,.inr (.inl [114])),(1,.inl ((14,1480,37),none))],[],[((114,55),(40,40,1),none)]),(848604,[(-556)]),0),
  (11,([(0,.inr (.inl [114])),(1,.inl ((15,1480,37),none))],[],[((114,55),(40,40,1),none)]),(848589,[(-556)]),0),
  (11,([(0,.inr (.inl [114])),(1,.inl ((16,1480,37),none))],[],[((114,55),(40,40,1),none)]),(848574,[(-556)]),0),
  (11,([(0,.inr (.inl [114])),(1,.inl ((17,1480,37),none))],[],[((114,55),(40,40,1),none)]),(848559,[(-556)]),0),
  (11,([(0,.inr (.inl [114])),(1,.inl ((18,1480,37),none))],[],[((114,55),(40,40,1),none)]),(848544,[(-556)]),0),
  (11,([(0,.inr (.inl [114])),(1,.inl ((19,1480,37),none))],[],[((114,55),(40,40,1),none)]),(848529,[(-556)]),0),
  (11,([(0,.inr (.inl [114])),(1,.inl ((20,1480,37),none))],[],[((114,55),(40,40,1),none)]),(848514,[(-556)]),0),
  (11,([(0,.inr (.inl [114])),(1,.inl ((21,1480,37),none))],[],[((114,55),(40,40,1),none)]),(848499,[(-556)]),0),
  (11,([(0,.inr (.inl [114])),(1,.inl ((22,1480,37),none))],[],[((114,55),(40,40,1),none)]),(848484,[(-556)]),0),
  (11,([(0,.inr (.inl [114])),(1,.inl ((23,1480,37),none))],[],[((114,55),(40,40,1),none)]),(848469,[(-556)]),0),
  (11,([(0,.inr (.inl [114])),(1,.inl ((24,1480,37),none))],[],[((114,55),(40,40,1),none)]),(848454,[(-556)]),0),
  (11,([(0,.inr (.inl [114])),(1,.inl ((25,1480,37),none))],[],[((114,55),(40,40,1),none)]),(848439,[(-556)]),0),
  (11,([(0,.inr (.inl [114])),(1,.inl ((26,1480,37),none))],[],[((114,55),(40,40,1),none)]),(848424,[(-556)]),0),
  (11,([(0,.inr (.inl [114])),(1,.inl ((27,1480,37),none))],[],[((114,55),(40,40,1),none)]),(848409,[(-556)]),0),
  (11,([(0,.inr (.inl [114])),(1,.inl ((28,1480,37),none))],[],[((114,55),(40,40,1),none)]),(848394,[(-556)]),0),
  (11,([(0,.inr (.inl [114])),(1,.inl ((29,1480,37),none))],[],[((114,55),(40,40,1),none)]),(848379,[(-556)]),0),
  (11,([(0,.inr (.inl [114])),(1,.inl ((30,1480,37),none))],[],[((114,55),(40,40,1),none)]),(848364,[(-556)]),0),
  (11,([(0,.inr (.inl [114])),(1,.inl ((31,1480,37),none))],[],[((114,55),(40,40,1),none)]),(848349,[(-556)]),0),
  (11,([(0,.inr (.inl [114])),(1,.inl ((32,1480,37),none))],[],[((114,55),(40,40,1),none)]),(848334,[(-556)]),0),
  (11,([(0,.inr (.inl [114])),(1,.inl ((33,1480,37),none))],[],[((114,55),(40,40,1),none)]),(848319,[(-556)]),0),
  (11,([(0,.inr (.inl [114])),(1,.inl ((34,1480,37),none))],[],[((114,55),(40,40,1),none)]),(848304,[(-556)]),0),
  (11,([(0,.inr (.inl [114])),(1,.inl ((35,1480,37),none))],[],[((114,55),(40,40,1),none)]),(848289,[(-556)]),0),
  (11,([(0,.inr (.inl [114])),(1,.inl ((36,1480,37),none))],[],[((114,55),(40,40,1),none)]),(848274,[(-556)]),0),
  (51,([(0,.inr (.inl [114])),(1,.inl ((0,37,37),none))],[],[((114,55),(0,39,1),none)]),(24705,[(-667)]),0),
  (51,([(0,.inr (.inl [114])),(1,.inl ((1,37,37),none))],[],[((114,55),(0,39,1),none)]),(25353,[(-667)]),0),
  (51,([(0,.inr (.inl [114])),(1,.inl ((2,37,37),none))],[],[((114,55),(0,39,1),none)]),(25335,[(-667)]),0),
  (51,([(0,.inr (.inl [114])),(1,.inl ((3,37,37),none))],[],[((114,55),(0,39,1),none)]),(25317,[(-667)]),0),
  (51,([(0,.inr (.inl [114])),(1,.inl ((4,37,37),none))],[],[((114,55),(0,39,1),none)]),(25299,[(-667)]),0),
  (51,([(0,.inr (.inl [114])),(1,.inl ((5,37,37),none))],[],[((114,55),(0,39,1),none)]),(25281,[(-667)]),0),
  (51,([(0,.inr (.inl [114])),(1,.inl ((6,37,37),none))],[],[((114,55),(0,39,1),none)]),(25263,[(-667)]),0),
  (51,([(0,.inr (.inl [114])),(1,.inl ((7,37,37),none))],[],[((114,55),(0,39,1),none)]),(25245,[(-667)]),0),
  (51,([(0,.inr (.inl [114])),(1,.inl ((8,37,37),none))],[],[((114,55),(0,39,1),none)]),(25227,[(-667)]),0),
  (51,([(0,.inr (.inl [114])),(1,.inl ((9,37,37),none))],[],[((114,55),(0,39,1),none)]),(25209,[(-667)]),0),
  (51,([(0,.inr (.inl [114])),(1,.inl ((10,37,37),none))],[],[((114,55),(0,39,1),none)]),(25191,[(-667)]),0),
  (51,([(0,.inr (.inl [114])),(1,.inl ((11,37,37),none))],[],[((114,55),(0,39,1),none)]),(25173,[(-667)]),0),
  (51,([(0,.inr (.inl [114])),(1,.inl ((12,37,37),none))],[],[((114,55),(0,39,1),none)]),(25155,[(-667)]),0),
  (51,([(0,.inr (.inl [114])),(1,.inl ((13,37,37),none))],[],[((114,55),(0,39,1),none)]),(25137,[(-667)]),0),
  (51,([(0,.inr (.inl [114])),(1,.inl ((14,37,37),none))],[],[((114,55),(0,39,1),none)]),(25119,[(-667)]),0),
  (51,([(0,.inr (.inl [114])),(1,.inl ((15,37,37),none))],[],[((114,55),(0,39,1),none)]),(25101,[(-667)]),0),
  (51,([(0,.inr (.inl [114])),(1,.inl ((16,37,37),none))],[],[((114,55),(0,39,1),none)]),(25083,[(-667)]),0),
  (51,([(0,.inr (.inl [114])),(1,.inl ((17,37,37),none))],[],[((114,55),(0,39,1),none)]),(25065,[(-667)]),0),
  (51,([(0,.inr (.inl [114])),(1,.inl ((18,37,37),none))],[],[((114,55),(0,39,1),none)]),(25047,[(-667)]),0),
  (51,([(0,.inr (.inl [114])),(1,.inl ((19,37,37),none))],[],[((114,55),(0,39,1),none)]),(25029,[(-667)]),0),
  (51,([(0,.inr (.inl [114])),(1,.inl ((20,37,37),none))],[],[((114,55),(0,39,1),none)]),(25011,[(-667)]),0),
  (51,([(0,.inr (.inl [114])),(1,.inl ((21,37,37),none))],[],[((114,55),(0,39,1),none)]),(24993,[(-667)]),0),
  (51,([(0,.inr (.inl [114])),(1,.inl ((22,37,37),none))],[],[((114,55),(0,39,1),none)]),(24975,[(-667)]),0),
  (51,([(0,.inr (.inl [114])),(1,.inl ((23,37,37),none))],[],[((114,55),(0,39,1),none)]),(24957,[(-667)]),0),
  (51,([(0,.inr (.inl [114])),(1,.inl ((24,37,37),none))],[],[((114,55),(0,39,1),none)]),(24939,[(-667)]),0),
  (51,([(0,.inr (.inl [114])),(1,.inl ((25,37,37),none))],[],[((114,55),(0,39,1),none)]),(24921,[(-667)]),0),
  (51,([(0,.inr (.inl [114])),(1,.inl ((26,37,37),none))],[],[((114,55),(0,39,1),none)]),(24903,[(-667)]),0),
  (51,([(0,.inr (.inl [114])),(1,.inl ((27,37,37),none))],[],[((114,55),(0,39,1),none)]),(24885,[(-667)]),0),
  (51,([(0,.inr (.inl [114])),(1,.inl ((28,37,37),none))],[],[((114,55),(0,39,1),none)]),(24867,[(-667)]),0),
  (51,([(0,.inr (.inl [114])),(1,.inl ((29,37,37),none))],[],[((114,55),(0,39,1),none)]),(24849,[(-667)]),0),
  (51,([(0,.inr (.inl [114])),(1,.inl ((30,37,37),none))],[],[((114,55),(0,39,1),none)]),(24831,[(-667)]),0),
  (51,([(0,.inr (.inl [114])),(1,.inl ((31,37,37),none))],[],[((114,55),(0,39,1),none)]),(24813,[(-667)]),0),
  (51,([(0,.inr (.inl [114])),(1,.inl ((32,37,37),none))],[],[((114,55),(0,39,1),none)]),(24795,[(-667)]),0),
  (51,([(0,.inr (.inl [114])),(1,.inl ((33,37,37),none))],[],[((114,55),(0,39,1),none)]),(24777,[(-667)]),0),
  (51,([(0,.inr (.inl [114])),(1,.inl ((34,37,37),none))],[],[((114,55),(0,39,1),none)]),(24759,[(-667)]),0),
  (51,([(0,.inr (.inl [114])),(1,.inl ((35,37,37),none))],[],[((114,55),(0,39,1),none)]),(24741,[(-667)]),0),
  (51,([(0,.inr (.inl [114])),(1,.inl ((36,37,37),none))],[],[((114,55),(0,39,1),none)]),(24723,[(-667)]),0)]
set_option maxRecDepth 100000 in
theorem q829_ok : rf_chkB q829_P q829_U wLay q829_M ddX12_keepAct [] [.inl 1] [0,11,51] 600 q829_N = true := by decide +kernel
set_option maxHeartbeats 4000000 in
theorem q829_met {G : rfG} (h : okG G) : rf_met G q829_M := rf_methodB h.1 (P := q829_P) (U := q829_U) (N := q829_N) ⟨wflT h flokX12, wcsT h csokX12, wlcT h lcokX12, spokX12 h, fun _ h => absurd h List.not_mem_nil, fun _ h => absurd h List.not_mem_nil, fun _ h => absurd h List.not_mem_nil, fun _ h => absurd h List.not_mem_nil, fun _ h => absurd h List.not_mem_nil⟩ dkX12_keepAct (by decide +kernel) (by rw [h.2.2.1]; exact q829_ok)
/-- NearSpellModel.learn -/
def q830_M : rfM := ((⟨"NearSpellModel", "learn", "(II)I"⟩, prog_14_method_108_code, 4, (some .int)), (3,65), ([.inr (.inl [114]),.inl (((-2147483648),2147483647,1),none),.inl (((-2147483648),2147483647,1),none)],[((114,28),(0,0,0),none),((998,0),(1,1,0),none)]), [(90,0),(105,0),(114,56),(114,57)], [(some (.inl (((-1),13,1),none)),[],[])])
def ddX12_learn : List (Nat × Instr × Nat) := [(0,.iload_n 1,1),(1,.invokestatic 420,3),(4,.ifCond .eq 34,3),(7,.iload_n 2,1),(8,.iconst 0,1),(9,.sipush 999,3),(12,.invokestatic 334,3),(15,.ifCond .eq 23,3),(18,.aload_n 0,1),(19,.getfield 72,3),(22,.bipush 28,2),(24,.iaload,1),(25,.bipush 14,2),(27,.if_icmp .eq 11,3),(30,.aload_n 0,1),(31,.iload_n 1,1),(32,.invokevirtual 468,3),(35,.ifCond .eq 5,3),(38,.iconst (-1),1),(39,.ireturn,1),(40,.aload_n 0,1),(41,.invokevirtual 471,3),(44,.aload_n 0,1),(45,.getfield 72,3),(48,.bipush 28,2),(50,.iaload,1),(51,.istore_n 3,1),(52,.aload_n 0,1),(53,.getfield 72,3),(56,.iconst 0,1),(57,.iload_n 3,1),(58,.iadd,1),(59,.iload_n 1,1),(60,.iastore,1),(61,.aload_n 0,1),(62,.getfield 72,3),(65,.bipush 14,2),(67,.iload_n 3,1),(68,.iadd,1),(69,.iload_n 2,1),(70,.iastore,1),(71,.aload_n 0,1),(72,.getfield 72,3),(75,.bipush 28,2),(77,.iload_n 3,1),(78,.iconst 1,1),(79,.iadd,1),(80,.iastore,1),(81,.iload_n 3,1),(82,.ireturn,1)]
set_option maxRecDepth 100000 in
theorem dkX12_learn : rf_decs prog_14_method_108_code ddX12_learn := rf_decs_of (by decide +kernel)
def q830_P : rfP := (flX12,csX12,lcX12,spX12,[q810_M,q811_M,q828_M,q829_M],[(334,1),(420,0)],[(468,2,12),(471,3,12)],([],[]))
def q830_U : rfU := []
set_option maxHeartbeats 8000000 in
def q830_N : List rfB := [(0,([(0,.inr (.inl [114])),(1,.inl (((-2147483648),2147483647,1),none)),(2,.inl (((-2147483648),2147483647,1),none))],[],[((114,28),(0,0,0),some ((114,28),0,0)),((998,0),(1,1,0),some ((998,0),0,0))]),(52,[]),0),
  (38,([(0,.inr (.inl [114])),(1,.inl (((-2147483648),2147483647,1),none)),(2,.inl (((-2147483648),2147483647,1),none))],[],[((114,28),(0,0,0),some ((114,28),0,0)),((998,0),(1,1,0),some ((998,0),0,0))]),(1,[]),0)]
set_option maxRecDepth 100000 in
theorem q830_ok : rf_chkB q830_P q830_U wLay q830_M ddX12_learn [(1,[0]),(12,[1]),(32,[2]),(41,[3])] [] [0,38] 600 q830_N = true := by decide +kernel
set_option maxHeartbeats 4000000 in
theorem q830_met {G : rfG} (h : okG G) : rf_met G q830_M := rf_methodB h.1 (P := q830_P) (U := q830_U) (N := q830_N) ⟨wflT h flokX12, wcsT h csokX12, wlcT h lcokX12, spokX12 h, List.forall_mem_cons.mpr ⟨q810_met h, List.forall_mem_cons.mpr ⟨q811_met h, List.forall_mem_cons.mpr ⟨q828_met h, List.forall_mem_cons.mpr ⟨q829_met h, fun _ h => absurd h List.not_mem_nil⟩⟩⟩⟩, List.forall_mem_cons.mpr ⟨fun M hM => Option.some.inj (show some q811_M = some M from hM) ▸ wlkS (lkX12_334 h) q811_M rfl rfl, List.forall_mem_cons.mpr ⟨fun M hM => Option.some.inj (show some q810_M = some M from hM) ▸ wlkS (lkX12_420 h) q810_M rfl rfl, fun _ h => absurd h List.not_mem_nil⟩⟩, List.forall_mem_cons.mpr ⟨fun M hM => Option.some.inj (show some q828_M = some M from hM) ▸ wlkV (lkX12_468 h) q828_M rfl rfl, List.forall_mem_cons.mpr ⟨fun M hM => Option.some.inj (show some q829_M = some M from hM) ▸ wlkV (lkX12_471 h) q829_M rfl rfl, fun _ h => absurd h List.not_mem_nil⟩⟩, fun _ h => absurd h List.not_mem_nil, fun _ h => absurd h List.not_mem_nil⟩ dkX12_learn (by decide +kernel) (by rw [h.2.2.1]; exact q830_ok)
/-- NearSpellModel.learn -/
def q831_M : rfM := ((⟨"NearSpellModel", "learn", "(II)I"⟩, prog_14_method_108_code, 4, (some .int)), (3,65), ([.inr (.inl [114]),.inl (((-2147483648),2147483647,1),none),.inl (((-2147483648),2147483647,1),none)],[((77,1),(1,31,1),none),((114,28),(1,1,0),none),((998,0),(1,1,0),none)]), [(90,0),(105,0),(114,56),(114,57)], [(some (.inl (((-1),13,1),none)),[],[])])
def q831_P : rfP := (flX12,csX12,lcX12,spX12,[q810_M,q811_M,q828_M,q829_M],[(334,1),(420,0)],[(468,2,12),(471,3,12)],([],[]))
def q831_U : rfU := []
set_option maxHeartbeats 8000000 in
def q831_N : List rfB := [(0,([(0,.inr (.inl [114])),(1,.inl (((-2147483648),2147483647,1),none)),(2,.inl (((-2147483648),2147483647,1),none))],[],[((77,1),(1,31,1),some ((77,1),0,0)),((114,28),(1,1,0),some ((114,28),0,0)),((998,0),(1,1,0),some ((998,0),0,0))]),(52,[]),0),
  (38,([(0,.inr (.inl [114])),(1,.inl (((-2147483648),2147483647,1),none)),(2,.inl (((-2147483648),2147483647,1),none))],[],[((77,1),(1,31,1),some ((77,1),0,0)),((114,28),(1,1,0),some ((114,28),0,0)),((998,0),(1,1,0),some ((998,0),0,0))]),(1,[]),0)]
set_option maxRecDepth 100000 in
theorem q831_ok : rf_chkB q831_P q831_U wLay q831_M ddX12_learn [(1,[0]),(12,[1]),(32,[2]),(41,[3])] [] [0,38] 600 q831_N = true := by decide +kernel
set_option maxHeartbeats 4000000 in
theorem q831_met {G : rfG} (h : okG G) : rf_met G q831_M := rf_methodB h.1 (P := q831_P) (U := q831_U) (N := q831_N) ⟨wflT h flokX12, wcsT h csokX12, wlcT h lcokX12, spokX12 h, List.forall_mem_cons.mpr ⟨q810_met h, List.forall_mem_cons.mpr ⟨q811_met h, List.forall_mem_cons.mpr ⟨q828_met h, List.forall_mem_cons.mpr ⟨q829_met h, fun _ h => absurd h List.not_mem_nil⟩⟩⟩⟩, List.forall_mem_cons.mpr ⟨fun M hM => Option.some.inj (show some q811_M = some M from hM) ▸ wlkS (lkX12_334 h) q811_M rfl rfl, List.forall_mem_cons.mpr ⟨fun M hM => Option.some.inj (show some q810_M = some M from hM) ▸ wlkS (lkX12_420 h) q810_M rfl rfl, fun _ h => absurd h List.not_mem_nil⟩⟩, List.forall_mem_cons.mpr ⟨fun M hM => Option.some.inj (show some q828_M = some M from hM) ▸ wlkV (lkX12_468 h) q828_M rfl rfl, List.forall_mem_cons.mpr ⟨fun M hM => Option.some.inj (show some q829_M = some M from hM) ▸ wlkV (lkX12_471 h) q829_M rfl rfl, fun _ h => absurd h List.not_mem_nil⟩⟩, fun _ h => absurd h List.not_mem_nil, fun _ h => absurd h List.not_mem_nil⟩ dkX12_learn (by decide +kernel) (by rw [h.2.2.1]; exact q831_ok)
/-- NearSpellModel.entriesNow -/
def q832_M : rfM := ((⟨"NearSpellModel", "entriesNow", "()I"⟩, prog_14_method_47_code, 3, (some .int)), (2,43), ([.inr (.inl [114])],[]), [], [(some (.inl ((0,16383,1),none)),[],[])])
def ddX12_entriesNow : List (Nat × Instr × Nat) := [(0,.iconst 0,1),(1,.istore_n 1,1),(2,.iconst 0,1),(3,.istore_n 2,1),(4,.iload_n 2,1),(5,.bipush 14,2),(7,.if_icmp .ge 23,3),(10,.aload_n 0,1),(11,.iload_n 2,1),(12,.invokevirtual 350,3),(15,.ifCond .eq 9,3),(18,.iload_n 1,1),(19,.iconst 1,1),(20,.iload_n 2,1),(21,.ishl,1),(22,.ior,1),(23,.istore_n 1,1),(24,.iinc 2 1,3),(27,.goto (-23),3),(30,.iload_n 1,1),(31,.ireturn,1)]
set_option maxRecDepth 100000 in
theorem dkX12_entriesNow : rf_decs prog_14_method_47_code ddX12_entriesNow := rf_decs_of (by decide +kernel)
def q832_P : rfP := (flX12,csX12,lcX12,spX12,[q827_M],[],[(350,0,12)],([],[]))
def q832_U : rfU := []
set_option maxHeartbeats 8000000 in
def q832_N : List rfB := [(0,([(0,.inr (.inl [114]))],[],[]),(260,[0]),0),
  (4,([(0,.inr (.inl [114])),(1,.inl ((0,16383,1),none)),(2,.inl ((0,14,1),none))],[],[]),(254,[(-17)]),0),
  (24,([(0,.inr (.inl [114])),(1,.inl ((0,16383,1),none)),(2,.inl ((0,13,1),none))],[],[]),(240,[(-17)]),0)]
set_option maxRecDepth 100000 in
theorem q832_ok : rf_chkB q832_P q832_U wLay q832_M ddX12_entriesNow [(12,[0])] [.inl 2] [0,4,24] 600 q832_N = true := by decide +kernel
set_option maxHeartbeats 4000000 in
theorem q832_met {G : rfG} (h : okG G) : rf_met G q832_M := rf_methodB h.1 (P := q832_P) (U := q832_U) (N := q832_N) ⟨wflT h flokX12, wcsT h csokX12, wlcT h lcokX12, spokX12 h, List.forall_mem_cons.mpr ⟨q827_met h, fun _ h => absurd h List.not_mem_nil⟩, fun _ h => absurd h List.not_mem_nil, List.forall_mem_cons.mpr ⟨fun M hM => Option.some.inj (show some q827_M = some M from hM) ▸ wlkV (lkX12_350 h) q827_M rfl rfl, fun _ h => absurd h List.not_mem_nil⟩, fun _ h => absurd h List.not_mem_nil, fun _ h => absurd h List.not_mem_nil⟩ dkX12_entriesNow (by decide +kernel) (by rw [h.2.2.1]; exact q832_ok)
/-- NearSpellModel.forget -/
def q833_M : rfM := ((⟨"NearSpellModel", "forget", "(I)I"⟩, prog_14_method_109_code, 2, (some .int)), (3,65), ([.inr (.inl [114]),.inl (((-2147483648),2147483647,1),none)],[((114,28),(0,0,0),none),((998,0),(1,1,0),none)]), [(90,0),(105,0),(114,56),(114,57)], [(some (.inl (((-2147483648),2147483647,1),none)),[],[])])
def ddX12_forget : List (Nat × Instr × Nat) := [(0,.aload_n 0,1),(1,.iload_n 1,1),(2,.invokevirtual 350,3),(5,.ifCond .ne 5,3),(8,.iconst (-1),1),(9,.ireturn,1),(10,.aload_n 0,1),(11,.invokevirtual 471,3),(14,.aload_n 0,1),(15,.getfield 72,3),(18,.iconst 0,1),(19,.iload_n 1,1),(20,.iadd,1),(21,.iconst (-1),1),(22,.iastore,1),(23,.aload_n 0,1),(24,.invokevirtual 423,3),(27,.invokestatic 356,3),(30,.ireturn,1)]
set_option maxRecDepth 100000 in
theorem dkX12_forget : rf_decs prog_14_method_109_code ddX12_forget := rf_decs_of (by decide +kernel)
def q833_P : rfP := (flX12,csX12,lcX12,spX12,[q788_M,q829_M,q832_M,q792_M],[(356,3)],[(350,0,12),(423,2,12),(471,1,12)],([],[]))
def q833_U : rfU := []
set_option maxHeartbeats 8000000 in
def q833_N : List rfB := [(0,([(0,.inr (.inl [114])),(1,.inl (((-2147483648),2147483647,1),none))],[],[((114,28),(0,0,0),some ((114,28),0,0)),((998,0),(1,1,0),some ((998,0),0,0))]),(19,[]),0)]
set_option maxRecDepth 100000 in
theorem q833_ok : rf_chkB q833_P q833_U wLay q833_M ddX12_forget [(2,[0]),(11,[1]),(24,[2]),(27,[3])] [] [0] 600 q833_N = true := by decide +kernel
set_option maxHeartbeats 4000000 in
theorem q833_met {G : rfG} (h : okG G) : rf_met G q833_M := rf_methodB h.1 (P := q833_P) (U := q833_U) (N := q833_N) ⟨wflT h flokX12, wcsT h csokX12, wlcT h lcokX12, spokX12 h, List.forall_mem_cons.mpr ⟨q788_met h, List.forall_mem_cons.mpr ⟨q829_met h, List.forall_mem_cons.mpr ⟨q832_met h, List.forall_mem_cons.mpr ⟨q792_met h, fun _ h => absurd h List.not_mem_nil⟩⟩⟩⟩, List.forall_mem_cons.mpr ⟨fun M hM => Option.some.inj (show some q792_M = some M from hM) ▸ wlkS (lkX12_356 h) q792_M rfl rfl, fun _ h => absurd h List.not_mem_nil⟩, List.forall_mem_cons.mpr ⟨fun M hM => Option.some.inj (show some q788_M = some M from hM) ▸ wlkV (lkX12_350 h) q788_M rfl rfl, List.forall_mem_cons.mpr ⟨fun M hM => Option.some.inj (show some q832_M = some M from hM) ▸ wlkV (lkX12_423 h) q832_M rfl rfl, List.forall_mem_cons.mpr ⟨fun M hM => Option.some.inj (show some q829_M = some M from hM) ▸ wlkV (lkX12_471 h) q829_M rfl rfl, fun _ h => absurd h List.not_mem_nil⟩⟩⟩, fun _ h => absurd h List.not_mem_nil, fun _ h => absurd h List.not_mem_nil⟩ dkX12_forget (by decide +kernel) (by rw [h.2.2.1]; exact q833_ok)
/-- NearSpellModel.forget -/
def q834_M : rfM := ((⟨"NearSpellModel", "forget", "(I)I"⟩, prog_14_method_109_code, 2, (some .int)), (3,65), ([.inr (.inl [114]),.inl (((-2147483648),2147483647,1),none)],[((77,1),(1,31,1),none),((114,28),(1,1,0),none),((998,0),(1,1,0),none)]), [(90,0),(105,0),(114,56),(114,57)], [(some (.inl (((-2147483648),2147483647,1),none)),[],[])])
def q834_P : rfP := (flX12,csX12,lcX12,spX12,[q788_M,q829_M,q832_M,q792_M],[(356,3)],[(350,0,12),(423,2,12),(471,1,12)],([],[]))
def q834_U : rfU := []
set_option maxHeartbeats 8000000 in
def q834_N : List rfB := [(0,([(0,.inr (.inl [114])),(1,.inl (((-2147483648),2147483647,1),none))],[],[((77,1),(1,31,1),some ((77,1),0,0)),((114,28),(1,1,0),some ((114,28),0,0)),((998,0),(1,1,0),some ((998,0),0,0))]),(19,[]),0)]
set_option maxRecDepth 100000 in
theorem q834_ok : rf_chkB q834_P q834_U wLay q834_M ddX12_forget [(2,[0]),(11,[1]),(24,[2]),(27,[3])] [] [0] 600 q834_N = true := by decide +kernel
set_option maxHeartbeats 4000000 in
theorem q834_met {G : rfG} (h : okG G) : rf_met G q834_M := rf_methodB h.1 (P := q834_P) (U := q834_U) (N := q834_N) ⟨wflT h flokX12, wcsT h csokX12, wlcT h lcokX12, spokX12 h, List.forall_mem_cons.mpr ⟨q788_met h, List.forall_mem_cons.mpr ⟨q829_met h, List.forall_mem_cons.mpr ⟨q832_met h, List.forall_mem_cons.mpr ⟨q792_met h, fun _ h => absurd h List.not_mem_nil⟩⟩⟩⟩, List.forall_mem_cons.mpr ⟨fun M hM => Option.some.inj (show some q792_M = some M from hM) ▸ wlkS (lkX12_356 h) q792_M rfl rfl, fun _ h => absurd h List.not_mem_nil⟩, List.forall_mem_cons.mpr ⟨fun M hM => Option.some.inj (show some q788_M = some M from hM) ▸ wlkV (lkX12_350 h) q788_M rfl rfl, List.forall_mem_cons.mpr ⟨fun M hM => Option.some.inj (show some q832_M = some M from hM) ▸ wlkV (lkX12_423 h) q832_M rfl rfl, List.forall_mem_cons.mpr ⟨fun M hM => Option.some.inj (show some q829_M = some M from hM) ▸ wlkV (lkX12_471 h) q829_M rfl rfl, fun _ h => absurd h List.not_mem_nil⟩⟩⟩, fun _ h => absurd h List.not_mem_nil, fun _ h => absurd h List.not_mem_nil⟩ dkX12_forget (by decide +kernel) (by rw [h.2.2.1]; exact q834_ok)
/-- NearSpellModel.use -/
def q835_M : rfM := ((⟨"NearSpellModel", "use", "(I)I"⟩, prog_14_method_110_code, 2, (some .int)), (2,43), ([.inr (.inl [114]),.inl (((-2147483648),2147483647,1),none)],[((114,28),(0,0,0),none),((998,0),(1,1,0),none)]), [(90,0),(105,0),(114,56),(114,57)], [(some (.inl (((-2147483648),2147483647,1),none)),[],[])])
def ddX12_use : List (Nat × Instr × Nat) := [(0,.aload_n 0,1),(1,.iload_n 1,1),(2,.invokevirtual 350,3),(5,.ifCond .eq 18,3),(8,.aload_n 0,1),(9,.getfield 72,3),(12,.bipush 14,2),(14,.iload_n 1,1),(15,.iadd,1),(16,.iaload,1),(17,.sipush 999,3),(20,.if_icmp .ne 5,3),(23,.iconst (-1),1),(24,.ireturn,1),(25,.aload_n 0,1),(26,.invokevirtual 471,3),(29,.aload_n 0,1),(30,.getfield 72,3),(33,.bipush 14,2),(35,.iload_n 1,1),(36,.iadd,1),(37,.dup2,1),(38,.iaload,1),(39,.iconst 1,1),(40,.iadd,1),(41,.iastore,1),(42,.aload_n 0,1),(43,.getfield 72,3),(46,.bipush 14,2),(48,.iload_n 1,1),(49,.iadd,1),(50,.iaload,1),(51,.ireturn,1)]
set_option maxRecDepth 100000 in
theorem dkX12_use : rf_decs prog_14_method_110_code ddX12_use := rf_decs_of (by decide +kernel)
def q835_P : rfP := (flX12,csX12,lcX12,spX12,[q788_M,q829_M],[],[(350,0,12),(471,1,12)],([],[]))
def q835_U : rfU := []
set_option maxHeartbeats 8000000 in
def q835_N : List rfB := [(0,([(0,.inr (.inl [114])),(1,.inl (((-2147483648),2147483647,1),none))],[],[((114,28),(0,0,0),some ((114,28),0,0)),((998,0),(1,1,0),some ((998,0),0,0))]),(33,[]),0),
  (23,([(0,.inr (.inl [114])),(1,.inl (((-2147483648),2147483647,1),none))],[],[((114,28),(0,0,0),some ((114,28),0,0)),((998,0),(1,1,0),some ((998,0),0,0))]),(20,[]),0)]
set_option maxRecDepth 100000 in
theorem q835_ok : rf_chkB q835_P q835_U wLay q835_M ddX12_use [(2,[0]),(26,[1])] [] [0,23] 600 q835_N = true := by decide +kernel
set_option maxHeartbeats 4000000 in
theorem q835_met {G : rfG} (h : okG G) : rf_met G q835_M := rf_methodB h.1 (P := q835_P) (U := q835_U) (N := q835_N) ⟨wflT h flokX12, wcsT h csokX12, wlcT h lcokX12, spokX12 h, List.forall_mem_cons.mpr ⟨q788_met h, List.forall_mem_cons.mpr ⟨q829_met h, fun _ h => absurd h List.not_mem_nil⟩⟩, fun _ h => absurd h List.not_mem_nil, List.forall_mem_cons.mpr ⟨fun M hM => Option.some.inj (show some q788_M = some M from hM) ▸ wlkV (lkX12_350 h) q788_M rfl rfl, List.forall_mem_cons.mpr ⟨fun M hM => Option.some.inj (show some q829_M = some M from hM) ▸ wlkV (lkX12_471 h) q829_M rfl rfl, fun _ h => absurd h List.not_mem_nil⟩⟩, fun _ h => absurd h List.not_mem_nil, fun _ h => absurd h List.not_mem_nil⟩ dkX12_use (by decide +kernel) (by rw [h.2.2.1]; exact q835_ok)
/-- NearSpellModel.use -/
def q836_M : rfM := ((⟨"NearSpellModel", "use", "(I)I"⟩, prog_14_method_110_code, 2, (some .int)), (2,43), ([.inr (.inl [114]),.inl (((-2147483648),2147483647,1),none)],[((77,1),(1,31,1),none),((114,28),(1,1,0),none),((998,0),(1,1,0),none)]), [(90,0),(105,0),(114,56),(114,57)], [(some (.inl (((-2147483648),2147483647,1),none)),[],[])])
def q836_P : rfP := (flX12,csX12,lcX12,spX12,[q788_M,q829_M],[],[(350,0,12),(471,1,12)],([],[]))
def q836_U : rfU := []
set_option maxHeartbeats 8000000 in
def q836_N : List rfB := [(0,([(0,.inr (.inl [114])),(1,.inl (((-2147483648),2147483647,1),none))],[],[((77,1),(1,31,1),some ((77,1),0,0)),((114,28),(1,1,0),some ((114,28),0,0)),((998,0),(1,1,0),some ((998,0),0,0))]),(33,[]),0),
  (23,([(0,.inr (.inl [114])),(1,.inl (((-2147483648),2147483647,1),none))],[],[((77,1),(1,31,1),some ((77,1),0,0)),((114,28),(1,1,0),some ((114,28),0,0)),((998,0),(1,1,0),some ((998,0),0,0))]),(20,[]),0)]
set_option maxRecDepth 100000 in
theorem q836_ok : rf_chkB q836_P q836_U wLay q836_M ddX12_use [(2,[0]),(26,[1])] [] [0,23] 600 q836_N = true := by decide +kernel
set_option maxHeartbeats 4000000 in
theorem q836_met {G : rfG} (h : okG G) : rf_met G q836_M := rf_methodB h.1 (P := q836_P) (U := q836_U) (N := q836_N) ⟨wflT h flokX12, wcsT h csokX12, wlcT h lcokX12, spokX12 h, List.forall_mem_cons.mpr ⟨q788_met h, List.forall_mem_cons.mpr ⟨q829_met h, fun _ h => absurd h List.not_mem_nil⟩⟩, fun _ h => absurd h List.not_mem_nil, List.forall_mem_cons.mpr ⟨fun M hM => Option.some.inj (show some q788_M = some M from hM) ▸ wlkV (lkX12_350 h) q788_M rfl rfl, List.forall_mem_cons.mpr ⟨fun M hM => Option.some.inj (show some q829_M = some M from hM) ▸ wlkV (lkX12_471 h) q829_M rfl rfl, fun _ h => absurd h List.not_mem_nil⟩⟩, fun _ h => absurd h List.not_mem_nil, fun _ h => absurd h List.not_mem_nil⟩ dkX12_use (by decide +kernel) (by rw [h.2.2.1]; exact q836_ok)
/-- NearSpellModel.lengthOf -/
def q837_M : rfM := ((⟨"NearSpellModel", "lengthOf", "(I)I"⟩, prog_14_method_41_code, 3, (some .int)), (0,0), ([.inl ((0,387420488,1),none)],[]), [], [(some (.inl ((0,6,1),none)),[],[])])
def q837_P : rfP := (flX12,csX12,lcX12,spX12,[],[],[],([],[]))
def q837_U : rfU := []
set_option maxHeartbeats 8000000 in
def q837_N : List rfB := [(0,([(0,.inl ((0,387420488,1),none))],[],[]),(67,[]),0),
  (4,([(0,.inl ((0,387420488,1),none)),(1,.inl ((0,0,0),none)),(2,.inl ((0,387420488,1),some (.inl 0,some 0)))],[],[]),(63,[]),0),
  (4,([(0,.inl ((1,387420488,1),none)),(1,.inl ((1,1,0),none)),(2,.inl ((0,14348906,1),some (.inl 0,none)))],[],[]),(55,[]),0),
  (4,([(0,.inl ((1,387420488,1),none)),(1,.inl ((2,2,0),none)),(2,.inl ((0,531440,1),none))],[],[]),(47,[]),0),
  (4,([(0,.inl ((1,387420488,1),none)),(1,.inl ((3,3,0),none)),(2,.inl ((0,19682,1),none))],[],[]),(39,[]),0),
  (4,([(0,.inl ((1,387420488,1),none)),(1,.inl ((4,4,0),none)),(2,.inl ((0,728,1),none))],[],[]),(31,[]),0),
  (4,([(0,.inl ((1,387420488,1),none)),(1,.inl ((5,5,0),none)),(2,.inl ((0,26,1),none))],[],[]),(23,[]),0),
  (4,([(0,.inl ((1,387420488,1),none)),(1,.inl ((6,6,0),none)),(2,.inl ((0,0,1),none))],[],[]),(15,[]),0)]
set_option maxRecDepth 100000 in
theorem q837_ok : rf_chkB q837_P q837_U wLay q837_M ddX12_lengthOf [] [] [0,4] 600 q837_N = true := by decide +kernel
set_option maxHeartbeats 4000000 in
theorem q837_met {G : rfG} (h : okG G) : rf_met G q837_M := rf_methodB h.1 (P := q837_P) (U := q837_U) (N := q837_N) ⟨wflT h flokX12, wcsT h csokX12, wlcT h lcokX12, spokX12 h, fun _ h => absurd h List.not_mem_nil, fun _ h => absurd h List.not_mem_nil, fun _ h => absurd h List.not_mem_nil, fun _ h => absurd h List.not_mem_nil, fun _ h => absurd h List.not_mem_nil⟩ dkX12_lengthOf (by decide +kernel) (by rw [h.2.2.1]; exact q837_ok)
/-- NearSpellModel.firstLetters -/
def q838_M : rfM := ((⟨"NearSpellModel", "firstLetters", "(II)I"⟩, prog_14_method_43_code, 4, (some .int)), (1,22), ([.inl ((0,387420488,1),none),.inl ((0,6,1),none)],[]), [], [(some (.inl ((0,387420488,1),none)),[],[])])
def q838_P : rfP := (flX12,csX12,lcX12,spX12,[q837_M],[(319,0)],[],([],[]))
def q838_U : rfU := []
set_option maxHeartbeats 8000000 in
def q838_N : List rfB := [(0,([(0,.inl ((0,387420488,1),none)),(1,.inl ((0,6,1),none))],[],[]),(76,[0]),0),
  (7,([(0,.inl ((0,387420488,1),none)),(1,.inl ((0,6,1),none)),(2,.inl ((0,387420488,1),none)),(3,.inl ((0,6,1),none))],[],[]),(9,[10]),0)]
set_option maxRecDepth 100000 in
theorem q838_ok : rf_chkB q838_P q838_U wLay q838_M ddX12_firstLetters [(3,[0])] [.inl 3] [0,7] 600 q838_N = true := by decide +kernel
set_option maxHeartbeats 4000000 in
theorem q838_met {G : rfG} (h : okG G) : rf_met G q838_M := rf_methodB h.1 (P := q838_P) (U := q838_U) (N := q838_N) ⟨wflT h flokX12, wcsT h csokX12, wlcT h lcokX12, spokX12 h, List.forall_mem_cons.mpr ⟨q837_met h, fun _ h => absurd h List.not_mem_nil⟩, List.forall_mem_cons.mpr ⟨fun M hM => Option.some.inj (show some q837_M = some M from hM) ▸ wlkS (lkX12_319 h) q837_M rfl rfl, fun _ h => absurd h List.not_mem_nil⟩, fun _ h => absurd h List.not_mem_nil, fun _ h => absurd h List.not_mem_nil, fun _ h => absurd h List.not_mem_nil⟩ dkX12_firstLetters (by decide +kernel) (by rw [h.2.2.1]; exact q838_ok)
/-- NearSpellModel.firstLetters -/
def q839_M : rfM := ((⟨"NearSpellModel", "firstLetters", "(II)I"⟩, prog_14_method_43_code, 4, (some .int)), (1,22), ([.inl ((0,387420488,1),none),.inl ((1,1,0),none)],[]), [], [(some (.inl ((0,387420488,1),none)),[],[])])
def q839_P : rfP := (flX12,csX12,lcX12,spX12,[q837_M],[(319,0)],[],([],[]))
def q839_U : rfU := []
set_option maxHeartbeats 8000000 in
def q839_N : List rfB := [(0,([(0,.inl ((0,387420488,1),none)),(1,.inl ((1,1,0),none))],[],[]),(76,[0]),0),
  (7,([(0,.inl ((0,387420488,1),none)),(1,.inl ((1,1,0),none)),(2,.inl ((0,387420488,1),none)),(3,.inl ((0,6,1),none))],[],[]),(9,[10]),0)]
set_option maxRecDepth 100000 in
theorem q839_ok : rf_chkB q839_P q839_U wLay q839_M ddX12_firstLetters [(3,[0])] [.inl 3] [0,7] 600 q839_N = true := by decide +kernel
set_option maxHeartbeats 4000000 in
theorem q839_met {G : rfG} (h : okG G) : rf_met G q839_M := rf_methodB h.1 (P := q839_P) (U := q839_U) (N := q839_N) ⟨wflT h flokX12, wcsT h csokX12, wlcT h lcokX12, spokX12 h, List.forall_mem_cons.mpr ⟨q837_met h, fun _ h => absurd h List.not_mem_nil⟩, List.forall_mem_cons.mpr ⟨fun M hM => Option.some.inj (show some q837_M = some M from hM) ▸ wlkS (lkX12_319 h) q837_M rfl rfl, fun _ h => absurd h List.not_mem_nil⟩, fun _ h => absurd h List.not_mem_nil, fun _ h => absurd h List.not_mem_nil, fun _ h => absurd h List.not_mem_nil⟩ dkX12_firstLetters (by decide +kernel) (by rw [h.2.2.1]; exact q839_ok)
/-- NearSpellModel.letterOf -/
def q840_M : rfM := ((⟨"NearSpellModel", "letterOf", "(II)I"⟩, prog_14_method_44_code, 2, (some .int)), (2,45), ([.inl ((0,387420488,1),none),.inl ((0,0,0),none)],[]), [], [(some (.inl ((0,26,1),none)),[],[])])
def q840_P : rfP := (flX12,csX12,lcX12,spX12,[q839_M],[(322,0)],[],([],[]))
def q840_U : rfU := []
set_option maxHeartbeats 8000000 in
def q840_N : List rfB := [(0,([(0,.inl ((0,387420488,1),none)),(1,.inl ((0,0,0),none))],[],[]),(7,[]),0)]
set_option maxRecDepth 100000 in
theorem q840_ok : rf_chkB q840_P q840_U wLay q840_M ddX12_letterOf [(4,[0])] [] [0] 600 q840_N = true := by decide +kernel
set_option maxHeartbeats 4000000 in
theorem q840_met {G : rfG} (h : okG G) : rf_met G q840_M := rf_methodB h.1 (P := q840_P) (U := q840_U) (N := q840_N) ⟨wflT h flokX12, wcsT h csokX12, wlcT h lcokX12, spokX12 h, List.forall_mem_cons.mpr ⟨q839_met h, fun _ h => absurd h List.not_mem_nil⟩, List.forall_mem_cons.mpr ⟨fun M hM => Option.some.inj (show some q839_M = some M from hM) ▸ wlkS (lkX12_322 h) q839_M rfl rfl, fun _ h => absurd h List.not_mem_nil⟩, fun _ h => absurd h List.not_mem_nil, fun _ h => absurd h List.not_mem_nil, fun _ h => absurd h List.not_mem_nil⟩ dkX12_letterOf (by decide +kernel) (by rw [h.2.2.1]; exact q840_ok)
/-- NearSpellModel.firstLetters -/
def q841_M : rfM := ((⟨"NearSpellModel", "firstLetters", "(II)I"⟩, prog_14_method_43_code, 4, (some .int)), (1,22), ([.inl ((0,387420488,1),none),.inl ((1,2,1),none)],[]), [], [(some (.inl ((0,387420488,1),none)),[],[])])
def q841_P : rfP := (flX12,csX12,lcX12,spX12,[q837_M],[(319,0)],[],([],[]))
def q841_U : rfU := []
set_option maxHeartbeats 8000000 in
def q841_N : List rfB := [(0,([(0,.inl ((0,387420488,1),none)),(1,.inl ((1,2,1),none))],[],[]),(76,[0]),0),
  (7,([(0,.inl ((0,387420488,1),none)),(1,.inl ((1,2,1),none)),(2,.inl ((0,387420488,1),none)),(3,.inl ((0,6,1),none))],[],[]),(9,[10]),0)]
set_option maxRecDepth 100000 in
theorem q841_ok : rf_chkB q841_P q841_U wLay q841_M ddX12_firstLetters [(3,[0])] [.inl 3] [0,7] 600 q841_N = true := by decide +kernel
set_option maxHeartbeats 4000000 in
theorem q841_met {G : rfG} (h : okG G) : rf_met G q841_M := rf_methodB h.1 (P := q841_P) (U := q841_U) (N := q841_N) ⟨wflT h flokX12, wcsT h csokX12, wlcT h lcokX12, spokX12 h, List.forall_mem_cons.mpr ⟨q837_met h, fun _ h => absurd h List.not_mem_nil⟩, List.forall_mem_cons.mpr ⟨fun M hM => Option.some.inj (show some q837_M = some M from hM) ▸ wlkS (lkX12_319 h) q837_M rfl rfl, fun _ h => absurd h List.not_mem_nil⟩, fun _ h => absurd h List.not_mem_nil, fun _ h => absurd h List.not_mem_nil, fun _ h => absurd h List.not_mem_nil⟩ dkX12_firstLetters (by decide +kernel) (by rw [h.2.2.1]; exact q841_ok)
/-- NearSpellModel.letterOf -/
def q842_M : rfM := ((⟨"NearSpellModel", "letterOf", "(II)I"⟩, prog_14_method_44_code, 2, (some .int)), (2,45), ([.inl ((0,387420488,1),none),.inl ((0,1,1),none)],[]), [], [(some (.inl ((0,26,1),none)),[],[])])
def q842_P : rfP := (flX12,csX12,lcX12,spX12,[q841_M],[(322,0)],[],([],[]))
def q842_U : rfU := []
set_option maxHeartbeats 8000000 in
def q842_N : List rfB := [(0,([(0,.inl ((0,387420488,1),none)),(1,.inl ((0,1,1),none))],[],[]),(7,[]),0)]
set_option maxRecDepth 100000 in
theorem q842_ok : rf_chkB q842_P q842_U wLay q842_M ddX12_letterOf [(4,[0])] [] [0] 600 q842_N = true := by decide +kernel
set_option maxHeartbeats 4000000 in
theorem q842_met {G : rfG} (h : okG G) : rf_met G q842_M := rf_methodB h.1 (P := q842_P) (U := q842_U) (N := q842_N) ⟨wflT h flokX12, wcsT h csokX12, wlcT h lcokX12, spokX12 h, List.forall_mem_cons.mpr ⟨q841_met h, fun _ h => absurd h List.not_mem_nil⟩, List.forall_mem_cons.mpr ⟨fun M hM => Option.some.inj (show some q841_M = some M from hM) ▸ wlkS (lkX12_322 h) q841_M rfl rfl, fun _ h => absurd h List.not_mem_nil⟩, fun _ h => absurd h List.not_mem_nil, fun _ h => absurd h List.not_mem_nil, fun _ h => absurd h List.not_mem_nil⟩ dkX12_letterOf (by decide +kernel) (by rw [h.2.2.1]; exact q842_ok)
/-- NearSpellModel.firstLetters -/
def q843_M : rfM := ((⟨"NearSpellModel", "firstLetters", "(II)I"⟩, prog_14_method_43_code, 4, (some .int)), (1,22), ([.inl ((0,387420488,1),none),.inl ((1,3,1),none)],[]), [], [(some (.inl ((0,387420488,1),none)),[],[])])
def q843_P : rfP := (flX12,csX12,lcX12,spX12,[q837_M],[(319,0)],[],([],[]))
def q843_U : rfU := []
set_option maxHeartbeats 8000000 in
def q843_N : List rfB := [(0,([(0,.inl ((0,387420488,1),none)),(1,.inl ((1,3,1),none))],[],[]),(76,[0]),0),
  (7,([(0,.inl ((0,387420488,1),none)),(1,.inl ((1,3,1),none)),(2,.inl ((0,387420488,1),none)),(3,.inl ((0,6,1),none))],[],[]),(9,[10]),0)]
set_option maxRecDepth 100000 in
theorem q843_ok : rf_chkB q843_P q843_U wLay q843_M ddX12_firstLetters [(3,[0])] [.inl 3] [0,7] 600 q843_N = true := by decide +kernel
set_option maxHeartbeats 4000000 in
theorem q843_met {G : rfG} (h : okG G) : rf_met G q843_M := rf_methodB h.1 (P := q843_P) (U := q843_U) (N := q843_N) ⟨wflT h flokX12, wcsT h csokX12, wlcT h lcokX12, spokX12 h, List.forall_mem_cons.mpr ⟨q837_met h, fun _ h => absurd h List.not_mem_nil⟩, List.forall_mem_cons.mpr ⟨fun M hM => Option.some.inj (show some q837_M = some M from hM) ▸ wlkS (lkX12_319 h) q837_M rfl rfl, fun _ h => absurd h List.not_mem_nil⟩, fun _ h => absurd h List.not_mem_nil, fun _ h => absurd h List.not_mem_nil, fun _ h => absurd h List.not_mem_nil⟩ dkX12_firstLetters (by decide +kernel) (by rw [h.2.2.1]; exact q843_ok)
/-- NearSpellModel.letterOf -/
def q844_M : rfM := ((⟨"NearSpellModel", "letterOf", "(II)I"⟩, prog_14_method_44_code, 2, (some .int)), (2,45), ([.inl ((0,387420488,1),none),.inl ((0,2,1),none)],[]), [], [(some (.inl ((0,26,1),none)),[],[])])
def q844_P : rfP := (flX12,csX12,lcX12,spX12,[q843_M],[(322,0)],[],([],[]))
def q844_U : rfU := []
set_option maxHeartbeats 8000000 in
def q844_N : List rfB := [(0,([(0,.inl ((0,387420488,1),none)),(1,.inl ((0,2,1),none))],[],[]),(7,[]),0)]
set_option maxRecDepth 100000 in
theorem q844_ok : rf_chkB q844_P q844_U wLay q844_M ddX12_letterOf [(4,[0])] [] [0] 600 q844_N = true := by decide +kernel
set_option maxHeartbeats 4000000 in
theorem q844_met {G : rfG} (h : okG G) : rf_met G q844_M := rf_methodB h.1 (P := q844_P) (U := q844_U) (N := q844_N) ⟨wflT h flokX12, wcsT h csokX12, wlcT h lcokX12, spokX12 h, List.forall_mem_cons.mpr ⟨q843_met h, fun _ h => absurd h List.not_mem_nil⟩, List.forall_mem_cons.mpr ⟨fun M hM => Option.some.inj (show some q843_M = some M from hM) ▸ wlkS (lkX12_322 h) q843_M rfl rfl, fun _ h => absurd h List.not_mem_nil⟩, fun _ h => absurd h List.not_mem_nil, fun _ h => absurd h List.not_mem_nil, fun _ h => absurd h List.not_mem_nil⟩ dkX12_letterOf (by decide +kernel) (by rw [h.2.2.1]; exact q844_ok)
/-- NearSpellModel.firstLetters -/
def q845_M : rfM := ((⟨"NearSpellModel", "firstLetters", "(II)I"⟩, prog_14_method_43_code, 4, (some .int)), (1,22), ([.inl ((0,387420488,1),none),.inl ((1,4,1),none)],[]), [], [(some (.inl ((0,387420488,1),none)),[],[])])
def q845_P : rfP := (flX12,csX12,lcX12,spX12,[q837_M],[(319,0)],[],([],[]))
def q845_U : rfU := []
set_option maxHeartbeats 8000000 in
def q845_N : List rfB := [(0,([(0,.inl ((0,387420488,1),none)),(1,.inl ((1,4,1),none))],[],[]),(76,[0]),0),
  (7,([(0,.inl ((0,387420488,1),none)),(1,.inl ((1,4,1),none)),(2,.inl ((0,387420488,1),none)),(3,.inl ((0,6,1),none))],[],[]),(9,[10]),0)]
set_option maxRecDepth 100000 in
theorem q845_ok : rf_chkB q845_P q845_U wLay q845_M ddX12_firstLetters [(3,[0])] [.inl 3] [0,7] 600 q845_N = true := by decide +kernel
set_option maxHeartbeats 4000000 in
theorem q845_met {G : rfG} (h : okG G) : rf_met G q845_M := rf_methodB h.1 (P := q845_P) (U := q845_U) (N := q845_N) ⟨wflT h flokX12, wcsT h csokX12, wlcT h lcokX12, spokX12 h, List.forall_mem_cons.mpr ⟨q837_met h, fun _ h => absurd h List.not_mem_nil⟩, List.forall_mem_cons.mpr ⟨fun M hM => Option.some.inj (show some q837_M = some M from hM) ▸ wlkS (lkX12_319 h) q837_M rfl rfl, fun _ h => absurd h List.not_mem_nil⟩, fun _ h => absurd h List.not_mem_nil, fun _ h => absurd h List.not_mem_nil, fun _ h => absurd h List.not_mem_nil⟩ dkX12_firstLetters (by decide +kernel) (by rw [h.2.2.1]; exact q845_ok)
/-- NearSpellModel.letterOf -/
def q846_M : rfM := ((⟨"NearSpellModel", "letterOf", "(II)I"⟩, prog_14_method_44_code, 2, (some .int)), (2,45), ([.inl ((0,387420488,1),none),.inl ((0,3,1),none)],[]), [], [(some (.inl ((0,26,1),none)),[],[])])
def q846_P : rfP := (flX12,csX12,lcX12,spX12,[q845_M],[(322,0)],[],([],[]))
def q846_U : rfU := []
set_option maxHeartbeats 8000000 in
def q846_N : List rfB := [(0,([(0,.inl ((0,387420488,1),none)),(1,.inl ((0,3,1),none))],[],[]),(7,[]),0)]
set_option maxRecDepth 100000 in
theorem q846_ok : rf_chkB q846_P q846_U wLay q846_M ddX12_letterOf [(4,[0])] [] [0] 600 q846_N = true := by decide +kernel
set_option maxHeartbeats 4000000 in
theorem q846_met {G : rfG} (h : okG G) : rf_met G q846_M := rf_methodB h.1 (P := q846_P) (U := q846_U) (N := q846_N) ⟨wflT h flokX12, wcsT h csokX12, wlcT h lcokX12, spokX12 h, List.forall_mem_cons.mpr ⟨q845_met h, fun _ h => absurd h List.not_mem_nil⟩, List.forall_mem_cons.mpr ⟨fun M hM => Option.some.inj (show some q845_M = some M from hM) ▸ wlkS (lkX12_322 h) q845_M rfl rfl, fun _ h => absurd h List.not_mem_nil⟩, fun _ h => absurd h List.not_mem_nil, fun _ h => absurd h List.not_mem_nil, fun _ h => absurd h List.not_mem_nil⟩ dkX12_letterOf (by decide +kernel) (by rw [h.2.2.1]; exact q846_ok)
/-- NearSpellModel.firstLetters -/
def q847_M : rfM := ((⟨"NearSpellModel", "firstLetters", "(II)I"⟩, prog_14_method_43_code, 4, (some .int)), (1,22), ([.inl ((0,387420488,1),none),.inl ((1,6,1),none)],[]), [], [(some (.inl ((0,387420488,1),none)),[],[])])
def q847_P : rfP := (flX12,csX12,lcX12,spX12,[q837_M],[(319,0)],[],([],[]))
def q847_U : rfU := []
set_option maxHeartbeats 8000000 in
def q847_N : List rfB := [(0,([(0,.inl ((0,387420488,1),none)),(1,.inl ((1,6,1),none))],[],[]),(76,[0]),0),
  (7,([(0,.inl ((0,387420488,1),none)),(1,.inl ((1,6,1),none)),(2,.inl ((0,387420488,1),none)),(3,.inl ((0,6,1),none))],[],[]),(9,[10]),0)]
set_option maxRecDepth 100000 in
theorem q847_ok : rf_chkB q847_P q847_U wLay q847_M ddX12_firstLetters [(3,[0])] [.inl 3] [0,7] 600 q847_N = true := by decide +kernel
set_option maxHeartbeats 4000000 in
theorem q847_met {G : rfG} (h : okG G) : rf_met G q847_M := rf_methodB h.1 (P := q847_P) (U := q847_U) (N := q847_N) ⟨wflT h flokX12, wcsT h csokX12, wlcT h lcokX12, spokX12 h, List.forall_mem_cons.mpr ⟨q837_met h, fun _ h => absurd h List.not_mem_nil⟩, List.forall_mem_cons.mpr ⟨fun M hM => Option.some.inj (show some q837_M = some M from hM) ▸ wlkS (lkX12_319 h) q837_M rfl rfl, fun _ h => absurd h List.not_mem_nil⟩, fun _ h => absurd h List.not_mem_nil, fun _ h => absurd h List.not_mem_nil, fun _ h => absurd h List.not_mem_nil⟩ dkX12_firstLetters (by decide +kernel) (by rw [h.2.2.1]; exact q847_ok)
/-- NearSpellModel.letterOf -/
def q848_M : rfM := ((⟨"NearSpellModel", "letterOf", "(II)I"⟩, prog_14_method_44_code, 2, (some .int)), (2,45), ([.inl ((0,387420488,1),none),.inl ((0,5,1),none)],[]), [], [(some (.inl ((0,26,1),none)),[],[])])
def q848_P : rfP := (flX12,csX12,lcX12,spX12,[q847_M],[(322,0)],[],([],[]))
def q848_U : rfU := []
set_option maxHeartbeats 8000000 in
def q848_N : List rfB := [(0,([(0,.inl ((0,387420488,1),none)),(1,.inl ((0,5,1),none))],[],[]),(7,[]),0)]
set_option maxRecDepth 100000 in
theorem q848_ok : rf_chkB q848_P q848_U wLay q848_M ddX12_letterOf [(4,[0])] [] [0] 600 q848_N = true := by decide +kernel
set_option maxHeartbeats 4000000 in
theorem q848_met {G : rfG} (h : okG G) : rf_met G q848_M := rf_methodB h.1 (P := q848_P) (U := q848_U) (N := q848_N) ⟨wflT h flokX12, wcsT h csokX12, wlcT h lcokX12, spokX12 h, List.forall_mem_cons.mpr ⟨q847_met h, fun _ h => absurd h List.not_mem_nil⟩, List.forall_mem_cons.mpr ⟨fun M hM => Option.some.inj (show some q847_M = some M from hM) ▸ wlkS (lkX12_322 h) q847_M rfl rfl, fun _ h => absurd h List.not_mem_nil⟩, fun _ h => absurd h List.not_mem_nil, fun _ h => absurd h List.not_mem_nil, fun _ h => absurd h List.not_mem_nil⟩ dkX12_letterOf (by decide +kernel) (by rw [h.2.2.1]; exact q848_ok)
/-- NearSpellModel.layForms -/
def q849_M : rfM := ((⟨"NearSpellModel", "layForms", "(II)V"⟩, prog_14_method_50_code, 8, none), (3,66), ([.inr (.inl [114]),.inl ((0,387420488,1),none),.inl ((0,2,1),none)],[((114,28),(0,0,0),none)]), [(91,0),(114,40)], [(none,[],[])])
def q849_P : rfP := (flX12,csX12,lcX12,spX12,[q838_M,q837_M,q792_M,q684_M,q848_M,q803_M],[(251,3),(319,1),(322,0),(356,2),(359,4)],[(362,5,12)],([],[]))
def q849_U : rfU := []
set_option maxHeartbeats 8000000 in
def q849_N : List rfB := [(0,([(0,.inr (.inl [114])),(1,.inl ((0,387420488,1),none)),(2,.inl ((0,2,1),none))],[],[((114,28),(0,0,0),some ((114,28),0,0))]),(9940,[0]),0),
  (28,([(0,.inr (.inl [114])),(1,.inl ((0,387420488,1),none)),(2,.inl ((0,2,1),none)),(3,.inl ((0,387420488,1),none)),(4,.inl ((0,6,1),none)),(5,.inl ((0,0,0),none))],[],[((114,28),(0,0,0),some ((114,28),0,0)),((114,39),(0,0,0),none)]),(9924,[0]),0),
  (101,([(0,.inr (.inl [114])),(1,.inl ((0,387420488,1),none)),(2,.inl ((0,2,1),none)),(3,.inl ((0,387420488,1),none)),(4,.inl ((0,6,1),none)),(5,.inl ((0,0,0),none))],[],[((114,28),(0,0,0),some ((114,28),0,0)),((114,39),(0,1,1),none)]),(9772,[0]),0),
  (58,([(0,.inr (.inl [114])),(1,.inl ((0,387420488,1),none)),(2,.inl ((0,2,1),none)),(3,.inl ((0,387420488,1),none)),(4,.inl ((0,6,1),none)),(5,.inl ((0,0,0),none)),(6,.inl (((-2147483648),2147483647,1),none)),(7,.inl ((0,6,1),none))],[],[((114,28),(0,0,0),some ((114,28),0,0)),((114,39),(0,0,0),none)]),(9906,[(-19)]),0),
  (89,([(0,.inr (.inl [114])),(1,.inl ((0,387420488,1),none)),(2,.inl ((0,2,1),none)),(3,.inl ((0,387420488,1),none)),(4,.inl ((1,6,1),none)),(5,.inl ((0,0,0),none)),(6,.inl (((-2147483648),2147483647,1),none)),(7,.inl ((0,5,1),none))],[],[((114,28),(0,0,0),some ((114,28),0,0)),((114,39),(0,0,0),none)]),(9890,[(-19)]),0),
  (28,([(0,.inr (.inl [114])),(1,.inl ((0,387420488,1),none)),(2,.inl ((0,2,1),none)),(3,.inl ((0,387420488,1),none)),(4,.inl ((0,6,1),none)),(5,.inl ((1,1,0),none))],[],[((114,28),(0,0,0),some ((114,28),0,0)),((114,39),(0,1,1),none)]),(9770,[0]),0),
  (101,([(0,.inr (.inl [114])),(1,.inl ((0,387420488,1),none)),(2,.inl ((0,2,1),none)),(3,.inl ((0,387420488,1),none)),(4,.inl ((0,6,1),none)),(5,.inl ((1,1,0),none))],[],[((114,28),(0,0,0),some ((114,28),0,0)),((114,39),(0,2,1),none)]),(9618,[0]),0),
  (58,([(0,.inr (.inl [114])),(1,.inl ((0,387420488,1),none)),(2,.inl ((0,2,1),none)),(3,.inl ((0,387420488,1),none)),(4,.inl ((0,6,1),none)),(5,.inl ((1,1,0),none)),(6,.inl (((-2147483648),2147483647,1),none)),(7,.inl ((0,6,1),none))],[],[((114,28),(0,0,0),some ((114,28),0,0)),((114,39),(0,1,1),none)]),(9752,[(-19)]),0),
  (89,([(0,.inr (.inl [114])),(1,.inl ((0,387420488,1),none)),(2,.inl ((0,2,1),none)),(3,.inl ((0,387420488,1),none)),(4,.inl ((1,6,1),none)),(5,.inl ((1,1,0),none)),(6,.inl (((-2147483648),2147483647,1),none)),(7,.inl ((0,5,1),none))],[],[((114,28),(0,0,0),some ((114,28),0,0)),((114,39),(0,1,1),none)]),(9736,[(-19)]),0),
  (28,([(0,.inr (.inl [114])),(1,.inl ((0,387420488,1),none)),(2,.inl ((0,2,1),none)),(3,.inl ((0,387420488,1),none)),(4,.inl ((0,6,1),none)),(5,.inl ((2,2,0),none))],[],[((114,28),(0,0,0),some ((114,28),0,0)),((114,39),(0,2,1),none)]),(9616,[0]),0),
  (101,([(0,.inr (.inl [114])),(1,.inl ((0,387420488,1),none)),(2,.inl ((0,2,1),none)),(3,.inl ((0,387420488,1),none)),(4,.inl ((0,6,1),none)),(5,.inl ((2,2,0),none))],[],[((114,28),(0,0,0),some ((114,28),0,0)),((114,39),(0,3,1),none)]),(9464,[0]),0),
  (58,([(0,.inr (.inl [114])),(1,.inl ((0,387420488,1),none)),(2,.inl ((0,2,1),none)),(3,.inl ((0,387420488,1),none)),(4,.inl ((0,6,1),none)),(5,.inl ((2,2,0),none)),(6,.inl (((-2147483648),2147483647,1),none)),(7,.inl ((0,6,1),none))],[],[((114,28),(0,0,0),some ((114,28),0,0)),((114,39),(0,2,1),none)]),(9598,[(-19)]),0),
  (89,([(0,.inr (.inl [114])),(1,.inl ((0,387420488,1),none)),(2,.inl ((0,2,1),none)),(3,.inl ((0,387420488,1),none)),(4,.inl ((1,6,1),none)),(5,.inl ((2,2,0),none)),(6,.inl (((-2147483648),2147483647,1),none)),(7,.inl ((0,5,1),none))],[],[((114,28),(0,0,0),some ((114,28),0,0)),((114,39),(0,2,1),none)]),(9582,[(-19)]),0),
  (28,([(0,.inr (.inl [114])),(1,.inl ((0,387420488,1),none)),(2,.inl ((0,2,1),none)),(3,.inl ((0,387420488,1),none)),(4,.inl ((0,6,1),none)),(5,.inl ((3,3,0),none))],[],[((114,28),(0,0,0),some ((114,28),0,0)),((114,39),(0,3,1),none)]),(9462,[0]),0),
  (101,([(0,.inr (.inl [114])),(1,.inl ((0,387420488,1),none)),(2,.inl ((0,2,1),none)),(3,.inl ((0,387420488,1),none)),(4,.inl ((0,6,1),none)),(5,.inl ((3,3,0),none))],[],[((114,28),(0,0,0),some ((114,28),0,0)),((114,39),(0,4,1),none)]),(9310,[0]),0),
  (58,([(0,.inr (.inl [114])),(1,.inl ((0,387420488,1),none)),(2,.inl ((0,2,1),none)),(3,.inl ((0,387420488,1),none)),(4,.inl ((0,6,1),none)),(5,.inl ((3,3,0),none)),(6,.inl (((-2147483648),2147483647,1),none)),(7,.inl ((0,6,1),none))],[],[((114,28),(0,0,0),some ((114,28),0,0)),((114,39),(0,3,1),none)]),(9444,[(-19)]),0),
  (89,([(0,.inr (.inl [114])),(1,.inl ((0,387420488,1),none)),(2,.inl ((0,2,1),none)),(3,.inl ((0,387420488,1),none)),(4,.inl ((1,6,1),none)),(5,.inl ((3,3,0),none)),(6,.inl (((-2147483648),2147483647,1),none)),(7,.inl ((0,5,1),none))],[],[((114,28),(0,0,0),some ((114,28),0,0)),((114,39),(0,3,1),none)]),(9428,[(-19)]),0),
  (28,([(0,.inr (.inl [114])),(1,.inl ((0,387420488,1),none)),(2,.inl ((0,2,1),none)),(3,.inl ((0,387420488,1),none)),(4,.inl ((0,6,1),none)),(5,.inl ((4,4,0),none))],[],[((114,28),(0,0,0),some ((114,28),0,0)),((114,39),(0,4,1),none)]),(9308,[0]),0),
  (101,([(0,.inr (.inl [114])),(1,.inl ((0,387420488,1),none)),(2,.inl ((0,2,1),none)),(3,.inl ((0,387420488,1),none)),(4,.inl ((0,6,1),none)),(5,.inl ((4,4,0),none))],[],[((114,28),(0,0,0),some ((114,28),0,0)),((114,39),(0,5,1),none)]),(9156,[0]),0),
  (58,([(0,.inr (.inl [114])),(1,.inl ((0,387420488,1),none)),(2,.inl ((0,2,1),none)),(3,.inl ((0,387420488,1),none)),(4,.inl ((0,6,1),none)),(5,.inl ((4,4,0),none)),(6,.inl (((-2147483648),2147483647,1),none)),(7,.inl ((0,6,1),none))],[],[((114,28),(0,0,0),some ((114,28),0,0)),((114,39),(0,4,1),none)]),(9290,[(-19)]),0),
  (89,([(0,.inr (.inl [114])),(1,.inl ((0,387420488,1),none)),(2,.inl ((0,2,1),none)),(3,.inl ((0,387420488,1),none)),(4,.inl ((1,6,1),none)),(5,.inl ((4,4,0),none)),(6,.inl (((-2147483648),2147483647,1),none)),(7,.inl ((0,5,1),none))],[],[((114,28),(0,0,0),some ((114,28),0,0)),((114,39),(0,4,1),none)]),(9274,[(-19)]),0),
  (28,([(0,.inr (.inl [114])),(1,.inl ((0,387420488,1),none)),(2,.inl ((0,2,1),none)),(3,.inl ((0,387420488,1),none)),(4,.inl ((0,6,1),none)),(5,.inl ((5,5,0),none))],[],[((114,28),(0,0,0),some ((114,28),0,0)),((114,39),(0,5,1),none)]),(9154,[0]),0),
  (101,([(0,.inr (.inl [114])),(1,.inl ((0,387420488,1),none)),(2,.inl ((0,2,1),none)),(3,.inl ((0,387420488,1),none)),(4,.inl ((0,6,1),none)),(5,.inl ((5,5,0),none))],[],[((114,28),(0,0,0),some ((114,28),0,0)),((114,39),(0,6,1),none)]),(9002,[0]),0),
  (58,([(0,.inr (.inl [114])),(1,.inl ((0,387420488,1),none)),(2,.inl ((0,2,1),none)),(3,.inl ((0,387420488,1),none)),(4,.inl ((0,6,1),none)),(5,.inl ((5,5,0),none)),(6,.inl (((-2147483648),2147483647,1),none)),(7,.inl ((0,6,1),none))],[],[((114,28),(0,0,0),some ((114,28),0,0)),((114,39),(0,5,1),none)]),(9136,[(-19)]),0),
  (89,([(0,.inr (.inl [114])),(1,.inl ((0,387420488,1),none)),(2,.inl ((0,2,1),none)),(3,.inl ((0,387420488,1),none)),(4,.inl ((1,6,1),none)),(5,.inl ((5,5,0),none)),(6,.inl (((-2147483648),2147483647,1),none)),(7,.inl ((0,5,1),none))],[],[((114,28),(0,0,0),some ((114,28),0,0)),((114,39),(0,5,1),none)]),(9120,[(-19)]),0),
  (28,([(0,.inr (.inl [114])),(1,.inl ((0,387420488,1),none)),(2,.inl ((0,2,1),none)),(3,.inl ((0,387420488,1),none)),(4,.inl ((0,6,1),none)),(5,.inl ((6,6,0),none))],[],[((114,28),(0,0,0),some ((114,28),0,0)),((114,39),(0,6,1),none)]),(9000,[0]),0),
  (101,([(0,.inr (.inl [114])),(1,.inl ((0,387420488,1),none)),(2,.inl ((0,2,1),none)),(3,.inl ((0,387420488,1),none)),(4,.inl ((0,6,1),none)),(5,.inl ((6,6,0),none))],[],[((114,28),(0,0,0),some ((114,28),0,0)),((114,39),(0,7,1),none)]),(8848,[0]),0),
  (58,([(0,.inr (.inl [114])),(1,.inl ((0,387420488,1),none)),(2,.inl ((0,2,1),none)),(3,.inl ((0,387420488,1),none)),(4,.inl ((0,6,1),none)),(5,.inl ((6,6,0),none)),(6,.inl (((-2147483648),2147483647,1),none)),(7,.inl ((0,6,1),none))],[],[((114,28),(0,0,0),some ((114,28),0,0)),((114,39),(0,6,1),none)]),(8982,[(-19)]),0),
  (89,([(0,.inr (.inl [114])),(1,.inl ((0,387420488,1),none)),(2,.inl ((0,2,1),none)),(3,.inl ((0,387420488,1),none)),(4,.inl ((1,6,1),none)),(5,.inl ((6,6,0),none)),(6,.inl (((-2147483648),2147483647,1),none)),(7,.inl ((0,5,1),none))],[],[((114,28),(0,0,0),some ((114,28),0,0)),((114,39),(0,6,1),none)]),(8966,[(-19)]),0),
  (28,([(0,.inr (.inl [114])),(1,.inl ((0,387420488,1),none)),(2,.inl ((0,2,1),none)),(3,.inl ((0,387420488,1),none)),(4,.inl ((0,6,1),none)),(5,.inl ((7,7,0),none))],[],[((114,28),(0,0,0),some ((114,28),0,0)),((114,39),(0,7,1),none)]),(8846,[0]),0),
  (101,([(0,.inr (.inl [114])),(1,.inl ((0,387420488,1),none)),(2,.inl ((0,2,1),none)),(3,.inl ((0,387420488,1),none)),(4,.inl ((0,6,1),none)),(5,.inl ((7,7,0),none))],[],[((114,28),(0,0,0),some ((114,28),0,0)),((114,39),(0,8,1),none)]),(8694,[0]),0),
  (58,([(0,.inr (.inl [114])),(1,.inl ((0,387420488,1),none)),(2,.inl ((0,2,1),none)),(3,.inl ((0,387420488,1),none)),(4,.inl ((0,6,1),none)),(5,.inl ((7,7,0),none)),(6,.inl (((-2147483648),2147483647,1),none)),(7,.inl ((0,6,1),none))],[],[((114,28),(0,0,0),some ((114,28),0,0)),((114,39),(0,7,1),none)]),(8828,[(-19)]),0),
  (89,([(0,.inr (.inl [114])),(1,.inl ((0,387420488,1),none)),(2,.inl ((0,2,1),none)),(3,.inl ((0,387420488,1),none)),(4,.inl ((1,6,1),none)),(5,.inl ((7,7,0),none)),(6,.inl (((-2147483648),2147483647,1),none)),(7,.inl ((0,5,1),none))],[],[((114,28),(0,0,0),some ((114,28),0,0)),((114,39),(0,7,1),none)]),(8812,[(-19)]),0),
  (28,([(0,.inr (.inl [114])),(1,.inl ((0,387420488,1),none)),(2,.inl ((0,2,1),none)),(3,.inl ((0,387420488,1),none)),(4,.inl ((0,6,1),none)),(5,.inl ((8,8,0),none))],[],[((114,28),(0,0,0),some ((114,28),0,0)),((114,39),(0,8,1),none)]),(8692,[0]),0),
  (101,([(0,.inr (.inl [114])),(1,.inl ((0,387420488,1),none)),(2,.inl ((0,2,1),none)),(3,.inl ((0,387420488,1),none)),(4,.inl ((0,6,1),none)),(5,.inl ((8,8,0),none))],[],[((114,28),(0,0,0),some ((114,28),0,0)),((114,39),(0,9,1),none)]),(8540,[0]),0),
  (58,([(0,.inr (.inl [114])),(1,.inl ((0,387420488,1),none)),(2,.inl ((0,2,1),none)),(3,.inl ((0,387420488,1),none)),(4,.inl ((0,6,1),none)),(5,.inl ((8,8,0),none)),(6,.inl (((-2147483648),2147483647,1),none)),(7,.inl ((0,6,1),none))],[],[((114,28),(0,0,0),some ((114,28),0,0)),((114,39),(0,8,1),none)]),(8674,[(-19)]),0),
  (89,([(0,.inr (.inl [114])),(1,.inl ((0,387420488,1),none)),(2,.inl ((0,2,1),none)),(3,.inl ((0,387420488,1),none)),(4,.inl ((1,6,1),none)),(5,.inl ((8,8,0),none)),(6,.inl (((-2147483648),2147483647,1),none)),(7,.inl ((0,5,1),none))],[],[((114,28),(0,0,0),some ((114,28),0,0)),((114,39),(0,8,1),none)]),(8658,[(-19)]),0),
  (28,([(0,.inr (.inl [114])),(1,.inl ((0,387420488,1),none)),(2,.inl ((0,2,1),none)),(3,.inl ((0,387420488,1),none)),(4,.inl ((0,6,1),none)),(5,.inl ((9,9,0),none))],[],[((114,28),(0,0,0),some ((114,28),0,0)),((114,39),(0,9,1),none)]),(8538,[0]),0),
  (101,([(0,.inr (.inl [114])),(1,.inl ((0,387420488,1),none)),(2,.inl ((0,2,1),none)),(3,.inl ((0,387420488,1),none)),(4,.inl ((0,6,1),none)),(5,.inl ((9,9,0),none))],[],[((114,28),(0,0,0),some ((114,28),0,0)),((114,39),(0,10,1),none)]),(8386,[0]),0),
  (58,([(0,.inr (.inl [114])),(1,.inl ((0,387420488,1),none)),(2,.inl ((0,2,1),none)),(3,.inl ((0,387420488,1),none)),(4,.inl ((0,6,1),none)),(5,.inl ((9,9,0),none)),(6,.inl (((-2147483648),2147483647,1),none)),(7,.inl ((0,6,1),none))],[],[((114,28),(0,0,0),some ((114,28),0,0)),((114,39),(0,9,1),none)]),(8520,[(-19)]),0),
  (89,([(0,.inr (.inl [114])),(1,.inl ((0,387420488,1),none)),(2,.inl ((0,2,1),none)),(3,.inl ((0,387420488,1),none)),(4,.inl ((1,6,1),none)),(5,.inl ((9,9,0),none)),(6,.inl (((-2147483648),2147483647,1),none)),(7,.inl ((0,5,1),none))],[],[((114,28),(0,0,0),some ((114,28),0,0)),((114,39),(0,9,1),none)]),(8504,[(-19)]),0),
  (28,([(0,.inr (.inl [114])),(1,.inl ((0,387420488,1),none)),(2,.inl ((0,2,1),none)),(3,.inl ((0,387420488,1),none)),(4,.inl ((0,6,1),none)),(5,.inl ((10,10,0),none))],[],[((114,28),(0,0,0),some ((114,28),0,0)),((114,39),(0,10,1),none)]),(8384,[0]),0),
  (101,([(0,.inr (.inl [114])),(1,.inl ((0,387420488,1),none)),(2,.inl ((0,2,1),none)),(3,.inl ((0,387420488,1),none)),(4,.inl ((0,6,1),none)),(5,.inl ((10,10,0),none))],[],[((114,28),(0,0,0),some ((114,28),0,0)),((114,39),(0,11,1),none)]),(8232,[0]),0),
  (58,([(0,.inr (.inl [114])),(1,.inl ((0,387420488,1),none)),(2,.inl ((0,2,1),none)),(3,.inl ((0,387420488,1),none)),(4,.inl ((0,6,1),none)),(5,.inl ((10,10,0),none)),(6,.inl (((-2147483648),2147483647,1),none)),(7,.inl ((0,6,1),none))],[],[((114,28),(0,0,0),some ((114,28),0,0)),((114,39),(0,10,1),none)]),(8366,[(-19)]),0),
  (89,([(0,.inr (.inl [114])),(1,.inl ((0,387420488,1),none)),(2,.inl ((0,2,1),none)),(3,.inl ((0,387420488,1),none)),(4,.inl ((1,6,1),none)),(5,.inl ((10,10,0),none)),(6,.inl (((-2147483648),2147483647,1),none)),(7,.inl ((0,5,1),none))],[],[((114,28),(0,0,0),some ((114,28),0,0)),((114,39),(0,10,1),none)]),(8350,[(-19)]),0),
  (28,([(0,.inr (.inl [114])),(1,.inl ((0,387420488,1),none)),(2,.inl ((0,2,1),none)),(3,.inl ((0,387420488,1),none)),(4,.inl ((0,6,1),none)),(5,.inl ((11,11,0),none))],[],[((114,28),(0,0,0),some ((114,28),0,0)),((114,39),(0,11,1),none)]),(8230,[0]),0),
  (101,([(0,.inr (.inl [114])),(1,.inl ((0,387420488,1),none)),(2,.inl ((0,2,1),none)),(3,.inl ((0,387420488,1),none)),(4,.inl ((0,6,1),none)),(5,.inl ((11,11,0),none))],[],[((114,28),(0,0,0),some ((114,28),0,0)),((114,39),(0,12,1),none)]),(8078,[0]),0),
  (58,([(0,.inr (.inl [114])),(1,.inl ((0,387420488,1),none)),(2,.inl ((0,2,1),none)),(3,.inl ((0,387420488,1),none)),(4,.inl ((0,6,1),none)),(5,.inl ((11,11,0),none)),(6,.inl (((-2147483648),2147483647,1),none)),(7,.inl ((0,6,1),none))],[],[((114,28),(0,0,0),some ((114,28),0,0)),((114,39),(0,11,1),none)]),(8212,[(-19)]),0),
  (89,([(0,.inr (.inl [114])),(1,.inl ((0,387420488,1),none)),(2,.inl ((0,2,1),none)),(3,.inl ((0,387420488,1),none)),(4,.inl ((1,6,1),none)),(5,.inl ((11,11,0),none)),(6,.inl (((-2147483648),2147483647,1),none)),(7,.inl ((0,5,1),none))],[],[((114,28),(0,0,0),some ((114,28),0,0)),((114,39),(0,11,1),none)]),(8196,[(-19)]),0),
  (28,([(0,.inr (.inl [114])),(1,.inl ((0,387420488,1),none)),(2,.inl ((0,2,1),none)),(3,.inl ((0,387420488,1),none)),(4,.inl ((0,6,1),none)),(5,.inl ((12,12,0),none))],[],[((114,28),(0,0,0),some ((114,28),0,0)),((114,39),(0,12,1),none)]),(8076,[0]),0),
  (101,([(0,.inr (.inl [114])),(1,.inl ((0,387420488,1),none)),(2,.inl ((0,2,1),none)),(3,.inl ((0,387420488,1),none)),(4,.inl ((0,6,1),none)),(5,.inl ((12,12,0),none))],[],[((114,28),(0,0,0),some ((114,28),0,0)),((114,39),(0,13,1),none)]),(7924,[0]),0),
  (58,([(0,.inr (.inl [114])),(1,.inl ((0,387420488,1),none)),(2,.inl ((0,2,1),none)),(3,.inl ((0,387420488,1),none)),(4,.inl ((0,6,1),none)),(5,.inl ((12,12,0),none)),(6,.inl (((-2147483648),2147483647,1),none)),(7,.inl ((0,6,1),none))],[],[((114,28),(0,0,0),some ((114,28),0,0)),((114,39),(0,12,1),none)]),(8058,[(-19)]),0),
  (89,([(0,.inr (.inl [114])),(1,.inl ((0,387420488,1),none)),(2,.inl ((0,2,1),none)),(3,.inl ((0,387420488,1),none)),(4,.inl ((1,6,1),none)),(5,.inl ((12,12,0),none)),(6,.inl (((-2147483648),2147483647,1),none)),(7,.inl ((0,5,1),none))],[],[((114,28),(0,0,0),some ((114,28),0,0)),((114,39),(0,12,1),none)]),(8042,[(-19)]),0),
  (28,([(0,.inr (.inl [114])),(1,.inl ((0,387420488,1),none)),(2,.inl ((0,2,1),none)),(3,.inl ((0,387420488,1),none)),(4,.inl ((0,6,1),none)),(5,.inl ((13,13,0),none))],[],[((114,28),(0,0,0),some ((114,28),0,0)),((114,39),(0,13,1),none)]),(7922,[0]),0),
  (101,([(0,.inr (.inl [114])),(1,.inl ((0,387420488,1),none)),(2,.inl ((0,2,1),none)),(3,.inl ((0,387420488,1),none)),(4,.inl ((0,6,1),none)),(5,.inl ((13,13,0),none))],[],[((114,28),(0,0,0),some ((114,28),0,0)),((114,39),(0,14,1),none)]),(7770,[0]),0),
  (58,([(0,.inr (.inl [114])),(1,.inl ((0,387420488,1),none)),(2,.inl ((0,2,1),none)),(3,.inl ((0,387420488,1),none)),(4,.inl ((0,6,1),none)),(5,.inl ((13,13,0),none)),(6,.inl (((-2147483648),2147483647,1),none)),(7,.inl ((0,6,1),none))],[],[((114,28),(0,0,0),some ((114,28),0,0)),((114,39),(0,13,1),none)]),(7904,[(-19)]),0),
  (89,([(0,.inr (.inl [114])),(1,.inl ((0,387420488,1),none)),(2,.inl ((0,2,1),none)),(3,.inl ((0,387420488,1),none)),(4,.inl ((1,6,1),none)),(5,.inl ((13,13,0),none)),(6,.inl (((-2147483648),2147483647,1),none)),(7,.inl ((0,5,1),none))],[],[((114,28),(0,0,0),some ((114,28),0,0)),((114,39),(0,13,1),none)]),(7888,[(-19)]),0),
  (28,([(0,.inr (.inl [114])),(1,.inl ((0,387420488,1),none)),(2,.inl ((0,2,1),none)),(3,.inl ((0,387420488,1),none)),(4,.inl ((0,6,1),none)),(5,.inl ((14,14,0),none))],[],[((114,28),(0,0,0),some ((114,28),0,0)),((114,39),(0,14,1),none)]),(7768,[0]),0),
  (101,([(0,.inr (.inl [114])),(1,.inl ((0,387420488,1),none)),(2,.inl ((0,2,1),none)),(3,.inl ((0,387420488,1),none)),(4,.inl ((0,6,1),none)),(5,.inl ((14,14,0),none))],[],[((114,28),(0,0,0),some ((114,28),0,0)),((114,39),(0,15,1),none)]),(7616,[0]),0),
  (58,([(0,.inr (.inl [114])),(1,.inl ((0,387420488,1),none)),(2,.inl ((0,2,1),none)),(3,.inl ((0,387420488,1),none)),(4,.inl ((0,6,1),none)),(5,.inl ((14,14,0),none)),(6,.inl (((-2147483648),2147483647,1),none)),(7,.inl ((0,6,1),none))],[],[((114,28),(0,0,0),some ((114,28),0,0)),((114,39),(0,14,1),none)]),(7750,[(-19)]),0),
  (89,([(0,.inr (.inl [114])),(1,.inl ((0,387420488,1),none)),(2,.inl ((0,2,1),none)),(3,.inl ((0,387420488,1),none)),(4,.inl ((1,6,1),none)),(5,.inl ((14,14,0),none)),(6,.inl (((-2147483648),2147483647,1),none)),(7,.inl ((0,5,1),none))],[],[((114,28),(0,0,0),some ((114,28),0,0)),((114,39),(0,14,1),none)]),(7734,[(-19)]),0),
  (28,([(0,.inr (.inl [114])),(1,.inl ((0,387420488,1),none)),(2,.inl ((0,2,1),none)),(3,.inl ((0,387420488,1),none)),(4,.inl ((0,6,1),none)),(5,.inl ((15,15,0),none))],[],[((114,28),(0,0,0),some ((114,28),0,0)),((114,39),(0,15,1),none)]),(7614,[0]),0),
  (101,([(0,.inr (.inl [114])),(1,.inl ((0,387420488,1),none)),(2,.inl ((0,2,1),none)),(3,.inl ((0,387420488,1),none)),(4,.inl ((0,6,1),none)),(5,.inl ((15,15,0),none))],[],[((114,28),(0,0,0),some ((114,28),0,0)),((114,39),(0,16,1),none)]),(7462,[0]),0),
  (58,([(0,.inr (.inl [114])),(1,.inl ((0,387420488,1),none)),(2,.inl ((0,2,1),none)),(3,.inl ((0,387420488,1),none)),(4,.inl ((0,6,1),none)),(5,.inl ((15,15,0),none)),(6,.inl (((-2147483648),2147483647,1),none)),(7,.inl ((0,6,1),none))],[],[((114,28),(0,0,0),some ((114,28),0,0)),((114,39),(0,15,1),none)]),(7596,[(-19)]),0),
  (89,([(0,.inr (.inl [114])),(1,.inl ((0,387420488,1),none)),(2,.inl ((0,2,1),none)),(3,.inl ((0,387420488,1),none)),(4,.inl ((1,6,1),none)),(5,.inl ((15,15,0),none)),(6,.inl (((-2147483648),2147483647,1),none)),(7,.inl ((0,5,1),none))],[],[((114,28),(0,0,0),some ((114,28),0,0)),((114,39),(0,15,1),none)]),(7580,[(-19)]),0),
  (28,([(0,.inr (.inl [114])),(1,.inl ((0,387420488,1),none)),(2,.inl ((0,2,1),none)),(3,.inl ((0,387420488,1),none)),(4,.inl ((0,6,1),none)),(5,.inl ((16,16,0),none))],[],[((114,28),(0,0,0),some ((114,28),0,0)),((114,39),(0,16,1),none)]),(7460,[0]),0),
  (101,([(0,.inr (.inl [114])),(1,.inl ((0,387420488,1),none)),(2,.inl ((0,2,1),none)),(3,.inl ((0,387420488,1),none)),(4,.inl ((0,6,1),none)),(5,.inl ((16,16,0),none))],[],[((114,28),(0,0,0),some ((114,28),0,0)),((114,39),(0,17,1),none)]),(7308,[0]),0),
  (58,([(0,.inr (.inl [114])),(1,.inl ((0,387420488,1),none)),(2,.inl ((0,2,1),none)),(3,.inl ((0,387420488,1),none)),(4,.inl ((0,6,1),none)),(5,.inl ((16,16,0),none)),(6,.inl (((-2147483648),2147483647,1),none)),(7,.inl ((0,6,1),none))],[],[((114,28),(0,0,0),some ((114,28),0,0)),((114,39),(0,16,1),none)]),(7442,[(-19)]),0),
  (89,([(0,.inr (.inl [114])),(1,.inl ((0,387420488,1),none)),(2,.inl ((0,2,1),none)),(3,.inl ((0,387420488,1),none)),(4,.inl ((1,6,1),none)),(5,.inl ((16,16,0),none)),(6,.inl (((-2147483648),2147483647,1),none)),(7,.inl ((0,5,1),none))],[],[((114,28),(0,0,0),some ((114,28),0,0)),((114,39),(0,16,1),none)]),(7426,[(-19)]),0),
  (28,([(0,.inr (.inl [114])),(1,.inl ((0,387420488,1),none)),(2,.inl ((0,2,1),none)),(3,.inl ((0,387420488,1),none)),(4,.inl ((0,6,1),none)),(5,.inl ((17,17,0),none))],[],[((114,28),(0,0,0),some ((114,28),0,0)),((114,39),(0,17,1),none)]),(7306,[0]),0),
  (101,([(0,.inr (.inl [114])),(1,.inl ((0,387420488,1),none)),(2,.inl ((0,2,1),none)),(3,.inl ((0,387420488,1),none)),(4,.inl ((0,6,1),none)),(5,.inl ((17,17,0),none))],[],[((114,28),(0,0,0),some ((114,28),0,0)),((114,39),(0,18,1),none)]),(7154,[0]),0),
  (58,([(0,.inr (.inl [114])),(1,.inl ((0,387420488,1),none)),(2,.inl ((0,2,1),none)),(3,.inl ((0,387420488,1),none)),(4,.inl ((0,6,1),none)),(5,.inl ((17,17,0),none)),(6,.inl (((-2147483648),2147483647,1),none)),(7,.inl ((0,6,1),none))],[],[((114,28),(0,0,0),some ((114,28),0,0)),((114,39),(0,17,1),none)]),(7288,[(-19)]),0),
  (89,([(0,.inr (.inl [114])),(1,.inl ((0,387420488,1),none)),(2,.inl ((0,2,1),none)),(3,.inl ((0,387420488,1),none)),(4,.inl ((1,6,1),none)),(5,.inl ((17,17,0),none)),(6,.inl (((-2147483648),2147483647,1),none)),(7,.inl ((0,5,1),none))],[],[((114,28),(0,0,0),some ((114,28),0,0)),((114,39),(0,17,1),none)]),(7272,[(-19)]),0),
  (28,([(0,.inr (.inl [114])),(1,.inl ((0,387420488,1),none)),(2,.inl ((0,2,1),none)),(3,.inl ((0,387420488,1),none)),(4,.inl ((0,6,1),none)),(5,.inl ((18,18,0),none))],[],[((114,28),(0,0,0),some ((114,28),0,0)),((114,39),(0,18,1),none)]),(7152,[0]),0),
  (101,([(0,.inr (.inl [114])),(1,.inl ((0,387420488,1),none)),(2,.inl ((0,2,1),none)),(3,.inl ((0,387420488,1),none)),(4,.inl ((0,6,1),none)),(5,.inl ((18,18,0),none))],[],[((114,28),(0,0,0),some ((114,28),0,0)),((114,39),(0,19,1),none)]),(7000,[0]),0),
  (58,([(0,.inr (.inl [114])),(1,.inl ((0,387420488,1),none)),(2,.inl ((0,2,1),none)),(3,.inl ((0,387420488,1),none)),(4,.inl ((0,6,1),none)),(5,.inl ((18,18,0),none)),(6,.inl (((-2147483648),2147483647,1),none)),(7,.inl ((0,6,1),none))],[],[((114,28),(0,0,0),some ((114,28),0,0)),((114,39),(0,18,1),none)]),(7134,[(-19)]),0),
  (89,([(0,.inr (.inl [114])),(1,.inl ((0,387420488,1),none)),(2,.inl ((0,2,1),none)),(3,.inl ((0,387420488,1),none)),(4,.inl ((1,6,1),none)),(5,.inl ((18,18,0),none)),(6,.inl (((-2147483648),2147483647,1),none)),(7,.inl ((0,5,1),none))],[],[((114,28),(0,0,0),some ((114,28),0,0)),((114,39),(0,18,1),none)]),(7118,[(-19)]),0),
  (28,([(0,.inr (.inl [114])),(1,.inl ((0,387420488,1),none)),(2,.inl ((0,2,1),none)),(3,.inl ((0,387420488,1),none)),(4,.inl ((0,6,1),none)),(5,.inl ((19,19,0),none))],[],[((114,28),(0,0,0),some ((114,28),0,0)),((114,39),(0,19,1),none)]),(6998,[0]),0),
  (101,([(0,.inr (.inl [114])),(1,.inl ((0,387420488,1),none)),(2,.inl ((0,2,1),none)),(3,.inl ((0,387420488,1),none)),(4,.inl ((0,6,1),none)),(5,.inl ((19,19,0),none))],[],[((114,28),(0,0,0),some ((114,28),0,0)),((114,39),(0,20,1),none)]),(6846,[0]),0),
  (58,([(0,.inr (.inl [114])),(1,.inl ((0,387420488,1),none)),(2,.inl ((0,2,1),none)),(3,.inl ((0,387420488,1),none)),(4,.inl ((0,6,1),none)),(5,.inl ((19,19,0),none)),(6,.inl (((-2147483648),2147483647,1),none)),(7,.inl ((0,6,1),none))],[],[((114,28),(0,0,0),some ((114,28),0,0)),((114,39),(0,19,1),none)]),(6980,[(-19)]),0),
  (89,([(0,.inr (.inl [114])),(1,.inl ((0,387420488,1),none)),(2,.inl ((0,2,1),none)),(3,.inl ((0,387420488,1),none)),(4,.inl ((1,6,1),none)),(5,.inl ((19,19,0),none)),(6,.inl (((-2147483648),2147483647,1),none)),(7,.inl ((0,5,1),none))],[],[((114,28),(0,0,0),some ((114,28),0,0)),((114,39),(0,19,1),none)]),(6964,[(-19)]),0),
  (28,([(0,.inr (.inl [114])),(1,.inl ((0,387420488,1),none)),(2,.inl ((0,2,1),none)),(3,.inl ((0,387420488,1),none)),(4,.inl ((0,6,1),none)),(5,.inl ((20,20,0),none))],[],[((114,28),(0,0,0),some ((114,28),0,0)),((114,39),(0,20,1),none)]),(6844,[0]),0),
  (101,([(0,.inr (.inl [114])),(1,.inl ((0,387420488,1),none)),(2,.inl ((0,2,1),none)),(3,.inl ((0,387420488,1),none)),(4,.inl ((0,6,1),none)),(5,.inl ((20,20,0),none))],[],[((114,28),(0,0,0),some ((114,28),0,0)),((114,39),(0,21,1),none)]),(6692,[0]),0),
  (58,([(0,.inr (.inl [114])),(1,.inl ((0,387420488,1),none)),(2,.inl ((0,2,1),none)),(3,.inl ((0,387420488,1),none)),(4,.inl ((0,6,1),none)),(5,.inl ((20,20,0),none)),(6,.inl (((-2147483648),2147483647,1),none)),(7,.inl ((0,6,1),none))],[],[((114,28),(0,0,0),some ((114,28),0,0)),((114,39),(0,20,1),none)]),(6826,[(-19)]),0),
  (89,([(0,.inr (.inl [114])),(1,.inl ((0,387420488,1),none)),(2,.inl ((0,2,1),none)),(3,.inl ((0,387420488,1),none)),(4,.inl ((1,6,1),none)),(5,.inl ((20,20,0),none)),(6,.inl (((-2147483648),2147483647,1),none)),(7,.inl ((0,5,1),none))],[],[((114,28),(0,0,0),some ((114,28),0,0)),((114,39),(0,20,1),none)]),(6810,[(-19)]),0),
  (28,([(0,.inr (.inl [114])),(1,.inl ((0,387420488,1),none)),(2,.inl ((0,2,1),none)),(3,.inl ((0,387420488,1),none)),(4,.inl ((0,6,1),none)),(5,.inl ((21,21,0),none))],[],[((114,28),(0,0,0),some ((114,28),0,0)),((114,39),(0,21,1),none)]),(6690,[0]),0),
  (101,([(0,.inr (.inl [114])),(1,.inl ((0,387420488,1),none)),(2,.inl ((0,2,1),none)),(3,.inl ((0,387420488,1),none)),(4,.inl ((0,6,1),none)),(5,.inl ((21,21,0),none))],[],[((114,28),(0,0,0),some ((114,28),0,0)),((114,39),(0,22,1),none)]),(6538,[0]),0),
  (58,([(0,.inr (.inl [114])),(1,.inl ((0,387420488,1),none)),(2,.inl ((0,2,1),none)),(3,.inl ((0,387420488,1),none)),(4,.inl ((0,6,1),none)),(5,.inl ((21,21,0),none)),(6,.inl (((-2147483648),2147483647,1),none)),(7,.inl ((0,6,1),none))],[],[((114,28),(0,0,0),some ((114,28),0,0)),((114,39),(0,21,1),none)]),(6672,[(-19)]),0),
  (89,([(0,.inr (.inl [114])),(1,.inl ((0,387420488,1),none)),(2,.inl ((0,2,1),none)),(3,.inl ((0,387420488,1),none)),(4,.inl ((1,6,1),none)),(5,.inl ((21,21,0),none)),(6,.inl (((-2147483648),2147483647,1),none)),(7,.inl ((0,5,1),none))],[],[((114,28),(0,0,0),some ((114,28),0,0)),((114,39),(0,21,1),none)]),(6656,[(-19)]),0),
  (28,([(0,.inr (.inl [114])),(1,.inl ((0,387420488,1),none)),(2,.inl ((0,2,1),none)),(3,.inl ((0,387420488,1),none)),(4,.inl ((0,6,1),none)),(5,.inl ((22,22,0),none))],[],[((114,28),(0,0,0),some ((114,28),0,0)),((114,39),(0,22,1),none)]),(6536,[0]),0),
  (101,([(0,.inr (.inl [114])),(1,.inl ((0,387420488,1),none)),(2,.inl ((0,2,1),none)),(3,.inl ((0,387420488,1),none)),(4,.inl ((0,6,1),none)),(5,.inl ((22,22,0),none))],[],[((114,28),(0,0,0),some ((114,28),0,0)),((114,39),(0,23,1),none)]),(6384,[0]),0),
  (58,([(0,.inr (.inl [114])),(1,.inl ((0,387420488,1),none)),(2,.inl ((0,2,1),none)),(3,.inl ((0,387420488,1),none)),(4,.inl ((0,6,1),none)),(5,.inl ((22,22,0),none)),(6,.inl (((-2147483648),2147483647,1),none)),(7,.inl ((0,6,1),none))],[],[((114,28),(0,0,0),some ((114,28),0,0)),((114,39),(0,22,1),none)]),(6518,[(-19)]),0),
  (89,([(0,.inr (.inl [114])),(1,.inl ((0,387420488,1),none)),(2,.inl ((0,2,1),none)),(3,.inl ((0,387420488,1),none)),(4,.inl ((1,6,1),none)),(5,.inl ((22,22,0),none)),(6,.inl (((-2147483648),2147483647,1),none)),(7,.inl ((0,5,1),none))],[],[((114,28),(0,0,0),some ((114,28),0,0)),((114,39),(0,22,1),none)]),(6502,[(-19)]),0),
  (28,([(0,.inr (.inl [114])),(1,.inl ((0,387420488,1),none)),(2,.inl ((0,2,1),none)),(3,.inl ((0,387420488,1),none)),(4,.inl ((0,6,1),none)),(5,.inl ((23,23,0),none))],[],[((114,28),(0,0,0),some ((114,28),0,0)),((114,39),(0,23,1),none)]),(6382,[0]),0),
  (101,([(0,.inr (.inl [114])),(1,.inl ((0,387420488,1),none)),(2,.inl ((0,2,1),none)),(3,.inl ((0,387420488,1),none)),(4,.inl ((0,6,1),none)),(5,.inl ((23,23,0),none))],[],[((114,28),(0,0,0),some ((114,28),0,0)),((114,39),(0,24,1),none)]),(6230,[0]),0),
  (58,([(0,.inr (.inl [114])),(1,.inl ((0,387420488,1),none)),(2,.inl ((0,2,1),none)),(3,.inl ((0,387420488,1),none)),(4,.inl ((0,6,1),none)),(5,.inl ((23,23,0),none)),(6,.inl (((-2147483648),2147483647,1),none)),(7,.inl ((0,6,1),none))],[],[((114,28),(0,0,0),some ((114,28),0,0)),((114,39),(0,23,1),none)]),(6364,[(-19)]),0),
  (89,([(0,.inr (.inl [114])),(1,.inl ((0,387420488,1),none)),(2,.inl ((0,2,1),none)),(3,.inl ((0,387420488,1),none)),(4,.inl ((1,6,1),none)),(5,.inl ((23,23,0),none)),(6,.inl (((-2147483648),2147483647,1),none)),(7,.inl ((0,5,1),none))],[],[((114,28),(0,0,0),some ((114,28),0,0)),((114,39),(0,23,1),none)]),(6348,[(-19)]),0),
  (28,([(0,.inr (.inl [114])),(1,.inl ((0,387420488,1),none)),(2,.inl ((0,2,1),none)),(3,.inl ((0,387420488,1),none)),(4,.inl ((0,6,1),none)),(5,.inl ((24,24,0),none))],[],[((114,28),(0,0,0),some ((114,28),0,0)),((114,39),(0,24,1),none)]),(6228,[0]),0),
  (101,([(0,.inr (.inl [114])),(1,.inl ((0,387420488,1),none)),(2,.inl ((0,2,1),none)),(3,.inl ((0,387420488,1),none)),(4,.inl ((0,6,1),none)),(5,.inl ((24,24,0),none))],[],[((114,28),(0,0,0),some ((114,28),0,0)),((114,39),(0,25,1),none)]),(6076,[0]),0),
  (58,([(0,.inr (.inl [114])),(1,.inl ((0,387420488,1),none)),(2,.inl ((0,2,1),none)),(3,.inl ((0,387420488,1),none)),(4,.inl ((0,6,1),none)),(5,.inl ((24,24,0),none)),(6,.inl (((-2147483648),2147483647,1),none)),(7,.inl ((0,6,1),none))],[],[((114,28),(0,0,0),some ((114,28),0,0)),((114,39),(0,24,1),none)]),(6210,[(-19)]),0),
  (89,([(0,.inr (.inl [114])),(1,.inl ((0,387420488,1),none)),(2,.inl ((0,2,1),none)),(3,.inl ((0,387420488,1),none)),(4,.inl ((1,6,1),none)),(5,.inl ((24,24,0),none)),(6,.inl (((-2147483648),2147483647,1),none)),(7,.inl ((0,5,1),none))],[],[((114,28),(0,0,0),some ((114,28),0,0)),((114,39),(0,24,1),none)]),(6194,[(-19)]),0),
  (28,([(0,.inr (.inl [114])),(1,.inl ((0,387420488,1),none)),(2,.inl ((0,2,1),none)),(3,.inl ((0,387420488,1),none)),(4,.inl ((0,6,1),none)),(5,.inl ((25,25,0),none))],[],[((114,28),(0,0,0),some ((114,28),0,0)),((114,39),(0,25,1),none)]),(6074,[0]),0),
  (101,([(0,.inr (.inl [114])),(1,.inl ((0,387420488,1),none)),(2,.inl ((0,2,1),none)),(3,.inl ((0,387420488,1),none)),(4,.inl ((0,6,1),none)),(5,.inl ((25,25,0),none))],[],[((114,28),(0,0,0),some ((114,28),0,0)),((114,39),(0,26,1),none)]),(5922,[0]),0),
  (58,([(0,.inr (.inl [114])),(1,.inl ((0,387420488,1),none)),(2,.inl ((0,2,1),none)),(3,.inl ((0,387420488,1),none)),(4,.inl ((0,6,1),none)),(5,.inl ((25,25,0),none)),(6,.inl (((-2147483648),2147483647,1),none)),(7,.inl ((0,6,1),none))],[],[((114,28),(0,0,0),some ((114,28),0,0)),((114,39),(0,25,1),none)]),(6056,[(-19)]),0),
  (89,([(0,.inr (.inl [114])),(1,.inl ((0,387420488,1),none)),(2,.inl ((0,2,1),none)),(3,.inl ((0,387420488,1),none)),(4,.inl ((1,6,1),none)),(5,.inl ((25,25,0),none)),(6,.inl (((-2147483648),2147483647,1),none)),(7,.inl ((0,5,1),none))],[],[((114,28),(0,0,0),some ((114,28),0,0)),((114,39),(0,25,1),none)]),(6040,[(-19)]),0),
  (28,([(0,.inr (.inl [114])),(1,.inl ((0,387420488,1),none)),(2,.inl ((0,2,1),none)),(3,.inl ((0,387420488,1),none)),(4,.inl ((0,6,1),none)),(5,.inl ((26,26,0),none))],[],[((114,28),(0,0,0),some ((114,28),0,0)),((114,39),(0,26,1),none)]),(5920,[0]),0),
  (101,([(0,.inr (.inl [114])),(1,.inl ((0,387420488,1),none)),(2,.inl ((0,2,1),none)),(3,.inl ((0,387420488,1),none)),(4,.inl ((0,6,1),none)),(5,.inl ((26,26,0),none))],[],[((114,28),(0,0,0),some ((114,28),0,0)),((114,39),(0,27,1),none)]),(5768,[0]),0),
  (58,([(0,.inr (.inl [114])),(1,.inl ((0,387420488,1),none)),(2,.inl ((0,2,1),none)),(3,.inl ((0,387420488,1),none)),(4,.inl ((0,6,1),none)),(5,.inl ((26,26,0),none)),(6,.inl (((-2147483648),2147483647,1),none)),(7,.inl ((0,6,1),none))],[],[((114,28),(0,0,0),some ((114,28),0,0)),((114,39),(0,26,1),none)]),(5902,[(-19)]),0),
  (89,([(0,.inr (.inl [114])),(1,.inl ((0,387420488,1),none)),(2,.inl ((0,2,1),none)),(3,.inl ((0,387420488,1),none)),(4,.inl ((1,6,1),none)),(5,.inl ((26,26,0),none)),(6,.inl (((-2147483648),2147483647,1),none)),(7,.inl ((0,5,1),none))],[],[((114,28),(0,0,0),some ((114,28),0,0)),((114,39),(0,26,1),none)]),(5886,[(-19)]),0),
  (28,([(0,.inr (.inl [114])),(1,.inl ((0,387420488,1),none)),(2,.inl ((0,2,1),none)),(3,.inl ((0,387420488,1),none)),(4,.inl ((0,6,1),none)),(5,.inl ((27,27,0),none))],[],[((114,28),(0,0,0),some ((114,28),0,0)),((114,39),(0,27,1),none)]),(5766,[0]),0),
  (101,([(0,.inr (.inl [114])),(1,.inl ((0,387420488,1),none)),(2,.inl ((0,2,1),none)),(3,.inl ((0,387420488,1),none)),(4,.inl ((0,6,1),none)),(5,.inl ((27,27,0),none))],[],[((114,28),(0,0,0),some ((114,28),0,0)),((114,39),(0,28,1),none)]),(5614,[0]),0),
  (58,([(0,.inr (.inl [114])),(1,.inl ((0,387420488,1),none)),(2,.inl ((0,2,1),none)),(3,.inl ((0,387420488,1),none)),(4,.inl ((0,6,1),none)),(5,.inl ((27,27,0),none)),(6,.inl (((-2147483648),2147483647,1),none)),(7,.inl ((0,6,1),none))],[],[((114,28),(0,0,0),some ((114,28),0,0)),((114,39),(0,27,1),none)]),(5748,[(-19)]),0),
  (89,([(0,.inr (.inl [114])),(1,.inl ((0,387420488,1),none)),(2,.inl ((0,2,1),none)),(3,.inl ((0,387420488,1),none)),(4,.inl ((1,6,1),none)),(5,.inl ((27,27,0),none)),(6,.inl (((-2147483648),2147483647,1),none)),(7,.inl ((0,5,1),none))],[],[((114,28),(0,0,0),some ((114,28),0,0)),((114,39),(0,27,1),none)]),(5732,[(-19)]),0),
  (28,([(0,.inr (.inl [114])),(1,.inl ((0,387420488,1),none)),(2,.inl ((0,2,1),none)),(3,.inl ((0,387420488,1),none)),(4,.inl ((0,6,1),none)),(5,.inl ((28,28,0),none))],[],[((114,28),(0,0,0),some ((114,28),0,0)),((114,39),(0,28,1),none)]),(5612,[0]),0),
  (101,([(0,.inr (.inl [114])),(1,.inl ((0,387420488,1),none)),(2,.inl ((0,2,1),none)),(3,.inl ((0,387420488,1),none)),(4,.inl ((0,6,1),none)),(5,.inl ((28,28,0),none))],[],[((114,28),(0,0,0),some ((114,28),0,0)),((114,39),(0,29,1),none)]),(5460,[0]),0),
  (58,([(0,.inr (.inl [114])),(1,.inl ((0,387420488,1),none)),(2,.inl ((0,2,1),none)),(3,.inl ((0,387420488,1),none)),(4,.inl ((0,6,1),none)),(5,.inl ((28,28,0),none)),(6,.inl (((-2147483648),2147483647,1),none)),(7,.inl ((0,6,1),none))],[],[((114,28),(0,0,0),some ((114,28),0,0)),((114,39),(0,28,1),none)]),(5594,[(-19)]),0),
  (89,([(0,.inr (.inl [114])),(1,.inl ((0,387420488,1),none)),(2,.inl ((0,2,1),none)),(3,.inl ((0,387420488,1),none)),(4,.inl ((1,6,1),none)),(5,.inl ((28,28,0),none)),(6,.inl (((-2147483648),2147483647,1),none)),(7,.inl ((0,5,1),none))],[],[((114,28),(0,0,0),some ((114,28),0,0)),((114,39),(0,28,1),none)]),(5578,[(-19)]),0),
  (28,([(0,.inr (.inl [114])),(1,.inl ((0,387420488,1),none)),(2,.inl ((0,2,1),none)),(3,.inl ((0,387420488,1),none)),(4,.inl ((0,6,1),none)),(5,.inl ((29,29,0),none))],[],[((114,28),(0,0,0),some ((114,28),0,0)),((114,39),(0,29,1),none)]),(5458,[0]),0),
  (101,([(0,.inr (.inl [114])),(1,.inl ((0,387420488,1),none)),(2,.inl ((0,2,1),none)),(3,.inl ((0,387420488,1),none)),(4,.inl ((0,6,1),none)),(5,.inl ((29,29,0),none))],[],[((114,28),(0,0,0),some ((114,28),0,0)),((114,39),(0,30,1),none)]),(5306,[0]),0),
  (58,([(0,.inr (.inl [114])),(1,.inl ((0,387420488,1),none)),(2,.inl ((0,2,1),none)),(3,.inl ((0,387420488,1),none)),(4,.inl ((0,6,1),none)),(5,.inl ((29,29,0),none)),(6,.inl (((-2147483648),2147483647,1),none)),(7,.inl ((0,6,1),none))],[],[((114,28),(0,0,0),some ((114,28),0,0)),((114,39),(0,29,1),none)]),(5440,[(-19)]),0),
  (89,([(0,.inr (.inl [114])),(1,.inl ((0,387420488,1),none)),(2,.inl ((0,2,1),none)),(3,.inl ((0,387420488,1),none)),(4,.inl ((1,6,1),none)),(5,.inl ((29,29,0),none)),(6,.inl (((-2147483648),2147483647,1),none)),(7,.inl ((0,5,1),none))],[],[((114,28),(0,0,0),some ((114,28),0,0)),((114,39),(0,29,1),none)]),(5424,[(-19)]),0),
  (28,([(0,.inr (.inl [114])),(1,.inl ((0,387420488,1),none)),(2,.inl ((0,2,1),none)),(3,.inl ((0,387420488,1),none)),(4,.inl ((0,6,1),none)),(5,.inl ((30,30,0),none))],[],[((114,28),(0,0,0),some ((114,28),0,0)),((114,39),(0,30,1),none)]),(5304,[0]),0),
  (101,([(0,.inr (.inl [114])),(1,.inl ((0,387420488,1),none)),(2,.inl ((0,2,1),none)),(3,.inl ((0,387420488,1),none)),(4,.inl ((0,6,1),none)),(5,.inl ((30,30,0),none))],[],[((114,28),(0,0,0),some ((114,28),0,0)),((114,39),(0,31,1),none)]),(5152,[0]),0),
  (58,([(0,.inr (.inl [114])),(1,.inl ((0,387420488,1),none)),(2,.inl ((0,2,1),none)),(3,.inl ((0,387420488,1),none)),(4,.inl ((0,6,1),none)),(5,.inl ((30,30,0),none)),(6,.inl (((-2147483648),2147483647,1),none)),(7,.inl ((0,6,1),none))],[],[((114,28),(0,0,0),some ((114,28),0,0)),((114,39),(0,30,1),none)]),(5286,[(-19)]),0),
  (89,([(0,.inr (.inl [114])),(1,.inl ((0,387420488,1),none)),(2,.inl ((0,2,1),none)),(3,.inl ((0,387420488,1),none)),(4,.inl ((1,6,1),none)),(5,.inl ((30,30,0),none)),(6,.inl (((-2147483648),2147483647,1),none)),(7,.inl ((0,5,1),none))],[],[((114,28),(0,0,0),some ((114,28),0,0)),((114,39),(0,30,1),none)]),(5270,[(-19)]),0),
  (28,([(0,.inr (.inl [114])),(1,.inl ((0,387420488,1),none)),(2,.inl ((0,2,1),none)),(3,.inl ((0,387420488,1),none)),(4,.inl ((0,6,1),none)),(5,.inl ((31,31,0),none))],[],[((114,28),(0,0,0),some ((114,28),0,0)),((114,39),(0,31,1),none)]),(5150,[0]),0),
  (101,([(0,.inr (.inl [114])),(1,.inl ((0,387420488,1),none)),(2,.inl ((0,2,1),none)),(3,.inl ((0,387420488,1),none)),(4,.inl ((0,6,1),none)),(5,.inl ((31,31,0),none))],[],[((114,28),(0,0,0),some ((114,28),0,0)),((114,39),(0,32,1),none)]),(4998,[0]),0),
  (58,([(0,.inr (.inl [114])),(1,.inl ((0,387420488,1),none)),(2,.inl ((0,2,1),none)),(3,.inl ((0,387420488,1),none)),(4,.inl ((0,6,1),none)),(5,.inl ((31,31,0),none)),(6,.inl (((-2147483648),2147483647,1),none)),(7,.inl ((0,6,1),none))],[],[((114,28),(0,0,0),some ((114,28),0,0)),((114,39),(0,31,1),none)]),(5132,[(-19)]),0),
  (89,([(0,.inr (.inl [114])),(1,.inl ((0,387420488,1),none)),(2,.inl ((0,2,1),none)),(3,.inl ((0,387420488,1),none)),(4,.inl ((1,6,1),none)),(5,.inl ((31,31,0),none)),(6,.inl (((-2147483648),2147483647,1),none)),(7,.inl ((0,5,1),none))],[],[((114,28),(0,0,0),some ((114,28),0,0)),((114,39),(0,31,1),none)]),(5116,[(-19)]),0),
  (28,([(0,.inr (.inl [114])),(1,.inl ((0,387420488,1),none)),(2,.inl ((0,2,1),none)),(3,.inl ((0,387420488,1),none)),(4,.inl ((0,6,1),none)),(5,.inl ((32,32,0),none))],[],[((114,28),(0,0,0),some ((114,28),0,0)),((114,39),(0,32,1),none)]),(4996,[0]),0),
  (101,([(0,.inr (.inl [114])),(1,.inl ((0,387420488,1),none)),(2,.inl ((0,2,1),none)),(3,.inl ((0,387420488,1),none)),(4,.inl ((0,6,1),none)),(5,.inl ((32,32,0),none))],[],[((114,28),(0,0,0),some ((114,28),0,0)),((114,39),(0,33,1),none)]),(4844,[0]),0),
  (58,([(0,.inr (.inl [114])),(1,.inl ((0,387420488,1),none)),(2,.inl ((0,2,1),none)),(3,.inl ((0,387420488,1),none)),(4,.inl ((0,6,1),none)),(5,.inl ((32,32,0),none)),(6,.inl (((-2147483648),2147483647,1),none)),(7,.inl ((0,6,1),none))],[],[((114,28),(0,0,0),some ((114,28),0,0)),((114,39),(0,32,1),none)]),(4978,[(-19)]),0),
  (89,([(0,.inr (.inl [114])),(1,.inl ((0,387420488,1),none)),(2,.inl ((0,2,1),none)),(3,.inl ((0,387420488,1),none)),(4,.inl ((1,6,1),none)),(5,.inl ((32,32,0),none)),(6,.inl (((-2147483648),2147483647,1),none)),(7,.inl ((0,5,1),none))],[],[((114,28),(0,0,0),some ((114,28),0,0)),((114,39),(0,32,1),none)]),(4962,[(-19)]),0),
  (28,([(0,.inr (.inl [114])),(1,.inl ((0,387420488,1),none)),(2,.inl ((0,2,1),none)),(3,.inl ((0,387420488,1),none)),(4,.inl ((0,6,1),none)),(5,.inl ((33,33,0),none))],[],[((114,28),(0,0,0),some ((114,28),0,0)),((114,39),(0,33,1),none)]),(4842,[0]),0),
  (101,([(0,.inr (.inl [114])),(1,.inl ((0,387420488,1),none)),(2,.inl ((0,2,1),none)),(3,.inl ((0,387420488,1),none)),(4,.inl ((0,6,1),none)),(5,.inl ((33,33,0),none))],[],[((114,28),(0,0,0),some ((114,28),0,0)),((114,39),(0,34,1),none)]),(4690,[0]),0),
  (58,([(0,.inr (.inl [114])),(1,.inl ((0,387420488,1),none)),(2,.inl ((0,2,1),none)),(3,.inl ((0,387420488,1),none)),(4,.inl ((0,6,1),none)),(5,.inl ((33,33,0),none)),(6,.inl (((-2147483648),2147483647,1),none)),(7,.inl ((0,6,1),none))],[],[((114,28),(0,0,0),some ((114,28),0,0)),((114,39),(0,33,1),none)]),(4824,[(-19)]),0),
  (89,([(0,.inr (.inl [114])),(1,.inl ((0,387420488,1),none)),(2,.inl ((0,2,1),none)),(3,.inl ((0,387420488,1),none)),(4,.inl ((1,6,1),none)),(5,.inl ((33,33,0),none)),(6,.inl (((-2147483648),2147483647,1),none)),(7,.inl ((0,5,1),none))],[],[((114,28),(0,0,0),some ((114,28),0,0)),((114,39),(0,33,1),none)]),(4808,[(-19)]),0),
  (28,([(0,.inr (.inl [114])),(1,.inl ((0,387420488,1),none)),(2,.inl ((0,2,1),none)),(3,.inl ((0,387420488,1),none)),(4,.inl ((0,6,1),none)),(5,.inl ((34,34,0),none))],[],[((114,28),(0,0,0),some ((114,28),0,0)),((114,39),(0,34,1),none)]),(4688,[0]),0),
  (101,([(0,.inr (.inl [114])),(1,.inl ((0,387420488,1),none)),(2,.inl ((0,2,1),none)),(3,.inl ((0,387420488,1),none)),(4,.inl ((0,6,1),none)),(5,.inl ((34,34,0),none))],[],[((114,28),(0,0,0),some ((114,28),0,0)),((114,39),(0,35,1),none)]),(4536,[0]),0),
  (58,([(0,.inr (.inl [114])),(1,.inl ((0,387420488,1),none)),(2,.inl ((0,2,1),none)),(3,.inl ((0,387420488,1),none)),(4,.inl ((0,6,1),none)),(5,.inl ((34,34,0),none)),(6,.inl (((-2147483648),2147483647,1),none)),(7,.inl ((0,6,1),none))],[],[((114,28),(0,0,0),some ((114,28),0,0)),((114,39),(0,34,1),none)]),(4670,[(-19)]),0),
  (89,([(0,.inr (.inl [114])),(1,.inl ((0,387420488,1),none)),(2,.inl ((0,2,1),none)),(3,.inl ((0,387420488,1),none)),(4,.inl ((1,6,1),none)),(5,.inl ((34,34,0),none)),(6,.inl (((-2147483648),2147483647,1),none)),(7,.inl ((0,5,1),none))],[],[((114,28),(0,0,0),some ((114,28),0,0)),((114,39),(0,34,1),none)]),(4654,[(-19)]),0),
  (28,([(0,.inr (.inl [114])),(1,.inl ((0,387420488,1),none)),(2,.inl ((0,2,1),none)),(3,.inl ((0,387420488,1),none)),(4,.inl ((0,6,1),none)),(5,.inl ((35,35,0),none))],[],[((114,28),(0,0,0),some ((114,28),0,0)),((114,39),(0,35,1),none)]),(4534,[0]),0),
  (101,([(0,.inr (.inl [114])),(1,.inl ((0,387420488,1),none)),(2,.inl ((0,2,1),none)),(3,.inl ((0,387420488,1),none)),(4,.inl ((0,6,1),none)),(5,.inl ((35,35,0),none))],[],[((114,28),(0,0,0),some ((114,28),0,0)),((114,39),(0,36,1),none)]),(4382,[0]),0),
  (58,([(0,.inr (.inl [114])),(1,.inl ((0,387420488,1),none)),(2,.inl ((0,2,1),none)),(3,.inl ((0,387420488,1),none)),(4,.inl ((0,6,1),none)),(5,.inl ((35,35,0),none)),(6,.inl (((-2147483648),2147483647,1),none)),(7,.inl ((0,6,1),none))],[],[((114,28),(0,0,0),some ((114,28),0,0)),((114,39),(0,35,1),none)]),(4516,[(-19)]),0),
  (89,([(0,.inr (.inl [114])),(1,.inl ((0,387420488,1),none)),(2,.inl ((0,2,1),none)),(3,.inl ((0,387420488,1),none)),(4,.inl ((1,6,1),none)),(5,.inl ((35,35,0),none)),(6,.inl (((-2147483648),2147483647,1),none)),(7,.inl ((0,5,1),none))],[],[((114,28),(0,0,0),some ((114,28),0,0)),((114,39),(0,35,1),none)]),(4500,[(-19)]),0),
  (28,([(0,.inr (.inl [114])),(1,.inl ((0,387420488,1),none)),(2,.inl ((0,2,1),none)),(3,.inl ((0,387420488,1),none)),(4,.inl ((0,6,1),none)),(5,.inl ((36,36,0),none))],[],[((114,28),(0,0,0),some ((114,28),0,0)),((114,39),(0,36,1),none)]),(4380,[0]),0),
  (101,([(0,.inr (.inl [114])),(1,.inl ((0,387420488,1),none)),(2,.inl ((0,2,1),none)),(3,.inl ((0,387420488,1),none)),(4,.inl ((0,6,1),none)),(5,.inl ((36,36,0),none))],[],[((114,28),(0,0,0),some ((114,28),0,0)),((114,39),(0,37,1),none)]),(4228,[0]),0),
  (58,([(0,.inr (.inl [114])),(1,.inl ((0,387420488,1),none)),(2,.inl ((0,2,1),none)),(3,.inl ((0,387420488,1),none)),(4,.inl ((0,6,1),none)),(5,.inl ((36,36,0),none)),(6,.inl (((-2147483648),2147483647,1),none)),(7,.inl ((0,6,1),none))],[],[((114,28),(0,0,0),some ((114,28),0,0)),((114,39),(0,36,1),none)]),(4362,[(-19)]),0),
  (89,([(0,.inr (.inl [114])),(1,.inl ((0,387420488,1),none)),(2,.inl ((0,2,1),none)),(3,.inl ((0,387420488,1),none)),(4,.inl ((1,6,1),none)),(5,.inl ((36,36,0),none)),(6,.inl (((-2147483648),2147483647,1),none)),(7,.inl ((0,5,1),none))],[],[((114,28),(0,0,0),some ((114,28),0,0)),((114,39),(0,36,1),none)]),(4346,[(-19)]),0),
  (28,([(0,.inr (.inl [114])),(1,.inl ((0,387420488,1),none)),(2,.inl ((0,2,1),none)),(3,.inl ((0,387420488,1),none)),(4,.inl ((0,6,1),none)),(5,.inl ((37,37,0),none))],[],[((114,28),(0,0,0),some ((114,28),0,0)),((114,39),(0,37,1),none)]),(4226,[0]),0),
  (101,([(0,.inr (.inl [114])),(1,.inl ((0,387420488,1),none)),(2,.inl ((0,2,1),none)),(3,.inl ((0,387420488,1),none)),(4,.inl ((0,6,1),none)),(5,.inl ((37,37,0),none))],[],[((114,28),(0,0,0),some ((114,28),0,0)),((114,39),(0,38,1),none)]),(4074,[0]),0),
  (58,([(0,.inr (.inl [114])),(1,.inl ((0,387420488,1),none)),(2,.inl ((0,2,1),none)),(3,.inl ((0,387420488,1),none)),(4,.inl ((0,6,1),none)),(5,.inl ((37,37,0),none)),(6,.inl (((-2147483648),2147483647,1),none)),(7,.inl ((0,6,1),none))],[],[((114,28),(0,0,0),some ((114,28),0,0)),((114,39),(0,37,1),none)]),(4208,[(-19)]),0),
  (89,([(0,.inr (.inl [114])),(1,.inl ((0,387420488,1),none)),(2,.inl ((0,2,1),none)),(3,.inl ((0,387420488,1),none)),(4,.inl ((1,6,1),none)),(5,.inl ((37,37,0),none)),(6,.inl (((-2147483648),2147483647,1),none)),(7,.inl ((0,5,1),none))],[],[((114,28),(0,0,0),some ((114,28),0,0)),((114,39),(0,37,1),none)]),(4192,[(-19)]),0),
  (28,([(0,.inr (.inl [114])),(1,.inl ((0,387420488,1),none)),(2,.inl ((0,2,1),none)),(3,.inl ((0,387420488,1),none)),(4,.inl ((0,6,1),none)),(5,.inl ((38,38,0),none))],[],[((114,28),(0,0,0),some ((114,28),0,0)),((114,39),(0,38,1),none)]),(4072,[0]),0),
  (101,([(0,.inr (.inl [114])),(1,.inl ((0,387420488,1),none)),(2,.inl ((0,2,1),none)),(3,.inl ((0,387420488,1),none)),(4,.inl ((0,6,1),none)),(5,.inl ((38,38,0),none))],[],[((114,28),(0,0,0),some ((114,28),0,0)),((114,39),(0,39,1),none)]),(3920,[0]),0),
  (58,([(0,.inr (.inl [114])),(1,.inl ((0,387420488,1),none)),(2,.inl ((0,2,1),none)),(3,.inl ((0,387420488,1),none)),(4,.inl ((0,6,1),none)),(5,.inl ((38,38,0),none)),(6,.inl (((-2147483648),2147483647,1),none)),(7,.inl ((0,6,1),none))],[],[((114,28),(0,0,0),some ((114,28),0,0)),((114,39),(0,38,1),none)]),(4054,[(-19)]),0),
  (89,([(0,.inr (.inl [114])),(1,.inl ((0,387420488,1),none)),(2,.inl ((0,2,1),none)),(3,.inl ((0,387420488,1),none)),(4,.inl ((1,6,1),none)),(5,.inl ((38,38,0),none)),(6,.inl (((-2147483648),2147483647,1),none)),(7,.inl ((0,5,1),none))],[],[((114,28),(0,0,0),some ((114,28),0,0)),((114,39),(0,38,1),none)]),(4038,[(-19)]),0),
  (28,([(0,.inr (.inl [114])),(1,.inl ((0,387420488,1),none)),(2,.inl ((0,2,1),none)),(3,.inl ((0,387420488,1),none)),(4,.inl ((0,6,1),none)),(5,.inl ((39,39,0),none))],[],[((114,28),(0,0,0),some ((114,28),0,0)),((114,39),(0,39,1),none)]),(3918,[0]),0),
  (101,([(0,.inr (.inl [114])),(1,.inl ((0,387420488,1),none)),(2,.inl ((0,2,1),none)),(3,.inl ((0,387420488,1),none)),(4,.inl ((0,6,1),none)),(5,.inl ((39,39,0),none))],[],[((114,28),(0,0,0),some ((114,28),0,0)),((114,39),(0,40,1),none)]),(3766,[0]),0),
  (58,([(0,.inr (.inl [114])),(1,.inl ((0,387420488,1),none)),(2,.inl ((0,2,1),none)),(3,.inl ((0,387420488,1),none)),(4,.inl ((0,6,1),none)),(5,.inl ((39,39,0),none)),(6,.inl (((-2147483648),2147483647,1),none)),(7,.inl ((0,6,1),none))],[],[((114,28),(0,0,0),some ((114,28),0,0)),((114,39),(0,39,1),none)]),(3900,[(-19)]),0),
  (89,([(0,.inr (.inl [114])),(1,.inl ((0,387420488,1),none)),(2,.inl ((0,2,1),none)),(3,.inl ((0,387420488,1),none)),(4,.inl ((1,6,1),none)),(5,.inl ((39,39,0),none)),(6,.inl (((-2147483648),2147483647,1),none)),(7,.inl ((0,5,1),none))],[],[((114,28),(0,0,0),some ((114,28),0,0)),((114,39),(0,39,1),none)]),(3884,[(-19)]),0),
  (28,([(0,.inr (.inl [114])),(1,.inl ((0,387420488,1),none)),(2,.inl ((0,2,1),none)),(3,.inl ((0,387420488,1),none)),(4,.inl ((0,6,1),none)),(5,.inl ((40,40,0),none))],[],[((114,28),(0,0,0),some ((114,28),0,0)),((114,39),(0,40,1),none)]),(3764,[0]),0),
  (101,([(0,.inr (.inl [114])),(1,.inl ((0,387420488,1),none)),(2,.inl ((0,2,1),none)),(3,.inl ((0,387420488,1),none)),(4,.inl ((0,6,1),none)),(5,.inl ((40,40,0),none))],[],[((114,28),(0,0,0),some ((114,28),0,0)),((114,39),(0,41,1),none)]),(3612,[0]),0),
  (58,([(0,.inr (.inl [114])),(1,.inl ((0,387420488,1),none)),(2,.inl ((0,2,1),none)),(3,.inl ((0,387420488,1),none)),(4,.inl ((0,6,1),none)),(5,.inl ((40,40,0),none)),(6,.inl (((-2147483648),2147483647,1),none)),(7,.inl ((0,6,1),none))],[],[((114,28),(0,0,0),some ((114,28),0,0)),((114,39),(0,40,1),none)]),(3746,[(-19)]),0),
  (89,([(0,.inr (.inl [114])),(1,.inl ((0,387420488,1),none)),(2,.inl ((0,2,1),none)),(3,.inl ((0,387420488,1),none)),(4,.inl ((1,6,1),none)),(5,.inl ((40,40,0),none)),(6,.inl (((-2147483648),2147483647,1),none)),(7,.inl ((0,5,1),none))],[],[((114,28),(0,0,0),some ((114,28),0,0)),((114,39),(0,40,1),none)]),(3730,[(-19)]),0),
  (28,([(0,.inr (.inl [114])),(1,.inl ((0,387420488,1),none)),(2,.inl ((0,2,1),none)),(3,.inl ((0,387420488,1),none)),(4,.inl ((0,6,1),none)),(5,.inl ((41,41,0),none))],[],[((114,28),(0,0,0),some ((114,28),0,0)),((114,39),(0,41,1),none)]),(3610,[0]),0),
  (101,([(0,.inr (.inl [114])),(1,.inl ((0,387420488,1),none)),(2,.inl ((0,2,1),none)),(3,.inl ((0,387420488,1),none)),(4,.inl ((0,6,1),none)),(5,.inl ((41,41,0),none))],[],[((114,28),(0,0,0),some ((114,28),0,0)),((114,39),(0,42,1),none)]),(3458,[0]),0),
  (58,([(0,.inr (.inl [114])),(1,.inl ((0,387420488,1),none)),(2,.inl ((0,2,1),none)),(3,.inl ((0,387420488,1),none)),(4,.inl ((0,6,1),none)),(5,.inl ((41,41,0),none)),(6,.inl (((-2147483648),2147483647,1),none)),(7,.inl ((0,6,1),none))],[],[((114,28),(0,0,0),some ((114,28),0,0)),((114,39),(0,41,1),none)]),(3592,[(-19)]),0),
  (89,([(0,.inr (.inl [114])),(1,.inl ((0,387420488,1),none)),(2,.inl ((0,2,1),none)),(3,.inl ((0,387420488,1),none)),(4,.inl ((1,6,1),none)),(5,.inl ((41,41,0),none)),(6,.inl (((-2147483648),2147483647,1),none)),(7,.inl ((0,5,1),none))],[],[((114,28),(0,0,0),some ((114,28),0,0)),((114,39),(0,41,1),none)]),(3576,[(-19)]),0),
  (28,([(0,.inr (.inl [114])),(1,.inl ((0,387420488,1),none)),(2,.inl ((0,2,1),none)),(3,.inl ((0,387420488,1),none)),(4,.inl ((0,6,1),none)),(5,.inl ((42,42,0),none))],[],[((114,28),(0,0,0),some ((114,28),0,0)),((114,39),(0,42,1),none)]),(3456,[0]),0),
  (101,([(0,.inr (.inl [114])),(1,.inl ((0,387420488,1),none)),(2,.inl ((0,2,1),none)),(3,.inl ((0,387420488,1),none)),(4,.inl ((0,6,1),none)),(5,.inl ((42,42,0),none))],[],[((114,28),(0,0,0),some ((114,28),0,0)),((114,39),(0,43,1),none)]),(3304,[0]),0),
  (58,([(0,.inr (.inl [114])),(1,.inl ((0,387420488,1),none)),(2,.inl ((0,2,1),none)),(3,.inl ((0,387420488,1),none)),(4,.inl ((0,6,1),none)),(5,.inl ((42,42,0),none)),(6,.inl (((-2147483648),2147483647,1),none)),(7,.inl ((0,6,1),none))],[],[((114,28),(0,0,0),some ((114,28),0,0)),((114,39),(0,42,1),none)]),(3438,[(-19)]),0),
  (89,([(0,.inr (.inl [114])),(1,.inl ((0,387420488,1),none)),(2,.inl ((0,2,1),none)),(3,.inl ((0,387420488,1),none)),(4,.inl ((1,6,1),none)),(5,.inl ((42,42,0),none)),(6,.inl (((-2147483648),2147483647,1),none)),(7,.inl ((0,5,1),none))],[],[((114,28),(0,0,0),some ((114,28),0,0)),((114,39),(0,42,1),none)]),(3422,[(-19)]),0),
  (28,([(0,.inr (.inl [114])),(1,.inl ((0,387420488,1),none)),(2,.inl ((0,2,1),none)),(3,.inl ((0,387420488,1),none)),(4,.inl ((0,6,1),none)),(5,.inl ((43,43,0),none))],[],[((114,28),(0,0,0),some ((114,28),0,0)),((114,39),(0,43,1),none)]),(3302,[0]),0),
  (101,([(0,.inr (.inl [114])),(1,.inl ((0,387420488,1),none)),(2,.inl ((0,2,1),none)),(3,.inl ((0,387420488,1),none)),(4,.inl ((0,6,1),none)),(5,.inl ((43,43,0),none))],[],[((114,28),(0,0,0),some ((114,28),0,0)),((114,39),(0,44,1),none)]),(3150,[0]),0),
  (58,([(0,.inr (.inl [114])),(1,.inl ((0,387420488,1),none)),(2,.inl ((0,2,1),none)),(3,.inl ((0,387420488,1),none)),(4,.inl ((0,6,1),none)),(5,.inl ((43,43,0),none)),(6,.inl (((-2147483648),2147483647,1),none)),(7,.inl ((0,6,1),none))],[],[((114,28),(0,0,0),some ((114,28),0,0)),((114,39),(0,43,1),none)]),(3284,[(-19)]),0),
  (89,([(0,.inr (.inl [114])),(1,.inl ((0,387420488,1),none)),(2,.inl ((0,2,1),none)),(3,.inl ((0,387420488,1),none)),(4,.inl ((1,6,1),none)),(5,.inl ((43,43,0),none)),(6,.inl (((-2147483648),2147483647,1),none)),(7,.inl ((0,5,1),none))],[],[((114,28),(0,0,0),some ((114,28),0,0)),((114,39),(0,43,1),none)]),(3268,[(-19)]),0),
  (28,([(0,.inr (.inl [114])),(1,.inl ((0,387420488,1),none)),(2,.inl ((0,2,1),none)),(3,.inl ((0,387420488,1),none)),(4,.inl ((0,6,1),none)),(5,.inl ((44,44,0),none))],[],[((114,28),(0,0,0),some ((114,28),0,0)),((114,39),(0,44,1),none)]),(3148,[0]),0),
  (101,([(0,.inr (.inl [114])),(1,.inl ((0,387420488,1),none)),(2,.inl ((0,2,1),none)),(3,.inl ((0,387420488,1),none)),(4,.inl ((0,6,1),none)),(5,.inl ((44,44,0),none))],[],[((114,28),(0,0,0),some ((114,28),0,0)),((114,39),(0,45,1),none)]),(2996,[0]),0),
  (58,([(0,.inr (.inl [114])),(1,.inl ((0,387420488,1),none)),(2,.inl ((0,2,1),none)),(3,.inl ((0,387420488,1),none)),(4,.inl ((0,6,1),none)),(5,.inl ((44,44,0),none)),(6,.inl (((-2147483648),2147483647,1),none)),(7,.inl ((0,6,1),none))],[],[((114,28),(0,0,0),some ((114,28),0,0)),((114,39),(0,44,1),none)]),(3130,[(-19)]),0),
  (89,([(0,.inr (.inl [114])),(1,.inl ((0,387420488,1),none)),(2,.inl ((0,2,1),none)),(3,.inl ((0,387420488,1),none)),(4,.inl ((1,6,1),none)),(5,.inl ((44,44,0),none)),(6,.inl (((-2147483648),2147483647,1),none)),(7,.inl ((0,5,1),none))],[],[((114,28),(0,0,0),some ((114,28),0,0)),((114,39),(0,44,1),none)]),(3114,[(-19)]),0),
  (28,([(0,.inr (.inl [114])),(1,.inl ((0,387420488,1),none)),(2,.inl ((0,2,1),none)),(3,.inl ((0,387420488,1),none)),(4,.inl ((0,6,1),none)),(5,.inl ((45,45,0),none))],[],[((114,28),(0,0,0),some ((114,28),0,0)),((114,39),(0,45,1),none)]),(2994,[0]),0),
  (101,([(0,.inr (.inl [114])),(1,.inl ((0,387420488,1),none)),(2,.inl ((0,2,1),none)),(3,.inl ((0,387420488,1),none)),(4,.inl ((0,6,1),none)),(5,.inl ((45,45,0),none))],[],[((114,28),(0,0,0),some ((114,28),0,0)),((114,39),(0,46,1),none)]),(2842,[0]),0),
  (58,([(0,.inr (.inl [114])),(1,.inl ((0,387420488,1),none)),(2,.inl ((0,2,1),none)),(3,.inl ((0,387420488,1),none)),(4,.inl ((0,6,1),none)),(5,.inl ((45,45,0),none)),(6,.inl (((-2147483648),2147483647,1),none)),(7,.inl ((0,6,1),none))],[],[((114,28),(0,0,0),some ((114,28),0,0)),((114,39),(0,45,1),none)]),(2976,[(-19)]),0),
  (89,([(0,.inr (.inl [114])),(1,.inl ((0,387420488,1),none)),(2,.inl ((0,2,1),none)),(3,.inl ((0,387420488,1),none)),(4,.inl ((1,6,1),none)),(5,.inl ((45,45,0),none)),(6,.inl (((-2147483648),2147483647,1),none)),(7,.inl ((0,5,1),none))],[],[((114,28),(0,0,0),some ((114,28),0,0)),((114,39),(0,45,1),none)]),(2960,[(-19)]),0),
  (28,([(0,.inr (.inl [114])),(1,.inl ((0,387420488,1),none)),(2,.inl ((0,2,1),none)),(3,.inl ((0,387420488,1),none)),(4,.inl ((0,6,1),none)),(5,.inl ((46,46,0),none))],[],[((114,28),(0,0,0),some ((114,28),0,0)),((114,39),(0,46,1),none)]),(2840,[0]),0),
  (101,([(0,.inr (.inl [114])),(1,.inl ((0,387420488,1),none)),(2,.inl ((0,2,1),none)),(3,.inl ((0,387420488,1),none)),(4,.inl ((0,6,1),none)),(5,.inl ((46,46,0),none))],[],[((114,28),(0,0,0),some ((114,28),0,0)),((114,39),(0,47,1),none)]),(2688,[0]),0),
  (58,([(0,.inr (.inl [114])),(1,.inl ((0,387420488,1),none)),(2,.inl ((0,2,1),none)),(3,.inl ((0,387420488,1),none)),(4,.inl ((0,6,1),none)),(5,.inl ((46,46,0),none)),(6,.inl (((-2147483648),2147483647,1),none)),(7,.inl ((0,6,1),none))],[],[((114,28),(0,0,0),some ((114,28),0,0)),((114,39),(0,46,1),none)]),(2822,[(-19)]),0),
  (89,([(0,.inr (.inl [114])),(1,.inl ((0,387420488,1),none)),(2,.inl ((0,2,1),none)),(3,.inl ((0,387420488,1),none)),(4,.inl ((1,6,1),none)),(5,.inl ((46,46,0),none)),(6,.inl (((-2147483648),2147483647,1),none)),(7,.inl ((0,5,1),none))],[],[((114,28),(0,0,0),some ((114,28),0,0)),((114,39),(0,46,1),none)]),(2806,[(-19)]),0),
  (28,([(0,.inr (.inl [114])),(1,.inl ((0,387420488,1),none)),(2,.inl ((0,2,1),none)),(3,.inl ((0,387420488,1),none)),(4,.inl ((0,6,1),none)),(5,.inl ((47,47,0),none))],[],[((114,28),(0,0,0),some ((114,28),0,0)),((114,39),(0,47,1),none)]),(2686,[0]),0),
  (101,([(0,.inr (.inl [114])),(1,.inl ((0,387420488,1),none)),(2,.inl ((0,2,1),none)),(3,.inl ((0,387420488,1),none)),(4,.inl ((0,6,1),none)),(5,.inl ((47,47,0),none))],[],[((114,28),(0,0,0),some ((114,28),0,0)),((114,39),(0,48,1),none)]),(2534,[0]),0),
  (58,([(0,.inr (.inl [114])),(1,.inl ((0,387420488,1),none)),(2,.inl ((0,2,1),none)),(3,.inl ((0,387420488,1),none)),(4,.inl ((0,6,1),none)),(5,.inl ((47,47,0),none)),(6,.inl (((-2147483648),2147483647,1),none)),(7,.inl ((0,6,1),none))],[],[((114,28),(0,0,0),some ((114,28),0,0)),((114,39),(0,47,1),none)]),(2668,[(-19)]),0),
  (89,([(0,.inr (.inl [114])),(1,.inl ((0,387420488,1),none)),(2,.inl ((0,2,1),none)),(3,.inl ((0,387420488,1),none)),(4,.inl ((1,6,1),none)),(5,.inl ((47,47,0),none)),(6,.inl (((-2147483648),2147483647,1),none)),(7,.inl ((0,5,1),none))],[],[((114,28),(0,0,0),some ((114,28),0,0)),((114,39),(0,47,1),none)]),(2652,[(-19)]),0),
  (28,([(0,.inr (.inl [114])),(1,.inl ((0,387420488,1),none)),(2,.inl ((0,2,1),none)),(3,.inl ((0,387420488,1),none)),(4,.inl ((0,6,1),none)),(5,.inl ((48,48,0),none))],[],[((114,28),(0,0,0),some ((114,28),0,0)),((114,39),(0,48,1),none)]),(2532,[0]),0),
  (101,([(0,.inr (.inl [114])),(1,.inl ((0,387420488,1),none)),(2,.inl ((0,2,1),none)),(3,.inl ((0,387420488,1),none)),(4,.inl ((0,6,1),none)),(5,.inl ((48,48,0),none))],[],[((114,28),(0,0,0),some ((114,28),0,0)),((114,39),(0,49,1),none)]),(2380,[0]),0),
  (58,([(0,.inr (.inl [114])),(1,.inl ((0,387420488,1),none)),(2,.inl ((0,2,1),none)),(3,.inl ((0,387420488,1),none)),(4,.inl ((0,6,1),none)),(5,.inl ((48,48,0),none)),(6,.inl (((-2147483648),2147483647,1),none)),(7,.inl ((0,6,1),none))],[],[((114,28),(0,0,0),some ((114,28),0,0)),((114,39),(0,48,1),none)]),(2514,[(-19)]),0),
  (89,([(0,.inr (.inl [114])),(1,.inl ((0,387420488,1),none)),(2,.inl ((0,2,1),none)),(3,.inl ((0,387420488,1),none)),(4,.inl ((1,6,1),none)),(5,.inl ((48,48,0),none)),(6,.inl (((-2147483648),2147483647,1),none)),(7,.inl ((0,5,1),none))],[],[((114,28),(0,0,0),some ((114,28),0,0)),((114,39),(0,48,1),none)]),(2498,[(-19)]),0),
  (28,([(0,.inr (.inl [114])),(1,.inl ((0,387420488,1),none)),(2,.inl ((0,2,1),none)),(3,.inl ((0,387420488,1),none)),(4,.inl ((0,6,1),none)),(5,.inl ((49,49,0),none))],[],[((114,28),(0,0,0),some ((114,28),0,0)),((114,39),(0,49,1),none)]),(2378,[0]),0),
  (101,([(0,.inr (.inl [114])),(1,.inl ((0,387420488,1),none)),(2,.inl ((0,2,1),none)),(3,.inl ((0,387420488,1),none)),(4,.inl ((0,6,1),none)),(5,.inl ((49,49,0),none))],[],[((114,28),(0,0,0),some ((114,28),0,0)),((114,39),(0,50,1),none)]),(2226,[0]),0),
  (58,([(0,.inr (.inl [114])),(1,.inl ((0,387420488,1),none)),(2,.inl ((0,2,1),none)),(3,.inl ((0,387420488,1),none)),(4,.inl ((0,6,1),none)),(5,.inl ((49,49,0),none)),(6,.inl (((-2147483648),2147483647,1),none)),(7,.inl ((0,6,1),none))],[],[((114,28),(0,0,0),some ((114,28),0,0)),((114,39),(0,49,1),none)]),(2360,[(-19)]),0),
  (89,([(0,.inr (.inl [114])),(1,.inl ((0,387420488,1),none)),(2,.inl ((0,2,1),none)),(3,.inl ((0,387420488,1),none)),(4,.inl ((1,6,1),none)),(5,.inl ((49,49,0),none)),(6,.inl (((-2147483648),2147483647,1),none)),(7,.inl ((0,5,1),none))],[],[((114,28),(0,0,0),some ((114,28),0,0)),((114,39),(0,49,1),none)]),(2344,[(-19)]),0),
  (28,([(0,.inr (.inl [114])),(1,.inl ((0,387420488,1),none)),(2,.inl ((0,2,1),none)),(3,.inl ((0,387420488,1),none)),(4,.inl ((0,6,1),none)),(5,.inl ((50,50,0),none))],[],[((114,28),(0,0,0),some ((114,28),0,0)),((114,39),(0,50,1),none)]),(2224,[0]),0),
  (101,([(0,.inr (.inl [114])),(1,.inl ((0,387420488,1),none)),(2,.inl ((0,2,1),none)),(3,.inl ((0,387420488,1),none)),(4,.inl ((0,6,1),none)),(5,.inl ((50,50,0),none))],[],[((114,28),(0,0,0),some ((114,28),0,0)),((114,39),(0,51,1),none)]),(2072,[0]),0),
  (58,([(0,.inr (.inl [114])),(1,.inl ((0,387420488,1),none)),(2,.inl ((0,2,1),none)),(3,.inl ((0,387420488,1),none)),(4,.inl ((0,6,1),none)),(5,.inl ((50,50,0),none)),(6,.inl (((-2147483648),2147483647,1),none)),(7,.inl ((0,6,1),none))],[],[((114,28),(0,0,0),some ((114,28),0,0)),((114,39),(0,50,1),none)]),(2206,[(-19)]),0),
  (89,([(0,.inr (.inl [114])),(1,.inl ((0,387420488,1),none)),(2,.inl ((0,2,1),none)),(3,.inl ((0,387420488,1),none)),(4,.inl ((1,6,1),none)),(5,.inl ((50,50,0),none)),(6,.inl (((-2147483648),2147483647,1),none)),(7,.inl ((0,5,1),none))],[],[((114,28),(0,0,0),some ((114,28),0,0)),((114,39),(0,50,1),none)]),(2190,[(-19)]),0),
  (28,([(0,.inr (.inl [114])),(1,.inl ((0,387420488,1),none)),(2,.inl ((0,2,1),none)),(3,.inl ((0,387420488,1),none)),(4,.inl ((0,6,1),none)),(5,.inl ((51,51,0),none))],[],[((114,28),(0,0,0),some ((114,28),0,0)),((114,39),(0,51,1),none)]),(2070,[0]),0),
  (101,([(0,.inr (.inl [114])),(1,.inl ((0,387420488,1),none)),(2,.inl ((0,2,1),none)),(3,.inl ((0,387420488,1),none)),(4,.inl ((0,6,1),none)),(5,.inl ((51,51,0),none))],[],[((114,28),(0,0,0),some ((114,28),0,0)),((114,39),(0,52,1),none)]),(1918,[0]),0),
  (58,([(0,.inr (.inl [114])),(1,.inl ((0,387420488,1),none)),(2,.inl ((0,2,1),none)),(3,.inl ((0,387420488,1),none)),(4,.inl ((0,6,1),none)),(5,.inl ((51,51,0),none)),(6,.inl (((-2147483648),2147483647,1),none)),(7,.inl ((0,6,1),none))],[],[((114,28),(0,0,0),some ((114,28),0,0)),((114,39),(0,51,1),none)]),(2052,[(-19)]),0),
  (89,([(0,.inr (.inl [114])),(1,.inl ((0,387420488,1),none)),(2,.inl ((0,2,1),none)),(3,.inl ((0,387420488,1),none)),(4,.inl ((1,6,1),none)),(5,.inl ((51,51,0),none)),(6,.inl (((-2147483648),2147483647,1),none)),(7,.inl ((0,5,1),none))],[],[((114,28),(0,0,0),some ((114,28),0,0)),((114,39),(0,51,1),none)]),(2036,[(-19)]),0),
  (28,([(0,.inr (.inl [114])),(1,.inl ((0,387420488,1),none)),(2,.inl ((0,2,1),none)),(3,.inl ((0,387420488,1),none)),(4,.inl ((0,6,1),none)),(5,.inl ((52,52,0),none))],[],[((114,28),(0,0,0),some ((114,28),0,0)),((114,39),(0,52,1),none)]),(1916,[0]),0),
  (101,([(0,.inr (.inl [114])),(1,.inl ((0,387420488,1),none)),(2,.inl ((0,2,1),none)),(3,.inl ((0,387420488,1),none)),(4,.inl ((0,6,1),none)),(5,.inl ((52,52,0),none))],[],[((114,28),(0,0,0),some ((114,28),0,0)),((114,39),(0,53,1),none)]),(1764,[0]),0),
  (58,([(0,.inr (.inl [114])),(1,.inl ((0,387420488,1),none)),(2,.inl ((0,2,1),none)),(3,.inl ((0,387420488,1),none)),(4,.inl ((0,6,1),none)),(5,.inl ((52,52,0),none)),(6,.inl (((-2147483648),2147483647,1),none)),(7,.inl ((0,6,1),none))],[],[((114,28),(0,0,0),some ((114,28),0,0)),((114,39),(0,52,1),none)]),(1898,[(-19)]),0),
  (89,([(0,.inr (.inl [114])),(1,.inl ((0,387420488,1),none)),(2,.inl ((0,2,1),none)),(3,.inl ((0,387420488,1),none)),(4,.inl ((1,6,1),none)),(5,.inl ((52,52,0),none)),(6,.inl (((-2147483648),2147483647,1),none)),(7,.inl ((0,5,1),none))],[],[((114,28),(0,0,0),some ((114,28),0,0)),((114,39),(0,52,1),none)]),(1882,[(-19)]),0),
  (28,([(0,.inr (.inl [114])),(1,.inl ((0,387420488,1),none)),(2,.inl ((0,2,1),none)),(3,.inl ((0,387420488,1),none)),(4,.inl ((0,6,1),none)),(5,.inl ((53,53,0),none))],[],[((114,28),(0,0,0),some ((114,28),0,0)),((114,39),(0,53,1),none)]),(1762,[0]),0),
  (101,([(0,.inr (.inl [114])),(1,.inl ((0,387420488,1),none)),(2,.inl ((0,2,1),none)),(3,.inl ((0,387420488,1),none)),(4,.inl ((0,6,1),none)),(5,.inl ((53,53,0),none))],[],[((114,28),(0,0,0),some ((114,28),0,0)),((114,39),(0,54,1),none)]),(1610,[0]),0),
  (58,([(0,.inr (.inl [114])),(1,.inl ((0,387420488,1),none)),(2,.inl ((0,2,1),none)),(3,.inl ((0,387420488,1),none)),(4,.inl ((0,6,1),none)),(5,.inl ((53,53,0),none)),(6,.inl (((-2147483648),2147483647,1),none)),(7,.inl ((0,6,1),none))],[],[((114,28),(0,0,0),some ((114,28),0,0)),((114,39),(0,53,1),none)]),(1744,[(-19)]),0),
  (89,([(0,.inr (.inl [114])),(1,.inl ((0,387420488,1),none)),(2,.inl ((0,2,1),none)),(3,.inl ((0,387420488,1),none)),(4,.inl ((1,6,1),none)),(5,.inl ((53,53,0),none)),(6,.inl (((-2147483648),2147483647,1),none)),(7,.inl ((0,5,1),none))],[],[((114,28),(0,0,0),some ((114,28),0,0)),((114,39),(0,53,1),none)]),(1728,[(-19)]),0),
  (28,([(0,.inr (.inl [114])),(1,.inl ((0,387420488,1),none)),(2,.inl ((0,2,1),none)),(3,.inl ((0,387420488,1),none)),(4,.inl ((0,6,1),none)),(5,.inl ((54,54,0),none))],[],[((114,28),(0,0,0),some ((114,28),0,0)),((114,39),(0,54,1),none)]),(1608,[0]),0),
  (101,([(0,.inr (.inl [114])),(1,.inl ((0,387420488,1),none)),(2,.inl ((0,2,1),none)),(3,.inl ((0,387420488,1),none)),(4,.inl ((0,6,1),none)),(5,.inl ((54,54,0),none))],[],[((114,28),(0,0,0),some ((114,28),0,0)),((114,39),(0,55,1),none)]),(1456,[0]),0),
  (58,([(0,.inr (.inl [114])),(1,.inl ((0,387420488,1),none)),(2,.inl ((0,2,1),none)),(3,.inl ((0,387420488,1),none)),(4,.inl ((0,6,1),none)),(5,.inl ((54,54,0),none)),(6,.inl (((-2147483648),2147483647,1),none)),(7,.inl ((0,6,1),none))],[],[((114,28),(0,0,0),some ((114,28),0,0)),((114,39),(0,54,1),none)]),(1590,[(-19)]),0),
  (89,([(0,.inr (.inl [114])),(1,.inl ((0,387420488,1),none)),(2,.inl ((0,2,1),none)),(3,.inl ((0,387420488,1),none)),(4,.inl ((1,6,1),none)),(5,.inl ((54,54,0),none)),(6,.inl (((-2147483648),2147483647,1),none)),(7,.inl ((0,5,1),none))],[],[((114,28),(0,0,0),some ((114,28),0,0)),((114,39),(0,54,1),none)]),(1574,[(-19)]),0),
  (28,([(0,.inr (.inl [114])),(1,.inl ((0,387420488,1),none)),(2,.inl ((0,2,1),none)),(3,.inl ((0,387420488,1),none)),(4,.inl ((0,6,1),none)),(5,.inl ((55,55,0),none))],[],[((114,28),(0,0,0),some ((114,28),0,0)),((114,39),(0,55,1),none)]),(1454,[0]),0),
  (101,([(0,.inr (.inl [114])),(1,.inl ((0,387420488,1),none)),(2,.inl ((0,2,1),none)),(3,.inl ((0,387420488,1),none)),(4,.inl ((0,6,1),none)),(5,.inl ((55,55,0),none))],[],[((114,28),(0,0,0),some ((114,28),0,0)),((114,39),(0,56,1),none)]),(1302,[0]),0),
  (58,([(0,.inr (.inl [114])),(1,.inl ((0,387420488,1),none)),(2,.inl ((0,2,1),none)),(3,.inl ((0,387420488,1),none)),(4,.inl ((0,6,1),none)),(5,.inl ((55,55,0),none)),(6,.inl (((-2147483648),2147483647,1),none)),(7,.inl ((0,6,1),none))],[],[((114,28),(0,0,0),some ((114,28),0,0)),((114,39),(0,55,1),none)]),(1436,[(-19)]),0),
  (89,([(0,.inr (.inl [114])),(1,.inl ((0,387420488,1),none)),(2,.inl ((0,2,1),none)),(3,.inl ((0,387420488,1),none)),(4,.inl ((1,6,1),none)),(5,.inl ((55,55,0),none)),(6,.inl (((-2147483648),2147483647,1),none)),(7,.inl ((0,5,1),none))],[],[((114,28),(0,0,0),some ((114,28),0,0)),((114,39),(0,55,1),none)]),(1420,[(-19)]),0),
  (28,([(0,.inr (.inl [114])),(1,.inl ((0,387420488,1),none)),(2,.inl ((0,2,1),none)),(3,.inl ((0,387420488,1),none)),(4,.inl ((0,6,1),none)),(5,.inl ((56,56,0),none))],[],[((114,28),(0,0,0),some ((114,28),0,0)),((114,39),(0,56,1),none)]),(1300,[0]),0),
  (101,([(0,.inr (.inl [114])),(1,.inl ((0,387420488,1),none)),(2,.inl ((0,2,1),none)),(3,.inl ((0,387420488,1),none)),(4,.inl ((0,6,1),none)),(5,.inl ((56,56,0),none))],[],[((114,28),(0,0,0),some ((114,28),0,0)),((114,39),(0,57,1),none)]),(1148,[0]),0),
  (58,([(0,.inr (.inl [114])),(1,.inl ((0,387420488,1),none)),(2,.inl ((0,2,1),none)),(3,.inl ((0,387420488,1),none)),(4,.inl ((0,6,1),none)),(5,.inl ((56,56,0),none)),(6,.inl (((-2147483648),2147483647,1),none)),(7,.inl ((0,6,1),none))],[],[((114,28),(0,0,0),some ((114,28),0,0)),((114,39),(0,56,1),none)]),(1282,[(-19)]),0),
  (89,([(0,.inr (.inl [114])),(1,.inl ((0,387420488,1),none)),(2,.inl ((0,2,1),none)),(3,.inl ((0,387420488,1),none)),(4,.inl ((1,6,1),none)),(5,.inl ((56,56,0),none)),(6,.inl (((-2147483648),2147483647,1),none)),(7,.inl ((0,5,1),none))],[],[((114,28),(0,0,0),some ((114,28),0,0)),((114,39),(0,56,1),none)]),(1266,[(-19)]),0),
  (28,([(0,.inr (.inl [114])),(1,.inl ((0,387420488,1),none)),(2,.inl ((0,2,1),none)),(3,.inl ((0,387420488,1),none)),(4,.inl ((0,6,1),none)),(5,.inl ((57,57,0),none))],[],[((114,28),(0,0,0),some ((114,28),0,0)),((114,39),(0,57,1),none)]),(1146,[0]),0),
  (101,([(0,.inr (.inl [114])),(1,.inl ((0,387420488,1),none)),(2,.inl ((0,2,1),none)),(3,.inl ((0,387420488,1),none)),(4,.inl ((0,6,1),none)),(5,.inl ((57,57,0),none))],[],[((114,28),(0,0,0),some ((114,28),0,0)),((114,39),(0,58,1),none)]),(994,[0]),0),
  (58,([(0,.inr (.inl [114])),(1,.inl ((0,387420488,1),none)),(2,.inl ((0,2,1),none)),(3,.inl ((0,387420488,1),none)),(4,.inl ((0,6,1),none)),(5,.inl ((57,57,0),none)),(6,.inl (((-2147483648),2147483647,1),none)),(7,.inl ((0,6,1),none))],[],[((114,28),(0,0,0),some ((114,28),0,0)),((114,39),(0,57,1),none)]),(1128,[(-19)]),0),
  (89,([(0,.inr (.inl [114])),(1,.inl ((0,387420488,1),none)),(2,.inl ((0,2,1),none)),(3,.inl ((0,387420488,1),none)),(4,.inl ((1,6,1),none)),(5,.inl ((57,57,0),none)),(6,.inl (((-2147483648),2147483647,1),none)),(7,.inl ((0,5,1),none))],[],[((114,28),(0,0,0),some ((114,28),0,0)),((114,39),(0,57,1),none)]),(1112,[(-19)]),0),
  (28,([(0,.inr (.inl [114])),(1,.inl ((0,387420488,1),none)),(2,.inl ((0,2,1),none)),(3,.inl ((0,387420488,1),none)),(4,.inl ((0,6,1),none)),(5,.inl ((58,58,0),none))],[],[((114,28),(0,0,0),some ((114,28),0,0)),((114,39),(0,58,1),none)]),(992,[0]),0),
  (101,([(0,.inr (.inl [114])),(1,.inl ((0,387420488,1),none)),(2,.inl ((0,2,1),none)),(3,.inl ((0,387420488,1),none)),(4,.inl ((0,6,1),none)),(5,.inl ((58,58,0),none))],[],[((114,28),(0,0,0),some ((114,28),0,0)),((114,39),(0,59,1),none)]),(840,[0]),0),
  (58,([(0,.inr (.inl [114])),(1,.inl ((0,387420488,1),none)),(2,.inl ((0,2,1),none)),(3,.inl ((0,387420488,1),none)),(4,.inl ((0,6,1),none)),(5,.inl ((58,58,0),none)),(6,.inl (((-2147483648),2147483647,1),none)),(7,.inl ((0,6,1),none))],[],[((114,28),(0,0,0),some ((114,28),0,0)),((114,39),(0,58,1),none)]),(974,[(-19)]),0),
  (89,([(0,.inr (.inl [114])),(1,.inl ((0,387420488,1),none)),(2,.inl ((0,2,1),none)),(3,.inl ((0,387420488,1),none)),(4,.inl ((1,6,1),none)),(5,.inl ((58,58,0),none)),(6,.inl (((-2147483648),2147483647,1),none)),(7,.inl ((0,5,1),none))],[],[((114,28),(0,0,0),some ((114,28),0,0)),((114,39),(0,58,1),none)]),(958,[(-19)]),0),
  (28,([(0,.inr (.inl [114])),(1,.inl ((0,387420488,1),none)),(2,.inl ((0,2,1),none)),(3,.inl ((0,387420488,1),none)),(4,.inl ((0,6,1),none)),(5,.inl ((59,59,0),none))],[],[((114,28),(0,0,0),some ((114,28),0,0)),((114,39),(0,59,1),none)]),(838,[0]),0),
  (101,([(0,.inr (.inl [114])),(1,.inl ((0,387420488,1),none)),(2,.inl ((0,2,1),none)),(3,.inl ((0,387420488,1),none)),(4,.inl ((0,6,1),none)),(5,.inl ((59,59,0),none))],[],[((114,28),(0,0,0),some ((114,28),0,0)),((114,39),(0,60,1),none)]),(686,[0]),0),
  (58,([(0,.inr (.inl [114])),(1,.inl ((0,387420488,1),none)),(2,.inl ((0,2,1),none)),(3,.inl ((0,387420488,1),none)),(4,.inl ((0,6,1),none)),(5,.inl ((59,59,0),none)),(6,.inl (((-2147483648),2147483647,1),none)),(7,.inl ((0,6,1),none))],[],[((114,28),(0,0,0),some ((114,28),0,0)),((114,39),(0,59,1),none)]),(820,[(-19)]),0),
  (89,([(0,.inr (.inl [114])),(1,.inl ((0,387420488,1),none)),(2,.inl ((0,2,1),none)),(3,.inl ((0,387420488,1),none)),(4,.inl ((1,6,1),none)),(5,.inl ((59,59,0),none)),(6,.inl (((-2147483648),2147483647,1),none)),(7,.inl ((0,5,1),none))],[],[((114,28),(0,0,0),some ((114,28),0,0)),((114,39),(0,59,1),none)]),(804,[(-19)]),0),
  (28,([(0,.inr (.inl [114])),(1,.inl ((0,387420488,1),none)),(2,.inl ((0,2,1),none)),(3,.inl ((0,387420488,1),none)),(4,.inl ((0,6,1),none)),(5,.inl ((60,60,0),none))],[],[((114,28),(0,0,0),some ((114,28),0,0)),((114,39),(0,60,1),none)]),(684,[0]),0),
  (101,([(0,.inr (.inl [114])),(1,.inl ((0,387420488,1),none)),(2,.inl ((0,2,1),none)),(3,.inl ((0,387420488,1),none)),(4,.inl ((0,6,1),none)),(5,.inl ((60,60,0),none))],[],[((114,28),(0,0,0),some ((114,28),0,0)),((114,39),(0,61,1),none)]),(532,[0]),0),
  (58,([(0,.inr (.inl [114])),(1,.inl ((0,387420488,1),none)),(2,.inl ((0,2,1),none)),(3,.inl ((0,387420488,1),none)),(4,.inl ((0,6,1),none)),(5,.inl ((60,60,0),none)),(6,.inl (((-2147483648),2147483647,1),none)),(7,.inl ((0,6,1),none))],[],[((114,28),(0,0,0),some ((114,28),0,0)),((114,39),(0,60,1),none)]),(666,[(-19)]),0),
  (89,([(0,.inr (.inl [114])),(1,.inl ((0,387420488,1),none)),(2,.inl ((0,2,1),none)),(3,.inl ((0,387420488,1),none)),(4,.inl ((1,6,1),none)),(5,.inl ((60,60,0),none)),(6,.inl (((-2147483648),2147483647,1),none)),(7,.inl ((0,5,1),none))],[],[((114,28),(0,0,0),some ((114,28),0,0)),((114,39),(0,60,1),none)]),(650,[(-19)]),0),
  (28,([(0,.inr (.inl [114])),(1,.inl ((0,387420488,1),none)),(2,.inl ((0,2,1),none)),(3,.inl ((0,387420488,1),none)),(4,.inl ((0,6,1),none)),(5,.inl ((61,61,0),none))],[],[((114,28),(0,0,0),some ((114,28),0,0)),((114,39),(0,61,1),none)]),(530,[0]),0),
  (101,([(0,.inr (.inl [114])),(1,.inl ((0,387420488,1),none)),(2,.inl ((0,2,1),none)),(3,.inl ((0,387420488,1),none)),(4,.inl ((0,6,1),none)),(5,.inl ((61,61,0),none))],[],[((114,28),(0,0,0),some ((114,28),0,0)),((114,39),(0,62,1),none)]),(378,[0]),0),
  (58,([(0,.inr (.inl [114])),(1,.inl ((0,387420488,1),none)),(2,.inl ((0,2,1),none)),(3,.inl ((0,387420488,1),none)),(4,.inl ((0,6,1),none)),(5,.inl ((61,61,0),none)),(6,.inl (((-2147483648),2147483647,1),none)),(7,.inl ((0,6,1),none))],[],[((114,28),(0,0,0),some ((114,28),0,0)),((114,39),(0,61,1),none)]),(512,[(-19)]),0),
  (89,([(0,.inr (.inl [114])),(1,.inl ((0,387420488,1),none)),(2,.inl ((0,2,1),none)),(3,.inl ((0,387420488,1),none)),(4,.inl ((1,6,1),none)),(5,.inl ((61,61,0),none)),(6,.inl (((-2147483648),2147483647,1),none)),(7,.inl ((0,5,1),none))],[],[((114,28),(0,0,0),some ((114,28),0,0)),((114,39),(0,61,1),none)]),(496,[(-19)]),0),
  (28,([(0,.inr (.inl [114])),(1,.inl ((0,387420488,1),none)),(2,.inl ((0,2,1),none)),(3,.inl ((0,387420488,1),none)),(4,.inl ((0,6,1),none)),(5,.inl ((62,62,0),none))],[],[((114,28),(0,0,0),some ((114,28),0,0)),((114,39),(0,62,1),none)]),(376,[0]),0),
  (101,([(0,.inr (.inl [114])),(1,.inl ((0,387420488,1),none)),(2,.inl ((0,2,1),none)),(3,.inl ((0,387420488,1),none)),(4,.inl ((0,6,1),none)),(5,.inl ((62,62,0),none))],[],[((114,28),(0,0,0),some ((114,28),0,0)),((114,39),(0,63,1),none)]),(224,[0]),0),
  (58,([(0,.inr (.inl [114])),(1,.inl ((0,387420488,1),none)),(2,.inl ((0,2,1),none)),(3,.inl ((0,387420488,1),none)),(4,.inl ((0,6,1),none)),(5,.inl ((62,62,0),none)),(6,.inl (((-2147483648),2147483647,1),none)),(7,.inl ((0,6,1),none))],[],[((114,28),(0,0,0),some ((114,28),0,0)),((114,39),(0,62,1),none)]),(358,[(-19)]),0),
  (89,([(0,.inr (.inl [114])),(1,.inl ((0,387420488,1),none)),(2,.inl ((0,2,1),none)),(3,.inl ((0,387420488,1),none)),(4,.inl ((1,6,1),none)),(5,.inl ((62,62,0),none)),(6,.inl (((-2147483648),2147483647,1),none)),(7,.inl ((0,5,1),none))],[],[((114,28),(0,0,0),some ((114,28),0,0)),((114,39),(0,62,1),none)]),(342,[(-19)]),0),
  (28,([(0,.inr (.inl [114])),(1,.inl ((0,387420488,1),none)),(2,.inl ((0,2,1),none)),(3,.inl ((0,387420488,1),none)),(4,.inl ((0,6,1),none)),(5,.inl ((63,63,0),none))],[],[((114,28),(0,0,0),some ((114,28),0,0)),((114,39),(0,63,1),none)]),(222,[0]),0),
  (101,([(0,.inr (.inl [114])),(1,.inl ((0,387420488,1),none)),(2,.inl ((0,2,1),none)),(3,.inl ((0,387420488,1),none)),(4,.inl ((0,6,1),none)),(5,.inl ((63,63,0),none))],[],[((114,28),(0,0,0),some ((114,28),0,0))]),(70,[0]),0),
  (58,([(0,.inr (.inl [114])),(1,.inl ((0,387420488,1),none)),(2,.inl ((0,2,1),none)),(3,.inl ((0,387420488,1),none)),(4,.inl ((0,6,1),none)),(5,.inl ((63,63,0),none)),(6,.inl (((-2147483648),2147483647,1),none)),(7,.inl ((0,6,1),none))],[],[((114,28),(0,0,0),some ((114,28),0,0)),((114,39),(0,63,1),none)]),(204,[(-19)]),0),
  (89,([(0,.inr (.inl [114])),(1,.inl ((0,387420488,1),none)),(2,.inl ((0,2,1),none)),(3,.inl ((0,387420488,1),none)),(4,.inl ((1,6,1),none)),(5,.inl ((63,63,0),none)),(6,.inl (((-2147483648),2147483647,1),none)),(7,.inl ((0,5,1),none))],[],[((114,28),(0,0,0),some ((114,28),0,0)),((114,39),(0,63,1),none)]),(188,[(-19)]),0),
  (28,([(0,.inr (.inl [114])),(1,.inl ((0,387420488,1),none)),(2,.inl ((0,2,1),none)),(3,.inl ((0,387420488,1),none)),(4,.inl ((0,6,1),none)),(5,.inl ((64,64,0),none))],[],[((114,28),(0,0,0),some ((114,28),0,0))]),(68,[0]),0)]
set_option maxRecDepth 100000 in
theorem q849_ok : rf_chkB q849_P q849_U wLay q849_M ddX12_layForms [(10,[0]),(15,[1]),(41,[2]),(69,[3]),(83,[4]),(98,[5])] [.inl 7] [0,28,58,89,101] 600 q849_N = true := by decide +kernel
set_option maxHeartbeats 4000000 in
theorem q849_met {G : rfG} (h : okG G) : rf_met G q849_M := rf_methodB h.1 (P := q849_P) (U := q849_U) (N := q849_N) ⟨wflT h flokX12, wcsT h csokX12, wlcT h lcokX12, spokX12 h, List.forall_mem_cons.mpr ⟨q838_met h, List.forall_mem_cons.mpr ⟨q837_met h, List.forall_mem_cons.mpr ⟨q792_met h, List.forall_mem_cons.mpr ⟨q684_met h, List.forall_mem_cons.mpr ⟨q848_met h, List.forall_mem_cons.mpr ⟨q803_met h, fun _ h => absurd h List.not_mem_nil⟩⟩⟩⟩⟩⟩, List.forall_mem_cons.mpr ⟨fun M hM => Option.some.inj (show some q684_M = some M from hM) ▸ wlkS (lkX12_251 h) q684_M rfl rfl, List.forall_mem_cons.mpr ⟨fun M hM => Option.some.inj (show some q837_M = some M from hM) ▸ wlkS (lkX12_319 h) q837_M rfl rfl, List.forall_mem_cons.mpr ⟨fun M hM => Option.some.inj (show some q838_M = some M from hM) ▸ wlkS (lkX12_322 h) q838_M rfl rfl, List.forall_mem_cons.mpr ⟨fun M hM => Option.some.inj (show some q792_M = some M from hM) ▸ wlkS (lkX12_356 h) q792_M rfl rfl, List.forall_mem_cons.mpr ⟨fun M hM => Option.some.inj (show some q848_M = some M from hM) ▸ wlkS (lkX12_359 h) q848_M rfl rfl, fun _ h => absurd h List.not_mem_nil⟩⟩⟩⟩⟩, List.forall_mem_cons.mpr ⟨fun M hM => Option.some.inj (show some q803_M = some M from hM) ▸ wlkV (lkX12_362 h) q803_M rfl rfl, fun _ h => absurd h List.not_mem_nil⟩, fun _ h => absurd h List.not_mem_nil, fun _ h => absurd h List.not_mem_nil⟩ dkX12_layForms (by decide +kernel) (by rw [h.2.2.1]; exact q849_ok)
/-- NearSpellModel.layStore -/
def q850_M : rfM := ((⟨"NearSpellModel", "layStore", "(I)I"⟩, prog_14_method_51_code, 5, (some .int)), (4,93), ([.inr (.inl [114]),.inl ((0,2,1),none)],[((114,28),(0,0,0),none)]), [(91,0),(92,0),(93,0),(114,40)], [(some (.inl (((-2147483648),2147483647,1),none)),[],[])])
def ddX12_layStore : List (Nat × Instr × Nat) := [(0,.iconst 0,1),(1,.istore_n 2,1),(2,.iconst 0,1),(3,.istore_n 3,1),(4,.iload_n 3,1),(5,.bipush 14,2),(7,.if_icmp .ge 94,3),(10,.aload_n 0,1),(11,.getfield 81,3),(14,.iload_n 3,1),(15,.iconst 0,1),(16,.iastore,1),(17,.aload_n 0,1),(18,.iload_n 3,1),(19,.invokevirtual 350,3),(22,.ifCond .ne 6,3),(25,.goto 70,3),(28,.aload_n 0,1),(29,.aload_n 0,1),(30,.getfield 72,3),(33,.iconst 0,1),(34,.iload_n 3,1),(35,.iadd,1),(36,.iaload,1),(37,.iload_n 1,1),(38,.invokevirtual 366,3),(41,.aload_n 0,1),(42,.getfield 81,3),(45,.iload_n 3,1),(46,.aload_n 0,1),(47,.getfield 353,3),(50,.iastore,1),(51,.iconst 0,1),(52,.istore 4,2),(54,.iload 4,2),(56,.aload_n 0,1),(57,.getfield 353,3),(60,.if_icmp .ge 28,3),(63,.aload_n 0,1),(64,.getfield 78,3),(67,.bipush 64,2),(69,.iload_n 3,1),(70,.imul,1),(71,.iload 4,2),(73,.iadd,1),(74,.aload_n 0,1),(75,.getfield 75,3),(78,.iload 4,2),(80,.iaload,1),(81,.iastore,1),(82,.iinc 4 1,3),(85,.goto (-31),3),(88,.iload_n 2,1),(89,.aload_n 0,1),(90,.getfield 353,3),(93,.iadd,1),(94,.istore_n 2,1),(95,.iinc 3 1,3),(98,.goto (-94),3),(101,.iload_n 2,1),(102,.ireturn,1)]
set_option maxRecDepth 100000 in
theorem dkX12_layStore : rf_decs prog_14_method_51_code ddX12_layStore := rf_decs_of (by decide +kernel)
def q850_P : rfP := (flX12,csX12,lcX12,spX12,[q827_M,q804_M],[],[(350,0,12),(366,1,12)],([],[]))
def q850_U : rfU := []
set_option maxHeartbeats 8000000 in
def q850_N : List rfB := [(0,([(0,.inr (.inl [114])),(1,.inl ((0,2,1),none))],[],[((114,28),(0,0,0),some ((114,28),0,0))]),(19115,[0,0]),0),
  (4,([(0,.inr (.inl [114])),(1,.inl ((0,2,1),none)),(2,.inl (((-2147483648),2147483647,1),none)),(3,.inl ((0,14,1),none))],[],[((114,28),(0,0,0),some ((114,28),0,0))]),(19109,[(-1274),0]),0),
  (95,([(0,.inr (.inl [114])),(1,.inl ((0,2,1),none)),(2,.inl (((-2147483648),2147483647,1),none)),(3,.inl ((0,13,1),none))],[],[((114,28),(0,0,0),some ((114,28),0,0))]),(17838,[(-1274),0]),0),
  (54,([(0,.inr (.inl [114])),(1,.inl ((0,2,1),none)),(2,.inl (((-2147483648),2147483647,1),none)),(3,.inl ((0,13,1),none)),(4,.inl ((0,64,1),none))],[],[((90,28),(1,14,1),none),((114,28),(0,0,0),some ((114,28),0,0))]),(19078,[(-1274),(-19)]),0)]
set_option maxRecDepth 100000 in
theorem q850_ok : rf_chkB q850_P q850_U wLay q850_M ddX12_layStore [(19,[0]),(38,[1])] [.inl 3,.inl 4] [0,4,54,95] 600 q850_N = true := by decide +kernel
set_option maxHeartbeats 4000000 in
theorem q850_met {G : rfG} (h : okG G) : rf_met G q850_M := rf_methodB h.1 (P := q850_P) (U := q850_U) (N := q850_N) ⟨wflT h flokX12, wcsT h csokX12, wlcT h lcokX12, spokX12 h, List.forall_mem_cons.mpr ⟨q827_met h, List.forall_mem_cons.mpr ⟨q804_met h, fun _ h => absurd h List.not_mem_nil⟩⟩, fun _ h => absurd h List.not_mem_nil, List.forall_mem_cons.mpr ⟨fun M hM => Option.some.inj (show some q827_M = some M from hM) ▸ wlkV (lkX12_350 h) q827_M rfl rfl, List.forall_mem_cons.mpr ⟨fun M hM => Option.some.inj (show some q804_M = some M from hM) ▸ wlkV (lkX12_366 h) q804_M rfl rfl, fun _ h => absurd h List.not_mem_nil⟩⟩, fun _ h => absurd h List.not_mem_nil, fun _ h => absurd h List.not_mem_nil⟩ dkX12_layStore (by decide +kernel) (by rw [h.2.2.1]; exact q850_ok)
/-- NearSpellModel.totalOf -/
def q852_M : rfM := ((⟨"NearSpellModel", "totalOf", "(I)I"⟩, prog_14_method_42_code, 3, (some .int)), (0,0), ([.inl (((-2147483648),2147483647,1),none)],[]), [], [(some (.inl (((-2147483648),2147483647,1),none)),[],[])])
def ddX12_totalOf : List (Nat × Instr × Nat) := [(0,.iconst 0,1),(1,.istore_n 1,1),(2,.iload_n 0,1),(3,.istore_n 2,1),(4,.iload_n 2,1),(5,.ifCond .le 18,3),(8,.iload_n 1,1),(9,.iload_n 2,1),(10,.bipush 27,2),(12,.irem,1),(13,.iadd,1),(14,.istore_n 1,1),(15,.iload_n 2,1),(16,.bipush 27,2),(18,.idiv,1),(19,.istore_n 2,1),(20,.goto (-16),3),(23,.iload_n 1,1),(24,.ireturn,1)]
set_option maxRecDepth 100000 in
theorem dkX12_totalOf : rf_decs prog_14_method_42_code ddX12_totalOf := rf_decs_of (by decide +kernel)
def q852_P : rfP := (flX12,csX12,lcX12,spX12,[],[],[],([],[]))
def q852_U : rfU := []
set_option maxHeartbeats 8000000 in
def q852_N : List rfB := [(0,([(0,.inl (((-2147483648),2147483647,1),none))],[],[]),(60129542149,[0]),0),
  (4,([(0,.inl (((-2147483648),2147483647,1),none)),(1,.inl (((-2147483648),2147483647,1),none)),(2,.inl (((-2147483648),2147483647,1),none))],[],[]),(30064771085,[14]),0)]
set_option maxRecDepth 100000 in
theorem q852_ok : rf_chkB q852_P q852_U wLay q852_M ddX12_totalOf [] [.inl 2] [0,4] 600 q852_N = true := by decide +kernel
set_option maxHeartbeats 4000000 in
theorem q852_met {G : rfG} (h : okG G) : rf_met G q852_M := rf_methodB h.1 (P := q852_P) (U := q852_U) (N := q852_N) ⟨wflT h flokX12, wcsT h csokX12, wlcT h lcokX12, spokX12 h, fun _ h => absurd h List.not_mem_nil, fun _ h => absurd h List.not_mem_nil, fun _ h => absurd h List.not_mem_nil, fun _ h => absurd h List.not_mem_nil, fun _ h => absurd h List.not_mem_nil⟩ dkX12_totalOf (by decide +kernel) (by rw [h.2.2.1]; exact q852_ok)
/-- NearSpellModel.lengthOf -/
def q853_M : rfM := ((⟨"NearSpellModel", "lengthOf", "(I)I"⟩, prog_14_method_41_code, 3, (some .int)), (0,0), ([.inl (((-2147483648),2147483647,1),none)],[]), [], [(some (.inl ((0,7,1),none)),[],[])])
def q853_P : rfP := (flX12,csX12,lcX12,spX12,[],[],[],([],[]))
def q853_U : rfU := []
set_option maxHeartbeats 8000000 in
def q853_N : List rfB := [(0,([(0,.inl (((-2147483648),2147483647,1),none))],[],[]),(77,[]),0),
  (4,([(0,.inl (((-2147483648),2147483647,1),none)),(1,.inl ((0,0,0),none)),(2,.inl (((-2147483648),2147483647,1),some (.inl 0,some 0)))],[],[]),(73,[]),0),
  (4,([(0,.inl ((1,2147483647,1),none)),(1,.inl ((1,1,0),none)),(2,.inl ((0,79536431,1),some (.inl 0,none)))],[],[]),(65,[]),0),
  (4,([(0,.inl ((1,2147483647,1),none)),(1,.inl ((2,2,0),none)),(2,.inl ((0,2945793,1),none))],[],[]),(57,[]),0),
  (4,([(0,.inl ((1,2147483647,1),none)),(1,.inl ((3,3,0),none)),(2,.inl ((0,109103,1),none))],[],[]),(49,[]),0),
  (4,([(0,.inl ((1,2147483647,1),none)),(1,.inl ((4,4,0),none)),(2,.inl ((0,4040,1),none))],[],[]),(41,[]),0),
  (4,([(0,.inl ((1,2147483647,1),none)),(1,.inl ((5,5,0),none)),(2,.inl ((0,149,1),none))],[],[]),(33,[]),0),
  (4,([(0,.inl ((1,2147483647,1),none)),(1,.inl ((6,6,0),none)),(2,.inl ((0,5,1),none))],[],[]),(25,[]),0),
  (4,([(0,.inl ((1,2147483647,1),none)),(1,.inl ((7,7,0),none)),(2,.inl ((0,0,1),none))],[],[]),(17,[]),0)]
set_option maxRecDepth 100000 in
theorem q853_ok : rf_chkB q853_P q853_U wLay q853_M ddX12_lengthOf [] [] [0,4] 600 q853_N = true := by decide +kernel
set_option maxHeartbeats 4000000 in
theorem q853_met {G : rfG} (h : okG G) : rf_met G q853_M := rf_methodB h.1 (P := q853_P) (U := q853_U) (N := q853_N) ⟨wflT h flokX12, wcsT h csokX12, wlcT h lcokX12, spokX12 h, fun _ h => absurd h List.not_mem_nil, fun _ h => absurd h List.not_mem_nil, fun _ h => absurd h List.not_mem_nil, fun _ h => absurd h List.not_mem_nil, fun _ h => absurd h List.not_mem_nil⟩ dkX12_lengthOf (by decide +kernel) (by rw [h.2.2.1]; exact q853_ok)
/-- NearSpellModel.bucketOf -/
def q854_M : rfM := ((⟨"NearSpellModel", "bucketOf", "(I)I"⟩, prog_14_method_33_code, 3, (some .int)), (21,2023), ([.inr (.inl [114]),.inl (((-2147483648),2147483647,1),none)],[((114,28),(0,0,0),none),((998,0),(1,1,0),none)]), [(89,0),(114,35)], [(some (.inl ((0,30,1),none)),[],[])])
def ddX12_bucketOf : List (Nat × Instr × Nat) := [(0,.aload_n 0,1),(1,.iload_n 1,1),(2,.putfield 313,3),(5,.aload_n 0,1),(6,.getfield 42,3),(9,.aload_n 0,1),(10,.getfield 242,3),(13,.iaload,1),(14,.iconst 0,1),(15,.invokestatic 251,3),(18,.ifCond .eq 10,3),(21,.aload_n 0,1),(22,.invokevirtual 330,3),(25,.goto 15,3),(28,.bipush 7,2),(30,.iload_n 1,1),(31,.invokestatic 316,3),(34,.imul,1),(35,.iload_n 1,1),(36,.invokestatic 319,3),(39,.iadd,1),(40,.aload_n 0,1),(41,.getfield 33,3),(44,.aload_n 0,1),(45,.getfield 242,3),(48,.iaload,1),(49,.irem,1),(50,.istore_n 2,1),(51,.iload_n 2,1),(52,.ifCond .ge 17,3),(55,.iload_n 2,1),(56,.aload_n 0,1),(57,.getfield 33,3),(60,.aload_n 0,1),(61,.getfield 242,3),(64,.iaload,1),(65,.iadd,1),(66,.goto 4,3),(69,.iload_n 2,1),(70,.ireturn,1)]
set_option maxRecDepth 100000 in
theorem dkX12_bucketOf : rf_decs prog_14_method_33_code ddX12_bucketOf := rf_decs_of (by decide +kernel)
def q854_P : rfP := (flX12,csX12,lcX12,spX12,[q684_M,q851_M,q852_M,q853_M],[(251,0),(316,2),(319,3)],[(330,1,12)],([],[]))
def q854_U : rfU := [(.inr (77,0),[(1,1),(2,2),(3,3),(4,4),(5,5),(6,6),(7,7),(8,8),(9,9),(10,10),(11,11),(12,12),(13,13),(14,14),(15,15),(16,16),(17,17),(18,18),(19,19),(20,20),(21,21),(22,22),(23,23),(24,24),(25,25),(26,26),(27,27),(28,28),(29,29),(30,30),(31,31)])]
set_option maxHeartbeats 8000000 in
def q854_N : List rfB := [(0,([(0,.inr (.inl [114])),(1,.inl (((-2147483648),2147483647,1),none))],[],[((114,28),(0,0,0),some ((114,28),0,0)),((998,0),(1,1,0),some ((998,0),0,0))]),(1264,[]),1000000),
  (40,([(0,.inr (.inl [114])),(1,.inl (((-2147483648),2147483647,1),none))],[.inl (((-2147483648),2147483647,1),none)],[((77,0),(19,19,1),none),((114,28),(0,0,0),some ((114,28),0,0)),((998,0),(1,1,0),some ((998,0),0,0))]),(749,[]),0),
  (40,([(0,.inr (.inl [114])),(1,.inl (((-2147483648),2147483647,1),none))],[.inl (((-2147483648),2147483647,1),none)],[((77,0),(30,30,1),none),((114,28),(0,0,0),some ((114,28),0,0)),((998,0),(1,1,0),some ((998,0),0,0))]),(1200,[]),0),
  (40,([(0,.inr (.inl [114])),(1,.inl (((-2147483648),2147483647,1),none))],[.inl (((-2147483648),2147483647,1),none)],[((77,0),(5,5,1),none),((114,28),(0,0,0),some ((114,28),0,0)),((998,0),(1,1,0),some ((998,0),0,0))]),(175,[]),0),
  (40,([(0,.inr (.inl [114])),(1,.inl (((-2147483648),2147483647,1),none))],[.inl (((-2147483648),2147483647,1),none)],[((77,0),(25,25,1),none),((114,28),(0,0,0),some ((114,28),0,0)),((998,0),(1,1,0),some ((998,0),0,0))]),(995,[]),0),
  (40,([(0,.inr (.inl [114])),(1,.inl (((-2147483648),2147483647,1),none))],[.inl (((-2147483648),2147483647,1),none)],[((77,0),(24,24,1),none),((114,28),(0,0,0),some ((114,28),0,0)),((998,0),(1,1,0),some ((998,0),0,0))]),(954,[]),0),
  (40,([(0,.inr (.inl [114])),(1,.inl (((-2147483648),2147483647,1),none))],[.inl (((-2147483648),2147483647,1),none)],[((77,0),(20,20,1),none),((114,28),(0,0,0),some ((114,28),0,0)),((998,0),(1,1,0),some ((998,0),0,0))]),(790,[]),0),
  (40,([(0,.inr (.inl [114])),(1,.inl (((-2147483648),2147483647,1),none))],[.inl (((-2147483648),2147483647,1),none)],[((77,0),(26,26,1),none),((114,28),(0,0,0),some ((114,28),0,0)),((998,0),(1,1,0),some ((998,0),0,0))]),(1036,[]),0),
  (40,([(0,.inr (.inl [114])),(1,.inl (((-2147483648),2147483647,1),none))],[.inl (((-2147483648),2147483647,1),none)],[((77,0),(15,15,1),none),((114,28),(0,0,0),some ((114,28),0,0)),((998,0),(1,1,0),some ((998,0),0,0))]),(585,[]),0),
  (40,([(0,.inr (.inl [114])),(1,.inl (((-2147483648),2147483647,1),none))],[.inl (((-2147483648),2147483647,1),none)],[((77,0),(1,1,1),none),((114,28),(0,0,0),some ((114,28),0,0)),((998,0),(1,1,0),some ((998,0),0,0))]),(10,[]),0),
  (40,([(0,.inr (.inl [114])),(1,.inl (((-2147483648),2147483647,1),none))],[.inl (((-2147483648),2147483647,1),none)],[((77,0),(21,21,1),none),((114,28),(0,0,0),some ((114,28),0,0)),((998,0),(1,1,0),some ((998,0),0,0))]),(831,[]),0),
  (40,([(0,.inr (.inl [114])),(1,.inl (((-2147483648),2147483647,1),none))],[.inl (((-2147483648),2147483647,1),none)],[((77,0),(16,16,1),none),((114,28),(0,0,0),some ((114,28),0,0)),((998,0),(1,1,0),some ((998,0),0,0))]),(626,[]),0),
  (40,([(0,.inr (.inl [114])),(1,.inl (((-2147483648),2147483647,1),none))],[.inl (((-2147483648),2147483647,1),none)],[((77,0),(22,22,1),none),((114,28),(0,0,0),some ((114,28),0,0)),((998,0),(1,1,0),some ((998,0),0,0))]),(872,[]),0),
  (40,([(0,.inr (.inl [114])),(1,.inl (((-2147483648),2147483647,1),none))],[.inl (((-2147483648),2147483647,1),none)],[((77,0),(11,11,1),none),((114,28),(0,0,0),some ((114,28),0,0)),((998,0),(1,1,0),some ((998,0),0,0))]),(421,[]),0),
  (40,([(0,.inr (.inl [114])),(1,.inl (((-2147483648),2147483647,1),none))],[.inl (((-2147483648),2147483647,1),none)],[((77,0),(31,31,1),none),((114,28),(0,0,0),some ((114,28),0,0)),((998,0),(1,1,0),some ((998,0),0,0))]),(1241,[]),0),
  (40,([(0,.inr (.inl [114])),(1,.inl (((-2147483648),2147483647,1),none))],[.inl (((-2147483648),2147483647,1),none)],[((77,0),(6,6,1),none),((114,28),(0,0,0),some ((114,28),0,0)),((998,0),(1,1,0),some ((998,0),0,0))]),(216,[]),0),
  (40,([(0,.inr (.inl [114])),(1,.inl (((-2147483648),2147483647,1),none))],[.inl (((-2147483648),2147483647,1),none)],[((77,0),(17,17,1),none),((114,28),(0,0,0),some ((114,28),0,0)),((998,0),(1,1,0),some ((998,0),0,0))]),(667,[]),0),
  (40,([(0,.inr (.inl [114])),(1,.inl (((-2147483648),2147483647,1),none))],[.inl (((-2147483648),2147483647,1),none)],[((77,0),(12,12,1),none),((114,28),(0,0,0),some ((114,28),0,0)),((998,0),(1,1,0),some ((998,0),0,0))]),(462,[]),0),
  (40,([(0,.inr (.inl [114])),(1,.inl (((-2147483648),2147483647,1),none))],[.inl (((-2147483648),2147483647,1),none)],[((77,0),(18,18,1),none),((114,28),(0,0,0),some ((114,28),0,0)),((998,0),(1,1,0),some ((998,0),0,0))]),(708,[]),0),
  (40,([(0,.inr (.inl [114])),(1,.inl (((-2147483648),2147483647,1),none))],[.inl (((-2147483648),2147483647,1),none)],[((77,0),(7,7,1),none),((114,28),(0,0,0),some ((114,28),0,0)),((998,0),(1,1,0),some ((998,0),0,0))]),(257,[]),0),
  (40,([(0,.inr (.inl [114])),(1,.inl (((-2147483648),2147483647,1),none))],[.inl (((-2147483648),2147483647,1),none)],[((77,0),(13,13,1),none),((114,28),(0,0,0),some ((114,28),0,0)),((998,0),(1,1,0),some ((998,0),0,0))]),(503,[]),0),
  (40,([(0,.inr (.inl [114])),(1,.inl (((-2147483648),2147483647,1),none))],[.inl (((-2147483648),2147483647,1),none)],[((77,0),(27,27,1),none),((114,28),(0,0,0),some ((114,28),0,0)),((998,0),(1,1,0),some ((998,0),0,0))]),(1077,[]),0),
  (40,([(0,.inr (.inl [114])),(1,.inl (((-2147483648),2147483647,1),none))],[.inl (((-2147483648),2147483647,1),none)],[((77,0),(2,2,1),none),((114,28),(0,0,0),some ((114,28),0,0)),((998,0),(1,1,0),some ((998,0),0,0))]),(52,[]),0),
  (40,([(0,.inr (.inl [114])),(1,.inl (((-2147483648),2147483647,1),none))],[.inl (((-2147483648),2147483647,1),none)],[((77,0),(8,8,1),none),((114,28),(0,0,0),some ((114,28),0,0)),((998,0),(1,1,0),some ((998,0),0,0))]),(298,[]),0),
  (40,([(0,.inr (.inl [114])),(1,.inl (((-2147483648),2147483647,1),none))],[.inl (((-2147483648),2147483647,1),none)],[((77,0),(28,28,1),none),((114,28),(0,0,0),some ((114,28),0,0)),((998,0),(1,1,0),some ((998,0),0,0))]),(1118,[]),0),
  (40,([(0,.inr (.inl [114])),(1,.inl (((-2147483648),2147483647,1),none))],[.inl (((-2147483648),2147483647,1),none)],[((77,0),(3,3,1),none),((114,28),(0,0,0),some ((114,28),0,0)),((998,0),(1,1,0),some ((998,0),0,0))]),(93,[]),0),
  (40,([(0,.inr (.inl [114])),(1,.inl (((-2147483648),2147483647,1),none))],[.inl (((-2147483648),2147483647,1),none)],[((77,0),(14,14,1),none),((114,28),(0,0,0),some ((114,28),0,0)),((998,0),(1,1,0),some ((998,0),0,0))]),(544,[]),0),
  (40,([(0,.inr (.inl [114])),(1,.inl (((-2147483648),2147483647,1),none))],[.inl (((-2147483648),2147483647,1),none)],[((77,0),(23,23,1),none),((114,28),(0,0,0),some ((114,28),0,0)),((998,0),(1,1,0),some ((998,0),0,0))]),(913,[]),0),
  (40,([(0,.inr (.inl [114])),(1,.inl (((-2147483648),2147483647,1),none))],[.inl (((-2147483648),2147483647,1),none)],[((77,0),(9,9,1),none),((114,28),(0,0,0),some ((114,28),0,0)),((998,0),(1,1,0),some ((998,0),0,0))]),(339,[]),0),
  (40,([(0,.inr (.inl [114])),(1,.inl (((-2147483648),2147483647,1),none))],[.inl (((-2147483648),2147483647,1),none)],[((77,0),(29,29,1),none),((114,28),(0,0,0),some ((114,28),0,0)),((998,0),(1,1,0),some ((998,0),0,0))]),(1159,[]),0),
  (40,([(0,.inr (.inl [114])),(1,.inl (((-2147483648),2147483647,1),none))],[.inl (((-2147483648),2147483647,1),none)],[((77,0),(4,4,1),none),((114,28),(0,0,0),some ((114,28),0,0)),((998,0),(1,1,0),some ((998,0),0,0))]),(134,[]),0),
  (40,([(0,.inr (.inl [114])),(1,.inl (((-2147483648),2147483647,1),none))],[.inl (((-2147483648),2147483647,1),none)],[((77,0),(10,10,1),none),((114,28),(0,0,0),some ((114,28),0,0)),((998,0),(1,1,0),some ((998,0),0,0))]),(380,[]),0),
  (70,([(0,.inr (.inl [114])),(1,.inl (((-2147483648),2147483647,1),none)),(2,.inl (((-18),18,1),none))],[.inl ((0,18,1),none)],[((77,0),(19,19,1),none),((114,28),(0,0,0),some ((114,28),0,0)),((998,0),(1,1,0),some ((998,0),0,0))]),(731,[]),0),
  (70,([(0,.inr (.inl [114])),(1,.inl (((-2147483648),2147483647,1),none)),(2,.inl (((-29),29,1),none))],[.inl ((0,29,1),none)],[((77,0),(30,30,1),none),((114,28),(0,0,0),some ((114,28),0,0)),((998,0),(1,1,0),some ((998,0),0,0))]),(1182,[]),0),
  (70,([(0,.inr (.inl [114])),(1,.inl (((-2147483648),2147483647,1),none)),(2,.inl (((-4),4,1),none))],[.inl ((0,4,1),none)],[((77,0),(5,5,1),none),((114,28),(0,0,0),some ((114,28),0,0)),((998,0),(1,1,0),some ((998,0),0,0))]),(157,[]),0),
  (70,([(0,.inr (.inl [114])),(1,.inl (((-2147483648),2147483647,1),none)),(2,.inl (((-24),24,1),none))],[.inl ((0,24,1),none)],[((77,0),(25,25,1),none),((114,28),(0,0,0),some ((114,28),0,0)),((998,0),(1,1,0),some ((998,0),0,0))]),(977,[]),0),
  (70,([(0,.inr (.inl [114])),(1,.inl (((-2147483648),2147483647,1),none)),(2,.inl (((-23),23,1),none))],[.inl ((0,23,1),none)],[((77,0),(24,24,1),none),((114,28),(0,0,0),some ((114,28),0,0)),((998,0),(1,1,0),some ((998,0),0,0))]),(936,[]),0),
  (70,([(0,.inr (.inl [114])),(1,.inl (((-2147483648),2147483647,1),none)),(2,.inl (((-19),19,1),none))],[.inl ((0,19,1),none)],[((77,0),(20,20,1),none),((114,28),(0,0,0),some ((114,28),0,0)),((998,0),(1,1,0),some ((998,0),0,0))]),(772,[]),0),
  (70,([(0,.inr (.inl [114])),(1,.inl (((-2147483648),2147483647,1),none)),(2,.inl (((-25),25,1),none))],[.inl ((0,25,1),none)],[((77,0),(26,26,1),none),((114,28),(0,0,0),some ((114,28),0,0)),((998,0),(1,1,0),some ((998,0),0,0))]),(1018,[]),0),
  (70,([(0,.inr (.inl [114])),(1,.inl (((-2147483648),2147483647,1),none)),(2,.inl (((-14),14,1),none))],[.inl ((0,14,1),none)],[((77,0),(15,15,1),none),((114,28),(0,0,0),some ((114,28),0,0)),((998,0),(1,1,0),some ((998,0),0,0))]),(567,[]),0),
  (70,([(0,.inr (.inl [114])),(1,.inl (((-2147483648),2147483647,1),none)),(2,.inl (((-20),20,1),none))],[.inl ((0,20,1),none)],[((77,0),(21,21,1),none),((114,28),(0,0,0),some ((114,28),0,0)),((998,0),(1,1,0),some ((998,0),0,0))]),(813,[]),0),
  (70,([(0,.inr (.inl [114])),(1,.inl (((-2147483648),2147483647,1),none)),(2,.inl (((-15),15,1),none))],[.inl ((0,15,1),none)],[((77,0),(16,16,1),none),((114,28),(0,0,0),some ((114,28),0,0)),((998,0),(1,1,0),some ((998,0),0,0))]),(608,[]),0),
  (70,([(0,.inr (.inl [114])),(1,.inl (((-2147483648),2147483647,1),none)),(2,.inl (((-21),21,1),none))],[.inl ((0,21,1),none)],[((77,0),(22,22,1),none),((114,28),(0,0,0),some ((114,28),0,0)),((998,0),(1,1,0),some ((998,0),0,0))]),(854,[]),0),
  (70,([(0,.inr (.inl [114])),(1,.inl (((-2147483648),2147483647,1),none)),(2,.inl (((-10),10,1),none))],[.inl ((0,10,1),none)],[((77,0),(11,11,1),none),((114,28),(0,0,0),some ((114,28),0,0)),((998,0),(1,1,0),some ((998,0),0,0))]),(403,[]),0),
  (70,([(0,.inr (.inl [114])),(1,.inl (((-2147483648),2147483647,1),none)),(2,.inl (((-30),30,1),none))],[.inl ((0,30,1),none)],[((77,0),(31,31,1),none),((114,28),(0,0,0),some ((114,28),0,0)),((998,0),(1,1,0),some ((998,0),0,0))]),(1223,[]),0),
  (70,([(0,.inr (.inl [114])),(1,.inl (((-2147483648),2147483647,1),none)),(2,.inl (((-5),5,1),none))],[.inl ((0,5,1),none)],[((77,0),(6,6,1),none),((114,28),(0,0,0),some ((114,28),0,0)),((998,0),(1,1,0),some ((998,0),0,0))]),(198,[]),0),
  (70,([(0,.inr (.inl [114])),(1,.inl (((-2147483648),2147483647,1),none)),(2,.inl (((-16),16,1),none))],[.inl ((0,16,1),none)],[((77,0),(17,17,1),none),((114,28),(0,0,0),some ((114,28),0,0)),((998,0),(1,1,0),some ((998,0),0,0))]),(649,[]),0),
  (70,([(0,.inr (.inl [114])),(1,.inl (((-2147483648),2147483647,1),none)),(2,.inl (((-11),11,1),none))],[.inl ((0,11,1),none)],[((77,0),(12,12,1),none),((114,28),(0,0,0),some ((114,28),0,0)),((998,0),(1,1,0),some ((998,0),0,0))]),(444,[]),0),
  (70,([(0,.inr (.inl [114])),(1,.inl (((-2147483648),2147483647,1),none)),(2,.inl (((-17),17,1),none))],[.inl ((0,17,1),none)],[((77,0),(18,18,1),none),((114,28),(0,0,0),some ((114,28),0,0)),((998,0),(1,1,0),some ((998,0),0,0))]),(690,[]),0),
  (70,([(0,.inr (.inl [114])),(1,.inl (((-2147483648),2147483647,1),none)),(2,.inl (((-6),6,1),none))],[.inl ((0,6,1),none)],[((77,0),(7,7,1),none),((114,28),(0,0,0),some ((114,28),0,0)),((998,0),(1,1,0),some ((998,0),0,0))]),(239,[]),0),
  (70,([(0,.inr (.inl [114])),(1,.inl (((-2147483648),2147483647,1),none)),(2,.inl (((-12),12,1),none))],[.inl ((0,12,1),none)],[((77,0),(13,13,1),none),((114,28),(0,0,0),some ((114,28),0,0)),((998,0),(1,1,0),some ((998,0),0,0))]),(485,[]),0),
  (70,([(0,.inr (.inl [114])),(1,.inl (((-2147483648),2147483647,1),none)),(2,.inl (((-26),26,1),none))],[.inl ((0,26,1),none)],[((77,0),(27,27,1),none),((114,28),(0,0,0),some ((114,28),0,0)),((998,0),(1,1,0),some ((998,0),0,0))]),(1059,[]),0),
  (70,([(0,.inr (.inl [114])),(1,.inl (((-2147483648),2147483647,1),none)),(2,.inl (((-1),(-1),1),none))],[.inl ((1,1,1),some (.inl 2,some 2))],[((77,0),(2,2,1),none),((114,28),(0,0,0),some ((114,28),0,0)),((998,0),(1,1,0),some ((998,0),0,0))]),(35,[]),0),
  (70,([(0,.inr (.inl [114])),(1,.inl (((-2147483648),2147483647,1),none)),(2,.inl (((-7),7,1),none))],[.inl ((0,7,1),none)],[((77,0),(8,8,1),none),((114,28),(0,0,0),some ((114,28),0,0)),((998,0),(1,1,0),some ((998,0),0,0))]),(280,[]),0),
  (70,([(0,.inr (.inl [114])),(1,.inl (((-2147483648),2147483647,1),none)),(2,.inl (((-27),27,1),none))],[.inl ((0,27,1),none)],[((77,0),(28,28,1),none),((114,28),(0,0,0),some ((114,28),0,0)),((998,0),(1,1,0),some ((998,0),0,0))]),(1100,[]),0),
  (70,([(0,.inr (.inl [114])),(1,.inl (((-2147483648),2147483647,1),none)),(2,.inl (((-2),2,1),none))],[.inl ((0,2,1),none)],[((77,0),(3,3,1),none),((114,28),(0,0,0),some ((114,28),0,0)),((998,0),(1,1,0),some ((998,0),0,0))]),(75,[]),0),
  (70,([(0,.inr (.inl [114])),(1,.inl (((-2147483648),2147483647,1),none)),(2,.inl (((-13),13,1),none))],[.inl ((0,13,1),none)],[((77,0),(14,14,1),none),((114,28),(0,0,0),some ((114,28),0,0)),((998,0),(1,1,0),some ((998,0),0,0))]),(526,[]),0),
  (70,([(0,.inr (.inl [114])),(1,.inl (((-2147483648),2147483647,1),none)),(2,.inl (((-22),22,1),none))],[.inl ((0,22,1),none)],[((77,0),(23,23,1),none),((114,28),(0,0,0),some ((114,28),0,0)),((998,0),(1,1,0),some ((998,0),0,0))]),(895,[]),0),
  (70,([(0,.inr (.inl [114])),(1,.inl (((-2147483648),2147483647,1),none)),(2,.inl (((-8),8,1),none))],[.inl ((0,8,1),none)],[((77,0),(9,9,1),none),((114,28),(0,0,0),some ((114,28),0,0)),((998,0),(1,1,0),some ((998,0),0,0))]),(321,[]),0),
  (70,([(0,.inr (.inl [114])),(1,.inl (((-2147483648),2147483647,1),none)),(2,.inl (((-28),28,1),none))],[.inl ((0,28,1),none)],[((77,0),(29,29,1),none),((114,28),(0,0,0),some ((114,28),0,0)),((998,0),(1,1,0),some ((998,0),0,0))]),(1141,[]),0),
  (70,([(0,.inr (.inl [114])),(1,.inl (((-2147483648),2147483647,1),none)),(2,.inl (((-3),3,1),none))],[.inl ((0,3,1),none)],[((77,0),(4,4,1),none),((114,28),(0,0,0),some ((114,28),0,0)),((998,0),(1,1,0),some ((998,0),0,0))]),(116,[]),0),
  (70,([(0,.inr (.inl [114])),(1,.inl (((-2147483648),2147483647,1),none)),(2,.inl (((-9),9,1),none))],[.inl ((0,9,1),none)],[((77,0),(10,10,1),none),((114,28),(0,0,0),some ((114,28),0,0)),((998,0),(1,1,0),some ((998,0),0,0))]),(362,[]),0),
  (70,([(0,.inr (.inl [114])),(1,.inl (((-2147483648),2147483647,1),none)),(2,.inl ((0,0,1),none))],[.inl ((0,0,1),some (.inl 2,some 0))],[((77,0),(1,1,1),none),((114,28),(0,0,0),some ((114,28),0,0)),((998,0),(1,1,0),some ((998,0),0,0))]),(0,[]),0),
  (70,([(0,.inr (.inl [114])),(1,.inl (((-2147483648),2147483647,1),none)),(2,.inl ((0,1,1),none))],[.inl ((0,1,1),some (.inl 2,some 0))],[((77,0),(2,2,1),none),((114,28),(0,0,0),some ((114,28),0,0)),((998,0),(1,1,0),some ((998,0),0,0))]),(33,[]),0)]
set_option maxRecDepth 100000 in
theorem q854_ok : rf_chkB q854_P q854_U wLay q854_M ddX12_bucketOf [(15,[0]),(22,[1]),(31,[2]),(36,[3])] [] [0,40,70] 600 q854_N = true := by decide +kernel
set_option maxHeartbeats 4000000 in
theorem q854_met {G : rfG} (h : okG G) (hh : w1OK G) : rf_met G q854_M := rf_methodB h.1 (P := q854_P) (U := q854_U) (N := q854_N) ⟨wflT h flokX12, wcsT h csokX12, wlcT h lcokX12, spokX12 h, List.forall_mem_cons.mpr ⟨q684_met h, List.forall_mem_cons.mpr ⟨q851_met h hh, List.forall_mem_cons.mpr ⟨q852_met h, List.forall_mem_cons.mpr ⟨q853_met h, fun _ h => absurd h List.not_mem_nil⟩⟩⟩⟩, List.forall_mem_cons.mpr ⟨fun M hM => Option.some.inj (show some q684_M = some M from hM) ▸ wlkS (lkX12_251 h) q684_M rfl rfl, List.forall_mem_cons.mpr ⟨fun M hM => Option.some.inj (show some q852_M = some M from hM) ▸ wlkS (lkX12_316 h) q852_M rfl rfl, List.forall_mem_cons.mpr ⟨fun M hM => Option.some.inj (show some q853_M = some M from hM) ▸ wlkS (lkX12_319 h) q853_M rfl rfl, fun _ h => absurd h List.not_mem_nil⟩⟩⟩, List.forall_mem_cons.mpr ⟨fun M hM => Option.some.inj (show some q851_M = some M from hM) ▸ wlkV (lkX12_330 h) q851_M rfl rfl, fun _ h => absurd h List.not_mem_nil⟩, fun _ h => absurd h List.not_mem_nil, fun _ h => absurd h List.not_mem_nil⟩ dkX12_bucketOf (by decide +kernel) (by rw [h.2.2.1]; exact q854_ok)
/-- NearSpellModel.hasForm -/
def q855_M : rfM := ((⟨"NearSpellModel", "hasForm", "(II)Z"⟩, prog_14_method_53_code, 4, (some .boolean)), (0,0), ([.inr (.inl [114]),.inl ((0,0,0),none),.inl (((-2147483648),2147483647,1),none)],[]), [], [(some (.inl ((1,1,0),none)),[],[((93,0),(1,64,1),none)]),(some (.inl ((0,0,0),none)),[],[])])
def ddX12_hasForm : List (Nat × Instr × Nat) := [(0,.iconst 0,1),(1,.istore_n 3,1),(2,.iload_n 3,1),(3,.aload_n 0,1),(4,.getfield 81,3),(7,.iload_n 1,1),(8,.iaload,1),(9,.if_icmp .ge 26,3),(12,.aload_n 0,1),(13,.getfield 78,3),(16,.bipush 64,2),(18,.iload_n 1,1),(19,.imul,1),(20,.iload_n 3,1),(21,.iadd,1),(22,.iaload,1),(23,.iload_n 2,1),(24,.if_icmp .ne 5,3),(27,.iconst 1,1),(28,.ireturn,1),(29,.iinc 3 1,3),(32,.goto (-30),3),(35,.iconst 0,1),(36,.ireturn,1)]
set_option maxRecDepth 100000 in
theorem dkX12_hasForm : rf_decs prog_14_method_53_code ddX12_hasForm := rf_decs_of (by decide +kernel)
def q855_P : rfP := (flX12,csX12,lcX12,spX12,[],[],[],([],[]))
def q855_U : rfU := []
set_option maxHeartbeats 8000000 in
def q855_N : List rfB := [(0,([(0,.inr (.inl [114])),(1,.inl ((0,0,0),none)),(2,.inl (((-2147483648),2147483647,1),none))],[],[]),(1240,[0]),0),
  (2,([(0,.inr (.inl [114])),(1,.inl ((0,0,0),none)),(2,.inl (((-2147483648),2147483647,1),none)),(3,.inl ((0,64,1),none))],[],[]),(1236,[(-19)]),0)]
set_option maxRecDepth 100000 in
theorem q855_ok : rf_chkB q855_P q855_U wLay q855_M ddX12_hasForm [] [.inl 3] [0,2] 600 q855_N = true := by decide +kernel
set_option maxHeartbeats 4000000 in
theorem q855_met {G : rfG} (h : okG G) : rf_met G q855_M := rf_methodB h.1 (P := q855_P) (U := q855_U) (N := q855_N) ⟨wflT h flokX12, wcsT h csokX12, wlcT h lcokX12, spokX12 h, fun _ h => absurd h List.not_mem_nil, fun _ h => absurd h List.not_mem_nil, fun _ h => absurd h List.not_mem_nil, fun _ h => absurd h List.not_mem_nil, fun _ h => absurd h List.not_mem_nil⟩ dkX12_hasForm (by decide +kernel) (by rw [h.2.2.1]; exact q855_ok)
/-- NearSpellModel.hasForm -/
def q856_M : rfM := ((⟨"NearSpellModel", "hasForm", "(II)Z"⟩, prog_14_method_53_code, 4, (some .boolean)), (0,0), ([.inr (.inl [114]),.inl ((0,1,1),none),.inl (((-2147483648),2147483647,1),none)],[]), [], [(some (.inl ((1,1,0),none)),[],[]),(some (.inl ((0,0,0),none)),[],[])])
def q856_P : rfP := (flX12,csX12,lcX12,spX12,[],[],[],([],[]))
def q856_U : rfU := []
set_option maxHeartbeats 8000000 in
def q856_N : List rfB := [(0,([(0,.inr (.inl [114])),(1,.inl ((0,1,1),none)),(2,.inl (((-2147483648),2147483647,1),none))],[],[]),(1240,[0]),0),
  (2,([(0,.inr (.inl [114])),(1,.inl ((0,1,1),none)),(2,.inl (((-2147483648),2147483647,1),none)),(3,.inl ((0,64,1),none))],[],[]),(1236,[(-19)]),0)]
set_option maxRecDepth 100000 in
theorem q856_ok : rf_chkB q856_P q856_U wLay q856_M ddX12_hasForm [] [.inl 3] [0,2] 600 q856_N = true := by decide +kernel
set_option maxHeartbeats 4000000 in
theorem q856_met {G : rfG} (h : okG G) : rf_met G q856_M := rf_methodB h.1 (P := q856_P) (U := q856_U) (N := q856_N) ⟨wflT h flokX12, wcsT h csokX12, wlcT h lcokX12, spokX12 h, fun _ h => absurd h List.not_mem_nil, fun _ h => absurd h List.not_mem_nil, fun _ h => absurd h List.not_mem_nil, fun _ h => absurd h List.not_mem_nil, fun _ h => absurd h List.not_mem_nil⟩ dkX12_hasForm (by decide +kernel) (by rw [h.2.2.1]; exact q856_ok)
/-- NearSpellModel.hasForm -/
def q857_M : rfM := ((⟨"NearSpellModel", "hasForm", "(II)Z"⟩, prog_14_method_53_code, 4, (some .boolean)), (0,0), ([.inr (.inl [114]),.inl ((0,2,1),none),.inl (((-2147483648),2147483647,1),none)],[]), [], [(some (.inl ((1,1,0),none)),[],[]),(some (.inl ((0,0,0),none)),[],[])])
def q857_P : rfP := (flX12,csX12,lcX12,spX12,[],[],[],([],[]))
def q857_U : rfU := []
set_option maxHeartbeats 8000000 in
def q857_N : List rfB := [(0,([(0,.inr (.inl [114])),(1,.inl ((0,2,1),none)),(2,.inl (((-2147483648),2147483647,1),none))],[],[]),(1240,[0]),0),
  (2,([(0,.inr (.inl [114])),(1,.inl ((0,2,1),none)),(2,.inl (((-2147483648),2147483647,1),none)),(3,.inl ((0,64,1),none))],[],[]),(1236,[(-19)]),0)]
set_option maxRecDepth 100000 in
theorem q857_ok : rf_chkB q857_P q857_U wLay q857_M ddX12_hasForm [] [.inl 3] [0,2] 600 q857_N = true := by decide +kernel
set_option maxHeartbeats 4000000 in
theorem q857_met {G : rfG} (h : okG G) : rf_met G q857_M := rf_methodB h.1 (P := q857_P) (U := q857_U) (N := q857_N) ⟨wflT h flokX12, wcsT h csokX12, wlcT h lcokX12, spokX12 h, fun _ h => absurd h List.not_mem_nil, fun _ h => absurd h List.not_mem_nil, fun _ h => absurd h List.not_mem_nil, fun _ h => absurd h List.not_mem_nil, fun _ h => absurd h List.not_mem_nil⟩ dkX12_hasForm (by decide +kernel) (by rw [h.2.2.1]; exact q857_ok)
/-- NearSpellModel.hasForm -/
def q858_M : rfM := ((⟨"NearSpellModel", "hasForm", "(II)Z"⟩, prog_14_method_53_code, 4, (some .boolean)), (0,0), ([.inr (.inl [114]),.inl ((0,12,1),none),.inl (((-2147483648),2147483647,1),none)],[]), [], [(some (.inl ((1,1,0),none)),[],[]),(some (.inl ((0,0,0),none)),[],[])])
def q858_P : rfP := (flX12,csX12,lcX12,spX12,[],[],[],([],[]))
def q858_U : rfU := []
set_option maxHeartbeats 8000000 in
def q858_N : List rfB := [(0,([(0,.inr (.inl [114])),(1,.inl ((0,12,1),none)),(2,.inl (((-2147483648),2147483647,1),none))],[],[]),(1240,[0]),0),
  (2,([(0,.inr (.inl [114])),(1,.inl ((0,12,1),none)),(2,.inl (((-2147483648),2147483647,1),none)),(3,.inl ((0,64,1),none))],[],[]),(1236,[(-19)]),0)]
set_option maxRecDepth 100000 in
theorem q858_ok : rf_chkB q858_P q858_U wLay q858_M ddX12_hasForm [] [.inl 3] [0,2] 600 q858_N = true := by decide +kernel
set_option maxHeartbeats 4000000 in
theorem q858_met {G : rfG} (h : okG G) : rf_met G q858_M := rf_methodB h.1 (P := q858_P) (U := q858_U) (N := q858_N) ⟨wflT h flokX12, wcsT h csokX12, wlcT h lcokX12, spokX12 h, fun _ h => absurd h List.not_mem_nil, fun _ h => absurd h List.not_mem_nil, fun _ h => absurd h List.not_mem_nil, fun _ h => absurd h List.not_mem_nil, fun _ h => absurd h List.not_mem_nil⟩ dkX12_hasForm (by decide +kernel) (by rw [h.2.2.1]; exact q858_ok)
