/-- NearSpell.law -/
def q390_M : rfM := ((⟨"NearSpell", "law", "(I)I"⟩, prog_1_method_38_code, 2, (some .int)), (2,43), ([.inr (.inl [70]),.inl ((2,2,0),none)],[((5,5),(4,4,0),none),((10,5),(4,4,0),none),((12,34),(0,0,0),none),((12,35),(0,0,0),none),((12,36),(0,0,0),none)]), [], [(some (.inl ((0,0,0),none)),[],[])])
def q390_P : rfP := (flX11,csX11,lcX11,spX11,[q370_M],[],[(306,0,4)],([],[]))
def q390_U : rfU := []
set_option maxHeartbeats 8000000 in
def q390_N : List rfB := [(0,([(0,.inr (.inl [70])),(1,.inl ((2,2,0),none))],[],[((5,5),(4,4,0),some ((5,5),0,0)),((10,5),(4,4,0),some ((10,5),0,0)),((12,34),(0,0,0),some ((12,34),0,0)),((12,35),(0,0,0),some ((12,35),0,0)),((12,36),(0,0,0),some ((12,36),0,0))]),(10,[]),0)]
set_option maxRecDepth 100000 in
theorem q390_ok : rf_chkB q390_P q390_U wLay q390_M ddX11_law [(14,[0])] [] [0] 600 q390_N = true := by decide +kernel
set_option maxHeartbeats 4000000 in
theorem q390_met {G : rfG} (h : okG G) : rf_met G q390_M := rf_methodB h.1 (P := q390_P) (U := q390_U) (N := q390_N) ⟨wflT h flokX11, wcsT h csokX11, wlcT h lcokX11, spokX11 h, List.forall_mem_cons.mpr ⟨q370_met h, fun _ h => absurd h List.not_mem_nil⟩, fun _ h => absurd h List.not_mem_nil, List.forall_mem_cons.mpr ⟨fun M hM => Option.some.inj (show some q370_M = some M from hM) ▸ wlkV (lkX11_306 h) q370_M rfl rfl, fun _ h => absurd h List.not_mem_nil⟩, fun _ h => absurd h List.not_mem_nil, fun _ h => absurd h List.not_mem_nil⟩ dkX11_law (by decide +kernel) (by rw [h.2.2.1]; exact q390_ok)
/-- NearSpellModel.law -/
def q391_M : rfM := ((⟨"NearSpellModel", "law", "(I)I"⟩, prog_14_method_101_code, 2, (some .int)), (3,67), ([.inr (.inl [114]),.inl ((2,2,0),none)],[((75,0),(4,4,0),none),((90,28),(0,0,0),none),((90,29),(0,0,0),none),((90,36),(0,0,0),none),((114,28),(0,0,0),none),((114,39),(0,0,0),none)]), [(93,0)], [(some (.inl ((0,0,0),none)),[],[])])
def q391_P : rfP := (flX12,csX12,lcX12,spX12,[q183_M,q174_M],[(334,0)],[(375,1,12)],([],[]))
def q391_U : rfU := []
set_option maxHeartbeats 8000000 in
def q391_N : List rfB := [(0,([(0,.inr (.inl [114])),(1,.inl ((2,2,0),none))],[],[((75,0),(4,4,0),some ((75,0),0,0)),((90,28),(0,0,0),some ((90,28),0,0)),((90,29),(0,0,0),some ((90,29),0,0)),((90,36),(0,0,0),some ((90,36),0,0)),((114,28),(0,0,0),some ((114,28),0,0)),((114,39),(0,0,0),some ((114,39),0,0))]),(9,[]),0)]
set_option maxRecDepth 100000 in
theorem q391_ok : rf_chkB q391_P q391_U wLay q391_M ddX12_law [(3,[0]),(11,[1])] [] [0] 600 q391_N = true := by decide +kernel
set_option maxHeartbeats 4000000 in
theorem q391_met {G : rfG} (h : okG G) : rf_met G q391_M := rf_methodB h.1 (P := q391_P) (U := q391_U) (N := q391_N) ⟨wflT h flokX12, wcsT h csokX12, wlcT h lcokX12, spokX12 h, List.forall_mem_cons.mpr ⟨q183_met h, List.forall_mem_cons.mpr ⟨q174_met h, fun _ h => absurd h List.not_mem_nil⟩⟩, List.forall_mem_cons.mpr ⟨fun M hM => Option.some.inj (show some q183_M = some M from hM) ▸ wlkS (lkX12_334 h) q183_M rfl rfl, fun _ h => absurd h List.not_mem_nil⟩, List.forall_mem_cons.mpr ⟨fun M hM => Option.some.inj (show some q174_M = some M from hM) ▸ wlkV (lkX12_375 h) q174_M rfl rfl, fun _ h => absurd h List.not_mem_nil⟩, fun _ h => absurd h List.not_mem_nil, fun _ h => absurd h List.not_mem_nil⟩ dkX12_law (by decide +kernel) (by rw [h.2.2.1]; exact q391_ok)
/-- NearSpell.law -/
def q392_M : rfM := ((⟨"NearSpell", "law", "(I)I"⟩, prog_1_method_38_code, 2, (some .int)), (0,0), ([.inr (.inl [70]),.inl ((3,2147483647,1),none)],[((5,5),(4,4,0),none),((10,5),(4,4,0),none),((12,34),(0,0,0),none),((12,35),(0,0,0),none),((12,36),(0,0,0),none)]), [], [(some (.inl (((-1),(-1),0),none)),[],[])])
def q392_P : rfP := (flX11,csX11,lcX11,spX11,[],[],[],([],[]))
def q392_U : rfU := []
set_option maxHeartbeats 8000000 in
def q392_N : List rfB := [(0,([(0,.inr (.inl [70])),(1,.inl ((3,2147483647,1),none))],[],[((5,5),(4,4,0),some ((5,5),0,0)),((10,5),(4,4,0),some ((10,5),0,0)),((12,34),(0,0,0),some ((12,34),0,0)),((12,35),(0,0,0),some ((12,35),0,0)),((12,36),(0,0,0),some ((12,36),0,0))]),(6,[]),0)]
set_option maxRecDepth 100000 in
theorem q392_ok : rf_chkB q392_P q392_U wLay q392_M ddX11_law [] [] [0] 600 q392_N = true := by decide +kernel
set_option maxHeartbeats 4000000 in
theorem q392_met {G : rfG} (h : okG G) : rf_met G q392_M := rf_methodB h.1 (P := q392_P) (U := q392_U) (N := q392_N) ⟨wflT h flokX11, wcsT h csokX11, wlcT h lcokX11, spokX11 h, fun _ h => absurd h List.not_mem_nil, fun _ h => absurd h List.not_mem_nil, fun _ h => absurd h List.not_mem_nil, fun _ h => absurd h List.not_mem_nil, fun _ h => absurd h List.not_mem_nil⟩ dkX11_law (by decide +kernel) (by rw [h.2.2.1]; exact q392_ok)
/-- NearSpellModel.law -/
def q393_M : rfM := ((⟨"NearSpellModel", "law", "(I)I"⟩, prog_14_method_101_code, 2, (some .int)), (1,22), ([.inr (.inl [114]),.inl ((3,2147483647,1),none)],[((75,0),(4,4,0),none),((90,28),(0,0,0),none),((90,29),(0,0,0),none),((90,36),(0,0,0),none),((114,28),(0,0,0),none),((114,39),(0,0,0),none)]), [], [(some (.inl (((-1),(-1),0),none)),[],[])])
def q393_P : rfP := (flX12,csX12,lcX12,spX12,[q191_M],[(334,0)],[],([],[]))
def q393_U : rfU := []
set_option maxHeartbeats 8000000 in
def q393_N : List rfB := [(0,([(0,.inr (.inl [114])),(1,.inl ((3,2147483647,1),none))],[],[((75,0),(4,4,0),some ((75,0),0,0)),((90,28),(0,0,0),some ((90,28),0,0)),((90,29),(0,0,0),some ((90,29),0,0)),((90,36),(0,0,0),some ((90,36),0,0)),((114,28),(0,0,0),some ((114,28),0,0)),((114,39),(0,0,0),some ((114,39),0,0))]),(6,[]),0)]
set_option maxRecDepth 100000 in
theorem q393_ok : rf_chkB q393_P q393_U wLay q393_M ddX12_law [(3,[0])] [] [0] 600 q393_N = true := by decide +kernel
set_option maxHeartbeats 4000000 in
theorem q393_met {G : rfG} (h : okG G) : rf_met G q393_M := rf_methodB h.1 (P := q393_P) (U := q393_U) (N := q393_N) ⟨wflT h flokX12, wcsT h csokX12, wlcT h lcokX12, spokX12 h, List.forall_mem_cons.mpr ⟨q191_met h, fun _ h => absurd h List.not_mem_nil⟩, List.forall_mem_cons.mpr ⟨fun M hM => Option.some.inj (show some q191_M = some M from hM) ▸ wlkS (lkX12_334 h) q191_M rfl rfl, fun _ h => absurd h List.not_mem_nil⟩, fun _ h => absurd h List.not_mem_nil, fun _ h => absurd h List.not_mem_nil, fun _ h => absurd h List.not_mem_nil⟩ dkX12_law (by decide +kernel) (by rw [h.2.2.1]; exact q393_ok)
/-- NearSpell.odds -/
def q394_M : rfM := ((⟨"NearSpell", "odds", "(II)I"⟩, prog_1_method_39_code, 8, (some .int)), (0,0), ([.inr (.inl [70]),.inl (((-2147483648),(-1),1),none),.inl (((-2147483648),2147483647,1),none)],[((5,8),(0,0,0),none),((10,8),(0,0,0),none)]), [], [(some (.inl (((-1),(-1),0),none)),[],[])])
def ddX11_odds : List (Nat × Instr × Nat) := [(0,.iload_n 1,1),(1,.ifCond .lt 17,3),(4,.iload_n 1,1),(5,.iconst 4,1),(6,.if_icmp .gt 12,3),(9,.iload_n 2,1),(10,.ifCond .lt 8,3),(13,.iload_n 2,1),(14,.iconst 1,1),(15,.if_icmp .le 5,3),(18,.iconst (-1),1),(19,.ireturn,1),(20,.bipush 100,2),(22,.aload_n 0,1),(23,.getfield 16,3),(26,.getfield 192,3),(29,.isub,1),(30,.istore_n 3,1),(31,.bipush 100,2),(33,.iload_n 3,1),(34,.invokestatic 315,3),(37,.istore 4,2),(39,.iload_n 2,1),(40,.ifCond .ne 7,3),(43,.iload_n 3,1),(44,.goto 5,3),(47,.bipush 100,2),(49,.istore 5,2),(51,.iload 4,2),(53,.ifCond .le 10,3),(56,.iload 5,2),(58,.iload 4,2),(60,.idiv,1),(61,.istore 5,2),(63,.iconst 1,1),(64,.istore 6,2),(66,.iconst 0,1),(67,.istore 7,2),(69,.iload 7,2),(71,.iload_n 1,1),(72,.if_icmp .ge 16,3),(75,.iload 6,2),(77,.iload 5,2),(79,.imul,1),(80,.istore 6,2),(82,.iinc 7 1,3),(85,.goto (-16),3),(88,.iload 6,2),(90,.ireturn,1)]
set_option maxRecDepth 100000 in
theorem dkX11_odds : rf_decs prog_1_method_39_code ddX11_odds := rf_decs_of (by decide +kernel)
def q394_P : rfP := (flX11,csX11,lcX11,spX11,[],[],[],([],[]))
def q394_U : rfU := []
set_option maxHeartbeats 8000000 in
def q394_N : List rfB := [(0,([(0,.inr (.inl [70])),(1,.inl (((-2147483648),(-1),1),none)),(2,.inl (((-2147483648),2147483647,1),none))],[],[((5,8),(0,0,0),some ((5,8),0,0)),((10,8),(0,0,0),some ((10,8),0,0))]),(3,[]),0)]
set_option maxRecDepth 100000 in
theorem q394_ok : rf_chkB q394_P q394_U wLay q394_M ddX11_odds [] [] [0] 600 q394_N = true := by decide +kernel
set_option maxHeartbeats 4000000 in
theorem q394_met {G : rfG} (h : okG G) : rf_met G q394_M := rf_methodB h.1 (P := q394_P) (U := q394_U) (N := q394_N) ⟨wflT h flokX11, wcsT h csokX11, wlcT h lcokX11, spokX11 h, fun _ h => absurd h List.not_mem_nil, fun _ h => absurd h List.not_mem_nil, fun _ h => absurd h List.not_mem_nil, fun _ h => absurd h List.not_mem_nil, fun _ h => absurd h List.not_mem_nil⟩ dkX11_odds (by decide +kernel) (by rw [h.2.2.1]; exact q394_ok)
/-- NearSpellModel.isIn -/
def q395_M : rfM := ((⟨"NearSpellModel", "isIn", "(III)Z"⟩, prog_14_method_35_code, 3, (some .boolean)), (0,0), ([.inl (((-2147483648),0,1),none),.inl ((0,0,0),none),.inl ((4,4,0),none)],[]), [], [(some (.inl ((1,1,0),none)),[(0,0,0)],[]),(some (.inl ((0,0,0),none)),[(0,(-2147483648),(-1))],[])])
def q395_P : rfP := (flX12,csX12,lcX12,spX12,[],[],[],([],[]))
def q395_U : rfU := []
set_option maxHeartbeats 8000000 in
def q395_N : List rfB := [(0,([(0,.inl (((-2147483648),0,1),none)),(1,.inl ((0,0,0),none)),(2,.inl ((4,4,0),none))],[],[]),(10,[]),0)]
set_option maxRecDepth 100000 in
theorem q395_ok : rf_chkB q395_P q395_U wLay q395_M ddX12_isIn [] [] [0] 600 q395_N = true := by decide +kernel
set_option maxHeartbeats 4000000 in
theorem q395_met {G : rfG} (h : okG G) : rf_met G q395_M := rf_methodB h.1 (P := q395_P) (U := q395_U) (N := q395_N) ⟨wflT h flokX12, wcsT h csokX12, wlcT h lcokX12, spokX12 h, fun _ h => absurd h List.not_mem_nil, fun _ h => absurd h List.not_mem_nil, fun _ h => absurd h List.not_mem_nil, fun _ h => absurd h List.not_mem_nil, fun _ h => absurd h List.not_mem_nil⟩ dkX12_isIn (by decide +kernel) (by rw [h.2.2.1]; exact q395_ok)
/-- NearSpellModel.odds -/
def q396_M : rfM := ((⟨"NearSpellModel", "odds", "(II)I"⟩, prog_14_method_115_code, 5, (some .int)), (1,22), ([.inr (.inl [114]),.inl (((-2147483648),(-1),1),none),.inl (((-2147483648),2147483647,1),none)],[((78,0),(0,0,0),none),((114,28),(0,0,0),none)]), [], [(some (.inl (((-1),(-1),0),none)),[],[])])
def ddX12_odds : List (Nat × Instr × Nat) := [(0,.iload_n 1,1),(1,.iconst 0,1),(2,.iconst 4,1),(3,.invokestatic 334,3),(6,.ifCond .eq 12,3),(9,.iload_n 2,1),(10,.iconst 0,1),(11,.iconst 1,1),(12,.invokestatic 334,3),(15,.ifCond .ne 5,3),(18,.iconst (-1),1),(19,.ireturn,1),(20,.bipush 100,2),(22,.aload_n 0,1),(23,.getfield 36,3),(26,.aload_n 0,1),(27,.getfield 242,3),(30,.iaload,1),(31,.isub,1),(32,.iload_n 1,1),(33,.invokestatic 477,3),(36,.istore_n 3,1),(37,.bipush 100,2),(39,.iload_n 1,1),(40,.invokestatic 477,3),(43,.istore 4,2),(45,.iload_n 2,1),(46,.ifCond .ne 7,3),(49,.iload_n 3,1),(50,.goto 5,3),(53,.iload 4,2),(55,.iload 4,2),(57,.iload_n 3,1),(58,.invokestatic 480,3),(61,.idiv,1),(62,.ireturn,1)]
set_option maxRecDepth 100000 in
theorem dkX12_odds : rf_decs prog_14_method_115_code ddX12_odds := rf_decs_of (by decide +kernel)
def q396_P : rfP := (flX12,csX12,lcX12,spX12,[q395_M],[(334,0)],[],([],[]))
def q396_U : rfU := []
set_option maxHeartbeats 8000000 in
def q396_N : List rfB := [(0,([(0,.inr (.inl [114])),(1,.inl (((-2147483648),(-1),1),none)),(2,.inl (((-2147483648),2147483647,1),none))],[],[((78,0),(0,0,0),some ((78,0),0,0)),((114,28),(0,0,0),some ((114,28),0,0))]),(6,[]),0)]
set_option maxRecDepth 100000 in
theorem q396_ok : rf_chkB q396_P q396_U wLay q396_M ddX12_odds [(3,[0])] [] [0] 600 q396_N = true := by decide +kernel
set_option maxHeartbeats 4000000 in
theorem q396_met {G : rfG} (h : okG G) : rf_met G q396_M := rf_methodB h.1 (P := q396_P) (U := q396_U) (N := q396_N) ⟨wflT h flokX12, wcsT h csokX12, wlcT h lcokX12, spokX12 h, List.forall_mem_cons.mpr ⟨q395_met h, fun _ h => absurd h List.not_mem_nil⟩, List.forall_mem_cons.mpr ⟨fun M hM => Option.some.inj (show some q395_M = some M from hM) ▸ wlkS (lkX12_334 h) q395_M rfl rfl, fun _ h => absurd h List.not_mem_nil⟩, fun _ h => absurd h List.not_mem_nil, fun _ h => absurd h List.not_mem_nil, fun _ h => absurd h List.not_mem_nil⟩ dkX12_odds (by decide +kernel) (by rw [h.2.2.1]; exact q396_ok)
/-- NearSpell.odds -/
def q397_M : rfM := ((⟨"NearSpell", "odds", "(II)I"⟩, prog_1_method_39_code, 8, (some .int)), (0,0), ([.inr (.inl [70]),.inl ((5,2147483647,1),none),.inl (((-2147483648),2147483647,1),none)],[((5,8),(0,0,0),none),((10,8),(0,0,0),none)]), [], [(some (.inl (((-1),(-1),0),none)),[],[])])
def q397_P : rfP := (flX11,csX11,lcX11,spX11,[],[],[],([],[]))
def q397_U : rfU := []
set_option maxHeartbeats 8000000 in
def q397_N : List rfB := [(0,([(0,.inr (.inl [70])),(1,.inl ((5,2147483647,1),none)),(2,.inl (((-2147483648),2147483647,1),none))],[],[((5,8),(0,0,0),some ((5,8),0,0)),((10,8),(0,0,0),some ((10,8),0,0))]),(6,[]),0)]
set_option maxRecDepth 100000 in
theorem q397_ok : rf_chkB q397_P q397_U wLay q397_M ddX11_odds [] [] [0] 600 q397_N = true := by decide +kernel
set_option maxHeartbeats 4000000 in
theorem q397_met {G : rfG} (h : okG G) : rf_met G q397_M := rf_methodB h.1 (P := q397_P) (U := q397_U) (N := q397_N) ⟨wflT h flokX11, wcsT h csokX11, wlcT h lcokX11, spokX11 h, fun _ h => absurd h List.not_mem_nil, fun _ h => absurd h List.not_mem_nil, fun _ h => absurd h List.not_mem_nil, fun _ h => absurd h List.not_mem_nil, fun _ h => absurd h List.not_mem_nil⟩ dkX11_odds (by decide +kernel) (by rw [h.2.2.1]; exact q397_ok)
/-- NearSpellModel.isIn -/
def q398_M : rfM := ((⟨"NearSpellModel", "isIn", "(III)Z"⟩, prog_14_method_35_code, 3, (some .boolean)), (0,0), ([.inl ((1,2147483647,1),none),.inl ((0,0,0),none),.inl ((4,4,0),none)],[]), [], [(some (.inl ((1,1,0),none)),[(0,1,4)],[]),(some (.inl ((0,0,0),none)),[(0,5,2147483647)],[])])
def q398_P : rfP := (flX12,csX12,lcX12,spX12,[],[],[],([],[]))
def q398_U : rfU := []
set_option maxHeartbeats 8000000 in
def q398_N : List rfB := [(0,([(0,.inl ((1,2147483647,1),none)),(1,.inl ((0,0,0),none)),(2,.inl ((4,4,0),none))],[],[]),(10,[]),0)]
set_option maxRecDepth 100000 in
theorem q398_ok : rf_chkB q398_P q398_U wLay q398_M ddX12_isIn [] [] [0] 600 q398_N = true := by decide +kernel
set_option maxHeartbeats 4000000 in
theorem q398_met {G : rfG} (h : okG G) : rf_met G q398_M := rf_methodB h.1 (P := q398_P) (U := q398_U) (N := q398_N) ⟨wflT h flokX12, wcsT h csokX12, wlcT h lcokX12, spokX12 h, fun _ h => absurd h List.not_mem_nil, fun _ h => absurd h List.not_mem_nil, fun _ h => absurd h List.not_mem_nil, fun _ h => absurd h List.not_mem_nil, fun _ h => absurd h List.not_mem_nil⟩ dkX12_isIn (by decide +kernel) (by rw [h.2.2.1]; exact q398_ok)
/-- NearSpellModel.odds -/
def q399_M : rfM := ((⟨"NearSpellModel", "odds", "(II)I"⟩, prog_14_method_115_code, 5, (some .int)), (1,22), ([.inr (.inl [114]),.inl ((5,2147483647,1),none),.inl (((-2147483648),2147483647,1),none)],[((78,0),(0,0,0),none),((114,28),(0,0,0),none)]), [], [(some (.inl (((-1),(-1),0),none)),[],[])])
def q399_P : rfP := (flX12,csX12,lcX12,spX12,[q398_M],[(334,0)],[],([],[]))
def q399_U : rfU := []
set_option maxHeartbeats 8000000 in
def q399_N : List rfB := [(0,([(0,.inr (.inl [114])),(1,.inl ((5,2147483647,1),none)),(2,.inl (((-2147483648),2147483647,1),none))],[],[((78,0),(0,0,0),some ((78,0),0,0)),((114,28),(0,0,0),some ((114,28),0,0))]),(6,[]),0)]
set_option maxRecDepth 100000 in
theorem q399_ok : rf_chkB q399_P q399_U wLay q399_M ddX12_odds [(3,[0])] [] [0] 600 q399_N = true := by decide +kernel
set_option maxHeartbeats 4000000 in
theorem q399_met {G : rfG} (h : okG G) : rf_met G q399_M := rf_methodB h.1 (P := q399_P) (U := q399_U) (N := q399_N) ⟨wflT h flokX12, wcsT h csokX12, wlcT h lcokX12, spokX12 h, List.forall_mem_cons.mpr ⟨q398_met h, fun _ h => absurd h List.not_mem_nil⟩, List.forall_mem_cons.mpr ⟨fun M hM => Option.some.inj (show some q398_M = some M from hM) ▸ wlkS (lkX12_334 h) q398_M rfl rfl, fun _ h => absurd h List.not_mem_nil⟩, fun _ h => absurd h List.not_mem_nil, fun _ h => absurd h List.not_mem_nil, fun _ h => absurd h List.not_mem_nil⟩ dkX12_odds (by decide +kernel) (by rw [h.2.2.1]; exact q399_ok)
/-- NearSpell.odds -/
def q400_M : rfM := ((⟨"NearSpell", "odds", "(II)I"⟩, prog_1_method_39_code, 8, (some .int)), (0,0), ([.inr (.inl [70]),.inl ((0,4,1),none),.inl (((-2147483648),(-1),1),none)],[((5,8),(0,0,0),none),((10,8),(0,0,0),none)]), [], [(some (.inl (((-1),(-1),0),none)),[],[])])
def q400_P : rfP := (flX11,csX11,lcX11,spX11,[],[],[],([],[]))
def q400_U : rfU := []
set_option maxHeartbeats 8000000 in
def q400_N : List rfB := [(0,([(0,.inr (.inl [70])),(1,.inl ((0,4,1),none)),(2,.inl (((-2147483648),(-1),1),none))],[],[((5,8),(0,0,0),some ((5,8),0,0)),((10,8),(0,0,0),some ((10,8),0,0))]),(8,[]),0)]
set_option maxRecDepth 100000 in
theorem q400_ok : rf_chkB q400_P q400_U wLay q400_M ddX11_odds [] [] [0] 600 q400_N = true := by decide +kernel
set_option maxHeartbeats 4000000 in
theorem q400_met {G : rfG} (h : okG G) : rf_met G q400_M := rf_methodB h.1 (P := q400_P) (U := q400_U) (N := q400_N) ⟨wflT h flokX11, wcsT h csokX11, wlcT h lcokX11, spokX11 h, fun _ h => absurd h List.not_mem_nil, fun _ h => absurd h List.not_mem_nil, fun _ h => absurd h List.not_mem_nil, fun _ h => absurd h List.not_mem_nil, fun _ h => absurd h List.not_mem_nil⟩ dkX11_odds (by decide +kernel) (by rw [h.2.2.1]; exact q400_ok)
/-- NearSpellModel.isIn -/
def q401_M : rfM := ((⟨"NearSpellModel", "isIn", "(III)Z"⟩, prog_14_method_35_code, 3, (some .boolean)), (0,0), ([.inl ((0,4,1),none),.inl ((0,0,0),none),.inl ((4,4,0),none)],[]), [], [(some (.inl ((1,1,0),none)),[],[])])
def q401_P : rfP := (flX12,csX12,lcX12,spX12,[],[],[],([],[]))
def q401_U : rfU := []
set_option maxHeartbeats 8000000 in
def q401_N : List rfB := [(0,([(0,.inl ((0,4,1),none)),(1,.inl ((0,0,0),none)),(2,.inl ((4,4,0),none))],[],[]),(8,[]),0)]
set_option maxRecDepth 100000 in
theorem q401_ok : rf_chkB q401_P q401_U wLay q401_M ddX12_isIn [] [] [0] 600 q401_N = true := by decide +kernel
set_option maxHeartbeats 4000000 in
theorem q401_met {G : rfG} (h : okG G) : rf_met G q401_M := rf_methodB h.1 (P := q401_P) (U := q401_U) (N := q401_N) ⟨wflT h flokX12, wcsT h csokX12, wlcT h lcokX12, spokX12 h, fun _ h => absurd h List.not_mem_nil, fun _ h => absurd h List.not_mem_nil, fun _ h => absurd h List.not_mem_nil, fun _ h => absurd h List.not_mem_nil, fun _ h => absurd h List.not_mem_nil⟩ dkX12_isIn (by decide +kernel) (by rw [h.2.2.1]; exact q401_ok)
/-- NearSpellModel.odds -/
def q402_M : rfM := ((⟨"NearSpellModel", "odds", "(II)I"⟩, prog_14_method_115_code, 5, (some .int)), (1,22), ([.inr (.inl [114]),.inl ((0,4,1),none),.inl (((-2147483648),(-1),1),none)],[((78,0),(0,0,0),none),((114,28),(0,0,0),none)]), [], [(some (.inl (((-1),(-1),0),none)),[],[])])
def q402_P : rfP := (flX12,csX12,lcX12,spX12,[q401_M,q266_M],[(334,0),(334,1)],[],([],[]))
def q402_U : rfU := []
set_option maxHeartbeats 8000000 in
def q402_N : List rfB := [(0,([(0,.inr (.inl [114])),(1,.inl ((0,4,1),none)),(2,.inl (((-2147483648),(-1),1),none))],[],[((78,0),(0,0,0),some ((78,0),0,0)),((114,28),(0,0,0),some ((114,28),0,0))]),(11,[]),0)]
set_option maxRecDepth 100000 in
theorem q402_ok : rf_chkB q402_P q402_U wLay q402_M ddX12_odds [(3,[0]),(12,[1])] [] [0] 600 q402_N = true := by decide +kernel
set_option maxHeartbeats 4000000 in
theorem q402_met {G : rfG} (h : okG G) : rf_met G q402_M := rf_methodB h.1 (P := q402_P) (U := q402_U) (N := q402_N) ⟨wflT h flokX12, wcsT h csokX12, wlcT h lcokX12, spokX12 h, List.forall_mem_cons.mpr ⟨q401_met h, List.forall_mem_cons.mpr ⟨q266_met h, fun _ h => absurd h List.not_mem_nil⟩⟩, List.forall_mem_cons.mpr ⟨fun M hM => Option.some.inj (show some q401_M = some M from hM) ▸ wlkS (lkX12_334 h) q401_M rfl rfl, List.forall_mem_cons.mpr ⟨fun M hM => Option.some.inj (show some q266_M = some M from hM) ▸ wlkS (lkX12_334 h) q266_M rfl rfl, fun _ h => absurd h List.not_mem_nil⟩⟩, fun _ h => absurd h List.not_mem_nil, fun _ h => absurd h List.not_mem_nil, fun _ h => absurd h List.not_mem_nil⟩ dkX12_odds (by decide +kernel) (by rw [h.2.2.1]; exact q402_ok)
/-- NearSpell.odds -/
def q403_M : rfM := ((⟨"NearSpell", "odds", "(II)I"⟩, prog_1_method_39_code, 8, (some .int)), (0,0), ([.inr (.inl [70]),.inl ((0,4,1),none),.inl ((2,2147483647,1),none)],[((5,8),(0,0,0),none),((10,8),(0,0,0),none)]), [], [(some (.inl (((-1),(-1),0),none)),[],[])])
def q403_P : rfP := (flX11,csX11,lcX11,spX11,[],[],[],([],[]))
def q403_U : rfU := []
set_option maxHeartbeats 8000000 in
def q403_N : List rfB := [(0,([(0,.inr (.inl [70])),(1,.inl ((0,4,1),none)),(2,.inl ((2,2147483647,1),none))],[],[((5,8),(0,0,0),some ((5,8),0,0)),((10,8),(0,0,0),some ((10,8),0,0))]),(11,[]),0)]
set_option maxRecDepth 100000 in
theorem q403_ok : rf_chkB q403_P q403_U wLay q403_M ddX11_odds [] [] [0] 600 q403_N = true := by decide +kernel
set_option maxHeartbeats 4000000 in
theorem q403_met {G : rfG} (h : okG G) : rf_met G q403_M := rf_methodB h.1 (P := q403_P) (U := q403_U) (N := q403_N) ⟨wflT h flokX11, wcsT h csokX11, wlcT h lcokX11, spokX11 h, fun _ h => absurd h List.not_mem_nil, fun _ h => absurd h List.not_mem_nil, fun _ h => absurd h List.not_mem_nil, fun _ h => absurd h List.not_mem_nil, fun _ h => absurd h List.not_mem_nil⟩ dkX11_odds (by decide +kernel) (by rw [h.2.2.1]; exact q403_ok)
/-- NearSpellModel.odds -/
def q404_M : rfM := ((⟨"NearSpellModel", "odds", "(II)I"⟩, prog_14_method_115_code, 5, (some .int)), (1,22), ([.inr (.inl [114]),.inl ((0,4,1),none),.inl ((2,2147483647,1),none)],[((78,0),(0,0,0),none),((114,28),(0,0,0),none)]), [], [(some (.inl (((-1),(-1),0),none)),[],[])])
def q404_P : rfP := (flX12,csX12,lcX12,spX12,[q401_M,q288_M],[(334,0),(334,1)],[],([],[]))
def q404_U : rfU := []
set_option maxHeartbeats 8000000 in
def q404_N : List rfB := [(0,([(0,.inr (.inl [114])),(1,.inl ((0,4,1),none)),(2,.inl ((2,2147483647,1),none))],[],[((78,0),(0,0,0),some ((78,0),0,0)),((114,28),(0,0,0),some ((114,28),0,0))]),(11,[]),0)]
set_option maxRecDepth 100000 in
theorem q404_ok : rf_chkB q404_P q404_U wLay q404_M ddX12_odds [(3,[0]),(12,[1])] [] [0] 600 q404_N = true := by decide +kernel
set_option maxHeartbeats 4000000 in
theorem q404_met {G : rfG} (h : okG G) : rf_met G q404_M := rf_methodB h.1 (P := q404_P) (U := q404_U) (N := q404_N) ⟨wflT h flokX12, wcsT h csokX12, wlcT h lcokX12, spokX12 h, List.forall_mem_cons.mpr ⟨q401_met h, List.forall_mem_cons.mpr ⟨q288_met h, fun _ h => absurd h List.not_mem_nil⟩⟩, List.forall_mem_cons.mpr ⟨fun M hM => Option.some.inj (show some q401_M = some M from hM) ▸ wlkS (lkX12_334 h) q401_M rfl rfl, List.forall_mem_cons.mpr ⟨fun M hM => Option.some.inj (show some q288_M = some M from hM) ▸ wlkS (lkX12_334 h) q288_M rfl rfl, fun _ h => absurd h List.not_mem_nil⟩⟩, fun _ h => absurd h List.not_mem_nil, fun _ h => absurd h List.not_mem_nil, fun _ h => absurd h List.not_mem_nil⟩ dkX12_odds (by decide +kernel) (by rw [h.2.2.1]; exact q404_ok)
/-- NearSpell.odds -/
def q406_M : rfM := ((⟨"NearSpell", "odds", "(II)I"⟩, prog_1_method_39_code, 8, (some .int)), (3,125), ([.inr (.inl [70]),.inl ((0,0,0),none),.inl ((0,0,0),none)],[((5,8),(0,0,0),none),((10,8),(0,0,0),none)]), [], [(some (.inl ((1,1,0),none)),[],[])])
def q406_P : rfP := (flX11,csX11,lcX11,spX11,[hq_cd_M],[(315,0)],[],([],[]))
def q406_U : rfU := []
set_option maxHeartbeats 8000000 in
def q406_N : List rfB := [(0,([(0,.inr (.inl [70])),(1,.inl ((0,0,0),none)),(2,.inl ((0,0,0),none))],[],[((5,8),(0,0,0),some ((5,8),0,0)),((10,8),(0,0,0),some ((10,8),0,0))]),(39,[]),0)]
set_option maxRecDepth 100000 in
theorem q406_ok : rf_chkB q406_P q406_U wLay q406_M ddX11_odds [(34,[0])] [] [0] 600 q406_N = true := by decide +kernel
set_option maxHeartbeats 4000000 in
theorem q406_met {G : rfG} (h : okG G) : rf_met G q406_M := rf_methodB h.1 (P := q406_P) (U := q406_U) (N := q406_N) ⟨wflT h flokX11, wcsT h csokX11, wlcT h lcokX11, spokX11 h, List.forall_mem_cons.mpr ⟨hq_cd_met h, fun _ h => absurd h List.not_mem_nil⟩, List.forall_mem_cons.mpr ⟨fun M hM => Option.some.inj (show some hq_cd_M = some M from hM) ▸ wlkS (lkX11_315 h) hq_cd_M rfl rfl, fun _ h => absurd h List.not_mem_nil⟩, fun _ h => absurd h List.not_mem_nil, fun _ h => absurd h List.not_mem_nil, fun _ h => absurd h List.not_mem_nil⟩ dkX11_odds (by decide +kernel) (by rw [h.2.2.1]; exact q406_ok)
/-- NearSpellModel.isIn -/
def q407_M : rfM := ((⟨"NearSpellModel", "isIn", "(III)Z"⟩, prog_14_method_35_code, 3, (some .boolean)), (0,0), ([.inl ((0,0,0),none),.inl ((0,0,0),none),.inl ((4,4,0),none)],[]), [], [(some (.inl ((1,1,0),none)),[],[])])
def q407_P : rfP := (flX12,csX12,lcX12,spX12,[],[],[],([],[]))
def q407_U : rfU := []
set_option maxHeartbeats 8000000 in
def q407_N : List rfB := [(0,([(0,.inl ((0,0,0),none)),(1,.inl ((0,0,0),none)),(2,.inl ((4,4,0),none))],[],[]),(8,[]),0)]
set_option maxRecDepth 100000 in
theorem q407_ok : rf_chkB q407_P q407_U wLay q407_M ddX12_isIn [] [] [0] 600 q407_N = true := by decide +kernel
set_option maxHeartbeats 4000000 in
theorem q407_met {G : rfG} (h : okG G) : rf_met G q407_M := rf_methodB h.1 (P := q407_P) (U := q407_U) (N := q407_N) ⟨wflT h flokX12, wcsT h csokX12, wlcT h lcokX12, spokX12 h, fun _ h => absurd h List.not_mem_nil, fun _ h => absurd h List.not_mem_nil, fun _ h => absurd h List.not_mem_nil, fun _ h => absurd h List.not_mem_nil, fun _ h => absurd h List.not_mem_nil⟩ dkX12_isIn (by decide +kernel) (by rw [h.2.2.1]; exact q407_ok)
/-- NearSpellModel.isIn -/
def q408_M : rfM := ((⟨"NearSpellModel", "isIn", "(III)Z"⟩, prog_14_method_35_code, 3, (some .boolean)), (0,0), ([.inl ((0,0,0),none),.inl ((0,0,0),none),.inl ((1,1,0),none)],[]), [], [(some (.inl ((1,1,0),none)),[],[])])
def q408_P : rfP := (flX12,csX12,lcX12,spX12,[],[],[],([],[]))
def q408_U : rfU := []
set_option maxHeartbeats 8000000 in
def q408_N : List rfB := [(0,([(0,.inl ((0,0,0),none)),(1,.inl ((0,0,0),none)),(2,.inl ((1,1,0),none))],[],[]),(8,[]),0)]
set_option maxRecDepth 100000 in
theorem q408_ok : rf_chkB q408_P q408_U wLay q408_M ddX12_isIn [] [] [0] 600 q408_N = true := by decide +kernel
set_option maxHeartbeats 4000000 in
theorem q408_met {G : rfG} (h : okG G) : rf_met G q408_M := rf_methodB h.1 (P := q408_P) (U := q408_U) (N := q408_N) ⟨wflT h flokX12, wcsT h csokX12, wlcT h lcokX12, spokX12 h, fun _ h => absurd h List.not_mem_nil, fun _ h => absurd h List.not_mem_nil, fun _ h => absurd h List.not_mem_nil, fun _ h => absurd h List.not_mem_nil, fun _ h => absurd h List.not_mem_nil⟩ dkX12_isIn (by decide +kernel) (by rw [h.2.2.1]; exact q408_ok)
/-- NearSpellModel.power -/
def q409_M : rfM := ((⟨"NearSpellModel", "power", "(II)I"⟩, prog_14_method_39_code, 4, (some .int)), (0,0), ([.inl ((100,100,0),none),.inl ((0,0,0),none)],[]), [], [(some (.inl ((1,1,0),none)),[],[])])
def ddX12_power : List (Nat × Instr × Nat) := [(0,.iconst 1,1),(1,.istore_n 2,1),(2,.iconst 0,1),(3,.istore_n 3,1),(4,.iload_n 3,1),(5,.iload_n 1,1),(6,.if_icmp .ge 13,3),(9,.iload_n 2,1),(10,.iload_n 0,1),(11,.imul,1),(12,.istore_n 2,1),(13,.iinc 3 1,3),(16,.goto (-12),3),(19,.iload_n 2,1),(20,.ireturn,1)]
set_option maxRecDepth 100000 in
theorem dkX12_power : rf_decs prog_14_method_39_code ddX12_power := rf_decs_of (by decide +kernel)
def q409_P : rfP := (flX12,csX12,lcX12,spX12,[],[],[],([],[]))
def q409_U : rfU := []
set_option maxHeartbeats 8000000 in
def q409_N : List rfB := [(0,([(0,.inl ((100,100,0),none)),(1,.inl ((0,0,0),none))],[],[]),(8,[]),0)]
set_option maxRecDepth 100000 in
theorem q409_ok : rf_chkB q409_P q409_U wLay q409_M ddX12_power [] [] [0] 600 q409_N = true := by decide +kernel
set_option maxHeartbeats 4000000 in
theorem q409_met {G : rfG} (h : okG G) : rf_met G q409_M := rf_methodB h.1 (P := q409_P) (U := q409_U) (N := q409_N) ⟨wflT h flokX12, wcsT h csokX12, wlcT h lcokX12, spokX12 h, fun _ h => absurd h List.not_mem_nil, fun _ h => absurd h List.not_mem_nil, fun _ h => absurd h List.not_mem_nil, fun _ h => absurd h List.not_mem_nil, fun _ h => absurd h List.not_mem_nil⟩ dkX12_power (by decide +kernel) (by rw [h.2.2.1]; exact q409_ok)
/-- NearSpellModel.odds -/
def q411_M : rfM := ((⟨"NearSpellModel", "odds", "(II)I"⟩, prog_14_method_115_code, 5, (some .int)), (3,124), ([.inr (.inl [114]),.inl ((0,0,0),none),.inl ((0,0,0),none)],[((78,0),(0,0,0),none),((114,28),(0,0,0),none)]), [], [(some (.inl ((1,1,1),none)),[],[])])
def q411_P : rfP := (flX12,csX12,lcX12,spX12,[q407_M,q408_M,q409_M,hq_dv1_M],[(334,0),(334,1),(477,2),(480,3)],[],([],[]))
def q411_U : rfU := []
set_option maxHeartbeats 8000000 in
def q411_N : List rfB := [(0,([(0,.inr (.inl [114])),(1,.inl ((0,0,0),none)),(2,.inl ((0,0,0),none))],[],[((78,0),(0,0,0),some ((78,0),0,0)),((114,28),(0,0,0),some ((114,28),0,0))]),(32,[]),0)]
set_option maxRecDepth 100000 in
theorem q411_ok : rf_chkB q411_P q411_U wLay q411_M ddX12_odds [(3,[0]),(12,[1]),(33,[2]),(40,[2]),(58,[3])] [] [0] 600 q411_N = true := by decide +kernel
set_option maxHeartbeats 4000000 in
theorem q411_met {G : rfG} (h : okG G) : rf_met G q411_M := rf_methodB h.1 (P := q411_P) (U := q411_U) (N := q411_N) ⟨wflT h flokX12, wcsT h csokX12, wlcT h lcokX12, spokX12 h, List.forall_mem_cons.mpr ⟨q407_met h, List.forall_mem_cons.mpr ⟨q408_met h, List.forall_mem_cons.mpr ⟨q409_met h, List.forall_mem_cons.mpr ⟨hq_dv1_met h, fun _ h => absurd h List.not_mem_nil⟩⟩⟩⟩, List.forall_mem_cons.mpr ⟨fun M hM => Option.some.inj (show some q407_M = some M from hM) ▸ wlkS (lkX12_334 h) q407_M rfl rfl, List.forall_mem_cons.mpr ⟨fun M hM => Option.some.inj (show some q408_M = some M from hM) ▸ wlkS (lkX12_334 h) q408_M rfl rfl, List.forall_mem_cons.mpr ⟨fun M hM => Option.some.inj (show some q409_M = some M from hM) ▸ wlkS (lkX12_477 h) q409_M rfl rfl, List.forall_mem_cons.mpr ⟨fun M hM => Option.some.inj (show some hq_dv1_M = some M from hM) ▸ wlkS (lkX12_480 h) hq_dv1_M rfl rfl, fun _ h => absurd h List.not_mem_nil⟩⟩⟩⟩, fun _ h => absurd h List.not_mem_nil, fun _ h => absurd h List.not_mem_nil, fun _ h => absurd h List.not_mem_nil⟩ dkX12_odds (by decide +kernel) (by rw [h.2.2.1]; exact q411_ok)
/-- NearSpell.odds -/
def q412_M : rfM := ((⟨"NearSpell", "odds", "(II)I"⟩, prog_1_method_39_code, 8, (some .int)), (3,125), ([.inr (.inl [70]),.inl ((0,0,0),none),.inl ((1,1,0),none)],[((5,8),(0,0,0),none),((10,8),(0,0,0),none)]), [], [(some (.inl ((1,1,0),none)),[],[])])
def q412_P : rfP := (flX11,csX11,lcX11,spX11,[hq_cd_M],[(315,0)],[],([],[]))
def q412_U : rfU := []
set_option maxHeartbeats 8000000 in
def q412_N : List rfB := [(0,([(0,.inr (.inl [70])),(1,.inl ((0,0,0),none)),(2,.inl ((1,1,0),none))],[],[((5,8),(0,0,0),some ((5,8),0,0)),((10,8),(0,0,0),some ((10,8),0,0))]),(38,[]),0)]
set_option maxRecDepth 100000 in
theorem q412_ok : rf_chkB q412_P q412_U wLay q412_M ddX11_odds [(34,[0])] [] [0] 600 q412_N = true := by decide +kernel
set_option maxHeartbeats 4000000 in
theorem q412_met {G : rfG} (h : okG G) : rf_met G q412_M := rf_methodB h.1 (P := q412_P) (U := q412_U) (N := q412_N) ⟨wflT h flokX11, wcsT h csokX11, wlcT h lcokX11, spokX11 h, List.forall_mem_cons.mpr ⟨hq_cd_met h, fun _ h => absurd h List.not_mem_nil⟩, List.forall_mem_cons.mpr ⟨fun M hM => Option.some.inj (show some hq_cd_M = some M from hM) ▸ wlkS (lkX11_315 h) hq_cd_M rfl rfl, fun _ h => absurd h List.not_mem_nil⟩, fun _ h => absurd h List.not_mem_nil, fun _ h => absurd h List.not_mem_nil, fun _ h => absurd h List.not_mem_nil⟩ dkX11_odds (by decide +kernel) (by rw [h.2.2.1]; exact q412_ok)
/-- NearSpellModel.isIn -/
def q413_M : rfM := ((⟨"NearSpellModel", "isIn", "(III)Z"⟩, prog_14_method_35_code, 3, (some .boolean)), (0,0), ([.inl ((1,1,0),none),.inl ((0,0,0),none),.inl ((1,1,0),none)],[]), [], [(some (.inl ((1,1,0),none)),[],[])])
def q413_P : rfP := (flX12,csX12,lcX12,spX12,[],[],[],([],[]))
def q413_U : rfU := []
set_option maxHeartbeats 8000000 in
def q413_N : List rfB := [(0,([(0,.inl ((1,1,0),none)),(1,.inl ((0,0,0),none)),(2,.inl ((1,1,0),none))],[],[]),(8,[]),0)]
set_option maxRecDepth 100000 in
theorem q413_ok : rf_chkB q413_P q413_U wLay q413_M ddX12_isIn [] [] [0] 600 q413_N = true := by decide +kernel
set_option maxHeartbeats 4000000 in
theorem q413_met {G : rfG} (h : okG G) : rf_met G q413_M := rf_methodB h.1 (P := q413_P) (U := q413_U) (N := q413_N) ⟨wflT h flokX12, wcsT h csokX12, wlcT h lcokX12, spokX12 h, fun _ h => absurd h List.not_mem_nil, fun _ h => absurd h List.not_mem_nil, fun _ h => absurd h List.not_mem_nil, fun _ h => absurd h List.not_mem_nil, fun _ h => absurd h List.not_mem_nil⟩ dkX12_isIn (by decide +kernel) (by rw [h.2.2.1]; exact q413_ok)
/-- NearSpellModel.odds -/
def q414_M : rfM := ((⟨"NearSpellModel", "odds", "(II)I"⟩, prog_14_method_115_code, 5, (some .int)), (3,124), ([.inr (.inl [114]),.inl ((0,0,0),none),.inl ((1,1,0),none)],[((78,0),(0,0,0),none),((114,28),(0,0,0),none)]), [], [(some (.inl ((1,1,1),none)),[],[])])
def q414_P : rfP := (flX12,csX12,lcX12,spX12,[q407_M,q413_M,q409_M,hq_dv1_M],[(334,0),(334,1),(477,2),(480,3)],[],([],[]))
def q414_U : rfU := []
set_option maxHeartbeats 8000000 in
def q414_N : List rfB := [(0,([(0,.inr (.inl [114])),(1,.inl ((0,0,0),none)),(2,.inl ((1,1,0),none))],[],[((78,0),(0,0,0),some ((78,0),0,0)),((114,28),(0,0,0),some ((114,28),0,0))]),(31,[]),0)]
set_option maxRecDepth 100000 in
theorem q414_ok : rf_chkB q414_P q414_U wLay q414_M ddX12_odds [(3,[0]),(12,[1]),(33,[2]),(40,[2]),(58,[3])] [] [0] 600 q414_N = true := by decide +kernel
set_option maxHeartbeats 4000000 in
theorem q414_met {G : rfG} (h : okG G) : rf_met G q414_M := rf_methodB h.1 (P := q414_P) (U := q414_U) (N := q414_N) ⟨wflT h flokX12, wcsT h csokX12, wlcT h lcokX12, spokX12 h, List.forall_mem_cons.mpr ⟨q407_met h, List.forall_mem_cons.mpr ⟨q413_met h, List.forall_mem_cons.mpr ⟨q409_met h, List.forall_mem_cons.mpr ⟨hq_dv1_met h, fun _ h => absurd h List.not_mem_nil⟩⟩⟩⟩, List.forall_mem_cons.mpr ⟨fun M hM => Option.some.inj (show some q407_M = some M from hM) ▸ wlkS (lkX12_334 h) q407_M rfl rfl, List.forall_mem_cons.mpr ⟨fun M hM => Option.some.inj (show some q413_M = some M from hM) ▸ wlkS (lkX12_334 h) q413_M rfl rfl, List.forall_mem_cons.mpr ⟨fun M hM => Option.some.inj (show some q409_M = some M from hM) ▸ wlkS (lkX12_477 h) q409_M rfl rfl, List.forall_mem_cons.mpr ⟨fun M hM => Option.some.inj (show some hq_dv1_M = some M from hM) ▸ wlkS (lkX12_480 h) hq_dv1_M rfl rfl, fun _ h => absurd h List.not_mem_nil⟩⟩⟩⟩, fun _ h => absurd h List.not_mem_nil, fun _ h => absurd h List.not_mem_nil, fun _ h => absurd h List.not_mem_nil⟩ dkX12_odds (by decide +kernel) (by rw [h.2.2.1]; exact q414_ok)
/-- NearSpell.odds -/
def q415_M : rfM := ((⟨"NearSpell", "odds", "(II)I"⟩, prog_1_method_39_code, 8, (some .int)), (3,125), ([.inr (.inl [70]),.inl ((1,1,0),none),.inl ((0,0,0),none)],[((5,8),(0,0,0),none),((10,8),(0,0,0),none)]), [], [(some (.inl ((1,1,0),none)),[],[])])
def q415_P : rfP := (flX11,csX11,lcX11,spX11,[hq_cd_M],[(315,0)],[],([],[]))
def q415_U : rfU := []
set_option maxHeartbeats 8000000 in
def q415_N : List rfB := [(0,([(0,.inr (.inl [70])),(1,.inl ((1,1,0),none)),(2,.inl ((0,0,0),none))],[],[((5,8),(0,0,0),some ((5,8),0,0)),((10,8),(0,0,0),some ((10,8),0,0))]),(56,[0]),0)]
set_option maxRecDepth 100000 in
theorem q415_ok : rf_chkB q415_P q415_U wLay q415_M ddX11_odds [(34,[0])] [.inl 7] [0] 54 q415_N = true := by decide +kernel
set_option maxHeartbeats 4000000 in
theorem q415_met {G : rfG} (h : okG G) : rf_met G q415_M := rf_methodB h.1 (P := q415_P) (U := q415_U) (N := q415_N) ⟨wflT h flokX11, wcsT h csokX11, wlcT h lcokX11, spokX11 h, List.forall_mem_cons.mpr ⟨hq_cd_met h, fun _ h => absurd h List.not_mem_nil⟩, List.forall_mem_cons.mpr ⟨fun M hM => Option.some.inj (show some hq_cd_M = some M from hM) ▸ wlkS (lkX11_315 h) hq_cd_M rfl rfl, fun _ h => absurd h List.not_mem_nil⟩, fun _ h => absurd h List.not_mem_nil, fun _ h => absurd h List.not_mem_nil, fun _ h => absurd h List.not_mem_nil⟩ dkX11_odds (by decide +kernel) (by rw [h.2.2.1]; exact q415_ok)
/-- NearSpellModel.isIn -/
def q416_M : rfM := ((⟨"NearSpellModel", "isIn", "(III)Z"⟩, prog_14_method_35_code, 3, (some .boolean)), (0,0), ([.inl ((1,1,0),none),.inl ((0,0,0),none),.inl ((4,4,0),none)],[]), [], [(some (.inl ((1,1,0),none)),[],[])])
def q416_P : rfP := (flX12,csX12,lcX12,spX12,[],[],[],([],[]))
def q416_U : rfU := []
set_option maxHeartbeats 8000000 in
def q416_N : List rfB := [(0,([(0,.inl ((1,1,0),none)),(1,.inl ((0,0,0),none)),(2,.inl ((4,4,0),none))],[],[]),(8,[]),0)]
set_option maxRecDepth 100000 in
theorem q416_ok : rf_chkB q416_P q416_U wLay q416_M ddX12_isIn [] [] [0] 600 q416_N = true := by decide +kernel
set_option maxHeartbeats 4000000 in
theorem q416_met {G : rfG} (h : okG G) : rf_met G q416_M := rf_methodB h.1 (P := q416_P) (U := q416_U) (N := q416_N) ⟨wflT h flokX12, wcsT h csokX12, wlcT h lcokX12, spokX12 h, fun _ h => absurd h List.not_mem_nil, fun _ h => absurd h List.not_mem_nil, fun _ h => absurd h List.not_mem_nil, fun _ h => absurd h List.not_mem_nil, fun _ h => absurd h List.not_mem_nil⟩ dkX12_isIn (by decide +kernel) (by rw [h.2.2.1]; exact q416_ok)
/-- NearSpellModel.power -/
def q417_M : rfM := ((⟨"NearSpellModel", "power", "(II)I"⟩, prog_14_method_39_code, 4, (some .int)), (0,0), ([.inl ((100,100,0),none),.inl ((1,1,0),none)],[]), [], [(some (.inl ((100,100,0),none)),[],[])])
def q417_P : rfP := (flX12,csX12,lcX12,spX12,[],[],[],([],[]))
def q417_U : rfU := []
set_option maxHeartbeats 8000000 in
def q417_N : List rfB := [(0,([(0,.inl ((100,100,0),none)),(1,.inl ((1,1,0),none))],[],[]),(17,[]),0)]
set_option maxRecDepth 100000 in
theorem q417_ok : rf_chkB q417_P q417_U wLay q417_M ddX12_power [] [] [0] 23 q417_N = true := by decide +kernel
set_option maxHeartbeats 4000000 in
theorem q417_met {G : rfG} (h : okG G) : rf_met G q417_M := rf_methodB h.1 (P := q417_P) (U := q417_U) (N := q417_N) ⟨wflT h flokX12, wcsT h csokX12, wlcT h lcokX12, spokX12 h, fun _ h => absurd h List.not_mem_nil, fun _ h => absurd h List.not_mem_nil, fun _ h => absurd h List.not_mem_nil, fun _ h => absurd h List.not_mem_nil, fun _ h => absurd h List.not_mem_nil⟩ dkX12_power (by decide +kernel) (by rw [h.2.2.1]; exact q417_ok)
/-- NearSpellModel.odds -/
def q419_M : rfM := ((⟨"NearSpellModel", "odds", "(II)I"⟩, prog_14_method_115_code, 5, (some .int)), (3,124), ([.inr (.inl [114]),.inl ((1,1,0),none),.inl ((0,0,0),none)],[((78,0),(0,0,0),none),((114,28),(0,0,0),none)]), [], [(some (.inl ((1,1,1),none)),[],[])])
def q419_P : rfP := (flX12,csX12,lcX12,spX12,[q416_M,q408_M,q417_M,hq_dv100_M],[(334,0),(334,1),(477,2),(480,3)],[],([],[]))
def q419_U : rfU := []
set_option maxHeartbeats 8000000 in
def q419_N : List rfB := [(0,([(0,.inr (.inl [114])),(1,.inl ((1,1,0),none)),(2,.inl ((0,0,0),none))],[],[((78,0),(0,0,0),some ((78,0),0,0)),((114,28),(0,0,0),some ((114,28),0,0))]),(32,[]),0)]
set_option maxRecDepth 100000 in
theorem q419_ok : rf_chkB q419_P q419_U wLay q419_M ddX12_odds [(3,[0]),(12,[1]),(33,[2]),(40,[2]),(58,[3])] [] [0] 600 q419_N = true := by decide +kernel
set_option maxHeartbeats 4000000 in
theorem q419_met {G : rfG} (h : okG G) : rf_met G q419_M := rf_methodB h.1 (P := q419_P) (U := q419_U) (N := q419_N) ⟨wflT h flokX12, wcsT h csokX12, wlcT h lcokX12, spokX12 h, List.forall_mem_cons.mpr ⟨q416_met h, List.forall_mem_cons.mpr ⟨q408_met h, List.forall_mem_cons.mpr ⟨q417_met h, List.forall_mem_cons.mpr ⟨hq_dv100_met h, fun _ h => absurd h List.not_mem_nil⟩⟩⟩⟩, List.forall_mem_cons.mpr ⟨fun M hM => Option.some.inj (show some q416_M = some M from hM) ▸ wlkS (lkX12_334 h) q416_M rfl rfl, List.forall_mem_cons.mpr ⟨fun M hM => Option.some.inj (show some q408_M = some M from hM) ▸ wlkS (lkX12_334 h) q408_M rfl rfl, List.forall_mem_cons.mpr ⟨fun M hM => Option.some.inj (show some q417_M = some M from hM) ▸ wlkS (lkX12_477 h) q417_M rfl rfl, List.forall_mem_cons.mpr ⟨fun M hM => Option.some.inj (show some hq_dv100_M = some M from hM) ▸ wlkS (lkX12_480 h) hq_dv100_M rfl rfl, fun _ h => absurd h List.not_mem_nil⟩⟩⟩⟩, fun _ h => absurd h List.not_mem_nil, fun _ h => absurd h List.not_mem_nil, fun _ h => absurd h List.not_mem_nil⟩ dkX12_odds (by decide +kernel) (by rw [h.2.2.1]; exact q419_ok)
/-- NearSpell.odds -/
def q420_M : rfM := ((⟨"NearSpell", "odds", "(II)I"⟩, prog_1_method_39_code, 8, (some .int)), (3,125), ([.inr (.inl [70]),.inl ((1,1,0),none),.inl ((1,1,0),none)],[((5,8),(0,0,0),none),((10,8),(0,0,0),none)]), [], [(some (.inl ((1,1,0),none)),[],[])])
def q420_P : rfP := (flX11,csX11,lcX11,spX11,[hq_cd_M],[(315,0)],[],([],[]))
def q420_U : rfU := []
set_option maxHeartbeats 8000000 in
def q420_N : List rfB := [(0,([(0,.inr (.inl [70])),(1,.inl ((1,1,0),none)),(2,.inl ((1,1,0),none))],[],[((5,8),(0,0,0),some ((5,8),0,0)),((10,8),(0,0,0),some ((10,8),0,0))]),(55,[0]),0)]
set_option maxRecDepth 100000 in
theorem q420_ok : rf_chkB q420_P q420_U wLay q420_M ddX11_odds [(34,[0])] [.inl 7] [0] 53 q420_N = true := by decide +kernel
set_option maxHeartbeats 4000000 in
theorem q420_met {G : rfG} (h : okG G) : rf_met G q420_M := rf_methodB h.1 (P := q420_P) (U := q420_U) (N := q420_N) ⟨wflT h flokX11, wcsT h csokX11, wlcT h lcokX11, spokX11 h, List.forall_mem_cons.mpr ⟨hq_cd_met h, fun _ h => absurd h List.not_mem_nil⟩, List.forall_mem_cons.mpr ⟨fun M hM => Option.some.inj (show some hq_cd_M = some M from hM) ▸ wlkS (lkX11_315 h) hq_cd_M rfl rfl, fun _ h => absurd h List.not_mem_nil⟩, fun _ h => absurd h List.not_mem_nil, fun _ h => absurd h List.not_mem_nil, fun _ h => absurd h List.not_mem_nil⟩ dkX11_odds (by decide +kernel) (by rw [h.2.2.1]; exact q420_ok)
/-- NearSpellModel.odds -/
def q421_M : rfM := ((⟨"NearSpellModel", "odds", "(II)I"⟩, prog_14_method_115_code, 5, (some .int)), (3,124), ([.inr (.inl [114]),.inl ((1,1,0),none),.inl ((1,1,0),none)],[((78,0),(0,0,0),none),((114,28),(0,0,0),none)]), [], [(some (.inl ((1,1,1),none)),[],[])])
def q421_P : rfP := (flX12,csX12,lcX12,spX12,[q416_M,q413_M,q417_M,hq_dv100_M],[(334,0),(334,1),(477,2),(480,3)],[],([],[]))
def q421_U : rfU := []
set_option maxHeartbeats 8000000 in
def q421_N : List rfB := [(0,([(0,.inr (.inl [114])),(1,.inl ((1,1,0),none)),(2,.inl ((1,1,0),none))],[],[((78,0),(0,0,0),some ((78,0),0,0)),((114,28),(0,0,0),some ((114,28),0,0))]),(31,[]),0)]
set_option maxRecDepth 100000 in
theorem q421_ok : rf_chkB q421_P q421_U wLay q421_M ddX12_odds [(3,[0]),(12,[1]),(33,[2]),(40,[2]),(58,[3])] [] [0] 600 q421_N = true := by decide +kernel
set_option maxHeartbeats 4000000 in
theorem q421_met {G : rfG} (h : okG G) : rf_met G q421_M := rf_methodB h.1 (P := q421_P) (U := q421_U) (N := q421_N) ⟨wflT h flokX12, wcsT h csokX12, wlcT h lcokX12, spokX12 h, List.forall_mem_cons.mpr ⟨q416_met h, List.forall_mem_cons.mpr ⟨q413_met h, List.forall_mem_cons.mpr ⟨q417_met h, List.forall_mem_cons.mpr ⟨hq_dv100_met h, fun _ h => absurd h List.not_mem_nil⟩⟩⟩⟩, List.forall_mem_cons.mpr ⟨fun M hM => Option.some.inj (show some q416_M = some M from hM) ▸ wlkS (lkX12_334 h) q416_M rfl rfl, List.forall_mem_cons.mpr ⟨fun M hM => Option.some.inj (show some q413_M = some M from hM) ▸ wlkS (lkX12_334 h) q413_M rfl rfl, List.forall_mem_cons.mpr ⟨fun M hM => Option.some.inj (show some q417_M = some M from hM) ▸ wlkS (lkX12_477 h) q417_M rfl rfl, List.forall_mem_cons.mpr ⟨fun M hM => Option.some.inj (show some hq_dv100_M = some M from hM) ▸ wlkS (lkX12_480 h) hq_dv100_M rfl rfl, fun _ h => absurd h List.not_mem_nil⟩⟩⟩⟩, fun _ h => absurd h List.not_mem_nil, fun _ h => absurd h List.not_mem_nil, fun _ h => absurd h List.not_mem_nil⟩ dkX12_odds (by decide +kernel) (by rw [h.2.2.1]; exact q421_ok)
/-- NearSpell.odds -/
def q422_M : rfM := ((⟨"NearSpell", "odds", "(II)I"⟩, prog_1_method_39_code, 8, (some .int)), (3,125), ([.inr (.inl [70]),.inl ((2,2,0),none),.inl ((0,0,0),none)],[((5,8),(0,0,0),none),((10,8),(0,0,0),none)]), [], [(some (.inl ((1,1,0),none)),[],[])])
def q422_P : rfP := (flX11,csX11,lcX11,spX11,[hq_cd_M],[(315,0)],[],([],[]))
def q422_U : rfU := []
set_option maxHeartbeats 8000000 in
def q422_N : List rfB := [(0,([(0,.inr (.inl [70])),(1,.inl ((2,2,0),none)),(2,.inl ((0,0,0),none))],[],[((5,8),(0,0,0),some ((5,8),0,0)),((10,8),(0,0,0),some ((10,8),0,0))]),(66,[0]),0)]
set_option maxRecDepth 100000 in
theorem q422_ok : rf_chkB q422_P q422_U wLay q422_M ddX11_odds [(34,[0])] [.inl 7] [0] 63 q422_N = true := by decide +kernel
set_option maxHeartbeats 4000000 in
theorem q422_met {G : rfG} (h : okG G) : rf_met G q422_M := rf_methodB h.1 (P := q422_P) (U := q422_U) (N := q422_N) ⟨wflT h flokX11, wcsT h csokX11, wlcT h lcokX11, spokX11 h, List.forall_mem_cons.mpr ⟨hq_cd_met h, fun _ h => absurd h List.not_mem_nil⟩, List.forall_mem_cons.mpr ⟨fun M hM => Option.some.inj (show some hq_cd_M = some M from hM) ▸ wlkS (lkX11_315 h) hq_cd_M rfl rfl, fun _ h => absurd h List.not_mem_nil⟩, fun _ h => absurd h List.not_mem_nil, fun _ h => absurd h List.not_mem_nil, fun _ h => absurd h List.not_mem_nil⟩ dkX11_odds (by decide +kernel) (by rw [h.2.2.1]; exact q422_ok)
/-- NearSpellModel.isIn -/
def q423_M : rfM := ((⟨"NearSpellModel", "isIn", "(III)Z"⟩, prog_14_method_35_code, 3, (some .boolean)), (0,0), ([.inl ((2,2,0),none),.inl ((0,0,0),none),.inl ((4,4,0),none)],[]), [], [(some (.inl ((1,1,0),none)),[],[])])
def q423_P : rfP := (flX12,csX12,lcX12,spX12,[],[],[],([],[]))
def q423_U : rfU := []
set_option maxHeartbeats 8000000 in
def q423_N : List rfB := [(0,([(0,.inl ((2,2,0),none)),(1,.inl ((0,0,0),none)),(2,.inl ((4,4,0),none))],[],[]),(8,[]),0)]
set_option maxRecDepth 100000 in
theorem q423_ok : rf_chkB q423_P q423_U wLay q423_M ddX12_isIn [] [] [0] 600 q423_N = true := by decide +kernel
set_option maxHeartbeats 4000000 in
theorem q423_met {G : rfG} (h : okG G) : rf_met G q423_M := rf_methodB h.1 (P := q423_P) (U := q423_U) (N := q423_N) ⟨wflT h flokX12, wcsT h csokX12, wlcT h lcokX12, spokX12 h, fun _ h => absurd h List.not_mem_nil, fun _ h => absurd h List.not_mem_nil, fun _ h => absurd h List.not_mem_nil, fun _ h => absurd h List.not_mem_nil, fun _ h => absurd h List.not_mem_nil⟩ dkX12_isIn (by decide +kernel) (by rw [h.2.2.1]; exact q423_ok)
/-- NearSpellModel.power -/
def q424_M : rfM := ((⟨"NearSpellModel", "power", "(II)I"⟩, prog_14_method_39_code, 4, (some .int)), (0,0), ([.inl ((100,100,0),none),.inl ((2,2,0),none)],[]), [], [(some (.inl ((10000,10000,0),none)),[],[])])
def q424_P : rfP := (flX12,csX12,lcX12,spX12,[],[],[],([],[]))
def q424_U : rfU := []
set_option maxHeartbeats 8000000 in
def q424_N : List rfB := [(0,([(0,.inl ((100,100,0),none)),(1,.inl ((2,2,0),none))],[],[]),(26,[]),0)]
set_option maxRecDepth 100000 in
theorem q424_ok : rf_chkB q424_P q424_U wLay q424_M ddX12_power [] [] [0] 32 q424_N = true := by decide +kernel
set_option maxHeartbeats 4000000 in
theorem q424_met {G : rfG} (h : okG G) : rf_met G q424_M := rf_methodB h.1 (P := q424_P) (U := q424_U) (N := q424_N) ⟨wflT h flokX12, wcsT h csokX12, wlcT h lcokX12, spokX12 h, fun _ h => absurd h List.not_mem_nil, fun _ h => absurd h List.not_mem_nil, fun _ h => absurd h List.not_mem_nil, fun _ h => absurd h List.not_mem_nil, fun _ h => absurd h List.not_mem_nil⟩ dkX12_power (by decide +kernel) (by rw [h.2.2.1]; exact q424_ok)
/-- NearSpellModel.odds -/
def q426_M : rfM := ((⟨"NearSpellModel", "odds", "(II)I"⟩, prog_14_method_115_code, 5, (some .int)), (3,124), ([.inr (.inl [114]),.inl ((2,2,0),none),.inl ((0,0,0),none)],[((78,0),(0,0,0),none),((114,28),(0,0,0),none)]), [], [(some (.inl ((1,1,1),none)),[],[])])
def q426_P : rfP := (flX12,csX12,lcX12,spX12,[q423_M,q408_M,q424_M,hq_dv10000_M],[(334,0),(334,1),(477,2),(480,3)],[],([],[]))
def q426_U : rfU := []
set_option maxHeartbeats 8000000 in
def q426_N : List rfB := [(0,([(0,.inr (.inl [114])),(1,.inl ((2,2,0),none)),(2,.inl ((0,0,0),none))],[],[((78,0),(0,0,0),some ((78,0),0,0)),((114,28),(0,0,0),some ((114,28),0,0))]),(32,[]),0)]
set_option maxRecDepth 100000 in
theorem q426_ok : rf_chkB q426_P q426_U wLay q426_M ddX12_odds [(3,[0]),(12,[1]),(33,[2]),(40,[2]),(58,[3])] [] [0] 600 q426_N = true := by decide +kernel
set_option maxHeartbeats 4000000 in
theorem q426_met {G : rfG} (h : okG G) : rf_met G q426_M := rf_methodB h.1 (P := q426_P) (U := q426_U) (N := q426_N) ⟨wflT h flokX12, wcsT h csokX12, wlcT h lcokX12, spokX12 h, List.forall_mem_cons.mpr ⟨q423_met h, List.forall_mem_cons.mpr ⟨q408_met h, List.forall_mem_cons.mpr ⟨q424_met h, List.forall_mem_cons.mpr ⟨hq_dv10000_met h, fun _ h => absurd h List.not_mem_nil⟩⟩⟩⟩, List.forall_mem_cons.mpr ⟨fun M hM => Option.some.inj (show some q423_M = some M from hM) ▸ wlkS (lkX12_334 h) q423_M rfl rfl, List.forall_mem_cons.mpr ⟨fun M hM => Option.some.inj (show some q408_M = some M from hM) ▸ wlkS (lkX12_334 h) q408_M rfl rfl, List.forall_mem_cons.mpr ⟨fun M hM => Option.some.inj (show some q424_M = some M from hM) ▸ wlkS (lkX12_477 h) q424_M rfl rfl, List.forall_mem_cons.mpr ⟨fun M hM => Option.some.inj (show some hq_dv10000_M = some M from hM) ▸ wlkS (lkX12_480 h) hq_dv10000_M rfl rfl, fun _ h => absurd h List.not_mem_nil⟩⟩⟩⟩, fun _ h => absurd h List.not_mem_nil, fun _ h => absurd h List.not_mem_nil, fun _ h => absurd h List.not_mem_nil⟩ dkX12_odds (by decide +kernel) (by rw [h.2.2.1]; exact q426_ok)
/-- NearSpell.odds -/
def q427_M : rfM := ((⟨"NearSpell", "odds", "(II)I"⟩, prog_1_method_39_code, 8, (some .int)), (3,125), ([.inr (.inl [70]),.inl ((2,2,0),none),.inl ((1,1,0),none)],[((5,8),(0,0,0),none),((10,8),(0,0,0),none)]), [], [(some (.inl ((1,1,0),none)),[],[])])
def q427_P : rfP := (flX11,csX11,lcX11,spX11,[hq_cd_M],[(315,0)],[],([],[]))
def q427_U : rfU := []
set_option maxHeartbeats 8000000 in
def q427_N : List rfB := [(0,([(0,.inr (.inl [70])),(1,.inl ((2,2,0),none)),(2,.inl ((1,1,0),none))],[],[((5,8),(0,0,0),some ((5,8),0,0)),((10,8),(0,0,0),some ((10,8),0,0))]),(65,[0]),0)]
set_option maxRecDepth 100000 in
theorem q427_ok : rf_chkB q427_P q427_U wLay q427_M ddX11_odds [(34,[0])] [.inl 7] [0] 62 q427_N = true := by decide +kernel
set_option maxHeartbeats 4000000 in
theorem q427_met {G : rfG} (h : okG G) : rf_met G q427_M := rf_methodB h.1 (P := q427_P) (U := q427_U) (N := q427_N) ⟨wflT h flokX11, wcsT h csokX11, wlcT h lcokX11, spokX11 h, List.forall_mem_cons.mpr ⟨hq_cd_met h, fun _ h => absurd h List.not_mem_nil⟩, List.forall_mem_cons.mpr ⟨fun M hM => Option.some.inj (show some hq_cd_M = some M from hM) ▸ wlkS (lkX11_315 h) hq_cd_M rfl rfl, fun _ h => absurd h List.not_mem_nil⟩, fun _ h => absurd h List.not_mem_nil, fun _ h => absurd h List.not_mem_nil, fun _ h => absurd h List.not_mem_nil⟩ dkX11_odds (by decide +kernel) (by rw [h.2.2.1]; exact q427_ok)
/-- NearSpellModel.odds -/
def q428_M : rfM := ((⟨"NearSpellModel", "odds", "(II)I"⟩, prog_14_method_115_code, 5, (some .int)), (3,124), ([.inr (.inl [114]),.inl ((2,2,0),none),.inl ((1,1,0),none)],[((78,0),(0,0,0),none),((114,28),(0,0,0),none)]), [], [(some (.inl ((1,1,1),none)),[],[])])
def q428_P : rfP := (flX12,csX12,lcX12,spX12,[q423_M,q413_M,q424_M,hq_dv10000_M],[(334,0),(334,1),(477,2),(480,3)],[],([],[]))
def q428_U : rfU := []
set_option maxHeartbeats 8000000 in
def q428_N : List rfB := [(0,([(0,.inr (.inl [114])),(1,.inl ((2,2,0),none)),(2,.inl ((1,1,0),none))],[],[((78,0),(0,0,0),some ((78,0),0,0)),((114,28),(0,0,0),some ((114,28),0,0))]),(31,[]),0)]
set_option maxRecDepth 100000 in
theorem q428_ok : rf_chkB q428_P q428_U wLay q428_M ddX12_odds [(3,[0]),(12,[1]),(33,[2]),(40,[2]),(58,[3])] [] [0] 600 q428_N = true := by decide +kernel
set_option maxHeartbeats 4000000 in
theorem q428_met {G : rfG} (h : okG G) : rf_met G q428_M := rf_methodB h.1 (P := q428_P) (U := q428_U) (N := q428_N) ⟨wflT h flokX12, wcsT h csokX12, wlcT h lcokX12, spokX12 h, List.forall_mem_cons.mpr ⟨q423_met h, List.forall_mem_cons.mpr ⟨q413_met h, List.forall_mem_cons.mpr ⟨q424_met h, List.forall_mem_cons.mpr ⟨hq_dv10000_met h, fun _ h => absurd h List.not_mem_nil⟩⟩⟩⟩, List.forall_mem_cons.mpr ⟨fun M hM => Option.some.inj (show some q423_M = some M from hM) ▸ wlkS (lkX12_334 h) q423_M rfl rfl, List.forall_mem_cons.mpr ⟨fun M hM => Option.some.inj (show some q413_M = some M from hM) ▸ wlkS (lkX12_334 h) q413_M rfl rfl, List.forall_mem_cons.mpr ⟨fun M hM => Option.some.inj (show some q424_M = some M from hM) ▸ wlkS (lkX12_477 h) q424_M rfl rfl, List.forall_mem_cons.mpr ⟨fun M hM => Option.some.inj (show some hq_dv10000_M = some M from hM) ▸ wlkS (lkX12_480 h) hq_dv10000_M rfl rfl, fun _ h => absurd h List.not_mem_nil⟩⟩⟩⟩, fun _ h => absurd h List.not_mem_nil, fun _ h => absurd h List.not_mem_nil, fun _ h => absurd h List.not_mem_nil⟩ dkX12_odds (by decide +kernel) (by rw [h.2.2.1]; exact q428_ok)
/-- NearSpell.odds -/
def q429_M : rfM := ((⟨"NearSpell", "odds", "(II)I"⟩, prog_1_method_39_code, 8, (some .int)), (3,125), ([.inr (.inl [70]),.inl ((3,3,0),none),.inl ((0,0,0),none)],[((5,8),(0,0,0),none),((10,8),(0,0,0),none)]), [], [(some (.inl ((1,1,0),none)),[],[])])
def q429_P : rfP := (flX11,csX11,lcX11,spX11,[hq_cd_M],[(315,0)],[],([],[]))
def q429_U : rfU := []
set_option maxHeartbeats 8000000 in
def q429_N : List rfB := [(0,([(0,.inr (.inl [70])),(1,.inl ((3,3,0),none)),(2,.inl ((0,0,0),none))],[],[((5,8),(0,0,0),some ((5,8),0,0)),((10,8),(0,0,0),some ((10,8),0,0))]),(76,[0]),0)]
set_option maxRecDepth 100000 in
theorem q429_ok : rf_chkB q429_P q429_U wLay q429_M ddX11_odds [(34,[0])] [.inl 7] [0] 72 q429_N = true := by decide +kernel
set_option maxHeartbeats 4000000 in
theorem q429_met {G : rfG} (h : okG G) : rf_met G q429_M := rf_methodB h.1 (P := q429_P) (U := q429_U) (N := q429_N) ⟨wflT h flokX11, wcsT h csokX11, wlcT h lcokX11, spokX11 h, List.forall_mem_cons.mpr ⟨hq_cd_met h, fun _ h => absurd h List.not_mem_nil⟩, List.forall_mem_cons.mpr ⟨fun M hM => Option.some.inj (show some hq_cd_M = some M from hM) ▸ wlkS (lkX11_315 h) hq_cd_M rfl rfl, fun _ h => absurd h List.not_mem_nil⟩, fun _ h => absurd h List.not_mem_nil, fun _ h => absurd h List.not_mem_nil, fun _ h => absurd h List.not_mem_nil⟩ dkX11_odds (by decide +kernel) (by rw [h.2.2.1]; exact q429_ok)
/-- NearSpellModel.isIn -/
def q430_M : rfM := ((⟨"NearSpellModel", "isIn", "(III)Z"⟩, prog_14_method_35_code, 3, (some .boolean)), (0,0), ([.inl ((3,3,0),none),.inl ((0,0,0),none),.inl ((4,4,0),none)],[]), [], [(some (.inl ((1,1,0),none)),[],[])])
def q430_P : rfP := (flX12,csX12,lcX12,spX12,[],[],[],([],[]))
def q430_U : rfU := []
set_option maxHeartbeats 8000000 in
def q430_N : List rfB := [(0,([(0,.inl ((3,3,0),none)),(1,.inl ((0,0,0),none)),(2,.inl ((4,4,0),none))],[],[]),(8,[]),0)]
set_option maxRecDepth 100000 in
theorem q430_ok : rf_chkB q430_P q430_U wLay q430_M ddX12_isIn [] [] [0] 600 q430_N = true := by decide +kernel
set_option maxHeartbeats 4000000 in
theorem q430_met {G : rfG} (h : okG G) : rf_met G q430_M := rf_methodB h.1 (P := q430_P) (U := q430_U) (N := q430_N) ⟨wflT h flokX12, wcsT h csokX12, wlcT h lcokX12, spokX12 h, fun _ h => absurd h List.not_mem_nil, fun _ h => absurd h List.not_mem_nil, fun _ h => absurd h List.not_mem_nil, fun _ h => absurd h List.not_mem_nil, fun _ h => absurd h List.not_mem_nil⟩ dkX12_isIn (by decide +kernel) (by rw [h.2.2.1]; exact q430_ok)
/-- NearSpellModel.power -/
def q431_M : rfM := ((⟨"NearSpellModel", "power", "(II)I"⟩, prog_14_method_39_code, 4, (some .int)), (0,0), ([.inl ((100,100,0),none),.inl ((3,3,0),none)],[]), [], [(some (.inl ((1000000,1000000,0),none)),[],[])])
def q431_P : rfP := (flX12,csX12,lcX12,spX12,[],[],[],([],[]))
def q431_U : rfU := []
set_option maxHeartbeats 8000000 in
def q431_N : List rfB := [(0,([(0,.inl ((100,100,0),none)),(1,.inl ((3,3,0),none))],[],[]),(35,[]),0)]
set_option maxRecDepth 100000 in
theorem q431_ok : rf_chkB q431_P q431_U wLay q431_M ddX12_power [] [] [0] 41 q431_N = true := by decide +kernel
set_option maxHeartbeats 4000000 in
theorem q431_met {G : rfG} (h : okG G) : rf_met G q431_M := rf_methodB h.1 (P := q431_P) (U := q431_U) (N := q431_N) ⟨wflT h flokX12, wcsT h csokX12, wlcT h lcokX12, spokX12 h, fun _ h => absurd h List.not_mem_nil, fun _ h => absurd h List.not_mem_nil, fun _ h => absurd h List.not_mem_nil, fun _ h => absurd h List.not_mem_nil, fun _ h => absurd h List.not_mem_nil⟩ dkX12_power (by decide +kernel) (by rw [h.2.2.1]; exact q431_ok)
/-- NearSpellModel.odds -/
def q433_M : rfM := ((⟨"NearSpellModel", "odds", "(II)I"⟩, prog_14_method_115_code, 5, (some .int)), (3,124), ([.inr (.inl [114]),.inl ((3,3,0),none),.inl ((0,0,0),none)],[((78,0),(0,0,0),none),((114,28),(0,0,0),none)]), [], [(some (.inl ((1,1,1),none)),[],[])])
def q433_P : rfP := (flX12,csX12,lcX12,spX12,[q430_M,q408_M,q431_M,hq_dv1000000_M],[(334,0),(334,1),(477,2),(480,3)],[],([],[]))
def q433_U : rfU := []
set_option maxHeartbeats 8000000 in
def q433_N : List rfB := [(0,([(0,.inr (.inl [114])),(1,.inl ((3,3,0),none)),(2,.inl ((0,0,0),none))],[],[((78,0),(0,0,0),some ((78,0),0,0)),((114,28),(0,0,0),some ((114,28),0,0))]),(32,[]),0)]
set_option maxRecDepth 100000 in
theorem q433_ok : rf_chkB q433_P q433_U wLay q433_M ddX12_odds [(3,[0]),(12,[1]),(33,[2]),(40,[2]),(58,[3])] [] [0] 600 q433_N = true := by decide +kernel
set_option maxHeartbeats 4000000 in
theorem q433_met {G : rfG} (h : okG G) : rf_met G q433_M := rf_methodB h.1 (P := q433_P) (U := q433_U) (N := q433_N) ⟨wflT h flokX12, wcsT h csokX12, wlcT h lcokX12, spokX12 h, List.forall_mem_cons.mpr ⟨q430_met h, List.forall_mem_cons.mpr ⟨q408_met h, List.forall_mem_cons.mpr ⟨q431_met h, List.forall_mem_cons.mpr ⟨hq_dv1000000_met h, fun _ h => absurd h List.not_mem_nil⟩⟩⟩⟩, List.forall_mem_cons.mpr ⟨fun M hM => Option.some.inj (show some q430_M = some M from hM) ▸ wlkS (lkX12_334 h) q430_M rfl rfl, List.forall_mem_cons.mpr ⟨fun M hM => Option.some.inj (show some q408_M = some M from hM) ▸ wlkS (lkX12_334 h) q408_M rfl rfl, List.forall_mem_cons.mpr ⟨fun M hM => Option.some.inj (show some q431_M = some M from hM) ▸ wlkS (lkX12_477 h) q431_M rfl rfl, List.forall_mem_cons.mpr ⟨fun M hM => Option.some.inj (show some hq_dv1000000_M = some M from hM) ▸ wlkS (lkX12_480 h) hq_dv1000000_M rfl rfl, fun _ h => absurd h List.not_mem_nil⟩⟩⟩⟩, fun _ h => absurd h List.not_mem_nil, fun _ h => absurd h List.not_mem_nil, fun _ h => absurd h List.not_mem_nil⟩ dkX12_odds (by decide +kernel) (by rw [h.2.2.1]; exact q433_ok)
/-- NearSpell.odds -/
def q434_M : rfM := ((⟨"NearSpell", "odds", "(II)I"⟩, prog_1_method_39_code, 8, (some .int)), (3,125), ([.inr (.inl [70]),.inl ((3,3,0),none),.inl ((1,1,0),none)],[((5,8),(0,0,0),none),((10,8),(0,0,0),none)]), [], [(some (.inl ((1,1,0),none)),[],[])])
def q434_P : rfP := (flX11,csX11,lcX11,spX11,[hq_cd_M],[(315,0)],[],([],[]))
def q434_U : rfU := []
set_option maxHeartbeats 8000000 in
def q434_N : List rfB := [(0,([(0,.inr (.inl [70])),(1,.inl ((3,3,0),none)),(2,.inl ((1,1,0),none))],[],[((5,8),(0,0,0),some ((5,8),0,0)),((10,8),(0,0,0),some ((10,8),0,0))]),(75,[0]),0)]
set_option maxRecDepth 100000 in
theorem q434_ok : rf_chkB q434_P q434_U wLay q434_M ddX11_odds [(34,[0])] [.inl 7] [0] 71 q434_N = true := by decide +kernel
set_option maxHeartbeats 4000000 in
theorem q434_met {G : rfG} (h : okG G) : rf_met G q434_M := rf_methodB h.1 (P := q434_P) (U := q434_U) (N := q434_N) ⟨wflT h flokX11, wcsT h csokX11, wlcT h lcokX11, spokX11 h, List.forall_mem_cons.mpr ⟨hq_cd_met h, fun _ h => absurd h List.not_mem_nil⟩, List.forall_mem_cons.mpr ⟨fun M hM => Option.some.inj (show some hq_cd_M = some M from hM) ▸ wlkS (lkX11_315 h) hq_cd_M rfl rfl, fun _ h => absurd h List.not_mem_nil⟩, fun _ h => absurd h List.not_mem_nil, fun _ h => absurd h List.not_mem_nil, fun _ h => absurd h List.not_mem_nil⟩ dkX11_odds (by decide +kernel) (by rw [h.2.2.1]; exact q434_ok)
/-- NearSpellModel.odds -/
def q435_M : rfM := ((⟨"NearSpellModel", "odds", "(II)I"⟩, prog_14_method_115_code, 5, (some .int)), (3,124), ([.inr (.inl [114]),.inl ((3,3,0),none),.inl ((1,1,0),none)],[((78,0),(0,0,0),none),((114,28),(0,0,0),none)]), [], [(some (.inl ((1,1,1),none)),[],[])])
def q435_P : rfP := (flX12,csX12,lcX12,spX12,[q430_M,q413_M,q431_M,hq_dv1000000_M],[(334,0),(334,1),(477,2),(480,3)],[],([],[]))
def q435_U : rfU := []
set_option maxHeartbeats 8000000 in
def q435_N : List rfB := [(0,([(0,.inr (.inl [114])),(1,.inl ((3,3,0),none)),(2,.inl ((1,1,0),none))],[],[((78,0),(0,0,0),some ((78,0),0,0)),((114,28),(0,0,0),some ((114,28),0,0))]),(31,[]),0)]
set_option maxRecDepth 100000 in
theorem q435_ok : rf_chkB q435_P q435_U wLay q435_M ddX12_odds [(3,[0]),(12,[1]),(33,[2]),(40,[2]),(58,[3])] [] [0] 600 q435_N = true := by decide +kernel
set_option maxHeartbeats 4000000 in
theorem q435_met {G : rfG} (h : okG G) : rf_met G q435_M := rf_methodB h.1 (P := q435_P) (U := q435_U) (N := q435_N) ⟨wflT h flokX12, wcsT h csokX12, wlcT h lcokX12, spokX12 h, List.forall_mem_cons.mpr ⟨q430_met h, List.forall_mem_cons.mpr ⟨q413_met h, List.forall_mem_cons.mpr ⟨q431_met h, List.forall_mem_cons.mpr ⟨hq_dv1000000_met h, fun _ h => absurd h List.not_mem_nil⟩⟩⟩⟩, List.forall_mem_cons.mpr ⟨fun M hM => Option.some.inj (show some q430_M = some M from hM) ▸ wlkS (lkX12_334 h) q430_M rfl rfl, List.forall_mem_cons.mpr ⟨fun M hM => Option.some.inj (show some q413_M = some M from hM) ▸ wlkS (lkX12_334 h) q413_M rfl rfl, List.forall_mem_cons.mpr ⟨fun M hM => Option.some.inj (show some q431_M = some M from hM) ▸ wlkS (lkX12_477 h) q431_M rfl rfl, List.forall_mem_cons.mpr ⟨fun M hM => Option.some.inj (show some hq_dv1000000_M = some M from hM) ▸ wlkS (lkX12_480 h) hq_dv1000000_M rfl rfl, fun _ h => absurd h List.not_mem_nil⟩⟩⟩⟩, fun _ h => absurd h List.not_mem_nil, fun _ h => absurd h List.not_mem_nil, fun _ h => absurd h List.not_mem_nil⟩ dkX12_odds (by decide +kernel) (by rw [h.2.2.1]; exact q435_ok)
/-- NearSpell.odds -/
def q436_M : rfM := ((⟨"NearSpell", "odds", "(II)I"⟩, prog_1_method_39_code, 8, (some .int)), (3,125), ([.inr (.inl [70]),.inl ((4,4,0),none),.inl ((0,0,0),none)],[((5,8),(0,0,0),none),((10,8),(0,0,0),none)]), [], [(some (.inl ((1,1,0),none)),[],[])])
def q436_P : rfP := (flX11,csX11,lcX11,spX11,[hq_cd_M],[(315,0)],[],([],[]))
def q436_U : rfU := []
set_option maxHeartbeats 8000000 in
def q436_N : List rfB := [(0,([(0,.inr (.inl [70])),(1,.inl ((4,4,0),none)),(2,.inl ((0,0,0),none))],[],[((5,8),(0,0,0),some ((5,8),0,0)),((10,8),(0,0,0),some ((10,8),0,0))]),(86,[0]),0)]
set_option maxRecDepth 100000 in
theorem q436_ok : rf_chkB q436_P q436_U wLay q436_M ddX11_odds [(34,[0])] [.inl 7] [0] 81 q436_N = true := by decide +kernel
set_option maxHeartbeats 4000000 in
theorem q436_met {G : rfG} (h : okG G) : rf_met G q436_M := rf_methodB h.1 (P := q436_P) (U := q436_U) (N := q436_N) ⟨wflT h flokX11, wcsT h csokX11, wlcT h lcokX11, spokX11 h, List.forall_mem_cons.mpr ⟨hq_cd_met h, fun _ h => absurd h List.not_mem_nil⟩, List.forall_mem_cons.mpr ⟨fun M hM => Option.some.inj (show some hq_cd_M = some M from hM) ▸ wlkS (lkX11_315 h) hq_cd_M rfl rfl, fun _ h => absurd h List.not_mem_nil⟩, fun _ h => absurd h List.not_mem_nil, fun _ h => absurd h List.not_mem_nil, fun _ h => absurd h List.not_mem_nil⟩ dkX11_odds (by decide +kernel) (by rw [h.2.2.1]; exact q436_ok)
/-- NearSpellModel.isIn -/
def q437_M : rfM := ((⟨"NearSpellModel", "isIn", "(III)Z"⟩, prog_14_method_35_code, 3, (some .boolean)), (0,0), ([.inl ((4,4,0),none),.inl ((0,0,0),none),.inl ((4,4,0),none)],[]), [], [(some (.inl ((1,1,0),none)),[],[])])
def q437_P : rfP := (flX12,csX12,lcX12,spX12,[],[],[],([],[]))
def q437_U : rfU := []
set_option maxHeartbeats 8000000 in
def q437_N : List rfB := [(0,([(0,.inl ((4,4,0),none)),(1,.inl ((0,0,0),none)),(2,.inl ((4,4,0),none))],[],[]),(8,[]),0)]
set_option maxRecDepth 100000 in
theorem q437_ok : rf_chkB q437_P q437_U wLay q437_M ddX12_isIn [] [] [0] 600 q437_N = true := by decide +kernel
set_option maxHeartbeats 4000000 in
theorem q437_met {G : rfG} (h : okG G) : rf_met G q437_M := rf_methodB h.1 (P := q437_P) (U := q437_U) (N := q437_N) ⟨wflT h flokX12, wcsT h csokX12, wlcT h lcokX12, spokX12 h, fun _ h => absurd h List.not_mem_nil, fun _ h => absurd h List.not_mem_nil, fun _ h => absurd h List.not_mem_nil, fun _ h => absurd h List.not_mem_nil, fun _ h => absurd h List.not_mem_nil⟩ dkX12_isIn (by decide +kernel) (by rw [h.2.2.1]; exact q437_ok)
/-- NearSpellModel.power -/
def q438_M : rfM := ((⟨"NearSpellModel", "power", "(II)I"⟩, prog_14_method_39_code, 4, (some .int)), (0,0), ([.inl ((100,100,0),none),.inl ((4,4,0),none)],[]), [], [(some (.inl ((100000000,100000000,0),none)),[],[])])
def q438_P : rfP := (flX12,csX12,lcX12,spX12,[],[],[],([],[]))
def q438_U : rfU := []
set_option maxHeartbeats 8000000 in
def q438_N : List rfB := [(0,([(0,.inl ((100,100,0),none)),(1,.inl ((4,4,0),none))],[],[]),(44,[]),0)]
set_option maxRecDepth 100000 in
theorem q438_ok : rf_chkB q438_P q438_U wLay q438_M ddX12_power [] [] [0] 50 q438_N = true := by decide +kernel
set_option maxHeartbeats 4000000 in
theorem q438_met {G : rfG} (h : okG G) : rf_met G q438_M := rf_methodB h.1 (P := q438_P) (U := q438_U) (N := q438_N) ⟨wflT h flokX12, wcsT h csokX12, wlcT h lcokX12, spokX12 h, fun _ h => absurd h List.not_mem_nil, fun _ h => absurd h List.not_mem_nil, fun _ h => absurd h List.not_mem_nil, fun _ h => absurd h List.not_mem_nil, fun _ h => absurd h List.not_mem_nil⟩ dkX12_power (by decide +kernel) (by rw [h.2.2.1]; exact q438_ok)
/-- NearSpellModel.odds -/
def q440_M : rfM := ((⟨"NearSpellModel", "odds", "(II)I"⟩, prog_14_method_115_code, 5, (some .int)), (3,124), ([.inr (.inl [114]),.inl ((4,4,0),none),.inl ((0,0,0),none)],[((78,0),(0,0,0),none),((114,28),(0,0,0),none)]), [], [(some (.inl ((1,1,1),none)),[],[])])
def q440_P : rfP := (flX12,csX12,lcX12,spX12,[q437_M,q408_M,q438_M,hq_dv100000000_M],[(334,0),(334,1),(477,2),(480,3)],[],([],[]))
def q440_U : rfU := []
set_option maxHeartbeats 8000000 in
def q440_N : List rfB := [(0,([(0,.inr (.inl [114])),(1,.inl ((4,4,0),none)),(2,.inl ((0,0,0),none))],[],[((78,0),(0,0,0),some ((78,0),0,0)),((114,28),(0,0,0),some ((114,28),0,0))]),(32,[]),0)]
set_option maxRecDepth 100000 in
theorem q440_ok : rf_chkB q440_P q440_U wLay q440_M ddX12_odds [(3,[0]),(12,[1]),(33,[2]),(40,[2]),(58,[3])] [] [0] 600 q440_N = true := by decide +kernel
set_option maxHeartbeats 4000000 in
theorem q440_met {G : rfG} (h : okG G) : rf_met G q440_M := rf_methodB h.1 (P := q440_P) (U := q440_U) (N := q440_N) ⟨wflT h flokX12, wcsT h csokX12, wlcT h lcokX12, spokX12 h, List.forall_mem_cons.mpr ⟨q437_met h, List.forall_mem_cons.mpr ⟨q408_met h, List.forall_mem_cons.mpr ⟨q438_met h, List.forall_mem_cons.mpr ⟨hq_dv100000000_met h, fun _ h => absurd h List.not_mem_nil⟩⟩⟩⟩, List.forall_mem_cons.mpr ⟨fun M hM => Option.some.inj (show some q437_M = some M from hM) ▸ wlkS (lkX12_334 h) q437_M rfl rfl, List.forall_mem_cons.mpr ⟨fun M hM => Option.some.inj (show some q408_M = some M from hM) ▸ wlkS (lkX12_334 h) q408_M rfl rfl, List.forall_mem_cons.mpr ⟨fun M hM => Option.some.inj (show some q438_M = some M from hM) ▸ wlkS (lkX12_477 h) q438_M rfl rfl, List.forall_mem_cons.mpr ⟨fun M hM => Option.some.inj (show some hq_dv100000000_M = some M from hM) ▸ wlkS (lkX12_480 h) hq_dv100000000_M rfl rfl, fun _ h => absurd h List.not_mem_nil⟩⟩⟩⟩, fun _ h => absurd h List.not_mem_nil, fun _ h => absurd h List.not_mem_nil, fun _ h => absurd h List.not_mem_nil⟩ dkX12_odds (by decide +kernel) (by rw [h.2.2.1]; exact q440_ok)
