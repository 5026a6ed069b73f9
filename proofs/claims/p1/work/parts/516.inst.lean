/-- NearSpellModel.layStore -/
def q385_M : rfM := ((⟨"NearSpellModel", "layStore", "(I)I"⟩, prog_14_method_51_code, 5, (some .int)), (2,43), ([.inr (.inl [114]),.inl ((0,0,0),none)],[((75,0),(4,4,0),none),((90,28),(0,0,0),none),((90,29),(0,0,0),none),((90,36),(0,0,0),none),((114,28),(0,0,0),none),((114,39),(0,0,0),none)]), [(93,0)], [(some (.inl ((0,0,0),none)),[],[])])
def q385_P : rfP := (flX12,csX12,lcX12,spX12,[q68_M],[],[(350,0,12)],([],[]))
def q385_U : rfU := []
set_option maxHeartbeats 8000000 in
def q385_N : List rfB := [(0,([(0,.inr (.inl [114])),(1,.inl ((0,0,0),none))],[],[((75,0),(4,4,0),some ((75,0),0,0)),((90,28),(0,0,0),some ((90,28),0,0)),((90,29),(0,0,0),some ((90,29),0,0)),((90,36),(0,0,0),some ((90,36),0,0)),((114,28),(0,0,0),some ((114,28),0,0)),((114,39),(0,0,0),some ((114,39),0,0))]),(245,[0]),0)]
set_option maxRecDepth 100000 in
theorem q385_ok : rf_chkB q385_P q385_U wLay q385_M ddX12_layStore [(19,[0])] [.inl 3] [0] 224 q385_N = true := by decide +kernel
set_option maxHeartbeats 4000000 in
theorem q385_met {G : rfG} (h : okG G) : rf_met G q385_M := rf_methodB h.1 (P := q385_P) (U := q385_U) (N := q385_N) ⟨wflT h flokX12, wcsT h csokX12, wlcT h lcokX12, spokX12 h, List.forall_mem_cons.mpr ⟨q68_met h, fun _ h => absurd h List.not_mem_nil⟩, fun _ h => absurd h List.not_mem_nil, List.forall_mem_cons.mpr ⟨fun M hM => Option.some.inj (show some q68_M = some M from hM) ▸ wlkV (lkX12_350 h) q68_M rfl rfl, fun _ h => absurd h List.not_mem_nil⟩, fun _ h => absurd h List.not_mem_nil, fun _ h => absurd h List.not_mem_nil⟩ dkX12_layStore (by decide +kernel) (by rw [h.2.2.1]; exact q385_ok)
/-- NearSpellModel.law -/
def q386_M : rfM := ((⟨"NearSpellModel", "law", "(I)I"⟩, prog_14_method_101_code, 2, (some .int)), (3,67), ([.inr (.inl [114]),.inl ((0,0,0),none)],[((75,0),(4,4,0),none),((90,28),(0,0,0),none),((90,29),(0,0,0),none),((90,36),(0,0,0),none),((114,28),(0,0,0),none),((114,39),(0,0,0),none)]), [(93,0)], [(some (.inl ((0,0,0),none)),[],[])])
def q386_P : rfP := (flX12,csX12,lcX12,spX12,[q173_M,q385_M],[(334,0)],[(375,1,12)],([],[]))
def q386_U : rfU := []
set_option maxHeartbeats 8000000 in
def q386_N : List rfB := [(0,([(0,.inr (.inl [114])),(1,.inl ((0,0,0),none))],[],[((75,0),(4,4,0),some ((75,0),0,0)),((90,28),(0,0,0),some ((90,28),0,0)),((90,29),(0,0,0),some ((90,29),0,0)),((90,36),(0,0,0),some ((90,36),0,0)),((114,28),(0,0,0),some ((114,28),0,0)),((114,39),(0,0,0),some ((114,39),0,0))]),(9,[]),0)]
set_option maxRecDepth 100000 in
theorem q386_ok : rf_chkB q386_P q386_U wLay q386_M ddX12_law [(3,[0]),(11,[1])] [] [0] 600 q386_N = true := by decide +kernel
set_option maxHeartbeats 4000000 in
theorem q386_met {G : rfG} (h : okG G) : rf_met G q386_M := rf_methodB h.1 (P := q386_P) (U := q386_U) (N := q386_N) ⟨wflT h flokX12, wcsT h csokX12, wlcT h lcokX12, spokX12 h, List.forall_mem_cons.mpr ⟨q173_met h, List.forall_mem_cons.mpr ⟨q385_met h, fun _ h => absurd h List.not_mem_nil⟩⟩, List.forall_mem_cons.mpr ⟨fun M hM => Option.some.inj (show some q173_M = some M from hM) ▸ wlkS (lkX12_334 h) q173_M rfl rfl, fun _ h => absurd h List.not_mem_nil⟩, List.forall_mem_cons.mpr ⟨fun M hM => Option.some.inj (show some q385_M = some M from hM) ▸ wlkV (lkX12_375 h) q385_M rfl rfl, fun _ h => absurd h List.not_mem_nil⟩, fun _ h => absurd h List.not_mem_nil, fun _ h => absurd h List.not_mem_nil⟩ dkX12_law (by decide +kernel) (by rw [h.2.2.1]; exact q386_ok)
/-- NearSpell.Laid.countAll -/
def q387_M : rfM := ((⟨"NearSpell$Laid", "countAll", "(I)I"⟩, prog_6_method_7_code, 4, (some .int)), (1,20), ([.inr (.inl [53]),.inl ((1,1,0),none)],[((5,5),(4,4,0),none),((10,5),(4,4,0),none),((12,34),(0,0,0),none),((12,35),(0,0,0),none),((12,36),(0,0,0),none)]), [], [(some (.inl ((0,0,0),none)),[],[])])
def q387_P : rfP := (flX4,csX4,lcX4,spX4,[q46_M],[],[(57,0,8)],([],[]))
def q387_U : rfU := []
set_option maxHeartbeats 8000000 in
def q387_N : List rfB := [(0,([(0,.inr (.inl [53])),(1,.inl ((1,1,0),none))],[],[((5,5),(4,4,0),some ((5,5),0,0)),((10,5),(4,4,0),some ((10,5),0,0)),((12,34),(0,0,0),some ((12,34),0,0)),((12,35),(0,0,0),some ((12,35),0,0)),((12,36),(0,0,0),some ((12,36),0,0))]),(10,[]),0)]
set_option maxRecDepth 100000 in
theorem q387_ok : rf_chkB q387_P q387_U wLay q387_M ddX4_countAll [(9,[0])] [] [0] 600 q387_N = true := by decide +kernel
set_option maxHeartbeats 4000000 in
theorem q387_met {G : rfG} (h : okG G) : rf_met G q387_M := rf_methodB h.1 (P := q387_P) (U := q387_U) (N := q387_N) ⟨wflT h flokX4, wcsT h csokX4, wlcT h lcokX4, spokX4 h, List.forall_mem_cons.mpr ⟨q46_met h, fun _ h => absurd h List.not_mem_nil⟩, fun _ h => absurd h List.not_mem_nil, List.forall_mem_cons.mpr ⟨fun M hM => Option.some.inj (show some q46_M = some M from hM) ▸ wlkV (lkX4_57 h) q46_M rfl rfl, fun _ h => absurd h List.not_mem_nil⟩, fun _ h => absurd h List.not_mem_nil, fun _ h => absurd h List.not_mem_nil⟩ dkX4_countAll (by decide +kernel) (by rw [h.2.2.1]; exact q387_ok)
/-- NearSpell.law -/
def q388_M : rfM := ((⟨"NearSpell", "law", "(I)I"⟩, prog_1_method_38_code, 2, (some .int)), (2,43), ([.inr (.inl [70]),.inl ((1,1,0),none)],[((5,5),(4,4,0),none),((10,5),(4,4,0),none),((12,34),(0,0,0),none),((12,35),(0,0,0),none),((12,36),(0,0,0),none)]), [], [(some (.inl ((0,0,0),none)),[],[])])
def q388_P : rfP := (flX11,csX11,lcX11,spX11,[q387_M],[],[(306,0,4)],([],[]))
def q388_U : rfU := []
set_option maxHeartbeats 8000000 in
def q388_N : List rfB := [(0,([(0,.inr (.inl [70])),(1,.inl ((1,1,0),none))],[],[((5,5),(4,4,0),some ((5,5),0,0)),((10,5),(4,4,0),some ((10,5),0,0)),((12,34),(0,0,0),some ((12,34),0,0)),((12,35),(0,0,0),some ((12,35),0,0)),((12,36),(0,0,0),some ((12,36),0,0))]),(10,[]),0)]
set_option maxRecDepth 100000 in
theorem q388_ok : rf_chkB q388_P q388_U wLay q388_M ddX11_law [(14,[0])] [] [0] 600 q388_N = true := by decide +kernel
set_option maxHeartbeats 4000000 in
theorem q388_met {G : rfG} (h : okG G) : rf_met G q388_M := rf_methodB h.1 (P := q388_P) (U := q388_U) (N := q388_N) ⟨wflT h flokX11, wcsT h csokX11, wlcT h lcokX11, spokX11 h, List.forall_mem_cons.mpr ⟨q387_met h, fun _ h => absurd h List.not_mem_nil⟩, fun _ h => absurd h List.not_mem_nil, List.forall_mem_cons.mpr ⟨fun M hM => Option.some.inj (show some q387_M = some M from hM) ▸ wlkV (lkX11_306 h) q387_M rfl rfl, fun _ h => absurd h List.not_mem_nil⟩, fun _ h => absurd h List.not_mem_nil, fun _ h => absurd h List.not_mem_nil⟩ dkX11_law (by decide +kernel) (by rw [h.2.2.1]; exact q388_ok)
/-- NearSpellModel.layStore -/
def q389_M : rfM := ((⟨"NearSpellModel", "layStore", "(I)I"⟩, prog_14_method_51_code, 5, (some .int)), (2,43), ([.inr (.inl [114]),.inl ((1,1,0),none)],[((75,0),(4,4,0),none),((90,28),(0,0,0),none),((90,29),(0,0,0),none),((90,36),(0,0,0),none),((114,28),(0,0,0),none),((114,39),(0,0,0),none)]), [(93,0)], [(some (.inl ((0,0,0),none)),[],[])])
def q389_P : rfP := (flX12,csX12,lcX12,spX12,[q68_M],[],[(350,0,12)],([],[]))
def q389_U : rfU := []
set_option maxHeartbeats 8000000 in
def q389_N : List rfB := [(0,([(0,.inr (.inl [114])),(1,.inl ((1,1,0),none))],[],[((75,0),(4,4,0),some ((75,0),0,0)),((90,28),(0,0,0),some ((90,28),0,0)),((90,29),(0,0,0),some ((90,29),0,0)),((90,36),(0,0,0),some ((90,36),0,0)),((114,28),(0,0,0),some ((114,28),0,0)),((114,39),(0,0,0),some ((114,39),0,0))]),(245,[0]),0)]
set_option maxRecDepth 100000 in
theorem q389_ok : rf_chkB q389_P q389_U wLay q389_M ddX12_layStore [(19,[0])] [.inl 3] [0] 224 q389_N = true := by decide +kernel
set_option maxHeartbeats 4000000 in
theorem q389_met {G : rfG} (h : okG G) : rf_met G q389_M := rf_methodB h.1 (P := q389_P) (U := q389_U) (N := q389_N) ⟨wflT h flokX12, wcsT h csokX12, wlcT h lcokX12, spokX12 h, List.forall_mem_cons.mpr ⟨q68_met h, fun _ h => absurd h List.not_mem_nil⟩, fun _ h => absurd h List.not_mem_nil, List.forall_mem_cons.mpr ⟨fun M hM => Option.some.inj (show some q68_M = some M from hM) ▸ wlkV (lkX12_350 h) q68_M rfl rfl, fun _ h => absurd h List.not_mem_nil⟩, fun _ h => absurd h List.not_mem_nil, fun _ h => absurd h List.not_mem_nil⟩ dkX12_layStore (by decide +kernel) (by rw [h.2.2.1]; exact q389_ok)
/-- NearSpellModel.law -/
def q390_M : rfM := ((⟨"NearSpellModel", "law", "(I)I"⟩, prog_14_method_101_code, 2, (some .int)), (3,67), ([.inr (.inl [114]),.inl ((1,1,0),none)],[((75,0),(4,4,0),none),((90,28),(0,0,0),none),((90,29),(0,0,0),none),((90,36),(0,0,0),none),((114,28),(0,0,0),none),((114,39),(0,0,0),none)]), [(93,0)], [(some (.inl ((0,0,0),none)),[],[])])
def q390_P : rfP := (flX12,csX12,lcX12,spX12,[q179_M,q389_M],[(334,0)],[(375,1,12)],([],[]))
def q390_U : rfU := []
set_option maxHeartbeats 8000000 in
def q390_N : List rfB := [(0,([(0,.inr (.inl [114])),(1,.inl ((1,1,0),none))],[],[((75,0),(4,4,0),some ((75,0),0,0)),((90,28),(0,0,0),some ((90,28),0,0)),((90,29),(0,0,0),some ((90,29),0,0)),((90,36),(0,0,0),some ((90,36),0,0)),((114,28),(0,0,0),some ((114,28),0,0)),((114,39),(0,0,0),some ((114,39),0,0))]),(9,[]),0)]
set_option maxRecDepth 100000 in
theorem q390_ok : rf_chkB q390_P q390_U wLay q390_M ddX12_law [(3,[0]),(11,[1])] [] [0] 600 q390_N = true := by decide +kernel
set_option maxHeartbeats 4000000 in
theorem q390_met {G : rfG} (h : okG G) : rf_met G q390_M := rf_methodB h.1 (P := q390_P) (U := q390_U) (N := q390_N) ⟨wflT h flokX12, wcsT h csokX12, wlcT h lcokX12, spokX12 h, List.forall_mem_cons.mpr ⟨q179_met h, List.forall_mem_cons.mpr ⟨q389_met h, fun _ h => absurd h List.not_mem_nil⟩⟩, List.forall_mem_cons.mpr ⟨fun M hM => Option.some.inj (show some q179_M = some M from hM) ▸ wlkS (lkX12_334 h) q179_M rfl rfl, fun _ h => absurd h List.not_mem_nil⟩, List.forall_mem_cons.mpr ⟨fun M hM => Option.some.inj (show some q389_M = some M from hM) ▸ wlkV (lkX12_375 h) q389_M rfl rfl, fun _ h => absurd h List.not_mem_nil⟩, fun _ h => absurd h List.not_mem_nil, fun _ h => absurd h List.not_mem_nil⟩ dkX12_law (by decide +kernel) (by rw [h.2.2.1]; exact q390_ok)
/-- NearSpell.law -/
def q391_M : rfM := ((⟨"NearSpell", "law", "(I)I"⟩, prog_1_method_38_code, 2, (some .int)), (2,43), ([.inr (.inl [70]),.inl ((2,2,0),none)],[((5,5),(4,4,0),none),((10,5),(4,4,0),none),((12,34),(0,0,0),none),((12,35),(0,0,0),none),((12,36),(0,0,0),none)]), [], [(some (.inl ((0,0,0),none)),[],[])])
def q391_P : rfP := (flX11,csX11,lcX11,spX11,[q371_M],[],[(306,0,4)],([],[]))
def q391_U : rfU := []
set_option maxHeartbeats 8000000 in
def q391_N : List rfB := [(0,([(0,.inr (.inl [70])),(1,.inl ((2,2,0),none))],[],[((5,5),(4,4,0),some ((5,5),0,0)),((10,5),(4,4,0),some ((10,5),0,0)),((12,34),(0,0,0),some ((12,34),0,0)),((12,35),(0,0,0),some ((12,35),0,0)),((12,36),(0,0,0),some ((12,36),0,0))]),(10,[]),0)]
set_option maxRecDepth 100000 in
theorem q391_ok : rf_chkB q391_P q391_U wLay q391_M ddX11_law [(14,[0])] [] [0] 600 q391_N = true := by decide +kernel
set_option maxHeartbeats 4000000 in
theorem q391_met {G : rfG} (h : okG G) : rf_met G q391_M := rf_methodB h.1 (P := q391_P) (U := q391_U) (N := q391_N) ⟨wflT h flokX11, wcsT h csokX11, wlcT h lcokX11, spokX11 h, List.forall_mem_cons.mpr ⟨q371_met h, fun _ h => absurd h List.not_mem_nil⟩, fun _ h => absurd h List.not_mem_nil, List.forall_mem_cons.mpr ⟨fun M hM => Option.some.inj (show some q371_M = some M from hM) ▸ wlkV (lkX11_306 h) q371_M rfl rfl, fun _ h => absurd h List.not_mem_nil⟩, fun _ h => absurd h List.not_mem_nil, fun _ h => absurd h List.not_mem_nil⟩ dkX11_law (by decide +kernel) (by rw [h.2.2.1]; exact q391_ok)
/-- NearSpellModel.law -/
def q392_M : rfM := ((⟨"NearSpellModel", "law", "(I)I"⟩, prog_14_method_101_code, 2, (some .int)), (3,67), ([.inr (.inl [114]),.inl ((2,2,0),none)],[((75,0),(4,4,0),none),((90,28),(0,0,0),none),((90,29),(0,0,0),none),((90,36),(0,0,0),none),((114,28),(0,0,0),none),((114,39),(0,0,0),none)]), [(93,0)], [(some (.inl ((0,0,0),none)),[],[])])
def q392_P : rfP := (flX12,csX12,lcX12,spX12,[q183_M,q174_M],[(334,0)],[(375,1,12)],([],[]))
def q392_U : rfU := []
set_option maxHeartbeats 8000000 in
def q392_N : List rfB := [(0,([(0,.inr (.inl [114])),(1,.inl ((2,2,0),none))],[],[((75,0),(4,4,0),some ((75,0),0,0)),((90,28),(0,0,0),some ((90,28),0,0)),((90,29),(0,0,0),some ((90,29),0,0)),((90,36),(0,0,0),some ((90,36),0,0)),((114,28),(0,0,0),some ((114,28),0,0)),((114,39),(0,0,0),some ((114,39),0,0))]),(9,[]),0)]
set_option maxRecDepth 100000 in
theorem q392_ok : rf_chkB q392_P q392_U wLay q392_M ddX12_law [(3,[0]),(11,[1])] [] [0] 600 q392_N = true := by decide +kernel
set_option maxHeartbeats 4000000 in
theorem q392_met {G : rfG} (h : okG G) : rf_met G q392_M := rf_methodB h.1 (P := q392_P) (U := q392_U) (N := q392_N) ⟨wflT h flokX12, wcsT h csokX12, wlcT h lcokX12, spokX12 h, List.forall_mem_cons.mpr ⟨q183_met h, List.forall_mem_cons.mpr ⟨q174_met h, fun _ h => absurd h List.not_mem_nil⟩⟩, List.forall_mem_cons.mpr ⟨fun M hM => Option.some.inj (show some q183_M = some M from hM) ▸ wlkS (lkX12_334 h) q183_M rfl rfl, fun _ h => absurd h List.not_mem_nil⟩, List.forall_mem_cons.mpr ⟨fun M hM => Option.some.inj (show some q174_M = some M from hM) ▸ wlkV (lkX12_375 h) q174_M rfl rfl, fun _ h => absurd h List.not_mem_nil⟩, fun _ h => absurd h List.not_mem_nil, fun _ h => absurd h List.not_mem_nil⟩ dkX12_law (by decide +kernel) (by rw [h.2.2.1]; exact q392_ok)
/-- NearSpell.law -/
def q393_M : rfM := ((⟨"NearSpell", "law", "(I)I"⟩, prog_1_method_38_code, 2, (some .int)), (0,0), ([.inr (.inl [70]),.inl ((3,2147483647,1),none)],[((5,5),(4,4,0),none),((10,5),(4,4,0),none),((12,34),(0,0,0),none),((12,35),(0,0,0),none),((12,36),(0,0,0),none)]), [], [(some (.inl (((-1),(-1),0),none)),[],[])])
def q393_P : rfP := (flX11,csX11,lcX11,spX11,[],[],[],([],[]))
def q393_U : rfU := []
set_option maxHeartbeats 8000000 in
def q393_N : List rfB := [(0,([(0,.inr (.inl [70])),(1,.inl ((3,2147483647,1),none))],[],[((5,5),(4,4,0),some ((5,5),0,0)),((10,5),(4,4,0),some ((10,5),0,0)),((12,34),(0,0,0),some ((12,34),0,0)),((12,35),(0,0,0),some ((12,35),0,0)),((12,36),(0,0,0),some ((12,36),0,0))]),(6,[]),0)]
set_option maxRecDepth 100000 in
theorem q393_ok : rf_chkB q393_P q393_U wLay q393_M ddX11_law [] [] [0] 600 q393_N = true := by decide +kernel
set_option maxHeartbeats 4000000 in
theorem q393_met {G : rfG} (h : okG G) : rf_met G q393_M := rf_methodB h.1 (P := q393_P) (U := q393_U) (N := q393_N) ⟨wflT h flokX11, wcsT h csokX11, wlcT h lcokX11, spokX11 h, fun _ h => absurd h List.not_mem_nil, fun _ h => absurd h List.not_mem_nil, fun _ h => absurd h List.not_mem_nil, fun _ h => absurd h List.not_mem_nil, fun _ h => absurd h List.not_mem_nil⟩ dkX11_law (by decide +kernel) (by rw [h.2.2.1]; exact q393_ok)
/-- NearSpellModel.law -/
def q394_M : rfM := ((⟨"NearSpellModel", "law", "(I)I"⟩, prog_14_method_101_code, 2, (some .int)), (1,22), ([.inr (.inl [114]),.inl ((3,2147483647,1),none)],[((75,0),(4,4,0),none),((90,28),(0,0,0),none),((90,29),(0,0,0),none),((90,36),(0,0,0),none),((114,28),(0,0,0),none),((114,39),(0,0,0),none)]), [], [(some (.inl (((-1),(-1),0),none)),[],[])])
def q394_P : rfP := (flX12,csX12,lcX12,spX12,[q192_M],[(334,0)],[],([],[]))
def q394_U : rfU := []
set_option maxHeartbeats 8000000 in
def q394_N : List rfB := [(0,([(0,.inr (.inl [114])),(1,.inl ((3,2147483647,1),none))],[],[((75,0),(4,4,0),some ((75,0),0,0)),((90,28),(0,0,0),some ((90,28),0,0)),((90,29),(0,0,0),some ((90,29),0,0)),((90,36),(0,0,0),some ((90,36),0,0)),((114,28),(0,0,0),some ((114,28),0,0)),((114,39),(0,0,0),some ((114,39),0,0))]),(6,[]),0)]
set_option maxRecDepth 100000 in
theorem q394_ok : rf_chkB q394_P q394_U wLay q394_M ddX12_law [(3,[0])] [] [0] 600 q394_N = true := by decide +kernel
set_option maxHeartbeats 4000000 in
theorem q394_met {G : rfG} (h : okG G) : rf_met G q394_M := rf_methodB h.1 (P := q394_P) (U := q394_U) (N := q394_N) ⟨wflT h flokX12, wcsT h csokX12, wlcT h lcokX12, spokX12 h, List.forall_mem_cons.mpr ⟨q192_met h, fun _ h => absurd h List.not_mem_nil⟩, List.forall_mem_cons.mpr ⟨fun M hM => Option.some.inj (show some q192_M = some M from hM) ▸ wlkS (lkX12_334 h) q192_M rfl rfl, fun _ h => absurd h List.not_mem_nil⟩, fun _ h => absurd h List.not_mem_nil, fun _ h => absurd h List.not_mem_nil, fun _ h => absurd h List.not_mem_nil⟩ dkX12_law (by decide +kernel) (by rw [h.2.2.1]; exact q394_ok)
/-- NearSpell.odds -/
def q395_M : rfM := ((⟨"NearSpell", "odds", "(II)I"⟩, prog_1_method_39_code, 8, (some .int)), (0,0), ([.inr (.inl [70]),.inl (((-2147483648),(-1),1),none),.inl (((-2147483648),2147483647,1),none)],[((5,8),(0,0,0),none),((10,8),(0,0,0),none)]), [], [(some (.inl (((-1),(-1),0),none)),[],[])])
def ddX11_odds : List (Nat × Instr × Nat) := [(0,.iload_n 1,1),(1,.ifCond .lt 17,3),(4,.iload_n 1,1),(5,.iconst 4,1),(6,.if_icmp .gt 12,3),(9,.iload_n 2,1),(10,.ifCond .lt 8,3),(13,.iload_n 2,1),(14,.iconst 1,1),(15,.if_icmp .le 5,3),(18,.iconst (-1),1),(19,.ireturn,1),(20,.bipush 100,2),(22,.aload_n 0,1),(23,.getfield 16,3),(26,.getfield 192,3),(29,.isub,1),(30,.istore_n 3,1),(31,.bipush 100,2),(33,.iload_n 3,1),(34,.invokestatic 315,3),(37,.istore 4,2),(39,.iload_n 2,1),(40,.ifCond .ne 7,3),(43,.iload_n 3,1),(44,.goto 5,3),(47,.bipush 100,2),(49,.istore 5,2),(51,.iload 4,2),(53,.ifCond .le 10,3),(56,.iload 5,2),(58,.iload 4,2),(60,.idiv,1),(61,.istore 5,2),(63,.iconst 1,1),(64,.istore 6,2),(66,.iconst 0,1),(67,.istore 7,2),(69,.iload 7,2),(71,.iload_n 1,1),(72,.if_icmp .ge 16,3),(75,.iload 6,2),(77,.iload 5,2),(79,.imul,1),(80,.istore 6,2),(82,.iinc 7 1,3),(85,.goto (-16),3),(88,.iload 6,2),(90,.ireturn,1)]
set_option maxRecDepth 100000 in
theorem dkX11_odds : rf_decs prog_1_method_39_code ddX11_odds := rf_decs_of (by decide +kernel)
def q395_P : rfP := (flX11,csX11,lcX11,spX11,[],[],[],([],[]))
def q395_U : rfU := []
set_option maxHeartbeats 8000000 in
def q395_N : List rfB := [(0,([(0,.inr (.inl [70])),(1,.inl (((-2147483648),(-1),1),none)),(2,.inl (((-2147483648),2147483647,1),none))],[],[((5,8),(0,0,0),some ((5,8),0,0)),((10,8),(0,0,0),some ((10,8),0,0))]),(3,[]),0)]
set_option maxRecDepth 100000 in
theorem q395_ok : rf_chkB q395_P q395_U wLay q395_M ddX11_odds [] [] [0] 600 q395_N = true := by decide +kernel
set_option maxHeartbeats 4000000 in
theorem q395_met {G : rfG} (h : okG G) : rf_met G q395_M := rf_methodB h.1 (P := q395_P) (U := q395_U) (N := q395_N) ⟨wflT h flokX11, wcsT h csokX11, wlcT h lcokX11, spokX11 h, fun _ h => absurd h List.not_mem_nil, fun _ h => absurd h List.not_mem_nil, fun _ h => absurd h List.not_mem_nil, fun _ h => absurd h List.not_mem_nil, fun _ h => absurd h List.not_mem_nil⟩ dkX11_odds (by decide +kernel) (by rw [h.2.2.1]; exact q395_ok)
/-- NearSpellModel.isIn -/
def q396_M : rfM := ((⟨"NearSpellModel", "isIn", "(III)Z"⟩, prog_14_method_35_code, 3, (some .boolean)), (0,0), ([.inl (((-2147483648),0,1),none),.inl ((0,0,0),none),.inl ((4,4,0),none)],[]), [], [(some (.inl ((1,1,0),none)),[(0,0,0)],[]),(some (.inl ((0,0,0),none)),[(0,(-2147483648),(-1))],[])])
def q396_P : rfP := (flX12,csX12,lcX12,spX12,[],[],[],([],[]))
def q396_U : rfU := []
set_option maxHeartbeats 8000000 in
def q396_N : List rfB := [(0,([(0,.inl (((-2147483648),0,1),none)),(1,.inl ((0,0,0),none)),(2,.inl ((4,4,0),none))],[],[]),(10,[]),0)]
set_option maxRecDepth 100000 in
theorem q396_ok : rf_chkB q396_P q396_U wLay q396_M ddX12_isIn [] [] [0] 600 q396_N = true := by decide +kernel
set_option maxHeartbeats 4000000 in
theorem q396_met {G : rfG} (h : okG G) : rf_met G q396_M := rf_methodB h.1 (P := q396_P) (U := q396_U) (N := q396_N) ⟨wflT h flokX12, wcsT h csokX12, wlcT h lcokX12, spokX12 h, fun _ h => absurd h List.not_mem_nil, fun _ h => absurd h List.not_mem_nil, fun _ h => absurd h List.not_mem_nil, fun _ h => absurd h List.not_mem_nil, fun _ h => absurd h List.not_mem_nil⟩ dkX12_isIn (by decide +kernel) (by rw [h.2.2.1]; exact q396_ok)
/-- NearSpellModel.odds -/
def q397_M : rfM := ((⟨"NearSpellModel", "odds", "(II)I"⟩, prog_14_method_115_code, 5, (some .int)), (1,22), ([.inr (.inl [114]),.inl (((-2147483648),(-1),1),none),.inl (((-2147483648),2147483647,1),none)],[((78,0),(0,0,0),none),((114,28),(0,0,0),none)]), [], [(some (.inl (((-1),(-1),0),none)),[],[])])
def ddX12_odds : List (Nat × Instr × Nat) := [(0,.iload_n 1,1),(1,.iconst 0,1),(2,.iconst 4,1),(3,.invokestatic 334,3),(6,.ifCond .eq 12,3),(9,.iload_n 2,1),(10,.iconst 0,1),(11,.iconst 1,1),(12,.invokestatic 334,3),(15,.ifCond .ne 5,3),(18,.iconst (-1),1),(19,.ireturn,1),(20,.bipush 100,2),(22,.aload_n 0,1),(23,.getfield 36,3),(26,.aload_n 0,1),(27,.getfield 242,3),(30,.iaload,1),(31,.isub,1),(32,.iload_n 1,1),(33,.invokestatic 477,3),(36,.istore_n 3,1),(37,.bipush 100,2),(39,.iload_n 1,1),(40,.invokestatic 477,3),(43,.istore 4,2),(45,.iload_n 2,1),(46,.ifCond .ne 7,3),(49,.iload_n 3,1),(50,.goto 5,3),(53,.iload 4,2),(55,.iload 4,2),(57,.iload_n 3,1),(58,.invokestatic 480,3),(61,.idiv,1),(62,.ireturn,1)]
set_option maxRecDepth 100000 in
theorem dkX12_odds : rf_decs prog_14_method_115_code ddX12_odds := rf_decs_of (by decide +kernel)
def q397_P : rfP := (flX12,csX12,lcX12,spX12,[q396_M],[(334,0)],[],([],[]))
def q397_U : rfU := []
set_option maxHeartbeats 8000000 in
def q397_N : List rfB := [(0,([(0,.inr (.inl [114])),(1,.inl (((-2147483648),(-1),1),none)),(2,.inl (((-2147483648),2147483647,1),none))],[],[((78,0),(0,0,0),some ((78,0),0,0)),((114,28),(0,0,0),some ((114,28),0,0))]),(6,[]),0)]
set_option maxRecDepth 100000 in
theorem q397_ok : rf_chkB q397_P q397_U wLay q397_M ddX12_odds [(3,[0])] [] [0] 600 q397_N = true := by decide +kernel
set_option maxHeartbeats 4000000 in
theorem q397_met {G : rfG} (h : okG G) : rf_met G q397_M := rf_methodB h.1 (P := q397_P) (U := q397_U) (N := q397_N) ⟨wflT h flokX12, wcsT h csokX12, wlcT h lcokX12, spokX12 h, List.forall_mem_cons.mpr ⟨q396_met h, fun _ h => absurd h List.not_mem_nil⟩, List.forall_mem_cons.mpr ⟨fun M hM => Option.some.inj (show some q396_M = some M from hM) ▸ wlkS (lkX12_334 h) q396_M rfl rfl, fun _ h => absurd h List.not_mem_nil⟩, fun _ h => absurd h List.not_mem_nil, fun _ h => absurd h List.not_mem_nil, fun _ h => absurd h List.not_mem_nil⟩ dkX12_odds (by decide +kernel) (by rw [h.2.2.1]; exact q397_ok)
/-- NearSpell.odds -/
def q398_M : rfM := ((⟨"NearSpell", "odds", "(II)I"⟩, prog_1_method_39_code, 8, (some .int)), (0,0), ([.inr (.inl [70]),.inl ((5,2147483647,1),none),.inl (((-2147483648),2147483647,1),none)],[((5,8),(0,0,0),none),((10,8),(0,0,0),none)]), [], [(some (.inl (((-1),(-1),0),none)),[],[])])
def q398_P : rfP := (flX11,csX11,lcX11,spX11,[],[],[],([],[]))
def q398_U : rfU := []
set_option maxHeartbeats 8000000 in
def q398_N : List rfB := [(0,([(0,.inr (.inl [70])),(1,.inl ((5,2147483647,1),none)),(2,.inl (((-2147483648),2147483647,1),none))],[],[((5,8),(0,0,0),some ((5,8),0,0)),((10,8),(0,0,0),some ((10,8),0,0))]),(6,[]),0)]
set_option maxRecDepth 100000 in
theorem q398_ok : rf_chkB q398_P q398_U wLay q398_M ddX11_odds [] [] [0] 600 q398_N = true := by decide +kernel
set_option maxHeartbeats 4000000 in
theorem q398_met {G : rfG} (h : okG G) : rf_met G q398_M := rf_methodB h.1 (P := q398_P) (U := q398_U) (N := q398_N) ⟨wflT h flokX11, wcsT h csokX11, wlcT h lcokX11, spokX11 h, fun _ h => absurd h List.not_mem_nil, fun _ h => absurd h List.not_mem_nil, fun _ h => absurd h List.not_mem_nil, fun _ h => absurd h List.not_mem_nil, fun _ h => absurd h List.not_mem_nil⟩ dkX11_odds (by decide +kernel) (by rw [h.2.2.1]; exact q398_ok)
/-- NearSpellModel.isIn -/
def q399_M : rfM := ((⟨"NearSpellModel", "isIn", "(III)Z"⟩, prog_14_method_35_code, 3, (some .boolean)), (0,0), ([.inl ((1,2147483647,1),none),.inl ((0,0,0),none),.inl ((4,4,0),none)],[]), [], [(some (.inl ((1,1,0),none)),[(0,1,4)],[]),(some (.inl ((0,0,0),none)),[(0,5,2147483647)],[])])
def q399_P : rfP := (flX12,csX12,lcX12,spX12,[],[],[],([],[]))
def q399_U : rfU := []
set_option maxHeartbeats 8000000 in
def q399_N : List rfB := [(0,([(0,.inl ((1,2147483647,1),none)),(1,.inl ((0,0,0),none)),(2,.inl ((4,4,0),none))],[],[]),(10,[]),0)]
set_option maxRecDepth 100000 in
theorem q399_ok : rf_chkB q399_P q399_U wLay q399_M ddX12_isIn [] [] [0] 600 q399_N = true := by decide +kernel
set_option maxHeartbeats 4000000 in
theorem q399_met {G : rfG} (h : okG G) : rf_met G q399_M := rf_methodB h.1 (P := q399_P) (U := q399_U) (N := q399_N) ⟨wflT h flokX12, wcsT h csokX12, wlcT h lcokX12, spokX12 h, fun _ h => absurd h List.not_mem_nil, fun _ h => absurd h List.not_mem_nil, fun _ h => absurd h List.not_mem_nil, fun _ h => absurd h List.not_mem_nil, fun _ h => absurd h List.not_mem_nil⟩ dkX12_isIn (by decide +kernel) (by rw [h.2.2.1]; exact q399_ok)
/-- NearSpellModel.odds -/
def q400_M : rfM := ((⟨"NearSpellModel", "odds", "(II)I"⟩, prog_14_method_115_code, 5, (some .int)), (1,22), ([.inr (.inl [114]),.inl ((5,2147483647,1),none),.inl (((-2147483648),2147483647,1),none)],[((78,0),(0,0,0),none),((114,28),(0,0,0),none)]), [], [(some (.inl (((-1),(-1),0),none)),[],[])])
def q400_P : rfP := (flX12,csX12,lcX12,spX12,[q399_M],[(334,0)],[],([],[]))
def q400_U : rfU := []
set_option maxHeartbeats 8000000 in
def q400_N : List rfB := [(0,([(0,.inr (.inl [114])),(1,.inl ((5,2147483647,1),none)),(2,.inl (((-2147483648),2147483647,1),none))],[],[((78,0),(0,0,0),some ((78,0),0,0)),((114,28),(0,0,0),some ((114,28),0,0))]),(6,[]),0)]
set_option maxRecDepth 100000 in
theorem q400_ok : rf_chkB q400_P q400_U wLay q400_M ddX12_odds [(3,[0])] [] [0] 600 q400_N = true := by decide +kernel
set_option maxHeartbeats 4000000 in
theorem q400_met {G : rfG} (h : okG G) : rf_met G q400_M := rf_methodB h.1 (P := q400_P) (U := q400_U) (N := q400_N) ⟨wflT h flokX12, wcsT h csokX12, wlcT h lcokX12, spokX12 h, List.forall_mem_cons.mpr ⟨q399_met h, fun _ h => absurd h List.not_mem_nil⟩, List.forall_mem_cons.mpr ⟨fun M hM => Option.some.inj (show some q399_M = some M from hM) ▸ wlkS (lkX12_334 h) q399_M rfl rfl, fun _ h => absurd h List.not_mem_nil⟩, fun _ h => absurd h List.not_mem_nil, fun _ h => absurd h List.not_mem_nil, fun _ h => absurd h List.not_mem_nil⟩ dkX12_odds (by decide +kernel) (by rw [h.2.2.1]; exact q400_ok)
/-- NearSpell.odds -/
def q401_M : rfM := ((⟨"NearSpell", "odds", "(II)I"⟩, prog_1_method_39_code, 8, (some .int)), (0,0), ([.inr (.inl [70]),.inl ((0,4,1),none),.inl (((-2147483648),(-1),1),none)],[((5,8),(0,0,0),none),((10,8),(0,0,0),none)]), [], [(some (.inl (((-1),(-1),0),none)),[],[])])
def q401_P : rfP := (flX11,csX11,lcX11,spX11,[],[],[],([],[]))
def q401_U : rfU := []
set_option maxHeartbeats 8000000 in
def q401_N : List rfB := [(0,([(0,.inr (.inl [70])),(1,.inl ((0,4,1),none)),(2,.inl (((-2147483648),(-1),1),none))],[],[((5,8),(0,0,0),some ((5,8),0,0)),((10,8),(0,0,0),some ((10,8),0,0))]),(8,[]),0)]
set_option maxRecDepth 100000 in
theorem q401_ok : rf_chkB q401_P q401_U wLay q401_M ddX11_odds [] [] [0] 600 q401_N = true := by decide +kernel
set_option maxHeartbeats 4000000 in
theorem q401_met {G : rfG} (h : okG G) : rf_met G q401_M := rf_methodB h.1 (P := q401_P) (U := q401_U) (N := q401_N) ⟨wflT h flokX11, wcsT h csokX11, wlcT h lcokX11, spokX11 h, fun _ h => absurd h List.not_mem_nil, fun _ h => absurd h List.not_mem_nil, fun _ h => absurd h List.not_mem_nil, fun _ h => absurd h List.not_mem_nil, fun _ h => absurd h List.not_mem_nil⟩ dkX11_odds (by decide +kernel) (by rw [h.2.2.1]; exact q401_ok)
/-- NearSpellModel.isIn -/
def q402_M : rfM := ((⟨"NearSpellModel", "isIn", "(III)Z"⟩, prog_14_method_35_code, 3, (some .boolean)), (0,0), ([.inl ((0,4,1),none),.inl ((0,0,0),none),.inl ((4,4,0),none)],[]), [], [(some (.inl ((1,1,0),none)),[],[])])
def q402_P : rfP := (flX12,csX12,lcX12,spX12,[],[],[],([],[]))
def q402_U : rfU := []
set_option maxHeartbeats 8000000 in
def q402_N : List rfB := [(0,([(0,.inl ((0,4,1),none)),(1,.inl ((0,0,0),none)),(2,.inl ((4,4,0),none))],[],[]),(8,[]),0)]
set_option maxRecDepth 100000 in
theorem q402_ok : rf_chkB q402_P q402_U wLay q402_M ddX12_isIn [] [] [0] 600 q402_N = true := by decide +kernel
set_option maxHeartbeats 4000000 in
theorem q402_met {G : rfG} (h : okG G) : rf_met G q402_M := rf_methodB h.1 (P := q402_P) (U := q402_U) (N := q402_N) ⟨wflT h flokX12, wcsT h csokX12, wlcT h lcokX12, spokX12 h, fun _ h => absurd h List.not_mem_nil, fun _ h => absurd h List.not_mem_nil, fun _ h => absurd h List.not_mem_nil, fun _ h => absurd h List.not_mem_nil, fun _ h => absurd h List.not_mem_nil⟩ dkX12_isIn (by decide +kernel) (by rw [h.2.2.1]; exact q402_ok)
/-- NearSpellModel.odds -/
def q403_M : rfM := ((⟨"NearSpellModel", "odds", "(II)I"⟩, prog_14_method_115_code, 5, (some .int)), (1,22), ([.inr (.inl [114]),.inl ((0,4,1),none),.inl (((-2147483648),(-1),1),none)],[((78,0),(0,0,0),none),((114,28),(0,0,0),none)]), [], [(some (.inl (((-1),(-1),0),none)),[],[])])
def q403_P : rfP := (flX12,csX12,lcX12,spX12,[q402_M,q267_M],[(334,0),(334,1)],[],([],[]))
def q403_U : rfU := []
set_option maxHeartbeats 8000000 in
def q403_N : List rfB := [(0,([(0,.inr (.inl [114])),(1,.inl ((0,4,1),none)),(2,.inl (((-2147483648),(-1),1),none))],[],[((78,0),(0,0,0),some ((78,0),0,0)),((114,28),(0,0,0),some ((114,28),0,0))]),(11,[]),0)]
set_option maxRecDepth 100000 in
theorem q403_ok : rf_chkB q403_P q403_U wLay q403_M ddX12_odds [(3,[0]),(12,[1])] [] [0] 600 q403_N = true := by decide +kernel
set_option maxHeartbeats 4000000 in
theorem q403_met {G : rfG} (h : okG G) : rf_met G q403_M := rf_methodB h.1 (P := q403_P) (U := q403_U) (N := q403_N) ⟨wflT h flokX12, wcsT h csokX12, wlcT h lcokX12, spokX12 h, List.forall_mem_cons.mpr ⟨q402_met h, List.forall_mem_cons.mpr ⟨q267_met h, fun _ h => absurd h List.not_mem_nil⟩⟩, List.forall_mem_cons.mpr ⟨fun M hM => Option.some.inj (show some q402_M = some M from hM) ▸ wlkS (lkX12_334 h) q402_M rfl rfl, List.forall_mem_cons.mpr ⟨fun M hM => Option.some.inj (show some q267_M = some M from hM) ▸ wlkS (lkX12_334 h) q267_M rfl rfl, fun _ h => absurd h List.not_mem_nil⟩⟩, fun _ h => absurd h List.not_mem_nil, fun _ h => absurd h List.not_mem_nil, fun _ h => absurd h List.not_mem_nil⟩ dkX12_odds (by decide +kernel) (by rw [h.2.2.1]; exact q403_ok)
/-- NearSpell.odds -/
def q404_M : rfM := ((⟨"NearSpell", "odds", "(II)I"⟩, prog_1_method_39_code, 8, (some .int)), (0,0), ([.inr (.inl [70]),.inl ((0,4,1),none),.inl ((2,2147483647,1),none)],[((5,8),(0,0,0),none),((10,8),(0,0,0),none)]), [], [(some (.inl (((-1),(-1),0),none)),[],[])])
def q404_P : rfP := (flX11,csX11,lcX11,spX11,[],[],[],([],[]))
def q404_U : rfU := []
set_option maxHeartbeats 8000000 in
def q404_N : List rfB := [(0,([(0,.inr (.inl [70])),(1,.inl ((0,4,1),none)),(2,.inl ((2,2147483647,1),none))],[],[((5,8),(0,0,0),some ((5,8),0,0)),((10,8),(0,0,0),some ((10,8),0,0))]),(11,[]),0)]
set_option maxRecDepth 100000 in
theorem q404_ok : rf_chkB q404_P q404_U wLay q404_M ddX11_odds [] [] [0] 600 q404_N = true := by decide +kernel
set_option maxHeartbeats 4000000 in
theorem q404_met {G : rfG} (h : okG G) : rf_met G q404_M := rf_methodB h.1 (P := q404_P) (U := q404_U) (N := q404_N) ⟨wflT h flokX11, wcsT h csokX11, wlcT h lcokX11, spokX11 h, fun _ h => absurd h List.not_mem_nil, fun _ h => absurd h List.not_mem_nil, fun _ h => absurd h List.not_mem_nil, fun _ h => absurd h List.not_mem_nil, fun _ h => absurd h List.not_mem_nil⟩ dkX11_odds (by decide +kernel) (by rw [h.2.2.1]; exact q404_ok)
/-- NearSpellModel.odds -/
def q405_M : rfM := ((⟨"NearSpellModel", "odds", "(II)I"⟩, prog_14_method_115_code, 5, (some .int)), (1,22), ([.inr (.inl [114]),.inl ((0,4,1),none),.inl ((2,2147483647,1),none)],[((78,0),(0,0,0),none),((114,28),(0,0,0),none)]), [], [(some (.inl (((-1),(-1),0),none)),[],[])])
def q405_P : rfP := (flX12,csX12,lcX12,spX12,[q402_M,q289_M],[(334,0),(334,1)],[],([],[]))
def q405_U : rfU := []
set_option maxHeartbeats 8000000 in
def q405_N : List rfB := [(0,([(0,.inr (.inl [114])),(1,.inl ((0,4,1),none)),(2,.inl ((2,2147483647,1),none))],[],[((78,0),(0,0,0),some ((78,0),0,0)),((114,28),(0,0,0),some ((114,28),0,0))]),(11,[]),0)]
set_option maxRecDepth 100000 in
theorem q405_ok : rf_chkB q405_P q405_U wLay q405_M ddX12_odds [(3,[0]),(12,[1])] [] [0] 600 q405_N = true := by decide +kernel
set_option maxHeartbeats 4000000 in
theorem q405_met {G : rfG} (h : okG G) : rf_met G q405_M := rf_methodB h.1 (P := q405_P) (U := q405_U) (N := q405_N) ⟨wflT h flokX12, wcsT h csokX12, wlcT h lcokX12, spokX12 h, List.forall_mem_cons.mpr ⟨q402_met h, List.forall_mem_cons.mpr ⟨q289_met h, fun _ h => absurd h List.not_mem_nil⟩⟩, List.forall_mem_cons.mpr ⟨fun M hM => Option.some.inj (show some q402_M = some M from hM) ▸ wlkS (lkX12_334 h) q402_M rfl rfl, List.forall_mem_cons.mpr ⟨fun M hM => Option.some.inj (show some q289_M = some M from hM) ▸ wlkS (lkX12_334 h) q289_M rfl rfl, fun _ h => absurd h List.not_mem_nil⟩⟩, fun _ h => absurd h List.not_mem_nil, fun _ h => absurd h List.not_mem_nil, fun _ h => absurd h List.not_mem_nil⟩ dkX12_odds (by decide +kernel) (by rw [h.2.2.1]; exact q405_ok)
/-- NearSpell.odds -/
def q407_M : rfM := ((⟨"NearSpell", "odds", "(II)I"⟩, prog_1_method_39_code, 8, (some .int)), (3,125), ([.inr (.inl [70]),.inl ((0,0,0),none),.inl ((0,0,0),none)],[((5,8),(0,0,0),none),((10,8),(0,0,0),none)]), [], [(some (.inl ((1,1,0),none)),[],[])])
def q407_P : rfP := (flX11,csX11,lcX11,spX11,[hq_cd_M],[(315,0)],[],([],[]))
def q407_U : rfU := []
set_option maxHeartbeats 8000000 in
def q407_N : List rfB := [(0,([(0,.inr (.inl [70])),(1,.inl ((0,0,0),none)),(2,.inl ((0,0,0),none))],[],[((5,8),(0,0,0),some ((5,8),0,0)),((10,8),(0,0,0),some ((10,8),0,0))]),(39,[]),0)]
set_option maxRecDepth 100000 in
theorem q407_ok : rf_chkB q407_P q407_U wLay q407_M ddX11_odds [(34,[0])] [] [0] 600 q407_N = true := by decide +kernel
set_option maxHeartbeats 4000000 in
theorem q407_met {G : rfG} (h : okG G) : rf_met G q407_M := rf_methodB h.1 (P := q407_P) (U := q407_U) (N := q407_N) ⟨wflT h flokX11, wcsT h csokX11, wlcT h lcokX11, spokX11 h, List.forall_mem_cons.mpr ⟨hq_cd_met h, fun _ h => absurd h List.not_mem_nil⟩, List.forall_mem_cons.mpr ⟨fun M hM => Option.some.inj (show some hq_cd_M = some M from hM) ▸ wlkS (lkX11_315 h) hq_cd_M rfl rfl, fun _ h => absurd h List.not_mem_nil⟩, fun _ h => absurd h List.not_mem_nil, fun _ h => absurd h List.not_mem_nil, fun _ h => absurd h List.not_mem_nil⟩ dkX11_odds (by decide +kernel) (by rw [h.2.2.1]; exact q407_ok)
/-- NearSpellModel.isIn -/
def q408_M : rfM := ((⟨"NearSpellModel", "isIn", "(III)Z"⟩, prog_14_method_35_code, 3, (some .boolean)), (0,0), ([.inl ((0,0,0),none),.inl ((0,0,0),none),.inl ((4,4,0),none)],[]), [], [(some (.inl ((1,1,0),none)),[],[])])
def q408_P : rfP := (flX12,csX12,lcX12,spX12,[],[],[],([],[]))
def q408_U : rfU := []
set_option maxHeartbeats 8000000 in
def q408_N : List rfB := [(0,([(0,.inl ((0,0,0),none)),(1,.inl ((0,0,0),none)),(2,.inl ((4,4,0),none))],[],[]),(8,[]),0)]
set_option maxRecDepth 100000 in
theorem q408_ok : rf_chkB q408_P q408_U wLay q408_M ddX12_isIn [] [] [0] 600 q408_N = true := by decide +kernel
set_option maxHeartbeats 4000000 in
theorem q408_met {G : rfG} (h : okG G) : rf_met G q408_M := rf_methodB h.1 (P := q408_P) (U := q408_U) (N := q408_N) ⟨wflT h flokX12, wcsT h csokX12, wlcT h lcokX12, spokX12 h, fun _ h => absurd h List.not_mem_nil, fun _ h => absurd h List.not_mem_nil, fun _ h => absurd h List.not_mem_nil, fun _ h => absurd h List.not_mem_nil, fun _ h => absurd h List.not_mem_nil⟩ dkX12_isIn (by decide +kernel) (by rw [h.2.2.1]; exact q408_ok)
/-- NearSpellModel.isIn -/
def q409_M : rfM := ((⟨"NearSpellModel", "isIn", "(III)Z"⟩, prog_14_method_35_code, 3, (some .boolean)), (0,0), ([.inl ((0,0,0),none),.inl ((0,0,0),none),.inl ((1,1,0),none)],[]), [], [(some (.inl ((1,1,0),none)),[],[])])
def q409_P : rfP := (flX12,csX12,lcX12,spX12,[],[],[],([],[]))
def q409_U : rfU := []
set_option maxHeartbeats 8000000 in
def q409_N : List rfB := [(0,([(0,.inl ((0,0,0),none)),(1,.inl ((0,0,0),none)),(2,.inl ((1,1,0),none))],[],[]),(8,[]),0)]
set_option maxRecDepth 100000 in
theorem q409_ok : rf_chkB q409_P q409_U wLay q409_M ddX12_isIn [] [] [0] 600 q409_N = true := by decide +kernel
set_option maxHeartbeats 4000000 in
theorem q409_met {G : rfG} (h : okG G) : rf_met G q409_M := rf_methodB h.1 (P := q409_P) (U := q409_U) (N := q409_N) ⟨wflT h flokX12, wcsT h csokX12, wlcT h lcokX12, spokX12 h, fun _ h => absurd h List.not_mem_nil, fun _ h => absurd h List.not_mem_nil, fun _ h => absurd h List.not_mem_nil, fun _ h => absurd h List.not_mem_nil, fun _ h => absurd h List.not_mem_nil⟩ dkX12_isIn (by decide +kernel) (by rw [h.2.2.1]; exact q409_ok)
/-- NearSpellModel.power -/
def q410_M : rfM := ((⟨"NearSpellModel", "power", "(II)I"⟩, prog_14_method_39_code, 4, (some .int)), (0,0), ([.inl ((100,100,0),none),.inl ((0,0,0),none)],[]), [], [(some (.inl ((1,1,0),none)),[],[])])
def ddX12_power : List (Nat × Instr × Nat) := [(0,.iconst 1,1),(1,.istore_n 2,1),(2,.iconst 0,1),(3,.istore_n 3,1),(4,.iload_n 3,1),(5,.iload_n 1,1),(6,.if_icmp .ge 13,3),(9,.iload_n 2,1),(10,.iload_n 0,1),(11,.imul,1),(12,.istore_n 2,1),(13,.iinc 3 1,3),(16,.goto (-12),3),(19,.iload_n 2,1),(20,.ireturn,1)]
set_option maxRecDepth 100000 in
theorem dkX12_power : rf_decs prog_14_method_39_code ddX12_power := rf_decs_of (by decide +kernel)
def q410_P : rfP := (flX12,csX12,lcX12,spX12,[],[],[],([],[]))
def q410_U : rfU := []
set_option maxHeartbeats 8000000 in
def q410_N : List rfB := [(0,([(0,.inl ((100,100,0),none)),(1,.inl ((0,0,0),none))],[],[]),(8,[]),0)]
set_option maxRecDepth 100000 in
theorem q410_ok : rf_chkB q410_P q410_U wLay q410_M ddX12_power [] [] [0] 600 q410_N = true := by decide +kernel
set_option maxHeartbeats 4000000 in
theorem q410_met {G : rfG} (h : okG G) : rf_met G q410_M := rf_methodB h.1 (P := q410_P) (U := q410_U) (N := q410_N) ⟨wflT h flokX12, wcsT h csokX12, wlcT h lcokX12, spokX12 h, fun _ h => absurd h List.not_mem_nil, fun _ h => absurd h List.not_mem_nil, fun _ h => absurd h List.not_mem_nil, fun _ h => absurd h List.not_mem_nil, fun _ h => absurd h List.not_mem_nil⟩ dkX12_power (by decide +kernel) (by rw [h.2.2.1]; exact q410_ok)
/-- NearSpellModel.odds -/
def q412_M : rfM := ((⟨"NearSpellModel", "odds", "(II)I"⟩, prog_14_method_115_code, 5, (some .int)), (3,124), ([.inr (.inl [114]),.inl ((0,0,0),none),.inl ((0,0,0),none)],[((78,0),(0,0,0),none),((114,28),(0,0,0),none)]), [], [(some (.inl ((1,1,1),none)),[],[])])
def q412_P : rfP := (flX12,csX12,lcX12,spX12,[q408_M,q409_M,q410_M,hq_dv1_M],[(334,0),(334,1),(477,2),(480,3)],[],([],[]))
def q412_U : rfU := []
set_option maxHeartbeats 8000000 in
def q412_N : List rfB := [(0,([(0,.inr (.inl [114])),(1,.inl ((0,0,0),none)),(2,.inl ((0,0,0),none))],[],[((78,0),(0,0,0),some ((78,0),0,0)),((114,28),(0,0,0),some ((114,28),0,0))]),(32,[]),0)]
set_option maxRecDepth 100000 in
theorem q412_ok : rf_chkB q412_P q412_U wLay q412_M ddX12_odds [(3,[0]),(12,[1]),(33,[2]),(40,[2]),(58,[3])] [] [0] 600 q412_N = true := by decide +kernel
set_option maxHeartbeats 4000000 in
theorem q412_met {G : rfG} (h : okG G) : rf_met G q412_M := rf_methodB h.1 (P := q412_P) (U := q412_U) (N := q412_N) ⟨wflT h flokX12, wcsT h csokX12, wlcT h lcokX12, spokX12 h, List.forall_mem_cons.mpr ⟨q408_met h, List.forall_mem_cons.mpr ⟨q409_met h, List.forall_mem_cons.mpr ⟨q410_met h, List.forall_mem_cons.mpr ⟨hq_dv1_met h, fun _ h => absurd h List.not_mem_nil⟩⟩⟩⟩, List.forall_mem_cons.mpr ⟨fun M hM => Option.some.inj (show some q408_M = some M from hM) ▸ wlkS (lkX12_334 h) q408_M rfl rfl, List.forall_mem_cons.mpr ⟨fun M hM => Option.some.inj (show some q409_M = some M from hM) ▸ wlkS (lkX12_334 h) q409_M rfl rfl, List.forall_mem_cons.mpr ⟨fun M hM => Option.some.inj (show some q410_M = some M from hM) ▸ wlkS (lkX12_477 h) q410_M rfl rfl, List.forall_mem_cons.mpr ⟨fun M hM => Option.some.inj (show some hq_dv1_M = some M from hM) ▸ wlkS (lkX12_480 h) hq_dv1_M rfl rfl, fun _ h => absurd h List.not_mem_nil⟩⟩⟩⟩, fun _ h => absurd h List.not_mem_nil, fun _ h => absurd h List.not_mem_nil, fun _ h => absurd h List.not_mem_nil⟩ dkX12_odds (by decide +kernel) (by rw [h.2.2.1]; exact q412_ok)
/-- NearSpell.odds -/
def q413_M : rfM := ((⟨"NearSpell", "odds", "(II)I"⟩, prog_1_method_39_code, 8, (some .int)), (3,125), ([.inr (.inl [70]),.inl ((0,0,0),none),.inl ((1,1,0),none)],[((5,8),(0,0,0),none),((10,8),(0,0,0),none)]), [], [(some (.inl ((1,1,0),none)),[],[])])
def q413_P : rfP := (flX11,csX11,lcX11,spX11,[hq_cd_M],[(315,0)],[],([],[]))
def q413_U : rfU := []
set_option maxHeartbeats 8000000 in
def q413_N : List rfB := [(0,([(0,.inr (.inl [70])),(1,.inl ((0,0,0),none)),(2,.inl ((1,1,0),none))],[],[((5,8),(0,0,0),some ((5,8),0,0)),((10,8),(0,0,0),some ((10,8),0,0))]),(38,[]),0)]
set_option maxRecDepth 100000 in
theorem q413_ok : rf_chkB q413_P q413_U wLay q413_M ddX11_odds [(34,[0])] [] [0] 600 q413_N = true := by decide +kernel
set_option maxHeartbeats 4000000 in
theorem q413_met {G : rfG} (h : okG G) : rf_met G q413_M := rf_methodB h.1 (P := q413_P) (U := q413_U) (N := q413_N) ⟨wflT h flokX11, wcsT h csokX11, wlcT h lcokX11, spokX11 h, List.forall_mem_cons.mpr ⟨hq_cd_met h, fun _ h => absurd h List.not_mem_nil⟩, List.forall_mem_cons.mpr ⟨fun M hM => Option.some.inj (show some hq_cd_M = some M from hM) ▸ wlkS (lkX11_315 h) hq_cd_M rfl rfl, fun _ h => absurd h List.not_mem_nil⟩, fun _ h => absurd h List.not_mem_nil, fun _ h => absurd h List.not_mem_nil, fun _ h => absurd h List.not_mem_nil⟩ dkX11_odds (by decide +kernel) (by rw [h.2.2.1]; exact q413_ok)
/-- NearSpellModel.isIn -/
def q414_M : rfM := ((⟨"NearSpellModel", "isIn", "(III)Z"⟩, prog_14_method_35_code, 3, (some .boolean)), (0,0), ([.inl ((1,1,0),none),.inl ((0,0,0),none),.inl ((1,1,0),none)],[]), [], [(some (.inl ((1,1,0),none)),[],[])])
def q414_P : rfP := (flX12,csX12,lcX12,spX12,[],[],[],([],[]))
def q414_U : rfU := []
set_option maxHeartbeats 8000000 in
def q414_N : List rfB := [(0,([(0,.inl ((1,1,0),none)),(1,.inl ((0,0,0),none)),(2,.inl ((1,1,0),none))],[],[]),(8,[]),0)]
set_option maxRecDepth 100000 in
theorem q414_ok : rf_chkB q414_P q414_U wLay q414_M ddX12_isIn [] [] [0] 600 q414_N = true := by decide +kernel
set_option maxHeartbeats 4000000 in
theorem q414_met {G : rfG} (h : okG G) : rf_met G q414_M := rf_methodB h.1 (P := q414_P) (U := q414_U) (N := q414_N) ⟨wflT h flokX12, wcsT h csokX12, wlcT h lcokX12, spokX12 h, fun _ h => absurd h List.not_mem_nil, fun _ h => absurd h List.not_mem_nil, fun _ h => absurd h List.not_mem_nil, fun _ h => absurd h List.not_mem_nil, fun _ h => absurd h List.not_mem_nil⟩ dkX12_isIn (by decide +kernel) (by rw [h.2.2.1]; exact q414_ok)
/-- NearSpellModel.odds -/
def q415_M : rfM := ((⟨"NearSpellModel", "odds", "(II)I"⟩, prog_14_method_115_code, 5, (some .int)), (3,124), ([.inr (.inl [114]),.inl ((0,0,0),none),.inl ((1,1,0),none)],[((78,0),(0,0,0),none),((114,28),(0,0,0),none)]), [], [(some (.inl ((1,1,1),none)),[],[])])
def q415_P : rfP := (flX12,csX12,lcX12,spX12,[q408_M,q414_M,q410_M,hq_dv1_M],[(334,0),(334,1),(477,2),(480,3)],[],([],[]))
def q415_U : rfU := []
set_option maxHeartbeats 8000000 in
def q415_N : List rfB := [(0,([(0,.inr (.inl [114])),(1,.inl ((0,0,0),none)),(2,.inl ((1,1,0),none))],[],[((78,0),(0,0,0),some ((78,0),0,0)),((114,28),(0,0,0),some ((114,28),0,0))]),(31,[]),0)]
set_option maxRecDepth 100000 in
theorem q415_ok : rf_chkB q415_P q415_U wLay q415_M ddX12_odds [(3,[0]),(12,[1]),(33,[2]),(40,[2]),(58,[3])] [] [0] 600 q415_N = true := by decide +kernel
set_option maxHeartbeats 4000000 in
theorem q415_met {G : rfG} (h : okG G) : rf_met G q415_M := rf_methodB h.1 (P := q415_P) (U := q415_U) (N := q415_N) ⟨wflT h flokX12, wcsT h csokX12, wlcT h lcokX12, spokX12 h, List.forall_mem_cons.mpr ⟨q408_met h, List.forall_mem_cons.mpr ⟨q414_met h, List.forall_mem_cons.mpr ⟨q410_met h, List.forall_mem_cons.mpr ⟨hq_dv1_met h, fun _ h => absurd h List.not_mem_nil⟩⟩⟩⟩, List.forall_mem_cons.mpr ⟨fun M hM => Option.some.inj (show some q408_M = some M from hM) ▸ wlkS (lkX12_334 h) q408_M rfl rfl, List.forall_mem_cons.mpr ⟨fun M hM => Option.some.inj (show some q414_M = some M from hM) ▸ wlkS (lkX12_334 h) q414_M rfl rfl, List.forall_mem_cons.mpr ⟨fun M hM => Option.some.inj (show some q410_M = some M from hM) ▸ wlkS (lkX12_477 h) q410_M rfl rfl, List.forall_mem_cons.mpr ⟨fun M hM => Option.some.inj (show some hq_dv1_M = some M from hM) ▸ wlkS (lkX12_480 h) hq_dv1_M rfl rfl, fun _ h => absurd h List.not_mem_nil⟩⟩⟩⟩, fun _ h => absurd h List.not_mem_nil, fun _ h => absurd h List.not_mem_nil, fun _ h => absurd h List.not_mem_nil⟩ dkX12_odds (by decide +kernel) (by rw [h.2.2.1]; exact q415_ok)
/-- NearSpell.odds -/
def q416_M : rfM := ((⟨"NearSpell", "odds", "(II)I"⟩, prog_1_method_39_code, 8, (some .int)), (3,125), ([.inr (.inl [70]),.inl ((1,1,0),none),.inl ((0,0,0),none)],[((5,8),(0,0,0),none),((10,8),(0,0,0),none)]), [], [(some (.inl ((1,1,0),none)),[],[])])
def q416_P : rfP := (flX11,csX11,lcX11,spX11,[hq_cd_M],[(315,0)],[],([],[]))
def q416_U : rfU := []
set_option maxHeartbeats 8000000 in
def q416_N : List rfB := [(0,([(0,.inr (.inl [70])),(1,.inl ((1,1,0),none)),(2,.inl ((0,0,0),none))],[],[((5,8),(0,0,0),some ((5,8),0,0)),((10,8),(0,0,0),some ((10,8),0,0))]),(56,[0]),0)]
set_option maxRecDepth 100000 in
theorem q416_ok : rf_chkB q416_P q416_U wLay q416_M ddX11_odds [(34,[0])] [.inl 7] [0] 54 q416_N = true := by decide +kernel
set_option maxHeartbeats 4000000 in
theorem q416_met {G : rfG} (h : okG G) : rf_met G q416_M := rf_methodB h.1 (P := q416_P) (U := q416_U) (N := q416_N) ⟨wflT h flokX11, wcsT h csokX11, wlcT h lcokX11, spokX11 h, List.forall_mem_cons.mpr ⟨hq_cd_met h, fun _ h => absurd h List.not_mem_nil⟩, List.forall_mem_cons.mpr ⟨fun M hM => Option.some.inj (show some hq_cd_M = some M from hM) ▸ wlkS (lkX11_315 h) hq_cd_M rfl rfl, fun _ h => absurd h List.not_mem_nil⟩, fun _ h => absurd h List.not_mem_nil, fun _ h => absurd h List.not_mem_nil, fun _ h => absurd h List.not_mem_nil⟩ dkX11_odds (by decide +kernel) (by rw [h.2.2.1]; exact q416_ok)
/-- NearSpellModel.isIn -/
def q417_M : rfM := ((⟨"NearSpellModel", "isIn", "(III)Z"⟩, prog_14_method_35_code, 3, (some .boolean)), (0,0), ([.inl ((1,1,0),none),.inl ((0,0,0),none),.inl ((4,4,0),none)],[]), [], [(some (.inl ((1,1,0),none)),[],[])])
def q417_P : rfP := (flX12,csX12,lcX12,spX12,[],[],[],([],[]))
def q417_U : rfU := []
set_option maxHeartbeats 8000000 in
def q417_N : List rfB := [(0,([(0,.inl ((1,1,0),none)),(1,.inl ((0,0,0),none)),(2,.inl ((4,4,0),none))],[],[]),(8,[]),0)]
set_option maxRecDepth 100000 in
theorem q417_ok : rf_chkB q417_P q417_U wLay q417_M ddX12_isIn [] [] [0] 600 q417_N = true := by decide +kernel
set_option maxHeartbeats 4000000 in
theorem q417_met {G : rfG} (h : okG G) : rf_met G q417_M := rf_methodB h.1 (P := q417_P) (U := q417_U) (N := q417_N) ⟨wflT h flokX12, wcsT h csokX12, wlcT h lcokX12, spokX12 h, fun _ h => absurd h List.not_mem_nil, fun _ h => absurd h List.not_mem_nil, fun _ h => absurd h List.not_mem_nil, fun _ h => absurd h List.not_mem_nil, fun _ h => absurd h List.not_mem_nil⟩ dkX12_isIn (by decide +kernel) (by rw [h.2.2.1]; exact q417_ok)
/-- NearSpellModel.power -/
def q418_M : rfM := ((⟨"NearSpellModel", "power", "(II)I"⟩, prog_14_method_39_code, 4, (some .int)), (0,0), ([.inl ((100,100,0),none),.inl ((1,1,0),none)],[]), [], [(some (.inl ((100,100,0),none)),[],[])])
def q418_P : rfP := (flX12,csX12,lcX12,spX12,[],[],[],([],[]))
def q418_U : rfU := []
set_option maxHeartbeats 8000000 in
def q418_N : List rfB := [(0,([(0,.inl ((100,100,0),none)),(1,.inl ((1,1,0),none))],[],[]),(17,[]),0)]
set_option maxRecDepth 100000 in
theorem q418_ok : rf_chkB q418_P q418_U wLay q418_M ddX12_power [] [] [0] 23 q418_N = true := by decide +kernel
set_option maxHeartbeats 4000000 in
theorem q418_met {G : rfG} (h : okG G) : rf_met G q418_M := rf_methodB h.1 (P := q418_P) (U := q418_U) (N := q418_N) ⟨wflT h flokX12, wcsT h csokX12, wlcT h lcokX12, spokX12 h, fun _ h => absurd h List.not_mem_nil, fun _ h => absurd h List.not_mem_nil, fun _ h => absurd h List.not_mem_nil, fun _ h => absurd h List.not_mem_nil, fun _ h => absurd h List.not_mem_nil⟩ dkX12_power (by decide +kernel) (by rw [h.2.2.1]; exact q418_ok)
/-- NearSpellModel.odds -/
def q420_M : rfM := ((⟨"NearSpellModel", "odds", "(II)I"⟩, prog_14_method_115_code, 5, (some .int)), (3,124), ([.inr (.inl [114]),.inl ((1,1,0),none),.inl ((0,0,0),none)],[((78,0),(0,0,0),none),((114,28),(0,0,0),none)]), [], [(some (.inl ((1,1,1),none)),[],[])])
def q420_P : rfP := (flX12,csX12,lcX12,spX12,[q417_M,q409_M,q418_M,hq_dv100_M],[(334,0),(334,1),(477,2),(480,3)],[],([],[]))
def q420_U : rfU := []
set_option maxHeartbeats 8000000 in
def q420_N : List rfB := [(0,([(0,.inr (.inl [114])),(1,.inl ((1,1,0),none)),(2,.inl ((0,0,0),none))],[],[((78,0),(0,0,0),some ((78,0),0,0)),((114,28),(0,0,0),some ((114,28),0,0))]),(32,[]),0)]
set_option maxRecDepth 100000 in
theorem q420_ok : rf_chkB q420_P q420_U wLay q420_M ddX12_odds [(3,[0]),(12,[1]),(33,[2]),(40,[2]),(58,[3])] [] [0] 600 q420_N = true := by decide +kernel
set_option maxHeartbeats 4000000 in
theorem q420_met {G : rfG} (h : okG G) : rf_met G q420_M := rf_methodB h.1 (P := q420_P) (U := q420_U) (N := q420_N) ⟨wflT h flokX12, wcsT h csokX12, wlcT h lcokX12, spokX12 h, List.forall_mem_cons.mpr ⟨q417_met h, List.forall_mem_cons.mpr ⟨q409_met h, List.forall_mem_cons.mpr ⟨q418_met h, List.forall_mem_cons.mpr ⟨hq_dv100_met h, fun _ h => absurd h List.not_mem_nil⟩⟩⟩⟩, List.forall_mem_cons.mpr ⟨fun M hM => Option.some.inj (show some q417_M = some M from hM) ▸ wlkS (lkX12_334 h) q417_M rfl rfl, List.forall_mem_cons.mpr ⟨fun M hM => Option.some.inj (show some q409_M = some M from hM) ▸ wlkS (lkX12_334 h) q409_M rfl rfl, List.forall_mem_cons.mpr ⟨fun M hM => Option.some.inj (show some q418_M = some M from hM) ▸ wlkS (lkX12_477 h) q418_M rfl rfl, List.forall_mem_cons.mpr ⟨fun M hM => Option.some.inj (show some hq_dv100_M = some M from hM) ▸ wlkS (lkX12_480 h) hq_dv100_M rfl rfl, fun _ h => absurd h List.not_mem_nil⟩⟩⟩⟩, fun _ h => absurd h List.not_mem_nil, fun _ h => absurd h List.not_mem_nil, fun _ h => absurd h List.not_mem_nil⟩ dkX12_odds (by decide +kernel) (by rw [h.2.2.1]; exact q420_ok)
/-- NearSpell.odds -/
def q421_M : rfM := ((⟨"NearSpell", "odds", "(II)I"⟩, prog_1_method_39_code, 8, (some .int)), (3,125), ([.inr (.inl [70]),.inl ((1,1,0),none),.inl ((1,1,0),none)],[((5,8),(0,0,0),none),((10,8),(0,0,0),none)]), [], [(some (.inl ((1,1,0),none)),[],[])])
def q421_P : rfP := (flX11,csX11,lcX11,spX11,[hq_cd_M],[(315,0)],[],([],[]))
def q421_U : rfU := []
set_option maxHeartbeats 8000000 in
def q421_N : List rfB := [(0,([(0,.inr (.inl [70])),(1,.inl ((1,1,0),none)),(2,.inl ((1,1,0),none))],[],[((5,8),(0,0,0),some ((5,8),0,0)),((10,8),(0,0,0),some ((10,8),0,0))]),(55,[0]),0)]
set_option maxRecDepth 100000 in
theorem q421_ok : rf_chkB q421_P q421_U wLay q421_M ddX11_odds [(34,[0])] [.inl 7] [0] 53 q421_N = true := by decide +kernel
set_option maxHeartbeats 4000000 in
theorem q421_met {G : rfG} (h : okG G) : rf_met G q421_M := rf_methodB h.1 (P := q421_P) (U := q421_U) (N := q421_N) ⟨wflT h flokX11, wcsT h csokX11, wlcT h lcokX11, spokX11 h, List.forall_mem_cons.mpr ⟨hq_cd_met h, fun _ h => absurd h List.not_mem_nil⟩, List.forall_mem_cons.mpr ⟨fun M hM => Option.some.inj (show some hq_cd_M = some M from hM) ▸ wlkS (lkX11_315 h) hq_cd_M rfl rfl, fun _ h => absurd h List.not_mem_nil⟩, fun _ h => absurd h List.not_mem_nil, fun _ h => absurd h List.not_mem_nil, fun _ h => absurd h List.not_mem_nil⟩ dkX11_odds (by decide +kernel) (by rw [h.2.2.1]; exact q421_ok)
/-- NearSpellModel.odds -/
def q422_M : rfM := ((⟨"NearSpellModel", "odds", "(II)I"⟩, prog_14_method_115_code, 5, (some .int)), (3,124), ([.inr (.inl [114]),.inl ((1,1,0),none),.inl ((1,1,0),none)],[((78,0),(0,0,0),none),((114,28),(0,0,0),none)]), [], [(some (.inl ((1,1,1),none)),[],[])])
def q422_P : rfP := (flX12,csX12,lcX12,spX12,[q417_M,q414_M,q418_M,hq_dv100_M],[(334,0),(334,1),(477,2),(480,3)],[],([],[]))
def q422_U : rfU := []
set_option maxHeartbeats 8000000 in
def q422_N : List rfB := [(0,([(0,.inr (.inl [114])),(1,.inl ((1,1,0),none)),(2,.inl ((1,1,0),none))],[],[((78,0),(0,0,0),some ((78,0),0,0)),((114,28),(0,0,0),some ((114,28),0,0))]),(31,[]),0)]
set_option maxRecDepth 100000 in
theorem q422_ok : rf_chkB q422_P q422_U wLay q422_M ddX12_odds [(3,[0]),(12,[1]),(33,[2]),(40,[2]),(58,[3])] [] [0] 600 q422_N = true := by decide +kernel
set_option maxHeartbeats 4000000 in
theorem q422_met {G : rfG} (h : okG G) : rf_met G q422_M := rf_methodB h.1 (P := q422_P) (U := q422_U) (N := q422_N) ⟨wflT h flokX12, wcsT h csokX12, wlcT h lcokX12, spokX12 h, List.forall_mem_cons.mpr ⟨q417_met h, List.forall_mem_cons.mpr ⟨q414_met h, List.forall_mem_cons.mpr ⟨q418_met h, List.forall_mem_cons.mpr ⟨hq_dv100_met h, fun _ h => absurd h List.not_mem_nil⟩⟩⟩⟩, List.forall_mem_cons.mpr ⟨fun M hM => Option.some.inj (show some q417_M = some M from hM) ▸ wlkS (lkX12_334 h) q417_M rfl rfl, List.forall_mem_cons.mpr ⟨fun M hM => Option.some.inj (show some q414_M = some M from hM) ▸ wlkS (lkX12_334 h) q414_M rfl rfl, List.forall_mem_cons.mpr ⟨fun M hM => Option.some.inj (show some q418_M = some M from hM) ▸ wlkS (lkX12_477 h) q418_M rfl rfl, List.forall_mem_cons.mpr ⟨fun M hM => Option.some.inj (show some hq_dv100_M = some M from hM) ▸ wlkS (lkX12_480 h) hq_dv100_M rfl rfl, fun _ h => absurd h List.not_mem_nil⟩⟩⟩⟩, fun _ h => absurd h List.not_mem_nil, fun _ h => absurd h List.not_mem_nil, fun _ h => absurd h List.not_mem_nil⟩ dkX12_odds (by decide +kernel) (by rw [h.2.2.1]; exact q422_ok)
/-- NearSpell.odds -/
def q423_M : rfM := ((⟨"NearSpell", "odds", "(II)I"⟩, prog_1_method_39_code, 8, (some .int)), (3,125), ([.inr (.inl [70]),.inl ((2,2,0),none),.inl ((0,0,0),none)],[((5,8),(0,0,0),none),((10,8),(0,0,0),none)]), [], [(some (.inl ((1,1,0),none)),[],[])])
def q423_P : rfP := (flX11,csX11,lcX11,spX11,[hq_cd_M],[(315,0)],[],([],[]))
def q423_U : rfU := []
set_option maxHeartbeats 8000000 in
def q423_N : List rfB := [(0,([(0,.inr (.inl [70])),(1,.inl ((2,2,0),none)),(2,.inl ((0,0,0),none))],[],[((5,8),(0,0,0),some ((5,8),0,0)),((10,8),(0,0,0),some ((10,8),0,0))]),(66,[0]),0)]
set_option maxRecDepth 100000 in
theorem q423_ok : rf_chkB q423_P q423_U wLay q423_M ddX11_odds [(34,[0])] [.inl 7] [0] 63 q423_N = true := by decide +kernel
set_option maxHeartbeats 4000000 in
theorem q423_met {G : rfG} (h : okG G) : rf_met G q423_M := rf_methodB h.1 (P := q423_P) (U := q423_U) (N := q423_N) ⟨wflT h flokX11, wcsT h csokX11, wlcT h lcokX11, spokX11 h, List.forall_mem_cons.mpr ⟨hq_cd_met h, fun _ h => absurd h List.not_mem_nil⟩, List.forall_mem_cons.mpr ⟨fun M hM => Option.some.inj (show some hq_cd_M = some M from hM) ▸ wlkS (lkX11_315 h) hq_cd_M rfl rfl, fun _ h => absurd h List.not_mem_nil⟩, fun _ h => absurd h List.not_mem_nil, fun _ h => absurd h List.not_mem_nil, fun _ h => absurd h List.not_mem_nil⟩ dkX11_odds (by decide +kernel) (by rw [h.2.2.1]; exact q423_ok)
/-- NearSpellModel.isIn -/
def q424_M : rfM := ((⟨"NearSpellModel", "isIn", "(III)Z"⟩, prog_14_method_35_code, 3, (some .boolean)), (0,0), ([.inl ((2,2,0),none),.inl ((0,0,0),none),.inl ((4,4,0),none)],[]), [], [(some (.inl ((1,1,0),none)),[],[])])
def q424_P : rfP := (flX12,csX12,lcX12,spX12,[],[],[],([],[]))
def q424_U : rfU := []
set_option maxHeartbeats 8000000 in
def q424_N : List rfB := [(0,([(0,.inl ((2,2,0),none)),(1,.inl ((0,0,0),none)),(2,.inl ((4,4,0),none))],[],[]),(8,[]),0)]
set_option maxRecDepth 100000 in
theorem q424_ok : rf_chkB q424_P q424_U wLay q424_M ddX12_isIn [] [] [0] 600 q424_N = true := by decide +kernel
set_option maxHeartbeats 4000000 in
theorem q424_met {G : rfG} (h : okG G) : rf_met G q424_M := rf_methodB h.1 (P := q424_P) (U := q424_U) (N := q424_N) ⟨wflT h flokX12, wcsT h csokX12, wlcT h lcokX12, spokX12 h, fun _ h => absurd h List.not_mem_nil, fun _ h => absurd h List.not_mem_nil, fun _ h => absurd h List.not_mem_nil, fun _ h => absurd h List.not_mem_nil, fun _ h => absurd h List.not_mem_nil⟩ dkX12_isIn (by decide +kernel) (by rw [h.2.2.1]; exact q424_ok)
/-- NearSpellModel.power -/
def q425_M : rfM := ((⟨"NearSpellModel", "power", "(II)I"⟩, prog_14_method_39_code, 4, (some .int)), (0,0), ([.inl ((100,100,0),none),.inl ((2,2,0),none)],[]), [], [(some (.inl ((10000,10000,0),none)),[],[])])
def q425_P : rfP := (flX12,csX12,lcX12,spX12,[],[],[],([],[]))
def q425_U : rfU := []
set_option maxHeartbeats 8000000 in
def q425_N : List rfB := [(0,([(0,.inl ((100,100,0),none)),(1,.inl ((2,2,0),none))],[],[]),(26,[]),0)]
set_option maxRecDepth 100000 in
theorem q425_ok : rf_chkB q425_P q425_U wLay q425_M ddX12_power [] [] [0] 32 q425_N = true := by decide +kernel
set_option maxHeartbeats 4000000 in
theorem q425_met {G : rfG} (h : okG G) : rf_met G q425_M := rf_methodB h.1 (P := q425_P) (U := q425_U) (N := q425_N) ⟨wflT h flokX12, wcsT h csokX12, wlcT h lcokX12, spokX12 h, fun _ h => absurd h List.not_mem_nil, fun _ h => absurd h List.not_mem_nil, fun _ h => absurd h List.not_mem_nil, fun _ h => absurd h List.not_mem_nil, fun _ h => absurd h List.not_mem_nil⟩ dkX12_power (by decide +kernel) (by rw [h.2.2.1]; exact q425_ok)
/-- NearSpellModel.odds -/
def q427_M : rfM := ((⟨"NearSpellModel", "odds", "(II)I"⟩, prog_14_method_115_code, 5, (some .int)), (3,124), ([.inr (.inl [114]),.inl ((2,2,0),none),.inl ((0,0,0),none)],[((78,0),(0,0,0),none),((114,28),(0,0,0),none)]), [], [(some (.inl ((1,1,1),none)),[],[])])
def q427_P : rfP := (flX12,csX12,lcX12,spX12,[q424_M,q409_M,q425_M,hq_dv10000_M],[(334,0),(334,1),(477,2),(480,3)],[],([],[]))
def q427_U : rfU := []
set_option maxHeartbeats 8000000 in
def q427_N : List rfB := [(0,([(0,.inr (.inl [114])),(1,.inl ((2,2,0),none)),(2,.inl ((0,0,0),none))],[],[((78,0),(0,0,0),some ((78,0),0,0)),((114,28),(0,0,0),some ((114,28),0,0))]),(32,[]),0)]
set_option maxRecDepth 100000 in
theorem q427_ok : rf_chkB q427_P q427_U wLay q427_M ddX12_odds [(3,[0]),(12,[1]),(33,[2]),(40,[2]),(58,[3])] [] [0] 600 q427_N = true := by decide +kernel
set_option maxHeartbeats 4000000 in
theorem q427_met {G : rfG} (h : okG G) : rf_met G q427_M := rf_methodB h.1 (P := q427_P) (U := q427_U) (N := q427_N) ⟨wflT h flokX12, wcsT h csokX12, wlcT h lcokX12, spokX12 h, List.forall_mem_cons.mpr ⟨q424_met h, List.forall_mem_cons.mpr ⟨q409_met h, List.forall_mem_cons.mpr ⟨q425_met h, List.forall_mem_cons.mpr ⟨hq_dv10000_met h, fun _ h => absurd h List.not_mem_nil⟩⟩⟩⟩, List.forall_mem_cons.mpr ⟨fun M hM => Option.some.inj (show some q424_M = some M from hM) ▸ wlkS (lkX12_334 h) q424_M rfl rfl, List.forall_mem_cons.mpr ⟨fun M hM => Option.some.inj (show some q409_M = some M from hM) ▸ wlkS (lkX12_334 h) q409_M rfl rfl, List.forall_mem_cons.mpr ⟨fun M hM => Option.some.inj (show some q425_M = some M from hM) ▸ wlkS (lkX12_477 h) q425_M rfl rfl, List.forall_mem_cons.mpr ⟨fun M hM => Option.some.inj (show some hq_dv10000_M = some M from hM) ▸ wlkS (lkX12_480 h) hq_dv10000_M rfl rfl, fun _ h => absurd h List.not_mem_nil⟩⟩⟩⟩, fun _ h => absurd h List.not_mem_nil, fun _ h => absurd h List.not_mem_nil, fun _ h => absurd h List.not_mem_nil⟩ dkX12_odds (by decide +kernel) (by rw [h.2.2.1]; exact q427_ok)
/-- NearSpell.odds -/
def q428_M : rfM := ((⟨"NearSpell", "odds", "(II)I"⟩, prog_1_method_39_code, 8, (some .int)), (3,125), ([.inr (.inl [70]),.inl ((2,2,0),none),.inl ((1,1,0),none)],[((5,8),(0,0,0),none),((10,8),(0,0,0),none)]), [], [(some (.inl ((1,1,0),none)),[],[])])
def q428_P : rfP := (flX11,csX11,lcX11,spX11,[hq_cd_M],[(315,0)],[],([],[]))
def q428_U : rfU := []
set_option maxHeartbeats 8000000 in
def q428_N : List rfB := [(0,([(0,.inr (.inl [70])),(1,.inl ((2,2,0),none)),(2,.inl ((1,1,0),none))],[],[((5,8),(0,0,0),some ((5,8),0,0)),((10,8),(0,0,0),some ((10,8),0,0))]),(65,[0]),0)]
set_option maxRecDepth 100000 in
theorem q428_ok : rf_chkB q428_P q428_U wLay q428_M ddX11_odds [(34,[0])] [.inl 7] [0] 62 q428_N = true := by decide +kernel
set_option maxHeartbeats 4000000 in
theorem q428_met {G : rfG} (h : okG G) : rf_met G q428_M := rf_methodB h.1 (P := q428_P) (U := q428_U) (N := q428_N) ⟨wflT h flokX11, wcsT h csokX11, wlcT h lcokX11, spokX11 h, List.forall_mem_cons.mpr ⟨hq_cd_met h, fun _ h => absurd h List.not_mem_nil⟩, List.forall_mem_cons.mpr ⟨fun M hM => Option.some.inj (show some hq_cd_M = some M from hM) ▸ wlkS (lkX11_315 h) hq_cd_M rfl rfl, fun _ h => absurd h List.not_mem_nil⟩, fun _ h => absurd h List.not_mem_nil, fun _ h => absurd h List.not_mem_nil, fun _ h => absurd h List.not_mem_nil⟩ dkX11_odds (by decide +kernel) (by rw [h.2.2.1]; exact q428_ok)
/-- NearSpellModel.odds -/
def q429_M : rfM := ((⟨"NearSpellModel", "odds", "(II)I"⟩, prog_14_method_115_code, 5, (some .int)), (3,124), ([.inr (.inl [114]),.inl ((2,2,0),none),.inl ((1,1,0),none)],[((78,0),(0,0,0),none),((114,28),(0,0,0),none)]), [], [(some (.inl ((1,1,1),none)),[],[])])
def q429_P : rfP := (flX12,csX12,lcX12,spX12,[q424_M,q414_M,q425_M,hq_dv10000_M],[(334,0),(334,1),(477,2),(480,3)],[],([],[]))
def q429_U : rfU := []
set_option maxHeartbeats 8000000 in
def q429_N : List rfB := [(0,([(0,.inr (.inl [114])),(1,.inl ((2,2,0),none)),(2,.inl ((1,1,0),none))],[],[((78,0),(0,0,0),some ((78,0),0,0)),((114,28),(0,0,0),some ((114,28),0,0))]),(31,[]),0)]
set_option maxRecDepth 100000 in
theorem q429_ok : rf_chkB q429_P q429_U wLay q429_M ddX12_odds [(3,[0]),(12,[1]),(33,[2]),(40,[2]),(58,[3])] [] [0] 600 q429_N = true := by decide +kernel
set_option maxHeartbeats 4000000 in
theorem q429_met {G : rfG} (h : okG G) : rf_met G q429_M := rf_methodB h.1 (P := q429_P) (U := q429_U) (N := q429_N) ⟨wflT h flokX12, wcsT h csokX12, wlcT h lcokX12, spokX12 h, List.forall_mem_cons.mpr ⟨q424_met h, List.forall_mem_cons.mpr ⟨q414_met h, List.forall_mem_cons.mpr ⟨q425_met h, List.forall_mem_cons.mpr ⟨hq_dv10000_met h, fun _ h => absurd h List.not_mem_nil⟩⟩⟩⟩, List.forall_mem_cons.mpr ⟨fun M hM => Option.some.inj (show some q424_M = some M from hM) ▸ wlkS (lkX12_334 h) q424_M rfl rfl, List.forall_mem_cons.mpr ⟨fun M hM => Option.some.inj (show some q414_M = some M from hM) ▸ wlkS (lkX12_334 h) q414_M rfl rfl, List.forall_mem_cons.mpr ⟨fun M hM => Option.some.inj (show some q425_M = some M from hM) ▸ wlkS (lkX12_477 h) q425_M rfl rfl, List.forall_mem_cons.mpr ⟨fun M hM => Option.some.inj (show some hq_dv10000_M = some M from hM) ▸ wlkS (lkX12_480 h) hq_dv10000_M rfl rfl, fun _ h => absurd h List.not_mem_nil⟩⟩⟩⟩, fun _ h => absurd h List.not_mem_nil, fun _ h => absurd h List.not_mem_nil, fun _ h => absurd h List.not_mem_nil⟩ dkX12_odds (by decide +kernel) (by rw [h.2.2.1]; exact q429_ok)
/-- NearSpell.odds -/
def q430_M : rfM := ((⟨"NearSpell", "odds", "(II)I"⟩, prog_1_method_39_code, 8, (some .int)), (3,125), ([.inr (.inl [70]),.inl ((3,3,0),none),.inl ((0,0,0),none)],[((5,8),(0,0,0),none),((10,8),(0,0,0),none)]), [], [(some (.inl ((1,1,0),none)),[],[])])
def q430_P : rfP := (flX11,csX11,lcX11,spX11,[hq_cd_M],[(315,0)],[],([],[]))
def q430_U : rfU := []
set_option maxHeartbeats 8000000 in
def q430_N : List rfB := [(0,([(0,.inr (.inl [70])),(1,.inl ((3,3,0),none)),(2,.inl ((0,0,0),none))],[],[((5,8),(0,0,0),some ((5,8),0,0)),((10,8),(0,0,0),some ((10,8),0,0))]),(76,[0]),0)]
set_option maxRecDepth 100000 in
theorem q430_ok : rf_chkB q430_P q430_U wLay q430_M ddX11_odds [(34,[0])] [.inl 7] [0] 72 q430_N = true := by decide +kernel
set_option maxHeartbeats 4000000 in
theorem q430_met {G : rfG} (h : okG G) : rf_met G q430_M := rf_methodB h.1 (P := q430_P) (U := q430_U) (N := q430_N) ⟨wflT h flokX11, wcsT h csokX11, wlcT h lcokX11, spokX11 h, List.forall_mem_cons.mpr ⟨hq_cd_met h, fun _ h => absurd h List.not_mem_nil⟩, List.forall_mem_cons.mpr ⟨fun M hM => Option.some.inj (show some hq_cd_M = some M from hM) ▸ wlkS (lkX11_315 h) hq_cd_M rfl rfl, fun _ h => absurd h List.not_mem_nil⟩, fun _ h => absurd h List.not_mem_nil, fun _ h => absurd h List.not_mem_nil, fun _ h => absurd h List.not_mem_nil⟩ dkX11_odds (by decide +kernel) (by rw [h.2.2.1]; exact q430_ok)
/-- NearSpellModel.isIn -/
def q431_M : rfM := ((⟨"NearSpellModel", "isIn", "(III)Z"⟩, prog_14_method_35_code, 3, (some .boolean)), (0,0), ([.inl ((3,3,0),none),.inl ((0,0,0),none),.inl ((4,4,0),none)],[]), [], [(some (.inl ((1,1,0),none)),[],[])])
def q431_P : rfP := (flX12,csX12,lcX12,spX12,[],[],[],([],[]))
def q431_U : rfU := []
set_option maxHeartbeats 8000000 in
def q431_N : List rfB := [(0,([(0,.inl ((3,3,0),none)),(1,.inl ((0,0,0),none)),(2,.inl ((4,4,0),none))],[],[]),(8,[]),0)]
set_option maxRecDepth 100000 in
theorem q431_ok : rf_chkB q431_P q431_U wLay q431_M ddX12_isIn [] [] [0] 600 q431_N = true := by decide +kernel
set_option maxHeartbeats 4000000 in
theorem q431_met {G : rfG} (h : okG G) : rf_met G q431_M := rf_methodB h.1 (P := q431_P) (U := q431_U) (N := q431_N) ⟨wflT h flokX12, wcsT h csokX12, wlcT h lcokX12, spokX12 h, fun _ h => absurd h List.not_mem_nil, fun _ h => absurd h List.not_mem_nil, fun _ h => absurd h List.not_mem_nil, fun _ h => absurd h List.not_mem_nil, fun _ h => absurd h List.not_mem_nil⟩ dkX12_isIn (by decide +kernel) (by rw [h.2.2.1]; exact q431_ok)
/-- NearSpellModel.power -/
def q432_M : rfM := ((⟨"NearSpellModel", "power", "(II)I"⟩, prog_14_method_39_code, 4, (some .int)), (0,0), ([.inl ((100,100,0),none),.inl ((3,3,0),none)],[]), [], [(some (.inl ((1000000,1000000,0),none)),[],[])])
def q432_P : rfP := (flX12,csX12,lcX12,spX12,[],[],[],([],[]))
def q432_U : rfU := []
set_option maxHeartbeats 8000000 in
def q432_N : List rfB := [(0,([(0,.inl ((100,100,0),none)),(1,.inl ((3,3,0),none))],[],[]),(35,[]),0)]
set_option maxRecDepth 100000 in
theorem q432_ok : rf_chkB q432_P q432_U wLay q432_M ddX12_power [] [] [0] 41 q432_N = true := by decide +kernel
set_option maxHeartbeats 4000000 in
theorem q432_met {G : rfG} (h : okG G) : rf_met G q432_M := rf_methodB h.1 (P := q432_P) (U := q432_U) (N := q432_N) ⟨wflT h flokX12, wcsT h csokX12, wlcT h lcokX12, spokX12 h, fun _ h => absurd h List.not_mem_nil, fun _ h => absurd h List.not_mem_nil, fun _ h => absurd h List.not_mem_nil, fun _ h => absurd h List.not_mem_nil, fun _ h => absurd h List.not_mem_nil⟩ dkX12_power (by decide +kernel) (by rw [h.2.2.1]; exact q432_ok)
/-- NearSpellModel.odds -/
def q434_M : rfM := ((⟨"NearSpellModel", "odds", "(II)I"⟩, prog_14_method_115_code, 5, (some .int)), (3,124), ([.inr (.inl [114]),.inl ((3,3,0),none),.inl ((0,0,0),none)],[((78,0),(0,0,0),none),((114,28),(0,0,0),none)]), [], [(some (.inl ((1,1,1),none)),[],[])])
def q434_P : rfP := (flX12,csX12,lcX12,spX12,[q431_M,q409_M,q432_M,hq_dv1000000_M],[(334,0),(334,1),(477,2),(480,3)],[],([],[]))
def q434_U : rfU := []
set_option maxHeartbeats 8000000 in
def q434_N : List rfB := [(0,([(0,.inr (.inl [114])),(1,.inl ((3,3,0),none)),(2,.inl ((0,0,0),none))],[],[((78,0),(0,0,0),some ((78,0),0,0)),((114,28),(0,0,0),some ((114,28),0,0))]),(32,[]),0)]
set_option maxRecDepth 100000 in
theorem q434_ok : rf_chkB q434_P q434_U wLay q434_M ddX12_odds [(3,[0]),(12,[1]),(33,[2]),(40,[2]),(58,[3])] [] [0] 600 q434_N = true := by decide +kernel
set_option maxHeartbeats 4000000 in
theorem q434_met {G : rfG} (h : okG G) : rf_met G q434_M := rf_methodB h.1 (P := q434_P) (U := q434_U) (N := q434_N) ⟨wflT h flokX12, wcsT h csokX12, wlcT h lcokX12, spokX12 h, List.forall_mem_cons.mpr ⟨q431_met h, List.forall_mem_cons.mpr ⟨q409_met h, List.forall_mem_cons.mpr ⟨q432_met h, List.forall_mem_cons.mpr ⟨hq_dv1000000_met h, fun _ h => absurd h List.not_mem_nil⟩⟩⟩⟩, List.forall_mem_cons.mpr ⟨fun M hM => Option.some.inj (show some q431_M = some M from hM) ▸ wlkS (lkX12_334 h) q431_M rfl rfl, List.forall_mem_cons.mpr ⟨fun M hM => Option.some.inj (show some q409_M = some M from hM) ▸ wlkS (lkX12_334 h) q409_M rfl rfl, List.forall_mem_cons.mpr ⟨fun M hM => Option.some.inj (show some q432_M = some M from hM) ▸ wlkS (lkX12_477 h) q432_M rfl rfl, List.forall_mem_cons.mpr ⟨fun M hM => Option.some.inj (show some hq_dv1000000_M = some M from hM) ▸ wlkS (lkX12_480 h) hq_dv1000000_M rfl rfl, fun _ h => absurd h List.not_mem_nil⟩⟩⟩⟩, fun _ h => absurd h List.not_mem_nil, fun _ h => absurd h List.not_mem_nil, fun _ h => absurd h List.not_mem_nil⟩ dkX12_odds (by decide +kernel) (by rw [h.2.2.1]; exact q434_ok)
/-- NearSpell.odds -/
def q435_M : rfM := ((⟨"NearSpell", "odds", "(II)I"⟩, prog_1_method_39_code, 8, (some .int)), (3,125), ([.inr (.inl [70]),.inl ((3,3,0),none),.inl ((1,1,0),none)],[((5,8),(0,0,0),none),((10,8),(0,0,0),none)]), [], [(some (.inl ((1,1,0),none)),[],[])])
def q435_P : rfP := (flX11,csX11,lcX11,spX11,[hq_cd_M],[(315,0)],[],([],[]))
def q435_U : rfU := []
set_option maxHeartbeats 8000000 in
def q435_N : List rfB := [(0,([(0,.inr (.inl [70])),(1,.inl ((3,3,0),none)),(2,.inl ((1,1,0),none))],[],[((5,8),(0,0,0),some ((5,8),0,0)),((10,8),(0,0,0),some ((10,8),0,0))]),(75,[0]),0)]
set_option maxRecDepth 100000 in
theorem q435_ok : rf_chkB q435_P q435_U wLay q435_M ddX11_odds [(34,[0])] [.inl 7] [0] 71 q435_N = true := by decide +kernel
set_option maxHeartbeats 4000000 in
theorem q435_met {G : rfG} (h : okG G) : rf_met G q435_M := rf_methodB h.1 (P := q435_P) (U := q435_U) (N := q435_N) ⟨wflT h flokX11, wcsT h csokX11, wlcT h lcokX11, spokX11 h, List.forall_mem_cons.mpr ⟨hq_cd_met h, fun _ h => absurd h List.not_mem_nil⟩, List.forall_mem_cons.mpr ⟨fun M hM => Option.some.inj (show some hq_cd_M = some M from hM) ▸ wlkS (lkX11_315 h) hq_cd_M rfl rfl, fun _ h => absurd h List.not_mem_nil⟩, fun _ h => absurd h List.not_mem_nil, fun _ h => absurd h List.not_mem_nil, fun _ h => absurd h List.not_mem_nil⟩ dkX11_odds (by decide +kernel) (by rw [h.2.2.1]; exact q435_ok)
/-- NearSpellModel.odds -/
def q436_M : rfM := ((⟨"NearSpellModel", "odds", "(II)I"⟩, prog_14_method_115_code, 5, (some .int)), (3,124), ([.inr (.inl [114]),.inl ((3,3,0),none),.inl ((1,1,0),none)],[((78,0),(0,0,0),none),((114,28),(0,0,0),none)]), [], [(some (.inl ((1,1,1),none)),[],[])])
def q436_P : rfP := (flX12,csX12,lcX12,spX12,[q431_M,q414_M,q432_M,hq_dv1000000_M],[(334,0),(334,1),(477,2),(480,3)],[],([],[]))
def q436_U : rfU := []
set_option maxHeartbeats 8000000 in
def q436_N : List rfB := [(0,([(0,.inr (.inl [114])),(1,.inl ((3,3,0),none)),(2,.inl ((1,1,0),none))],[],[((78,0),(0,0,0),some ((78,0),0,0)),((114,28),(0,0,0),some ((114,28),0,0))]),(31,[]),0)]
set_option maxRecDepth 100000 in
theorem q436_ok : rf_chkB q436_P q436_U wLay q436_M ddX12_odds [(3,[0]),(12,[1]),(33,[2]),(40,[2]),(58,[3])] [] [0] 600 q436_N = true := by decide +kernel
set_option maxHeartbeats 4000000 in
theorem q436_met {G : rfG} (h : okG G) : rf_met G q436_M := rf_methodB h.1 (P := q436_P) (U := q436_U) (N := q436_N) ⟨wflT h flokX12, wcsT h csokX12, wlcT h lcokX12, spokX12 h, List.forall_mem_cons.mpr ⟨q431_met h, List.forall_mem_cons.mpr ⟨q414_met h, List.forall_mem_cons.mpr ⟨q432_met h, List.forall_mem_cons.mpr ⟨hq_dv1000000_met h, fun _ h => absurd h List.not_mem_nil⟩⟩⟩⟩, List.forall_mem_cons.mpr ⟨fun M hM => Option.some.inj (show some q431_M = some M from hM) ▸ wlkS (lkX12_334 h) q431_M rfl rfl, List.forall_mem_cons.mpr ⟨fun M hM => Option.some.inj (show some q414_M = some M from hM) ▸ wlkS (lkX12_334 h) q414_M rfl rfl, List.forall_mem_cons.mpr ⟨fun M hM => Option.some.inj (show some q432_M = some M from hM) ▸ wlkS (lkX12_477 h) q432_M rfl rfl, List.forall_mem_cons.mpr ⟨fun M hM => Option.some.inj (show some hq_dv1000000_M = some M from hM) ▸ wlkS (lkX12_480 h) hq_dv1000000_M rfl rfl, fun _ h => absurd h List.not_mem_nil⟩⟩⟩⟩, fun _ h => absurd h List.not_mem_nil, fun _ h => absurd h List.not_mem_nil, fun _ h => absurd h List.not_mem_nil⟩ dkX12_odds (by decide +kernel) (by rw [h.2.2.1]; exact q436_ok)
/-- NearSpell.odds -/
def q437_M : rfM := ((⟨"NearSpell", "odds", "(II)I"⟩, prog_1_method_39_code, 8, (some .int)), (3,125), ([.inr (.inl [70]),.inl ((4,4,0),none),.inl ((0,0,0),none)],[((5,8),(0,0,0),none),((10,8),(0,0,0),none)]), [], [(some (.inl ((1,1,0),none)),[],[])])
def q437_P : rfP := (flX11,csX11,lcX11,spX11,[hq_cd_M],[(315,0)],[],([],[]))
def q437_U : rfU := []
set_option maxHeartbeats 8000000 in
def q437_N : List rfB := [(0,([(0,.inr (.inl [70])),(1,.inl ((4,4,0),none)),(2,.inl ((0,0,0),none))],[],[((5,8),(0,0,0),some ((5,8),0,0)),((10,8),(0,0,0),some ((10,8),0,0))]),(86,[0]),0)]
set_option maxRecDepth 100000 in
theorem q437_ok : rf_chkB q437_P q437_U wLay q437_M ddX11_odds [(34,[0])] [.inl 7] [0] 81 q437_N = true := by decide +kernel
set_option maxHeartbeats 4000000 in
theorem q437_met {G : rfG} (h : okG G) : rf_met G q437_M := rf_methodB h.1 (P := q437_P) (U := q437_U) (N := q437_N) ⟨wflT h flokX11, wcsT h csokX11, wlcT h lcokX11, spokX11 h, List.forall_mem_cons.mpr ⟨hq_cd_met h, fun _ h => absurd h List.not_mem_nil⟩, List.forall_mem_cons.mpr ⟨fun M hM => Option.some.inj (show some hq_cd_M = some M from hM) ▸ wlkS (lkX11_315 h) hq_cd_M rfl rfl, fun _ h => absurd h List.not_mem_nil⟩, fun _ h => absurd h List.not_mem_nil, fun _ h => absurd h List.not_mem_nil, fun _ h => absurd h List.not_mem_nil⟩ dkX11_odds (by decide +kernel) (by rw [h.2.2.1]; exact q437_ok)
/-- NearSpellModel.isIn -/
def q438_M : rfM := ((⟨"NearSpellModel", "isIn", "(III)Z"⟩, prog_14_method_35_code, 3, (some .boolean)), (0,0), ([.inl ((4,4,0),none),.inl ((0,0,0),none),.inl ((4,4,0),none)],[]), [], [(some (.inl ((1,1,0),none)),[],[])])
def q438_P : rfP := (flX12,csX12,lcX12,spX12,[],[],[],([],[]))
def q438_U : rfU := []
set_option maxHeartbeats 8000000 in
def q438_N : List rfB := [(0,([(0,.inl ((4,4,0),none)),(1,.inl ((0,0,0),none)),(2,.inl ((4,4,0),none))],[],[]),(8,[]),0)]
set_option maxRecDepth 100000 in
theorem q438_ok : rf_chkB q438_P q438_U wLay q438_M ddX12_isIn [] [] [0] 600 q438_N = true := by decide +kernel
set_option maxHeartbeats 4000000 in
theorem q438_met {G : rfG} (h : okG G) : rf_met G q438_M := rf_methodB h.1 (P := q438_P) (U := q438_U) (N := q438_N) ⟨wflT h flokX12, wcsT h csokX12, wlcT h lcokX12, spokX12 h, fun _ h => absurd h List.not_mem_nil, fun _ h => absurd h List.not_mem_nil, fun _ h => absurd h List.not_mem_nil, fun _ h => absurd h List.not_mem_nil, fun _ h => absurd h List.not_mem_nil⟩ dkX12_isIn (by decide +kernel) (by rw [h.2.2.1]; exact q438_ok)
/-- NearSpellModel.power -/
def q439_M : rfM := ((⟨"NearSpellModel", "power", "(II)I"⟩, prog_14_method_39_code, 4, (some .int)), (0,0), ([.inl ((100,100,0),none),.inl ((4,4,0),none)],[]), [], [(some (.inl ((100000000,100000000,0),none)),[],[])])
def q439_P : rfP := (flX12,csX12,lcX12,spX12,[],[],[],([],[]))
def q439_U : rfU := []
set_option maxHeartbeats 8000000 in
def q439_N : List rfB := [(0,([(0,.inl ((100,100,0),none)),(1,.inl ((4,4,0),none))],[],[]),(44,[]),0)]
set_option maxRecDepth 100000 in
theorem q439_ok : rf_chkB q439_P q439_U wLay q439_M ddX12_power [] [] [0] 50 q439_N = true := by decide +kernel
set_option maxHeartbeats 4000000 in
theorem q439_met {G : rfG} (h : okG G) : rf_met G q439_M := rf_methodB h.1 (P := q439_P) (U := q439_U) (N := q439_N) ⟨wflT h flokX12, wcsT h csokX12, wlcT h lcokX12, spokX12 h, fun _ h => absurd h List.not_mem_nil, fun _ h => absurd h List.not_mem_nil, fun _ h => absurd h List.not_mem_nil, fun _ h => absurd h List.not_mem_nil, fun _ h => absurd h List.not_mem_nil⟩ dkX12_power (by decide +kernel) (by rw [h.2.2.1]; exact q439_ok)
/-- NearSpellModel.odds -/
def q441_M : rfM := ((⟨"NearSpellModel", "odds", "(II)I"⟩, prog_14_method_115_code, 5, (some .int)), (3,124), ([.inr (.inl [114]),.inl ((4,4,0),none),.inl ((0,0,0),none)],[((78,0),(0,0,0),none),((114,28),(0,0,0),none)]), [], [(some (.inl ((1,1,1),none)),[],[])])
def q441_P : rfP := (flX12,csX12,lcX12,spX12,[q438_M,q409_M,q439_M,hq_dv100000000_M],[(334,0),(334,1),(477,2),(480,3)],[],([],[]))
def q441_U : rfU := []
set_option maxHeartbeats 8000000 in
def q441_N : List rfB := [(0,([(0,.inr (.inl [114])),(1,.inl ((4,4,0),none)),(2,.inl ((0,0,0),none))],[],[((78,0),(0,0,0),some ((78,0),0,0)),((114,28),(0,0,0),some ((114,28),0,0))]),(32,[]),0)]
set_option maxRecDepth 100000 in
theorem q441_ok : rf_chkB q441_P q441_U wLay q441_M ddX12_odds [(3,[0]),(12,[1]),(33,[2]),(40,[2]),(58,[3])] [] [0] 600 q441_N = true := by decide +kernel
set_option maxHeartbeats 4000000 in
theorem q441_met {G : rfG} (h : okG G) : rf_met G q441_M := rf_methodB h.1 (P := q441_P) (U := q441_U) (N := q441_N) ⟨wflT h flokX12, wcsT h csokX12, wlcT h lcokX12, spokX12 h, List.forall_mem_cons.mpr ⟨q438_met h, List.forall_mem_cons.mpr ⟨q409_met h, List.forall_mem_cons.mpr ⟨q439_met h, List.forall_mem_cons.mpr ⟨hq_dv100000000_met h, fun _ h => absurd h List.not_mem_nil⟩⟩⟩⟩, List.forall_mem_cons.mpr ⟨fun M hM => Option.some.inj (show some q438_M = some M from hM) ▸ wlkS (lkX12_334 h) q438_M rfl rfl, List.forall_mem_cons.mpr ⟨fun M hM => Option.some.inj (show some q409_M = some M from hM) ▸ wlkS (lkX12_334 h) q409_M rfl rfl, List.forall_mem_cons.mpr ⟨fun M hM => Option.some.inj (show some q439_M = some M from hM) ▸ wlkS (lkX12_477 h) q439_M rfl rfl, List.forall_mem_cons.mpr ⟨fun M hM => Option.some.inj (show some hq_dv100000000_M = some M from hM) ▸ wlkS (lkX12_480 h) hq_dv100000000_M rfl rfl, fun _ h => absurd h List.not_mem_nil⟩⟩⟩⟩, fun _ h => absurd h List.not_mem_nil, fun _ h => absurd h List.not_mem_nil, fun _ h => absurd h List.not_mem_nil⟩ dkX12_odds (by decide +kernel) (by rw [h.2.2.1]; exact q441_ok)
/-- NearSpell.odds -/
def q442_M : rfM := ((⟨"NearSpell", "odds", "(II)I"⟩, prog_1_method_39_code, 8, (some .int)), (3,125), ([.inr (.inl [70]),.inl ((4,4,0),none),.inl ((1,1,0),none)],[((5,8),(0,0,0),none),((10,8),(0,0,0),none)]), [], [(some (.inl ((1,1,0),none)),[],[])])
def q442_P : rfP := (flX11,csX11,lcX11,spX11,[hq_cd_M],[(315,0)],[],([],[]))
def q442_U : rfU := []
set_option maxHeartbeats 8000000 in
def q442_N : List rfB := [(0,([(0,.inr (.inl [70])),(1,.inl ((4,4,0),none)),(2,.inl ((1,1,0),none))],[],[((5,8),(0,0,0),some ((5,8),0,0)),((10,8),(0,0,0),some ((10,8),0,0))]),(85,[0]),0)]
set_option maxRecDepth 100000 in
theorem q442_ok : rf_chkB q442_P q442_U wLay q442_M ddX11_odds [(34,[0])] [.inl 7] [0] 80 q442_N = true := by decide +kernel
set_option maxHeartbeats 4000000 in
theorem q442_met {G : rfG} (h : okG G) : rf_met G q442_M := rf_methodB h.1 (P := q442_P) (U := q442_U) (N := q442_N) ⟨wflT h flokX11, wcsT h csokX11, wlcT h lcokX11, spokX11 h, List.forall_mem_cons.mpr ⟨hq_cd_met h, fun _ h => absurd h List.not_mem_nil⟩, List.forall_mem_cons.mpr ⟨fun M hM => Option.some.inj (show some hq_cd_M = some M from hM) ▸ wlkS (lkX11_315 h) hq_cd_M rfl rfl, fun _ h => absurd h List.not_mem_nil⟩, fun _ h => absurd h List.not_mem_nil, fun _ h => absurd h List.not_mem_nil, fun _ h => absurd h List.not_mem_nil⟩ dkX11_odds (by decide +kernel) (by rw [h.2.2.1]; exact q442_ok)
/-- NearSpellModel.odds -/
def q443_M : rfM := ((⟨"NearSpellModel", "odds", "(II)I"⟩, prog_14_method_115_code, 5, (some .int)), (3,124), ([.inr (.inl [114]),.inl ((4,4,0),none),.inl ((1,1,0),none)],[((78,0),(0,0,0),none),((114,28),(0,0,0),none)]), [], [(some (.inl ((1,1,1),none)),[],[])])
def q443_P : rfP := (flX12,csX12,lcX12,spX12,[q438_M,q414_M,q439_M,hq_dv100000000_M],[(334,0),(334,1),(477,2),(480,3)],[],([],[]))
def q443_U : rfU := []
set_option maxHeartbeats 8000000 in
def q443_N : List rfB := [(0,([(0,.inr (.inl [114])),(1,.inl ((4,4,0),none)),(2,.inl ((1,1,0),none))],[],[((78,0),(0,0,0),some ((78,0),0,0)),((114,28),(0,0,0),some ((114,28),0,0))]),(31,[]),0)]
set_option maxRecDepth 100000 in
theorem q443_ok : rf_chkB q443_P q443_U wLay q443_M ddX12_odds [(3,[0]),(12,[1]),(33,[2]),(40,[2]),(58,[3])] [] [0] 600 q443_N = true := by decide +kernel
set_option maxHeartbeats 4000000 in
theorem q443_met {G : rfG} (h : okG G) : rf_met G q443_M := rf_methodB h.1 (P := q443_P) (U := q443_U) (N := q443_N) ⟨wflT h flokX12, wcsT h csokX12, wlcT h lcokX12, spokX12 h, List.forall_mem_cons.mpr ⟨q438_met h, List.forall_mem_cons.mpr ⟨q414_met h, List.forall_mem_cons.mpr ⟨q439_met h, List.forall_mem_cons.mpr ⟨hq_dv100000000_met h, fun _ h => absurd h List.not_mem_nil⟩⟩⟩⟩, List.forall_mem_cons.mpr ⟨fun M hM => Option.some.inj (show some q438_M = some M from hM) ▸ wlkS (lkX12_334 h) q438_M rfl rfl, List.forall_mem_cons.mpr ⟨fun M hM => Option.some.inj (show some q414_M = some M from hM) ▸ wlkS (lkX12_334 h) q414_M rfl rfl, List.forall_mem_cons.mpr ⟨fun M hM => Option.some.inj (show some q439_M = some M from hM) ▸ wlkS (lkX12_477 h) q439_M rfl rfl, List.forall_mem_cons.mpr ⟨fun M hM => Option.some.inj (show some hq_dv100000000_M = some M from hM) ▸ wlkS (lkX12_480 h) hq_dv100000000_M rfl rfl, fun _ h => absurd h List.not_mem_nil⟩⟩⟩⟩, fun _ h => absurd h List.not_mem_nil, fun _ h => absurd h List.not_mem_nil, fun _ h => absurd h List.not_mem_nil⟩ dkX12_odds (by decide +kernel) (by rw [h.2.2.1]; exact q443_ok)
/-- NearSpell.lies -/
def q444_M : rfM := ((⟨"NearSpell", "lies", "(I)I"⟩, prog_1_method_40_code, 2, (some .int)), (0,0), ([.inr (.inl [70]),.inl (((-2147483648),2147483647,1),none)],[((70,14),(0,0,0),none)]), [], [(some (.inl (((-2),(-2),0),none)),[],[])])
def ddX11_lies : List (Nat × Instr × Nat) := [(0,.iload_n 1,1),(1,.ifCond .lt 29,3),(4,.iload_n 1,1),(5,.aload_n 0,1),(6,.getfield 104,3),(9,.if_icmp .ge 21,3),(12,.iload_n 1,1),(13,.aload_n 0,1),(14,.getfield 96,3),(17,.arraylength,1),(18,.if_icmp .ge 12,3),(21,.aload_n 0,1),(22,.getfield 96,3),(25,.iload_n 1,1),(26,.iaload,1),(27,.goto 5,3),(30,.bipush (-2),2),(32,.ireturn,1)]
set_option maxRecDepth 100000 in
theorem dkX11_lies : rf_decs prog_1_method_40_code ddX11_lies := rf_decs_of (by decide +kernel)
def q444_P : rfP := (flX11,csX11,lcX11,spX11,[],[],[],([],[]))
def q444_U : rfU := []
set_option maxHeartbeats 8000000 in
def q444_N : List rfB := [(0,([(0,.inr (.inl [70])),(1,.inl (((-2147483648),2147483647,1),none))],[],[((70,14),(0,0,0),some ((70,14),0,0))]),(7,[]),0)]
set_option maxRecDepth 100000 in
theorem q444_ok : rf_chkB q444_P q444_U wLay q444_M ddX11_lies [] [] [0] 13 q444_N = true := by decide +kernel
set_option maxHeartbeats 4000000 in
theorem q444_met {G : rfG} (h : okG G) : rf_met G q444_M := rf_methodB h.1 (P := q444_P) (U := q444_U) (N := q444_N) ⟨wflT h flokX11, wcsT h csokX11, wlcT h lcokX11, spokX11 h, fun _ h => absurd h List.not_mem_nil, fun _ h => absurd h List.not_mem_nil, fun _ h => absurd h List.not_mem_nil, fun _ h => absurd h List.not_mem_nil, fun _ h => absurd h List.not_mem_nil⟩ dkX11_lies (by decide +kernel) (by rw [h.2.2.1]; exact q444_ok)
/-- NearSpellModel.lies -/
def q445_M : rfM := ((⟨"NearSpellModel", "lies", "(I)I"⟩, prog_14_method_71_code, 2, (some .int)), (1,22), ([.inr (.inl [114]),.inl (((-2147483648),2147483647,1),none)],[((114,48),(0,0,0),none)]), [], [(some (.inl (((-2),(-2),0),none)),[],[])])
def ddX12_lies : List (Nat × Instr × Nat) := [(0,.iload_n 1,1),(1,.iconst 0,1),(2,.aload_n 0,1),(3,.getfield 347,3),(6,.iconst 1,1),(7,.isub,1),(8,.invokestatic 334,3),(11,.ifCond .eq 12,3),(14,.aload_n 0,1),(15,.getfield 99,3),(18,.iload_n 1,1),(19,.iaload,1),(20,.goto 5,3),(23,.bipush (-2),2),(25,.ireturn,1)]
set_option maxRecDepth 100000 in
theorem dkX12_lies : rf_decs prog_14_method_71_code ddX12_lies := rf_decs_of (by decide +kernel)
def q445_P : rfP := (flX12,csX12,lcX12,spX12,[q40_M],[(334,0)],[],([],[]))
def q445_U : rfU := []
set_option maxHeartbeats 8000000 in
def q445_N : List rfB := [(0,([(0,.inr (.inl [114])),(1,.inl (((-2147483648),2147483647,1),none))],[],[((114,48),(0,0,0),some ((114,48),0,0))]),(9,[]),0)]
set_option maxRecDepth 100000 in
theorem q445_ok : rf_chkB q445_P q445_U wLay q445_M ddX12_lies [(8,[0])] [] [0] 600 q445_N = true := by decide +kernel
set_option maxHeartbeats 4000000 in
theorem q445_met {G : rfG} (h : okG G) : rf_met G q445_M := rf_methodB h.1 (P := q445_P) (U := q445_U) (N := q445_N) ⟨wflT h flokX12, wcsT h csokX12, wlcT h lcokX12, spokX12 h, List.forall_mem_cons.mpr ⟨q40_met h, fun _ h => absurd h List.not_mem_nil⟩, List.forall_mem_cons.mpr ⟨fun M hM => Option.some.inj (show some q40_M = some M from hM) ▸ wlkS (lkX12_334 h) q40_M rfl rfl, fun _ h => absurd h List.not_mem_nil⟩, fun _ h => absurd h List.not_mem_nil, fun _ h => absurd h List.not_mem_nil, fun _ h => absurd h List.not_mem_nil⟩ dkX12_lies (by decide +kernel) (by rw [h.2.2.1]; exact q445_ok)
/-- NearSpell.isApart -/
def q446_M : rfM := ((⟨"NearSpell", "isApart", "(I)Z"⟩, prog_1_method_50_code, 1, (some .boolean)), (0,0), ([.inl (((-2147483648),2147483647,1),none)],[]), [], [(some (.inl ((1,1,0),none)),[(0,0,6)],[]),(some (.inl ((0,0,0),none)),[],[])])
def q446_P : rfP := (flX11,csX11,lcX11,spX11,[],[],[],([],[]))
def q446_U : rfU := []
set_option maxHeartbeats 8000000 in
def q446_N : List rfB := [(0,([(0,.inl (((-2147483648),2147483647,1),none))],[],[]),(9,[]),0)]
set_option maxRecDepth 100000 in
theorem q446_ok : rf_chkB q446_P q446_U wLay q446_M ddX11_isApart [] [] [0] 13 q446_N = true := by decide +kernel
set_option maxHeartbeats 4000000 in
theorem q446_met {G : rfG} (h : okG G) : rf_met G q446_M := rf_methodB h.1 (P := q446_P) (U := q446_U) (N := q446_N) ⟨wflT h flokX11, wcsT h csokX11, wlcT h lcokX11, spokX11 h, fun _ h => absurd h List.not_mem_nil, fun _ h => absurd h List.not_mem_nil, fun _ h => absurd h List.not_mem_nil, fun _ h => absurd h List.not_mem_nil, fun _ h => absurd h List.not_mem_nil⟩ dkX11_isApart (by decide +kernel) (by rw [h.2.2.1]; exact q446_ok)
/-- NearSpell.Witness.tell -/
def q447_M : rfM := ((⟨"NearSpell$Witness", "tell", "(IIZ)I"⟩, prog_12_method_4_code, 5, (some .int)), (0,0), ([.inr (.inl [68]),.inl ((0,387420488,1),none),.inl ((0,6,1),none),.inl ((0,1,1),none)],[((5,4),(0,0,0),none),((10,4),(0,0,0),none),((68,8),(0,0,0),none),((68,9),(0,0,0),none)]), [], [(some (.inl (((-1),(-1),0),none)),[],[])])
def ddX10_tell : List (Nat × Instr × Nat) := [(0,.aload_n 0,1),(1,.getfield 31,3),(4,.istore 4,2),(6,.aload_n 0,1),(7,.getfield 38,3),(10,.getfield 47,3),(13,.ifCond .eq 10,3),(16,.iload 4,2),(18,.bipush 30,2),(20,.if_icmp .lt 5,3),(23,.iconst (-1),1),(24,.ireturn,1),(25,.aload_n 0,1),(26,.getfield 11,3),(29,.iload 4,2),(31,.iload_n 1,1),(32,.iastore,1),(33,.aload_n 0,1),(34,.getfield 15,3),(37,.iload 4,2),(39,.iload_n 2,1),(40,.iastore,1),(41,.aload_n 0,1),(42,.getfield 18,3),(45,.iload 4,2),(47,.iload_n 3,1),(48,.bastore,1),(49,.aload_n 0,1),(50,.getfield 22,3),(53,.iload 4,2),(55,.aload_n 0,1),(56,.getfield 35,3),(59,.iastore,1),(60,.aload_n 0,1),(61,.getfield 25,3),(64,.iload 4,2),(66,.iconst (-1),1),(67,.iastore,1),(68,.aload_n 0,1),(69,.dup,1),(70,.getfield 31,3),(73,.iconst 1,1),(74,.iadd,1),(75,.putfield 31,3),(78,.iload 4,2),(80,.ireturn,1)]
set_option maxRecDepth 100000 in
theorem dkX10_tell : rf_decs prog_12_method_4_code ddX10_tell := rf_decs_of (by decide +kernel)
def q447_P : rfP := (flX10,csX10,lcX10,spX10,[],[],[],([],[]))
def q447_U : rfU := []
set_option maxHeartbeats 8000000 in
def q447_N : List rfB := [(0,([(0,.inr (.inl [68])),(1,.inl ((0,387420488,1),none)),(2,.inl ((0,6,1),none)),(3,.inl ((0,1,1),none))],[],[((5,4),(0,0,0),some ((5,4),0,0)),((10,4),(0,0,0),some ((10,4),0,0)),((68,8),(0,0,0),some ((68,8),0,0)),((68,9),(0,0,0),some ((68,9),0,0))]),(8,[]),0)]
set_option maxRecDepth 100000 in
theorem q447_ok : rf_chkB q447_P q447_U wLay q447_M ddX10_tell [] [] [0] 600 q447_N = true := by decide +kernel
set_option maxHeartbeats 4000000 in
theorem q447_met {G : rfG} (h : okG G) : rf_met G q447_M := rf_methodB h.1 (P := q447_P) (U := q447_U) (N := q447_N) ⟨wflT h flokX10, wcsT h csokX10, wlcT h lcokX10, spokX10 h, fun _ h => absurd h List.not_mem_nil, fun _ h => absurd h List.not_mem_nil, fun _ h => absurd h List.not_mem_nil, fun _ h => absurd h List.not_mem_nil, fun _ h => absurd h List.not_mem_nil⟩ dkX10_tell (by decide +kernel) (by rw [h.2.2.1]; exact q447_ok)
/-- NearSpell.seen -/
def q448_M : rfM := ((⟨"NearSpell", "seen", "(IIZ)I"⟩, prog_1_method_41_code, 4, (some .int)), (1,24), ([.inr (.inl [70]),.inl (((-2147483648),2147483647,1),none),.inl (((-2147483648),2147483647,1),none),.inl ((0,1,1),none)],[((5,4),(0,0,0),none),((10,4),(0,0,0),none),((68,8),(0,0,0),none),((68,9),(0,0,0),none)]), [], [(some (.inl (((-1),(-1),0),none)),[],[])])
def ddX11_seen : List (Nat × Instr × Nat) := [(0,.iload_n 1,1),(1,.invokestatic 163,3),(4,.ifCond .eq 10,3),(7,.iload_n 2,1),(8,.invokestatic 232,3),(11,.ifCond .ne 5,3),(14,.iconst (-1),1),(15,.ireturn,1),(16,.aload_n 0,1),(17,.getfield 92,3),(20,.iload_n 1,1),(21,.iload_n 2,1),(22,.iload_n 3,1),(23,.invokevirtual 318,3),(26,.ireturn,1)]
set_option maxRecDepth 100000 in
theorem dkX11_seen : rf_decs prog_1_method_41_code ddX11_seen := rf_decs_of (by decide +kernel)
def q448_P : rfP := (flX11,csX11,lcX11,spX11,[q72_M,q446_M,q447_M],[(163,0),(232,1)],[(318,2,10)],([],[]))
def q448_U : rfU := []
set_option maxHeartbeats 8000000 in
def q448_N : List rfB := [(0,([(0,.inr (.inl [70])),(1,.inl (((-2147483648),2147483647,1),none)),(2,.inl (((-2147483648),2147483647,1),none)),(3,.inl ((0,1,1),none))],[],[((5,4),(0,0,0),some ((5,4),0,0)),((10,4),(0,0,0),some ((10,4),0,0)),((68,8),(0,0,0),some ((68,8),0,0)),((68,9),(0,0,0),some ((68,9),0,0))]),(16,[]),0)]
set_option maxRecDepth 100000 in
theorem q448_ok : rf_chkB q448_P q448_U wLay q448_M ddX11_seen [(1,[0]),(8,[1]),(23,[2])] [] [0] 18 q448_N = true := by decide +kernel
set_option maxHeartbeats 4000000 in
theorem q448_met {G : rfG} (h : okG G) : rf_met G q448_M := rf_methodB h.1 (P := q448_P) (U := q448_U) (N := q448_N) ⟨wflT h flokX11, wcsT h csokX11, wlcT h lcokX11, spokX11 h, List.forall_mem_cons.mpr ⟨q72_met h, List.forall_mem_cons.mpr ⟨q446_met h, List.forall_mem_cons.mpr ⟨q447_met h, fun _ h => absurd h List.not_mem_nil⟩⟩⟩, List.forall_mem_cons.mpr ⟨fun M hM => Option.some.inj (show some q72_M = some M from hM) ▸ wlkS (lkX11_163 h) q72_M rfl rfl, List.forall_mem_cons.mpr ⟨fun M hM => Option.some.inj (show some q446_M = some M from hM) ▸ wlkS (lkX11_232 h) q446_M rfl rfl, fun _ h => absurd h List.not_mem_nil⟩⟩, List.forall_mem_cons.mpr ⟨fun M hM => Option.some.inj (show some q447_M = some M from hM) ▸ wlkV (lkX11_318 h) q447_M rfl rfl, fun _ h => absurd h List.not_mem_nil⟩, fun _ h => absurd h List.not_mem_nil, fun _ h => absurd h List.not_mem_nil⟩ dkX11_seen (by decide +kernel) (by rw [h.2.2.1]; exact q448_ok)
/-- NearSpellModel.isIn -/
def q449_M : rfM := ((⟨"NearSpellModel", "isIn", "(III)Z"⟩, prog_14_method_35_code, 3, (some .boolean)), (0,0), ([.inl (((-2147483648),2147483647,1),none),.inl ((0,0,0),none),.inl ((6,6,0),none)],[]), [], [(some (.inl ((1,1,0),none)),[(0,0,6)],[]),(some (.inl ((0,0,0),none)),[],[])])
def q449_P : rfP := (flX12,csX12,lcX12,spX12,[],[],[],([],[]))
def q449_U : rfU := []
set_option maxHeartbeats 8000000 in
def q449_N : List rfB := [(0,([(0,.inl (((-2147483648),2147483647,1),none)),(1,.inl ((0,0,0),none)),(2,.inl ((6,6,0),none))],[],[]),(10,[]),0)]
set_option maxRecDepth 100000 in
theorem q449_ok : rf_chkB q449_P q449_U wLay q449_M ddX12_isIn [] [] [0] 14 q449_N = true := by decide +kernel
set_option maxHeartbeats 4000000 in
theorem q449_met {G : rfG} (h : okG G) : rf_met G q449_M := rf_methodB h.1 (P := q449_P) (U := q449_U) (N := q449_N) ⟨wflT h flokX12, wcsT h csokX12, wlcT h lcokX12, spokX12 h, fun _ h => absurd h List.not_mem_nil, fun _ h => absurd h List.not_mem_nil, fun _ h => absurd h List.not_mem_nil, fun _ h => absurd h List.not_mem_nil, fun _ h => absurd h List.not_mem_nil⟩ dkX12_isIn (by decide +kernel) (by rw [h.2.2.1]; exact q449_ok)
/-- NearSpellModel.seen -/
def q450_M : rfM := ((⟨"NearSpellModel", "seen", "(IIZ)I"⟩, prog_14_method_117_code, 4, (some .int)), (2,43), ([.inr (.inl [114]),.inl (((-2147483648),2147483647,1),none),.inl (((-2147483648),2147483647,1),none),.inl ((0,1,1),none)],[((73,0),(0,0,0),none),((114,28),(0,0,0),none),((114,63),(0,0,0),none),((114,64),(0,0,0),none)]), [], [(some (.inl (((-1),(-1),0),none)),[],[])])
def ddX12_seen : List (Nat × Instr × Nat) := [(0,.iload_n 1,1),(1,.invokestatic 420,3),(4,.ifCond .eq 34,3),(7,.iload_n 2,1),(8,.iconst 0,1),(9,.bipush 6,2),(11,.invokestatic 334,3),(14,.ifCond .eq 24,3),(17,.aload_n 0,1),(18,.getfield 344,3),(21,.bipush 30,2),(23,.if_icmp .eq 15,3),(26,.aload_n 0,1),(27,.getfield 20,3),(30,.aload_n 0,1),(31,.getfield 242,3),(34,.iaload,1),(35,.ifCond .ne 5,3),(38,.iconst (-1),1),(39,.ireturn,1),(40,.aload_n 0,1),(41,.getfield 120,3),(44,.aload_n 0,1),(45,.getfield 344,3),(48,.iload_n 1,1),(49,.iastore,1),(50,.aload_n 0,1),(51,.getfield 123,3),(54,.aload_n 0,1),(55,.getfield 344,3),(58,.iload_n 2,1),(59,.iastore,1),(60,.aload_n 0,1),(61,.getfield 126,3),(64,.aload_n 0,1),(65,.getfield 344,3),(68,.iload_n 3,1),(69,.ifCond .eq 7,3),(72,.iconst 1,1),(73,.goto 4,3),(76,.iconst 0,1),(77,.iastore,1),(78,.aload_n 0,1),(79,.getfield 129,3),(82,.aload_n 0,1),(83,.getfield 344,3),(86,.aload_n 0,1),(87,.getfield 483,3),(90,.iastore,1),(91,.aload_n 0,1),(92,.getfield 132,3),(95,.aload_n 0,1),(96,.getfield 344,3),(99,.iconst (-1),1),(100,.iastore,1),(101,.aload_n 0,1),(102,.dup,1),(103,.getfield 344,3),(106,.iconst 1,1),(107,.iadd,1),(108,.putfield 344,3),(111,.aload_n 0,1),(112,.getfield 344,3),(115,.iconst 1,1),(116,.isub,1),(117,.ireturn,1)]
set_option maxRecDepth 100000 in
theorem dkX12_seen : rf_decs prog_14_method_117_code ddX12_seen := rf_decs_of (by decide +kernel)
def q450_P : rfP := (flX12,csX12,lcX12,spX12,[q75_M,q449_M],[(334,1),(420,0)],[],([],[]))
def q450_U : rfU := []
set_option maxHeartbeats 8000000 in
def q450_N : List rfB := [(0,([(0,.inr (.inl [114])),(1,.inl (((-2147483648),2147483647,1),none)),(2,.inl (((-2147483648),2147483647,1),none)),(3,.inl ((0,1,1),none))],[],[((73,0),(0,0,0),some ((73,0),0,0)),((114,28),(0,0,0),some ((114,28),0,0)),((114,63),(0,0,0),some ((114,63),0,0)),((114,64),(0,0,0),some ((114,64),0,0))]),(21,[]),0)]
set_option maxRecDepth 100000 in
theorem q450_ok : rf_chkB q450_P q450_U wLay q450_M ddX12_seen [(1,[0]),(11,[1])] [] [0] 25 q450_N = true := by decide +kernel
set_option maxHeartbeats 4000000 in
theorem q450_met {G : rfG} (h : okG G) : rf_met G q450_M := rf_methodB h.1 (P := q450_P) (U := q450_U) (N := q450_N) ⟨wflT h flokX12, wcsT h csokX12, wlcT h lcokX12, spokX12 h, List.forall_mem_cons.mpr ⟨q75_met h, List.forall_mem_cons.mpr ⟨q449_met h, fun _ h => absurd h List.not_mem_nil⟩⟩, List.forall_mem_cons.mpr ⟨fun M hM => Option.some.inj (show some q449_M = some M from hM) ▸ wlkS (lkX12_334 h) q449_M rfl rfl, List.forall_mem_cons.mpr ⟨fun M hM => Option.some.inj (show some q75_M = some M from hM) ▸ wlkS (lkX12_420 h) q75_M rfl rfl, fun _ h => absurd h List.not_mem_nil⟩⟩, fun _ h => absurd h List.not_mem_nil, fun _ h => absurd h List.not_mem_nil, fun _ h => absurd h List.not_mem_nil⟩ dkX12_seen (by decide +kernel) (by rw [h.2.2.1]; exact q450_ok)
