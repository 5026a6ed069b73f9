/-- NearSpellModel.bucketsOf -/
def q726_M : rfM := ((⟨"NearSpellModel", "bucketsOf", "(I)I"⟩, prog_14_method_54_code, 4, (some .int)), (22,2045), ([.inr (.inl [114]),.inl ((0,1,1),none)],[((77,1),(1,31,1),none),((114,28),(1,1,0),none)]), [(89,0),(114,35)], [(some (.inl ((0,2147483647,1),none)),[],[])])
def q726_P : rfP := (flX12,csX12,lcX12,spX12,[q693_M],[],[(369,0,12)],([],[]))
def q726_U : rfU := []
set_option maxHeartbeats 8000000 in
def q726_N : List rfB := [(0,([(0,.inr (.inl [114])),(1,.inl ((0,1,1),none))],[],[((77,1),(1,31,1),some ((77,1),0,0)),((114,28),(1,1,0),some ((114,28),0,0))]),(1565,[0]),0),
  (4,([(0,.inr (.inl [114])),(1,.inl ((0,1,1),none)),(2,.inl ((0,2147483647,1),none)),(3,.inl ((0,64,1),none))],[],[((77,1),(1,31,1),some ((77,1),0,0)),((114,28),(1,1,0),some ((114,28),0,0))]),(1559,[(-24)]),0)]
set_option maxRecDepth 100000 in
theorem q726_ok : rf_chkB q726_P q726_U wLay q726_M ddX12_bucketsOf [(28,[0])] [.inl 3] [0,4] 600 q726_N = true := by decide +kernel
set_option maxHeartbeats 4000000 in
theorem q726_met {G : rfG} (h : okG G) (hh : wHandOK G) : rf_met G q726_M := rf_methodB h.1 (P := q726_P) (U := q726_U) (N := q726_N) ⟨wflT h flokX12, wcsT h csokX12, wlcT h lcokX12, spokX12 h, List.forall_mem_cons.mpr ⟨q693_met h hh, fun _ h => absurd h List.not_mem_nil⟩, fun _ h => absurd h List.not_mem_nil, List.forall_mem_cons.mpr ⟨fun M hM => Option.some.inj (show some q693_M = some M from hM) ▸ wlkV (lkX12_369 h) q693_M rfl rfl, fun _ h => absurd h List.not_mem_nil⟩, fun _ h => absurd h List.not_mem_nil, fun _ h => absurd h List.not_mem_nil⟩ dkX12_bucketsOf (by decide +kernel) (by rw [h.2.2.1]; exact q726_ok)
/-- NearSpellModel.bucketsOf -/
def q727_M : rfM := ((⟨"NearSpellModel", "bucketsOf", "(I)I"⟩, prog_14_method_54_code, 4, (some .int)), (22,2045), ([.inr (.inl [114]),.inl ((0,2,1),none)],[((77,1),(1,31,1),none),((114,28),(1,1,0),none)]), [(89,0),(114,35)], [(some (.inl ((0,2147483647,1),none)),[],[])])
def q727_P : rfP := (flX12,csX12,lcX12,spX12,[q693_M],[],[(369,0,12)],([],[]))
def q727_U : rfU := []
set_option maxHeartbeats 8000000 in
def q727_N : List rfB := [(0,([(0,.inr (.inl [114])),(1,.inl ((0,2,1),none))],[],[((77,1),(1,31,1),some ((77,1),0,0)),((114,28),(1,1,0),some ((114,28),0,0))]),(1565,[0]),0),
  (4,([(0,.inr (.inl [114])),(1,.inl ((0,2,1),none)),(2,.inl ((0,2147483647,1),none)),(3,.inl ((0,64,1),none))],[],[((77,1),(1,31,1),some ((77,1),0,0)),((114,28),(1,1,0),some ((114,28),0,0))]),(1559,[(-24)]),0)]
set_option maxRecDepth 100000 in
theorem q727_ok : rf_chkB q727_P q727_U wLay q727_M ddX12_bucketsOf [(28,[0])] [.inl 3] [0,4] 600 q727_N = true := by decide +kernel
set_option maxHeartbeats 4000000 in
theorem q727_met {G : rfG} (h : okG G) (hh : wHandOK G) : rf_met G q727_M := rf_methodB h.1 (P := q727_P) (U := q727_U) (N := q727_N) ⟨wflT h flokX12, wcsT h csokX12, wlcT h lcokX12, spokX12 h, List.forall_mem_cons.mpr ⟨q693_met h hh, fun _ h => absurd h List.not_mem_nil⟩, fun _ h => absurd h List.not_mem_nil, List.forall_mem_cons.mpr ⟨fun M hM => Option.some.inj (show some q693_M = some M from hM) ▸ wlkV (lkX12_369 h) q693_M rfl rfl, fun _ h => absurd h List.not_mem_nil⟩, fun _ h => absurd h List.not_mem_nil, fun _ h => absurd h List.not_mem_nil⟩ dkX12_bucketsOf (by decide +kernel) (by rw [h.2.2.1]; exact q727_ok)
/-- NearSpellModel.bucketsOf -/
def q728_M : rfM := ((⟨"NearSpellModel", "bucketsOf", "(I)I"⟩, prog_14_method_54_code, 4, (some .int)), (22,2045), ([.inr (.inl [114]),.inl ((0,3,1),none)],[((77,1),(1,31,1),none),((114,28),(1,1,0),none)]), [(89,0),(114,35)], [(some (.inl ((0,2147483647,1),none)),[],[])])
def q728_P : rfP := (flX12,csX12,lcX12,spX12,[q693_M],[],[(369,0,12)],([],[]))
def q728_U : rfU := []
set_option maxHeartbeats 8000000 in
def q728_N : List rfB := [(0,([(0,.inr (.inl [114])),(1,.inl ((0,3,1),none))],[],[((77,1),(1,31,1),some ((77,1),0,0)),((114,28),(1,1,0),some ((114,28),0,0))]),(1565,[0]),0),
  (4,([(0,.inr (.inl [114])),(1,.inl ((0,3,1),none)),(2,.inl ((0,2147483647,1),none)),(3,.inl ((0,64,1),none))],[],[((77,1),(1,31,1),some ((77,1),0,0)),((114,28),(1,1,0),some ((114,28),0,0))]),(1559,[(-24)]),0)]
set_option maxRecDepth 100000 in
theorem q728_ok : rf_chkB q728_P q728_U wLay q728_M ddX12_bucketsOf [(28,[0])] [.inl 3] [0,4] 600 q728_N = true := by decide +kernel
set_option maxHeartbeats 4000000 in
theorem q728_met {G : rfG} (h : okG G) (hh : wHandOK G) : rf_met G q728_M := rf_methodB h.1 (P := q728_P) (U := q728_U) (N := q728_N) ⟨wflT h flokX12, wcsT h csokX12, wlcT h lcokX12, spokX12 h, List.forall_mem_cons.mpr ⟨q693_met h hh, fun _ h => absurd h List.not_mem_nil⟩, fun _ h => absurd h List.not_mem_nil, List.forall_mem_cons.mpr ⟨fun M hM => Option.some.inj (show some q693_M = some M from hM) ▸ wlkV (lkX12_369 h) q693_M rfl rfl, fun _ h => absurd h List.not_mem_nil⟩, fun _ h => absurd h List.not_mem_nil, fun _ h => absurd h List.not_mem_nil⟩ dkX12_bucketsOf (by decide +kernel) (by rw [h.2.2.1]; exact q728_ok)
/-- NearSpellModel.bucketsOf -/
def q729_M : rfM := ((⟨"NearSpellModel", "bucketsOf", "(I)I"⟩, prog_14_method_54_code, 4, (some .int)), (22,2045), ([.inr (.inl [114]),.inl ((0,12,1),none)],[((77,1),(1,31,1),none),((114,28),(1,1,0),none)]), [(89,0),(114,35)], [(some (.inl ((0,2147483647,1),none)),[],[])])
def q729_P : rfP := (flX12,csX12,lcX12,spX12,[q693_M],[],[(369,0,12)],([],[]))
def q729_U : rfU := []
set_option maxHeartbeats 8000000 in
def q729_N : List rfB := [(0,([(0,.inr (.inl [114])),(1,.inl ((0,12,1),none))],[],[((77,1),(1,31,1),some ((77,1),0,0)),((114,28),(1,1,0),some ((114,28),0,0))]),(1565,[0]),0),
  (4,([(0,.inr (.inl [114])),(1,.inl ((0,12,1),none)),(2,.inl ((0,2147483647,1),none)),(3,.inl ((0,64,1),none))],[],[((77,1),(1,31,1),some ((77,1),0,0)),((114,28),(1,1,0),some ((114,28),0,0))]),(1559,[(-24)]),0)]
set_option maxRecDepth 100000 in
theorem q729_ok : rf_chkB q729_P q729_U wLay q729_M ddX12_bucketsOf [(28,[0])] [.inl 3] [0,4] 600 q729_N = true := by decide +kernel
set_option maxHeartbeats 4000000 in
theorem q729_met {G : rfG} (h : okG G) (hh : wHandOK G) : rf_met G q729_M := rf_methodB h.1 (P := q729_P) (U := q729_U) (N := q729_N) ⟨wflT h flokX12, wcsT h csokX12, wlcT h lcokX12, spokX12 h, List.forall_mem_cons.mpr ⟨q693_met h hh, fun _ h => absurd h List.not_mem_nil⟩, fun _ h => absurd h List.not_mem_nil, List.forall_mem_cons.mpr ⟨fun M hM => Option.some.inj (show some q693_M = some M from hM) ▸ wlkV (lkX12_369 h) q693_M rfl rfl, fun _ h => absurd h List.not_mem_nil⟩, fun _ h => absurd h List.not_mem_nil, fun _ h => absurd h List.not_mem_nil⟩ dkX12_bucketsOf (by decide +kernel) (by rw [h.2.2.1]; exact q729_ok)
/-- NearSpellModel.bucketsOf -/
def q730_M : rfM := ((⟨"NearSpellModel", "bucketsOf", "(I)I"⟩, prog_14_method_54_code, 4, (some .int)), (22,2045), ([.inr (.inl [114]),.inl ((0,13,1),none)],[((77,1),(1,31,1),none),((114,28),(1,1,0),none)]), [(89,0),(114,35)], [(some (.inl ((0,2147483647,1),none)),[],[])])
def q730_P : rfP := (flX12,csX12,lcX12,spX12,[q693_M],[],[(369,0,12)],([],[]))
def q730_U : rfU := []
set_option maxHeartbeats 8000000 in
def q730_N : List rfB := [(0,([(0,.inr (.inl [114])),(1,.inl ((0,13,1),none))],[],[((77,1),(1,31,1),some ((77,1),0,0)),((114,28),(1,1,0),some ((114,28),0,0))]),(1565,[0]),0),
  (4,([(0,.inr (.inl [114])),(1,.inl ((0,13,1),none)),(2,.inl ((0,2147483647,1),none)),(3,.inl ((0,64,1),none))],[],[((77,1),(1,31,1),some ((77,1),0,0)),((114,28),(1,1,0),some ((114,28),0,0))]),(1559,[(-24)]),0)]
set_option maxRecDepth 100000 in
theorem q730_ok : rf_chkB q730_P q730_U wLay q730_M ddX12_bucketsOf [(28,[0])] [.inl 3] [0,4] 600 q730_N = true := by decide +kernel
set_option maxHeartbeats 4000000 in
theorem q730_met {G : rfG} (h : okG G) (hh : wHandOK G) : rf_met G q730_M := rf_methodB h.1 (P := q730_P) (U := q730_U) (N := q730_N) ⟨wflT h flokX12, wcsT h csokX12, wlcT h lcokX12, spokX12 h, List.forall_mem_cons.mpr ⟨q693_met h hh, fun _ h => absurd h List.not_mem_nil⟩, fun _ h => absurd h List.not_mem_nil, List.forall_mem_cons.mpr ⟨fun M hM => Option.some.inj (show some q693_M = some M from hM) ▸ wlkV (lkX12_369 h) q693_M rfl rfl, fun _ h => absurd h List.not_mem_nil⟩, fun _ h => absurd h List.not_mem_nil, fun _ h => absurd h List.not_mem_nil⟩ dkX12_bucketsOf (by decide +kernel) (by rw [h.2.2.1]; exact q730_ok)
/-- NearSpellModel.metBy -/
def q731_M : rfM := ((⟨"NearSpellModel", "metBy", "(II)I"⟩, prog_14_method_55_code, 9, (some .int)), (23,2068), ([.inr (.inl [114]),.inl ((0,387420488,1),none),.inl ((0,1,1),none)],[((77,1),(1,31,1),none),((114,28),(1,1,0),none)]), [(89,0),(91,0),(92,0),(93,0),(114,35),(114,40)], [(some (.inl ((0,2147483647,1),none)),[],[])])
def q731_P : rfP := (flX12,csX12,lcX12,spX12,[q625_M,q692_M,q691_M,q693_M,q730_M,q678_M],[],[(366,2,12),(369,3,12),(372,0,12),(375,1,12),(378,4,12),(381,5,12)],([],[]))
def q731_U : rfU := []
set_option maxHeartbeats 8000000 in
def q731_N : List rfB := [(0,([(0,.inr (.inl [114])),(1,.inl ((0,387420488,1),none)),(2,.inl ((0,1,1),none))],[],[((77,1),(1,31,1),some ((77,1),0,0)),((114,28),(1,1,0),some ((114,28),0,0))]),(27004,[0,0,0]),0),
  (24,([(0,.inr (.inl [114])),(1,.inl ((0,387420488,1),none)),(2,.inl ((0,1,1),none)),(3,.inl (((-2147483648),2147483647,1),none)),(4,.inl ((0,2147483647,1),none)),(5,.inl ((0,64,1),none))],[],[((77,1),(1,31,1),some ((77,1),0,0)),((114,28),(1,1,0),some ((114,28),0,0))]),(26988,[(-18),0,0]),0),
  (63,([(0,.inr (.inl [114])),(1,.inl ((0,387420488,1),none)),(2,.inl ((0,1,1),none)),(3,.inl (((-2147483648),2147483647,1),none)),(4,.inl ((0,2147483647,1),none)),(5,.inl ((0,2147483647,1),none)),(6,.inl ((0,14,1),none))],[],[((77,1),(1,31,1),some ((77,1),0,0)),((114,28),(1,1,0),some ((114,28),0,0))]),(25814,[0,(-1721),0]),0),
  (100,([(0,.inr (.inl [114])),(1,.inl ((0,387420488,1),none)),(2,.inl ((0,1,1),none)),(3,.inl ((1,2147483647,1),none)),(4,.inl ((0,2147483647,1),none)),(5,.inl ((0,2147483647,1),none)),(6,.inl ((0,13,1),none)),(7,.inl ((0,1,1),none)),(8,.inl ((0,64,1),none))],[],[((77,1),(1,31,1),some ((77,1),0,0)),((114,28),(1,1,0),some ((114,28),0,0))]),(25792,[0,(-1721),(-26)]),0),
  (148,([(0,.inr (.inl [114])),(1,.inl ((0,387420488,1),none)),(2,.inl ((0,1,1),none)),(3,.inl ((1,2147483647,1),none)),(4,.inl ((0,2147483647,1),none)),(5,.inl ((0,2147483647,1),none)),(6,.inl ((0,13,1),none)),(7,.inl ((0,1,1),none)),(8,.inl ((0,64,1),none))],[],[((77,1),(1,31,1),some ((77,1),0,0)),((114,28),(1,1,0),some ((114,28),0,0))]),(24104,[0,(-1721),0]),0),
  (135,([(0,.inr (.inl [114])),(1,.inl ((0,387420488,1),none)),(2,.inl ((1,1,1),none)),(3,.inl ((1,2147483647,1),none)),(4,.inl ((0,2147483647,1),none)),(5,.inl ((0,2147483647,1),none)),(6,.inl ((0,13,1),none)),(7,.inl ((0,1,1),none)),(8,.inl ((0,63,1),none))],[],[((77,1),(1,31,1),some ((77,1),0,0)),((114,28),(1,1,0),some ((114,28),0,0)),((114,39),(1,64,1),none)]),(25775,[0,(-1721),(-26)]),0),
  (142,([(0,.inr (.inl [114])),(1,.inl ((0,387420488,1),none)),(2,.inl ((1,1,1),none)),(3,.inl ((1,2147483647,1),none)),(4,.inl ((0,2147483647,1),none)),(5,.inl ((0,2147483647,1),none)),(6,.inl ((0,13,1),none)),(7,.inl ((0,1,1),none)),(8,.inl ((0,63,1),none))],[],[((77,1),(1,31,1),some ((77,1),0,0)),((114,28),(1,1,0),some ((114,28),0,0)),((114,39),(1,64,1),none)]),(25769,[0,(-1721),(-26)]),0),
  (162,([(0,.inr (.inl [114])),(1,.inl ((0,387420488,1),none)),(2,.inl ((0,1,1),none)),(3,.inl ((1,2147483647,1),none)),(4,.inl ((0,2147483647,1),none)),(5,.inl ((0,2147483647,1),none)),(6,.inl ((0,13,1),none)),(7,.inl ((0,1,1),none)),(8,.inl ((0,64,1),none))],[],[((77,1),(1,31,1),some ((77,1),0,0)),((114,28),(1,1,0),some ((114,28),0,0))]),(24096,[0,(-1721),0]),0),
  (168,([(0,.inr (.inl [114])),(1,.inl ((0,387420488,1),none)),(2,.inl ((0,1,1),none)),(3,.inl (((-2147483648),2147483647,1),none)),(4,.inl ((0,2147483647,1),none)),(5,.inl ((0,2147483647,1),none)),(6,.inl ((0,14,1),none))],[],[((77,1),(1,31,1),some ((77,1),0,0)),((114,28),(1,1,0),some ((114,28),0,0))]),(1,[0,0,0]),0),
  (94,([(0,.inr (.inl [114])),(1,.inl ((0,387420488,1),none)),(2,.inl ((0,1,1),none)),(3,.inl ((1,2147483647,1),none)),(4,.inl ((0,2147483647,1),none)),(5,.inl ((0,2147483647,1),none)),(6,.inl ((0,13,1),none))],[],[((77,1),(1,31,1),some ((77,1),0,0)),((114,28),(1,1,0),some ((114,28),0,0))]),(25801,[0,(-1721),0]),0),
  (97,([(0,.inr (.inl [114])),(1,.inl ((0,387420488,1),none)),(2,.inl ((0,1,1),none)),(3,.inl ((1,2147483647,1),none)),(4,.inl ((0,2147483647,1),none)),(5,.inl ((0,2147483647,1),none)),(6,.inl ((0,13,1),none)),(7,.inl ((0,1,1),none))],[],[((77,1),(1,31,1),some ((77,1),0,0)),((114,28),(1,1,0),some ((114,28),0,0))]),(25796,[0,(-1721),0]),0)]
set_option maxRecDepth 100000 in
theorem q731_ok : rf_chkB q731_P q731_U wLay q731_M ddX12_metBy [(2,[0]),(5,[1]),(12,[0]),(15,[2]),(44,[3]),(81,[4]),(129,[5])] [.inl 5,.inl 6,.inl 8] [0,24,63,94,97,100,135,142,148,162,168] 600 q731_N = true := by decide +kernel
set_option maxHeartbeats 4000000 in
theorem q731_met {G : rfG} (h : okG G) (hh : wHandOK G) : rf_met G q731_M := rf_methodB h.1 (P := q731_P) (U := q731_U) (N := q731_N) ⟨wflT h flokX12, wcsT h csokX12, wlcT h lcokX12, spokX12 h, List.forall_mem_cons.mpr ⟨q625_met h hh, List.forall_mem_cons.mpr ⟨q692_met h hh, List.forall_mem_cons.mpr ⟨q691_met h hh, List.forall_mem_cons.mpr ⟨q693_met h hh, List.forall_mem_cons.mpr ⟨q730_met h hh, List.forall_mem_cons.mpr ⟨q678_met h hh, fun _ h => absurd h List.not_mem_nil⟩⟩⟩⟩⟩⟩, fun _ h => absurd h List.not_mem_nil, List.forall_mem_cons.mpr ⟨fun M hM => Option.some.inj (show some q691_M = some M from hM) ▸ wlkV (lkX12_366 h) q691_M rfl rfl, List.forall_mem_cons.mpr ⟨fun M hM => Option.some.inj (show some q693_M = some M from hM) ▸ wlkV (lkX12_369 h) q693_M rfl rfl, List.forall_mem_cons.mpr ⟨fun M hM => Option.some.inj (show some q625_M = some M from hM) ▸ wlkV (lkX12_372 h) q625_M rfl rfl, List.forall_mem_cons.mpr ⟨fun M hM => Option.some.inj (show some q692_M = some M from hM) ▸ wlkV (lkX12_375 h) q692_M rfl rfl, List.forall_mem_cons.mpr ⟨fun M hM => Option.some.inj (show some q730_M = some M from hM) ▸ wlkV (lkX12_378 h) q730_M rfl rfl, List.forall_mem_cons.mpr ⟨fun M hM => Option.some.inj (show some q678_M = some M from hM) ▸ wlkV (lkX12_381 h) q678_M rfl rfl, fun _ h => absurd h List.not_mem_nil⟩⟩⟩⟩⟩⟩, fun _ h => absurd h List.not_mem_nil, fun _ h => absurd h List.not_mem_nil⟩ dkX12_metBy (by decide +kernel) (by rw [h.2.2.1]; exact q731_ok)
/-- NearSpellModel.metBy -/
def q732_M : rfM := ((⟨"NearSpellModel", "metBy", "(II)I"⟩, prog_14_method_55_code, 9, (some .int)), (23,2068), ([.inr (.inl [114]),.inl ((0,387420488,1),none),.inl ((0,0,0),none)],[((77,1),(1,31,1),none),((114,28),(1,1,0),none)]), [(89,0),(91,0),(92,0),(93,0),(114,35),(114,40)], [(some (.inl ((0,2147483647,1),none)),[],[])])
def q732_P : rfP := (flX12,csX12,lcX12,spX12,[q625_M,q692_M,q691_M,q693_M,q730_M],[],[(366,2,12),(369,3,12),(372,0,12),(375,1,12),(378,4,12)],([],[]))
def q732_U : rfU := []
set_option maxHeartbeats 8000000 in
def q732_N : List rfB := [(0,([(0,.inr (.inl [114])),(1,.inl ((0,387420488,1),none)),(2,.inl ((0,0,0),none))],[],[((77,1),(1,31,1),some ((77,1),0,0)),((114,28),(1,1,0),some ((114,28),0,0))]),(1759,[0,0]),0),
  (24,([(0,.inr (.inl [114])),(1,.inl ((0,387420488,1),none)),(2,.inl ((0,0,0),none)),(3,.inl (((-2147483648),2147483647,1),none)),(4,.inl ((0,2147483647,1),none)),(5,.inl ((0,64,1),none))],[],[((77,1),(1,31,1),some ((77,1),0,0)),((114,28),(1,1,0),some ((114,28),0,0))]),(1743,[(-18),0]),0),
  (63,([(0,.inr (.inl [114])),(1,.inl ((0,387420488,1),none)),(2,.inl ((0,0,0),none)),(3,.inl (((-2147483648),2147483647,1),none)),(4,.inl ((0,2147483647,1),none)),(5,.inl ((0,2147483647,1),none)),(6,.inl ((0,14,1),none))],[],[((77,1),(1,31,1),some ((77,1),0,0)),((114,28),(1,1,0),some ((114,28),0,0))]),(569,[0,(-38)]),0),
  (168,([(0,.inr (.inl [114])),(1,.inl ((0,387420488,1),none)),(2,.inl ((0,0,0),none)),(3,.inl (((-2147483648),2147483647,1),none)),(4,.inl ((0,2147483647,1),none)),(5,.inl ((0,2147483647,1),none)),(6,.inl ((0,14,1),none))],[],[((77,1),(1,31,1),some ((77,1),0,0)),((114,28),(1,1,0),some ((114,28),0,0))]),(1,[0,0]),0),
  (97,([(0,.inr (.inl [114])),(1,.inl ((0,387420488,1),none)),(2,.inl ((0,0,0),none)),(3,.inl ((1,2147483647,1),none)),(4,.inl ((0,2147483647,1),none)),(5,.inl ((0,2147483647,1),none)),(6,.inl ((0,13,1),none)),(7,.inl ((0,1,1),none))],[],[((77,1),(1,31,1),some ((77,1),0,0)),((114,28),(1,1,0),some ((114,28),0,0))]),(551,[0,(-38)]),0),
  (148,([(0,.inr (.inl [114])),(1,.inl ((0,387420488,1),none)),(2,.inl ((0,0,0),none)),(3,.inl ((1,2147483647,1),none)),(4,.inl ((0,2147483647,1),none)),(5,.inl ((0,2147483647,1),none)),(6,.inl ((0,13,1),none)),(7,.inl ((0,1,1),none)),(8,.inl ((0,0,0),none))],[],[((77,1),(1,31,1),some ((77,1),0,0)),((114,28),(1,1,0),some ((114,28),0,0))]),(542,[0,(-38)]),0),
  (162,([(0,.inr (.inl [114])),(1,.inl ((0,387420488,1),none)),(2,.inl ((0,0,0),none)),(3,.inl ((1,2147483647,1),none)),(4,.inl ((0,2147483647,1),none)),(5,.inl ((0,2147483647,1),none)),(6,.inl ((0,13,1),none)),(7,.inl ((0,1,1),none)),(8,.inl ((0,0,0),none))],[],[((77,1),(1,31,1),some ((77,1),0,0)),((114,28),(1,1,0),some ((114,28),0,0))]),(534,[0,(-38)]),0)]
set_option maxRecDepth 100000 in
theorem q732_ok : rf_chkB q732_P q732_U wLay q732_M ddX12_metBy [(2,[0]),(5,[1]),(12,[0]),(15,[2]),(44,[3]),(81,[4])] [.inl 5,.inl 6] [0,24,63,97,148,162,168] 600 q732_N = true := by decide +kernel
set_option maxHeartbeats 4000000 in
theorem q732_met {G : rfG} (h : okG G) (hh : wHandOK G) : rf_met G q732_M := rf_methodB h.1 (P := q732_P) (U := q732_U) (N := q732_N) ⟨wflT h flokX12, wcsT h csokX12, wlcT h lcokX12, spokX12 h, List.forall_mem_cons.mpr ⟨q625_met h hh, List.forall_mem_cons.mpr ⟨q692_met h hh, List.forall_mem_cons.mpr ⟨q691_met h hh, List.forall_mem_cons.mpr ⟨q693_met h hh, List.forall_mem_cons.mpr ⟨q730_met h hh, fun _ h => absurd h List.not_mem_nil⟩⟩⟩⟩⟩, fun _ h => absurd h List.not_mem_nil, List.forall_mem_cons.mpr ⟨fun M hM => Option.some.inj (show some q691_M = some M from hM) ▸ wlkV (lkX12_366 h) q691_M rfl rfl, List.forall_mem_cons.mpr ⟨fun M hM => Option.some.inj (show some q693_M = some M from hM) ▸ wlkV (lkX12_369 h) q693_M rfl rfl, List.forall_mem_cons.mpr ⟨fun M hM => Option.some.inj (show some q625_M = some M from hM) ▸ wlkV (lkX12_372 h) q625_M rfl rfl, List.forall_mem_cons.mpr ⟨fun M hM => Option.some.inj (show some q692_M = some M from hM) ▸ wlkV (lkX12_375 h) q692_M rfl rfl, List.forall_mem_cons.mpr ⟨fun M hM => Option.some.inj (show some q730_M = some M from hM) ▸ wlkV (lkX12_378 h) q730_M rfl rfl, fun _ h => absurd h List.not_mem_nil⟩⟩⟩⟩⟩, fun _ h => absurd h List.not_mem_nil, fun _ h => absurd h List.not_mem_nil⟩ dkX12_metBy (by decide +kernel) (by rw [h.2.2.1]; exact q732_ok)
/-- NearSpellModel.met -/
def q733_M : rfM := ((⟨"NearSpellModel", "met", "(II)I"⟩, prog_14_method_74_code, 3, (some .int)), (24,2096), ([.inr (.inl [114]),.inl (((-2147483648),2147483647,1),none),.inl (((-2147483648),2147483647,1),none)],[((77,1),(1,31,1),none),((114,28),(1,1,0),none)]), [(89,0),(91,0),(92,0),(93,0),(114,35),(114,40)], [(some (.inl (((-1),2147483647,1),none)),[],[])])
def q733_P : rfP := (flX12,csX12,lcX12,spX12,[q629_M,q715_M,q731_M,q732_M,q694_M],[(334,1),(420,0)],[(411,2,12),(411,3,12),(411,4,12)],([],[]))
def q733_U : rfU := []
set_option maxHeartbeats 8000000 in
def q733_N : List rfB := [(0,([(0,.inr (.inl [114])),(1,.inl (((-2147483648),2147483647,1),none)),(2,.inl (((-2147483648),2147483647,1),none))],[],[((77,1),(1,31,1),some ((77,1),0,0)),((114,28),(1,1,0),some ((114,28),0,0))]),(31,[]),0),
  (16,([(0,.inr (.inl [114])),(1,.inl (((-2147483648),2147483647,1),none)),(2,.inl (((-2147483648),2147483647,1),none))],[],[((77,1),(1,31,1),some ((77,1),0,0)),((114,28),(1,1,0),some ((114,28),0,0))]),(1,[]),0),
  (47,([(0,.inr (.inl [114])),(1,.inl ((0,387420488,1),none)),(2,.inl ((0,2,1),none))],[.inl ((0,2147483647,1),none)],[((77,1),(1,31,1),some ((77,1),0,0)),((114,28),(1,1,0),some ((114,28),0,0))]),(3,[]),0)]
set_option maxRecDepth 100000 in
theorem q733_ok : rf_chkB q733_P q733_U wLay q733_M ddX12_met [(1,[0]),(10,[1]),(26,[2]),(35,[3]),(41,[4])] [] [0,16,47] 600 q733_N = true := by decide +kernel
set_option maxHeartbeats 4000000 in
theorem q733_met {G : rfG} (h : okG G) (hh : wHandOK G) : rf_met G q733_M := rf_methodB h.1 (P := q733_P) (U := q733_U) (N := q733_N) ⟨wflT h flokX12, wcsT h csokX12, wlcT h lcokX12, spokX12 h, List.forall_mem_cons.mpr ⟨q629_met h hh, List.forall_mem_cons.mpr ⟨q715_met h hh, List.forall_mem_cons.mpr ⟨q731_met h hh, List.forall_mem_cons.mpr ⟨q732_met h hh, List.forall_mem_cons.mpr ⟨q694_met h hh, fun _ h => absurd h List.not_mem_nil⟩⟩⟩⟩⟩, List.forall_mem_cons.mpr ⟨fun M hM => Option.some.inj (show some q715_M = some M from hM) ▸ wlkS (lkX12_334 h) q715_M rfl rfl, List.forall_mem_cons.mpr ⟨fun M hM => Option.some.inj (show some q629_M = some M from hM) ▸ wlkS (lkX12_420 h) q629_M rfl rfl, fun _ h => absurd h List.not_mem_nil⟩⟩, List.forall_mem_cons.mpr ⟨fun M hM => Option.some.inj (show some q731_M = some M from hM) ▸ wlkV (lkX12_411 h) q731_M rfl rfl, List.forall_mem_cons.mpr ⟨fun M hM => Option.some.inj (show some q732_M = some M from hM) ▸ wlkV (lkX12_411 h) q732_M rfl rfl, List.forall_mem_cons.mpr ⟨fun M hM => Option.some.inj (show some q694_M = some M from hM) ▸ wlkV (lkX12_411 h) q694_M rfl rfl, fun _ h => absurd h List.not_mem_nil⟩⟩⟩, fun _ h => absurd h List.not_mem_nil, fun _ h => absurd h List.not_mem_nil⟩ dkX12_met (by decide +kernel) (by rw [h.2.2.1]; exact q733_ok)
/-- NearSpellModel.isIn -/
def q734_M : rfM := ((⟨"NearSpellModel", "isIn", "(III)Z"⟩, prog_14_method_35_code, 3, (some .boolean)), (0,0), ([.inl (((-2147483648),2147483647,1),none),.inl ((0,0,0),none),.inl ((6,6,0),none)],[]), [], [(some (.inl ((1,1,0),none)),[(0,0,6)],[]),(some (.inl ((0,0,0),none)),[],[])])
def q734_P : rfP := (flX12,csX12,lcX12,spX12,[],[],[],([],[]))
def q734_U : rfU := []
set_option maxHeartbeats 8000000 in
def q734_N : List rfB := [(0,([(0,.inl (((-2147483648),2147483647,1),none)),(1,.inl ((0,0,0),none)),(2,.inl ((6,6,0),none))],[],[]),(10,[]),0),
  (14,([(0,.inl (((-2147483648),2147483647,1),none)),(1,.inl ((0,0,0),none)),(2,.inl ((6,6,0),none))],[],[]),(1,[]),0)]
set_option maxRecDepth 100000 in
theorem q734_ok : rf_chkB q734_P q734_U wLay q734_M ddX12_isIn [] [] [0,14] 600 q734_N = true := by decide +kernel
set_option maxHeartbeats 4000000 in
theorem q734_met {G : rfG} (h : okG G) (hh : wHandOK G) : rf_met G q734_M := rf_methodB h.1 (P := q734_P) (U := q734_U) (N := q734_N) ⟨wflT h flokX12, wcsT h csokX12, wlcT h lcokX12, spokX12 h, fun _ h => absurd h List.not_mem_nil, fun _ h => absurd h List.not_mem_nil, fun _ h => absurd h List.not_mem_nil, fun _ h => absurd h List.not_mem_nil, fun _ h => absurd h List.not_mem_nil⟩ dkX12_isIn (by decide +kernel) (by rw [h.2.2.1]; exact q734_ok)
/-- NearSpellModel.within -/
def q735_M : rfM := ((⟨"NearSpellModel", "within", "(II)I"⟩, prog_14_method_65_code, 5, (some .int)), (1,21), ([.inr (.inl [114]),.inl ((0,2147483647,1),none),.inl ((0,6,1),none)],[]), [], [(some (.inl ((0,2147483647,1),none)),[],[])])
def ddX12_within : List (Nat × Instr × Nat) := [(0,.iconst 0,1),(1,.istore_n 3,1),(2,.iconst 0,1),(3,.istore 4,2),(5,.iload 4,2),(7,.bipush 14,2),(9,.if_icmp .ge 36,3),(12,.iload_n 1,1),(13,.iload 4,2),(15,.invokestatic 251,3),(18,.ifCond .eq 21,3),(21,.aload_n 0,1),(22,.getfield 96,3),(25,.iload 4,2),(27,.iaload,1),(28,.iload_n 2,1),(29,.if_icmp .gt 10,3),(32,.iload_n 3,1),(33,.iconst 1,1),(34,.iload 4,2),(36,.ishl,1),(37,.ior,1),(38,.istore_n 3,1),(39,.iinc 4 1,3),(42,.goto (-37),3),(45,.iload_n 3,1),(46,.ireturn,1)]
set_option maxRecDepth 100000 in
theorem dkX12_within : rf_decs prog_14_method_65_code ddX12_within := rf_decs_of (by decide +kernel)
def q735_P : rfP := (flX12,csX12,lcX12,spX12,[q522_M],[(251,0)],[],([],[]))
def q735_U : rfU := []
set_option maxHeartbeats 8000000 in
def q735_N : List rfB := [(0,([(0,.inr (.inl [114])),(1,.inl ((0,2147483647,1),none)),(2,.inl ((0,6,1),none))],[],[]),(350,[0]),0),
  (5,([(0,.inr (.inl [114])),(1,.inl ((0,2147483647,1),none)),(2,.inl ((0,6,1),none)),(3,.inl ((0,2147483647,1),none)),(4,.inl ((0,14,1),none))],[],[]),(344,[(-23)]),0),
  (39,([(0,.inr (.inl [114])),(1,.inl ((0,2147483647,1),none)),(2,.inl ((0,6,1),none)),(3,.inl ((0,2147483647,1),none)),(4,.inl ((0,13,1),none))],[],[]),(324,[(-23)]),0)]
set_option maxRecDepth 100000 in
theorem q735_ok : rf_chkB q735_P q735_U wLay q735_M ddX12_within [(15,[0])] [.inl 4] [0,5,39] 600 q735_N = true := by decide +kernel
set_option maxHeartbeats 4000000 in
theorem q735_met {G : rfG} (h : okG G) (hh : wHandOK G) : rf_met G q735_M := rf_methodB h.1 (P := q735_P) (U := q735_U) (N := q735_N) ⟨wflT h flokX12, wcsT h csokX12, wlcT h lcokX12, spokX12 h, List.forall_mem_cons.mpr ⟨q522_met h hh, fun _ h => absurd h List.not_mem_nil⟩, List.forall_mem_cons.mpr ⟨fun M hM => Option.some.inj (show some q522_M = some M from hM) ▸ wlkS (lkX12_251 h) q522_M rfl rfl, fun _ h => absurd h List.not_mem_nil⟩, fun _ h => absurd h List.not_mem_nil, fun _ h => absurd h List.not_mem_nil, fun _ h => absurd h List.not_mem_nil⟩ dkX12_within (by decide +kernel) (by rw [h.2.2.1]; exact q735_ok)
/-- NearSpellModel.missed -/
def q736_M : rfM := ((⟨"NearSpellModel", "missed", "(II)I"⟩, prog_14_method_75_code, 4, (some .int)), (23,2073), ([.inr (.inl [114]),.inl (((-2147483648),2147483647,1),none),.inl (((-2147483648),2147483647,1),none)],[((114,28),(0,0,0),none)]), [(89,0),(91,0),(92,0),(93,0),(94,0),(95,0),(96,0),(97,0),(98,0),(114,35),(114,40),(114,45),(114,46)], [(some (.inl (((-1),2147483647,1),none)),[],[])])
def ddX12_missed : List (Nat × Instr × Nat) := [(0,.iload_n 1,1),(1,.invokestatic 420,3),(4,.ifCond .eq 13,3),(7,.iload_n 2,1),(8,.iconst 0,1),(9,.bipush 6,2),(11,.invokestatic 334,3),(14,.ifCond .ne 5,3),(17,.iconst (-1),1),(18,.ireturn,1),(19,.aload_n 0,1),(20,.invokevirtual 423,3),(23,.aload_n 0,1),(24,.iload_n 1,1),(25,.iconst 1,1),(26,.invokevirtual 411,3),(29,.iconst (-1),1),(30,.ixor,1),(31,.iand,1),(32,.istore_n 3,1),(33,.aload_n 0,1),(34,.iload_n 1,1),(35,.invokevirtual 414,3),(38,.aload_n 0,1),(39,.iload_n 3,1),(40,.iload_n 2,1),(41,.invokevirtual 426,3),(44,.ireturn,1)]
set_option maxRecDepth 100000 in
theorem dkX12_missed : rf_decs prog_14_method_75_code ddX12_missed := rf_decs_of (by decide +kernel)
def q736_P : rfP := (flX12,csX12,lcX12,spX12,[q629_M,q734_M,q651_M,q679_M,q687_M,q735_M],[(334,1),(420,0)],[(411,3,12),(414,4,12),(423,2,12),(426,5,12)],([],[]))
def q736_U : rfU := []
set_option maxHeartbeats 8000000 in
def q736_N : List rfB := [(0,([(0,.inr (.inl [114])),(1,.inl (((-2147483648),2147483647,1),none)),(2,.inl (((-2147483648),2147483647,1),none))],[],[((114,28),(0,0,0),some ((114,28),0,0))]),(29,[]),0),
  (17,([(0,.inr (.inl [114])),(1,.inl (((-2147483648),2147483647,1),none)),(2,.inl (((-2147483648),2147483647,1),none))],[],[((114,28),(0,0,0),some ((114,28),0,0))]),(1,[]),0)]
set_option maxRecDepth 100000 in
theorem q736_ok : rf_chkB q736_P q736_U wLay q736_M ddX12_missed [(1,[0]),(11,[1]),(20,[2]),(26,[3]),(35,[4]),(41,[5])] [] [0,17] 600 q736_N = true := by decide +kernel
set_option maxHeartbeats 4000000 in
theorem q736_met {G : rfG} (h : okG G) (hh : wHandOK G) : rf_met G q736_M := rf_methodB h.1 (P := q736_P) (U := q736_U) (N := q736_N) ⟨wflT h flokX12, wcsT h csokX12, wlcT h lcokX12, spokX12 h, List.forall_mem_cons.mpr ⟨q629_met h hh, List.forall_mem_cons.mpr ⟨q734_met h hh, List.forall_mem_cons.mpr ⟨q651_met h hh, List.forall_mem_cons.mpr ⟨q679_met h hh, List.forall_mem_cons.mpr ⟨q687_met h hh, List.forall_mem_cons.mpr ⟨q735_met h hh, fun _ h => absurd h List.not_mem_nil⟩⟩⟩⟩⟩⟩, List.forall_mem_cons.mpr ⟨fun M hM => Option.some.inj (show some q734_M = some M from hM) ▸ wlkS (lkX12_334 h) q734_M rfl rfl, List.forall_mem_cons.mpr ⟨fun M hM => Option.some.inj (show some q629_M = some M from hM) ▸ wlkS (lkX12_420 h) q629_M rfl rfl, fun _ h => absurd h List.not_mem_nil⟩⟩, List.forall_mem_cons.mpr ⟨fun M hM => Option.some.inj (show some q679_M = some M from hM) ▸ wlkV (lkX12_411 h) q679_M rfl rfl, List.forall_mem_cons.mpr ⟨fun M hM => Option.some.inj (show some q687_M = some M from hM) ▸ wlkV (lkX12_414 h) q687_M rfl rfl, List.forall_mem_cons.mpr ⟨fun M hM => Option.some.inj (show some q651_M = some M from hM) ▸ wlkV (lkX12_423 h) q651_M rfl rfl, List.forall_mem_cons.mpr ⟨fun M hM => Option.some.inj (show some q735_M = some M from hM) ▸ wlkV (lkX12_426 h) q735_M rfl rfl, fun _ h => absurd h List.not_mem_nil⟩⟩⟩⟩, fun _ h => absurd h List.not_mem_nil, fun _ h => absurd h List.not_mem_nil⟩ dkX12_missed (by decide +kernel) (by rw [h.2.2.1]; exact q736_ok)
/-- NearSpellModel.missed -/
def q737_M : rfM := ((⟨"NearSpellModel", "missed", "(II)I"⟩, prog_14_method_75_code, 4, (some .int)), (23,2073), ([.inr (.inl [114]),.inl (((-2147483648),2147483647,1),none),.inl (((-2147483648),2147483647,1),none)],[((77,1),(1,31,1),none),((114,28),(1,1,0),none)]), [(89,0),(91,0),(92,0),(93,0),(94,0),(95,0),(96,0),(97,0),(98,0),(114,35),(114,40),(114,45),(114,46)], [(some (.inl (((-1),2147483647,1),none)),[],[])])
def q737_P : rfP := (flX12,csX12,lcX12,spX12,[q629_M,q734_M,q651_M,q694_M,q687_M,q735_M],[(334,1),(420,0)],[(411,3,12),(414,4,12),(423,2,12),(426,5,12)],([],[]))
def q737_U : rfU := []
set_option maxHeartbeats 8000000 in
def q737_N : List rfB := [(0,([(0,.inr (.inl [114])),(1,.inl (((-2147483648),2147483647,1),none)),(2,.inl (((-2147483648),2147483647,1),none))],[],[((77,1),(1,31,1),some ((77,1),0,0)),((114,28),(1,1,0),some ((114,28),0,0))]),(29,[]),0),
  (17,([(0,.inr (.inl [114])),(1,.inl (((-2147483648),2147483647,1),none)),(2,.inl (((-2147483648),2147483647,1),none))],[],[((77,1),(1,31,1),some ((77,1),0,0)),((114,28),(1,1,0),some ((114,28),0,0))]),(1,[]),0)]
set_option maxRecDepth 100000 in
theorem q737_ok : rf_chkB q737_P q737_U wLay q737_M ddX12_missed [(1,[0]),(11,[1]),(20,[2]),(26,[3]),(35,[4]),(41,[5])] [] [0,17] 600 q737_N = true := by decide +kernel
set_option maxHeartbeats 4000000 in
theorem q737_met {G : rfG} (h : okG G) (hh : wHandOK G) : rf_met G q737_M := rf_methodB h.1 (P := q737_P) (U := q737_U) (N := q737_N) ⟨wflT h flokX12, wcsT h csokX12, wlcT h lcokX12, spokX12 h, List.forall_mem_cons.mpr ⟨q629_met h hh, List.forall_mem_cons.mpr ⟨q734_met h hh, List.forall_mem_cons.mpr ⟨q651_met h hh, List.forall_mem_cons.mpr ⟨q694_met h hh, List.forall_mem_cons.mpr ⟨q687_met h hh, List.forall_mem_cons.mpr ⟨q735_met h hh, fun _ h => absurd h List.not_mem_nil⟩⟩⟩⟩⟩⟩, List.forall_mem_cons.mpr ⟨fun M hM => Option.some.inj (show some q734_M = some M from hM) ▸ wlkS (lkX12_334 h) q734_M rfl rfl, List.forall_mem_cons.mpr ⟨fun M hM => Option.some.inj (show some q629_M = some M from hM) ▸ wlkS (lkX12_420 h) q629_M rfl rfl, fun _ h => absurd h List.not_mem_nil⟩⟩, List.forall_mem_cons.mpr ⟨fun M hM => Option.some.inj (show some q694_M = some M from hM) ▸ wlkV (lkX12_411 h) q694_M rfl rfl, List.forall_mem_cons.mpr ⟨fun M hM => Option.some.inj (show some q687_M = some M from hM) ▸ wlkV (lkX12_414 h) q687_M rfl rfl, List.forall_mem_cons.mpr ⟨fun M hM => Option.some.inj (show some q651_M = some M from hM) ▸ wlkV (lkX12_423 h) q651_M rfl rfl, List.forall_mem_cons.mpr ⟨fun M hM => Option.some.inj (show some q735_M = some M from hM) ▸ wlkV (lkX12_426 h) q735_M rfl rfl, fun _ h => absurd h List.not_mem_nil⟩⟩⟩⟩, fun _ h => absurd h List.not_mem_nil, fun _ h => absurd h List.not_mem_nil⟩ dkX12_missed (by decide +kernel) (by rw [h.2.2.1]; exact q737_ok)
/-- NearSpellModel.nearest -/
def q738_M : rfM := ((⟨"NearSpellModel", "nearest", "(I)I"⟩, prog_14_method_76_code, 2, (some .int)), (24,2095), ([.inr (.inl [114]),.inl (((-2147483648),2147483647,1),none)],[((114,28),(0,0,0),none)]), [(89,0),(91,0),(92,0),(93,0),(94,0),(95,0),(96,0),(97,0),(98,0),(114,35),(114,40),(114,45),(114,46)], [(some (.inl (((-1),13,1),none)),[],[])])
def ddX12_nearest : List (Nat × Instr × Nat) := [(0,.iload_n 1,1),(1,.invokestatic 420,3),(4,.ifCond .eq 11,3),(7,.aload_n 0,1),(8,.iload_n 1,1),(9,.invokevirtual 428,3),(12,.goto 4,3),(15,.iconst (-1),1),(16,.ireturn,1)]
set_option maxRecDepth 100000 in
theorem dkX12_nearest : rf_decs prog_14_method_76_code ddX12_nearest := rf_decs_of (by decide +kernel)
def q738_P : rfP := (flX12,csX12,lcX12,spX12,[q629_M,q689_M],[(420,0)],[(428,1,12)],([],[]))
def q738_U : rfU := []
set_option maxHeartbeats 8000000 in
def q738_N : List rfB := [(0,([(0,.inr (.inl [114])),(1,.inl (((-2147483648),2147483647,1),none))],[],[((114,28),(0,0,0),some ((114,28),0,0))]),(10,[]),0)]
set_option maxRecDepth 100000 in
theorem q738_ok : rf_chkB q738_P q738_U wLay q738_M ddX12_nearest [(1,[0]),(9,[1])] [] [0] 600 q738_N = true := by decide +kernel
set_option maxHeartbeats 4000000 in
theorem q738_met {G : rfG} (h : okG G) (hh : wHandOK G) : rf_met G q738_M := rf_methodB h.1 (P := q738_P) (U := q738_U) (N := q738_N) ⟨wflT h flokX12, wcsT h csokX12, wlcT h lcokX12, spokX12 h, List.forall_mem_cons.mpr ⟨q629_met h hh, List.forall_mem_cons.mpr ⟨q689_met h hh, fun _ h => absurd h List.not_mem_nil⟩⟩, List.forall_mem_cons.mpr ⟨fun M hM => Option.some.inj (show some q629_M = some M from hM) ▸ wlkS (lkX12_420 h) q629_M rfl rfl, fun _ h => absurd h List.not_mem_nil⟩, List.forall_mem_cons.mpr ⟨fun M hM => Option.some.inj (show some q689_M = some M from hM) ▸ wlkV (lkX12_428 h) q689_M rfl rfl, fun _ h => absurd h List.not_mem_nil⟩, fun _ h => absurd h List.not_mem_nil, fun _ h => absurd h List.not_mem_nil⟩ dkX12_nearest (by decide +kernel) (by rw [h.2.2.1]; exact q738_ok)
/-- NearSpellModel.nearest -/
def q739_M : rfM := ((⟨"NearSpellModel", "nearest", "(I)I"⟩, prog_14_method_76_code, 2, (some .int)), (24,2095), ([.inr (.inl [114]),.inl (((-2147483648),2147483647,1),none)],[((77,1),(1,31,1),none),((114,28),(1,1,0),none)]), [(89,0),(91,0),(92,0),(93,0),(94,0),(95,0),(96,0),(97,0),(98,0),(114,35),(114,40),(114,45),(114,46)], [(some (.inl (((-1),13,1),none)),[],[])])
def q739_P : rfP := (flX12,csX12,lcX12,spX12,[q629_M,q695_M],[(420,0)],[(428,1,12)],([],[]))
def q739_U : rfU := []
set_option maxHeartbeats 8000000 in
def q739_N : List rfB := [(0,([(0,.inr (.inl [114])),(1,.inl (((-2147483648),2147483647,1),none))],[],[((77,1),(1,31,1),some ((77,1),0,0)),((114,28),(1,1,0),some ((114,28),0,0))]),(10,[]),0)]
set_option maxRecDepth 100000 in
theorem q739_ok : rf_chkB q739_P q739_U wLay q739_M ddX12_nearest [(1,[0]),(9,[1])] [] [0] 600 q739_N = true := by decide +kernel
set_option maxHeartbeats 4000000 in
theorem q739_met {G : rfG} (h : okG G) (hh : wHandOK G) : rf_met G q739_M := rf_methodB h.1 (P := q739_P) (U := q739_U) (N := q739_N) ⟨wflT h flokX12, wcsT h csokX12, wlcT h lcokX12, spokX12 h, List.forall_mem_cons.mpr ⟨q629_met h hh, List.forall_mem_cons.mpr ⟨q695_met h hh, fun _ h => absurd h List.not_mem_nil⟩⟩, List.forall_mem_cons.mpr ⟨fun M hM => Option.some.inj (show some q629_M = some M from hM) ▸ wlkS (lkX12_420 h) q629_M rfl rfl, fun _ h => absurd h List.not_mem_nil⟩, List.forall_mem_cons.mpr ⟨fun M hM => Option.some.inj (show some q695_M = some M from hM) ▸ wlkV (lkX12_428 h) q695_M rfl rfl, fun _ h => absurd h List.not_mem_nil⟩, fun _ h => absurd h List.not_mem_nil, fun _ h => absurd h List.not_mem_nil⟩ dkX12_nearest (by decide +kernel) (by rw [h.2.2.1]; exact q739_ok)
/-- NearSpellModel.layTwo -/
def q742_M : rfM := ((⟨"NearSpellModel", "layTwo", "(II)V"⟩, prog_14_method_57_code, 4, none), (3,66), ([.inr (.inl [114]),.inl ((0,387420488,1),none),.inl ((0,387420488,1),none)],[]), [(95,0),(114,46)], [(none,[],[])])
def q742_P : rfP := (flX12,csX12,lcX12,spX12,[q656_M,q667_M],[(319,0),(359,1)],[],([],[]))
def q742_U : rfU := []
set_option maxHeartbeats 8000000 in
def q742_N : List rfB := [(0,([(0,.inr (.inl [114])),(1,.inl ((0,387420488,1),none)),(2,.inl ((0,387420488,1),none))],[],[]),(383,[0]),0),
  (15,([(0,.inr (.inl [114])),(1,.inl ((0,387420488,1),none)),(2,.inl ((0,387420488,1),none)),(3,.inl ((0,11,1),none))],[],[]),(372,[(-14)]),0),
  (42,([(0,.inr (.inl [114])),(1,.inl ((0,387420488,1),none)),(2,.inl ((0,387420488,1),none)),(3,.inl ((0,11,1),none))],[],[]),(202,[(-17)]),0)]
set_option maxRecDepth 100000 in
theorem q742_ok : rf_chkB q742_P q742_U wLay q742_M ddX12_layTwo [(2,[0]),(6,[0]),(17,[0]),(30,[1]),(44,[0]),(55,[0]),(62,[1])] [.inl 3] [0,15,42] 600 q742_N = true := by decide +kernel
set_option maxHeartbeats 4000000 in
theorem q742_met {G : rfG} (h : okG G) (hh : wHandOK G) : rf_met G q742_M := rf_methodB h.1 (P := q742_P) (U := q742_U) (N := q742_N) ⟨wflT h flokX12, wcsT h csokX12, wlcT h lcokX12, spokX12 h, List.forall_mem_cons.mpr ⟨q656_met h hh, List.forall_mem_cons.mpr ⟨q667_met h hh, fun _ h => absurd h List.not_mem_nil⟩⟩, List.forall_mem_cons.mpr ⟨fun M hM => Option.some.inj (show some q656_M = some M from hM) ▸ wlkS (lkX12_319 h) q656_M rfl rfl, List.forall_mem_cons.mpr ⟨fun M hM => Option.some.inj (show some q667_M = some M from hM) ▸ wlkS (lkX12_359 h) q667_M rfl rfl, fun _ h => absurd h List.not_mem_nil⟩⟩, fun _ h => absurd h List.not_mem_nil, fun _ h => absurd h List.not_mem_nil, fun _ h => absurd h List.not_mem_nil⟩ dkX12_layTwo (by decide +kernel) (by rw [h.2.2.1]; exact q742_ok)
/-- NearSpellModel.layTwo -/
def q743_M : rfM := ((⟨"NearSpellModel", "layTwo", "(II)V"⟩, prog_14_method_57_code, 4, none), (3,66), ([.inr (.inl [114]),.inl ((0,387420488,1),none),.inl (((-1),387420488,1),none)],[]), [(95,0),(114,46)], [(none,[],[])])
def q743_P : rfP := (flX12,csX12,lcX12,spX12,[q656_M,q608_M,q667_M,q621_M],[(319,0),(319,1),(359,2),(359,3)],[],([],[]))
def q743_U : rfU := []
set_option maxHeartbeats 8000000 in
def q743_N : List rfB := [(0,([(0,.inr (.inl [114])),(1,.inl ((0,387420488,1),none)),(2,.inl (((-1),387420488,1),none))],[],[]),(383,[0]),0),
  (15,([(0,.inr (.inl [114])),(1,.inl ((0,387420488,1),none)),(2,.inl (((-1),387420488,1),none)),(3,.inl ((0,11,1),none))],[],[]),(372,[(-14)]),0),
  (42,([(0,.inr (.inl [114])),(1,.inl ((0,387420488,1),none)),(2,.inl (((-1),387420488,1),none)),(3,.inl ((0,11,1),none))],[],[]),(202,[(-17)]),0)]
set_option maxRecDepth 100000 in
theorem q743_ok : rf_chkB q743_P q743_U wLay q743_M ddX12_layTwo [(2,[0]),(6,[1]),(17,[0]),(30,[2]),(44,[1]),(55,[0]),(62,[3])] [.inl 3] [0,15,42] 600 q743_N = true := by decide +kernel
set_option maxHeartbeats 4000000 in
theorem q743_met {G : rfG} (h : okG G) (hh : wHandOK G) : rf_met G q743_M := rf_methodB h.1 (P := q743_P) (U := q743_U) (N := q743_N) ⟨wflT h flokX12, wcsT h csokX12, wlcT h lcokX12, spokX12 h, List.forall_mem_cons.mpr ⟨q656_met h hh, List.forall_mem_cons.mpr ⟨q608_met h hh, List.forall_mem_cons.mpr ⟨q667_met h hh, List.forall_mem_cons.mpr ⟨q621_met h hh, fun _ h => absurd h List.not_mem_nil⟩⟩⟩⟩, List.forall_mem_cons.mpr ⟨fun M hM => Option.some.inj (show some q656_M = some M from hM) ▸ wlkS (lkX12_319 h) q656_M rfl rfl, List.forall_mem_cons.mpr ⟨fun M hM => Option.some.inj (show some q608_M = some M from hM) ▸ wlkS (lkX12_319 h) q608_M rfl rfl, List.forall_mem_cons.mpr ⟨fun M hM => Option.some.inj (show some q667_M = some M from hM) ▸ wlkS (lkX12_359 h) q667_M rfl rfl, List.forall_mem_cons.mpr ⟨fun M hM => Option.some.inj (show some q621_M = some M from hM) ▸ wlkS (lkX12_359 h) q621_M rfl rfl, fun _ h => absurd h List.not_mem_nil⟩⟩⟩⟩, fun _ h => absurd h List.not_mem_nil, fun _ h => absurd h List.not_mem_nil, fun _ h => absurd h List.not_mem_nil⟩ dkX12_layTwo (by decide +kernel) (by rw [h.2.2.1]; exact q743_ok)
/-- NearSpellModel.layTwo -/
def q744_M : rfM := ((⟨"NearSpellModel", "layTwo", "(II)V"⟩, prog_14_method_57_code, 4, none), (3,66), ([.inr (.inl [114]),.inl (((-1),387420488,1),none),.inl (((-1),387420488,1),none)],[]), [(95,0),(114,46)], [(none,[],[])])
def q744_P : rfP := (flX12,csX12,lcX12,spX12,[q608_M,q621_M],[(319,0),(359,1)],[],([],[]))
def q744_U : rfU := []
set_option maxHeartbeats 8000000 in
def q744_N : List rfB := [(0,([(0,.inr (.inl [114])),(1,.inl (((-1),387420488,1),none)),(2,.inl (((-1),387420488,1),none))],[],[]),(383,[0]),0),
  (15,([(0,.inr (.inl [114])),(1,.inl (((-1),387420488,1),none)),(2,.inl (((-1),387420488,1),none)),(3,.inl ((0,11,1),none))],[],[]),(372,[(-14)]),0),
  (42,([(0,.inr (.inl [114])),(1,.inl (((-1),387420488,1),none)),(2,.inl (((-1),387420488,1),none)),(3,.inl ((0,11,1),none))],[],[]),(202,[(-17)]),0)]
set_option maxRecDepth 100000 in
theorem q744_ok : rf_chkB q744_P q744_U wLay q744_M ddX12_layTwo [(2,[0]),(6,[0]),(17,[0]),(30,[1]),(44,[0]),(55,[0]),(62,[1])] [.inl 3] [0,15,42] 600 q744_N = true := by decide +kernel
set_option maxHeartbeats 4000000 in
theorem q744_met {G : rfG} (h : okG G) (hh : wHandOK G) : rf_met G q744_M := rf_methodB h.1 (P := q744_P) (U := q744_U) (N := q744_N) ⟨wflT h flokX12, wcsT h csokX12, wlcT h lcokX12, spokX12 h, List.forall_mem_cons.mpr ⟨q608_met h hh, List.forall_mem_cons.mpr ⟨q621_met h hh, fun _ h => absurd h List.not_mem_nil⟩⟩, List.forall_mem_cons.mpr ⟨fun M hM => Option.some.inj (show some q608_M = some M from hM) ▸ wlkS (lkX12_319 h) q608_M rfl rfl, List.forall_mem_cons.mpr ⟨fun M hM => Option.some.inj (show some q621_M = some M from hM) ▸ wlkS (lkX12_359 h) q621_M rfl rfl, fun _ h => absurd h List.not_mem_nil⟩⟩, fun _ h => absurd h List.not_mem_nil, fun _ h => absurd h List.not_mem_nil, fun _ h => absurd h List.not_mem_nil⟩ dkX12_layTwo (by decide +kernel) (by rw [h.2.2.1]; exact q744_ok)
/-- NearSpellModel.isIn -/
def q745_M : rfM := ((⟨"NearSpellModel", "isIn", "(III)Z"⟩, prog_14_method_35_code, 3, (some .boolean)), (0,0), ([.inl ((0,4,1),none),.inl ((0,0,0),none),.inl (((-1),13,1),none)],[]), [], [(some (.inl ((1,1,0),none)),[(2,0,13)],[]),(some (.inl ((0,0,0),none)),[(2,(-1),3)],[])])
def q745_P : rfP := (flX12,csX12,lcX12,spX12,[],[],[],([],[]))
def q745_U : rfU := []
set_option maxHeartbeats 8000000 in
def q745_N : List rfB := [(0,([(0,.inl ((0,4,1),none)),(1,.inl ((0,0,0),none)),(2,.inl (((-1),13,1),none))],[],[]),(10,[]),0)]
set_option maxRecDepth 100000 in
theorem q745_ok : rf_chkB q745_P q745_U wLay q745_M ddX12_isIn [] [] [0] 600 q745_N = true := by decide +kernel
set_option maxHeartbeats 4000000 in
theorem q745_met {G : rfG} (h : okG G) (hh : wHandOK G) : rf_met G q745_M := rf_methodB h.1 (P := q745_P) (U := q745_U) (N := q745_N) ⟨wflT h flokX12, wcsT h csokX12, wlcT h lcokX12, spokX12 h, fun _ h => absurd h List.not_mem_nil, fun _ h => absurd h List.not_mem_nil, fun _ h => absurd h List.not_mem_nil, fun _ h => absurd h List.not_mem_nil, fun _ h => absurd h List.not_mem_nil⟩ dkX12_isIn (by decide +kernel) (by rw [h.2.2.1]; exact q745_ok)
/-- NearSpellModel.isEntry -/
def q746_M : rfM := ((⟨"NearSpellModel", "isEntry", "(I)Z"⟩, prog_14_method_46_code, 2, (some .boolean)), (1,22), ([.inr (.inl [114]),.inl ((0,4,1),none)],[]), [], [(some (.inl ((1,1,0),none)),[],[((90,28),(1,14,1),none)]),(some (.inl ((0,0,0),none)),[],[])])
def q746_P : rfP := (flX12,csX12,lcX12,spX12,[q745_M],[(334,0)],[],([],[]))
def q746_U : rfU := []
set_option maxHeartbeats 8000000 in
def q746_N : List rfB := [(0,([(0,.inr (.inl [114])),(1,.inl ((0,4,1),none))],[],[]),(22,[]),0),
  (32,([(0,.inr (.inl [114])),(1,.inl ((0,4,1),none))],[],[]),(1,[]),0)]
set_option maxRecDepth 100000 in
theorem q746_ok : rf_chkB q746_P q746_U wLay q746_M ddX12_isEntry [(11,[0])] [] [0,32] 600 q746_N = true := by decide +kernel
set_option maxHeartbeats 4000000 in
theorem q746_met {G : rfG} (h : okG G) (hh : wHandOK G) : rf_met G q746_M := rf_methodB h.1 (P := q746_P) (U := q746_U) (N := q746_N) ⟨wflT h flokX12, wcsT h csokX12, wlcT h lcokX12, spokX12 h, List.forall_mem_cons.mpr ⟨q745_met h hh, fun _ h => absurd h List.not_mem_nil⟩, List.forall_mem_cons.mpr ⟨fun M hM => Option.some.inj (show some q745_M = some M from hM) ▸ wlkS (lkX12_334 h) q745_M rfl rfl, fun _ h => absurd h List.not_mem_nil⟩, fun _ h => absurd h List.not_mem_nil, fun _ h => absurd h List.not_mem_nil, fun _ h => absurd h List.not_mem_nil⟩ dkX12_isEntry (by decide +kernel) (by rw [h.2.2.1]; exact q746_ok)
/-- NearSpellModel.split -/
def q747_M : rfM := ((⟨"NearSpellModel", "split", "(II)I"⟩, prog_14_method_78_code, 7, (some .int)), (21,2021), ([.inr (.inl [114]),.inl (((-2147483648),2147483647,1),none),.inl (((-2147483648),2147483647,1),none)],[((114,28),(0,0,0),none)]), [(94,0),(95,0),(96,0),(97,0),(114,45),(114,46)], [(some (.inl (((-13),1000,1),none)),[],[])])
def ddX12_split : List (Nat × Instr × Nat) := [(0,.iload_n 1,1),(1,.invokestatic 420,3),(4,.ifCond .eq 19,3),(7,.iload_n 2,1),(8,.iconst 0,1),(9,.iconst 2,1),(10,.invokestatic 334,3),(13,.ifCond .eq 10,3),(16,.aload_n 0,1),(17,.invokevirtual 423,3),(20,.ifCond .ne 5,3),(23,.iconst (-1),1),(24,.ireturn,1),(25,.iconst (-1),1),(26,.istore_n 3,1),(27,.sipush 1000,3),(30,.istore 4,2),(32,.aload_n 0,1),(33,.iload_n 1,1),(34,.iconst 0,1),(35,.invokevirtual 399,3),(38,.iconst 0,1),(39,.istore 5,2),(41,.iload 5,2),(43,.sipush 196,3),(46,.if_icmp .ge 87,3),(49,.aload_n 0,1),(50,.iload 5,2),(52,.bipush 14,2),(54,.idiv,1),(55,.invokevirtual 350,3),(58,.ifCond .eq 69,3),(61,.aload_n 0,1),(62,.iload 5,2),(64,.bipush 14,2),(66,.irem,1),(67,.invokevirtual 350,3),(70,.ifCond .ne 6,3),(73,.goto 54,3),(76,.aload_n 0,1),(77,.aload_n 0,1),(78,.getfield 72,3),(81,.iconst 0,1),(82,.iload 5,2),(84,.bipush 14,2),(86,.idiv,1),(87,.iadd,1),(88,.iaload,1),(89,.aload_n 0,1),(90,.getfield 72,3),(93,.iconst 0,1),(94,.iload 5,2),(96,.bipush 14,2),(98,.irem,1),(99,.iadd,1),(100,.iaload,1),(101,.invokevirtual 402,3),(104,.aload_n 0,1),(105,.invokevirtual 405,3),(108,.istore 6,2),(110,.iload 6,2),(112,.iload 4,2),(114,.if_icmp .lt 6,3),(117,.goto 10,3),(120,.iload 5,2),(122,.istore_n 3,1),(123,.iload 6,2),(125,.istore 4,2),(127,.iinc 5 1,3),(130,.goto (-89),3),(133,.iload_n 2,1),(134,.ifCond .ne 10,3),(137,.iload_n 3,1),(138,.bipush 14,2),(140,.idiv,1),(141,.goto 17,3),(144,.iload_n 2,1),(145,.iconst 1,1),(146,.if_icmp .ne 10,3),(149,.iload_n 3,1),(150,.bipush 14,2),(152,.irem,1),(153,.goto 5,3),(156,.iload 4,2),(158,.ireturn,1)]
set_option maxRecDepth 100000 in
theorem dkX12_split : rf_decs prog_14_method_78_code ddX12_split := rf_decs_of (by decide +kernel)
def q747_P : rfP := (flX12,csX12,lcX12,spX12,[q629_M,q715_M,q651_M,q681_M,q646_M,q744_M,q683_M],[(334,1),(420,0)],[(350,4,12),(399,3,12),(402,5,12),(405,6,12),(423,2,12)],([],[]))
def q747_U : rfU := []
set_option maxHeartbeats 8000000 in
def q747_N : List rfB := [(0,([(0,.inr (.inl [114])),(1,.inl (((-2147483648),2147483647,1),none)),(2,.inl (((-2147483648),2147483647,1),none))],[],[((114,28),(0,0,0),some ((114,28),0,0))]),(9889,[0]),0),
  (23,([(0,.inr (.inl [114])),(1,.inl (((-2147483648),2147483647,1),none)),(2,.inl (((-2147483648),2147483647,1),none))],[],[((114,28),(0,0,0),some ((114,28),0,0))]),(1,[0]),0),
  (41,([(0,.inr (.inl [114])),(1,.inl ((0,387420488,1),none)),(2,.inl ((0,2,1),none)),(3,.inl (((-1),195,1),none)),(4,.inl ((0,1000,1),none)),(5,.inl ((0,196,1),none))],[],[((114,28),(0,0,0),some ((114,28),0,0)),((114,44),(0,6,1),none)]),(9865,[(-50)]),0),
  (127,([(0,.inr (.inl [114])),(1,.inl ((0,387420488,1),none)),(2,.inl ((0,2,1),none)),(3,.inl (((-1),195,1),none)),(4,.inl ((0,1000,1),none)),(5,.inl ((0,195,1),none))],[],[((114,28),(0,0,0),some ((114,28),0,0)),((114,44),(0,6,1),none)]),(9818,[(-50)]),0),
  (158,([(0,.inr (.inl [114])),(1,.inl ((0,387420488,1),none)),(2,.inl ((0,2,1),none)),(3,.inl (((-1),195,1),none)),(4,.inl ((0,1000,1),none)),(5,.inl ((196,196,1),none))],[.inl (((-13),1000,1),none)],[((114,28),(0,0,0),some ((114,28),0,0)),((114,44),(0,6,1),none)]),(3,[0]),0)]
set_option maxRecDepth 100000 in
theorem q747_ok : rf_chkB q747_P q747_U wLay q747_M ddX12_split [(1,[0]),(10,[1]),(17,[2]),(35,[3]),(55,[4]),(67,[4]),(101,[5]),(105,[6])] [.inl 5] [0,23,41,127,158] 600 q747_N = true := by decide +kernel
set_option maxHeartbeats 4000000 in
theorem q747_met {G : rfG} (h : okG G) (hh : wHandOK G) : rf_met G q747_M := rf_methodB h.1 (P := q747_P) (U := q747_U) (N := q747_N) ⟨wflT h flokX12, wcsT h csokX12, wlcT h lcokX12, spokX12 h, List.forall_mem_cons.mpr ⟨q629_met h hh, List.forall_mem_cons.mpr ⟨q715_met h hh, List.forall_mem_cons.mpr ⟨q651_met h hh, List.forall_mem_cons.mpr ⟨q681_met h hh, List.forall_mem_cons.mpr ⟨q646_met h hh, List.forall_mem_cons.mpr ⟨q744_met h hh, List.forall_mem_cons.mpr ⟨q683_met h hh, fun _ h => absurd h List.not_mem_nil⟩⟩⟩⟩⟩⟩⟩, List.forall_mem_cons.mpr ⟨fun M hM => Option.some.inj (show some q715_M = some M from hM) ▸ wlkS (lkX12_334 h) q715_M rfl rfl, List.forall_mem_cons.mpr ⟨fun M hM => Option.some.inj (show some q629_M = some M from hM) ▸ wlkS (lkX12_420 h) q629_M rfl rfl, fun _ h => absurd h List.not_mem_nil⟩⟩, List.forall_mem_cons.mpr ⟨fun M hM => Option.some.inj (show some q646_M = some M from hM) ▸ wlkV (lkX12_350 h) q646_M rfl rfl, List.forall_mem_cons.mpr ⟨fun M hM => Option.some.inj (show some q681_M = some M from hM) ▸ wlkV (lkX12_399 h) q681_M rfl rfl, List.forall_mem_cons.mpr ⟨fun M hM => Option.some.inj (show some q744_M = some M from hM) ▸ wlkV (lkX12_402 h) q744_M rfl rfl, List.forall_mem_cons.mpr ⟨fun M hM => Option.some.inj (show some q683_M = some M from hM) ▸ wlkV (lkX12_405 h) q683_M rfl rfl, List.forall_mem_cons.mpr ⟨fun M hM => Option.some.inj (show some q651_M = some M from hM) ▸ wlkV (lkX12_423 h) q651_M rfl rfl, fun _ h => absurd h List.not_mem_nil⟩⟩⟩⟩⟩, fun _ h => absurd h List.not_mem_nil, fun _ h => absurd h List.not_mem_nil⟩ dkX12_split (by decide +kernel) (by rw [h.2.2.1]; exact q747_ok)
/-- NearSpellModel.split -/
def q748_M : rfM := ((⟨"NearSpellModel", "split", "(II)I"⟩, prog_14_method_78_code, 7, (some .int)), (21,2021), ([.inr (.inl [114]),.inl (((-2147483648),2147483647,1),none),.inl (((-2147483648),2147483647,1),none)],[((77,1),(1,31,1),none),((114,28),(1,1,0),none)]), [(94,0),(95,0),(96,0),(97,0),(114,45),(114,46)], [(some (.inl (((-13),1000,1),none)),[],[])])
def q748_P : rfP := (flX12,csX12,lcX12,spX12,[q629_M,q715_M,q651_M,q681_M,q646_M,q744_M,q683_M],[(334,1),(420,0)],[(350,4,12),(399,3,12),(402,5,12),(405,6,12),(423,2,12)],([],[]))
def q748_U : rfU := []
set_option maxHeartbeats 8000000 in
def q748_N : List rfB := [(0,([(0,.inr (.inl [114])),(1,.inl (((-2147483648),2147483647,1),none)),(2,.inl (((-2147483648),2147483647,1),none))],[],[((77,1),(1,31,1),some ((77,1),0,0)),((114,28),(1,1,0),some ((114,28),0,0))]),(9889,[0]),0),
  (23,([(0,.inr (.inl [114])),(1,.inl (((-2147483648),2147483647,1),none)),(2,.inl (((-2147483648),2147483647,1),none))],[],[((77,1),(1,31,1),some ((77,1),0,0)),((114,28),(1,1,0),some ((114,28),0,0))]),(1,[0]),0),
  (41,([(0,.inr (.inl [114])),(1,.inl ((0,387420488,1),none)),(2,.inl ((0,2,1),none)),(3,.inl (((-1),195,1),none)),(4,.inl ((0,1000,1),none)),(5,.inl ((0,196,1),none))],[],[((77,1),(1,31,1),some ((77,1),0,0)),((114,28),(1,1,0),some ((114,28),0,0)),((114,44),(0,6,1),none)]),(9865,[(-50)]),0),
  (127,([(0,.inr (.inl [114])),(1,.inl ((0,387420488,1),none)),(2,.inl ((0,2,1),none)),(3,.inl (((-1),195,1),none)),(4,.inl ((0,1000,1),none)),(5,.inl ((0,195,1),none))],[],[((77,1),(1,31,1),some ((77,1),0,0)),((114,28),(1,1,0),some ((114,28),0,0)),((114,44),(0,6,1),none)]),(9818,[(-50)]),0),
  (158,([(0,.inr (.inl [114])),(1,.inl ((0,387420488,1),none)),(2,.inl ((0,2,1),none)),(3,.inl (((-1),195,1),none)),(4,.inl ((0,1000,1),none)),(5,.inl ((196,196,1),none))],[.inl (((-13),1000,1),none)],[((77,1),(1,31,1),some ((77,1),0,0)),((114,28),(1,1,0),some ((114,28),0,0)),((114,44),(0,6,1),none)]),(3,[0]),0)]
set_option maxRecDepth 100000 in
theorem q748_ok : rf_chkB q748_P q748_U wLay q748_M ddX12_split [(1,[0]),(10,[1]),(17,[2]),(35,[3]),(55,[4]),(67,[4]),(101,[5]),(105,[6])] [.inl 5] [0,23,41,127,158] 600 q748_N = true := by decide +kernel
set_option maxHeartbeats 4000000 in
theorem q748_met {G : rfG} (h : okG G) (hh : wHandOK G) : rf_met G q748_M := rf_methodB h.1 (P := q748_P) (U := q748_U) (N := q748_N) ⟨wflT h flokX12, wcsT h csokX12, wlcT h lcokX12, spokX12 h, List.forall_mem_cons.mpr ⟨q629_met h hh, List.forall_mem_cons.mpr ⟨q715_met h hh, List.forall_mem_cons.mpr ⟨q651_met h hh, List.forall_mem_cons.mpr ⟨q681_met h hh, List.forall_mem_cons.mpr ⟨q646_met h hh, List.forall_mem_cons.mpr ⟨q744_met h hh, List.forall_mem_cons.mpr ⟨q683_met h hh, fun _ h => absurd h List.not_mem_nil⟩⟩⟩⟩⟩⟩⟩, List.forall_mem_cons.mpr ⟨fun M hM => Option.some.inj (show some q715_M = some M from hM) ▸ wlkS (lkX12_334 h) q715_M rfl rfl, List.forall_mem_cons.mpr ⟨fun M hM => Option.some.inj (show some q629_M = some M from hM) ▸ wlkS (lkX12_420 h) q629_M rfl rfl, fun _ h => absurd h List.not_mem_nil⟩⟩, List.forall_mem_cons.mpr ⟨fun M hM => Option.some.inj (show some q646_M = some M from hM) ▸ wlkV (lkX12_350 h) q646_M rfl rfl, List.forall_mem_cons.mpr ⟨fun M hM => Option.some.inj (show some q681_M = some M from hM) ▸ wlkV (lkX12_399 h) q681_M rfl rfl, List.forall_mem_cons.mpr ⟨fun M hM => Option.some.inj (show some q744_M = some M from hM) ▸ wlkV (lkX12_402 h) q744_M rfl rfl, List.forall_mem_cons.mpr ⟨fun M hM => Option.some.inj (show some q683_M = some M from hM) ▸ wlkV (lkX12_405 h) q683_M rfl rfl, List.forall_mem_cons.mpr ⟨fun M hM => Option.some.inj (show some q651_M = some M from hM) ▸ wlkV (lkX12_423 h) q651_M rfl rfl, fun _ h => absurd h List.not_mem_nil⟩⟩⟩⟩⟩, fun _ h => absurd h List.not_mem_nil, fun _ h => absurd h List.not_mem_nil⟩ dkX12_split (by decide +kernel) (by rw [h.2.2.1]; exact q748_ok)
/-- NearSpellModel.isIn -/
def q749_M : rfM := ((⟨"NearSpellModel", "isIn", "(III)Z"⟩, prog_14_method_35_code, 3, (some .boolean)), (0,0), ([.inl (((-2147483648),2147483647,1),none),.inl ((0,0,0),none),.inl (((-2147483648),4,1),none)],[]), [], [(some (.inl ((1,1,0),none)),[(0,0,4),(2,0,4)],[]),(some (.inl ((0,0,0),none)),[],[])])
def q749_P : rfP := (flX12,csX12,lcX12,spX12,[],[],[],([],[]))
def q749_U : rfU := []
set_option maxHeartbeats 8000000 in
def q749_N : List rfB := [(0,([(0,.inl (((-2147483648),2147483647,1),none)),(1,.inl ((0,0,0),none)),(2,.inl (((-2147483648),4,1),none))],[],[]),(10,[]),0),
  (14,([(0,.inl (((-2147483648),2147483647,1),none)),(1,.inl ((0,0,0),none)),(2,.inl (((-2147483648),4,1),none))],[],[]),(1,[]),0)]
set_option maxRecDepth 100000 in
theorem q749_ok : rf_chkB q749_P q749_U wLay q749_M ddX12_isIn [] [] [0,14] 600 q749_N = true := by decide +kernel
set_option maxHeartbeats 4000000 in
theorem q749_met {G : rfG} (h : okG G) (hh : wHandOK G) : rf_met G q749_M := rf_methodB h.1 (P := q749_P) (U := q749_U) (N := q749_N) ⟨wflT h flokX12, wcsT h csokX12, wlcT h lcokX12, spokX12 h, fun _ h => absurd h List.not_mem_nil, fun _ h => absurd h List.not_mem_nil, fun _ h => absurd h List.not_mem_nil, fun _ h => absurd h List.not_mem_nil, fun _ h => absurd h List.not_mem_nil⟩ dkX12_isIn (by decide +kernel) (by rw [h.2.2.1]; exact q749_ok)
/-- NearSpellModel.isIn -/
def q750_M : rfM := ((⟨"NearSpellModel", "isIn", "(III)Z"⟩, prog_14_method_35_code, 3, (some .boolean)), (0,0), ([.inl (((-2147483648),2147483647,1),none),.inl ((0,0,0),none),.inl ((1,1,0),none)],[]), [], [(some (.inl ((1,1,0),none)),[(0,0,1)],[]),(some (.inl ((0,0,0),none)),[],[])])
def q750_P : rfP := (flX12,csX12,lcX12,spX12,[],[],[],([],[]))
def q750_U : rfU := []
set_option maxHeartbeats 8000000 in
def q750_N : List rfB := [(0,([(0,.inl (((-2147483648),2147483647,1),none)),(1,.inl ((0,0,0),none)),(2,.inl ((1,1,0),none))],[],[]),(10,[]),0),
  (14,([(0,.inl (((-2147483648),2147483647,1),none)),(1,.inl ((0,0,0),none)),(2,.inl ((1,1,0),none))],[],[]),(1,[]),0)]
set_option maxRecDepth 100000 in
theorem q750_ok : rf_chkB q750_P q750_U wLay q750_M ddX12_isIn [] [] [0,14] 600 q750_N = true := by decide +kernel
set_option maxHeartbeats 4000000 in
theorem q750_met {G : rfG} (h : okG G) (hh : wHandOK G) : rf_met G q750_M := rf_methodB h.1 (P := q750_P) (U := q750_U) (N := q750_N) ⟨wflT h flokX12, wcsT h csokX12, wlcT h lcokX12, spokX12 h, fun _ h => absurd h List.not_mem_nil, fun _ h => absurd h List.not_mem_nil, fun _ h => absurd h List.not_mem_nil, fun _ h => absurd h List.not_mem_nil, fun _ h => absurd h List.not_mem_nil⟩ dkX12_isIn (by decide +kernel) (by rw [h.2.2.1]; exact q750_ok)
/-- NearSpellModel.layOne -/
def q751_M : rfM := ((⟨"NearSpellModel", "layOne", "(II)V"⟩, prog_14_method_56_code, 4, none), (3,66), ([.inr (.inl [114]),.inl ((0,387420488,1),none),.inl ((0,387420488,1),none)],[]), [(94,0),(114,45)], [(none,[],[])])
def q751_P : rfP := (flX12,csX12,lcX12,spX12,[q656_M,q667_M],[(319,0),(359,1)],[],([],[]))
def q751_U : rfU := []
set_option maxHeartbeats 8000000 in
def q751_N : List rfB := [(0,([(0,.inr (.inl [114])),(1,.inl ((0,387420488,1),none)),(2,.inl ((0,387420488,1),none))],[],[]),(383,[0]),0),
  (15,([(0,.inr (.inl [114])),(1,.inl ((0,387420488,1),none)),(2,.inl ((0,387420488,1),none)),(3,.inl ((0,11,1),none))],[],[]),(372,[(-14)]),0),
  (42,([(0,.inr (.inl [114])),(1,.inl ((0,387420488,1),none)),(2,.inl ((0,387420488,1),none)),(3,.inl ((0,11,1),none))],[],[]),(202,[(-17)]),0)]
set_option maxRecDepth 100000 in
theorem q751_ok : rf_chkB q751_P q751_U wLay q751_M ddX12_layOne [(2,[0]),(6,[0]),(17,[0]),(30,[1]),(44,[0]),(55,[0]),(62,[1])] [.inl 3] [0,15,42] 600 q751_N = true := by decide +kernel
set_option maxHeartbeats 4000000 in
theorem q751_met {G : rfG} (h : okG G) (hh : wHandOK G) : rf_met G q751_M := rf_methodB h.1 (P := q751_P) (U := q751_U) (N := q751_N) ⟨wflT h flokX12, wcsT h csokX12, wlcT h lcokX12, spokX12 h, List.forall_mem_cons.mpr ⟨q656_met h hh, List.forall_mem_cons.mpr ⟨q667_met h hh, fun _ h => absurd h List.not_mem_nil⟩⟩, List.forall_mem_cons.mpr ⟨fun M hM => Option.some.inj (show some q656_M = some M from hM) ▸ wlkS (lkX12_319 h) q656_M rfl rfl, List.forall_mem_cons.mpr ⟨fun M hM => Option.some.inj (show some q667_M = some M from hM) ▸ wlkS (lkX12_359 h) q667_M rfl rfl, fun _ h => absurd h List.not_mem_nil⟩⟩, fun _ h => absurd h List.not_mem_nil, fun _ h => absurd h List.not_mem_nil, fun _ h => absurd h List.not_mem_nil⟩ dkX12_layOne (by decide +kernel) (by rw [h.2.2.1]; exact q751_ok)
/-- NearSpellModel.join -/
def q752_M : rfM := ((⟨"NearSpellModel", "join", "(II)I"⟩, prog_14_method_79_code, 7, (some .int)), (21,2021), ([.inr (.inl [114]),.inl (((-2147483648),2147483647,1),none),.inl (((-2147483648),2147483647,1),none)],[((114,28),(0,0,0),none)]), [(94,0),(95,0),(96,0),(97,0),(114,45),(114,46)], [(some (.inl (((-1),1000,1),none)),[],[])])
def ddX12_join : List (Nat × Instr × Nat) := [(0,.iload_n 1,1),(1,.iconst 0,1),(2,.aload_n 0,1),(3,.getfield 72,3),(6,.bipush 29,2),(8,.iaload,1),(9,.iconst 2,1),(10,.isub,1),(11,.invokestatic 334,3),(14,.ifCond .eq 19,3),(17,.iload_n 2,1),(18,.iconst 0,1),(19,.iconst 1,1),(20,.invokestatic 334,3),(23,.ifCond .eq 10,3),(26,.aload_n 0,1),(27,.invokevirtual 423,3),(30,.ifCond .ne 5,3),(33,.iconst (-1),1),(34,.ireturn,1),(35,.iconst (-1),1),(36,.istore_n 3,1),(37,.sipush 1000,3),(40,.istore 4,2),(42,.aload_n 0,1),(43,.aload_n 0,1),(44,.getfield 72,3),(47,.bipush 30,2),(49,.iload_n 1,1),(50,.iadd,1),(51,.iaload,1),(52,.aload_n 0,1),(53,.getfield 72,3),(56,.bipush 30,2),(58,.iload_n 1,1),(59,.iadd,1),(60,.iconst 1,1),(61,.iadd,1),(62,.iaload,1),(63,.invokevirtual 399,3),(66,.iconst 0,1),(67,.istore 5,2),(69,.iload 5,2),(71,.bipush 14,2),(73,.if_icmp .ge 58,3),(76,.aload_n 0,1),(77,.iload 5,2),(79,.invokevirtual 350,3),(82,.ifCond .ne 6,3),(85,.goto 40,3),(88,.aload_n 0,1),(89,.aload_n 0,1),(90,.getfield 72,3),(93,.iconst 0,1),(94,.iload 5,2),(96,.iadd,1),(97,.iaload,1),(98,.iconst 0,1),(99,.invokevirtual 402,3),(102,.aload_n 0,1),(103,.invokevirtual 405,3),(106,.istore 6,2),(108,.iload 6,2),(110,.iload 4,2),(112,.if_icmp .lt 6,3),(115,.goto 10,3),(118,.iload 5,2),(120,.istore_n 3,1),(121,.iload 6,2),(123,.istore 4,2),(125,.iinc 5 1,3),(128,.goto (-59),3),(131,.iload_n 2,1),(132,.ifCond .ne 7,3),(135,.iload_n 3,1),(136,.goto 5,3),(139,.iload 4,2),(141,.ireturn,1)]
set_option maxRecDepth 100000 in
theorem dkX12_join : rf_decs prog_14_method_79_code ddX12_join := rf_decs_of (by decide +kernel)
def q752_P : rfP := (flX12,csX12,lcX12,spX12,[q749_M,q750_M,q651_M,q751_M,q646_M,q685_M,q683_M],[(334,0),(334,1)],[(350,4,12),(399,3,12),(402,5,12),(405,6,12),(423,2,12)],([],[]))
def q752_U : rfU := []
set_option maxHeartbeats 8000000 in
def q752_N : List rfB := [(0,([(0,.inr (.inl [114])),(1,.inl (((-2147483648),2147483647,1),none)),(2,.inl (((-2147483648),2147483647,1),none))],[],[((114,28),(0,0,0),some ((114,28),0,0))]),(529,[0]),0),
  (33,([(0,.inr (.inl [114])),(1,.inl (((-2147483648),2147483647,1),none)),(2,.inl (((-2147483648),2147483647,1),none))],[],[((114,28),(0,0,0),some ((114,28),0,0))]),(509,[0]),0),
  (69,([(0,.inr (.inl [114])),(1,.inl ((0,4,1),none)),(2,.inl ((0,1,1),none)),(3,.inl (((-1),13,1),none)),(4,.inl ((0,1000,1),none)),(5,.inl ((0,14,1),none))],[],[((90,29),(2,6,1),none),((114,28),(0,0,0),some ((114,28),0,0))]),(483,[(-32)]),0),
  (125,([(0,.inr (.inl [114])),(1,.inl ((0,4,1),none)),(2,.inl ((0,1,1),none)),(3,.inl (((-1),13,1),none)),(4,.inl ((0,1000,1),none)),(5,.inl ((0,13,1),none))],[],[((90,29),(2,6,1),none),((114,28),(0,0,0),some ((114,28),0,0))]),(454,[(-32)]),0),
  (141,([(0,.inr (.inl [114])),(1,.inl ((0,4,1),none)),(2,.inl ((0,1,1),none)),(3,.inl (((-1),13,1),none)),(4,.inl ((0,1000,1),none)),(5,.inl ((14,14,1),none))],[.inl (((-1),1000,1),none)],[((90,29),(2,6,1),none),((114,28),(0,0,0),some ((114,28),0,0))]),(0,[0]),0)]
set_option maxRecDepth 100000 in
theorem q752_ok : rf_chkB q752_P q752_U wLay q752_M ddX12_join [(11,[0]),(20,[1]),(27,[2]),(63,[3]),(79,[4]),(99,[5]),(103,[6])] [.inl 5] [0,33,69,125,141] 600 q752_N = true := by decide +kernel
set_option maxHeartbeats 4000000 in
theorem q752_met {G : rfG} (h : okG G) (hh : wHandOK G) : rf_met G q752_M := rf_methodB h.1 (P := q752_P) (U := q752_U) (N := q752_N) ⟨wflT h flokX12, wcsT h csokX12, wlcT h lcokX12, spokX12 h, List.forall_mem_cons.mpr ⟨q749_met h hh, List.forall_mem_cons.mpr ⟨q750_met h hh, List.forall_mem_cons.mpr ⟨q651_met h hh, List.forall_mem_cons.mpr ⟨q751_met h hh, List.forall_mem_cons.mpr ⟨q646_met h hh, List.forall_mem_cons.mpr ⟨q685_met h hh, List.forall_mem_cons.mpr ⟨q683_met h hh, fun _ h => absurd h List.not_mem_nil⟩⟩⟩⟩⟩⟩⟩, List.forall_mem_cons.mpr ⟨fun M hM => Option.some.inj (show some q749_M = some M from hM) ▸ wlkS (lkX12_334 h) q749_M rfl rfl, List.forall_mem_cons.mpr ⟨fun M hM => Option.some.inj (show some q750_M = some M from hM) ▸ wlkS (lkX12_334 h) q750_M rfl rfl, fun _ h => absurd h List.not_mem_nil⟩⟩, List.forall_mem_cons.mpr ⟨fun M hM => Option.some.inj (show some q646_M = some M from hM) ▸ wlkV (lkX12_350 h) q646_M rfl rfl, List.forall_mem_cons.mpr ⟨fun M hM => Option.some.inj (show some q751_M = some M from hM) ▸ wlkV (lkX12_399 h) q751_M rfl rfl, List.forall_mem_cons.mpr ⟨fun M hM => Option.some.inj (show some q685_M = some M from hM) ▸ wlkV (lkX12_402 h) q685_M rfl rfl, List.forall_mem_cons.mpr ⟨fun M hM => Option.some.inj (show some q683_M = some M from hM) ▸ wlkV (lkX12_405 h) q683_M rfl rfl, List.forall_mem_cons.mpr ⟨fun M hM => Option.some.inj (show some q651_M = some M from hM) ▸ wlkV (lkX12_423 h) q651_M rfl rfl, fun _ h => absurd h List.not_mem_nil⟩⟩⟩⟩⟩, fun _ h => absurd h List.not_mem_nil, fun _ h => absurd h List.not_mem_nil⟩ dkX12_join (by decide +kernel) (by rw [h.2.2.1]; exact q752_ok)
/-- NearSpellModel.join -/
def q753_M : rfM := ((⟨"NearSpellModel", "join", "(II)I"⟩, prog_14_method_79_code, 7, (some .int)), (21,2021), ([.inr (.inl [114]),.inl (((-2147483648),2147483647,1),none),.inl (((-2147483648),2147483647,1),none)],[((77,1),(1,31,1),none),((114,28),(1,1,0),none)]), [(94,0),(95,0),(96,0),(97,0),(114,45),(114,46)], [(some (.inl (((-1),1000,1),none)),[],[])])
def q753_P : rfP := (flX12,csX12,lcX12,spX12,[q749_M,q750_M,q651_M,q751_M,q646_M,q685_M,q683_M],[(334,0),(334,1)],[(350,4,12),(399,3,12),(402,5,12),(405,6,12),(423,2,12)],([],[]))
def q753_U : rfU := []
set_option maxHeartbeats 8000000 in
def q753_N : List rfB := [(0,([(0,.inr (.inl [114])),(1,.inl (((-2147483648),2147483647,1),none)),(2,.inl (((-2147483648),2147483647,1),none))],[],[((77,1),(1,31,1),some ((77,1),0,0)),((114,28),(1,1,0),some ((114,28),0,0))]),(529,[0]),0),
  (33,([(0,.inr (.inl [114])),(1,.inl (((-2147483648),2147483647,1),none)),(2,.inl (((-2147483648),2147483647,1),none))],[],[((77,1),(1,31,1),some ((77,1),0,0)),((114,28),(1,1,0),some ((114,28),0,0))]),(509,[0]),0),
  (69,([(0,.inr (.inl [114])),(1,.inl ((0,4,1),none)),(2,.inl ((0,1,1),none)),(3,.inl (((-1),13,1),none)),(4,.inl ((0,1000,1),none)),(5,.inl ((0,14,1),none))],[],[((77,1),(1,31,1),some ((77,1),0,0)),((90,29),(2,6,1),none),((114,28),(1,1,0),some ((114,28),0,0))]),(483,[(-32)]),0),
  (125,([(0,.inr (.inl [114])),(1,.inl ((0,4,1),none)),(2,.inl ((0,1,1),none)),(3,.inl (((-1),13,1),none)),(4,.inl ((0,1000,1),none)),(5,.inl ((0,13,1),none))],[],[((77,1),(1,31,1),some ((77,1),0,0)),((90,29),(2,6,1),none),((114,28),(1,1,0),some ((114,28),0,0))]),(454,[(-32)]),0),
  (141,([(0,.inr (.inl [114])),(1,.inl ((0,4,1),none)),(2,.inl ((0,1,1),none)),(3,.inl (((-1),13,1),none)),(4,.inl ((0,1000,1),none)),(5,.inl ((14,14,1),none))],[.inl (((-1),1000,1),none)],[((77,1),(1,31,1),some ((77,1),0,0)),((90,29),(2,6,1),none),((114,28),(1,1,0),some ((114,28),0,0))]),(0,[0]),0)]
set_option maxRecDepth 100000 in
theorem q753_ok : rf_chkB q753_P q753_U wLay q753_M ddX12_join [(11,[0]),(20,[1]),(27,[2]),(63,[3]),(79,[4]),(99,[5]),(103,[6])] [.inl 5] [0,33,69,125,141] 600 q753_N = true := by decide +kernel
set_option maxHeartbeats 4000000 in
theorem q753_met {G : rfG} (h : okG G) (hh : wHandOK G) : rf_met G q753_M := rf_methodB h.1 (P := q753_P) (U := q753_U) (N := q753_N) ⟨wflT h flokX12, wcsT h csokX12, wlcT h lcokX12, spokX12 h, List.forall_mem_cons.mpr ⟨q749_met h hh, List.forall_mem_cons.mpr ⟨q750_met h hh, List.forall_mem_cons.mpr ⟨q651_met h hh, List.forall_mem_cons.mpr ⟨q751_met h hh, List.forall_mem_cons.mpr ⟨q646_met h hh, List.forall_mem_cons.mpr ⟨q685_met h hh, List.forall_mem_cons.mpr ⟨q683_met h hh, fun _ h => absurd h List.not_mem_nil⟩⟩⟩⟩⟩⟩⟩, List.forall_mem_cons.mpr ⟨fun M hM => Option.some.inj (show some q749_M = some M from hM) ▸ wlkS (lkX12_334 h) q749_M rfl rfl, List.forall_mem_cons.mpr ⟨fun M hM => Option.some.inj (show some q750_M = some M from hM) ▸ wlkS (lkX12_334 h) q750_M rfl rfl, fun _ h => absurd h List.not_mem_nil⟩⟩, List.forall_mem_cons.mpr ⟨fun M hM => Option.some.inj (show some q646_M = some M from hM) ▸ wlkV (lkX12_350 h) q646_M rfl rfl, List.forall_mem_cons.mpr ⟨fun M hM => Option.some.inj (show some q751_M = some M from hM) ▸ wlkV (lkX12_399 h) q751_M rfl rfl, List.forall_mem_cons.mpr ⟨fun M hM => Option.some.inj (show some q685_M = some M from hM) ▸ wlkV (lkX12_402 h) q685_M rfl rfl, List.forall_mem_cons.mpr ⟨fun M hM => Option.some.inj (show some q683_M = some M from hM) ▸ wlkV (lkX12_405 h) q683_M rfl rfl, List.forall_mem_cons.mpr ⟨fun M hM => Option.some.inj (show some q651_M = some M from hM) ▸ wlkV (lkX12_423 h) q651_M rfl rfl, fun _ h => absurd h List.not_mem_nil⟩⟩⟩⟩⟩, fun _ h => absurd h List.not_mem_nil, fun _ h => absurd h List.not_mem_nil⟩ dkX12_join (by decide +kernel) (by rw [h.2.2.1]; exact q753_ok)
/-- NearSpellModel.reads -/
def q754_M : rfM := ((⟨"NearSpellModel", "reads", "(III)V"⟩, prog_14_method_80_code, 5, none), (0,0), ([.inr (.inl [114]),.inl ((0,0,0),none),.inl ((1,1,0),none),.inl ((0,12,1),none)],[]), [(100,0),(101,0)], [(none,[],[])])
def ddX12_reads : List (Nat × Instr × Nat) := [(0,.aload_n 0,1),(1,.getfield 102,3),(4,.iload_n 1,1),(5,.iaload,1),(6,.iload_n 3,1),(7,.iadd,1),(8,.istore 4,2),(10,.iload 4,2),(12,.aload_n 0,1),(13,.getfield 102,3),(16,.iload_n 2,1),(17,.iaload,1),(18,.if_icmp .le 4,3),(21,.return_,1),(22,.iload 4,2),(24,.aload_n 0,1),(25,.getfield 102,3),(28,.iload_n 2,1),(29,.iaload,1),(30,.if_icmp .ge 10,3),(33,.aload_n 0,1),(34,.getfield 105,3),(37,.iload_n 2,1),(38,.iconst 0,1),(39,.iastore,1),(40,.aload_n 0,1),(41,.getfield 102,3),(44,.iload_n 2,1),(45,.iload 4,2),(47,.iastore,1),(48,.aload_n 0,1),(49,.getfield 105,3),(52,.iload_n 2,1),(53,.dup2,1),(54,.iaload,1),(55,.aload_n 0,1),(56,.getfield 105,3),(59,.iload_n 1,1),(60,.iaload,1),(61,.iadd,1),(62,.iastore,1),(63,.return_,1)]
set_option maxRecDepth 100000 in
theorem dkX12_reads : rf_decs prog_14_method_80_code ddX12_reads := rf_decs_of (by decide +kernel)
def q754_P : rfP := (flX12,csX12,lcX12,spX12,[],[],[],([],[]))
def q754_U : rfU := []
set_option maxHeartbeats 8000000 in
def q754_N : List rfB := [(0,([(0,.inr (.inl [114])),(1,.inl ((0,0,0),none)),(2,.inl ((1,1,0),none)),(3,.inl ((0,12,1),none))],[],[]),(41,[]),0),
  (40,([(0,.inr (.inl [114])),(1,.inl ((0,0,0),none)),(2,.inl ((1,1,0),none)),(3,.inl ((0,12,1),none)),(4,.inl (((-2147483648),2147483647,1),none))],[],[]),(16,[]),0)]
set_option maxRecDepth 100000 in
theorem q754_ok : rf_chkB q754_P q754_U wLay q754_M ddX12_reads [] [] [0,40] 600 q754_N = true := by decide +kernel
set_option maxHeartbeats 4000000 in
theorem q754_met {G : rfG} (h : okG G) (hh : wHandOK G) : rf_met G q754_M := rf_methodB h.1 (P := q754_P) (U := q754_U) (N := q754_N) ⟨wflT h flokX12, wcsT h csokX12, wlcT h lcokX12, spokX12 h, fun _ h => absurd h List.not_mem_nil, fun _ h => absurd h List.not_mem_nil, fun _ h => absurd h List.not_mem_nil, fun _ h => absurd h List.not_mem_nil, fun _ h => absurd h List.not_mem_nil⟩ dkX12_reads (by decide +kernel) (by rw [h.2.2.1]; exact q754_ok)
/-- NearSpellModel.reads -/
def q755_M : rfM := ((⟨"NearSpellModel", "reads", "(III)V"⟩, prog_14_method_80_code, 5, none), (0,0), ([.inr (.inl [114]),.inl ((0,0,0),none),.inl ((1,1,0),none),.inl ((1,13,1),none)],[]), [(100,0),(101,0)], [(none,[],[])])
def q755_P : rfP := (flX12,csX12,lcX12,spX12,[],[],[],([],[]))
def q755_U : rfU := []
set_option maxHeartbeats 8000000 in
def q755_N : List rfB := [(0,([(0,.inr (.inl [114])),(1,.inl ((0,0,0),none)),(2,.inl ((1,1,0),none)),(3,.inl ((1,13,1),none))],[],[]),(41,[]),0),
  (40,([(0,.inr (.inl [114])),(1,.inl ((0,0,0),none)),(2,.inl ((1,1,0),none)),(3,.inl ((1,13,1),none)),(4,.inl (((-2147483648),2147483647,1),none))],[],[]),(16,[]),0)]
set_option maxRecDepth 100000 in
theorem q755_ok : rf_chkB q755_P q755_U wLay q755_M ddX12_reads [] [] [0,40] 600 q755_N = true := by decide +kernel
set_option maxHeartbeats 4000000 in
theorem q755_met {G : rfG} (h : okG G) (hh : wHandOK G) : rf_met G q755_M := rf_methodB h.1 (P := q755_P) (U := q755_U) (N := q755_N) ⟨wflT h flokX12, wcsT h csokX12, wlcT h lcokX12, spokX12 h, fun _ h => absurd h List.not_mem_nil, fun _ h => absurd h List.not_mem_nil, fun _ h => absurd h List.not_mem_nil, fun _ h => absurd h List.not_mem_nil, fun _ h => absurd h List.not_mem_nil⟩ dkX12_reads (by decide +kernel) (by rw [h.2.2.1]; exact q755_ok)
/-- NearSpellModel.readOne -/
def q756_M : rfM := ((⟨"NearSpellModel", "readOne", "(I)V"⟩, prog_14_method_81_code, 4, none), (21,2021), ([.inr (.inl [114]),.inl ((0,0,0),none)],[]), [(94,0),(95,0),(96,0),(97,0),(100,0),(101,0),(114,45),(114,46)], [(none,[],[((114,44),(0,6,1),none)])])
def ddX12_readOne : List (Nat × Instr × Nat) := [(0,.aload_n 0,1),(1,.aload_n 0,1),(2,.getfield 72,3),(5,.bipush 30,2),(7,.iload_n 1,1),(8,.iadd,1),(9,.iaload,1),(10,.iconst 0,1),(11,.invokevirtual 399,3),(14,.iconst 0,1),(15,.istore_n 2,1),(16,.iload_n 2,1),(17,.bipush 14,2),(19,.if_icmp .ge 104,3),(22,.aload_n 0,1),(23,.iload_n 2,1),(24,.invokevirtual 350,3),(27,.ifCond .ne 6,3),(30,.goto 87,3),(33,.aload_n 0,1),(34,.aload_n 0,1),(35,.getfield 72,3),(38,.iconst 0,1),(39,.iload_n 2,1),(40,.iadd,1),(41,.iaload,1),(42,.iconst 0,1),(43,.invokevirtual 402,3),(46,.aload_n 0,1),(47,.iload_n 1,1),(48,.iload_n 1,1),(49,.iconst 1,1),(50,.iadd,1),(51,.aload_n 0,1),(52,.invokevirtual 405,3),(55,.invokevirtual 431,3),(58,.iconst 0,1),(59,.istore_n 3,1),(60,.iload_n 3,1),(61,.bipush 14,2),(63,.if_icmp .ge 54,3),(66,.aload_n 0,1),(67,.iload_n 3,1),(68,.invokevirtual 350,3),(71,.ifCond .ne 6,3),(74,.goto 37,3),(77,.aload_n 0,1),(78,.aload_n 0,1),(79,.getfield 72,3),(82,.iconst 0,1),(83,.iload_n 2,1),(84,.iadd,1),(85,.iaload,1),(86,.aload_n 0,1),(87,.getfield 72,3),(90,.iconst 0,1),(91,.iload_n 3,1),(92,.iadd,1),(93,.iaload,1),(94,.invokevirtual 402,3),(97,.aload_n 0,1),(98,.iload_n 1,1),(99,.iload_n 1,1),(100,.iconst 1,1),(101,.iadd,1),(102,.aload_n 0,1),(103,.invokevirtual 405,3),(106,.iconst 1,1),(107,.iadd,1),(108,.invokevirtual 431,3),(111,.iinc 3 1,3),(114,.goto (-54),3),(117,.iinc 2 1,3),(120,.goto (-104),3),(123,.return_,1)]
set_option maxRecDepth 100000 in
theorem dkX12_readOne : rf_decs prog_14_method_81_code ddX12_readOne := rf_decs_of (by decide +kernel)
def q756_P : rfP := (flX12,csX12,lcX12,spX12,[q681_M,q646_M,q685_M,q683_M,q754_M,q744_M,q755_M],[],[(350,1,12),(399,0,12),(402,2,12),(402,5,12),(405,3,12),(431,4,12),(431,6,12)],([],[]))
def q756_U : rfU := []
set_option maxHeartbeats 8000000 in
def q756_N : List rfB := [(0,([(0,.inr (.inl [114])),(1,.inl ((0,0,0),none))],[],[]),(8576,[0,0]),0),
  (16,([(0,.inr (.inl [114])),(1,.inl ((0,0,0),none)),(2,.inl ((0,14,1),none))],[],[((114,44),(0,6,1),none)]),(8563,[(-571),0]),0),
  (117,([(0,.inr (.inl [114])),(1,.inl ((0,0,0),none)),(2,.inl ((0,13,1),none))],[],[((114,44),(0,6,1),none)]),(7995,[(-571),0]),0),
  (60,([(0,.inr (.inl [114])),(1,.inl ((0,0,0),none)),(2,.inl ((0,13,1),none)),(3,.inl ((0,14,1),none))],[],[((90,28),(1,14,1),none),((114,44),(0,6,1),none)]),(8535,[(-571),(-36)]),0),
  (111,([(0,.inr (.inl [114])),(1,.inl ((0,0,0),none)),(2,.inl ((0,13,1),none)),(3,.inl ((0,13,1),none))],[],[((90,28),(1,14,1),none),((114,44),(0,6,1),none)]),(8502,[(-571),(-36)]),0)]
set_option maxRecDepth 100000 in
theorem q756_ok : rf_chkB q756_P q756_U wLay q756_M ddX12_readOne [(11,[0]),(24,[1]),(43,[2]),(52,[3]),(55,[4]),(68,[1]),(94,[5]),(103,[3]),(108,[6])] [.inl 2,.inl 3] [0,16,60,111,117] 600 q756_N = true := by decide +kernel
set_option maxHeartbeats 4000000 in
theorem q756_met {G : rfG} (h : okG G) (hh : wHandOK G) : rf_met G q756_M := rf_methodB h.1 (P := q756_P) (U := q756_U) (N := q756_N) ⟨wflT h flokX12, wcsT h csokX12, wlcT h lcokX12, spokX12 h, List.forall_mem_cons.mpr ⟨q681_met h hh, List.forall_mem_cons.mpr ⟨q646_met h hh, List.forall_mem_cons.mpr ⟨q685_met h hh, List.forall_mem_cons.mpr ⟨q683_met h hh, List.forall_mem_cons.mpr ⟨q754_met h hh, List.forall_mem_cons.mpr ⟨q744_met h hh, List.forall_mem_cons.mpr ⟨q755_met h hh, fun _ h => absurd h List.not_mem_nil⟩⟩⟩⟩⟩⟩⟩, fun _ h => absurd h List.not_mem_nil, List.forall_mem_cons.mpr ⟨fun M hM => Option.some.inj (show some q646_M = some M from hM) ▸ wlkV (lkX12_350 h) q646_M rfl rfl, List.forall_mem_cons.mpr ⟨fun M hM => Option.some.inj (show some q681_M = some M from hM) ▸ wlkV (lkX12_399 h) q681_M rfl rfl, List.forall_mem_cons.mpr ⟨fun M hM => Option.some.inj (show some q685_M = some M from hM) ▸ wlkV (lkX12_402 h) q685_M rfl rfl, List.forall_mem_cons.mpr ⟨fun M hM => Option.some.inj (show some q744_M = some M from hM) ▸ wlkV (lkX12_402 h) q744_M rfl rfl, List.forall_mem_cons.mpr ⟨fun M hM => Option.some.inj (show some q683_M = some M from hM) ▸ wlkV (lkX12_405 h) q683_M rfl rfl, List.forall_mem_cons.mpr ⟨fun M hM => Option.some.inj (show some q754_M = some M from hM) ▸ wlkV (lkX12_431 h) q754_M rfl rfl, List.forall_mem_cons.mpr ⟨fun M hM => Option.some.inj (show some q755_M = some M from hM) ▸ wlkV (lkX12_431 h) q755_M rfl rfl, fun _ h => absurd h List.not_mem_nil⟩⟩⟩⟩⟩⟩⟩, fun _ h => absurd h List.not_mem_nil, fun _ h => absurd h List.not_mem_nil⟩ dkX12_readOne (by decide +kernel) (by rw [h.2.2.1]; exact q756_ok)
/-- NearSpellModel.reads -/
def q757_M : rfM := ((⟨"NearSpellModel", "reads", "(III)V"⟩, prog_14_method_80_code, 5, none), (0,0), ([.inr (.inl [114]),.inl ((0,0,0),none),.inl ((2,2,0),none),.inl ((1,13,1),none)],[]), [(100,0),(101,0)], [(none,[],[])])
def q757_P : rfP := (flX12,csX12,lcX12,spX12,[],[],[],([],[]))
def q757_U : rfU := []
set_option maxHeartbeats 8000000 in
def q757_N : List rfB := [(0,([(0,.inr (.inl [114])),(1,.inl ((0,0,0),none)),(2,.inl ((2,2,0),none)),(3,.inl ((1,13,1),none))],[],[]),(41,[]),0),
  (40,([(0,.inr (.inl [114])),(1,.inl ((0,0,0),none)),(2,.inl ((2,2,0),none)),(3,.inl ((1,13,1),none)),(4,.inl (((-2147483648),2147483647,1),none))],[],[]),(16,[]),0)]
set_option maxRecDepth 100000 in
theorem q757_ok : rf_chkB q757_P q757_U wLay q757_M ddX12_reads [] [] [0,40] 600 q757_N = true := by decide +kernel
set_option maxHeartbeats 4000000 in
theorem q757_met {G : rfG} (h : okG G) (hh : wHandOK G) : rf_met G q757_M := rf_methodB h.1 (P := q757_P) (U := q757_U) (N := q757_N) ⟨wflT h flokX12, wcsT h csokX12, wlcT h lcokX12, spokX12 h, fun _ h => absurd h List.not_mem_nil, fun _ h => absurd h List.not_mem_nil, fun _ h => absurd h List.not_mem_nil, fun _ h => absurd h List.not_mem_nil, fun _ h => absurd h List.not_mem_nil⟩ dkX12_reads (by decide +kernel) (by rw [h.2.2.1]; exact q757_ok)
/-- NearSpellModel.readTwo -/
def q758_M : rfM := ((⟨"NearSpellModel", "readTwo", "(I)V"⟩, prog_14_method_82_code, 3, none), (21,2021), ([.inr (.inl [114]),.inl ((0,0,0),none)],[]), [(94,0),(95,0),(96,0),(97,0),(100,0),(101,0),(114,45),(114,46)], [(none,[],[])])
def ddX12_readTwo : List (Nat × Instr × Nat) := [(0,.aload_n 0,1),(1,.aload_n 0,1),(2,.getfield 72,3),(5,.bipush 30,2),(7,.iload_n 1,1),(8,.iadd,1),(9,.iaload,1),(10,.aload_n 0,1),(11,.getfield 72,3),(14,.bipush 30,2),(16,.iload_n 1,1),(17,.iadd,1),(18,.iconst 1,1),(19,.iadd,1),(20,.iaload,1),(21,.invokevirtual 399,3),(24,.iconst 0,1),(25,.istore_n 2,1),(26,.iload_n 2,1),(27,.bipush 14,2),(29,.if_icmp .ge 47,3),(32,.aload_n 0,1),(33,.iload_n 2,1),(34,.invokevirtual 350,3),(37,.ifCond .ne 6,3),(40,.goto 30,3),(43,.aload_n 0,1),(44,.aload_n 0,1),(45,.getfield 72,3),(48,.iconst 0,1),(49,.iload_n 2,1),(50,.iadd,1),(51,.iaload,1),(52,.iconst 0,1),(53,.invokevirtual 402,3),(56,.aload_n 0,1),(57,.iload_n 1,1),(58,.iload_n 1,1),(59,.iconst 2,1),(60,.iadd,1),(61,.aload_n 0,1),(62,.invokevirtual 405,3),(65,.iconst 1,1),(66,.iadd,1),(67,.invokevirtual 431,3),(70,.iinc 2 1,3),(73,.goto (-47),3),(76,.return_,1)]
set_option maxRecDepth 100000 in
theorem dkX12_readTwo : rf_decs prog_14_method_82_code ddX12_readTwo := rf_decs_of (by decide +kernel)
def q758_P : rfP := (flX12,csX12,lcX12,spX12,[q751_M,q646_M,q685_M,q683_M,q757_M],[],[(350,1,12),(399,0,12),(402,2,12),(405,3,12),(431,4,12)],([],[]))
def q758_U : rfU := []
set_option maxHeartbeats 8000000 in
def q758_N : List rfB := [(0,([(0,.inr (.inl [114])),(1,.inl ((0,0,0),none))],[],[]),(483,[0]),0),
  (26,([(0,.inr (.inl [114])),(1,.inl ((0,0,0),none)),(2,.inl ((0,14,1),none))],[],[]),(463,[(-31)]),0),
  (70,([(0,.inr (.inl [114])),(1,.inl ((0,0,0),none)),(2,.inl ((0,13,1),none))],[],[]),(435,[(-31)]),0)]
set_option maxRecDepth 100000 in
theorem q758_ok : rf_chkB q758_P q758_U wLay q758_M ddX12_readTwo [(21,[0]),(34,[1]),(53,[2]),(62,[3]),(67,[4])] [.inl 2] [0,26,70] 600 q758_N = true := by decide +kernel
set_option maxHeartbeats 4000000 in
theorem q758_met {G : rfG} (h : okG G) (hh : wHandOK G) : rf_met G q758_M := rf_methodB h.1 (P := q758_P) (U := q758_U) (N := q758_N) ⟨wflT h flokX12, wcsT h csokX12, wlcT h lcokX12, spokX12 h, List.forall_mem_cons.mpr ⟨q751_met h hh, List.forall_mem_cons.mpr ⟨q646_met h hh, List.forall_mem_cons.mpr ⟨q685_met h hh, List.forall_mem_cons.mpr ⟨q683_met h hh, List.forall_mem_cons.mpr ⟨q757_met h hh, fun _ h => absurd h List.not_mem_nil⟩⟩⟩⟩⟩, fun _ h => absurd h List.not_mem_nil, List.forall_mem_cons.mpr ⟨fun M hM => Option.some.inj (show some q646_M = some M from hM) ▸ wlkV (lkX12_350 h) q646_M rfl rfl, List.forall_mem_cons.mpr ⟨fun M hM => Option.some.inj (show some q751_M = some M from hM) ▸ wlkV (lkX12_399 h) q751_M rfl rfl, List.forall_mem_cons.mpr ⟨fun M hM => Option.some.inj (show some q685_M = some M from hM) ▸ wlkV (lkX12_402 h) q685_M rfl rfl, List.forall_mem_cons.mpr ⟨fun M hM => Option.some.inj (show some q683_M = some M from hM) ▸ wlkV (lkX12_405 h) q683_M rfl rfl, List.forall_mem_cons.mpr ⟨fun M hM => Option.some.inj (show some q757_M = some M from hM) ▸ wlkV (lkX12_431 h) q757_M rfl rfl, fun _ h => absurd h List.not_mem_nil⟩⟩⟩⟩⟩, fun _ h => absurd h List.not_mem_nil, fun _ h => absurd h List.not_mem_nil⟩ dkX12_readTwo (by decide +kernel) (by rw [h.2.2.1]; exact q758_ok)
/-- NearSpellModel.reads -/
def q759_M : rfM := ((⟨"NearSpellModel", "reads", "(III)V"⟩, prog_14_method_80_code, 5, none), (0,0), ([.inr (.inl [114]),.inl ((0,1,1),none),.inl ((1,2,1),none),.inl ((0,12,1),none)],[]), [(100,0),(101,0)], [(none,[],[])])
def q759_P : rfP := (flX12,csX12,lcX12,spX12,[],[],[],([],[]))
def q759_U : rfU := []
set_option maxHeartbeats 8000000 in
def q759_N : List rfB := [(0,([(0,.inr (.inl [114])),(1,.inl ((0,1,1),none)),(2,.inl ((1,2,1),none)),(3,.inl ((0,12,1),none))],[],[]),(41,[]),0),
  (40,([(0,.inr (.inl [114])),(1,.inl ((0,1,1),none)),(2,.inl ((1,2,1),none)),(3,.inl ((0,12,1),none)),(4,.inl (((-2147483648),2147483647,1),none))],[],[]),(16,[]),0)]
set_option maxRecDepth 100000 in
theorem q759_ok : rf_chkB q759_P q759_U wLay q759_M ddX12_reads [] [] [0,40] 600 q759_N = true := by decide +kernel
set_option maxHeartbeats 4000000 in
theorem q759_met {G : rfG} (h : okG G) (hh : wHandOK G) : rf_met G q759_M := rf_methodB h.1 (P := q759_P) (U := q759_U) (N := q759_N) ⟨wflT h flokX12, wcsT h csokX12, wlcT h lcokX12, spokX12 h, fun _ h => absurd h List.not_mem_nil, fun _ h => absurd h List.not_mem_nil, fun _ h => absurd h List.not_mem_nil, fun _ h => absurd h List.not_mem_nil, fun _ h => absurd h List.not_mem_nil⟩ dkX12_reads (by decide +kernel) (by rw [h.2.2.1]; exact q759_ok)
/-- NearSpellModel.reads -/
def q760_M : rfM := ((⟨"NearSpellModel", "reads", "(III)V"⟩, prog_14_method_80_code, 5, none), (0,0), ([.inr (.inl [114]),.inl ((0,1,1),none),.inl ((1,2,1),none),.inl ((1,13,1),none)],[]), [(100,0),(101,0)], [(none,[],[])])
def q760_P : rfP := (flX12,csX12,lcX12,spX12,[],[],[],([],[]))
def q760_U : rfU := []
set_option maxHeartbeats 8000000 in
def q760_N : List rfB := [(0,([(0,.inr (.inl [114])),(1,.inl ((0,1,1),none)),(2,.inl ((1,2,1),none)),(3,.inl ((1,13,1),none))],[],[]),(41,[]),0),
  (40,([(0,.inr (.inl [114])),(1,.inl ((0,1,1),none)),(2,.inl ((1,2,1),none)),(3,.inl ((1,13,1),none)),(4,.inl (((-2147483648),2147483647,1),none))],[],[]),(16,[]),0)]
set_option maxRecDepth 100000 in
theorem q760_ok : rf_chkB q760_P q760_U wLay q760_M ddX12_reads [] [] [0,40] 600 q760_N = true := by decide +kernel
set_option maxHeartbeats 4000000 in
theorem q760_met {G : rfG} (h : okG G) (hh : wHandOK G) : rf_met G q760_M := rf_methodB h.1 (P := q760_P) (U := q760_U) (N := q760_N) ⟨wflT h flokX12, wcsT h csokX12, wlcT h lcokX12, spokX12 h, fun _ h => absurd h List.not_mem_nil, fun _ h => absurd h List.not_mem_nil, fun _ h => absurd h List.not_mem_nil, fun _ h => absurd h List.not_mem_nil, fun _ h => absurd h List.not_mem_nil⟩ dkX12_reads (by decide +kernel) (by rw [h.2.2.1]; exact q760_ok)
/-- NearSpellModel.readOne -/
def q761_M : rfM := ((⟨"NearSpellModel", "readOne", "(I)V"⟩, prog_14_method_81_code, 4, none), (21,2021), ([.inr (.inl [114]),.inl ((0,1,1),none)],[]), [(94,0),(95,0),(96,0),(97,0),(100,0),(101,0),(114,45),(114,46)], [(none,[],[((114,44),(0,6,1),none)])])
def q761_P : rfP := (flX12,csX12,lcX12,spX12,[q681_M,q646_M,q685_M,q683_M,q759_M,q744_M,q760_M],[],[(350,1,12),(399,0,12),(402,2,12),(402,5,12),(405,3,12),(431,4,12),(431,6,12)],([],[]))
def q761_U : rfU := []
set_option maxHeartbeats 8000000 in
def q761_N : List rfB := [(0,([(0,.inr (.inl [114])),(1,.inl ((0,1,1),none))],[],[]),(8576,[0,0]),0),
  (16,([(0,.inr (.inl [114])),(1,.inl ((0,1,1),none)),(2,.inl ((0,14,1),none))],[],[((114,44),(0,6,1),none)]),(8563,[(-571),0]),0),
  (117,([(0,.inr (.inl [114])),(1,.inl ((0,1,1),none)),(2,.inl ((0,13,1),none))],[],[((114,44),(0,6,1),none)]),(7995,[(-571),0]),0),
  (60,([(0,.inr (.inl [114])),(1,.inl ((0,1,1),none)),(2,.inl ((0,13,1),none)),(3,.inl ((0,14,1),none))],[],[((90,28),(1,14,1),none),((114,44),(0,6,1),none)]),(8535,[(-571),(-36)]),0),
  (111,([(0,.inr (.inl [114])),(1,.inl ((0,1,1),none)),(2,.inl ((0,13,1),none)),(3,.inl ((0,13,1),none))],[],[((90,28),(1,14,1),none),((114,44),(0,6,1),none)]),(8502,[(-571),(-36)]),0)]
set_option maxRecDepth 100000 in
theorem q761_ok : rf_chkB q761_P q761_U wLay q761_M ddX12_readOne [(11,[0]),(24,[1]),(43,[2]),(52,[3]),(55,[4]),(68,[1]),(94,[5]),(103,[3]),(108,[6])] [.inl 2,.inl 3] [0,16,60,111,117] 600 q761_N = true := by decide +kernel
set_option maxHeartbeats 4000000 in
theorem q761_met {G : rfG} (h : okG G) (hh : wHandOK G) : rf_met G q761_M := rf_methodB h.1 (P := q761_P) (U := q761_U) (N := q761_N) ⟨wflT h flokX12, wcsT h csokX12, wlcT h lcokX12, spokX12 h, List.forall_mem_cons.mpr ⟨q681_met h hh, List.forall_mem_cons.mpr ⟨q646_met h hh, List.forall_mem_cons.mpr ⟨q685_met h hh, List.forall_mem_cons.mpr ⟨q683_met h hh, List.forall_mem_cons.mpr ⟨q759_met h hh, List.forall_mem_cons.mpr ⟨q744_met h hh, List.forall_mem_cons.mpr ⟨q760_met h hh, fun _ h => absurd h List.not_mem_nil⟩⟩⟩⟩⟩⟩⟩, fun _ h => absurd h List.not_mem_nil, List.forall_mem_cons.mpr ⟨fun M hM => Option.some.inj (show some q646_M = some M from hM) ▸ wlkV (lkX12_350 h) q646_M rfl rfl, List.forall_mem_cons.mpr ⟨fun M hM => Option.some.inj (show some q681_M = some M from hM) ▸ wlkV (lkX12_399 h) q681_M rfl rfl, List.forall_mem_cons.mpr ⟨fun M hM => Option.some.inj (show some q685_M = some M from hM) ▸ wlkV (lkX12_402 h) q685_M rfl rfl, List.forall_mem_cons.mpr ⟨fun M hM => Option.some.inj (show some q744_M = some M from hM) ▸ wlkV (lkX12_402 h) q744_M rfl rfl, List.forall_mem_cons.mpr ⟨fun M hM => Option.some.inj (show some q683_M = some M from hM) ▸ wlkV (lkX12_405 h) q683_M rfl rfl, List.forall_mem_cons.mpr ⟨fun M hM => Option.some.inj (show some q759_M = some M from hM) ▸ wlkV (lkX12_431 h) q759_M rfl rfl, List.forall_mem_cons.mpr ⟨fun M hM => Option.some.inj (show some q760_M = some M from hM) ▸ wlkV (lkX12_431 h) q760_M rfl rfl, fun _ h => absurd h List.not_mem_nil⟩⟩⟩⟩⟩⟩⟩, fun _ h => absurd h List.not_mem_nil, fun _ h => absurd h List.not_mem_nil⟩ dkX12_readOne (by decide +kernel) (by rw [h.2.2.1]; exact q761_ok)
/-- NearSpellModel.reads -/
def q762_M : rfM := ((⟨"NearSpellModel", "reads", "(III)V"⟩, prog_14_method_80_code, 5, none), (0,0), ([.inr (.inl [114]),.inl ((0,1,1),none),.inl ((2,3,1),none),.inl ((1,13,1),none)],[]), [(100,0),(101,0)], [(none,[],[])])
def q762_P : rfP := (flX12,csX12,lcX12,spX12,[],[],[],([],[]))
def q762_U : rfU := []
set_option maxHeartbeats 8000000 in
def q762_N : List rfB := [(0,([(0,.inr (.inl [114])),(1,.inl ((0,1,1),none)),(2,.inl ((2,3,1),none)),(3,.inl ((1,13,1),none))],[],[]),(41,[]),0),
  (40,([(0,.inr (.inl [114])),(1,.inl ((0,1,1),none)),(2,.inl ((2,3,1),none)),(3,.inl ((1,13,1),none)),(4,.inl (((-2147483648),2147483647,1),none))],[],[]),(16,[]),0)]
set_option maxRecDepth 100000 in
theorem q762_ok : rf_chkB q762_P q762_U wLay q762_M ddX12_reads [] [] [0,40] 600 q762_N = true := by decide +kernel
set_option maxHeartbeats 4000000 in
theorem q762_met {G : rfG} (h : okG G) (hh : wHandOK G) : rf_met G q762_M := rf_methodB h.1 (P := q762_P) (U := q762_U) (N := q762_N) ⟨wflT h flokX12, wcsT h csokX12, wlcT h lcokX12, spokX12 h, fun _ h => absurd h List.not_mem_nil, fun _ h => absurd h List.not_mem_nil, fun _ h => absurd h List.not_mem_nil, fun _ h => absurd h List.not_mem_nil, fun _ h => absurd h List.not_mem_nil⟩ dkX12_reads (by decide +kernel) (by rw [h.2.2.1]; exact q762_ok)
/-- NearSpellModel.readTwo -/
def q763_M : rfM := ((⟨"NearSpellModel", "readTwo", "(I)V"⟩, prog_14_method_82_code, 3, none), (21,2021), ([.inr (.inl [114]),.inl ((0,1,1),none)],[]), [(94,0),(95,0),(96,0),(97,0),(100,0),(101,0),(114,45),(114,46)], [(none,[],[])])
def q763_P : rfP := (flX12,csX12,lcX12,spX12,[q751_M,q646_M,q685_M,q683_M,q762_M],[],[(350,1,12),(399,0,12),(402,2,12),(405,3,12),(431,4,12)],([],[]))
def q763_U : rfU := []
set_option maxHeartbeats 8000000 in
def q763_N : List rfB := [(0,([(0,.inr (.inl [114])),(1,.inl ((0,1,1),none))],[],[]),(483,[0]),0),
  (26,([(0,.inr (.inl [114])),(1,.inl ((0,1,1),none)),(2,.inl ((0,14,1),none))],[],[]),(463,[(-31)]),0),
  (70,([(0,.inr (.inl [114])),(1,.inl ((0,1,1),none)),(2,.inl ((0,13,1),none))],[],[]),(435,[(-31)]),0)]
set_option maxRecDepth 100000 in
theorem q763_ok : rf_chkB q763_P q763_U wLay q763_M ddX12_readTwo [(21,[0]),(34,[1]),(53,[2]),(62,[3]),(67,[4])] [.inl 2] [0,26,70] 600 q763_N = true := by decide +kernel
set_option maxHeartbeats 4000000 in
theorem q763_met {G : rfG} (h : okG G) (hh : wHandOK G) : rf_met G q763_M := rf_methodB h.1 (P := q763_P) (U := q763_U) (N := q763_N) ⟨wflT h flokX12, wcsT h csokX12, wlcT h lcokX12, spokX12 h, List.forall_mem_cons.mpr ⟨q751_met h hh, List.forall_mem_cons.mpr ⟨q646_met h hh, List.forall_mem_cons.mpr ⟨q685_met h hh, List.forall_mem_cons.mpr ⟨q683_met h hh, List.forall_mem_cons.mpr ⟨q762_met h hh, fun _ h => absurd h List.not_mem_nil⟩⟩⟩⟩⟩, fun _ h => absurd h List.not_mem_nil, List.forall_mem_cons.mpr ⟨fun M hM => Option.some.inj (show some q646_M = some M from hM) ▸ wlkV (lkX12_350 h) q646_M rfl rfl, List.forall_mem_cons.mpr ⟨fun M hM => Option.some.inj (show some q751_M = some M from hM) ▸ wlkV (lkX12_399 h) q751_M rfl rfl, List.forall_mem_cons.mpr ⟨fun M hM => Option.some.inj (show some q685_M = some M from hM) ▸ wlkV (lkX12_402 h) q685_M rfl rfl, List.forall_mem_cons.mpr ⟨fun M hM => Option.some.inj (show some q683_M = some M from hM) ▸ wlkV (lkX12_405 h) q683_M rfl rfl, List.forall_mem_cons.mpr ⟨fun M hM => Option.some.inj (show some q762_M = some M from hM) ▸ wlkV (lkX12_431 h) q762_M rfl rfl, fun _ h => absurd h List.not_mem_nil⟩⟩⟩⟩⟩, fun _ h => absurd h List.not_mem_nil, fun _ h => absurd h List.not_mem_nil⟩ dkX12_readTwo (by decide +kernel) (by rw [h.2.2.1]; exact q763_ok)
/-- NearSpellModel.reads -/
def q764_M : rfM := ((⟨"NearSpellModel", "reads", "(III)V"⟩, prog_14_method_80_code, 5, none), (0,0), ([.inr (.inl [114]),.inl ((0,2,1),none),.inl ((1,3,1),none),.inl ((0,12,1),none)],[]), [(100,0),(101,0)], [(none,[],[])])
def q764_P : rfP := (flX12,csX12,lcX12,spX12,[],[],[],([],[]))
def q764_U : rfU := []
set_option maxHeartbeats 8000000 in
def q764_N : List rfB := [(0,([(0,.inr (.inl [114])),(1,.inl ((0,2,1),none)),(2,.inl ((1,3,1),none)),(3,.inl ((0,12,1),none))],[],[]),(41,[]),0),
  (40,([(0,.inr (.inl [114])),(1,.inl ((0,2,1),none)),(2,.inl ((1,3,1),none)),(3,.inl ((0,12,1),none)),(4,.inl (((-2147483648),2147483647,1),none))],[],[]),(16,[]),0)]
set_option maxRecDepth 100000 in
theorem q764_ok : rf_chkB q764_P q764_U wLay q764_M ddX12_reads [] [] [0,40] 600 q764_N = true := by decide +kernel
set_option maxHeartbeats 4000000 in
theorem q764_met {G : rfG} (h : okG G) (hh : wHandOK G) : rf_met G q764_M := rf_methodB h.1 (P := q764_P) (U := q764_U) (N := q764_N) ⟨wflT h flokX12, wcsT h csokX12, wlcT h lcokX12, spokX12 h, fun _ h => absurd h List.not_mem_nil, fun _ h => absurd h List.not_mem_nil, fun _ h => absurd h List.not_mem_nil, fun _ h => absurd h List.not_mem_nil, fun _ h => absurd h List.not_mem_nil⟩ dkX12_reads (by decide +kernel) (by rw [h.2.2.1]; exact q764_ok)
/-- NearSpellModel.reads -/
def q765_M : rfM := ((⟨"NearSpellModel", "reads", "(III)V"⟩, prog_14_method_80_code, 5, none), (0,0), ([.inr (.inl [114]),.inl ((0,2,1),none),.inl ((1,3,1),none),.inl ((1,13,1),none)],[]), [(100,0),(101,0)], [(none,[],[])])
def q765_P : rfP := (flX12,csX12,lcX12,spX12,[],[],[],([],[]))
def q765_U : rfU := []
set_option maxHeartbeats 8000000 in
def q765_N : List rfB := [(0,([(0,.inr (.inl [114])),(1,.inl ((0,2,1),none)),(2,.inl ((1,3,1),none)),(3,.inl ((1,13,1),none))],[],[]),(41,[]),0),
  (40,([(0,.inr (.inl [114])),(1,.inl ((0,2,1),none)),(2,.inl ((1,3,1),none)),(3,.inl ((1,13,1),none)),(4,.inl (((-2147483648),2147483647,1),none))],[],[]),(16,[]),0)]
set_option maxRecDepth 100000 in
theorem q765_ok : rf_chkB q765_P q765_U wLay q765_M ddX12_reads [] [] [0,40] 600 q765_N = true := by decide +kernel
set_option maxHeartbeats 4000000 in
theorem q765_met {G : rfG} (h : okG G) (hh : wHandOK G) : rf_met G q765_M := rf_methodB h.1 (P := q765_P) (U := q765_U) (N := q765_N) ⟨wflT h flokX12, wcsT h csokX12, wlcT h lcokX12, spokX12 h, fun _ h => absurd h List.not_mem_nil, fun _ h => absurd h List.not_mem_nil, fun _ h => absurd h List.not_mem_nil, fun _ h => absurd h List.not_mem_nil, fun _ h => absurd h List.not_mem_nil⟩ dkX12_reads (by decide +kernel) (by rw [h.2.2.1]; exact q765_ok)
/-- NearSpellModel.readOne -/
def q766_M : rfM := ((⟨"NearSpellModel", "readOne", "(I)V"⟩, prog_14_method_81_code, 4, none), (21,2021), ([.inr (.inl [114]),.inl ((0,2,1),none)],[]), [(94,0),(95,0),(96,0),(97,0),(100,0),(101,0),(114,45),(114,46)], [(none,[],[((114,44),(0,6,1),none)])])
def q766_P : rfP := (flX12,csX12,lcX12,spX12,[q681_M,q646_M,q685_M,q683_M,q764_M,q744_M,q765_M],[],[(350,1,12),(399,0,12),(402,2,12),(402,5,12),(405,3,12),(431,4,12),(431,6,12)],([],[]))
def q766_U : rfU := []
set_option maxHeartbeats 8000000 in
def q766_N : List rfB := [(0,([(0,.inr (.inl [114])),(1,.inl ((0,2,1),none))],[],[]),(8576,[0,0]),0),
  (16,([(0,.inr (.inl [114])),(1,.inl ((0,2,1),none)),(2,.inl ((0,14,1),none))],[],[((114,44),(0,6,1),none)]),(8563,[(-571),0]),0),
  (117,([(0,.inr (.inl [114])),(1,.inl ((0,2,1),none)),(2,.inl ((0,13,1),none))],[],[((114,44),(0,6,1),none)]),(7995,[(-571),0]),0),
  (60,([(0,.inr (.inl [114])),(1,.inl ((0,2,1),none)),(2,.inl ((0,13,1),none)),(3,.inl ((0,14,1),none))],[],[((90,28),(1,14,1),none),((114,44),(0,6,1),none)]),(8535,[(-571),(-36)]),0),
  (111,([(0,.inr (.inl [114])),(1,.inl ((0,2,1),none)),(2,.inl ((0,13,1),none)),(3,.inl ((0,13,1),none))],[],[((90,28),(1,14,1),none),((114,44),(0,6,1),none)]),(8502,[(-571),(-36)]),0)]
set_option maxRecDepth 100000 in
theorem q766_ok : rf_chkB q766_P q766_U wLay q766_M ddX12_readOne [(11,[0]),(24,[1]),(43,[2]),(52,[3]),(55,[4]),(68,[1]),(94,[5]),(103,[3]),(108,[6])] [.inl 2,.inl 3] [0,16,60,111,117] 600 q766_N = true := by decide +kernel
set_option maxHeartbeats 4000000 in
theorem q766_met {G : rfG} (h : okG G) (hh : wHandOK G) : rf_met G q766_M := rf_methodB h.1 (P := q766_P) (U := q766_U) (N := q766_N) ⟨wflT h flokX12, wcsT h csokX12, wlcT h lcokX12, spokX12 h, List.forall_mem_cons.mpr ⟨q681_met h hh, List.forall_mem_cons.mpr ⟨q646_met h hh, List.forall_mem_cons.mpr ⟨q685_met h hh, List.forall_mem_cons.mpr ⟨q683_met h hh, List.forall_mem_cons.mpr ⟨q764_met h hh, List.forall_mem_cons.mpr ⟨q744_met h hh, List.forall_mem_cons.mpr ⟨q765_met h hh, fun _ h => absurd h List.not_mem_nil⟩⟩⟩⟩⟩⟩⟩, fun _ h => absurd h List.not_mem_nil, List.forall_mem_cons.mpr ⟨fun M hM => Option.some.inj (show some q646_M = some M from hM) ▸ wlkV (lkX12_350 h) q646_M rfl rfl, List.forall_mem_cons.mpr ⟨fun M hM => Option.some.inj (show some q681_M = some M from hM) ▸ wlkV (lkX12_399 h) q681_M rfl rfl, List.forall_mem_cons.mpr ⟨fun M hM => Option.some.inj (show some q685_M = some M from hM) ▸ wlkV (lkX12_402 h) q685_M rfl rfl, List.forall_mem_cons.mpr ⟨fun M hM => Option.some.inj (show some q744_M = some M from hM) ▸ wlkV (lkX12_402 h) q744_M rfl rfl, List.forall_mem_cons.mpr ⟨fun M hM => Option.some.inj (show some q683_M = some M from hM) ▸ wlkV (lkX12_405 h) q683_M rfl rfl, List.forall_mem_cons.mpr ⟨fun M hM => Option.some.inj (show some q764_M = some M from hM) ▸ wlkV (lkX12_431 h) q764_M rfl rfl, List.forall_mem_cons.mpr ⟨fun M hM => Option.some.inj (show some q765_M = some M from hM) ▸ wlkV (lkX12_431 h) q765_M rfl rfl, fun _ h => absurd h List.not_mem_nil⟩⟩⟩⟩⟩⟩⟩, fun _ h => absurd h List.not_mem_nil, fun _ h => absurd h List.not_mem_nil⟩ dkX12_readOne (by decide +kernel) (by rw [h.2.2.1]; exact q766_ok)
/-- NearSpellModel.reads -/
def q767_M : rfM := ((⟨"NearSpellModel", "reads", "(III)V"⟩, prog_14_method_80_code, 5, none), (0,0), ([.inr (.inl [114]),.inl ((0,2,1),none),.inl ((2,4,1),none),.inl ((1,13,1),none)],[]), [(100,0),(101,0)], [(none,[],[])])
def q767_P : rfP := (flX12,csX12,lcX12,spX12,[],[],[],([],[]))
def q767_U : rfU := []
set_option maxHeartbeats 8000000 in
def q767_N : List rfB := [(0,([(0,.inr (.inl [114])),(1,.inl ((0,2,1),none)),(2,.inl ((2,4,1),none)),(3,.inl ((1,13,1),none))],[],[]),(41,[]),0),
  (40,([(0,.inr (.inl [114])),(1,.inl ((0,2,1),none)),(2,.inl ((2,4,1),none)),(3,.inl ((1,13,1),none)),(4,.inl (((-2147483648),2147483647,1),none))],[],[]),(16,[]),0)]
set_option maxRecDepth 100000 in
theorem q767_ok : rf_chkB q767_P q767_U wLay q767_M ddX12_reads [] [] [0,40] 600 q767_N = true := by decide +kernel
set_option maxHeartbeats 4000000 in
theorem q767_met {G : rfG} (h : okG G) (hh : wHandOK G) : rf_met G q767_M := rf_methodB h.1 (P := q767_P) (U := q767_U) (N := q767_N) ⟨wflT h flokX12, wcsT h csokX12, wlcT h lcokX12, spokX12 h, fun _ h => absurd h List.not_mem_nil, fun _ h => absurd h List.not_mem_nil, fun _ h => absurd h List.not_mem_nil, fun _ h => absurd h List.not_mem_nil, fun _ h => absurd h List.not_mem_nil⟩ dkX12_reads (by decide +kernel) (by rw [h.2.2.1]; exact q767_ok)
/-- NearSpellModel.readTwo -/
def q768_M : rfM := ((⟨"NearSpellModel", "readTwo", "(I)V"⟩, prog_14_method_82_code, 3, none), (21,2021), ([.inr (.inl [114]),.inl ((0,2,1),none)],[]), [(94,0),(95,0),(96,0),(97,0),(100,0),(101,0),(114,45),(114,46)], [(none,[],[])])
def q768_P : rfP := (flX12,csX12,lcX12,spX12,[q751_M,q646_M,q685_M,q683_M,q767_M],[],[(350,1,12),(399,0,12),(402,2,12),(405,3,12),(431,4,12)],([],[]))
def q768_U : rfU := []
set_option maxHeartbeats 8000000 in
def q768_N : List rfB := [(0,([(0,.inr (.inl [114])),(1,.inl ((0,2,1),none))],[],[]),(483,[0]),0),
  (26,([(0,.inr (.inl [114])),(1,.inl ((0,2,1),none)),(2,.inl ((0,14,1),none))],[],[]),(463,[(-31)]),0),
  (70,([(0,.inr (.inl [114])),(1,.inl ((0,2,1),none)),(2,.inl ((0,13,1),none))],[],[]),(435,[(-31)]),0)]
set_option maxRecDepth 100000 in
theorem q768_ok : rf_chkB q768_P q768_U wLay q768_M ddX12_readTwo [(21,[0]),(34,[1]),(53,[2]),(62,[3]),(67,[4])] [.inl 2] [0,26,70] 600 q768_N = true := by decide +kernel
set_option maxHeartbeats 4000000 in
theorem q768_met {G : rfG} (h : okG G) (hh : wHandOK G) : rf_met G q768_M := rf_methodB h.1 (P := q768_P) (U := q768_U) (N := q768_N) ⟨wflT h flokX12, wcsT h csokX12, wlcT h lcokX12, spokX12 h, List.forall_mem_cons.mpr ⟨q751_met h hh, List.forall_mem_cons.mpr ⟨q646_met h hh, List.forall_mem_cons.mpr ⟨q685_met h hh, List.forall_mem_cons.mpr ⟨q683_met h hh, List.forall_mem_cons.mpr ⟨q767_met h hh, fun _ h => absurd h List.not_mem_nil⟩⟩⟩⟩⟩, fun _ h => absurd h List.not_mem_nil, List.forall_mem_cons.mpr ⟨fun M hM => Option.some.inj (show some q646_M = some M from hM) ▸ wlkV (lkX12_350 h) q646_M rfl rfl, List.forall_mem_cons.mpr ⟨fun M hM => Option.some.inj (show some q751_M = some M from hM) ▸ wlkV (lkX12_399 h) q751_M rfl rfl, List.forall_mem_cons.mpr ⟨fun M hM => Option.some.inj (show some q685_M = some M from hM) ▸ wlkV (lkX12_402 h) q685_M rfl rfl, List.forall_mem_cons.mpr ⟨fun M hM => Option.some.inj (show some q683_M = some M from hM) ▸ wlkV (lkX12_405 h) q683_M rfl rfl, List.forall_mem_cons.mpr ⟨fun M hM => Option.some.inj (show some q767_M = some M from hM) ▸ wlkV (lkX12_431 h) q767_M rfl rfl, fun _ h => absurd h List.not_mem_nil⟩⟩⟩⟩⟩, fun _ h => absurd h List.not_mem_nil, fun _ h => absurd h List.not_mem_nil⟩ dkX12_readTwo (by decide +kernel) (by rw [h.2.2.1]; exact q768_ok)
/-- NearSpellModel.reads -/
def q769_M : rfM := ((⟨"NearSpellModel", "reads", "(III)V"⟩, prog_14_method_80_code, 5, none), (0,0), ([.inr (.inl [114]),.inl ((0,3,1),none),.inl ((1,4,1),none),.inl ((0,12,1),none)],[]), [(100,0),(101,0)], [(none,[],[])])
def q769_P : rfP := (flX12,csX12,lcX12,spX12,[],[],[],([],[]))
def q769_U : rfU := []
set_option maxHeartbeats 8000000 in
def q769_N : List rfB := [(0,([(0,.inr (.inl [114])),(1,.inl ((0,3,1),none)),(2,.inl ((1,4,1),none)),(3,.inl ((0,12,1),none))],[],[]),(41,[]),0),
  (40,([(0,.inr (.inl [114])),(1,.inl ((0,3,1),none)),(2,.inl ((1,4,1),none)),(3,.inl ((0,12,1),none)),(4,.inl (((-2147483648),2147483647,1),none))],[],[]),(16,[]),0)]
set_option maxRecDepth 100000 in
theorem q769_ok : rf_chkB q769_P q769_U wLay q769_M ddX12_reads [] [] [0,40] 600 q769_N = true := by decide +kernel
set_option maxHeartbeats 4000000 in
theorem q769_met {G : rfG} (h : okG G) (hh : wHandOK G) : rf_met G q769_M := rf_methodB h.1 (P := q769_P) (U := q769_U) (N := q769_N) ⟨wflT h flokX12, wcsT h csokX12, wlcT h lcokX12, spokX12 h, fun _ h => absurd h List.not_mem_nil, fun _ h => absurd h List.not_mem_nil, fun _ h => absurd h List.not_mem_nil, fun _ h => absurd h List.not_mem_nil, fun _ h => absurd h List.not_mem_nil⟩ dkX12_reads (by decide +kernel) (by rw [h.2.2.1]; exact q769_ok)
/-- NearSpellModel.reads -/
def q770_M : rfM := ((⟨"NearSpellModel", "reads", "(III)V"⟩, prog_14_method_80_code, 5, none), (0,0), ([.inr (.inl [114]),.inl ((0,3,1),none),.inl ((1,4,1),none),.inl ((1,13,1),none)],[]), [(100,0),(101,0)], [(none,[],[])])
def q770_P : rfP := (flX12,csX12,lcX12,spX12,[],[],[],([],[]))
def q770_U : rfU := []
set_option maxHeartbeats 8000000 in
def q770_N : List rfB := [(0,([(0,.inr (.inl [114])),(1,.inl ((0,3,1),none)),(2,.inl ((1,4,1),none)),(3,.inl ((1,13,1),none))],[],[]),(41,[]),0),
  (40,([(0,.inr (.inl [114])),(1,.inl ((0,3,1),none)),(2,.inl ((1,4,1),none)),(3,.inl ((1,13,1),none)),(4,.inl (((-2147483648),2147483647,1),none))],[],[]),(16,[]),0)]
set_option maxRecDepth 100000 in
theorem q770_ok : rf_chkB q770_P q770_U wLay q770_M ddX12_reads [] [] [0,40] 600 q770_N = true := by decide +kernel
set_option maxHeartbeats 4000000 in
theorem q770_met {G : rfG} (h : okG G) (hh : wHandOK G) : rf_met G q770_M := rf_methodB h.1 (P := q770_P) (U := q770_U) (N := q770_N) ⟨wflT h flokX12, wcsT h csokX12, wlcT h lcokX12, spokX12 h, fun _ h => absurd h List.not_mem_nil, fun _ h => absurd h List.not_mem_nil, fun _ h => absurd h List.not_mem_nil, fun _ h => absurd h List.not_mem_nil, fun _ h => absurd h List.not_mem_nil⟩ dkX12_reads (by decide +kernel) (by rw [h.2.2.1]; exact q770_ok)
/-- NearSpellModel.readOne -/
def q771_M : rfM := ((⟨"NearSpellModel", "readOne", "(I)V"⟩, prog_14_method_81_code, 4, none), (21,2021), ([.inr (.inl [114]),.inl ((0,3,1),none)],[]), [(94,0),(95,0),(96,0),(97,0),(100,0),(101,0),(114,45),(114,46)], [(none,[],[((114,44),(0,6,1),none)])])
def q771_P : rfP := (flX12,csX12,lcX12,spX12,[q681_M,q646_M,q685_M,q683_M,q769_M,q744_M,q770_M],[],[(350,1,12),(399,0,12),(402,2,12),(402,5,12),(405,3,12),(431,4,12),(431,6,12)],([],[]))
def q771_U : rfU := []
set_option maxHeartbeats 8000000 in
def q771_N : List rfB := [(0,([(0,.inr (.inl [114])),(1,.inl ((0,3,1),none))],[],[]),(8576,[0,0]),0),
  (16,([(0,.inr (.inl [114])),(1,.inl ((0,3,1),none)),(2,.inl ((0,14,1),none))],[],[((114,44),(0,6,1),none)]),(8563,[(-571),0]),0),
  (117,([(0,.inr (.inl [114])),(1,.inl ((0,3,1),none)),(2,.inl ((0,13,1),none))],[],[((114,44),(0,6,1),none)]),(7995,[(-571),0]),0),
  (60,([(0,.inr (.inl [114])),(1,.inl ((0,3,1),none)),(2,.inl ((0,13,1),none)),(3,.inl ((0,14,1),none))],[],[((90,28),(1,14,1),none),((114,44),(0,6,1),none)]),(8535,[(-571),(-36)]),0),
  (111,([(0,.inr (.inl [114])),(1,.inl ((0,3,1),none)),(2,.inl ((0,13,1),none)),(3,.inl ((0,13,1),none))],[],[((90,28),(1,14,1),none),((114,44),(0,6,1),none)]),(8502,[(-571),(-36)]),0)]
set_option maxRecDepth 100000 in
theorem q771_ok : rf_chkB q771_P q771_U wLay q771_M ddX12_readOne [(11,[0]),(24,[1]),(43,[2]),(52,[3]),(55,[4]),(68,[1]),(94,[5]),(103,[3]),(108,[6])] [.inl 2,.inl 3] [0,16,60,111,117] 600 q771_N = true := by decide +kernel
set_option maxHeartbeats 4000000 in
theorem q771_met {G : rfG} (h : okG G) (hh : wHandOK G) : rf_met G q771_M := rf_methodB h.1 (P := q771_P) (U := q771_U) (N := q771_N) ⟨wflT h flokX12, wcsT h csokX12, wlcT h lcokX12, spokX12 h, List.forall_mem_cons.mpr ⟨q681_met h hh, List.forall_mem_cons.mpr ⟨q646_met h hh, List.forall_mem_cons.mpr ⟨q685_met h hh, List.forall_mem_cons.mpr ⟨q683_met h hh, List.forall_mem_cons.mpr ⟨q769_met h hh, List.forall_mem_cons.mpr ⟨q744_met h hh, List.forall_mem_cons.mpr ⟨q770_met h hh, fun _ h => absurd h List.not_mem_nil⟩⟩⟩⟩⟩⟩⟩, fun _ h => absurd h List.not_mem_nil, List.forall_mem_cons.mpr ⟨fun M hM => Option.some.inj (show some q646_M = some M from hM) ▸ wlkV (lkX12_350 h) q646_M rfl rfl, List.forall_mem_cons.mpr ⟨fun M hM => Option.some.inj (show some q681_M = some M from hM) ▸ wlkV (lkX12_399 h) q681_M rfl rfl, List.forall_mem_cons.mpr ⟨fun M hM => Option.some.inj (show some q685_M = some M from hM) ▸ wlkV (lkX12_402 h) q685_M rfl rfl, List.forall_mem_cons.mpr ⟨fun M hM => Option.some.inj (show some q744_M = some M from hM) ▸ wlkV (lkX12_402 h) q744_M rfl rfl, List.forall_mem_cons.mpr ⟨fun M hM => Option.some.inj (show some q683_M = some M from hM) ▸ wlkV (lkX12_405 h) q683_M rfl rfl, List.forall_mem_cons.mpr ⟨fun M hM => Option.some.inj (show some q769_M = some M from hM) ▸ wlkV (lkX12_431 h) q769_M rfl rfl, List.forall_mem_cons.mpr ⟨fun M hM => Option.some.inj (show some q770_M = some M from hM) ▸ wlkV (lkX12_431 h) q770_M rfl rfl, fun _ h => absurd h List.not_mem_nil⟩⟩⟩⟩⟩⟩⟩, fun _ h => absurd h List.not_mem_nil, fun _ h => absurd h List.not_mem_nil⟩ dkX12_readOne (by decide +kernel) (by rw [h.2.2.1]; exact q771_ok)
/-- NearSpellModel.reads -/
def q772_M : rfM := ((⟨"NearSpellModel", "reads", "(III)V"⟩, prog_14_method_80_code, 5, none), (0,0), ([.inr (.inl [114]),.inl ((0,3,1),none),.inl ((2,5,1),none),.inl ((1,13,1),none)],[]), [(100,0),(101,0)], [(none,[],[])])
def q772_P : rfP := (flX12,csX12,lcX12,spX12,[],[],[],([],[]))
def q772_U : rfU := []
set_option maxHeartbeats 8000000 in
def q772_N : List rfB := [(0,([(0,.inr (.inl [114])),(1,.inl ((0,3,1),none)),(2,.inl ((2,5,1),none)),(3,.inl ((1,13,1),none))],[],[]),(41,[]),0),
  (40,([(0,.inr (.inl [114])),(1,.inl ((0,3,1),none)),(2,.inl ((2,5,1),none)),(3,.inl ((1,13,1),none)),(4,.inl (((-2147483648),2147483647,1),none))],[],[]),(16,[]),0)]
set_option maxRecDepth 100000 in
theorem q772_ok : rf_chkB q772_P q772_U wLay q772_M ddX12_reads [] [] [0,40] 600 q772_N = true := by decide +kernel
set_option maxHeartbeats 4000000 in
theorem q772_met {G : rfG} (h : okG G) (hh : wHandOK G) : rf_met G q772_M := rf_methodB h.1 (P := q772_P) (U := q772_U) (N := q772_N) ⟨wflT h flokX12, wcsT h csokX12, wlcT h lcokX12, spokX12 h, fun _ h => absurd h List.not_mem_nil, fun _ h => absurd h List.not_mem_nil, fun _ h => absurd h List.not_mem_nil, fun _ h => absurd h List.not_mem_nil, fun _ h => absurd h List.not_mem_nil⟩ dkX12_reads (by decide +kernel) (by rw [h.2.2.1]; exact q772_ok)
/-- NearSpellModel.readTwo -/
def q773_M : rfM := ((⟨"NearSpellModel", "readTwo", "(I)V"⟩, prog_14_method_82_code, 3, none), (21,2021), ([.inr (.inl [114]),.inl ((0,3,1),none)],[]), [(94,0),(95,0),(96,0),(97,0),(100,0),(101,0),(114,45),(114,46)], [(none,[],[])])
def q773_P : rfP := (flX12,csX12,lcX12,spX12,[q751_M,q646_M,q685_M,q683_M,q772_M],[],[(350,1,12),(399,0,12),(402,2,12),(405,3,12),(431,4,12)],([],[]))
def q773_U : rfU := []
set_option maxHeartbeats 8000000 in
def q773_N : List rfB := [(0,([(0,.inr (.inl [114])),(1,.inl ((0,3,1),none))],[],[]),(483,[0]),0),
  (26,([(0,.inr (.inl [114])),(1,.inl ((0,3,1),none)),(2,.inl ((0,14,1),none))],[],[]),(463,[(-31)]),0),
  (70,([(0,.inr (.inl [114])),(1,.inl ((0,3,1),none)),(2,.inl ((0,13,1),none))],[],[]),(435,[(-31)]),0)]
set_option maxRecDepth 100000 in
theorem q773_ok : rf_chkB q773_P q773_U wLay q773_M ddX12_readTwo [(21,[0]),(34,[1]),(53,[2]),(62,[3]),(67,[4])] [.inl 2] [0,26,70] 600 q773_N = true := by decide +kernel
set_option maxHeartbeats 4000000 in
theorem q773_met {G : rfG} (h : okG G) (hh : wHandOK G) : rf_met G q773_M := rf_methodB h.1 (P := q773_P) (U := q773_U) (N := q773_N) ⟨wflT h flokX12, wcsT h csokX12, wlcT h lcokX12, spokX12 h, List.forall_mem_cons.mpr ⟨q751_met h hh, List.forall_mem_cons.mpr ⟨q646_met h hh, List.forall_mem_cons.mpr ⟨q685_met h hh, List.forall_mem_cons.mpr ⟨q683_met h hh, List.forall_mem_cons.mpr ⟨q772_met h hh, fun _ h => absurd h List.not_mem_nil⟩⟩⟩⟩⟩, fun _ h => absurd h List.not_mem_nil, List.forall_mem_cons.mpr ⟨fun M hM => Option.some.inj (show some q646_M = some M from hM) ▸ wlkV (lkX12_350 h) q646_M rfl rfl, List.forall_mem_cons.mpr ⟨fun M hM => Option.some.inj (show some q751_M = some M from hM) ▸ wlkV (lkX12_399 h) q751_M rfl rfl, List.forall_mem_cons.mpr ⟨fun M hM => Option.some.inj (show some q685_M = some M from hM) ▸ wlkV (lkX12_402 h) q685_M rfl rfl, List.forall_mem_cons.mpr ⟨fun M hM => Option.some.inj (show some q683_M = some M from hM) ▸ wlkV (lkX12_405 h) q683_M rfl rfl, List.forall_mem_cons.mpr ⟨fun M hM => Option.some.inj (show some q772_M = some M from hM) ▸ wlkV (lkX12_431 h) q772_M rfl rfl, fun _ h => absurd h List.not_mem_nil⟩⟩⟩⟩⟩, fun _ h => absurd h List.not_mem_nil, fun _ h => absurd h List.not_mem_nil⟩ dkX12_readTwo (by decide +kernel) (by rw [h.2.2.1]; exact q773_ok)
/-- NearSpellModel.reads -/
def q774_M : rfM := ((⟨"NearSpellModel", "reads", "(III)V"⟩, prog_14_method_80_code, 5, none), (0,0), ([.inr (.inl [114]),.inl ((0,5,1),none),.inl ((1,6,1),none),.inl ((0,12,1),none)],[]), [(100,0),(101,0)], [(none,[],[])])
def q774_P : rfP := (flX12,csX12,lcX12,spX12,[],[],[],([],[]))
def q774_U : rfU := []
set_option maxHeartbeats 8000000 in
def q774_N : List rfB := [(0,([(0,.inr (.inl [114])),(1,.inl ((0,5,1),none)),(2,.inl ((1,6,1),none)),(3,.inl ((0,12,1),none))],[],[]),(41,[]),0),
  (40,([(0,.inr (.inl [114])),(1,.inl ((0,5,1),none)),(2,.inl ((1,6,1),none)),(3,.inl ((0,12,1),none)),(4,.inl (((-2147483648),2147483647,1),none))],[],[]),(16,[]),0)]
set_option maxRecDepth 100000 in
theorem q774_ok : rf_chkB q774_P q774_U wLay q774_M ddX12_reads [] [] [0,40] 600 q774_N = true := by decide +kernel
set_option maxHeartbeats 4000000 in
theorem q774_met {G : rfG} (h : okG G) (hh : wHandOK G) : rf_met G q774_M := rf_methodB h.1 (P := q774_P) (U := q774_U) (N := q774_N) ⟨wflT h flokX12, wcsT h csokX12, wlcT h lcokX12, spokX12 h, fun _ h => absurd h List.not_mem_nil, fun _ h => absurd h List.not_mem_nil, fun _ h => absurd h List.not_mem_nil, fun _ h => absurd h List.not_mem_nil, fun _ h => absurd h List.not_mem_nil⟩ dkX12_reads (by decide +kernel) (by rw [h.2.2.1]; exact q774_ok)
/-- NearSpellModel.reads -/
def q775_M : rfM := ((⟨"NearSpellModel", "reads", "(III)V"⟩, prog_14_method_80_code, 5, none), (0,0), ([.inr (.inl [114]),.inl ((0,5,1),none),.inl ((1,6,1),none),.inl ((1,13,1),none)],[]), [(100,0),(101,0)], [(none,[],[])])
def q775_P : rfP := (flX12,csX12,lcX12,spX12,[],[],[],([],[]))
def q775_U : rfU := []
set_option maxHeartbeats 8000000 in
def q775_N : List rfB := [(0,([(0,.inr (.inl [114])),(1,.inl ((0,5,1),none)),(2,.inl ((1,6,1),none)),(3,.inl ((1,13,1),none))],[],[]),(41,[]),0),
  (40,([(0,.inr (.inl [114])),(1,.inl ((0,5,1),none)),(2,.inl ((1,6,1),none)),(3,.inl ((1,13,1),none)),(4,.inl (((-2147483648),2147483647,1),none))],[],[]),(16,[]),0)]
set_option maxRecDepth 100000 in
theorem q775_ok : rf_chkB q775_P q775_U wLay q775_M ddX12_reads [] [] [0,40] 600 q775_N = true := by decide +kernel
set_option maxHeartbeats 4000000 in
theorem q775_met {G : rfG} (h : okG G) (hh : wHandOK G) : rf_met G q775_M := rf_methodB h.1 (P := q775_P) (U := q775_U) (N := q775_N) ⟨wflT h flokX12, wcsT h csokX12, wlcT h lcokX12, spokX12 h, fun _ h => absurd h List.not_mem_nil, fun _ h => absurd h List.not_mem_nil, fun _ h => absurd h List.not_mem_nil, fun _ h => absurd h List.not_mem_nil, fun _ h => absurd h List.not_mem_nil⟩ dkX12_reads (by decide +kernel) (by rw [h.2.2.1]; exact q775_ok)
/-- NearSpellModel.readOne -/
def q776_M : rfM := ((⟨"NearSpellModel", "readOne", "(I)V"⟩, prog_14_method_81_code, 4, none), (21,2021), ([.inr (.inl [114]),.inl ((0,5,1),none)],[]), [(94,0),(95,0),(96,0),(97,0),(100,0),(101,0),(114,45),(114,46)], [(none,[],[((114,44),(0,6,1),none)])])
def q776_P : rfP := (flX12,csX12,lcX12,spX12,[q681_M,q646_M,q685_M,q683_M,q774_M,q744_M,q775_M],[],[(350,1,12),(399,0,12),(402,2,12),(402,5,12),(405,3,12),(431,4,12),(431,6,12)],([],[]))
def q776_U : rfU := []
set_option maxHeartbeats 8000000 in
def q776_N : List rfB := [(0,([(0,.inr (.inl [114])),(1,.inl ((0,5,1),none))],[],[]),(8576,[0,0]),0),
  (16,([(0,.inr (.inl [114])),(1,.inl ((0,5,1),none)),(2,.inl ((0,14,1),none))],[],[((114,44),(0,6,1),none)]),(8563,[(-571),0]),0),
  (117,([(0,.inr (.inl [114])),(1,.inl ((0,5,1),none)),(2,.inl ((0,13,1),none))],[],[((114,44),(0,6,1),none)]),(7995,[(-571),0]),0),
  (60,([(0,.inr (.inl [114])),(1,.inl ((0,5,1),none)),(2,.inl ((0,13,1),none)),(3,.inl ((0,14,1),none))],[],[((90,28),(1,14,1),none),((114,44),(0,6,1),none)]),(8535,[(-571),(-36)]),0),
  (111,([(0,.inr (.inl [114])),(1,.inl ((0,5,1),none)),(2,.inl ((0,13,1),none)),(3,.inl ((0,13,1),none))],[],[((90,28),(1,14,1),none),((114,44),(0,6,1),none)]),(8502,[(-571),(-36)]),0)]
set_option maxRecDepth 100000 in
theorem q776_ok : rf_chkB q776_P q776_U wLay q776_M ddX12_readOne [(11,[0]),(24,[1]),(43,[2]),(52,[3]),(55,[4]),(68,[1]),(94,[5]),(103,[3]),(108,[6])] [.inl 2,.inl 3] [0,16,60,111,117] 600 q776_N = true := by decide +kernel
set_option maxHeartbeats 4000000 in
theorem q776_met {G : rfG} (h : okG G) (hh : wHandOK G) : rf_met G q776_M := rf_methodB h.1 (P := q776_P) (U := q776_U) (N := q776_N) ⟨wflT h flokX12, wcsT h csokX12, wlcT h lcokX12, spokX12 h, List.forall_mem_cons.mpr ⟨q681_met h hh, List.forall_mem_cons.mpr ⟨q646_met h hh, List.forall_mem_cons.mpr ⟨q685_met h hh, List.forall_mem_cons.mpr ⟨q683_met h hh, List.forall_mem_cons.mpr ⟨q774_met h hh, List.forall_mem_cons.mpr ⟨q744_met h hh, List.forall_mem_cons.mpr ⟨q775_met h hh, fun _ h => absurd h List.not_mem_nil⟩⟩⟩⟩⟩⟩⟩, fun _ h => absurd h List.not_mem_nil, List.forall_mem_cons.mpr ⟨fun M hM => Option.some.inj (show some q646_M = some M from hM) ▸ wlkV (lkX12_350 h) q646_M rfl rfl, List.forall_mem_cons.mpr ⟨fun M hM => Option.some.inj (show some q681_M = some M from hM) ▸ wlkV (lkX12_399 h) q681_M rfl rfl, List.forall_mem_cons.mpr ⟨fun M hM => Option.some.inj (show some q685_M = some M from hM) ▸ wlkV (lkX12_402 h) q685_M rfl rfl, List.forall_mem_cons.mpr ⟨fun M hM => Option.some.inj (show some q744_M = some M from hM) ▸ wlkV (lkX12_402 h) q744_M rfl rfl, List.forall_mem_cons.mpr ⟨fun M hM => Option.some.inj (show some q683_M = some M from hM) ▸ wlkV (lkX12_405 h) q683_M rfl rfl, List.forall_mem_cons.mpr ⟨fun M hM => Option.some.inj (show some q774_M = some M from hM) ▸ wlkV (lkX12_431 h) q774_M rfl rfl, List.forall_mem_cons.mpr ⟨fun M hM => Option.some.inj (show some q775_M = some M from hM) ▸ wlkV (lkX12_431 h) q775_M rfl rfl, fun _ h => absurd h List.not_mem_nil⟩⟩⟩⟩⟩⟩⟩, fun _ h => absurd h List.not_mem_nil, fun _ h => absurd h List.not_mem_nil⟩ dkX12_readOne (by decide +kernel) (by rw [h.2.2.1]; exact q776_ok)
/-- NearSpellModel.reads -/
def q777_M : rfM := ((⟨"NearSpellModel", "reads", "(III)V"⟩, prog_14_method_80_code, 5, none), (0,0), ([.inr (.inl [114]),.inl ((0,4,1),none),.inl ((2,6,1),none),.inl ((1,13,1),none)],[]), [(100,0),(101,0)], [(none,[],[])])
def q777_P : rfP := (flX12,csX12,lcX12,spX12,[],[],[],([],[]))
def q777_U : rfU := []
set_option maxHeartbeats 8000000 in
def q777_N : List rfB := [(0,([(0,.inr (.inl [114])),(1,.inl ((0,4,1),none)),(2,.inl ((2,6,1),none)),(3,.inl ((1,13,1),none))],[],[]),(41,[]),0),
  (40,([(0,.inr (.inl [114])),(1,.inl ((0,4,1),none)),(2,.inl ((2,6,1),none)),(3,.inl ((1,13,1),none)),(4,.inl (((-2147483648),2147483647,1),none))],[],[]),(16,[]),0)]
set_option maxRecDepth 100000 in
theorem q777_ok : rf_chkB q777_P q777_U wLay q777_M ddX12_reads [] [] [0,40] 600 q777_N = true := by decide +kernel
set_option maxHeartbeats 4000000 in
theorem q777_met {G : rfG} (h : okG G) (hh : wHandOK G) : rf_met G q777_M := rf_methodB h.1 (P := q777_P) (U := q777_U) (N := q777_N) ⟨wflT h flokX12, wcsT h csokX12, wlcT h lcokX12, spokX12 h, fun _ h => absurd h List.not_mem_nil, fun _ h => absurd h List.not_mem_nil, fun _ h => absurd h List.not_mem_nil, fun _ h => absurd h List.not_mem_nil, fun _ h => absurd h List.not_mem_nil⟩ dkX12_reads (by decide +kernel) (by rw [h.2.2.1]; exact q777_ok)
