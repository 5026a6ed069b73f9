/-- NearSpellModel.undo -/
def q910_M : rfM := ((⟨"NearSpellModel", "undo", "()Z"⟩, prog_14_method_113_code, 1, (some .boolean)), (1,22), ([.inr (.inl [114])],[((114,55),(0,11,1),none),((114,56),(29,29,0),none)]), [(90,0),(105,0),(114,56),(114,57)], [(some (.inl ((0,0,0),none)),[],[((114,55),(0,0,1),some ((114,55),0,0)),((114,56),(29,29,0),some ((114,56),0,0))]),(some (.inl ((1,1,0),none)),[],[((114,55),(0,10,1),some ((114,55),(-1),(-1))),((114,56),(30,30,0),some ((114,56),1,1))])])
def q910_P : rfP := (flX12,csX12,lcX12,spX12,[q880_M],[],[(474,0,12)],([],[]))
def q910_U : rfU := []
set_option maxHeartbeats 8000000 in
def q910_N : List rfB := [(0,([(0,.inr (.inl [114]))],[],[((114,55),(0,11,1),some ((114,55),0,0)),((114,56),(29,29,0),some ((114,56),0,0))]),(20,[]),0)]
set_option maxRecDepth 100000 in
theorem q910_ok : rf_chkB q910_P q910_U wLay q910_M ddX12_undo [(30,[0])] [] [0] 600 q910_N = true := by decide +kernel
set_option maxHeartbeats 4000000 in
theorem q910_met {G : rfG} (h : okG G) : rf_met G q910_M := rf_methodB h.1 (P := q910_P) (U := q910_U) (N := q910_N) ⟨wflT h flokX12, wcsT h csokX12, wlcT h lcokX12, spokX12 h, List.forall_mem_cons.mpr ⟨q880_met h, fun _ h => absurd h List.not_mem_nil⟩, fun _ h => absurd h List.not_mem_nil, List.forall_mem_cons.mpr ⟨fun M hM => Option.some.inj (show some q880_M = some M from hM) ▸ wlkV (lkX12_474 h) q880_M rfl rfl, fun _ h => absurd h List.not_mem_nil⟩, fun _ h => absurd h List.not_mem_nil, fun _ h => absurd h List.not_mem_nil⟩ dkX12_undo (by decide +kernel) (by rw [h.2.2.1]; exact q910_ok)
/-- NearSpellModel.undo -/
def q911_M : rfM := ((⟨"NearSpellModel", "undo", "()Z"⟩, prog_14_method_113_code, 1, (some .boolean)), (1,22), ([.inr (.inl [114])],[((114,55),(0,10,1),none),((114,56),(30,30,0),none)]), [(90,0),(105,0),(114,56),(114,57)], [(some (.inl ((0,0,0),none)),[],[((114,55),(0,0,1),some ((114,55),0,0)),((114,56),(30,30,0),some ((114,56),0,0))]),(some (.inl ((1,1,0),none)),[],[((114,55),(0,9,1),some ((114,55),(-1),(-1))),((114,56),(31,31,0),some ((114,56),1,1))])])
def q911_P : rfP := (flX12,csX12,lcX12,spX12,[q880_M],[],[(474,0,12)],([],[]))
def q911_U : rfU := []
set_option maxHeartbeats 8000000 in
def q911_N : List rfB := [(0,([(0,.inr (.inl [114]))],[],[((114,55),(0,10,1),some ((114,55),0,0)),((114,56),(30,30,0),some ((114,56),0,0))]),(20,[]),0)]
set_option maxRecDepth 100000 in
theorem q911_ok : rf_chkB q911_P q911_U wLay q911_M ddX12_undo [(30,[0])] [] [0] 600 q911_N = true := by decide +kernel
set_option maxHeartbeats 4000000 in
theorem q911_met {G : rfG} (h : okG G) : rf_met G q911_M := rf_methodB h.1 (P := q911_P) (U := q911_U) (N := q911_N) ⟨wflT h flokX12, wcsT h csokX12, wlcT h lcokX12, spokX12 h, List.forall_mem_cons.mpr ⟨q880_met h, fun _ h => absurd h List.not_mem_nil⟩, fun _ h => absurd h List.not_mem_nil, List.forall_mem_cons.mpr ⟨fun M hM => Option.some.inj (show some q880_M = some M from hM) ▸ wlkV (lkX12_474 h) q880_M rfl rfl, fun _ h => absurd h List.not_mem_nil⟩, fun _ h => absurd h List.not_mem_nil, fun _ h => absurd h List.not_mem_nil⟩ dkX12_undo (by decide +kernel) (by rw [h.2.2.1]; exact q911_ok)
/-- NearSpellModel.undo -/
def q912_M : rfM := ((⟨"NearSpellModel", "undo", "()Z"⟩, prog_14_method_113_code, 1, (some .boolean)), (1,22), ([.inr (.inl [114])],[((114,55),(0,9,1),none),((114,56),(31,31,0),none)]), [(90,0),(105,0),(114,56),(114,57)], [(some (.inl ((0,0,0),none)),[],[((114,55),(0,0,1),some ((114,55),0,0)),((114,56),(31,31,0),some ((114,56),0,0))]),(some (.inl ((1,1,0),none)),[],[((114,55),(0,8,1),some ((114,55),(-1),(-1))),((114,56),(32,32,0),some ((114,56),1,1))])])
def q912_P : rfP := (flX12,csX12,lcX12,spX12,[q880_M],[],[(474,0,12)],([],[]))
def q912_U : rfU := []
set_option maxHeartbeats 8000000 in
def q912_N : List rfB := [(0,([(0,.inr (.inl [114]))],[],[((114,55),(0,9,1),some ((114,55),0,0)),((114,56),(31,31,0),some ((114,56),0,0))]),(20,[]),0)]
set_option maxRecDepth 100000 in
theorem q912_ok : rf_chkB q912_P q912_U wLay q912_M ddX12_undo [(30,[0])] [] [0] 600 q912_N = true := by decide +kernel
set_option maxHeartbeats 4000000 in
theorem q912_met {G : rfG} (h : okG G) : rf_met G q912_M := rf_methodB h.1 (P := q912_P) (U := q912_U) (N := q912_N) ⟨wflT h flokX12, wcsT h csokX12, wlcT h lcokX12, spokX12 h, List.forall_mem_cons.mpr ⟨q880_met h, fun _ h => absurd h List.not_mem_nil⟩, fun _ h => absurd h List.not_mem_nil, List.forall_mem_cons.mpr ⟨fun M hM => Option.some.inj (show some q880_M = some M from hM) ▸ wlkV (lkX12_474 h) q880_M rfl rfl, fun _ h => absurd h List.not_mem_nil⟩, fun _ h => absurd h List.not_mem_nil, fun _ h => absurd h List.not_mem_nil⟩ dkX12_undo (by decide +kernel) (by rw [h.2.2.1]; exact q912_ok)
/-- NearSpellModel.undo -/
def q913_M : rfM := ((⟨"NearSpellModel", "undo", "()Z"⟩, prog_14_method_113_code, 1, (some .boolean)), (1,22), ([.inr (.inl [114])],[((114,55),(0,8,1),none),((114,56),(32,32,0),none)]), [(90,0),(105,0),(114,56),(114,57)], [(some (.inl ((0,0,0),none)),[],[((114,55),(0,0,1),some ((114,55),0,0)),((114,56),(32,32,0),some ((114,56),0,0))]),(some (.inl ((1,1,0),none)),[],[((114,55),(0,7,1),some ((114,55),(-1),(-1))),((114,56),(33,33,0),some ((114,56),1,1))])])
def q913_P : rfP := (flX12,csX12,lcX12,spX12,[q880_M],[],[(474,0,12)],([],[]))
def q913_U : rfU := []
set_option maxHeartbeats 8000000 in
def q913_N : List rfB := [(0,([(0,.inr (.inl [114]))],[],[((114,55),(0,8,1),some ((114,55),0,0)),((114,56),(32,32,0),some ((114,56),0,0))]),(20,[]),0)]
set_option maxRecDepth 100000 in
theorem q913_ok : rf_chkB q913_P q913_U wLay q913_M ddX12_undo [(30,[0])] [] [0] 600 q913_N = true := by decide +kernel
set_option maxHeartbeats 4000000 in
theorem q913_met {G : rfG} (h : okG G) : rf_met G q913_M := rf_methodB h.1 (P := q913_P) (U := q913_U) (N := q913_N) ⟨wflT h flokX12, wcsT h csokX12, wlcT h lcokX12, spokX12 h, List.forall_mem_cons.mpr ⟨q880_met h, fun _ h => absurd h List.not_mem_nil⟩, fun _ h => absurd h List.not_mem_nil, List.forall_mem_cons.mpr ⟨fun M hM => Option.some.inj (show some q880_M = some M from hM) ▸ wlkV (lkX12_474 h) q880_M rfl rfl, fun _ h => absurd h List.not_mem_nil⟩, fun _ h => absurd h List.not_mem_nil, fun _ h => absurd h List.not_mem_nil⟩ dkX12_undo (by decide +kernel) (by rw [h.2.2.1]; exact q913_ok)
/-- NearSpellModel.undo -/
def q914_M : rfM := ((⟨"NearSpellModel", "undo", "()Z"⟩, prog_14_method_113_code, 1, (some .boolean)), (1,22), ([.inr (.inl [114])],[((114,55),(0,7,1),none),((114,56),(33,33,0),none)]), [(90,0),(105,0),(114,56),(114,57)], [(some (.inl ((0,0,0),none)),[],[((114,55),(0,0,1),some ((114,55),0,0)),((114,56),(33,33,0),some ((114,56),0,0))]),(some (.inl ((1,1,0),none)),[],[((114,55),(0,6,1),some ((114,55),(-1),(-1))),((114,56),(34,34,0),some ((114,56),1,1))])])
def q914_P : rfP := (flX12,csX12,lcX12,spX12,[q880_M],[],[(474,0,12)],([],[]))
def q914_U : rfU := []
set_option maxHeartbeats 8000000 in
def q914_N : List rfB := [(0,([(0,.inr (.inl [114]))],[],[((114,55),(0,7,1),some ((114,55),0,0)),((114,56),(33,33,0),some ((114,56),0,0))]),(20,[]),0)]
set_option maxRecDepth 100000 in
theorem q914_ok : rf_chkB q914_P q914_U wLay q914_M ddX12_undo [(30,[0])] [] [0] 600 q914_N = true := by decide +kernel
set_option maxHeartbeats 4000000 in
theorem q914_met {G : rfG} (h : okG G) : rf_met G q914_M := rf_methodB h.1 (P := q914_P) (U := q914_U) (N := q914_N) ⟨wflT h flokX12, wcsT h csokX12, wlcT h lcokX12, spokX12 h, List.forall_mem_cons.mpr ⟨q880_met h, fun _ h => absurd h List.not_mem_nil⟩, fun _ h => absurd h List.not_mem_nil, List.forall_mem_cons.mpr ⟨fun M hM => Option.some.inj (show some q880_M = some M from hM) ▸ wlkV (lkX12_474 h) q880_M rfl rfl, fun _ h => absurd h List.not_mem_nil⟩, fun _ h => absurd h List.not_mem_nil, fun _ h => absurd h List.not_mem_nil⟩ dkX12_undo (by decide +kernel) (by rw [h.2.2.1]; exact q914_ok)
/-- NearSpellModel.undo -/
def q915_M : rfM := ((⟨"NearSpellModel", "undo", "()Z"⟩, prog_14_method_113_code, 1, (some .boolean)), (1,22), ([.inr (.inl [114])],[((114,55),(0,6,1),none),((114,56),(34,34,0),none)]), [(90,0),(105,0),(114,56),(114,57)], [(some (.inl ((0,0,0),none)),[],[((114,55),(0,0,1),some ((114,55),0,0)),((114,56),(34,34,0),some ((114,56),0,0))]),(some (.inl ((1,1,0),none)),[],[((114,55),(0,5,1),some ((114,55),(-1),(-1))),((114,56),(35,35,0),some ((114,56),1,1))])])
def q915_P : rfP := (flX12,csX12,lcX12,spX12,[q880_M],[],[(474,0,12)],([],[]))
def q915_U : rfU := []
set_option maxHeartbeats 8000000 in
def q915_N : List rfB := [(0,([(0,.inr (.inl [114]))],[],[((114,55),(0,6,1),some ((114,55),0,0)),((114,56),(34,34,0),some ((114,56),0,0))]),(20,[]),0)]
set_option maxRecDepth 100000 in
theorem q915_ok : rf_chkB q915_P q915_U wLay q915_M ddX12_undo [(30,[0])] [] [0] 600 q915_N = true := by decide +kernel
set_option maxHeartbeats 4000000 in
theorem q915_met {G : rfG} (h : okG G) : rf_met G q915_M := rf_methodB h.1 (P := q915_P) (U := q915_U) (N := q915_N) ⟨wflT h flokX12, wcsT h csokX12, wlcT h lcokX12, spokX12 h, List.forall_mem_cons.mpr ⟨q880_met h, fun _ h => absurd h List.not_mem_nil⟩, fun _ h => absurd h List.not_mem_nil, List.forall_mem_cons.mpr ⟨fun M hM => Option.some.inj (show some q880_M = some M from hM) ▸ wlkV (lkX12_474 h) q880_M rfl rfl, fun _ h => absurd h List.not_mem_nil⟩, fun _ h => absurd h List.not_mem_nil, fun _ h => absurd h List.not_mem_nil⟩ dkX12_undo (by decide +kernel) (by rw [h.2.2.1]; exact q915_ok)
/-- NearSpellModel.undo -/
def q916_M : rfM := ((⟨"NearSpellModel", "undo", "()Z"⟩, prog_14_method_113_code, 1, (some .boolean)), (1,22), ([.inr (.inl [114])],[((114,55),(0,5,1),none),((114,56),(35,35,0),none)]), [(90,0),(105,0),(114,56),(114,57)], [(some (.inl ((0,0,0),none)),[],[((114,55),(0,0,1),some ((114,55),0,0)),((114,56),(35,35,0),some ((114,56),0,0))]),(some (.inl ((1,1,0),none)),[],[((114,55),(0,4,1),some ((114,55),(-1),(-1))),((114,56),(36,36,0),some ((114,56),1,1))])])
def q916_P : rfP := (flX12,csX12,lcX12,spX12,[q880_M],[],[(474,0,12)],([],[]))
def q916_U : rfU := []
set_option maxHeartbeats 8000000 in
def q916_N : List rfB := [(0,([(0,.inr (.inl [114]))],[],[((114,55),(0,5,1),some ((114,55),0,0)),((114,56),(35,35,0),some ((114,56),0,0))]),(20,[]),0)]
set_option maxRecDepth 100000 in
theorem q916_ok : rf_chkB q916_P q916_U wLay q916_M ddX12_undo [(30,[0])] [] [0] 600 q916_N = true := by decide +kernel
set_option maxHeartbeats 4000000 in
theorem q916_met {G : rfG} (h : okG G) : rf_met G q916_M := rf_methodB h.1 (P := q916_P) (U := q916_U) (N := q916_N) ⟨wflT h flokX12, wcsT h csokX12, wlcT h lcokX12, spokX12 h, List.forall_mem_cons.mpr ⟨q880_met h, fun _ h => absurd h List.not_mem_nil⟩, fun _ h => absurd h List.not_mem_nil, List.forall_mem_cons.mpr ⟨fun M hM => Option.some.inj (show some q880_M = some M from hM) ▸ wlkV (lkX12_474 h) q880_M rfl rfl, fun _ h => absurd h List.not_mem_nil⟩, fun _ h => absurd h List.not_mem_nil, fun _ h => absurd h List.not_mem_nil⟩ dkX12_undo (by decide +kernel) (by rw [h.2.2.1]; exact q916_ok)
/-- NearSpellModel.undo -/
def q917_M : rfM := ((⟨"NearSpellModel", "undo", "()Z"⟩, prog_14_method_113_code, 1, (some .boolean)), (1,22), ([.inr (.inl [114])],[((114,55),(0,4,1),none),((114,56),(36,36,0),none)]), [(90,0),(105,0),(114,56),(114,57)], [(some (.inl ((0,0,0),none)),[],[((114,55),(0,0,1),some ((114,55),0,0)),((114,56),(36,36,0),some ((114,56),0,0))]),(some (.inl ((1,1,0),none)),[],[((114,55),(0,3,1),some ((114,55),(-1),(-1))),((114,56),(37,37,0),some ((114,56),1,1))])])
def q917_P : rfP := (flX12,csX12,lcX12,spX12,[q880_M],[],[(474,0,12)],([],[]))
def q917_U : rfU := []
set_option maxHeartbeats 8000000 in
def q917_N : List rfB := [(0,([(0,.inr (.inl [114]))],[],[((114,55),(0,4,1),some ((114,55),0,0)),((114,56),(36,36,0),some ((114,56),0,0))]),(20,[]),0)]
set_option maxRecDepth 100000 in
theorem q917_ok : rf_chkB q917_P q917_U wLay q917_M ddX12_undo [(30,[0])] [] [0] 600 q917_N = true := by decide +kernel
set_option maxHeartbeats 4000000 in
theorem q917_met {G : rfG} (h : okG G) : rf_met G q917_M := rf_methodB h.1 (P := q917_P) (U := q917_U) (N := q917_N) ⟨wflT h flokX12, wcsT h csokX12, wlcT h lcokX12, spokX12 h, List.forall_mem_cons.mpr ⟨q880_met h, fun _ h => absurd h List.not_mem_nil⟩, fun _ h => absurd h List.not_mem_nil, List.forall_mem_cons.mpr ⟨fun M hM => Option.some.inj (show some q880_M = some M from hM) ▸ wlkV (lkX12_474 h) q880_M rfl rfl, fun _ h => absurd h List.not_mem_nil⟩, fun _ h => absurd h List.not_mem_nil, fun _ h => absurd h List.not_mem_nil⟩ dkX12_undo (by decide +kernel) (by rw [h.2.2.1]; exact q917_ok)
/-- NearSpellModel.undo -/
def q918_M : rfM := ((⟨"NearSpellModel", "undo", "()Z"⟩, prog_14_method_113_code, 1, (some .boolean)), (1,22), ([.inr (.inl [114])],[((114,55),(0,3,1),none),((114,56),(37,37,0),none)]), [(90,0),(105,0),(114,56),(114,57)], [(some (.inl ((0,0,0),none)),[],[((114,55),(0,0,1),some ((114,55),0,0)),((114,56),(37,37,0),some ((114,56),0,0))]),(some (.inl ((1,1,0),none)),[],[((114,55),(0,2,1),some ((114,55),(-1),(-1))),((114,56),(38,38,0),some ((114,56),1,1))])])
def q918_P : rfP := (flX12,csX12,lcX12,spX12,[q880_M],[],[(474,0,12)],([],[]))
def q918_U : rfU := []
set_option maxHeartbeats 8000000 in
def q918_N : List rfB := [(0,([(0,.inr (.inl [114]))],[],[((114,55),(0,3,1),some ((114,55),0,0)),((114,56),(37,37,0),some ((114,56),0,0))]),(20,[]),0)]
set_option maxRecDepth 100000 in
theorem q918_ok : rf_chkB q918_P q918_U wLay q918_M ddX12_undo [(30,[0])] [] [0] 600 q918_N = true := by decide +kernel
set_option maxHeartbeats 4000000 in
theorem q918_met {G : rfG} (h : okG G) : rf_met G q918_M := rf_methodB h.1 (P := q918_P) (U := q918_U) (N := q918_N) ⟨wflT h flokX12, wcsT h csokX12, wlcT h lcokX12, spokX12 h, List.forall_mem_cons.mpr ⟨q880_met h, fun _ h => absurd h List.not_mem_nil⟩, fun _ h => absurd h List.not_mem_nil, List.forall_mem_cons.mpr ⟨fun M hM => Option.some.inj (show some q880_M = some M from hM) ▸ wlkV (lkX12_474 h) q880_M rfl rfl, fun _ h => absurd h List.not_mem_nil⟩, fun _ h => absurd h List.not_mem_nil, fun _ h => absurd h List.not_mem_nil⟩ dkX12_undo (by decide +kernel) (by rw [h.2.2.1]; exact q918_ok)
/-- NearSpellModel.undo -/
def q919_M : rfM := ((⟨"NearSpellModel", "undo", "()Z"⟩, prog_14_method_113_code, 1, (some .boolean)), (1,22), ([.inr (.inl [114])],[((114,55),(0,2,1),none),((114,56),(38,38,0),none)]), [(90,0),(105,0),(114,56),(114,57)], [(some (.inl ((0,0,0),none)),[],[((114,55),(0,0,1),some ((114,55),0,0)),((114,56),(38,38,0),some ((114,56),0,0))]),(some (.inl ((1,1,0),none)),[],[((114,55),(0,1,1),some ((114,55),(-1),(-1))),((114,56),(39,39,0),some ((114,56),1,1))])])
def q919_P : rfP := (flX12,csX12,lcX12,spX12,[q880_M],[],[(474,0,12)],([],[]))
def q919_U : rfU := []
set_option maxHeartbeats 8000000 in
def q919_N : List rfB := [(0,([(0,.inr (.inl [114]))],[],[((114,55),(0,2,1),some ((114,55),0,0)),((114,56),(38,38,0),some ((114,56),0,0))]),(20,[]),0)]
set_option maxRecDepth 100000 in
theorem q919_ok : rf_chkB q919_P q919_U wLay q919_M ddX12_undo [(30,[0])] [] [0] 600 q919_N = true := by decide +kernel
set_option maxHeartbeats 4000000 in
theorem q919_met {G : rfG} (h : okG G) : rf_met G q919_M := rf_methodB h.1 (P := q919_P) (U := q919_U) (N := q919_N) ⟨wflT h flokX12, wcsT h csokX12, wlcT h lcokX12, spokX12 h, List.forall_mem_cons.mpr ⟨q880_met h, fun _ h => absurd h List.not_mem_nil⟩, fun _ h => absurd h List.not_mem_nil, List.forall_mem_cons.mpr ⟨fun M hM => Option.some.inj (show some q880_M = some M from hM) ▸ wlkV (lkX12_474 h) q880_M rfl rfl, fun _ h => absurd h List.not_mem_nil⟩, fun _ h => absurd h List.not_mem_nil, fun _ h => absurd h List.not_mem_nil⟩ dkX12_undo (by decide +kernel) (by rw [h.2.2.1]; exact q919_ok)
/-- NearSpellModel.undo -/
def q920_M : rfM := ((⟨"NearSpellModel", "undo", "()Z"⟩, prog_14_method_113_code, 1, (some .boolean)), (1,22), ([.inr (.inl [114])],[((114,55),(0,1,1),none),((114,56),(39,39,0),none)]), [(90,0),(105,0),(114,56),(114,57)], [(some (.inl ((0,0,0),none)),[],[((114,55),(0,0,1),some ((114,55),0,0)),((114,56),(39,39,0),some ((114,56),0,0))]),(some (.inl ((1,1,0),none)),[],[((114,55),(0,0,1),some ((114,55),(-1),(-1))),((114,56),(40,40,0),some ((114,56),1,1))])])
def q920_P : rfP := (flX12,csX12,lcX12,spX12,[q880_M],[],[(474,0,12)],([],[]))
def q920_U : rfU := []
set_option maxHeartbeats 8000000 in
def q920_N : List rfB := [(0,([(0,.inr (.inl [114]))],[],[((114,55),(0,1,1),some ((114,55),0,0)),((114,56),(39,39,0),some ((114,56),0,0))]),(20,[]),0)]
set_option maxRecDepth 100000 in
theorem q920_ok : rf_chkB q920_P q920_U wLay q920_M ddX12_undo [(30,[0])] [] [0] 600 q920_N = true := by decide +kernel
set_option maxHeartbeats 4000000 in
theorem q920_met {G : rfG} (h : okG G) : rf_met G q920_M := rf_methodB h.1 (P := q920_P) (U := q920_U) (N := q920_N) ⟨wflT h flokX12, wcsT h csokX12, wlcT h lcokX12, spokX12 h, List.forall_mem_cons.mpr ⟨q880_met h, fun _ h => absurd h List.not_mem_nil⟩, fun _ h => absurd h List.not_mem_nil, List.forall_mem_cons.mpr ⟨fun M hM => Option.some.inj (show some q880_M = some M from hM) ▸ wlkV (lkX12_474 h) q880_M rfl rfl, fun _ h => absurd h List.not_mem_nil⟩, fun _ h => absurd h List.not_mem_nil, fun _ h => absurd h List.not_mem_nil⟩ dkX12_undo (by decide +kernel) (by rw [h.2.2.1]; exact q920_ok)
/-- NearSpellModel.undo -/
def q921_M : rfM := ((⟨"NearSpellModel", "undo", "()Z"⟩, prog_14_method_113_code, 1, (some .boolean)), (0,0), ([.inr (.inl [114])],[((114,55),(0,0,0),none),((114,56),(40,40,0),none)]), [], [(some (.inl ((0,0,0),none)),[],[])])
def q921_P : rfP := (flX12,csX12,lcX12,spX12,[],[],[],([],[]))
def q921_U : rfU := []
set_option maxHeartbeats 8000000 in
def q921_N : List rfB := [(0,([(0,.inr (.inl [114]))],[],[((114,55),(0,0,0),some ((114,55),0,0)),((114,56),(40,40,0),some ((114,56),0,0))]),(4,[]),0)]
set_option maxRecDepth 100000 in
theorem q921_ok : rf_chkB q921_P q921_U wLay q921_M ddX12_undo [] [] [0] 600 q921_N = true := by decide +kernel
set_option maxHeartbeats 4000000 in
theorem q921_met {G : rfG} (h : okG G) : rf_met G q921_M := rf_methodB h.1 (P := q921_P) (U := q921_U) (N := q921_N) ⟨wflT h flokX12, wcsT h csokX12, wlcT h lcokX12, spokX12 h, fun _ h => absurd h List.not_mem_nil, fun _ h => absurd h List.not_mem_nil, fun _ h => absurd h List.not_mem_nil, fun _ h => absurd h List.not_mem_nil, fun _ h => absurd h List.not_mem_nil⟩ dkX12_undo (by decide +kernel) (by rw [h.2.2.1]; exact q921_ok)
/-- NearSpellModel.redo -/
def q922_M : rfM := ((⟨"NearSpellModel", "redo", "()Z"⟩, prog_14_method_114_code, 1, (some .boolean)), (0,0), ([.inr (.inl [114])],[((114,55),(0,40,1),none),((114,56),(0,0,0),none)]), [], [(some (.inl ((0,0,0),none)),[],[])])
def ddX12_redo : List (Nat × Instr × Nat) := [(0,.aload_n 0,1),(1,.getfield 341,3),(4,.ifCond .ne 5,3),(7,.iconst 0,1),(8,.ireturn,1),(9,.aload_n 0,1),(10,.invokevirtual 474,3),(13,.aload_n 0,1),(14,.dup,1),(15,.getfield 338,3),(18,.iconst 1,1),(19,.iadd,1),(20,.putfield 338,3),(23,.aload_n 0,1),(24,.dup,1),(25,.getfield 341,3),(28,.iconst 1,1),(29,.isub,1),(30,.putfield 341,3),(33,.iconst 1,1),(34,.ireturn,1)]
set_option maxRecDepth 100000 in
theorem dkX12_redo : rf_decs prog_14_method_114_code ddX12_redo := rf_decs_of (by decide +kernel)
def q922_P : rfP := (flX12,csX12,lcX12,spX12,[],[],[],([],[]))
def q922_U : rfU := []
set_option maxHeartbeats 8000000 in
def q922_N : List rfB := [(0,([(0,.inr (.inl [114]))],[],[((114,55),(0,40,1),some ((114,55),0,0)),((114,56),(0,0,0),some ((114,56),0,0))]),(4,[]),0)]
set_option maxRecDepth 100000 in
theorem q922_ok : rf_chkB q922_P q922_U wLay q922_M ddX12_redo [] [] [0] 600 q922_N = true := by decide +kernel
set_option maxHeartbeats 4000000 in
theorem q922_met {G : rfG} (h : okG G) : rf_met G q922_M := rf_methodB h.1 (P := q922_P) (U := q922_U) (N := q922_N) ⟨wflT h flokX12, wcsT h csokX12, wlcT h lcokX12, spokX12 h, fun _ h => absurd h List.not_mem_nil, fun _ h => absurd h List.not_mem_nil, fun _ h => absurd h List.not_mem_nil, fun _ h => absurd h List.not_mem_nil, fun _ h => absurd h List.not_mem_nil⟩ dkX12_redo (by decide +kernel) (by rw [h.2.2.1]; exact q922_ok)
/-- NearSpellModel.redo -/
def q923_M : rfM := ((⟨"NearSpellModel", "redo", "()Z"⟩, prog_14_method_114_code, 1, (some .boolean)), (1,22), ([.inr (.inl [114])],[((114,55),(0,39,1),none),((114,56),(1,1,0),none)]), [(90,0),(105,0),(114,56),(114,57)], [(some (.inl ((1,1,0),none)),[],[((114,55),(1,40,1),some ((114,55),1,1)),((114,56),(0,0,0),some ((114,56),(-1),(-1)))])])
def q923_P : rfP := (flX12,csX12,lcX12,spX12,[q880_M],[],[(474,0,12)],([],[]))
def q923_U : rfU := []
set_option maxHeartbeats 8000000 in
def q923_N : List rfB := [(0,([(0,.inr (.inl [114]))],[],[((114,55),(0,39,1),some ((114,55),0,0)),((114,56),(1,1,0),some ((114,56),0,0))]),(18,[]),0)]
set_option maxRecDepth 100000 in
theorem q923_ok : rf_chkB q923_P q923_U wLay q923_M ddX12_redo [(10,[0])] [] [0] 600 q923_N = true := by decide +kernel
set_option maxHeartbeats 4000000 in
theorem q923_met {G : rfG} (h : okG G) : rf_met G q923_M := rf_methodB h.1 (P := q923_P) (U := q923_U) (N := q923_N) ⟨wflT h flokX12, wcsT h csokX12, wlcT h lcokX12, spokX12 h, List.forall_mem_cons.mpr ⟨q880_met h, fun _ h => absurd h List.not_mem_nil⟩, fun _ h => absurd h List.not_mem_nil, List.forall_mem_cons.mpr ⟨fun M hM => Option.some.inj (show some q880_M = some M from hM) ▸ wlkV (lkX12_474 h) q880_M rfl rfl, fun _ h => absurd h List.not_mem_nil⟩, fun _ h => absurd h List.not_mem_nil, fun _ h => absurd h List.not_mem_nil⟩ dkX12_redo (by decide +kernel) (by rw [h.2.2.1]; exact q923_ok)
/-- NearSpellModel.redo -/
def q924_M : rfM := ((⟨"NearSpellModel", "redo", "()Z"⟩, prog_14_method_114_code, 1, (some .boolean)), (1,22), ([.inr (.inl [114])],[((114,55),(0,38,1),none),((114,56),(2,2,0),none)]), [(90,0),(105,0),(114,56),(114,57)], [(some (.inl ((1,1,0),none)),[],[((114,55),(1,39,1),some ((114,55),1,1)),((114,56),(1,1,0),some ((114,56),(-1),(-1)))])])
def q924_P : rfP := (flX12,csX12,lcX12,spX12,[q880_M],[],[(474,0,12)],([],[]))
def q924_U : rfU := []
set_option maxHeartbeats 8000000 in
def q924_N : List rfB := [(0,([(0,.inr (.inl [114]))],[],[((114,55),(0,38,1),some ((114,55),0,0)),((114,56),(2,2,0),some ((114,56),0,0))]),(18,[]),0)]
set_option maxRecDepth 100000 in
theorem q924_ok : rf_chkB q924_P q924_U wLay q924_M ddX12_redo [(10,[0])] [] [0] 600 q924_N = true := by decide +kernel
set_option maxHeartbeats 4000000 in
theorem q924_met {G : rfG} (h : okG G) : rf_met G q924_M := rf_methodB h.1 (P := q924_P) (U := q924_U) (N := q924_N) ⟨wflT h flokX12, wcsT h csokX12, wlcT h lcokX12, spokX12 h, List.forall_mem_cons.mpr ⟨q880_met h, fun _ h => absurd h List.not_mem_nil⟩, fun _ h => absurd h List.not_mem_nil, List.forall_mem_cons.mpr ⟨fun M hM => Option.some.inj (show some q880_M = some M from hM) ▸ wlkV (lkX12_474 h) q880_M rfl rfl, fun _ h => absurd h List.not_mem_nil⟩, fun _ h => absurd h List.not_mem_nil, fun _ h => absurd h List.not_mem_nil⟩ dkX12_redo (by decide +kernel) (by rw [h.2.2.1]; exact q924_ok)
/-- NearSpellModel.redo -/
def q925_M : rfM := ((⟨"NearSpellModel", "redo", "()Z"⟩, prog_14_method_114_code, 1, (some .boolean)), (1,22), ([.inr (.inl [114])],[((114,55),(0,37,1),none),((114,56),(3,3,0),none)]), [(90,0),(105,0),(114,56),(114,57)], [(some (.inl ((1,1,0),none)),[],[((114,55),(1,38,1),some ((114,55),1,1)),((114,56),(2,2,0),some ((114,56),(-1),(-1)))])])
def q925_P : rfP := (flX12,csX12,lcX12,spX12,[q880_M],[],[(474,0,12)],([],[]))
def q925_U : rfU := []
set_option maxHeartbeats 8000000 in
def q925_N : List rfB := [(0,([(0,.inr (.inl [114]))],[],[((114,55),(0,37,1),some ((114,55),0,0)),((114,56),(3,3,0),some ((114,56),0,0))]),(18,[]),0)]
set_option maxRecDepth 100000 in
theorem q925_ok : rf_chkB q925_P q925_U wLay q925_M ddX12_redo [(10,[0])] [] [0] 600 q925_N = true := by decide +kernel
set_option maxHeartbeats 4000000 in
theorem q925_met {G : rfG} (h : okG G) : rf_met G q925_M := rf_methodB h.1 (P := q925_P) (U := q925_U) (N := q925_N) ⟨wflT h flokX12, wcsT h csokX12, wlcT h lcokX12, spokX12 h, List.forall_mem_cons.mpr ⟨q880_met h, fun _ h => absurd h List.not_mem_nil⟩, fun _ h => absurd h List.not_mem_nil, List.forall_mem_cons.mpr ⟨fun M hM => Option.some.inj (show some q880_M = some M from hM) ▸ wlkV (lkX12_474 h) q880_M rfl rfl, fun _ h => absurd h List.not_mem_nil⟩, fun _ h => absurd h List.not_mem_nil, fun _ h => absurd h List.not_mem_nil⟩ dkX12_redo (by decide +kernel) (by rw [h.2.2.1]; exact q925_ok)
/-- NearSpellModel.redo -/
def q926_M : rfM := ((⟨"NearSpellModel", "redo", "()Z"⟩, prog_14_method_114_code, 1, (some .boolean)), (1,22), ([.inr (.inl [114])],[((114,55),(0,36,1),none),((114,56),(4,4,0),none)]), [(90,0),(105,0),(114,56),(114,57)], [(some (.inl ((1,1,0),none)),[],[((114,55),(1,37,1),some ((114,55),1,1)),((114,56),(3,3,0),some ((114,56),(-1),(-1)))])])
def q926_P : rfP := (flX12,csX12,lcX12,spX12,[q880_M],[],[(474,0,12)],([],[]))
def q926_U : rfU := []
set_option maxHeartbeats 8000000 in
def q926_N : List rfB := [(0,([(0,.inr (.inl [114]))],[],[((114,55),(0,36,1),some ((114,55),0,0)),((114,56),(4,4,0),some ((114,56),0,0))]),(18,[]),0)]
set_option maxRecDepth 100000 in
theorem q926_ok : rf_chkB q926_P q926_U wLay q926_M ddX12_redo [(10,[0])] [] [0] 600 q926_N = true := by decide +kernel
set_option maxHeartbeats 4000000 in
theorem q926_met {G : rfG} (h : okG G) : rf_met G q926_M := rf_methodB h.1 (P := q926_P) (U := q926_U) (N := q926_N) ⟨wflT h flokX12, wcsT h csokX12, wlcT h lcokX12, spokX12 h, List.forall_mem_cons.mpr ⟨q880_met h, fun _ h => absurd h List.not_mem_nil⟩, fun _ h => absurd h List.not_mem_nil, List.forall_mem_cons.mpr ⟨fun M hM => Option.some.inj (show some q880_M = some M from hM) ▸ wlkV (lkX12_474 h) q880_M rfl rfl, fun _ h => absurd h List.not_mem_nil⟩, fun _ h => absurd h List.not_mem_nil, fun _ h => absurd h List.not_mem_nil⟩ dkX12_redo (by decide +kernel) (by rw [h.2.2.1]; exact q926_ok)
/-- NearSpellModel.redo -/
def q927_M : rfM := ((⟨"NearSpellModel", "redo", "()Z"⟩, prog_14_method_114_code, 1, (some .boolean)), (1,22), ([.inr (.inl [114])],[((114,55),(0,35,1),none),((114,56),(5,5,0),none)]), [(90,0),(105,0),(114,56),(114,57)], [(some (.inl ((1,1,0),none)),[],[((114,55),(1,36,1),some ((114,55),1,1)),((114,56),(4,4,0),some ((114,56),(-1),(-1)))])])
def q927_P : rfP := (flX12,csX12,lcX12,spX12,[q880_M],[],[(474,0,12)],([],[]))
def q927_U : rfU := []
set_option maxHeartbeats 8000000 in
def q927_N : List rfB := [(0,([(0,.inr (.inl [114]))],[],[((114,55),(0,35,1),some ((114,55),0,0)),((114,56),(5,5,0),some ((114,56),0,0))]),(18,[]),0)]
set_option maxRecDepth 100000 in
theorem q927_ok : rf_chkB q927_P q927_U wLay q927_M ddX12_redo [(10,[0])] [] [0] 600 q927_N = true := by decide +kernel
set_option maxHeartbeats 4000000 in
theorem q927_met {G : rfG} (h : okG G) : rf_met G q927_M := rf_methodB h.1 (P := q927_P) (U := q927_U) (N := q927_N) ⟨wflT h flokX12, wcsT h csokX12, wlcT h lcokX12, spokX12 h, List.forall_mem_cons.mpr ⟨q880_met h, fun _ h => absurd h List.not_mem_nil⟩, fun _ h => absurd h List.not_mem_nil, List.forall_mem_cons.mpr ⟨fun M hM => Option.some.inj (show some q880_M = some M from hM) ▸ wlkV (lkX12_474 h) q880_M rfl rfl, fun _ h => absurd h List.not_mem_nil⟩, fun _ h => absurd h List.not_mem_nil, fun _ h => absurd h List.not_mem_nil⟩ dkX12_redo (by decide +kernel) (by rw [h.2.2.1]; exact q927_ok)
/-- NearSpellModel.redo -/
def q928_M : rfM := ((⟨"NearSpellModel", "redo", "()Z"⟩, prog_14_method_114_code, 1, (some .boolean)), (1,22), ([.inr (.inl [114])],[((114,55),(0,34,1),none),((114,56),(6,6,0),none)]), [(90,0),(105,0),(114,56),(114,57)], [(some (.inl ((1,1,0),none)),[],[((114,55),(1,35,1),some ((114,55),1,1)),((114,56),(5,5,0),some ((114,56),(-1),(-1)))])])
def q928_P : rfP := (flX12,csX12,lcX12,spX12,[q880_M],[],[(474,0,12)],([],[]))
def q928_U : rfU := []
set_option maxHeartbeats 8000000 in
def q928_N : List rfB := [(0,([(0,.inr (.inl [114]))],[],[((114,55),(0,34,1),some ((114,55),0,0)),((114,56),(6,6,0),some ((114,56),0,0))]),(18,[]),0)]
set_option maxRecDepth 100000 in
theorem q928_ok : rf_chkB q928_P q928_U wLay q928_M ddX12_redo [(10,[0])] [] [0] 600 q928_N = true := by decide +kernel
set_option maxHeartbeats 4000000 in
theorem q928_met {G : rfG} (h : okG G) : rf_met G q928_M := rf_methodB h.1 (P := q928_P) (U := q928_U) (N := q928_N) ⟨wflT h flokX12, wcsT h csokX12, wlcT h lcokX12, spokX12 h, List.forall_mem_cons.mpr ⟨q880_met h, fun _ h => absurd h List.not_mem_nil⟩, fun _ h => absurd h List.not_mem_nil, List.forall_mem_cons.mpr ⟨fun M hM => Option.some.inj (show some q880_M = some M from hM) ▸ wlkV (lkX12_474 h) q880_M rfl rfl, fun _ h => absurd h List.not_mem_nil⟩, fun _ h => absurd h List.not_mem_nil, fun _ h => absurd h List.not_mem_nil⟩ dkX12_redo (by decide +kernel) (by rw [h.2.2.1]; exact q928_ok)
/-- NearSpellModel.redo -/
def q929_M : rfM := ((⟨"NearSpellModel", "redo", "()Z"⟩, prog_14_method_114_code, 1, (some .boolean)), (1,22), ([.inr (.inl [114])],[((114,55),(0,33,1),none),((114,56),(7,7,0),none)]), [(90,0),(105,0),(114,56),(114,57)], [(some (.inl ((1,1,0),none)),[],[((114,55),(1,34,1),some ((114,55),1,1)),((114,56),(6,6,0),some ((114,56),(-1),(-1)))])])
def q929_P : rfP := (flX12,csX12,lcX12,spX12,[q880_M],[],[(474,0,12)],([],[]))
def q929_U : rfU := []
set_option maxHeartbeats 8000000 in
def q929_N : List rfB := [(0,([(0,.inr (.inl [114]))],[],[((114,55),(0,33,1),some ((114,55),0,0)),((114,56),(7,7,0),some ((114,56),0,0))]),(18,[]),0)]
set_option maxRecDepth 100000 in
theorem q929_ok : rf_chkB q929_P q929_U wLay q929_M ddX12_redo [(10,[0])] [] [0] 600 q929_N = true := by decide +kernel
set_option maxHeartbeats 4000000 in
theorem q929_met {G : rfG} (h : okG G) : rf_met G q929_M := rf_methodB h.1 (P := q929_P) (U := q929_U) (N := q929_N) ⟨wflT h flokX12, wcsT h csokX12, wlcT h lcokX12, spokX12 h, List.forall_mem_cons.mpr ⟨q880_met h, fun _ h => absurd h List.not_mem_nil⟩, fun _ h => absurd h List.not_mem_nil, List.forall_mem_cons.mpr ⟨fun M hM => Option.some.inj (show some q880_M = some M from hM) ▸ wlkV (lkX12_474 h) q880_M rfl rfl, fun _ h => absurd h List.not_mem_nil⟩, fun _ h => absurd h List.not_mem_nil, fun _ h => absurd h List.not_mem_nil⟩ dkX12_redo (by decide +kernel) (by rw [h.2.2.1]; exact q929_ok)
/-- NearSpellModel.redo -/
def q930_M : rfM := ((⟨"NearSpellModel", "redo", "()Z"⟩, prog_14_method_114_code, 1, (some .boolean)), (1,22), ([.inr (.inl [114])],[((114,55),(0,32,1),none),((114,56),(8,8,0),none)]), [(90,0),(105,0),(114,56),(114,57)], [(some (.inl ((1,1,0),none)),[],[((114,55),(1,33,1),some ((114,55),1,1)),((114,56),(7,7,0),some ((114,56),(-1),(-1)))])])
def q930_P : rfP := (flX12,csX12,lcX12,spX12,[q880_M],[],[(474,0,12)],([],[]))
def q930_U : rfU := []
set_option maxHeartbeats 8000000 in
def q930_N : List rfB := [(0,([(0,.inr (.inl [114]))],[],[((114,55),(0,32,1),some ((114,55),0,0)),((114,56),(8,8,0),some ((114,56),0,0))]),(18,[]),0)]
set_option maxRecDepth 100000 in
theorem q930_ok : rf_chkB q930_P q930_U wLay q930_M ddX12_redo [(10,[0])] [] [0] 600 q930_N = true := by decide +kernel
set_option maxHeartbeats 4000000 in
theorem q930_met {G : rfG} (h : okG G) : rf_met G q930_M := rf_methodB h.1 (P := q930_P) (U := q930_U) (N := q930_N) ⟨wflT h flokX12, wcsT h csokX12, wlcT h lcokX12, spokX12 h, List.forall_mem_cons.mpr ⟨q880_met h, fun _ h => absurd h List.not_mem_nil⟩, fun _ h => absurd h List.not_mem_nil, List.forall_mem_cons.mpr ⟨fun M hM => Option.some.inj (show some q880_M = some M from hM) ▸ wlkV (lkX12_474 h) q880_M rfl rfl, fun _ h => absurd h List.not_mem_nil⟩, fun _ h => absurd h List.not_mem_nil, fun _ h => absurd h List.not_mem_nil⟩ dkX12_redo (by decide +kernel) (by rw [h.2.2.1]; exact q930_ok)
/-- NearSpellModel.redo -/
def q931_M : rfM := ((⟨"NearSpellModel", "redo", "()Z"⟩, prog_14_method_114_code, 1, (some .boolean)), (1,22), ([.inr (.inl [114])],[((114,55),(0,31,1),none),((114,56),(9,9,0),none)]), [(90,0),(105,0),(114,56),(114,57)], [(some (.inl ((1,1,0),none)),[],[((114,55),(1,32,1),some ((114,55),1,1)),((114,56),(8,8,0),some ((114,56),(-1),(-1)))])])
def q931_P : rfP := (flX12,csX12,lcX12,spX12,[q880_M],[],[(474,0,12)],([],[]))
def q931_U : rfU := []
set_option maxHeartbeats 8000000 in
def q931_N : List rfB := [(0,([(0,.inr (.inl [114]))],[],[((114,55),(0,31,1),some ((114,55),0,0)),((114,56),(9,9,0),some ((114,56),0,0))]),(18,[]),0)]
set_option maxRecDepth 100000 in
theorem q931_ok : rf_chkB q931_P q931_U wLay q931_M ddX12_redo [(10,[0])] [] [0] 600 q931_N = true := by decide +kernel
set_option maxHeartbeats 4000000 in
theorem q931_met {G : rfG} (h : okG G) : rf_met G q931_M := rf_methodB h.1 (P := q931_P) (U := q931_U) (N := q931_N) ⟨wflT h flokX12, wcsT h csokX12, wlcT h lcokX12, spokX12 h, List.forall_mem_cons.mpr ⟨q880_met h, fun _ h => absurd h List.not_mem_nil⟩, fun _ h => absurd h List.not_mem_nil, List.forall_mem_cons.mpr ⟨fun M hM => Option.some.inj (show some q880_M = some M from hM) ▸ wlkV (lkX12_474 h) q880_M rfl rfl, fun _ h => absurd h List.not_mem_nil⟩, fun _ h => absurd h List.not_mem_nil, fun _ h => absurd h List.not_mem_nil⟩ dkX12_redo (by decide +kernel) (by rw [h.2.2.1]; exact q931_ok)
/-- NearSpellModel.redo -/
def q932_M : rfM := ((⟨"NearSpellModel", "redo", "()Z"⟩, prog_14_method_114_code, 1, (some .boolean)), (1,22), ([.inr (.inl [114])],[((114,55),(0,30,1),none),((114,56),(10,10,0),none)]), [(90,0),(105,0),(114,56),(114,57)], [(some (.inl ((1,1,0),none)),[],[((114,55),(1,31,1),some ((114,55),1,1)),((114,56),(9,9,0),some ((114,56),(-1),(-1)))])])
def q932_P : rfP := (flX12,csX12,lcX12,spX12,[q880_M],[],[(474,0,12)],([],[]))
def q932_U : rfU := []
set_option maxHeartbeats 8000000 in
def q932_N : List rfB := [(0,([(0,.inr (.inl [114]))],[],[((114,55),(0,30,1),some ((114,55),0,0)),((114,56),(10,10,0),some ((114,56),0,0))]),(18,[]),0)]
set_option maxRecDepth 100000 in
theorem q932_ok : rf_chkB q932_P q932_U wLay q932_M ddX12_redo [(10,[0])] [] [0] 600 q932_N = true := by decide +kernel
set_option maxHeartbeats 4000000 in
theorem q932_met {G : rfG} (h : okG G) : rf_met G q932_M := rf_methodB h.1 (P := q932_P) (U := q932_U) (N := q932_N) ⟨wflT h flokX12, wcsT h csokX12, wlcT h lcokX12, spokX12 h, List.forall_mem_cons.mpr ⟨q880_met h, fun _ h => absurd h List.not_mem_nil⟩, fun _ h => absurd h List.not_mem_nil, List.forall_mem_cons.mpr ⟨fun M hM => Option.some.inj (show some q880_M = some M from hM) ▸ wlkV (lkX12_474 h) q880_M rfl rfl, fun _ h => absurd h List.not_mem_nil⟩, fun _ h => absurd h List.not_mem_nil, fun _ h => absurd h List.not_mem_nil⟩ dkX12_redo (by decide +kernel) (by rw [h.2.2.1]; exact q932_ok)
/-- NearSpellModel.redo -/
def q933_M : rfM := ((⟨"NearSpellModel", "redo", "()Z"⟩, prog_14_method_114_code, 1, (some .boolean)), (1,22), ([.inr (.inl [114])],[((114,55),(0,29,1),none),((114,56),(11,11,0),none)]), [(90,0),(105,0),(114,56),(114,57)], [(some (.inl ((1,1,0),none)),[],[((114,55),(1,30,1),some ((114,55),1,1)),((114,56),(10,10,0),some ((114,56),(-1),(-1)))])])
def q933_P : rfP := (flX12,csX12,lcX12,spX12,[q880_M],[],[(474,0,12)],([],[]))
def q933_U : rfU := []
set_option maxHeartbeats 8000000 in
def q933_N : List rfB := [(0,([(0,.inr (.inl [114]))],[],[((114,55),(0,29,1),some ((114,55),0,0)),((114,56),(11,11,0),some ((114,56),0,0))]),(18,[]),0)]
set_option maxRecDepth 100000 in
theorem q933_ok : rf_chkB q933_P q933_U wLay q933_M ddX12_redo [(10,[0])] [] [0] 600 q933_N = true := by decide +kernel
set_option maxHeartbeats 4000000 in
theorem q933_met {G : rfG} (h : okG G) : rf_met G q933_M := rf_methodB h.1 (P := q933_P) (U := q933_U) (N := q933_N) ⟨wflT h flokX12, wcsT h csokX12, wlcT h lcokX12, spokX12 h, List.forall_mem_cons.mpr ⟨q880_met h, fun _ h => absurd h List.not_mem_nil⟩, fun _ h => absurd h List.not_mem_nil, List.forall_mem_cons.mpr ⟨fun M hM => Option.some.inj (show some q880_M = some M from hM) ▸ wlkV (lkX12_474 h) q880_M rfl rfl, fun _ h => absurd h List.not_mem_nil⟩, fun _ h => absurd h List.not_mem_nil, fun _ h => absurd h List.not_mem_nil⟩ dkX12_redo (by decide +kernel) (by rw [h.2.2.1]; exact q933_ok)
/-- NearSpellModel.redo -/
def q934_M : rfM := ((⟨"NearSpellModel", "redo", "()Z"⟩, prog_14_method_114_code, 1, (some .boolean)), (1,22), ([.inr (.inl [114])],[((114,55),(0,28,1),none),((114,56),(12,12,0),none)]), [(90,0),(105,0),(114,56),(114,57)], [(some (.inl ((1,1,0),none)),[],[((114,55),(1,29,1),some ((114,55),1,1)),((114,56),(11,11,0),some ((114,56),(-1),(-1)))])])
def q934_P : rfP := (flX12,csX12,lcX12,spX12,[q880_M],[],[(474,0,12)],([],[]))
def q934_U : rfU := []
set_option maxHeartbeats 8000000 in
def q934_N : List rfB := [(0,([(0,.inr (.inl [114]))],[],[((114,55),(0,28,1),some ((114,55),0,0)),((114,56),(12,12,0),some ((114,56),0,0))]),(18,[]),0)]
set_option maxRecDepth 100000 in
theorem q934_ok : rf_chkB q934_P q934_U wLay q934_M ddX12_redo [(10,[0])] [] [0] 600 q934_N = true := by decide +kernel
set_option maxHeartbeats 4000000 in
theorem q934_met {G : rfG} (h : okG G) : rf_met G q934_M := rf_methodB h.1 (P := q934_P) (U := q934_U) (N := q934_N) ⟨wflT h flokX12, wcsT h csokX12, wlcT h lcokX12, spokX12 h, List.forall_mem_cons.mpr ⟨q880_met h, fun _ h => absurd h List.not_mem_nil⟩, fun _ h => absurd h List.not_mem_nil, List.forall_mem_cons.mpr ⟨fun M hM => Option.some.inj (show some q880_M = some M from hM) ▸ wlkV (lkX12_474 h) q880_M rfl rfl, fun _ h => absurd h List.not_mem_nil⟩, fun _ h => absurd h List.not_mem_nil, fun _ h => absurd h List.not_mem_nil⟩ dkX12_redo (by decide +kernel) (by rw [h.2.2.1]; exact q934_ok)
/-- NearSpellModel.redo -/
def q935_M : rfM := ((⟨"NearSpellModel", "redo", "()Z"⟩, prog_14_method_114_code, 1, (some .boolean)), (1,22), ([.inr (.inl [114])],[((114,55),(0,27,1),none),((114,56),(13,13,0),none)]), [(90,0),(105,0),(114,56),(114,57)], [(some (.inl ((1,1,0),none)),[],[((114,55),(1,28,1),some ((114,55),1,1)),((114,56),(12,12,0),some ((114,56),(-1),(-1)))])])
def q935_P : rfP := (flX12,csX12,lcX12,spX12,[q880_M],[],[(474,0,12)],([],[]))
def q935_U : rfU := []
set_option maxHeartbeats 8000000 in
def q935_N : List rfB := [(0,([(0,.inr (.inl [114]))],[],[((114,55),(0,27,1),some ((114,55),0,0)),((114,56),(13,13,0),some ((114,56),0,0))]),(18,[]),0)]
set_option maxRecDepth 100000 in
theorem q935_ok : rf_chkB q935_P q935_U wLay q935_M ddX12_redo [(10,[0])] [] [0] 600 q935_N = true := by decide +kernel
set_option maxHeartbeats 4000000 in
theorem q935_met {G : rfG} (h : okG G) : rf_met G q935_M := rf_methodB h.1 (P := q935_P) (U := q935_U) (N := q935_N) ⟨wflT h flokX12, wcsT h csokX12, wlcT h lcokX12, spokX12 h, List.forall_mem_cons.mpr ⟨q880_met h, fun _ h => absurd h List.not_mem_nil⟩, fun _ h => absurd h List.not_mem_nil, List.forall_mem_cons.mpr ⟨fun M hM => Option.some.inj (show some q880_M = some M from hM) ▸ wlkV (lkX12_474 h) q880_M rfl rfl, fun _ h => absurd h List.not_mem_nil⟩, fun _ h => absurd h List.not_mem_nil, fun _ h => absurd h List.not_mem_nil⟩ dkX12_redo (by decide +kernel) (by rw [h.2.2.1]; exact q935_ok)
/-- NearSpellModel.redo -/
def q936_M : rfM := ((⟨"NearSpellModel", "redo", "()Z"⟩, prog_14_method_114_code, 1, (some .boolean)), (1,22), ([.inr (.inl [114])],[((114,55),(0,26,1),none),((114,56),(14,14,0),none)]), [(90,0),(105,0),(114,56),(114,57)], [(some (.inl ((1,1,0),none)),[],[((114,55),(1,27,1),some ((114,55),1,1)),((114,56),(13,13,0),some ((114,56),(-1),(-1)))])])
def q936_P : rfP := (flX12,csX12,lcX12,spX12,[q880_M],[],[(474,0,12)],([],[]))
def q936_U : rfU := []
set_option maxHeartbeats 8000000 in
def q936_N : List rfB := [(0,([(0,.inr (.inl [114]))],[],[((114,55),(0,26,1),some ((114,55),0,0)),((114,56),(14,14,0),some ((114,56),0,0))]),(18,[]),0)]
set_option maxRecDepth 100000 in
theorem q936_ok : rf_chkB q936_P q936_U wLay q936_M ddX12_redo [(10,[0])] [] [0] 600 q936_N = true := by decide +kernel
set_option maxHeartbeats 4000000 in
theorem q936_met {G : rfG} (h : okG G) : rf_met G q936_M := rf_methodB h.1 (P := q936_P) (U := q936_U) (N := q936_N) ⟨wflT h flokX12, wcsT h csokX12, wlcT h lcokX12, spokX12 h, List.forall_mem_cons.mpr ⟨q880_met h, fun _ h => absurd h List.not_mem_nil⟩, fun _ h => absurd h List.not_mem_nil, List.forall_mem_cons.mpr ⟨fun M hM => Option.some.inj (show some q880_M = some M from hM) ▸ wlkV (lkX12_474 h) q880_M rfl rfl, fun _ h => absurd h List.not_mem_nil⟩, fun _ h => absurd h List.not_mem_nil, fun _ h => absurd h List.not_mem_nil⟩ dkX12_redo (by decide +kernel) (by rw [h.2.2.1]; exact q936_ok)
/-- NearSpellModel.redo -/
def q937_M : rfM := ((⟨"NearSpellModel", "redo", "()Z"⟩, prog_14_method_114_code, 1, (some .boolean)), (1,22), ([.inr (.inl [114])],[((114,55),(0,25,1),none),((114,56),(15,15,0),none)]), [(90,0),(105,0),(114,56),(114,57)], [(some (.inl ((1,1,0),none)),[],[((114,55),(1,26,1),some ((114,55),1,1)),((114,56),(14,14,0),some ((114,56),(-1),(-1)))])])
def q937_P : rfP := (flX12,csX12,lcX12,spX12,[q880_M],[],[(474,0,12)],([],[]))
def q937_U : rfU := []
set_option maxHeartbeats 8000000 in
def q937_N : List rfB := [(0,([(0,.inr (.inl [114]))],[],[((114,55),(0,25,1),some ((114,55),0,0)),((114,56),(15,15,0),some ((114,56),0,0))]),(18,[]),0)]
set_option maxRecDepth 100000 in
theorem q937_ok : rf_chkB q937_P q937_U wLay q937_M ddX12_redo [(10,[0])] [] [0] 600 q937_N = true := by decide +kernel
set_option maxHeartbeats 4000000 in
theorem q937_met {G : rfG} (h : okG G) : rf_met G q937_M := rf_methodB h.1 (P := q937_P) (U := q937_U) (N := q937_N) ⟨wflT h flokX12, wcsT h csokX12, wlcT h lcokX12, spokX12 h, List.forall_mem_cons.mpr ⟨q880_met h, fun _ h => absurd h List.not_mem_nil⟩, fun _ h => absurd h List.not_mem_nil, List.forall_mem_cons.mpr ⟨fun M hM => Option.some.inj (show some q880_M = some M from hM) ▸ wlkV (lkX12_474 h) q880_M rfl rfl, fun _ h => absurd h List.not_mem_nil⟩, fun _ h => absurd h List.not_mem_nil, fun _ h => absurd h List.not_mem_nil⟩ dkX12_redo (by decide +kernel) (by rw [h.2.2.1]; exact q937_ok)
/-- NearSpellModel.redo -/
def q938_M : rfM := ((⟨"NearSpellModel", "redo", "()Z"⟩, prog_14_method_114_code, 1, (some .boolean)), (1,22), ([.inr (.inl [114])],[((114,55),(0,24,1),none),((114,56),(16,16,0),none)]), [(90,0),(105,0),(114,56),(114,57)], [(some (.inl ((1,1,0),none)),[],[((114,55),(1,25,1),some ((114,55),1,1)),((114,56),(15,15,0),some ((114,56),(-1),(-1)))])])
def q938_P : rfP := (flX12,csX12,lcX12,spX12,[q880_M],[],[(474,0,12)],([],[]))
def q938_U : rfU := []
set_option maxHeartbeats 8000000 in
def q938_N : List rfB := [(0,([(0,.inr (.inl [114]))],[],[((114,55),(0,24,1),some ((114,55),0,0)),((114,56),(16,16,0),some ((114,56),0,0))]),(18,[]),0)]
set_option maxRecDepth 100000 in
theorem q938_ok : rf_chkB q938_P q938_U wLay q938_M ddX12_redo [(10,[0])] [] [0] 600 q938_N = true := by decide +kernel
set_option maxHeartbeats 4000000 in
theorem q938_met {G : rfG} (h : okG G) : rf_met G q938_M := rf_methodB h.1 (P := q938_P) (U := q938_U) (N := q938_N) ⟨wflT h flokX12, wcsT h csokX12, wlcT h lcokX12, spokX12 h, List.forall_mem_cons.mpr ⟨q880_met h, fun _ h => absurd h List.not_mem_nil⟩, fun _ h => absurd h List.not_mem_nil, List.forall_mem_cons.mpr ⟨fun M hM => Option.some.inj (show some q880_M = some M from hM) ▸ wlkV (lkX12_474 h) q880_M rfl rfl, fun _ h => absurd h List.not_mem_nil⟩, fun _ h => absurd h List.not_mem_nil, fun _ h => absurd h List.not_mem_nil⟩ dkX12_redo (by decide +kernel) (by rw [h.2.2.1]; exact q938_ok)
/-- NearSpellModel.redo -/
def q939_M : rfM := ((⟨"NearSpellModel", "redo", "()Z"⟩, prog_14_method_114_code, 1, (some .boolean)), (1,22), ([.inr (.inl [114])],[((114,55),(0,23,1),none),((114,56),(17,17,0),none)]), [(90,0),(105,0),(114,56),(114,57)], [(some (.inl ((1,1,0),none)),[],[((114,55),(1,24,1),some ((114,55),1,1)),((114,56),(16,16,0),some ((114,56),(-1),(-1)))])])
def q939_P : rfP := (flX12,csX12,lcX12,spX12,[q880_M],[],[(474,0,12)],([],[]))
def q939_U : rfU := []
set_option maxHeartbeats 8000000 in
def q939_N : List rfB := [(0,([(0,.inr (.inl [114]))],[],[((114,55),(0,23,1),some ((114,55),0,0)),((114,56),(17,17,0),some ((114,56),0,0))]),(18,[]),0)]
set_option maxRecDepth 100000 in
theorem q939_ok : rf_chkB q939_P q939_U wLay q939_M ddX12_redo [(10,[0])] [] [0] 600 q939_N = true := by decide +kernel
set_option maxHeartbeats 4000000 in
theorem q939_met {G : rfG} (h : okG G) : rf_met G q939_M := rf_methodB h.1 (P := q939_P) (U := q939_U) (N := q939_N) ⟨wflT h flokX12, wcsT h csokX12, wlcT h lcokX12, spokX12 h, List.forall_mem_cons.mpr ⟨q880_met h, fun _ h => absurd h List.not_mem_nil⟩, fun _ h => absurd h List.not_mem_nil, List.forall_mem_cons.mpr ⟨fun M hM => Option.some.inj (show some q880_M = some M from hM) ▸ wlkV (lkX12_474 h) q880_M rfl rfl, fun _ h => absurd h List.not_mem_nil⟩, fun _ h => absurd h List.not_mem_nil, fun _ h => absurd h List.not_mem_nil⟩ dkX12_redo (by decide +kernel) (by rw [h.2.2.1]; exact q939_ok)
/-- NearSpellModel.redo -/
def q940_M : rfM := ((⟨"NearSpellModel", "redo", "()Z"⟩, prog_14_method_114_code, 1, (some .boolean)), (1,22), ([.inr (.inl [114])],[((114,55),(0,22,1),none),((114,56),(18,18,0),none)]), [(90,0),(105,0),(114,56),(114,57)], [(some (.inl ((1,1,0),none)),[],[((114,55),(1,23,1),some ((114,55),1,1)),((114,56),(17,17,0),some ((114,56),(-1),(-1)))])])
def q940_P : rfP := (flX12,csX12,lcX12,spX12,[q880_M],[],[(474,0,12)],([],[]))
def q940_U : rfU := []
set_option maxHeartbeats 8000000 in
def q940_N : List rfB := [(0,([(0,.inr (.inl [114]))],[],[((114,55),(0,22,1),some ((114,55),0,0)),((114,56),(18,18,0),some ((114,56),0,0))]),(18,[]),0)]
set_option maxRecDepth 100000 in
theorem q940_ok : rf_chkB q940_P q940_U wLay q940_M ddX12_redo [(10,[0])] [] [0] 600 q940_N = true := by decide +kernel
set_option maxHeartbeats 4000000 in
theorem q940_met {G : rfG} (h : okG G) : rf_met G q940_M := rf_methodB h.1 (P := q940_P) (U := q940_U) (N := q940_N) ⟨wflT h flokX12, wcsT h csokX12, wlcT h lcokX12, spokX12 h, List.forall_mem_cons.mpr ⟨q880_met h, fun _ h => absurd h List.not_mem_nil⟩, fun _ h => absurd h List.not_mem_nil, List.forall_mem_cons.mpr ⟨fun M hM => Option.some.inj (show some q880_M = some M from hM) ▸ wlkV (lkX12_474 h) q880_M rfl rfl, fun _ h => absurd h List.not_mem_nil⟩, fun _ h => absurd h List.not_mem_nil, fun _ h => absurd h List.not_mem_nil⟩ dkX12_redo (by decide +kernel) (by rw [h.2.2.1]; exact q940_ok)
/-- NearSpellModel.redo -/
def q941_M : rfM := ((⟨"NearSpellModel", "redo", "()Z"⟩, prog_14_method_114_code, 1, (some .boolean)), (1,22), ([.inr (.inl [114])],[((114,55),(0,21,1),none),((114,56),(19,19,0),none)]), [(90,0),(105,0),(114,56),(114,57)], [(some (.inl ((1,1,0),none)),[],[((114,55),(1,22,1),some ((114,55),1,1)),((114,56),(18,18,0),some ((114,56),(-1),(-1)))])])
def q941_P : rfP := (flX12,csX12,lcX12,spX12,[q880_M],[],[(474,0,12)],([],[]))
def q941_U : rfU := []
set_option maxHeartbeats 8000000 in
def q941_N : List rfB := [(0,([(0,.inr (.inl [114]))],[],[((114,55),(0,21,1),some ((114,55),0,0)),((114,56),(19,19,0),some ((114,56),0,0))]),(18,[]),0)]
set_option maxRecDepth 100000 in
theorem q941_ok : rf_chkB q941_P q941_U wLay q941_M ddX12_redo [(10,[0])] [] [0] 600 q941_N = true := by decide +kernel
set_option maxHeartbeats 4000000 in
theorem q941_met {G : rfG} (h : okG G) : rf_met G q941_M := rf_methodB h.1 (P := q941_P) (U := q941_U) (N := q941_N) ⟨wflT h flokX12, wcsT h csokX12, wlcT h lcokX12, spokX12 h, List.forall_mem_cons.mpr ⟨q880_met h, fun _ h => absurd h List.not_mem_nil⟩, fun _ h => absurd h List.not_mem_nil, List.forall_mem_cons.mpr ⟨fun M hM => Option.some.inj (show some q880_M = some M from hM) ▸ wlkV (lkX12_474 h) q880_M rfl rfl, fun _ h => absurd h List.not_mem_nil⟩, fun _ h => absurd h List.not_mem_nil, fun _ h => absurd h List.not_mem_nil⟩ dkX12_redo (by decide +kernel) (by rw [h.2.2.1]; exact q941_ok)
/-- NearSpellModel.redo -/
def q942_M : rfM := ((⟨"NearSpellModel", "redo", "()Z"⟩, prog_14_method_114_code, 1, (some .boolean)), (1,22), ([.inr (.inl [114])],[((114,55),(0,20,1),none),((114,56),(20,20,0),none)]), [(90,0),(105,0),(114,56),(114,57)], [(some (.inl ((1,1,0),none)),[],[((114,55),(1,21,1),some ((114,55),1,1)),((114,56),(19,19,0),some ((114,56),(-1),(-1)))])])
def q942_P : rfP := (flX12,csX12,lcX12,spX12,[q880_M],[],[(474,0,12)],([],[]))
def q942_U : rfU := []
set_option maxHeartbeats 8000000 in
def q942_N : List rfB := [(0,([(0,.inr (.inl [114]))],[],[((114,55),(0,20,1),some ((114,55),0,0)),((114,56),(20,20,0),some ((114,56),0,0))]),(18,[]),0)]
set_option maxRecDepth 100000 in
theorem q942_ok : rf_chkB q942_P q942_U wLay q942_M ddX12_redo [(10,[0])] [] [0] 600 q942_N = true := by decide +kernel
set_option maxHeartbeats 4000000 in
theorem q942_met {G : rfG} (h : okG G) : rf_met G q942_M := rf_methodB h.1 (P := q942_P) (U := q942_U) (N := q942_N) ⟨wflT h flokX12, wcsT h csokX12, wlcT h lcokX12, spokX12 h, List.forall_mem_cons.mpr ⟨q880_met h, fun _ h => absurd h List.not_mem_nil⟩, fun _ h => absurd h List.not_mem_nil, List.forall_mem_cons.mpr ⟨fun M hM => Option.some.inj (show some q880_M = some M from hM) ▸ wlkV (lkX12_474 h) q880_M rfl rfl, fun _ h => absurd h List.not_mem_nil⟩, fun _ h => absurd h List.not_mem_nil, fun _ h => absurd h List.not_mem_nil⟩ dkX12_redo (by decide +kernel) (by rw [h.2.2.1]; exact q942_ok)
/-- NearSpellModel.redo -/
def q943_M : rfM := ((⟨"NearSpellModel", "redo", "()Z"⟩, prog_14_method_114_code, 1, (some .boolean)), (1,22), ([.inr (.inl [114])],[((114,55),(0,19,1),none),((114,56),(21,21,0),none)]), [(90,0),(105,0),(114,56),(114,57)], [(some (.inl ((1,1,0),none)),[],[((114,55),(1,20,1),some ((114,55),1,1)),((114,56),(20,20,0),some ((114,56),(-1),(-1)))])])
def q943_P : rfP := (flX12,csX12,lcX12,spX12,[q880_M],[],[(474,0,12)],([],[]))
def q943_U : rfU := []
set_option maxHeartbeats 8000000 in
def q943_N : List rfB := [(0,([(0,.inr (.inl [114]))],[],[((114,55),(0,19,1),some ((114,55),0,0)),((114,56),(21,21,0),some ((114,56),0,0))]),(18,[]),0)]
set_option maxRecDepth 100000 in
theorem q943_ok : rf_chkB q943_P q943_U wLay q943_M ddX12_redo [(10,[0])] [] [0] 600 q943_N = true := by decide +kernel
set_option maxHeartbeats 4000000 in
theorem q943_met {G : rfG} (h : okG G) : rf_met G q943_M := rf_methodB h.1 (P := q943_P) (U := q943_U) (N := q943_N) ⟨wflT h flokX12, wcsT h csokX12, wlcT h lcokX12, spokX12 h, List.forall_mem_cons.mpr ⟨q880_met h, fun _ h => absurd h List.not_mem_nil⟩, fun _ h => absurd h List.not_mem_nil, List.forall_mem_cons.mpr ⟨fun M hM => Option.some.inj (show some q880_M = some M from hM) ▸ wlkV (lkX12_474 h) q880_M rfl rfl, fun _ h => absurd h List.not_mem_nil⟩, fun _ h => absurd h List.not_mem_nil, fun _ h => absurd h List.not_mem_nil⟩ dkX12_redo (by decide +kernel) (by rw [h.2.2.1]; exact q943_ok)
/-- NearSpellModel.redo -/
def q944_M : rfM := ((⟨"NearSpellModel", "redo", "()Z"⟩, prog_14_method_114_code, 1, (some .boolean)), (1,22), ([.inr (.inl [114])],[((114,55),(0,18,1),none),((114,56),(22,22,0),none)]), [(90,0),(105,0),(114,56),(114,57)], [(some (.inl ((1,1,0),none)),[],[((114,55),(1,19,1),some ((114,55),1,1)),((114,56),(21,21,0),some ((114,56),(-1),(-1)))])])
def q944_P : rfP := (flX12,csX12,lcX12,spX12,[q880_M],[],[(474,0,12)],([],[]))
def q944_U : rfU := []
set_option maxHeartbeats 8000000 in
def q944_N : List rfB := [(0,([(0,.inr (.inl [114]))],[],[((114,55),(0,18,1),some ((114,55),0,0)),((114,56),(22,22,0),some ((114,56),0,0))]),(18,[]),0)]
set_option maxRecDepth 100000 in
theorem q944_ok : rf_chkB q944_P q944_U wLay q944_M ddX12_redo [(10,[0])] [] [0] 600 q944_N = true := by decide +kernel
set_option maxHeartbeats 4000000 in
theorem q944_met {G : rfG} (h : okG G) : rf_met G q944_M := rf_methodB h.1 (P := q944_P) (U := q944_U) (N := q944_N) ⟨wflT h flokX12, wcsT h csokX12, wlcT h lcokX12, spokX12 h, List.forall_mem_cons.mpr ⟨q880_met h, fun _ h => absurd h List.not_mem_nil⟩, fun _ h => absurd h List.not_mem_nil, List.forall_mem_cons.mpr ⟨fun M hM => Option.some.inj (show some q880_M = some M from hM) ▸ wlkV (lkX12_474 h) q880_M rfl rfl, fun _ h => absurd h List.not_mem_nil⟩, fun _ h => absurd h List.not_mem_nil, fun _ h => absurd h List.not_mem_nil⟩ dkX12_redo (by decide +kernel) (by rw [h.2.2.1]; exact q944_ok)
/-- NearSpellModel.redo -/
def q945_M : rfM := ((⟨"NearSpellModel", "redo", "()Z"⟩, prog_14_method_114_code, 1, (some .boolean)), (1,22), ([.inr (.inl [114])],[((114,55),(0,17,1),none),((114,56),(23,23,0),none)]), [(90,0),(105,0),(114,56),(114,57)], [(some (.inl ((1,1,0),none)),[],[((114,55),(1,18,1),some ((114,55),1,1)),((114,56),(22,22,0),some ((114,56),(-1),(-1)))])])
def q945_P : rfP := (flX12,csX12,lcX12,spX12,[q880_M],[],[(474,0,12)],([],[]))
def q945_U : rfU := []
set_option maxHeartbeats 8000000 in
def q945_N : List rfB := [(0,([(0,.inr (.inl [114]))],[],[((114,55),(0,17,1),some ((114,55),0,0)),((114,56),(23,23,0),some ((114,56),0,0))]),(18,[]),0)]
set_option maxRecDepth 100000 in
theorem q945_ok : rf_chkB q945_P q945_U wLay q945_M ddX12_redo [(10,[0])] [] [0] 600 q945_N = true := by decide +kernel
set_option maxHeartbeats 4000000 in
theorem q945_met {G : rfG} (h : okG G) : rf_met G q945_M := rf_methodB h.1 (P := q945_P) (U := q945_U) (N := q945_N) ⟨wflT h flokX12, wcsT h csokX12, wlcT h lcokX12, spokX12 h, List.forall_mem_cons.mpr ⟨q880_met h, fun _ h => absurd h List.not_mem_nil⟩, fun _ h => absurd h List.not_mem_nil, List.forall_mem_cons.mpr ⟨fun M hM => Option.some.inj (show some q880_M = some M from hM) ▸ wlkV (lkX12_474 h) q880_M rfl rfl, fun _ h => absurd h List.not_mem_nil⟩, fun _ h => absurd h List.not_mem_nil, fun _ h => absurd h List.not_mem_nil⟩ dkX12_redo (by decide +kernel) (by rw [h.2.2.1]; exact q945_ok)
/-- NearSpellModel.redo -/
def q946_M : rfM := ((⟨"NearSpellModel", "redo", "()Z"⟩, prog_14_method_114_code, 1, (some .boolean)), (1,22), ([.inr (.inl [114])],[((114,55),(0,16,1),none),((114,56),(24,24,0),none)]), [(90,0),(105,0),(114,56),(114,57)], [(some (.inl ((1,1,0),none)),[],[((114,55),(1,17,1),some ((114,55),1,1)),((114,56),(23,23,0),some ((114,56),(-1),(-1)))])])
def q946_P : rfP := (flX12,csX12,lcX12,spX12,[q880_M],[],[(474,0,12)],([],[]))
def q946_U : rfU := []
set_option maxHeartbeats 8000000 in
def q946_N : List rfB := [(0,([(0,.inr (.inl [114]))],[],[((114,55),(0,16,1),some ((114,55),0,0)),((114,56),(24,24,0),some ((114,56),0,0))]),(18,[]),0)]
set_option maxRecDepth 100000 in
theorem q946_ok : rf_chkB q946_P q946_U wLay q946_M ddX12_redo [(10,[0])] [] [0] 600 q946_N = true := by decide +kernel
set_option maxHeartbeats 4000000 in
theorem q946_met {G : rfG} (h : okG G) : rf_met G q946_M := rf_methodB h.1 (P := q946_P) (U := q946_U) (N := q946_N) ⟨wflT h flokX12, wcsT h csokX12, wlcT h lcokX12, spokX12 h, List.forall_mem_cons.mpr ⟨q880_met h, fun _ h => absurd h List.not_mem_nil⟩, fun _ h => absurd h List.not_mem_nil, List.forall_mem_cons.mpr ⟨fun M hM => Option.some.inj (show some q880_M = some M from hM) ▸ wlkV (lkX12_474 h) q880_M rfl rfl, fun _ h => absurd h List.not_mem_nil⟩, fun _ h => absurd h List.not_mem_nil, fun _ h => absurd h List.not_mem_nil⟩ dkX12_redo (by decide +kernel) (by rw [h.2.2.1]; exact q946_ok)
/-- NearSpellModel.redo -/
def q947_M : rfM := ((⟨"NearSpellModel", "redo", "()Z"⟩, prog_14_method_114_code, 1, (some .boolean)), (1,22), ([.inr (.inl [114])],[((114,55),(0,15,1),none),((114,56),(25,25,0),none)]), [(90,0),(105,0),(114,56),(114,57)], [(some (.inl ((1,1,0),none)),[],[((114,55),(1,16,1),some ((114,55),1,1)),((114,56),(24,24,0),some ((114,56),(-1),(-1)))])])
def q947_P : rfP := (flX12,csX12,lcX12,spX12,[q880_M],[],[(474,0,12)],([],[]))
def q947_U : rfU := []
set_option maxHeartbeats 8000000 in
def q947_N : List rfB := [(0,([(0,.inr (.inl [114]))],[],[((114,55),(0,15,1),some ((114,55),0,0)),((114,56),(25,25,0),some ((114,56),0,0))]),(18,[]),0)]
set_option maxRecDepth 100000 in
theorem q947_ok : rf_chkB q947_P q947_U wLay q947_M ddX12_redo [(10,[0])] [] [0] 600 q947_N = true := by decide +kernel
set_option maxHeartbeats 4000000 in
theorem q947_met {G : rfG} (h : okG G) : rf_met G q947_M := rf_methodB h.1 (P := q947_P) (U := q947_U) (N := q947_N) ⟨wflT h flokX12, wcsT h csokX12, wlcT h lcokX12, spokX12 h, List.forall_mem_cons.mpr ⟨q880_met h, fun _ h => absurd h List.not_mem_nil⟩, fun _ h => absurd h List.not_mem_nil, List.forall_mem_cons.mpr ⟨fun M hM => Option.some.inj (show some q880_M = some M from hM) ▸ wlkV (lkX12_474 h) q880_M rfl rfl, fun _ h => absurd h List.not_mem_nil⟩, fun _ h => absurd h List.not_mem_nil, fun _ h => absurd h List.not_mem_nil⟩ dkX12_redo (by decide +kernel) (by rw [h.2.2.1]; exact q947_ok)
/-- NearSpellModel.redo -/
def q948_M : rfM := ((⟨"NearSpellModel", "redo", "()Z"⟩, prog_14_method_114_code, 1, (some .boolean)), (1,22), ([.inr (.inl [114])],[((114,55),(0,14,1),none),((114,56),(26,26,0),none)]), [(90,0),(105,0),(114,56),(114,57)], [(some (.inl ((1,1,0),none)),[],[((114,55),(1,15,1),some ((114,55),1,1)),((114,56),(25,25,0),some ((114,56),(-1),(-1)))])])
def q948_P : rfP := (flX12,csX12,lcX12,spX12,[q880_M],[],[(474,0,12)],([],[]))
def q948_U : rfU := []
set_option maxHeartbeats 8000000 in
def q948_N : List rfB := [(0,([(0,.inr (.inl [114]))],[],[((114,55),(0,14,1),some ((114,55),0,0)),((114,56),(26,26,0),some ((114,56),0,0))]),(18,[]),0)]
set_option maxRecDepth 100000 in
theorem q948_ok : rf_chkB q948_P q948_U wLay q948_M ddX12_redo [(10,[0])] [] [0] 600 q948_N = true := by decide +kernel
set_option maxHeartbeats 4000000 in
theorem q948_met {G : rfG} (h : okG G) : rf_met G q948_M := rf_methodB h.1 (P := q948_P) (U := q948_U) (N := q948_N) ⟨wflT h flokX12, wcsT h csokX12, wlcT h lcokX12, spokX12 h, List.forall_mem_cons.mpr ⟨q880_met h, fun _ h => absurd h List.not_mem_nil⟩, fun _ h => absurd h List.not_mem_nil, List.forall_mem_cons.mpr ⟨fun M hM => Option.some.inj (show some q880_M = some M from hM) ▸ wlkV (lkX12_474 h) q880_M rfl rfl, fun _ h => absurd h List.not_mem_nil⟩, fun _ h => absurd h List.not_mem_nil, fun _ h => absurd h List.not_mem_nil⟩ dkX12_redo (by decide +kernel) (by rw [h.2.2.1]; exact q948_ok)
/-- NearSpellModel.redo -/
def q949_M : rfM := ((⟨"NearSpellModel", "redo", "()Z"⟩, prog_14_method_114_code, 1, (some .boolean)), (1,22), ([.inr (.inl [114])],[((114,55),(0,13,1),none),((114,56),(27,27,0),none)]), [(90,0),(105,0),(114,56),(114,57)], [(some (.inl ((1,1,0),none)),[],[((114,55),(1,14,1),some ((114,55),1,1)),((114,56),(26,26,0),some ((114,56),(-1),(-1)))])])
def q949_P : rfP := (flX12,csX12,lcX12,spX12,[q880_M],[],[(474,0,12)],([],[]))
def q949_U : rfU := []
set_option maxHeartbeats 8000000 in
def q949_N : List rfB := [(0,([(0,.inr (.inl [114]))],[],[((114,55),(0,13,1),some ((114,55),0,0)),((114,56),(27,27,0),some ((114,56),0,0))]),(18,[]),0)]
set_option maxRecDepth 100000 in
theorem q949_ok : rf_chkB q949_P q949_U wLay q949_M ddX12_redo [(10,[0])] [] [0] 600 q949_N = true := by decide +kernel
set_option maxHeartbeats 4000000 in
theorem q949_met {G : rfG} (h : okG G) : rf_met G q949_M := rf_methodB h.1 (P := q949_P) (U := q949_U) (N := q949_N) ⟨wflT h flokX12, wcsT h csokX12, wlcT h lcokX12, spokX12 h, List.forall_mem_cons.mpr ⟨q880_met h, fun _ h => absurd h List.not_mem_nil⟩, fun _ h => absurd h List.not_mem_nil, List.forall_mem_cons.mpr ⟨fun M hM => Option.some.inj (show some q880_M = some M from hM) ▸ wlkV (lkX12_474 h) q880_M rfl rfl, fun _ h => absurd h List.not_mem_nil⟩, fun _ h => absurd h List.not_mem_nil, fun _ h => absurd h List.not_mem_nil⟩ dkX12_redo (by decide +kernel) (by rw [h.2.2.1]; exact q949_ok)
/-- NearSpellModel.redo -/
def q950_M : rfM := ((⟨"NearSpellModel", "redo", "()Z"⟩, prog_14_method_114_code, 1, (some .boolean)), (1,22), ([.inr (.inl [114])],[((114,55),(0,12,1),none),((114,56),(28,28,0),none)]), [(90,0),(105,0),(114,56),(114,57)], [(some (.inl ((1,1,0),none)),[],[((114,55),(1,13,1),some ((114,55),1,1)),((114,56),(27,27,0),some ((114,56),(-1),(-1)))])])
def q950_P : rfP := (flX12,csX12,lcX12,spX12,[q880_M],[],[(474,0,12)],([],[]))
def q950_U : rfU := []
set_option maxHeartbeats 8000000 in
def q950_N : List rfB := [(0,([(0,.inr (.inl [114]))],[],[((114,55),(0,12,1),some ((114,55),0,0)),((114,56),(28,28,0),some ((114,56),0,0))]),(18,[]),0)]
set_option maxRecDepth 100000 in
theorem q950_ok : rf_chkB q950_P q950_U wLay q950_M ddX12_redo [(10,[0])] [] [0] 600 q950_N = true := by decide +kernel
set_option maxHeartbeats 4000000 in
theorem q950_met {G : rfG} (h : okG G) : rf_met G q950_M := rf_methodB h.1 (P := q950_P) (U := q950_U) (N := q950_N) ⟨wflT h flokX12, wcsT h csokX12, wlcT h lcokX12, spokX12 h, List.forall_mem_cons.mpr ⟨q880_met h, fun _ h => absurd h List.not_mem_nil⟩, fun _ h => absurd h List.not_mem_nil, List.forall_mem_cons.mpr ⟨fun M hM => Option.some.inj (show some q880_M = some M from hM) ▸ wlkV (lkX12_474 h) q880_M rfl rfl, fun _ h => absurd h List.not_mem_nil⟩, fun _ h => absurd h List.not_mem_nil, fun _ h => absurd h List.not_mem_nil⟩ dkX12_redo (by decide +kernel) (by rw [h.2.2.1]; exact q950_ok)
/-- NearSpellModel.redo -/
def q951_M : rfM := ((⟨"NearSpellModel", "redo", "()Z"⟩, prog_14_method_114_code, 1, (some .boolean)), (1,22), ([.inr (.inl [114])],[((114,55),(0,11,1),none),((114,56),(29,29,0),none)]), [(90,0),(105,0),(114,56),(114,57)], [(some (.inl ((1,1,0),none)),[],[((114,55),(1,12,1),some ((114,55),1,1)),((114,56),(28,28,0),some ((114,56),(-1),(-1)))])])
def q951_P : rfP := (flX12,csX12,lcX12,spX12,[q880_M],[],[(474,0,12)],([],[]))
def q951_U : rfU := []
set_option maxHeartbeats 8000000 in
def q951_N : List rfB := [(0,([(0,.inr (.inl [114]))],[],[((114,55),(0,11,1),some ((114,55),0,0)),((114,56),(29,29,0),some ((114,56),0,0))]),(18,[]),0)]
set_option maxRecDepth 100000 in
theorem q951_ok : rf_chkB q951_P q951_U wLay q951_M ddX12_redo [(10,[0])] [] [0] 600 q951_N = true := by decide +kernel
set_option maxHeartbeats 4000000 in
theorem q951_met {G : rfG} (h : okG G) : rf_met G q951_M := rf_methodB h.1 (P := q951_P) (U := q951_U) (N := q951_N) ⟨wflT h flokX12, wcsT h csokX12, wlcT h lcokX12, spokX12 h, List.forall_mem_cons.mpr ⟨q880_met h, fun _ h => absurd h List.not_mem_nil⟩, fun _ h => absurd h List.not_mem_nil, List.forall_mem_cons.mpr ⟨fun M hM => Option.some.inj (show some q880_M = some M from hM) ▸ wlkV (lkX12_474 h) q880_M rfl rfl, fun _ h => absurd h List.not_mem_nil⟩, fun _ h => absurd h List.not_mem_nil, fun _ h => absurd h List.not_mem_nil⟩ dkX12_redo (by decide +kernel) (by rw [h.2.2.1]; exact q951_ok)
/-- NearSpellModel.redo -/
def q952_M : rfM := ((⟨"NearSpellModel", "redo", "()Z"⟩, prog_14_method_114_code, 1, (some .boolean)), (1,22), ([.inr (.inl [114])],[((114,55),(0,10,1),none),((114,56),(30,30,0),none)]), [(90,0),(105,0),(114,56),(114,57)], [(some (.inl ((1,1,0),none)),[],[((114,55),(1,11,1),some ((114,55),1,1)),((114,56),(29,29,0),some ((114,56),(-1),(-1)))])])
def q952_P : rfP := (flX12,csX12,lcX12,spX12,[q880_M],[],[(474,0,12)],([],[]))
def q952_U : rfU := []
set_option maxHeartbeats 8000000 in
def q952_N : List rfB := [(0,([(0,.inr (.inl [114]))],[],[((114,55),(0,10,1),some ((114,55),0,0)),((114,56),(30,30,0),some ((114,56),0,0))]),(18,[]),0)]
set_option maxRecDepth 100000 in
theorem q952_ok : rf_chkB q952_P q952_U wLay q952_M ddX12_redo [(10,[0])] [] [0] 600 q952_N = true := by decide +kernel
set_option maxHeartbeats 4000000 in
theorem q952_met {G : rfG} (h : okG G) : rf_met G q952_M := rf_methodB h.1 (P := q952_P) (U := q952_U) (N := q952_N) ⟨wflT h flokX12, wcsT h csokX12, wlcT h lcokX12, spokX12 h, List.forall_mem_cons.mpr ⟨q880_met h, fun _ h => absurd h List.not_mem_nil⟩, fun _ h => absurd h List.not_mem_nil, List.forall_mem_cons.mpr ⟨fun M hM => Option.some.inj (show some q880_M = some M from hM) ▸ wlkV (lkX12_474 h) q880_M rfl rfl, fun _ h => absurd h List.not_mem_nil⟩, fun _ h => absurd h List.not_mem_nil, fun _ h => absurd h List.not_mem_nil⟩ dkX12_redo (by decide +kernel) (by rw [h.2.2.1]; exact q952_ok)
/-- NearSpellModel.redo -/
def q953_M : rfM := ((⟨"NearSpellModel", "redo", "()Z"⟩, prog_14_method_114_code, 1, (some .boolean)), (1,22), ([.inr (.inl [114])],[((114,55),(0,9,1),none),((114,56),(31,31,0),none)]), [(90,0),(105,0),(114,56),(114,57)], [(some (.inl ((1,1,0),none)),[],[((114,55),(1,10,1),some ((114,55),1,1)),((114,56),(30,30,0),some ((114,56),(-1),(-1)))])])
def q953_P : rfP := (flX12,csX12,lcX12,spX12,[q880_M],[],[(474,0,12)],([],[]))
def q953_U : rfU := []
set_option maxHeartbeats 8000000 in
def q953_N : List rfB := [(0,([(0,.inr (.inl [114]))],[],[((114,55),(0,9,1),some ((114,55),0,0)),((114,56),(31,31,0),some ((114,56),0,0))]),(18,[]),0)]
set_option maxRecDepth 100000 in
theorem q953_ok : rf_chkB q953_P q953_U wLay q953_M ddX12_redo [(10,[0])] [] [0] 600 q953_N = true := by decide +kernel
set_option maxHeartbeats 4000000 in
theorem q953_met {G : rfG} (h : okG G) : rf_met G q953_M := rf_methodB h.1 (P := q953_P) (U := q953_U) (N := q953_N) ⟨wflT h flokX12, wcsT h csokX12, wlcT h lcokX12, spokX12 h, List.forall_mem_cons.mpr ⟨q880_met h, fun _ h => absurd h List.not_mem_nil⟩, fun _ h => absurd h List.not_mem_nil, List.forall_mem_cons.mpr ⟨fun M hM => Option.some.inj (show some q880_M = some M from hM) ▸ wlkV (lkX12_474 h) q880_M rfl rfl, fun _ h => absurd h List.not_mem_nil⟩, fun _ h => absurd h List.not_mem_nil, fun _ h => absurd h List.not_mem_nil⟩ dkX12_redo (by decide +kernel) (by rw [h.2.2.1]; exact q953_ok)
/-- NearSpellModel.redo -/
def q954_M : rfM := ((⟨"NearSpellModel", "redo", "()Z"⟩, prog_14_method_114_code, 1, (some .boolean)), (1,22), ([.inr (.inl [114])],[((114,55),(0,8,1),none),((114,56),(32,32,0),none)]), [(90,0),(105,0),(114,56),(114,57)], [(some (.inl ((1,1,0),none)),[],[((114,55),(1,9,1),some ((114,55),1,1)),((114,56),(31,31,0),some ((114,56),(-1),(-1)))])])
def q954_P : rfP := (flX12,csX12,lcX12,spX12,[q880_M],[],[(474,0,12)],([],[]))
def q954_U : rfU := []
set_option maxHeartbeats 8000000 in
def q954_N : List rfB := [(0,([(0,.inr (.inl [114]))],[],[((114,55),(0,8,1),some ((114,55),0,0)),((114,56),(32,32,0),some ((114,56),0,0))]),(18,[]),0)]
set_option maxRecDepth 100000 in
theorem q954_ok : rf_chkB q954_P q954_U wLay q954_M ddX12_redo [(10,[0])] [] [0] 600 q954_N = true := by decide +kernel
set_option maxHeartbeats 4000000 in
theorem q954_met {G : rfG} (h : okG G) : rf_met G q954_M := rf_methodB h.1 (P := q954_P) (U := q954_U) (N := q954_N) ⟨wflT h flokX12, wcsT h csokX12, wlcT h lcokX12, spokX12 h, List.forall_mem_cons.mpr ⟨q880_met h, fun _ h => absurd h List.not_mem_nil⟩, fun _ h => absurd h List.not_mem_nil, List.forall_mem_cons.mpr ⟨fun M hM => Option.some.inj (show some q880_M = some M from hM) ▸ wlkV (lkX12_474 h) q880_M rfl rfl, fun _ h => absurd h List.not_mem_nil⟩, fun _ h => absurd h List.not_mem_nil, fun _ h => absurd h List.not_mem_nil⟩ dkX12_redo (by decide +kernel) (by rw [h.2.2.1]; exact q954_ok)
/-- NearSpellModel.redo -/
def q955_M : rfM := ((⟨"NearSpellModel", "redo", "()Z"⟩, prog_14_method_114_code, 1, (some .boolean)), (1,22), ([.inr (.inl [114])],[((114,55),(0,7,1),none),((114,56),(33,33,0),none)]), [(90,0),(105,0),(114,56),(114,57)], [(some (.inl ((1,1,0),none)),[],[((114,55),(1,8,1),some ((114,55),1,1)),((114,56),(32,32,0),some ((114,56),(-1),(-1)))])])
def q955_P : rfP := (flX12,csX12,lcX12,spX12,[q880_M],[],[(474,0,12)],([],[]))
def q955_U : rfU := []
set_option maxHeartbeats 8000000 in
def q955_N : List rfB := [(0,([(0,.inr (.inl [114]))],[],[((114,55),(0,7,1),some ((114,55),0,0)),((114,56),(33,33,0),some ((114,56),0,0))]),(18,[]),0)]
set_option maxRecDepth 100000 in
theorem q955_ok : rf_chkB q955_P q955_U wLay q955_M ddX12_redo [(10,[0])] [] [0] 600 q955_N = true := by decide +kernel
set_option maxHeartbeats 4000000 in
theorem q955_met {G : rfG} (h : okG G) : rf_met G q955_M := rf_methodB h.1 (P := q955_P) (U := q955_U) (N := q955_N) ⟨wflT h flokX12, wcsT h csokX12, wlcT h lcokX12, spokX12 h, List.forall_mem_cons.mpr ⟨q880_met h, fun _ h => absurd h List.not_mem_nil⟩, fun _ h => absurd h List.not_mem_nil, List.forall_mem_cons.mpr ⟨fun M hM => Option.some.inj (show some q880_M = some M from hM) ▸ wlkV (lkX12_474 h) q880_M rfl rfl, fun _ h => absurd h List.not_mem_nil⟩, fun _ h => absurd h List.not_mem_nil, fun _ h => absurd h List.not_mem_nil⟩ dkX12_redo (by decide +kernel) (by rw [h.2.2.1]; exact q955_ok)
/-- NearSpellModel.redo -/
def q956_M : rfM := ((⟨"NearSpellModel", "redo", "()Z"⟩, prog_14_method_114_code, 1, (some .boolean)), (1,22), ([.inr (.inl [114])],[((114,55),(0,6,1),none),((114,56),(34,34,0),none)]), [(90,0),(105,0),(114,56),(114,57)], [(some (.inl ((1,1,0),none)),[],[((114,55),(1,7,1),some ((114,55),1,1)),((114,56),(33,33,0),some ((114,56),(-1),(-1)))])])
def q956_P : rfP := (flX12,csX12,lcX12,spX12,[q880_M],[],[(474,0,12)],([],[]))
def q956_U : rfU := []
set_option maxHeartbeats 8000000 in
def q956_N : List rfB := [(0,([(0,.inr (.inl [114]))],[],[((114,55),(0,6,1),some ((114,55),0,0)),((114,56),(34,34,0),some ((114,56),0,0))]),(18,[]),0)]
set_option maxRecDepth 100000 in
theorem q956_ok : rf_chkB q956_P q956_U wLay q956_M ddX12_redo [(10,[0])] [] [0] 600 q956_N = true := by decide +kernel
set_option maxHeartbeats 4000000 in
theorem q956_met {G : rfG} (h : okG G) : rf_met G q956_M := rf_methodB h.1 (P := q956_P) (U := q956_U) (N := q956_N) ⟨wflT h flokX12, wcsT h csokX12, wlcT h lcokX12, spokX12 h, List.forall_mem_cons.mpr ⟨q880_met h, fun _ h => absurd h List.not_mem_nil⟩, fun _ h => absurd h List.not_mem_nil, List.forall_mem_cons.mpr ⟨fun M hM => Option.some.inj (show some q880_M = some M from hM) ▸ wlkV (lkX12_474 h) q880_M rfl rfl, fun _ h => absurd h List.not_mem_nil⟩, fun _ h => absurd h List.not_mem_nil, fun _ h => absurd h List.not_mem_nil⟩ dkX12_redo (by decide +kernel) (by rw [h.2.2.1]; exact q956_ok)
/-- NearSpellModel.redo -/
def q957_M : rfM := ((⟨"NearSpellModel", "redo", "()Z"⟩, prog_14_method_114_code, 1, (some .boolean)), (1,22), ([.inr (.inl [114])],[((114,55),(0,5,1),none),((114,56),(35,35,0),none)]), [(90,0),(105,0),(114,56),(114,57)], [(some (.inl ((1,1,0),none)),[],[((114,55),(1,6,1),some ((114,55),1,1)),((114,56),(34,34,0),some ((114,56),(-1),(-1)))])])
def q957_P : rfP := (flX12,csX12,lcX12,spX12,[q880_M],[],[(474,0,12)],([],[]))
def q957_U : rfU := []
set_option maxHeartbeats 8000000 in
def q957_N : List rfB := [(0,([(0,.inr (.inl [114]))],[],[((114,55),(0,5,1),some ((114,55),0,0)),((114,56),(35,35,0),some ((114,56),0,0))]),(18,[]),0)]
set_option maxRecDepth 100000 in
theorem q957_ok : rf_chkB q957_P q957_U wLay q957_M ddX12_redo [(10,[0])] [] [0] 600 q957_N = true := by decide +kernel
set_option maxHeartbeats 4000000 in
theorem q957_met {G : rfG} (h : okG G) : rf_met G q957_M := rf_methodB h.1 (P := q957_P) (U := q957_U) (N := q957_N) ⟨wflT h flokX12, wcsT h csokX12, wlcT h lcokX12, spokX12 h, List.forall_mem_cons.mpr ⟨q880_met h, fun _ h => absurd h List.not_mem_nil⟩, fun _ h => absurd h List.not_mem_nil, List.forall_mem_cons.mpr ⟨fun M hM => Option.some.inj (show some q880_M = some M from hM) ▸ wlkV (lkX12_474 h) q880_M rfl rfl, fun _ h => absurd h List.not_mem_nil⟩, fun _ h => absurd h List.not_mem_nil, fun _ h => absurd h List.not_mem_nil⟩ dkX12_redo (by decide +kernel) (by rw [h.2.2.1]; exact q957_ok)
/-- NearSpellModel.redo -/
def q958_M : rfM := ((⟨"NearSpellModel", "redo", "()Z"⟩, prog_14_method_114_code, 1, (some .boolean)), (1,22), ([.inr (.inl [114])],[((114,55),(0,4,1),none),((114,56),(36,36,0),none)]), [(90,0),(105,0),(114,56),(114,57)], [(some (.inl ((1,1,0),none)),[],[((114,55),(1,5,1),some ((114,55),1,1)),((114,56),(35,35,0),some ((114,56),(-1),(-1)))])])
def q958_P : rfP := (flX12,csX12,lcX12,spX12,[q880_M],[],[(474,0,12)],([],[]))
def q958_U : rfU := []
set_option maxHeartbeats 8000000 in
def q958_N : List rfB := [(0,([(0,.inr (.inl [114]))],[],[((114,55),(0,4,1),some ((114,55),0,0)),((114,56),(36,36,0),some ((114,56),0,0))]),(18,[]),0)]
set_option maxRecDepth 100000 in
theorem q958_ok : rf_chkB q958_P q958_U wLay q958_M ddX12_redo [(10,[0])] [] [0] 600 q958_N = true := by decide +kernel
set_option maxHeartbeats 4000000 in
theorem q958_met {G : rfG} (h : okG G) : rf_met G q958_M := rf_methodB h.1 (P := q958_P) (U := q958_U) (N := q958_N) ⟨wflT h flokX12, wcsT h csokX12, wlcT h lcokX12, spokX12 h, List.forall_mem_cons.mpr ⟨q880_met h, fun _ h => absurd h List.not_mem_nil⟩, fun _ h => absurd h List.not_mem_nil, List.forall_mem_cons.mpr ⟨fun M hM => Option.some.inj (show some q880_M = some M from hM) ▸ wlkV (lkX12_474 h) q880_M rfl rfl, fun _ h => absurd h List.not_mem_nil⟩, fun _ h => absurd h List.not_mem_nil, fun _ h => absurd h List.not_mem_nil⟩ dkX12_redo (by decide +kernel) (by rw [h.2.2.1]; exact q958_ok)
/-- NearSpellModel.redo -/
def q959_M : rfM := ((⟨"NearSpellModel", "redo", "()Z"⟩, prog_14_method_114_code, 1, (some .boolean)), (1,22), ([.inr (.inl [114])],[((114,55),(0,3,1),none),((114,56),(37,37,0),none)]), [(90,0),(105,0),(114,56),(114,57)], [(some (.inl ((1,1,0),none)),[],[((114,55),(1,4,1),some ((114,55),1,1)),((114,56),(36,36,0),some ((114,56),(-1),(-1)))])])
def q959_P : rfP := (flX12,csX12,lcX12,spX12,[q880_M],[],[(474,0,12)],([],[]))
def q959_U : rfU := []
set_option maxHeartbeats 8000000 in
def q959_N : List rfB := [(0,([(0,.inr (.inl [114]))],[],[((114,55),(0,3,1),some ((114,55),0,0)),((114,56),(37,37,0),some ((114,56),0,0))]),(18,[]),0)]
set_option maxRecDepth 100000 in
theorem q959_ok : rf_chkB q959_P q959_U wLay q959_M ddX12_redo [(10,[0])] [] [0] 600 q959_N = true := by decide +kernel
set_option maxHeartbeats 4000000 in
theorem q959_met {G : rfG} (h : okG G) : rf_met G q959_M := rf_methodB h.1 (P := q959_P) (U := q959_U) (N := q959_N) ⟨wflT h flokX12, wcsT h csokX12, wlcT h lcokX12, spokX12 h, List.forall_mem_cons.mpr ⟨q880_met h, fun _ h => absurd h List.not_mem_nil⟩, fun _ h => absurd h List.not_mem_nil, List.forall_mem_cons.mpr ⟨fun M hM => Option.some.inj (show some q880_M = some M from hM) ▸ wlkV (lkX12_474 h) q880_M rfl rfl, fun _ h => absurd h List.not_mem_nil⟩, fun _ h => absurd h List.not_mem_nil, fun _ h => absurd h List.not_mem_nil⟩ dkX12_redo (by decide +kernel) (by rw [h.2.2.1]; exact q959_ok)
