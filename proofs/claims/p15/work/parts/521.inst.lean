/-- NearSpellModel.areFar -/
def q1063_M : rfM := ((⟨"NearSpellModel", "areFar", "(I)Z"⟩, prog_14_method_91_code, 3, (some .boolean)), (1,21), ([.inr (.inl [114]),.inl ((0,12,1),none)],[]), [], [(some (.inl ((0,0,0),none)),[],[]),(some (.inl ((1,1,0),none)),[],[])])
def q1063_P : rfP := (flX12,csX12,lcX12,spX12,[q684_M],[(251,0)],[],([],[]))
def q1063_U : rfU := []
set_option maxHeartbeats 8000000 in
def q1063_N : List rfB := [(0,([(0,.inr (.inl [114])),(1,.inl ((0,12,1),none))],[],[]),(320,[0]),0),
  (2,([(0,.inr (.inl [114])),(1,.inl ((0,12,1),none)),(2,.inl ((0,14,1),none))],[],[]),(316,[(-21)]),0),
  (32,([(0,.inr (.inl [114])),(1,.inl ((0,12,1),none)),(2,.inl ((0,13,1),none))],[],[]),(298,[(-21)]),0)]
set_option maxRecDepth 100000 in
theorem q1063_ok : rf_chkB q1063_P q1063_U wLay q1063_M ddX12_areFar [(10,[0])] [.inl 2] [0,2,32] 600 q1063_N = true := by decide +kernel
set_option maxHeartbeats 4000000 in
theorem q1063_met {G : rfG} (h : okG G) : rf_met G q1063_M := rf_methodB h.1 (P := q1063_P) (U := q1063_U) (N := q1063_N) ⟨wflT h flokX12, wcsT h csokX12, wlcT h lcokX12, spokX12 h, List.forall_mem_cons.mpr ⟨q684_met h, fun _ h => absurd h List.not_mem_nil⟩, List.forall_mem_cons.mpr ⟨fun M hM => Option.some.inj (show some q684_M = some M from hM) ▸ wlkS (lkX12_251 h) q684_M rfl rfl, fun _ h => absurd h List.not_mem_nil⟩, fun _ h => absurd h List.not_mem_nil, fun _ h => absurd h List.not_mem_nil, fun _ h => absurd h List.not_mem_nil⟩ dkX12_areFar (by decide +kernel) (by rw [h.2.2.1]; exact q1063_ok)
/-- NearSpellModel.areFar -/
def q1064_M : rfM := ((⟨"NearSpellModel", "areFar", "(I)Z"⟩, prog_14_method_91_code, 3, (some .boolean)), (1,21), ([.inr (.inl [114]),.inl ((0,13,1),none)],[]), [], [(some (.inl ((0,0,0),none)),[],[]),(some (.inl ((1,1,0),none)),[],[])])
def q1064_P : rfP := (flX12,csX12,lcX12,spX12,[q684_M],[(251,0)],[],([],[]))
def q1064_U : rfU := []
set_option maxHeartbeats 8000000 in
def q1064_N : List rfB := [(0,([(0,.inr (.inl [114])),(1,.inl ((0,13,1),none))],[],[]),(320,[0]),0),
  (2,([(0,.inr (.inl [114])),(1,.inl ((0,13,1),none)),(2,.inl ((0,14,1),none))],[],[]),(316,[(-21)]),0),
  (32,([(0,.inr (.inl [114])),(1,.inl ((0,13,1),none)),(2,.inl ((0,13,1),none))],[],[]),(298,[(-21)]),0)]
set_option maxRecDepth 100000 in
theorem q1064_ok : rf_chkB q1064_P q1064_U wLay q1064_M ddX12_areFar [(10,[0])] [.inl 2] [0,2,32] 600 q1064_N = true := by decide +kernel
set_option maxHeartbeats 4000000 in
theorem q1064_met {G : rfG} (h : okG G) : rf_met G q1064_M := rf_methodB h.1 (P := q1064_P) (U := q1064_U) (N := q1064_N) ⟨wflT h flokX12, wcsT h csokX12, wlcT h lcokX12, spokX12 h, List.forall_mem_cons.mpr ⟨q684_met h, fun _ h => absurd h List.not_mem_nil⟩, List.forall_mem_cons.mpr ⟨fun M hM => Option.some.inj (show some q684_M = some M from hM) ▸ wlkS (lkX12_251 h) q684_M rfl rfl, fun _ h => absurd h List.not_mem_nil⟩, fun _ h => absurd h List.not_mem_nil, fun _ h => absurd h List.not_mem_nil, fun _ h => absurd h List.not_mem_nil⟩ dkX12_areFar (by decide +kernel) (by rw [h.2.2.1]; exact q1064_ok)
/-- NearSpellModel.areFar -/
def q1065_M : rfM := ((⟨"NearSpellModel", "areFar", "(I)Z"⟩, prog_14_method_91_code, 3, (some .boolean)), (1,21), ([.inr (.inl [114]),.inl ((0,14,1),none)],[]), [], [(some (.inl ((0,0,0),none)),[],[]),(some (.inl ((1,1,0),none)),[],[])])
def q1065_P : rfP := (flX12,csX12,lcX12,spX12,[q684_M],[(251,0)],[],([],[]))
def q1065_U : rfU := []
set_option maxHeartbeats 8000000 in
def q1065_N : List rfB := [(0,([(0,.inr (.inl [114])),(1,.inl ((0,14,1),none))],[],[]),(320,[0]),0),
  (2,([(0,.inr (.inl [114])),(1,.inl ((0,14,1),none)),(2,.inl ((0,14,1),none))],[],[]),(316,[(-21)]),0),
  (32,([(0,.inr (.inl [114])),(1,.inl ((0,14,1),none)),(2,.inl ((0,13,1),none))],[],[]),(298,[(-21)]),0)]
set_option maxRecDepth 100000 in
theorem q1065_ok : rf_chkB q1065_P q1065_U wLay q1065_M ddX12_areFar [(10,[0])] [.inl 2] [0,2,32] 600 q1065_N = true := by decide +kernel
set_option maxHeartbeats 4000000 in
theorem q1065_met {G : rfG} (h : okG G) : rf_met G q1065_M := rf_methodB h.1 (P := q1065_P) (U := q1065_U) (N := q1065_N) ⟨wflT h flokX12, wcsT h csokX12, wlcT h lcokX12, spokX12 h, List.forall_mem_cons.mpr ⟨q684_met h, fun _ h => absurd h List.not_mem_nil⟩, List.forall_mem_cons.mpr ⟨fun M hM => Option.some.inj (show some q684_M = some M from hM) ▸ wlkS (lkX12_251 h) q684_M rfl rfl, fun _ h => absurd h List.not_mem_nil⟩, fun _ h => absurd h List.not_mem_nil, fun _ h => absurd h List.not_mem_nil, fun _ h => absurd h List.not_mem_nil⟩ dkX12_areFar (by decide +kernel) (by rw [h.2.2.1]; exact q1065_ok)
/-- NearSpellModel.areFar -/
def q1066_M : rfM := ((⟨"NearSpellModel", "areFar", "(I)Z"⟩, prog_14_method_91_code, 3, (some .boolean)), (1,21), ([.inr (.inl [114]),.inl ((0,26,1),none)],[]), [], [(some (.inl ((0,0,0),none)),[],[]),(some (.inl ((1,1,0),none)),[],[])])
def q1066_P : rfP := (flX12,csX12,lcX12,spX12,[q684_M],[(251,0)],[],([],[]))
def q1066_U : rfU := []
set_option maxHeartbeats 8000000 in
def q1066_N : List rfB := [(0,([(0,.inr (.inl [114])),(1,.inl ((0,26,1),none))],[],[]),(320,[0]),0),
  (2,([(0,.inr (.inl [114])),(1,.inl ((0,26,1),none)),(2,.inl ((0,14,1),none))],[],[]),(316,[(-21)]),0),
  (32,([(0,.inr (.inl [114])),(1,.inl ((0,26,1),none)),(2,.inl ((0,13,1),none))],[],[]),(298,[(-21)]),0)]
set_option maxRecDepth 100000 in
theorem q1066_ok : rf_chkB q1066_P q1066_U wLay q1066_M ddX12_areFar [(10,[0])] [.inl 2] [0,2,32] 600 q1066_N = true := by decide +kernel
set_option maxHeartbeats 4000000 in
theorem q1066_met {G : rfG} (h : okG G) : rf_met G q1066_M := rf_methodB h.1 (P := q1066_P) (U := q1066_U) (N := q1066_N) ⟨wflT h flokX12, wcsT h csokX12, wlcT h lcokX12, spokX12 h, List.forall_mem_cons.mpr ⟨q684_met h, fun _ h => absurd h List.not_mem_nil⟩, List.forall_mem_cons.mpr ⟨fun M hM => Option.some.inj (show some q684_M = some M from hM) ▸ wlkS (lkX12_251 h) q684_M rfl rfl, fun _ h => absurd h List.not_mem_nil⟩, fun _ h => absurd h List.not_mem_nil, fun _ h => absurd h List.not_mem_nil, fun _ h => absurd h List.not_mem_nil⟩ dkX12_areFar (by decide +kernel) (by rw [h.2.2.1]; exact q1066_ok)
/-- NearSpellModel.areFar -/
def q1067_M : rfM := ((⟨"NearSpellModel", "areFar", "(I)Z"⟩, prog_14_method_91_code, 3, (some .boolean)), (1,21), ([.inr (.inl [114]),.inl ((0,29,1),none)],[]), [], [(some (.inl ((0,0,0),none)),[],[]),(some (.inl ((1,1,0),none)),[],[])])
def q1067_P : rfP := (flX12,csX12,lcX12,spX12,[q684_M],[(251,0)],[],([],[]))
def q1067_U : rfU := []
set_option maxHeartbeats 8000000 in
def q1067_N : List rfB := [(0,([(0,.inr (.inl [114])),(1,.inl ((0,29,1),none))],[],[]),(320,[0]),0),
  (2,([(0,.inr (.inl [114])),(1,.inl ((0,29,1),none)),(2,.inl ((0,14,1),none))],[],[]),(316,[(-21)]),0),
  (32,([(0,.inr (.inl [114])),(1,.inl ((0,29,1),none)),(2,.inl ((0,13,1),none))],[],[]),(298,[(-21)]),0)]
set_option maxRecDepth 100000 in
theorem q1067_ok : rf_chkB q1067_P q1067_U wLay q1067_M ddX12_areFar [(10,[0])] [.inl 2] [0,2,32] 600 q1067_N = true := by decide +kernel
set_option maxHeartbeats 4000000 in
theorem q1067_met {G : rfG} (h : okG G) : rf_met G q1067_M := rf_methodB h.1 (P := q1067_P) (U := q1067_U) (N := q1067_N) ⟨wflT h flokX12, wcsT h csokX12, wlcT h lcokX12, spokX12 h, List.forall_mem_cons.mpr ⟨q684_met h, fun _ h => absurd h List.not_mem_nil⟩, List.forall_mem_cons.mpr ⟨fun M hM => Option.some.inj (show some q684_M = some M from hM) ▸ wlkS (lkX12_251 h) q684_M rfl rfl, fun _ h => absurd h List.not_mem_nil⟩, fun _ h => absurd h List.not_mem_nil, fun _ h => absurd h List.not_mem_nil, fun _ h => absurd h List.not_mem_nil⟩ dkX12_areFar (by decide +kernel) (by rw [h.2.2.1]; exact q1067_ok)
/-- NearSpellModel.areFar -/
def q1068_M : rfM := ((⟨"NearSpellModel", "areFar", "(I)Z"⟩, prog_14_method_91_code, 3, (some .boolean)), (1,21), ([.inr (.inl [114]),.inl ((0,36,1),none)],[]), [], [(some (.inl ((0,0,0),none)),[],[]),(some (.inl ((1,1,0),none)),[],[])])
def q1068_P : rfP := (flX12,csX12,lcX12,spX12,[q684_M],[(251,0)],[],([],[]))
def q1068_U : rfU := []
set_option maxHeartbeats 8000000 in
def q1068_N : List rfB := [(0,([(0,.inr (.inl [114])),(1,.inl ((0,36,1),none))],[],[]),(320,[0]),0),
  (2,([(0,.inr (.inl [114])),(1,.inl ((0,36,1),none)),(2,.inl ((0,14,1),none))],[],[]),(316,[(-21)]),0),
  (32,([(0,.inr (.inl [114])),(1,.inl ((0,36,1),none)),(2,.inl ((0,13,1),none))],[],[]),(298,[(-21)]),0)]
set_option maxRecDepth 100000 in
theorem q1068_ok : rf_chkB q1068_P q1068_U wLay q1068_M ddX12_areFar [(10,[0])] [.inl 2] [0,2,32] 600 q1068_N = true := by decide +kernel
set_option maxHeartbeats 4000000 in
theorem q1068_met {G : rfG} (h : okG G) : rf_met G q1068_M := rf_methodB h.1 (P := q1068_P) (U := q1068_U) (N := q1068_N) ⟨wflT h flokX12, wcsT h csokX12, wlcT h lcokX12, spokX12 h, List.forall_mem_cons.mpr ⟨q684_met h, fun _ h => absurd h List.not_mem_nil⟩, List.forall_mem_cons.mpr ⟨fun M hM => Option.some.inj (show some q684_M = some M from hM) ▸ wlkS (lkX12_251 h) q684_M rfl rfl, fun _ h => absurd h List.not_mem_nil⟩, fun _ h => absurd h List.not_mem_nil, fun _ h => absurd h List.not_mem_nil, fun _ h => absurd h List.not_mem_nil⟩ dkX12_areFar (by decide +kernel) (by rw [h.2.2.1]; exact q1068_ok)
/-- NearSpellModel.areFar -/
def q1069_M : rfM := ((⟨"NearSpellModel", "areFar", "(I)Z"⟩, prog_14_method_91_code, 3, (some .boolean)), (1,21), ([.inr (.inl [114]),.inl ((0,40,1),none)],[]), [], [(some (.inl ((0,0,0),none)),[],[]),(some (.inl ((1,1,0),none)),[],[])])
def q1069_P : rfP := (flX12,csX12,lcX12,spX12,[q684_M],[(251,0)],[],([],[]))
def q1069_U : rfU := []
set_option maxHeartbeats 8000000 in
def q1069_N : List rfB := [(0,([(0,.inr (.inl [114])),(1,.inl ((0,40,1),none))],[],[]),(320,[0]),0),
  (2,([(0,.inr (.inl [114])),(1,.inl ((0,40,1),none)),(2,.inl ((0,14,1),none))],[],[]),(316,[(-21)]),0),
  (32,([(0,.inr (.inl [114])),(1,.inl ((0,40,1),none)),(2,.inl ((0,13,1),none))],[],[]),(298,[(-21)]),0)]
set_option maxRecDepth 100000 in
theorem q1069_ok : rf_chkB q1069_P q1069_U wLay q1069_M ddX12_areFar [(10,[0])] [.inl 2] [0,2,32] 600 q1069_N = true := by decide +kernel
set_option maxHeartbeats 4000000 in
theorem q1069_met {G : rfG} (h : okG G) : rf_met G q1069_M := rf_methodB h.1 (P := q1069_P) (U := q1069_U) (N := q1069_N) ⟨wflT h flokX12, wcsT h csokX12, wlcT h lcokX12, spokX12 h, List.forall_mem_cons.mpr ⟨q684_met h, fun _ h => absurd h List.not_mem_nil⟩, List.forall_mem_cons.mpr ⟨fun M hM => Option.some.inj (show some q684_M = some M from hM) ▸ wlkS (lkX12_251 h) q684_M rfl rfl, fun _ h => absurd h List.not_mem_nil⟩, fun _ h => absurd h List.not_mem_nil, fun _ h => absurd h List.not_mem_nil, fun _ h => absurd h List.not_mem_nil⟩ dkX12_areFar (by decide +kernel) (by rw [h.2.2.1]; exact q1069_ok)
/-- NearSpellModel.areFar -/
def q1070_M : rfM := ((⟨"NearSpellModel", "areFar", "(I)Z"⟩, prog_14_method_91_code, 3, (some .boolean)), (1,21), ([.inr (.inl [114]),.inl ((0,63,1),none)],[]), [], [(some (.inl ((0,0,0),none)),[],[]),(some (.inl ((1,1,0),none)),[],[])])
def q1070_P : rfP := (flX12,csX12,lcX12,spX12,[q684_M],[(251,0)],[],([],[]))
def q1070_U : rfU := []
set_option maxHeartbeats 8000000 in
def q1070_N : List rfB := [(0,([(0,.inr (.inl [114])),(1,.inl ((0,63,1),none))],[],[]),(320,[0]),0),
  (2,([(0,.inr (.inl [114])),(1,.inl ((0,63,1),none)),(2,.inl ((0,14,1),none))],[],[]),(316,[(-21)]),0),
  (32,([(0,.inr (.inl [114])),(1,.inl ((0,63,1),none)),(2,.inl ((0,13,1),none))],[],[]),(298,[(-21)]),0)]
set_option maxRecDepth 100000 in
theorem q1070_ok : rf_chkB q1070_P q1070_U wLay q1070_M ddX12_areFar [(10,[0])] [.inl 2] [0,2,32] 600 q1070_N = true := by decide +kernel
set_option maxHeartbeats 4000000 in
theorem q1070_met {G : rfG} (h : okG G) : rf_met G q1070_M := rf_methodB h.1 (P := q1070_P) (U := q1070_U) (N := q1070_N) ⟨wflT h flokX12, wcsT h csokX12, wlcT h lcokX12, spokX12 h, List.forall_mem_cons.mpr ⟨q684_met h, fun _ h => absurd h List.not_mem_nil⟩, List.forall_mem_cons.mpr ⟨fun M hM => Option.some.inj (show some q684_M = some M from hM) ▸ wlkS (lkX12_251 h) q684_M rfl rfl, fun _ h => absurd h List.not_mem_nil⟩, fun _ h => absurd h List.not_mem_nil, fun _ h => absurd h List.not_mem_nil, fun _ h => absurd h List.not_mem_nil⟩ dkX12_areFar (by decide +kernel) (by rw [h.2.2.1]; exact q1070_ok)
/-- NearSpellModel.areFar -/
def q1071_M : rfM := ((⟨"NearSpellModel", "areFar", "(I)Z"⟩, prog_14_method_91_code, 3, (some .boolean)), (1,21), ([.inr (.inl [114]),.inl ((0,64,1),none)],[]), [], [(some (.inl ((0,0,0),none)),[],[]),(some (.inl ((1,1,0),none)),[],[])])
def q1071_P : rfP := (flX12,csX12,lcX12,spX12,[q684_M],[(251,0)],[],([],[]))
def q1071_U : rfU := []
set_option maxHeartbeats 8000000 in
def q1071_N : List rfB := [(0,([(0,.inr (.inl [114])),(1,.inl ((0,64,1),none))],[],[]),(320,[0]),0),
  (2,([(0,.inr (.inl [114])),(1,.inl ((0,64,1),none)),(2,.inl ((0,14,1),none))],[],[]),(316,[(-21)]),0),
  (32,([(0,.inr (.inl [114])),(1,.inl ((0,64,1),none)),(2,.inl ((0,13,1),none))],[],[]),(298,[(-21)]),0)]
set_option maxRecDepth 100000 in
theorem q1071_ok : rf_chkB q1071_P q1071_U wLay q1071_M ddX12_areFar [(10,[0])] [.inl 2] [0,2,32] 600 q1071_N = true := by decide +kernel
set_option maxHeartbeats 4000000 in
theorem q1071_met {G : rfG} (h : okG G) : rf_met G q1071_M := rf_methodB h.1 (P := q1071_P) (U := q1071_U) (N := q1071_N) ⟨wflT h flokX12, wcsT h csokX12, wlcT h lcokX12, spokX12 h, List.forall_mem_cons.mpr ⟨q684_met h, fun _ h => absurd h List.not_mem_nil⟩, List.forall_mem_cons.mpr ⟨fun M hM => Option.some.inj (show some q684_M = some M from hM) ▸ wlkS (lkX12_251 h) q684_M rfl rfl, fun _ h => absurd h List.not_mem_nil⟩, fun _ h => absurd h List.not_mem_nil, fun _ h => absurd h List.not_mem_nil, fun _ h => absurd h List.not_mem_nil⟩ dkX12_areFar (by decide +kernel) (by rw [h.2.2.1]; exact q1071_ok)
/-- NearSpellModel.areFar -/
def q1072_M : rfM := ((⟨"NearSpellModel", "areFar", "(I)Z"⟩, prog_14_method_91_code, 3, (some .boolean)), (1,21), ([.inr (.inl [114]),.inl ((0,1600,1),none)],[]), [], [(some (.inl ((0,0,0),none)),[],[]),(some (.inl ((1,1,0),none)),[],[])])
def q1072_P : rfP := (flX12,csX12,lcX12,spX12,[q684_M],[(251,0)],[],([],[]))
def q1072_U : rfU := []
set_option maxHeartbeats 8000000 in
def q1072_N : List rfB := [(0,([(0,.inr (.inl [114])),(1,.inl ((0,1600,1),none))],[],[]),(320,[0]),0),
  (2,([(0,.inr (.inl [114])),(1,.inl ((0,1600,1),none)),(2,.inl ((0,14,1),none))],[],[]),(316,[(-21)]),0),
  (32,([(0,.inr (.inl [114])),(1,.inl ((0,1600,1),none)),(2,.inl ((0,13,1),none))],[],[]),(298,[(-21)]),0)]
set_option maxRecDepth 100000 in
theorem q1072_ok : rf_chkB q1072_P q1072_U wLay q1072_M ddX12_areFar [(10,[0])] [.inl 2] [0,2,32] 600 q1072_N = true := by decide +kernel
set_option maxHeartbeats 4000000 in
theorem q1072_met {G : rfG} (h : okG G) : rf_met G q1072_M := rf_methodB h.1 (P := q1072_P) (U := q1072_U) (N := q1072_N) ⟨wflT h flokX12, wcsT h csokX12, wlcT h lcokX12, spokX12 h, List.forall_mem_cons.mpr ⟨q684_met h, fun _ h => absurd h List.not_mem_nil⟩, List.forall_mem_cons.mpr ⟨fun M hM => Option.some.inj (show some q684_M = some M from hM) ▸ wlkS (lkX12_251 h) q684_M rfl rfl, fun _ h => absurd h List.not_mem_nil⟩, fun _ h => absurd h List.not_mem_nil, fun _ h => absurd h List.not_mem_nil, fun _ h => absurd h List.not_mem_nil⟩ dkX12_areFar (by decide +kernel) (by rw [h.2.2.1]; exact q1072_ok)
/-- NearSpellModel.areFar -/
def q1073_M : rfM := ((⟨"NearSpellModel", "areFar", "(I)Z"⟩, prog_14_method_91_code, 3, (some .boolean)), (1,21), ([.inr (.inl [114]),.inl ((0,16383,1),none)],[]), [], [(some (.inl ((0,0,0),none)),[],[]),(some (.inl ((1,1,0),none)),[],[])])
def q1073_P : rfP := (flX12,csX12,lcX12,spX12,[q684_M],[(251,0)],[],([],[]))
def q1073_U : rfU := []
set_option maxHeartbeats 8000000 in
def q1073_N : List rfB := [(0,([(0,.inr (.inl [114])),(1,.inl ((0,16383,1),none))],[],[]),(320,[0]),0),
  (2,([(0,.inr (.inl [114])),(1,.inl ((0,16383,1),none)),(2,.inl ((0,14,1),none))],[],[]),(316,[(-21)]),0),
  (32,([(0,.inr (.inl [114])),(1,.inl ((0,16383,1),none)),(2,.inl ((0,13,1),none))],[],[]),(298,[(-21)]),0)]
set_option maxRecDepth 100000 in
theorem q1073_ok : rf_chkB q1073_P q1073_U wLay q1073_M ddX12_areFar [(10,[0])] [.inl 2] [0,2,32] 600 q1073_N = true := by decide +kernel
set_option maxHeartbeats 4000000 in
theorem q1073_met {G : rfG} (h : okG G) : rf_met G q1073_M := rf_methodB h.1 (P := q1073_P) (U := q1073_U) (N := q1073_N) ⟨wflT h flokX12, wcsT h csokX12, wlcT h lcokX12, spokX12 h, List.forall_mem_cons.mpr ⟨q684_met h, fun _ h => absurd h List.not_mem_nil⟩, List.forall_mem_cons.mpr ⟨fun M hM => Option.some.inj (show some q684_M = some M from hM) ▸ wlkS (lkX12_251 h) q684_M rfl rfl, fun _ h => absurd h List.not_mem_nil⟩, fun _ h => absurd h List.not_mem_nil, fun _ h => absurd h List.not_mem_nil, fun _ h => absurd h List.not_mem_nil⟩ dkX12_areFar (by decide +kernel) (by rw [h.2.2.1]; exact q1073_ok)
/-- NearSpellModel.far -/
def q1074_M : rfM := ((⟨"NearSpellModel", "far", "(II)I"⟩, prog_14_method_92_code, 7, (some .int)), (25,2111), ([.inr (.inl [114]),.inl (((-2147483648),2147483647,1),none),.inl (((-2147483648),2147483647,1),none)],[((114,28),(0,0,0),none),((998,0),(1,1,0),none)]), [(94,0),(95,0),(96,0),(97,0),(102,0),(103,0),(114,45),(114,46)], [(some (.inl (((-2147483648),2147483647,1),none)),[],[])])
def ddX12_far : List (Nat × Instr × Nat) := [(0,.iload_n 1,1),(1,.iconst 0,1),(2,.bipush 6,2),(4,.invokestatic 334,3),(7,.ifCond .eq 12,3),(10,.iload_n 2,1),(11,.iconst 0,1),(12,.iconst 1,1),(13,.invokestatic 334,3),(16,.ifCond .ne 5,3),(19,.iconst (-1),1),(20,.ireturn,1),(21,.aload_n 0,1),(22,.iload_n 1,1),(23,.invokevirtual 450,3),(26,.aload_n 0,1),(27,.invokevirtual 423,3),(30,.istore_n 3,1),(31,.iconst 0,1),(32,.istore 4,2),(34,.iconst 0,1),(35,.istore 5,2),(37,.iconst 0,1),(38,.istore 6,2),(40,.iload 6,2),(42,.sipush 16384,3),(45,.if_icmp .ge 51,3),(48,.iload 6,2),(50,.iload_n 3,1),(51,.iconst (-1),1),(52,.ixor,1),(53,.iand,1),(54,.ifCond .ne 36,3),(57,.iload 6,2),(59,.invokestatic 356,3),(62,.iload 5,2),(64,.if_icmp .le 26,3),(67,.aload_n 0,1),(68,.iload 6,2),(70,.invokevirtual 459,3),(73,.ifCond .ne 6,3),(76,.goto 14,3),(79,.iload 6,2),(81,.istore 4,2),(83,.iload 6,2),(85,.invokestatic 356,3),(88,.istore 5,2),(90,.iinc 6 1,3),(93,.goto (-53),3),(96,.iload_n 2,1),(97,.ifCond .ne 8,3),(100,.iload 5,2),(102,.goto 5,3),(105,.iload 4,2),(107,.ireturn,1)]
set_option maxRecDepth 100000 in
theorem dkX12_far : rf_decs prog_14_method_92_code ddX12_far := rf_decs_of (by decide +kernel)
def q1074_P : rfP := (flX12,csX12,lcX12,spX12,[q994_M,q1010_M,q1055_M,q832_M,q792_M,q1073_M],[(334,0),(334,1),(356,4)],[(423,3,12),(450,2,12),(459,5,12)],([],[]))
def q1074_U : rfU := []
set_option maxHeartbeats 8000000 in
def q1074_N : List rfB := [(0,([(0,.inr (.inl [114])),(1,.inl (((-2147483648),2147483647,1),none)),(2,.inl (((-2147483648),2147483647,1),none))],[],[((114,28),(0,0,0),some ((114,28),0,0)),((998,0),(1,1,0),some ((998,0),0,0))]),(442426,[0]),0),
  (19,([(0,.inr (.inl [114])),(1,.inl (((-2147483648),2147483647,1),none)),(2,.inl (((-2147483648),2147483647,1),none))],[],[((114,28),(0,0,0),some ((114,28),0,0)),((998,0),(1,1,0),some ((998,0),0,0))]),(442415,[0]),0),
  (40,([(0,.inr (.inl [114])),(1,.inl ((0,6,1),none)),(2,.inl ((0,1,1),none)),(3,.inl ((0,16383,1),none)),(4,.inl ((0,16383,1),none)),(5,.inl (((-2147483648),2147483647,1),none)),(6,.inl ((0,16384,1),none))],[],[((114,28),(0,0,0),some ((114,28),0,0)),((998,0),(1,1,0),some ((998,0),0,0))]),(442398,[(-27)]),0),
  (90,([(0,.inr (.inl [114])),(1,.inl ((0,6,1),none)),(2,.inl ((0,1,1),none)),(3,.inl ((0,16383,1),none)),(4,.inl ((0,16383,1),none)),(5,.inl (((-2147483648),2147483647,1),none)),(6,.inl ((0,16383,1),none))],[],[((114,28),(0,0,0),some ((114,28),0,0)),((998,0),(1,1,0),some ((998,0),0,0))]),(442374,[(-27)]),0),
  (107,([(0,.inr (.inl [114])),(1,.inl ((0,6,1),none)),(2,.inl ((0,1,1),none)),(3,.inl ((0,16383,1),none)),(4,.inl ((0,16383,1),none)),(5,.inl (((-2147483648),2147483647,1),none)),(6,.inl ((16384,16384,1),none))],[.inl (((-2147483648),2147483647,1),none)],[((114,28),(0,0,0),some ((114,28),0,0)),((998,0),(1,1,0),some ((998,0),0,0))]),(0,[0]),0)]
set_option maxRecDepth 100000 in
theorem q1074_ok : rf_chkB q1074_P q1074_U wLay q1074_M ddX12_far [(4,[0]),(13,[1]),(23,[2]),(27,[3]),(59,[4]),(70,[5]),(85,[4])] [.inl 6] [0,19,40,90,107] 600 q1074_N = true := by decide +kernel
set_option maxHeartbeats 4000000 in
theorem q1074_met {G : rfG} (h : okG G) (hh : w1OK G) : rf_met G q1074_M := rf_methodB h.1 (P := q1074_P) (U := q1074_U) (N := q1074_N) ⟨wflT h flokX12, wcsT h csokX12, wlcT h lcokX12, spokX12 h, List.forall_mem_cons.mpr ⟨q994_met h, List.forall_mem_cons.mpr ⟨q1010_met h, List.forall_mem_cons.mpr ⟨q1055_met h hh, List.forall_mem_cons.mpr ⟨q832_met h, List.forall_mem_cons.mpr ⟨q792_met h, List.forall_mem_cons.mpr ⟨q1073_met h, fun _ h => absurd h List.not_mem_nil⟩⟩⟩⟩⟩⟩, List.forall_mem_cons.mpr ⟨fun M hM => Option.some.inj (show some q994_M = some M from hM) ▸ wlkS (lkX12_334 h) q994_M rfl rfl, List.forall_mem_cons.mpr ⟨fun M hM => Option.some.inj (show some q1010_M = some M from hM) ▸ wlkS (lkX12_334 h) q1010_M rfl rfl, List.forall_mem_cons.mpr ⟨fun M hM => Option.some.inj (show some q792_M = some M from hM) ▸ wlkS (lkX12_356 h) q792_M rfl rfl, fun _ h => absurd h List.not_mem_nil⟩⟩⟩, List.forall_mem_cons.mpr ⟨fun M hM => Option.some.inj (show some q832_M = some M from hM) ▸ wlkV (lkX12_423 h) q832_M rfl rfl, List.forall_mem_cons.mpr ⟨fun M hM => Option.some.inj (show some q1055_M = some M from hM) ▸ wlkV (lkX12_450 h) q1055_M rfl rfl, List.forall_mem_cons.mpr ⟨fun M hM => Option.some.inj (show some q1073_M = some M from hM) ▸ wlkV (lkX12_459 h) q1073_M rfl rfl, fun _ h => absurd h List.not_mem_nil⟩⟩⟩, fun _ h => absurd h List.not_mem_nil, fun _ h => absurd h List.not_mem_nil⟩ dkX12_far (by decide +kernel) (by rw [h.2.2.1]; exact q1074_ok)
/-- NearSpellModel.far -/
def q1075_M : rfM := ((⟨"NearSpellModel", "far", "(II)I"⟩, prog_14_method_92_code, 7, (some .int)), (25,2111), ([.inr (.inl [114]),.inl (((-2147483648),2147483647,1),none),.inl (((-2147483648),2147483647,1),none)],[((77,1),(1,31,1),none),((114,28),(1,1,0),none),((998,0),(1,1,0),none)]), [(94,0),(95,0),(96,0),(97,0),(102,0),(103,0),(114,45),(114,46)], [(some (.inl (((-2147483648),2147483647,1),none)),[],[])])
def q1075_P : rfP := (flX12,csX12,lcX12,spX12,[q994_M,q1010_M,q1055_M,q832_M,q792_M,q1073_M],[(334,0),(334,1),(356,4)],[(423,3,12),(450,2,12),(459,5,12)],([],[]))
def q1075_U : rfU := []
set_option maxHeartbeats 8000000 in
def q1075_N : List rfB := [(0,([(0,.inr (.inl [114])),(1,.inl (((-2147483648),2147483647,1),none)),(2,.inl (((-2147483648),2147483647,1),none))],[],[((77,1),(1,31,1),some ((77,1),0,0)),((114,28),(1,1,0),some ((114,28),0,0)),((998,0),(1,1,0),some ((998,0),0,0))]),(442426,[0]),0),
  (19,([(0,.inr (.inl [114])),(1,.inl (((-2147483648),2147483647,1),none)),(2,.inl (((-2147483648),2147483647,1),none))],[],[((77,1),(1,31,1),some ((77,1),0,0)),((114,28),(1,1,0),some ((114,28),0,0)),((998,0),(1,1,0),some ((998,0),0,0))]),(442415,[0]),0),
  (40,([(0,.inr (.inl [114])),(1,.inl ((0,6,1),none)),(2,.inl ((0,1,1),none)),(3,.inl ((0,16383,1),none)),(4,.inl ((0,16383,1),none)),(5,.inl (((-2147483648),2147483647,1),none)),(6,.inl ((0,16384,1),none))],[],[((77,1),(1,31,1),some ((77,1),0,0)),((114,28),(1,1,0),some ((114,28),0,0)),((998,0),(1,1,0),some ((998,0),0,0))]),(442398,[(-27)]),0),
  (90,([(0,.inr (.inl [114])),(1,.inl ((0,6,1),none)),(2,.inl ((0,1,1),none)),(3,.inl ((0,16383,1),none)),(4,.inl ((0,16383,1),none)),(5,.inl (((-2147483648),2147483647,1),none)),(6,.inl ((0,16383,1),none))],[],[((77,1),(1,31,1),some ((77,1),0,0)),((114,28),(1,1,0),some ((114,28),0,0)),((998,0),(1,1,0),some ((998,0),0,0))]),(442374,[(-27)]),0),
  (107,([(0,.inr (.inl [114])),(1,.inl ((0,6,1),none)),(2,.inl ((0,1,1),none)),(3,.inl ((0,16383,1),none)),(4,.inl ((0,16383,1),none)),(5,.inl (((-2147483648),2147483647,1),none)),(6,.inl ((16384,16384,1),none))],[.inl (((-2147483648),2147483647,1),none)],[((77,1),(1,31,1),some ((77,1),0,0)),((114,28),(1,1,0),some ((114,28),0,0)),((998,0),(1,1,0),some ((998,0),0,0))]),(0,[0]),0)]
set_option maxRecDepth 100000 in
theorem q1075_ok : rf_chkB q1075_P q1075_U wLay q1075_M ddX12_far [(4,[0]),(13,[1]),(23,[2]),(27,[3]),(59,[4]),(70,[5]),(85,[4])] [.inl 6] [0,19,40,90,107] 600 q1075_N = true := by decide +kernel
set_option maxHeartbeats 4000000 in
theorem q1075_met {G : rfG} (h : okG G) (hh : w1OK G) : rf_met G q1075_M := rf_methodB h.1 (P := q1075_P) (U := q1075_U) (N := q1075_N) ⟨wflT h flokX12, wcsT h csokX12, wlcT h lcokX12, spokX12 h, List.forall_mem_cons.mpr ⟨q994_met h, List.forall_mem_cons.mpr ⟨q1010_met h, List.forall_mem_cons.mpr ⟨q1055_met h hh, List.forall_mem_cons.mpr ⟨q832_met h, List.forall_mem_cons.mpr ⟨q792_met h, List.forall_mem_cons.mpr ⟨q1073_met h, fun _ h => absurd h List.not_mem_nil⟩⟩⟩⟩⟩⟩, List.forall_mem_cons.mpr ⟨fun M hM => Option.some.inj (show some q994_M = some M from hM) ▸ wlkS (lkX12_334 h) q994_M rfl rfl, List.forall_mem_cons.mpr ⟨fun M hM => Option.some.inj (show some q1010_M = some M from hM) ▸ wlkS (lkX12_334 h) q1010_M rfl rfl, List.forall_mem_cons.mpr ⟨fun M hM => Option.some.inj (show some q792_M = some M from hM) ▸ wlkS (lkX12_356 h) q792_M rfl rfl, fun _ h => absurd h List.not_mem_nil⟩⟩⟩, List.forall_mem_cons.mpr ⟨fun M hM => Option.some.inj (show some q832_M = some M from hM) ▸ wlkV (lkX12_423 h) q832_M rfl rfl, List.forall_mem_cons.mpr ⟨fun M hM => Option.some.inj (show some q1055_M = some M from hM) ▸ wlkV (lkX12_450 h) q1055_M rfl rfl, List.forall_mem_cons.mpr ⟨fun M hM => Option.some.inj (show some q1073_M = some M from hM) ▸ wlkV (lkX12_459 h) q1073_M rfl rfl, fun _ h => absurd h List.not_mem_nil⟩⟩⟩, fun _ h => absurd h List.not_mem_nil, fun _ h => absurd h List.not_mem_nil⟩ dkX12_far (by decide +kernel) (by rw [h.2.2.1]; exact q1075_ok)
/-- NearSpellModel.middle -/
def q1076_M : rfM := ((⟨"NearSpellModel", "middle", "()I"⟩, prog_14_method_93_code, 6, (some .int)), (24,2088), ([.inr (.inl [114])],[((114,28),(0,0,0),none),((998,0),(1,1,0),none)]), [(94,0),(95,0),(96,0),(97,0),(103,0),(114,45),(114,46)], [(some (.inl (((-1),13,1),none)),[],[])])
def ddX12_middle : List (Nat × Instr × Nat) := [(0,.aload_n 0,1),(1,.invokevirtual 447,3),(4,.iconst (-1),1),(5,.istore_n 1,1),(6,.iconst 0,1),(7,.istore_n 2,1),(8,.iconst 0,1),(9,.istore_n 3,1),(10,.iload_n 3,1),(11,.bipush 14,2),(13,.if_icmp .ge 87,3),(16,.aload_n 0,1),(17,.iload_n 3,1),(18,.invokevirtual 350,3),(21,.ifCond .ne 6,3),(24,.goto 70,3),(27,.iconst 0,1),(28,.istore 4,2),(30,.iconst 0,1),(31,.istore 5,2),(33,.iload 5,2),(35,.bipush 14,2),(37,.if_icmp .ge 39,3),(40,.iload 4,2),(42,.aload_n 0,1),(43,.iload 5,2),(45,.invokevirtual 350,3),(48,.ifCond .eq 18,3),(51,.aload_n 0,1),(52,.getfield 111,3),(55,.bipush 14,2),(57,.iload_n 3,1),(58,.imul,1),(59,.iload 5,2),(61,.iadd,1),(62,.iaload,1),(63,.goto 4,3),(66,.iconst 0,1),(67,.iadd,1),(68,.istore 4,2),(70,.iinc 5 1,3),(73,.goto (-40),3),(76,.iload_n 1,1),(77,.ifCond .lt 12,3),(80,.iload 4,2),(82,.iload_n 2,1),(83,.if_icmp .lt 6,3),(86,.goto 8,3),(89,.iload_n 3,1),(90,.istore_n 1,1),(91,.iload 4,2),(93,.istore_n 2,1),(94,.iinc 3 1,3),(97,.goto (-87),3),(100,.iload_n 1,1),(101,.ireturn,1)]
set_option maxRecDepth 100000 in
theorem dkX12_middle : rf_decs prog_14_method_93_code ddX12_middle := rf_decs_of (by decide +kernel)
def q1076_P : rfP := (flX12,csX12,lcX12,spX12,[q1051_M,q827_M],[],[(350,1,12),(447,0,12)],([],[]))
def q1076_U : rfU := []
set_option maxHeartbeats 8000000 in
def q1076_N : List rfB := [(0,([(0,.inr (.inl [114]))],[],[((114,28),(0,0,0),some ((114,28),0,0)),((998,0),(1,1,0),some ((998,0),0,0))]),(6024,[0,0]),0),
  (10,([(0,.inr (.inl [114])),(1,.inl (((-1),13,1),none)),(2,.inl (((-2147483648),2147483647,1),none)),(3,.inl ((0,14,1),none))],[],[((114,28),(0,0,0),some ((114,28),0,0)),((998,0),(1,1,0),some ((998,0),0,0))]),(6014,[(-401),0]),0),
  (94,([(0,.inr (.inl [114])),(1,.inl (((-1),13,1),none)),(2,.inl (((-2147483648),2147483647,1),none)),(3,.inl ((0,13,1),none))],[],[((114,28),(0,0,0),some ((114,28),0,0)),((998,0),(1,1,0),some ((998,0),0,0))]),(5616,[(-401),0]),0),
  (33,([(0,.inr (.inl [114])),(1,.inl (((-1),13,1),none)),(2,.inl (((-2147483648),2147483647,1),none)),(3,.inl ((0,13,1),none)),(4,.inl (((-2147483648),2147483647,1),none)),(5,.inl ((0,14,1),none))],[],[((90,28),(1,14,1),none),((114,28),(0,0,0),some ((114,28),0,0)),((998,0),(1,1,0),some ((998,0),0,0))]),(6001,[(-401),(-25)]),0),
  (68,([(0,.inr (.inl [114])),(1,.inl (((-1),13,1),none)),(2,.inl (((-2147483648),2147483647,1),none)),(3,.inl ((0,13,1),none)),(4,.inl (((-2147483648),2147483647,1),none)),(5,.inl ((0,13,1),none))],[.inl (((-2147483648),2147483647,1),none)],[((90,28),(1,14,1),none),((114,28),(0,0,0),some ((114,28),0,0)),((998,0),(1,1,0),some ((998,0),0,0))]),(5980,[(-401),(-25)]),0),
  (89,([(0,.inr (.inl [114])),(1,.inl (((-1),13,1),none)),(2,.inl (((-2147483648),2147483647,1),none)),(3,.inl ((0,13,1),none)),(4,.inl (((-2147483648),2147483647,1),none)),(5,.inl ((14,14,1),none))],[],[((90,28),(1,14,1),none),((114,28),(0,0,0),some ((114,28),0,0)),((998,0),(1,1,0),some ((998,0),0,0))]),(5622,[(-401),0]),0)]
set_option maxRecDepth 100000 in
theorem q1076_ok : rf_chkB q1076_P q1076_U wLay q1076_M ddX12_middle [(1,[0]),(18,[1]),(45,[1])] [.inl 3,.inl 5] [0,10,33,68,89,94] 600 q1076_N = true := by decide +kernel
set_option maxHeartbeats 4000000 in
theorem q1076_met {G : rfG} (h : okG G) (hh : w1OK G) : rf_met G q1076_M := rf_methodB h.1 (P := q1076_P) (U := q1076_U) (N := q1076_N) ⟨wflT h flokX12, wcsT h csokX12, wlcT h lcokX12, spokX12 h, List.forall_mem_cons.mpr ⟨q1051_met h hh, List.forall_mem_cons.mpr ⟨q827_met h, fun _ h => absurd h List.not_mem_nil⟩⟩, fun _ h => absurd h List.not_mem_nil, List.forall_mem_cons.mpr ⟨fun M hM => Option.some.inj (show some q827_M = some M from hM) ▸ wlkV (lkX12_350 h) q827_M rfl rfl, List.forall_mem_cons.mpr ⟨fun M hM => Option.some.inj (show some q1051_M = some M from hM) ▸ wlkV (lkX12_447 h) q1051_M rfl rfl, fun _ h => absurd h List.not_mem_nil⟩⟩, fun _ h => absurd h List.not_mem_nil, fun _ h => absurd h List.not_mem_nil⟩ dkX12_middle (by decide +kernel) (by rw [h.2.2.1]; exact q1076_ok)
/-- NearSpellModel.middle -/
def q1077_M : rfM := ((⟨"NearSpellModel", "middle", "()I"⟩, prog_14_method_93_code, 6, (some .int)), (24,2088), ([.inr (.inl [114])],[((77,1),(1,31,1),none),((114,28),(1,1,0),none),((998,0),(1,1,0),none)]), [(94,0),(95,0),(96,0),(97,0),(103,0),(114,45),(114,46)], [(some (.inl (((-1),13,1),none)),[],[])])
def q1077_P : rfP := (flX12,csX12,lcX12,spX12,[q1051_M,q827_M],[],[(350,1,12),(447,0,12)],([],[]))
def q1077_U : rfU := []
set_option maxHeartbeats 8000000 in
def q1077_N : List rfB := [(0,([(0,.inr (.inl [114]))],[],[((77,1),(1,31,1),some ((77,1),0,0)),((114,28),(1,1,0),some ((114,28),0,0)),((998,0),(1,1,0),some ((998,0),0,0))]),(6024,[0,0]),0),
  (10,([(0,.inr (.inl [114])),(1,.inl (((-1),13,1),none)),(2,.inl (((-2147483648),2147483647,1),none)),(3,.inl ((0,14,1),none))],[],[((77,1),(1,31,1),some ((77,1),0,0)),((114,28),(1,1,0),some ((114,28),0,0)),((998,0),(1,1,0),some ((998,0),0,0))]),(6014,[(-401),0]),0),
  (94,([(0,.inr (.inl [114])),(1,.inl (((-1),13,1),none)),(2,.inl (((-2147483648),2147483647,1),none)),(3,.inl ((0,13,1),none))],[],[((77,1),(1,31,1),some ((77,1),0,0)),((114,28),(1,1,0),some ((114,28),0,0)),((998,0),(1,1,0),some ((998,0),0,0))]),(5616,[(-401),0]),0),
  (33,([(0,.inr (.inl [114])),(1,.inl (((-1),13,1),none)),(2,.inl (((-2147483648),2147483647,1),none)),(3,.inl ((0,13,1),none)),(4,.inl (((-2147483648),2147483647,1),none)),(5,.inl ((0,14,1),none))],[],[((77,1),(1,31,1),some ((77,1),0,0)),((90,28),(1,14,1),none),((114,28),(1,1,0),some ((114,28),0,0)),((998,0),(1,1,0),some ((998,0),0,0))]),(6001,[(-401),(-25)]),0),
  (68,([(0,.inr (.inl [114])),(1,.inl (((-1),13,1),none)),(2,.inl (((-2147483648),2147483647,1),none)),(3,.inl ((0,13,1),none)),(4,.inl (((-2147483648),2147483647,1),none)),(5,.inl ((0,13,1),none))],[.inl (((-2147483648),2147483647,1),none)],[((77,1),(1,31,1),some ((77,1),0,0)),((90,28),(1,14,1),none),((114,28),(1,1,0),some ((114,28),0,0)),((998,0),(1,1,0),some ((998,0),0,0))]),(5980,[(-401),(-25)]),0),
  (89,([(0,.inr (.inl [114])),(1,.inl (((-1),13,1),none)),(2,.inl (((-2147483648),2147483647,1),none)),(3,.inl ((0,13,1),none)),(4,.inl (((-2147483648),2147483647,1),none)),(5,.inl ((14,14,1),none))],[],[((77,1),(1,31,1),some ((77,1),0,0)),((90,28),(1,14,1),none),((114,28),(1,1,0),some ((114,28),0,0)),((998,0),(1,1,0),some ((998,0),0,0))]),(5622,[(-401),0]),0)]
set_option maxRecDepth 100000 in
theorem q1077_ok : rf_chkB q1077_P q1077_U wLay q1077_M ddX12_middle [(1,[0]),(18,[1]),(45,[1])] [.inl 3,.inl 5] [0,10,33,68,89,94] 600 q1077_N = true := by decide +kernel
set_option maxHeartbeats 4000000 in
theorem q1077_met {G : rfG} (h : okG G) (hh : w1OK G) : rf_met G q1077_M := rf_methodB h.1 (P := q1077_P) (U := q1077_U) (N := q1077_N) ⟨wflT h flokX12, wcsT h csokX12, wlcT h lcokX12, spokX12 h, List.forall_mem_cons.mpr ⟨q1051_met h hh, List.forall_mem_cons.mpr ⟨q827_met h, fun _ h => absurd h List.not_mem_nil⟩⟩, fun _ h => absurd h List.not_mem_nil, List.forall_mem_cons.mpr ⟨fun M hM => Option.some.inj (show some q827_M = some M from hM) ▸ wlkV (lkX12_350 h) q827_M rfl rfl, List.forall_mem_cons.mpr ⟨fun M hM => Option.some.inj (show some q1051_M = some M from hM) ▸ wlkV (lkX12_447 h) q1051_M rfl rfl, fun _ h => absurd h List.not_mem_nil⟩⟩, fun _ h => absurd h List.not_mem_nil, fun _ h => absurd h List.not_mem_nil⟩ dkX12_middle (by decide +kernel) (by rw [h.2.2.1]; exact q1077_ok)
/-- NearSpellModel.oneStep -/
def q1078_M : rfM := ((⟨"NearSpellModel", "oneStep", "(I)I"⟩, prog_14_method_89_code, 4, (some .int)), (1,21), ([.inr (.inl [114]),.inl ((1,9999,1),none)],[]), [], [(some (.inl (((-2147483648),2147483647,1),none)),[],[])])
def ddX12_oneStep : List (Nat × Instr × Nat) := [(0,.iload_n 1,1),(1,.istore_n 2,1),(2,.iconst 0,1),(3,.istore_n 3,1),(4,.iload_n 3,1),(5,.bipush 14,2),(7,.if_icmp .ge 26,3),(10,.iload_n 1,1),(11,.iload_n 3,1),(12,.invokestatic 251,3),(15,.ifCond .eq 12,3),(18,.iload_n 2,1),(19,.aload_n 0,1),(20,.getfield 108,3),(23,.iload_n 3,1),(24,.iaload,1),(25,.ior,1),(26,.istore_n 2,1),(27,.iinc 3 1,3),(30,.goto (-26),3),(33,.iload_n 2,1),(34,.ireturn,1)]
set_option maxRecDepth 100000 in
theorem dkX12_oneStep : rf_decs prog_14_method_89_code ddX12_oneStep := rf_decs_of (by decide +kernel)
def q1078_P : rfP := (flX12,csX12,lcX12,spX12,[q684_M],[(251,0)],[],([],[]))
def q1078_U : rfU := []
set_option maxHeartbeats 8000000 in
def q1078_N : List rfB := [(0,([(0,.inr (.inl [114])),(1,.inl ((1,9999,1),none))],[],[]),(275,[0]),0),
  (4,([(0,.inr (.inl [114])),(1,.inl ((1,9999,1),none)),(2,.inl (((-2147483648),2147483647,1),none)),(3,.inl ((0,14,1),none))],[],[]),(269,[(-18)]),0),
  (27,([(0,.inr (.inl [114])),(1,.inl ((1,9999,1),none)),(2,.inl (((-2147483648),2147483647,1),none)),(3,.inl ((0,13,1),none))],[],[]),(254,[(-18)]),0)]
set_option maxRecDepth 100000 in
theorem q1078_ok : rf_chkB q1078_P q1078_U wLay q1078_M ddX12_oneStep [(12,[0])] [.inl 3] [0,4,27] 600 q1078_N = true := by decide +kernel
set_option maxHeartbeats 4000000 in
theorem q1078_met {G : rfG} (h : okG G) : rf_met G q1078_M := rf_methodB h.1 (P := q1078_P) (U := q1078_U) (N := q1078_N) ⟨wflT h flokX12, wcsT h csokX12, wlcT h lcokX12, spokX12 h, List.forall_mem_cons.mpr ⟨q684_met h, fun _ h => absurd h List.not_mem_nil⟩, List.forall_mem_cons.mpr ⟨fun M hM => Option.some.inj (show some q684_M = some M from hM) ▸ wlkS (lkX12_251 h) q684_M rfl rfl, fun _ h => absurd h List.not_mem_nil⟩, fun _ h => absurd h List.not_mem_nil, fun _ h => absurd h List.not_mem_nil, fun _ h => absurd h List.not_mem_nil⟩ dkX12_oneStep (by decide +kernel) (by rw [h.2.2.1]; exact q1078_ok)
/-- NearSpellModel.oneStep -/
def q1079_M : rfM := ((⟨"NearSpellModel", "oneStep", "(I)I"⟩, prog_14_method_89_code, 4, (some .int)), (1,21), ([.inr (.inl [114]),.inl (((-2147483648),2147483647,1),none)],[]), [], [(some (.inl (((-2147483648),2147483647,1),none)),[],[])])
def q1079_P : rfP := (flX12,csX12,lcX12,spX12,[q684_M],[(251,0)],[],([],[]))
def q1079_U : rfU := []
set_option maxHeartbeats 8000000 in
def q1079_N : List rfB := [(0,([(0,.inr (.inl [114])),(1,.inl (((-2147483648),2147483647,1),none))],[],[]),(275,[0]),0),
  (4,([(0,.inr (.inl [114])),(1,.inl (((-2147483648),2147483647,1),none)),(2,.inl (((-2147483648),2147483647,1),none)),(3,.inl ((0,14,1),none))],[],[]),(269,[(-18)]),0),
  (27,([(0,.inr (.inl [114])),(1,.inl (((-2147483648),2147483647,1),none)),(2,.inl (((-2147483648),2147483647,1),none)),(3,.inl ((0,13,1),none))],[],[]),(254,[(-18)]),0)]
set_option maxRecDepth 100000 in
theorem q1079_ok : rf_chkB q1079_P q1079_U wLay q1079_M ddX12_oneStep [(12,[0])] [.inl 3] [0,4,27] 600 q1079_N = true := by decide +kernel
set_option maxHeartbeats 4000000 in
theorem q1079_met {G : rfG} (h : okG G) : rf_met G q1079_M := rf_methodB h.1 (P := q1079_P) (U := q1079_U) (N := q1079_N) ⟨wflT h flokX12, wcsT h csokX12, wlcT h lcokX12, spokX12 h, List.forall_mem_cons.mpr ⟨q684_met h, fun _ h => absurd h List.not_mem_nil⟩, List.forall_mem_cons.mpr ⟨fun M hM => Option.some.inj (show some q684_M = some M from hM) ▸ wlkS (lkX12_251 h) q684_M rfl rfl, fun _ h => absurd h List.not_mem_nil⟩, fun _ h => absurd h List.not_mem_nil, fun _ h => absurd h List.not_mem_nil, fun _ h => absurd h List.not_mem_nil⟩ dkX12_oneStep (by decide +kernel) (by rw [h.2.2.1]; exact q1079_ok)
/-- NearSpellModel.chain -/
def q1080_M : rfM := ((⟨"NearSpellModel", "chain", "(III)I"⟩, prog_14_method_94_code, 6, (some .int)), (25,2111), ([.inr (.inl [114]),.inl (((-2147483648),2147483647,1),none),.inl (((-2147483648),2147483647,1),none),.inl (((-2147483648),2147483647,1),none)],[((114,28),(0,0,0),none),((998,0),(1,1,0),none)]), [(94,0),(95,0),(96,0),(97,0),(102,0),(103,0),(114,45),(114,46)], [(some (.inl (((-1),14,1),none)),[],[])])
def ddX12_chain : List (Nat × Instr × Nat) := [(0,.aload_n 0,1),(1,.iload_n 1,1),(2,.invokevirtual 350,3),(5,.ifCond .eq 21,3),(8,.aload_n 0,1),(9,.iload_n 2,1),(10,.invokevirtual 350,3),(13,.ifCond .eq 13,3),(16,.iload_n 3,1),(17,.iconst 0,1),(18,.bipush 6,2),(20,.invokestatic 334,3),(23,.ifCond .ne 5,3),(26,.iconst (-1),1),(27,.ireturn,1),(28,.aload_n 0,1),(29,.iload_n 3,1),(30,.invokevirtual 450,3),(33,.iconst 1,1),(34,.iload_n 1,1),(35,.ishl,1),(36,.istore 4,2),(38,.iconst 0,1),(39,.istore 5,2),(41,.iload 5,2),(43,.bipush 14,2),(45,.if_icmp .ge 26,3),(48,.iload 4,2),(50,.iload_n 2,1),(51,.invokestatic 251,3),(54,.ifCond .ne 17,3),(57,.aload_n 0,1),(58,.iload 4,2),(60,.invokevirtual 456,3),(63,.istore 4,2),(65,.iinc 5 1,3),(68,.goto (-27),3),(71,.iload 4,2),(73,.iload_n 2,1),(74,.invokestatic 251,3),(77,.ifCond .eq 8,3),(80,.iload 5,2),(82,.goto 4,3),(85,.iconst (-1),1),(86,.ireturn,1)]
set_option maxRecDepth 100000 in
theorem dkX12_chain : rf_decs prog_14_method_94_code ddX12_chain := rf_decs_of (by decide +kernel)
def q1080_P : rfP := (flX12,csX12,lcX12,spX12,[q788_M,q994_M,q1055_M,q684_M,q1079_M],[(251,3),(334,1)],[(350,0,12),(450,2,12),(456,4,12)],([],[]))
def q1080_U : rfU := []
set_option maxHeartbeats 8000000 in
def q1080_N : List rfB := [(0,([(0,.inr (.inl [114])),(1,.inl (((-2147483648),2147483647,1),none)),(2,.inl (((-2147483648),2147483647,1),none)),(3,.inl (((-2147483648),2147483647,1),none))],[],[((114,28),(0,0,0),some ((114,28),0,0)),((998,0),(1,1,0),some ((998,0),0,0))]),(247,[0]),0),
  (26,([(0,.inr (.inl [114])),(1,.inl (((-2147483648),2147483647,1),none)),(2,.inl (((-2147483648),2147483647,1),none)),(3,.inl (((-2147483648),2147483647,1),none))],[],[((114,28),(0,0,0),some ((114,28),0,0)),((998,0),(1,1,0),some ((998,0),0,0))]),(232,[0]),0),
  (41,([(0,.inr (.inl [114])),(1,.inl ((0,13,1),none)),(2,.inl ((0,13,1),none)),(3,.inl ((0,6,1),none)),(4,.inl (((-2147483648),2147483647,1),none)),(5,.inl ((0,14,1),none))],[],[((90,28),(1,14,1),none),((114,28),(0,0,0),some ((114,28),0,0)),((998,0),(1,1,0),some ((998,0),0,0))]),(218,[(-14)]),0),
  (71,([(0,.inr (.inl [114])),(1,.inl ((0,13,1),none)),(2,.inl ((0,13,1),none)),(3,.inl ((0,6,1),none)),(4,.inl (((-2147483648),2147483647,1),none)),(5,.inl ((0,14,1),none))],[],[((90,28),(1,14,1),none),((114,28),(0,0,0),some ((114,28),0,0)),((998,0),(1,1,0),some ((998,0),0,0))]),(9,[0]),0)]
set_option maxRecDepth 100000 in
theorem q1080_ok : rf_chkB q1080_P q1080_U wLay q1080_M ddX12_chain [(2,[0]),(10,[0]),(20,[1]),(30,[2]),(51,[3]),(60,[4]),(74,[3])] [.inl 5] [0,26,41,71] 600 q1080_N = true := by decide +kernel
set_option maxHeartbeats 4000000 in
theorem q1080_met {G : rfG} (h : okG G) (hh : w1OK G) : rf_met G q1080_M := rf_methodB h.1 (P := q1080_P) (U := q1080_U) (N := q1080_N) ⟨wflT h flokX12, wcsT h csokX12, wlcT h lcokX12, spokX12 h, List.forall_mem_cons.mpr ⟨q788_met h, List.forall_mem_cons.mpr ⟨q994_met h, List.forall_mem_cons.mpr ⟨q1055_met h hh, List.forall_mem_cons.mpr ⟨q684_met h, List.forall_mem_cons.mpr ⟨q1079_met h, fun _ h => absurd h List.not_mem_nil⟩⟩⟩⟩⟩, List.forall_mem_cons.mpr ⟨fun M hM => Option.some.inj (show some q684_M = some M from hM) ▸ wlkS (lkX12_251 h) q684_M rfl rfl, List.forall_mem_cons.mpr ⟨fun M hM => Option.some.inj (show some q994_M = some M from hM) ▸ wlkS (lkX12_334 h) q994_M rfl rfl, fun _ h => absurd h List.not_mem_nil⟩⟩, List.forall_mem_cons.mpr ⟨fun M hM => Option.some.inj (show some q788_M = some M from hM) ▸ wlkV (lkX12_350 h) q788_M rfl rfl, List.forall_mem_cons.mpr ⟨fun M hM => Option.some.inj (show some q1055_M = some M from hM) ▸ wlkV (lkX12_450 h) q1055_M rfl rfl, List.forall_mem_cons.mpr ⟨fun M hM => Option.some.inj (show some q1079_M = some M from hM) ▸ wlkV (lkX12_456 h) q1079_M rfl rfl, fun _ h => absurd h List.not_mem_nil⟩⟩⟩, fun _ h => absurd h List.not_mem_nil, fun _ h => absurd h List.not_mem_nil⟩ dkX12_chain (by decide +kernel) (by rw [h.2.2.1]; exact q1080_ok)
/-- NearSpellModel.chain -/
def q1081_M : rfM := ((⟨"NearSpellModel", "chain", "(III)I"⟩, prog_14_method_94_code, 6, (some .int)), (25,2111), ([.inr (.inl [114]),.inl (((-2147483648),2147483647,1),none),.inl (((-2147483648),2147483647,1),none),.inl (((-2147483648),2147483647,1),none)],[((77,1),(1,31,1),none),((114,28),(1,1,0),none),((998,0),(1,1,0),none)]), [(94,0),(95,0),(96,0),(97,0),(102,0),(103,0),(114,45),(114,46)], [(some (.inl (((-1),14,1),none)),[],[])])
def q1081_P : rfP := (flX12,csX12,lcX12,spX12,[q788_M,q994_M,q1055_M,q684_M,q1079_M],[(251,3),(334,1)],[(350,0,12),(450,2,12),(456,4,12)],([],[]))
def q1081_U : rfU := []
set_option maxHeartbeats 8000000 in
def q1081_N : List rfB := [(0,([(0,.inr (.inl [114])),(1,.inl (((-2147483648),2147483647,1),none)),(2,.inl (((-2147483648),2147483647,1),none)),(3,.inl (((-2147483648),2147483647,1),none))],[],[((77,1),(1,31,1),some ((77,1),0,0)),((114,28),(1,1,0),some ((114,28),0,0)),((998,0),(1,1,0),some ((998,0),0,0))]),(247,[0]),0),
  (26,([(0,.inr (.inl [114])),(1,.inl (((-2147483648),2147483647,1),none)),(2,.inl (((-2147483648),2147483647,1),none)),(3,.inl (((-2147483648),2147483647,1),none))],[],[((77,1),(1,31,1),some ((77,1),0,0)),((114,28),(1,1,0),some ((114,28),0,0)),((998,0),(1,1,0),some ((998,0),0,0))]),(232,[0]),0),
  (41,([(0,.inr (.inl [114])),(1,.inl ((0,13,1),none)),(2,.inl ((0,13,1),none)),(3,.inl ((0,6,1),none)),(4,.inl (((-2147483648),2147483647,1),none)),(5,.inl ((0,14,1),none))],[],[((77,1),(1,31,1),some ((77,1),0,0)),((90,28),(1,14,1),none),((114,28),(1,1,0),some ((114,28),0,0)),((998,0),(1,1,0),some ((998,0),0,0))]),(218,[(-14)]),0),
  (71,([(0,.inr (.inl [114])),(1,.inl ((0,13,1),none)),(2,.inl ((0,13,1),none)),(3,.inl ((0,6,1),none)),(4,.inl (((-2147483648),2147483647,1),none)),(5,.inl ((0,14,1),none))],[],[((77,1),(1,31,1),some ((77,1),0,0)),((90,28),(1,14,1),none),((114,28),(1,1,0),some ((114,28),0,0)),((998,0),(1,1,0),some ((998,0),0,0))]),(9,[0]),0)]
set_option maxRecDepth 100000 in
theorem q1081_ok : rf_chkB q1081_P q1081_U wLay q1081_M ddX12_chain [(2,[0]),(10,[0]),(20,[1]),(30,[2]),(51,[3]),(60,[4]),(74,[3])] [.inl 5] [0,26,41,71] 600 q1081_N = true := by decide +kernel
set_option maxHeartbeats 4000000 in
theorem q1081_met {G : rfG} (h : okG G) (hh : w1OK G) : rf_met G q1081_M := rf_methodB h.1 (P := q1081_P) (U := q1081_U) (N := q1081_N) ⟨wflT h flokX12, wcsT h csokX12, wlcT h lcokX12, spokX12 h, List.forall_mem_cons.mpr ⟨q788_met h, List.forall_mem_cons.mpr ⟨q994_met h, List.forall_mem_cons.mpr ⟨q1055_met h hh, List.forall_mem_cons.mpr ⟨q684_met h, List.forall_mem_cons.mpr ⟨q1079_met h, fun _ h => absurd h List.not_mem_nil⟩⟩⟩⟩⟩, List.forall_mem_cons.mpr ⟨fun M hM => Option.some.inj (show some q684_M = some M from hM) ▸ wlkS (lkX12_251 h) q684_M rfl rfl, List.forall_mem_cons.mpr ⟨fun M hM => Option.some.inj (show some q994_M = some M from hM) ▸ wlkS (lkX12_334 h) q994_M rfl rfl, fun _ h => absurd h List.not_mem_nil⟩⟩, List.forall_mem_cons.mpr ⟨fun M hM => Option.some.inj (show some q788_M = some M from hM) ▸ wlkV (lkX12_350 h) q788_M rfl rfl, List.forall_mem_cons.mpr ⟨fun M hM => Option.some.inj (show some q1055_M = some M from hM) ▸ wlkV (lkX12_450 h) q1055_M rfl rfl, List.forall_mem_cons.mpr ⟨fun M hM => Option.some.inj (show some q1079_M = some M from hM) ▸ wlkV (lkX12_456 h) q1079_M rfl rfl, fun _ h => absurd h List.not_mem_nil⟩⟩⟩, fun _ h => absurd h List.not_mem_nil, fun _ h => absurd h List.not_mem_nil⟩ dkX12_chain (by decide +kernel) (by rw [h.2.2.1]; exact q1081_ok)
/-- NearSpellModel.begins -/
def q1082_M : rfM := ((⟨"NearSpellModel", "begins", "(I)I"⟩, prog_14_method_95_code, 5, (some .int)), (2,45), ([.inr (.inl [114]),.inl (((-2147483648),2147483647,1),none)],[((114,28),(0,0,0),none),((998,0),(1,1,0),none)]), [], [(some (.inl (((-1),13,1),none)),[],[])])
def ddX12_begins : List (Nat × Instr × Nat) := [(0,.iload_n 1,1),(1,.invokestatic 420,3),(4,.ifCond .ne 5,3),(7,.iconst (-1),1),(8,.ireturn,1),(9,.iload_n 1,1),(10,.invokestatic 319,3),(13,.istore_n 2,1),(14,.iconst (-1),1),(15,.istore_n 3,1),(16,.iconst 0,1),(17,.istore 4,2),(19,.iload 4,2),(21,.bipush 14,2),(23,.if_icmp .ge 83,3),(26,.aload_n 0,1),(27,.iload 4,2),(29,.invokevirtual 350,3),(32,.ifCond .eq 68,3),(35,.aload_n 0,1),(36,.getfield 72,3),(39,.iconst 0,1),(40,.iload 4,2),(42,.iadd,1),(43,.iaload,1),(44,.invokestatic 319,3),(47,.iload_n 2,1),(48,.if_icmp .lt 52,3),(51,.aload_n 0,1),(52,.getfield 72,3),(55,.iconst 0,1),(56,.iload 4,2),(58,.iadd,1),(59,.iaload,1),(60,.iload_n 2,1),(61,.invokestatic 322,3),(64,.iload_n 1,1),(65,.if_icmp .eq 6,3),(68,.goto 32,3),(71,.iload_n 3,1),(72,.ifCond .lt 25,3),(75,.aload_n 0,1),(76,.getfield 72,3),(79,.bipush 14,2),(81,.iload 4,2),(83,.iadd,1),(84,.iaload,1),(85,.aload_n 0,1),(86,.getfield 72,3),(89,.bipush 14,2),(91,.iload_n 3,1),(92,.iadd,1),(93,.iaload,1),(94,.if_icmp .le 6,3),(97,.iload 4,2),(99,.istore_n 3,1),(100,.iinc 4 1,3),(103,.goto (-84),3),(106,.iload_n 3,1),(107,.ireturn,1)]
set_option maxRecDepth 100000 in
theorem dkX12_begins : rf_decs prog_14_method_95_code ddX12_begins := rf_decs_of (by decide +kernel)
def q1082_P : rfP := (flX12,csX12,lcX12,spX12,[q810_M,q837_M,q827_M,q789_M,q791_M],[(319,1),(319,3),(322,4),(420,0)],[(350,2,12)],([],[]))
def q1082_U : rfU := []
set_option maxHeartbeats 8000000 in
def q1082_N : List rfB := [(0,([(0,.inr (.inl [114])),(1,.inl (((-2147483648),2147483647,1),none))],[],[((114,28),(0,0,0),some ((114,28),0,0)),((998,0),(1,1,0),some ((998,0),0,0))]),(734,[0]),0),
  (19,([(0,.inr (.inl [114])),(1,.inl ((0,387420488,1),none)),(2,.inl ((0,6,1),none)),(3,.inl (((-1),13,1),none)),(4,.inl ((0,14,1),none))],[],[((114,28),(0,0,0),some ((114,28),0,0)),((998,0),(1,1,0),some ((998,0),0,0))]),(722,[(-48)]),0),
  (100,([(0,.inr (.inl [114])),(1,.inl ((0,387420488,1),none)),(2,.inl ((0,6,1),none)),(3,.inl (((-1),13,1),none)),(4,.inl ((0,13,1),none))],[],[((114,28),(0,0,0),some ((114,28),0,0)),((998,0),(1,1,0),some ((998,0),0,0))]),(677,[(-48)]),0),
  (97,([(0,.inr (.inl [114])),(1,.inl ((0,387420488,1),none)),(2,.inl ((0,6,1),none)),(3,.inl (((-1),13,1),none)),(4,.inl ((0,13,1),none))],[],[((90,28),(1,14,1),none),((114,28),(0,0,0),some ((114,28),0,0)),((998,0),(1,1,0),some ((998,0),0,0))]),(681,[(-48)]),0)]
set_option maxRecDepth 100000 in
theorem q1082_ok : rf_chkB q1082_P q1082_U wLay q1082_M ddX12_begins [(1,[0]),(10,[1]),(29,[2]),(44,[3]),(61,[4])] [.inl 4] [0,19,97,100] 600 q1082_N = true := by decide +kernel
set_option maxHeartbeats 4000000 in
theorem q1082_met {G : rfG} (h : okG G) : rf_met G q1082_M := rf_methodB h.1 (P := q1082_P) (U := q1082_U) (N := q1082_N) ⟨wflT h flokX12, wcsT h csokX12, wlcT h lcokX12, spokX12 h, List.forall_mem_cons.mpr ⟨q810_met h, List.forall_mem_cons.mpr ⟨q837_met h, List.forall_mem_cons.mpr ⟨q827_met h, List.forall_mem_cons.mpr ⟨q789_met h, List.forall_mem_cons.mpr ⟨q791_met h, fun _ h => absurd h List.not_mem_nil⟩⟩⟩⟩⟩, List.forall_mem_cons.mpr ⟨fun M hM => Option.some.inj (show some q837_M = some M from hM) ▸ wlkS (lkX12_319 h) q837_M rfl rfl, List.forall_mem_cons.mpr ⟨fun M hM => Option.some.inj (show some q789_M = some M from hM) ▸ wlkS (lkX12_319 h) q789_M rfl rfl, List.forall_mem_cons.mpr ⟨fun M hM => Option.some.inj (show some q791_M = some M from hM) ▸ wlkS (lkX12_322 h) q791_M rfl rfl, List.forall_mem_cons.mpr ⟨fun M hM => Option.some.inj (show some q810_M = some M from hM) ▸ wlkS (lkX12_420 h) q810_M rfl rfl, fun _ h => absurd h List.not_mem_nil⟩⟩⟩⟩, List.forall_mem_cons.mpr ⟨fun M hM => Option.some.inj (show some q827_M = some M from hM) ▸ wlkV (lkX12_350 h) q827_M rfl rfl, fun _ h => absurd h List.not_mem_nil⟩, fun _ h => absurd h List.not_mem_nil, fun _ h => absurd h List.not_mem_nil⟩ dkX12_begins (by decide +kernel) (by rw [h.2.2.1]; exact q1082_ok)
/-- NearSpellModel.begins -/
def q1083_M : rfM := ((⟨"NearSpellModel", "begins", "(I)I"⟩, prog_14_method_95_code, 5, (some .int)), (2,45), ([.inr (.inl [114]),.inl (((-2147483648),2147483647,1),none)],[((77,1),(1,31,1),none),((114,28),(1,1,0),none),((998,0),(1,1,0),none)]), [], [(some (.inl (((-1),13,1),none)),[],[])])
def q1083_P : rfP := (flX12,csX12,lcX12,spX12,[q810_M,q837_M,q827_M,q789_M,q791_M],[(319,1),(319,3),(322,4),(420,0)],[(350,2,12)],([],[]))
def q1083_U : rfU := []
set_option maxHeartbeats 8000000 in
def q1083_N : List rfB := [(0,([(0,.inr (.inl [114])),(1,.inl (((-2147483648),2147483647,1),none))],[],[((77,1),(1,31,1),some ((77,1),0,0)),((114,28),(1,1,0),some ((114,28),0,0)),((998,0),(1,1,0),some ((998,0),0,0))]),(734,[0]),0),
  (19,([(0,.inr (.inl [114])),(1,.inl ((0,387420488,1),none)),(2,.inl ((0,6,1),none)),(3,.inl (((-1),13,1),none)),(4,.inl ((0,14,1),none))],[],[((77,1),(1,31,1),some ((77,1),0,0)),((114,28),(1,1,0),some ((114,28),0,0)),((998,0),(1,1,0),some ((998,0),0,0))]),(722,[(-48)]),0),
  (100,([(0,.inr (.inl [114])),(1,.inl ((0,387420488,1),none)),(2,.inl ((0,6,1),none)),(3,.inl (((-1),13,1),none)),(4,.inl ((0,13,1),none))],[],[((77,1),(1,31,1),some ((77,1),0,0)),((114,28),(1,1,0),some ((114,28),0,0)),((998,0),(1,1,0),some ((998,0),0,0))]),(677,[(-48)]),0),
  (97,([(0,.inr (.inl [114])),(1,.inl ((0,387420488,1),none)),(2,.inl ((0,6,1),none)),(3,.inl (((-1),13,1),none)),(4,.inl ((0,13,1),none))],[],[((77,1),(1,31,1),some ((77,1),0,0)),((90,28),(1,14,1),none),((114,28),(1,1,0),some ((114,28),0,0)),((998,0),(1,1,0),some ((998,0),0,0))]),(681,[(-48)]),0)]
set_option maxRecDepth 100000 in
theorem q1083_ok : rf_chkB q1083_P q1083_U wLay q1083_M ddX12_begins [(1,[0]),(10,[1]),(29,[2]),(44,[3]),(61,[4])] [.inl 4] [0,19,97,100] 600 q1083_N = true := by decide +kernel
set_option maxHeartbeats 4000000 in
theorem q1083_met {G : rfG} (h : okG G) : rf_met G q1083_M := rf_methodB h.1 (P := q1083_P) (U := q1083_U) (N := q1083_N) ⟨wflT h flokX12, wcsT h csokX12, wlcT h lcokX12, spokX12 h, List.forall_mem_cons.mpr ⟨q810_met h, List.forall_mem_cons.mpr ⟨q837_met h, List.forall_mem_cons.mpr ⟨q827_met h, List.forall_mem_cons.mpr ⟨q789_met h, List.forall_mem_cons.mpr ⟨q791_met h, fun _ h => absurd h List.not_mem_nil⟩⟩⟩⟩⟩, List.forall_mem_cons.mpr ⟨fun M hM => Option.some.inj (show some q837_M = some M from hM) ▸ wlkS (lkX12_319 h) q837_M rfl rfl, List.forall_mem_cons.mpr ⟨fun M hM => Option.some.inj (show some q789_M = some M from hM) ▸ wlkS (lkX12_319 h) q789_M rfl rfl, List.forall_mem_cons.mpr ⟨fun M hM => Option.some.inj (show some q791_M = some M from hM) ▸ wlkS (lkX12_322 h) q791_M rfl rfl, List.forall_mem_cons.mpr ⟨fun M hM => Option.some.inj (show some q810_M = some M from hM) ▸ wlkS (lkX12_420 h) q810_M rfl rfl, fun _ h => absurd h List.not_mem_nil⟩⟩⟩⟩, List.forall_mem_cons.mpr ⟨fun M hM => Option.some.inj (show some q827_M = some M from hM) ▸ wlkV (lkX12_350 h) q827_M rfl rfl, fun _ h => absurd h List.not_mem_nil⟩, fun _ h => absurd h List.not_mem_nil, fun _ h => absurd h List.not_mem_nil⟩ dkX12_begins (by decide +kernel) (by rw [h.2.2.1]; exact q1083_ok)
/-- NearSpellModel.isIn -/
def q1084_M : rfM := ((⟨"NearSpellModel", "isIn", "(III)Z"⟩, prog_14_method_35_code, 3, (some .boolean)), (0,0), ([.inl ((0,5,1),none),.inl ((0,0,0),none),.inl (((-1),13,1),none)],[]), [], [(some (.inl ((1,1,0),none)),[(2,0,13)],[]),(some (.inl ((0,0,0),none)),[(2,(-1),4)],[])])
def q1084_P : rfP := (flX12,csX12,lcX12,spX12,[],[],[],([],[]))
def q1084_U : rfU := []
set_option maxHeartbeats 8000000 in
def q1084_N : List rfB := [(0,([(0,.inl ((0,5,1),none)),(1,.inl ((0,0,0),none)),(2,.inl (((-1),13,1),none))],[],[]),(10,[]),0)]
set_option maxRecDepth 100000 in
theorem q1084_ok : rf_chkB q1084_P q1084_U wLay q1084_M ddX12_isIn [] [] [0] 600 q1084_N = true := by decide +kernel
set_option maxHeartbeats 4000000 in
theorem q1084_met {G : rfG} (h : okG G) : rf_met G q1084_M := rf_methodB h.1 (P := q1084_P) (U := q1084_U) (N := q1084_N) ⟨wflT h flokX12, wcsT h csokX12, wlcT h lcokX12, spokX12 h, fun _ h => absurd h List.not_mem_nil, fun _ h => absurd h List.not_mem_nil, fun _ h => absurd h List.not_mem_nil, fun _ h => absurd h List.not_mem_nil, fun _ h => absurd h List.not_mem_nil⟩ dkX12_isIn (by decide +kernel) (by rw [h.2.2.1]; exact q1084_ok)
/-- NearSpellModel.isEntry -/
def q1085_M : rfM := ((⟨"NearSpellModel", "isEntry", "(I)Z"⟩, prog_14_method_46_code, 2, (some .boolean)), (1,22), ([.inr (.inl [114]),.inl ((0,5,1),none)],[]), [], [(some (.inl ((1,1,0),none)),[],[((90,28),(1,14,1),none)]),(some (.inl ((0,0,0),none)),[],[])])
def q1085_P : rfP := (flX12,csX12,lcX12,spX12,[q1084_M],[(334,0)],[],([],[]))
def q1085_U : rfU := []
set_option maxHeartbeats 8000000 in
def q1085_N : List rfB := [(0,([(0,.inr (.inl [114])),(1,.inl ((0,5,1),none))],[],[]),(22,[]),0),
  (32,([(0,.inr (.inl [114])),(1,.inl ((0,5,1),none))],[],[]),(1,[]),0)]
set_option maxRecDepth 100000 in
theorem q1085_ok : rf_chkB q1085_P q1085_U wLay q1085_M ddX12_isEntry [(11,[0])] [] [0,32] 600 q1085_N = true := by decide +kernel
set_option maxHeartbeats 4000000 in
theorem q1085_met {G : rfG} (h : okG G) : rf_met G q1085_M := rf_methodB h.1 (P := q1085_P) (U := q1085_U) (N := q1085_N) ⟨wflT h flokX12, wcsT h csokX12, wlcT h lcokX12, spokX12 h, List.forall_mem_cons.mpr ⟨q1084_met h, fun _ h => absurd h List.not_mem_nil⟩, List.forall_mem_cons.mpr ⟨fun M hM => Option.some.inj (show some q1084_M = some M from hM) ▸ wlkS (lkX12_334 h) q1084_M rfl rfl, fun _ h => absurd h List.not_mem_nil⟩, fun _ h => absurd h List.not_mem_nil, fun _ h => absurd h List.not_mem_nil, fun _ h => absurd h List.not_mem_nil⟩ dkX12_isEntry (by decide +kernel) (by rw [h.2.2.1]; exact q1085_ok)
/-- NearSpellModel.crowded -/
def q1086_M : rfM := ((⟨"NearSpellModel", "crowded", "(I)I"⟩, prog_14_method_96_code, 4, (some .int)), (25,2111), ([.inr (.inl [114]),.inl (((-2147483648),2147483647,1),none)],[((114,28),(0,0,0),none),((998,0),(1,1,0),none)]), [(94,0),(95,0),(96,0),(97,0),(102,0),(103,0),(114,45),(114,46)], [(some (.inl (((-2147483648),2147483647,1),none)),[],[])])
def ddX12_crowded : List (Nat × Instr × Nat) := [(0,.iload_n 1,1),(1,.iconst 0,1),(2,.bipush 6,2),(4,.invokestatic 334,3),(7,.ifCond .ne 5,3),(10,.iconst (-1),1),(11,.ireturn,1),(12,.aload_n 0,1),(13,.iload_n 1,1),(14,.invokevirtual 450,3),(17,.iconst 0,1),(18,.istore_n 2,1),(19,.iconst 0,1),(20,.istore_n 3,1),(21,.iload_n 3,1),(22,.bipush 14,2),(24,.if_icmp .ge 37,3),(27,.iload_n 2,1),(28,.aload_n 0,1),(29,.iload_n 3,1),(30,.invokevirtual 350,3),(33,.ifCond .eq 19,3),(36,.aload_n 0,1),(37,.getfield 108,3),(40,.iload_n 3,1),(41,.iaload,1),(42,.iconst 1,1),(43,.iload_n 3,1),(44,.ishl,1),(45,.if_icmp .eq 7,3),(48,.iconst 1,1),(49,.goto 4,3),(52,.iconst 0,1),(53,.iadd,1),(54,.istore_n 2,1),(55,.iinc 3 1,3),(58,.goto (-37),3),(61,.iload_n 2,1),(62,.ireturn,1)]
set_option maxRecDepth 100000 in
theorem dkX12_crowded : rf_decs prog_14_method_96_code ddX12_crowded := rf_decs_of (by decide +kernel)
def q1086_P : rfP := (flX12,csX12,lcX12,spX12,[q994_M,q1055_M,q827_M],[(334,0)],[(350,2,12),(450,1,12)],([],[]))
def q1086_U : rfU := []
set_option maxHeartbeats 8000000 in
def q1086_N : List rfB := [(0,([(0,.inr (.inl [114])),(1,.inl (((-2147483648),2147483647,1),none))],[],[((114,28),(0,0,0),some ((114,28),0,0)),((998,0),(1,1,0),some ((998,0),0,0))]),(406,[0]),0),
  (21,([(0,.inr (.inl [114])),(1,.inl ((0,6,1),none)),(2,.inl (((-2147483648),2147483647,1),none)),(3,.inl ((0,14,1),none))],[],[((114,28),(0,0,0),some ((114,28),0,0)),((998,0),(1,1,0),some ((998,0),0,0))]),(389,[(-26)]),0),
  (52,([(0,.inr (.inl [114])),(1,.inl ((0,6,1),none)),(2,.inl (((-2147483648),2147483647,1),none)),(3,.inl ((0,13,1),none))],[.inl (((-2147483648),2147483647,1),some (.inl 2,some 0))],[((114,28),(0,0,0),some ((114,28),0,0)),((998,0),(1,1,0),some ((998,0),0,0))]),(369,[(-26)]),0),
  (54,([(0,.inr (.inl [114])),(1,.inl ((0,6,1),none)),(2,.inl (((-2147483648),2147483647,1),none)),(3,.inl ((0,13,1),none))],[.inl (((-2147483648),2147483647,1),none)],[((114,28),(0,0,0),some ((114,28),0,0)),((998,0),(1,1,0),some ((998,0),0,0))]),(367,[(-26)]),0)]
set_option maxRecDepth 100000 in
theorem q1086_ok : rf_chkB q1086_P q1086_U wLay q1086_M ddX12_crowded [(4,[0]),(14,[1]),(30,[2])] [.inl 3] [0,21,52,54] 600 q1086_N = true := by decide +kernel
set_option maxHeartbeats 4000000 in
theorem q1086_met {G : rfG} (h : okG G) (hh : w1OK G) : rf_met G q1086_M := rf_methodB h.1 (P := q1086_P) (U := q1086_U) (N := q1086_N) ⟨wflT h flokX12, wcsT h csokX12, wlcT h lcokX12, spokX12 h, List.forall_mem_cons.mpr ⟨q994_met h, List.forall_mem_cons.mpr ⟨q1055_met h hh, List.forall_mem_cons.mpr ⟨q827_met h, fun _ h => absurd h List.not_mem_nil⟩⟩⟩, List.forall_mem_cons.mpr ⟨fun M hM => Option.some.inj (show some q994_M = some M from hM) ▸ wlkS (lkX12_334 h) q994_M rfl rfl, fun _ h => absurd h List.not_mem_nil⟩, List.forall_mem_cons.mpr ⟨fun M hM => Option.some.inj (show some q827_M = some M from hM) ▸ wlkV (lkX12_350 h) q827_M rfl rfl, List.forall_mem_cons.mpr ⟨fun M hM => Option.some.inj (show some q1055_M = some M from hM) ▸ wlkV (lkX12_450 h) q1055_M rfl rfl, fun _ h => absurd h List.not_mem_nil⟩⟩, fun _ h => absurd h List.not_mem_nil, fun _ h => absurd h List.not_mem_nil⟩ dkX12_crowded (by decide +kernel) (by rw [h.2.2.1]; exact q1086_ok)
/-- NearSpellModel.crowded -/
def q1087_M : rfM := ((⟨"NearSpellModel", "crowded", "(I)I"⟩, prog_14_method_96_code, 4, (some .int)), (25,2111), ([.inr (.inl [114]),.inl (((-2147483648),2147483647,1),none)],[((77,1),(1,31,1),none),((114,28),(1,1,0),none),((998,0),(1,1,0),none)]), [(94,0),(95,0),(96,0),(97,0),(102,0),(103,0),(114,45),(114,46)], [(some (.inl (((-2147483648),2147483647,1),none)),[],[])])
def q1087_P : rfP := (flX12,csX12,lcX12,spX12,[q994_M,q1055_M,q827_M],[(334,0)],[(350,2,12),(450,1,12)],([],[]))
def q1087_U : rfU := []
set_option maxHeartbeats 8000000 in
def q1087_N : List rfB := [(0,([(0,.inr (.inl [114])),(1,.inl (((-2147483648),2147483647,1),none))],[],[((77,1),(1,31,1),some ((77,1),0,0)),((114,28),(1,1,0),some ((114,28),0,0)),((998,0),(1,1,0),some ((998,0),0,0))]),(406,[0]),0),
  (21,([(0,.inr (.inl [114])),(1,.inl ((0,6,1),none)),(2,.inl (((-2147483648),2147483647,1),none)),(3,.inl ((0,14,1),none))],[],[((77,1),(1,31,1),some ((77,1),0,0)),((114,28),(1,1,0),some ((114,28),0,0)),((998,0),(1,1,0),some ((998,0),0,0))]),(389,[(-26)]),0),
  (52,([(0,.inr (.inl [114])),(1,.inl ((0,6,1),none)),(2,.inl (((-2147483648),2147483647,1),none)),(3,.inl ((0,13,1),none))],[.inl (((-2147483648),2147483647,1),some (.inl 2,some 0))],[((77,1),(1,31,1),some ((77,1),0,0)),((114,28),(1,1,0),some ((114,28),0,0)),((998,0),(1,1,0),some ((998,0),0,0))]),(369,[(-26)]),0),
  (54,([(0,.inr (.inl [114])),(1,.inl ((0,6,1),none)),(2,.inl (((-2147483648),2147483647,1),none)),(3,.inl ((0,13,1),none))],[.inl (((-2147483648),2147483647,1),none)],[((77,1),(1,31,1),some ((77,1),0,0)),((114,28),(1,1,0),some ((114,28),0,0)),((998,0),(1,1,0),some ((998,0),0,0))]),(367,[(-26)]),0)]
set_option maxRecDepth 100000 in
theorem q1087_ok : rf_chkB q1087_P q1087_U wLay q1087_M ddX12_crowded [(4,[0]),(14,[1]),(30,[2])] [.inl 3] [0,21,52,54] 600 q1087_N = true := by decide +kernel
set_option maxHeartbeats 4000000 in
theorem q1087_met {G : rfG} (h : okG G) (hh : w1OK G) : rf_met G q1087_M := rf_methodB h.1 (P := q1087_P) (U := q1087_U) (N := q1087_N) ⟨wflT h flokX12, wcsT h csokX12, wlcT h lcokX12, spokX12 h, List.forall_mem_cons.mpr ⟨q994_met h, List.forall_mem_cons.mpr ⟨q1055_met h hh, List.forall_mem_cons.mpr ⟨q827_met h, fun _ h => absurd h List.not_mem_nil⟩⟩⟩, List.forall_mem_cons.mpr ⟨fun M hM => Option.some.inj (show some q994_M = some M from hM) ▸ wlkS (lkX12_334 h) q994_M rfl rfl, fun _ h => absurd h List.not_mem_nil⟩, List.forall_mem_cons.mpr ⟨fun M hM => Option.some.inj (show some q827_M = some M from hM) ▸ wlkV (lkX12_350 h) q827_M rfl rfl, List.forall_mem_cons.mpr ⟨fun M hM => Option.some.inj (show some q1055_M = some M from hM) ▸ wlkV (lkX12_450 h) q1055_M rfl rfl, fun _ h => absurd h List.not_mem_nil⟩⟩, fun _ h => absurd h List.not_mem_nil, fun _ h => absurd h List.not_mem_nil⟩ dkX12_crowded (by decide +kernel) (by rw [h.2.2.1]; exact q1087_ok)
/-- NearSpellModel.isIn -/
def q1088_M : rfM := ((⟨"NearSpellModel", "isIn", "(III)Z"⟩, prog_14_method_35_code, 3, (some .boolean)), (0,0), ([.inl (((-2147483648),2147483647,1),none),.inl ((0,0,0),none),.inl ((0,30,1),none)],[]), [], [(some (.inl ((1,1,0),none)),[(0,0,30)],[]),(some (.inl ((0,0,0),none)),[],[])])
def q1088_P : rfP := (flX12,csX12,lcX12,spX12,[],[],[],([],[]))
def q1088_U : rfU := []
set_option maxHeartbeats 8000000 in
def q1088_N : List rfB := [(0,([(0,.inl (((-2147483648),2147483647,1),none)),(1,.inl ((0,0,0),none)),(2,.inl ((0,30,1),none))],[],[]),(10,[]),0),
  (14,([(0,.inl (((-2147483648),2147483647,1),none)),(1,.inl ((0,0,0),none)),(2,.inl ((0,30,1),none))],[],[]),(1,[]),0)]
set_option maxRecDepth 100000 in
theorem q1088_ok : rf_chkB q1088_P q1088_U wLay q1088_M ddX12_isIn [] [] [0,14] 600 q1088_N = true := by decide +kernel
set_option maxHeartbeats 4000000 in
theorem q1088_met {G : rfG} (h : okG G) : rf_met G q1088_M := rf_methodB h.1 (P := q1088_P) (U := q1088_U) (N := q1088_N) ⟨wflT h flokX12, wcsT h csokX12, wlcT h lcokX12, spokX12 h, fun _ h => absurd h List.not_mem_nil, fun _ h => absurd h List.not_mem_nil, fun _ h => absurd h List.not_mem_nil, fun _ h => absurd h List.not_mem_nil, fun _ h => absurd h List.not_mem_nil⟩ dkX12_isIn (by decide +kernel) (by rw [h.2.2.1]; exact q1088_ok)
/-- NearSpellModel.loadOf -/
def q1089_M : rfM := ((⟨"NearSpellModel", "loadOf", "(I)I"⟩, prog_14_method_97_code, 5, (some .int)), (22,2045), ([.inr (.inl [114]),.inl ((0,30,1),none)],[((114,28),(0,0,0),none),((998,0),(1,1,0),none)]), [(89,0),(114,35)], [(some (.inl (((-2147483648),2147483647,1),none)),[],[])])
def ddX12_loadOf : List (Nat × Instr × Nat) := [(0,.iconst 0,1),(1,.istore_n 2,1),(2,.iconst 0,1),(3,.istore_n 3,1),(4,.iload_n 3,1),(5,.bipush 14,2),(7,.if_icmp .ge 57,3),(10,.iconst 0,1),(11,.istore 4,2),(13,.iload 4,2),(15,.aload_n 0,1),(16,.getfield 81,3),(19,.iload_n 3,1),(20,.iaload,1),(21,.if_icmp .ge 37,3),(24,.iload_n 2,1),(25,.aload_n 0,1),(26,.aload_n 0,1),(27,.getfield 78,3),(30,.bipush 64,2),(32,.iload_n 3,1),(33,.imul,1),(34,.iload 4,2),(36,.iadd,1),(37,.iaload,1),(38,.invokevirtual 369,3),(41,.iload_n 1,1),(42,.if_icmp .ne 7,3),(45,.iconst 1,1),(46,.goto 4,3),(49,.iconst 0,1),(50,.iadd,1),(51,.istore_n 2,1),(52,.iinc 4 1,3),(55,.goto (-42),3),(58,.iinc 3 1,3),(61,.goto (-57),3),(64,.iload_n 2,1),(65,.ireturn,1)]
set_option maxRecDepth 100000 in
theorem dkX12_loadOf : rf_decs prog_14_method_97_code ddX12_loadOf := rf_decs_of (by decide +kernel)
def q1089_P : rfP := (flX12,csX12,lcX12,spX12,[q854_M],[],[(369,0,12)],([],[]))
def q1089_U : rfU := []
set_option maxHeartbeats 8000000 in
def q1089_N : List rfB := [(0,([(0,.inr (.inl [114])),(1,.inl ((0,30,1),none))],[],[((114,28),(0,0,0),some ((114,28),0,0)),((998,0),(1,1,0),some ((998,0),0,0))]),(27425,[0,0]),0),
  (4,([(0,.inr (.inl [114])),(1,.inl ((0,30,1),none)),(2,.inl (((-2147483648),2147483647,1),none)),(3,.inl ((0,14,1),none))],[],[((114,28),(0,0,0),some ((114,28),0,0)),((998,0),(1,1,0),some ((998,0),0,0))]),(27419,[(-1828),0]),0),
  (13,([(0,.inr (.inl [114])),(1,.inl ((0,30,1),none)),(2,.inl (((-2147483648),2147483647,1),none)),(3,.inl ((0,13,1),none)),(4,.inl ((0,64,1),none))],[],[((114,28),(0,0,0),some ((114,28),0,0)),((998,0),(1,1,0),some ((998,0),0,0))]),(27412,[(-1828),(-28)]),0),
  (51,([(0,.inr (.inl [114])),(1,.inl ((0,30,1),none)),(2,.inl (((-2147483648),2147483647,1),none)),(3,.inl ((0,13,1),none)),(4,.inl ((0,63,1),none))],[.inl (((-2147483648),2147483647,1),none)],[((114,28),(0,0,0),some ((114,28),0,0)),((998,0),(1,1,0),some ((998,0),0,0))]),(27388,[(-1828),(-28)]),0)]
set_option maxRecDepth 100000 in
theorem q1089_ok : rf_chkB q1089_P q1089_U wLay q1089_M ddX12_loadOf [(38,[0])] [.inl 3,.inl 4] [0,4,13,51] 600 q1089_N = true := by decide +kernel
set_option maxHeartbeats 4000000 in
theorem q1089_met {G : rfG} (h : okG G) (hh : w1OK G) : rf_met G q1089_M := rf_methodB h.1 (P := q1089_P) (U := q1089_U) (N := q1089_N) ⟨wflT h flokX12, wcsT h csokX12, wlcT h lcokX12, spokX12 h, List.forall_mem_cons.mpr ⟨q854_met h hh, fun _ h => absurd h List.not_mem_nil⟩, fun _ h => absurd h List.not_mem_nil, List.forall_mem_cons.mpr ⟨fun M hM => Option.some.inj (show some q854_M = some M from hM) ▸ wlkV (lkX12_369 h) q854_M rfl rfl, fun _ h => absurd h List.not_mem_nil⟩, fun _ h => absurd h List.not_mem_nil, fun _ h => absurd h List.not_mem_nil⟩ dkX12_loadOf (by decide +kernel) (by rw [h.2.2.1]; exact q1089_ok)
/-- NearSpellModel.load -/
def q1090_M : rfM := ((⟨"NearSpellModel", "load", "(I)I"⟩, prog_14_method_98_code, 3, (some .int)), (23,2069), ([.inr (.inl [114]),.inl (((-2147483648),2147483647,1),none)],[((114,28),(0,0,0),none),((998,0),(1,1,0),none)]), [(89,0),(91,0),(92,0),(93,0),(114,35),(114,40)], [(some (.inl (((-2147483648),2147483647,1),none)),[],[])])
def ddX12_load : List (Nat × Instr × Nat) := [(0,.iload_n 1,1),(1,.iconst 0,1),(2,.aload_n 0,1),(3,.getfield 33,3),(6,.aload_n 0,1),(7,.getfield 242,3),(10,.iaload,1),(11,.iconst 1,1),(12,.isub,1),(13,.invokestatic 334,3),(16,.ifCond .ne 5,3),(19,.iconst (-1),1),(20,.ireturn,1),(21,.aload_n 0,1),(22,.aload_n 0,1),(23,.invokevirtual 372,3),(26,.invokevirtual 375,3),(29,.istore_n 2,1),(30,.iload_n 2,1),(31,.ifCond .ne 7,3),(34,.iconst 0,1),(35,.goto 8,3),(38,.aload_n 0,1),(39,.iload_n 1,1),(40,.invokevirtual 462,3),(43,.ireturn,1)]
set_option maxRecDepth 100000 in
theorem dkX12_load : rf_decs prog_14_method_98_code ddX12_load := rf_decs_of (by decide +kernel)
def q1090_P : rfP := (flX12,csX12,lcX12,spX12,[q1088_M,q790_M,q850_M,q1089_M],[(334,0)],[(372,1,12),(375,2,12),(462,3,12)],([],[]))
def q1090_U : rfU := []
set_option maxHeartbeats 8000000 in
def q1090_N : List rfB := [(0,([(0,.inr (.inl [114])),(1,.inl (((-2147483648),2147483647,1),none))],[],[((114,28),(0,0,0),some ((114,28),0,0)),((998,0),(1,1,0),some ((998,0),0,0))]),(27,[]),0)]
set_option maxRecDepth 100000 in
theorem q1090_ok : rf_chkB q1090_P q1090_U wLay q1090_M ddX12_load [(13,[0]),(23,[1]),(26,[2]),(40,[3])] [] [0] 600 q1090_N = true := by decide +kernel
set_option maxHeartbeats 4000000 in
theorem q1090_met {G : rfG} (h : okG G) (hh : w1OK G) : rf_met G q1090_M := rf_methodB h.1 (P := q1090_P) (U := q1090_U) (N := q1090_N) ⟨wflT h flokX12, wcsT h csokX12, wlcT h lcokX12, spokX12 h, List.forall_mem_cons.mpr ⟨q1088_met h, List.forall_mem_cons.mpr ⟨q790_met h, List.forall_mem_cons.mpr ⟨q850_met h, List.forall_mem_cons.mpr ⟨q1089_met h hh, fun _ h => absurd h List.not_mem_nil⟩⟩⟩⟩, List.forall_mem_cons.mpr ⟨fun M hM => Option.some.inj (show some q1088_M = some M from hM) ▸ wlkS (lkX12_334 h) q1088_M rfl rfl, fun _ h => absurd h List.not_mem_nil⟩, List.forall_mem_cons.mpr ⟨fun M hM => Option.some.inj (show some q790_M = some M from hM) ▸ wlkV (lkX12_372 h) q790_M rfl rfl, List.forall_mem_cons.mpr ⟨fun M hM => Option.some.inj (show some q850_M = some M from hM) ▸ wlkV (lkX12_375 h) q850_M rfl rfl, List.forall_mem_cons.mpr ⟨fun M hM => Option.some.inj (show some q1089_M = some M from hM) ▸ wlkV (lkX12_462 h) q1089_M rfl rfl, fun _ h => absurd h List.not_mem_nil⟩⟩⟩, fun _ h => absurd h List.not_mem_nil, fun _ h => absurd h List.not_mem_nil⟩ dkX12_load (by decide +kernel) (by rw [h.2.2.1]; exact q1090_ok)
/-- NearSpellModel.loadOf -/
def q1091_M : rfM := ((⟨"NearSpellModel", "loadOf", "(I)I"⟩, prog_14_method_97_code, 5, (some .int)), (22,2045), ([.inr (.inl [114]),.inl ((0,30,1),none)],[((77,1),(1,31,1),none),((114,28),(1,1,0),none),((998,0),(1,1,0),none)]), [(89,0),(114,35)], [(some (.inl (((-2147483648),2147483647,1),none)),[],[])])
def q1091_P : rfP := (flX12,csX12,lcX12,spX12,[q874_M],[],[(369,0,12)],([],[]))
def q1091_U : rfU := []
set_option maxHeartbeats 8000000 in
def q1091_N : List rfB := [(0,([(0,.inr (.inl [114])),(1,.inl ((0,30,1),none))],[],[((77,1),(1,31,1),some ((77,1),0,0)),((114,28),(1,1,0),some ((114,28),0,0)),((998,0),(1,1,0),some ((998,0),0,0))]),(27425,[0,0]),0),
  (4,([(0,.inr (.inl [114])),(1,.inl ((0,30,1),none)),(2,.inl (((-2147483648),2147483647,1),none)),(3,.inl ((0,14,1),none))],[],[((77,1),(1,31,1),some ((77,1),0,0)),((114,28),(1,1,0),some ((114,28),0,0)),((998,0),(1,1,0),some ((998,0),0,0))]),(27419,[(-1828),0]),0),
  (13,([(0,.inr (.inl [114])),(1,.inl ((0,30,1),none)),(2,.inl (((-2147483648),2147483647,1),none)),(3,.inl ((0,13,1),none)),(4,.inl ((0,64,1),none))],[],[((77,1),(1,31,1),some ((77,1),0,0)),((114,28),(1,1,0),some ((114,28),0,0)),((998,0),(1,1,0),some ((998,0),0,0))]),(27412,[(-1828),(-28)]),0),
  (51,([(0,.inr (.inl [114])),(1,.inl ((0,30,1),none)),(2,.inl (((-2147483648),2147483647,1),none)),(3,.inl ((0,13,1),none)),(4,.inl ((0,63,1),none))],[.inl (((-2147483648),2147483647,1),none)],[((77,1),(1,31,1),some ((77,1),0,0)),((114,28),(1,1,0),some ((114,28),0,0)),((998,0),(1,1,0),some ((998,0),0,0))]),(27388,[(-1828),(-28)]),0)]
set_option maxRecDepth 100000 in
theorem q1091_ok : rf_chkB q1091_P q1091_U wLay q1091_M ddX12_loadOf [(38,[0])] [.inl 3,.inl 4] [0,4,13,51] 600 q1091_N = true := by decide +kernel
set_option maxHeartbeats 4000000 in
theorem q1091_met {G : rfG} (h : okG G) (hh : w1OK G) : rf_met G q1091_M := rf_methodB h.1 (P := q1091_P) (U := q1091_U) (N := q1091_N) ⟨wflT h flokX12, wcsT h csokX12, wlcT h lcokX12, spokX12 h, List.forall_mem_cons.mpr ⟨q874_met h hh, fun _ h => absurd h List.not_mem_nil⟩, fun _ h => absurd h List.not_mem_nil, List.forall_mem_cons.mpr ⟨fun M hM => Option.some.inj (show some q874_M = some M from hM) ▸ wlkV (lkX12_369 h) q874_M rfl rfl, fun _ h => absurd h List.not_mem_nil⟩, fun _ h => absurd h List.not_mem_nil, fun _ h => absurd h List.not_mem_nil⟩ dkX12_loadOf (by decide +kernel) (by rw [h.2.2.1]; exact q1091_ok)
/-- NearSpellModel.load -/
def q1092_M : rfM := ((⟨"NearSpellModel", "load", "(I)I"⟩, prog_14_method_98_code, 3, (some .int)), (23,2069), ([.inr (.inl [114]),.inl (((-2147483648),2147483647,1),none)],[((77,1),(1,31,1),none),((114,28),(1,1,0),none),((998,0),(1,1,0),none)]), [(89,0),(91,0),(92,0),(93,0),(114,35),(114,40)], [(some (.inl (((-2147483648),2147483647,1),none)),[],[])])
def q1092_P : rfP := (flX12,csX12,lcX12,spX12,[q1088_M,q806_M,q873_M,q1091_M],[(334,0)],[(372,1,12),(375,2,12),(462,3,12)],([],[]))
def q1092_U : rfU := []
set_option maxHeartbeats 8000000 in
def q1092_N : List rfB := [(0,([(0,.inr (.inl [114])),(1,.inl (((-2147483648),2147483647,1),none))],[],[((77,1),(1,31,1),some ((77,1),0,0)),((114,28),(1,1,0),some ((114,28),0,0)),((998,0),(1,1,0),some ((998,0),0,0))]),(27,[]),0)]
set_option maxRecDepth 100000 in
theorem q1092_ok : rf_chkB q1092_P q1092_U wLay q1092_M ddX12_load [(13,[0]),(23,[1]),(26,[2]),(40,[3])] [] [0] 600 q1092_N = true := by decide +kernel
set_option maxHeartbeats 4000000 in
theorem q1092_met {G : rfG} (h : okG G) (hh : w1OK G) : rf_met G q1092_M := rf_methodB h.1 (P := q1092_P) (U := q1092_U) (N := q1092_N) ⟨wflT h flokX12, wcsT h csokX12, wlcT h lcokX12, spokX12 h, List.forall_mem_cons.mpr ⟨q1088_met h, List.forall_mem_cons.mpr ⟨q806_met h, List.forall_mem_cons.mpr ⟨q873_met h, List.forall_mem_cons.mpr ⟨q1091_met h hh, fun _ h => absurd h List.not_mem_nil⟩⟩⟩⟩, List.forall_mem_cons.mpr ⟨fun M hM => Option.some.inj (show some q1088_M = some M from hM) ▸ wlkS (lkX12_334 h) q1088_M rfl rfl, fun _ h => absurd h List.not_mem_nil⟩, List.forall_mem_cons.mpr ⟨fun M hM => Option.some.inj (show some q806_M = some M from hM) ▸ wlkV (lkX12_372 h) q806_M rfl rfl, List.forall_mem_cons.mpr ⟨fun M hM => Option.some.inj (show some q873_M = some M from hM) ▸ wlkV (lkX12_375 h) q873_M rfl rfl, List.forall_mem_cons.mpr ⟨fun M hM => Option.some.inj (show some q1091_M = some M from hM) ▸ wlkV (lkX12_462 h) q1091_M rfl rfl, fun _ h => absurd h List.not_mem_nil⟩⟩⟩, fun _ h => absurd h List.not_mem_nil, fun _ h => absurd h List.not_mem_nil⟩ dkX12_load (by decide +kernel) (by rw [h.2.2.1]; exact q1092_ok)
/-- NearSpellModel.loadOf -/
def q1093_M : rfM := ((⟨"NearSpellModel", "loadOf", "(I)I"⟩, prog_14_method_97_code, 5, (some .int)), (22,2045), ([.inr (.inl [114]),.inl ((0,0,0),none)],[((114,28),(0,0,0),none),((998,0),(1,1,0),none)]), [(89,0),(114,35)], [(some (.inl (((-2147483648),2147483647,1),none)),[],[])])
def q1093_P : rfP := (flX12,csX12,lcX12,spX12,[q854_M],[],[(369,0,12)],([],[]))
def q1093_U : rfU := []
set_option maxHeartbeats 8000000 in
def q1093_N : List rfB := [(0,([(0,.inr (.inl [114])),(1,.inl ((0,0,0),none))],[],[((114,28),(0,0,0),some ((114,28),0,0)),((998,0),(1,1,0),some ((998,0),0,0))]),(27425,[0,0]),0),
  (4,([(0,.inr (.inl [114])),(1,.inl ((0,0,0),none)),(2,.inl (((-2147483648),2147483647,1),none)),(3,.inl ((0,14,1),none))],[],[((114,28),(0,0,0),some ((114,28),0,0)),((998,0),(1,1,0),some ((998,0),0,0))]),(27419,[(-1828),0]),0),
  (13,([(0,.inr (.inl [114])),(1,.inl ((0,0,0),none)),(2,.inl (((-2147483648),2147483647,1),none)),(3,.inl ((0,13,1),none)),(4,.inl ((0,64,1),none))],[],[((114,28),(0,0,0),some ((114,28),0,0)),((998,0),(1,1,0),some ((998,0),0,0))]),(27412,[(-1828),(-28)]),0),
  (51,([(0,.inr (.inl [114])),(1,.inl ((0,0,0),none)),(2,.inl (((-2147483648),2147483647,1),none)),(3,.inl ((0,13,1),none)),(4,.inl ((0,63,1),none))],[.inl (((-2147483648),2147483647,1),none)],[((114,28),(0,0,0),some ((114,28),0,0)),((998,0),(1,1,0),some ((998,0),0,0))]),(27388,[(-1828),(-28)]),0)]
set_option maxRecDepth 100000 in
theorem q1093_ok : rf_chkB q1093_P q1093_U wLay q1093_M ddX12_loadOf [(38,[0])] [.inl 3,.inl 4] [0,4,13,51] 600 q1093_N = true := by decide +kernel
set_option maxHeartbeats 4000000 in
theorem q1093_met {G : rfG} (h : okG G) (hh : w1OK G) : rf_met G q1093_M := rf_methodB h.1 (P := q1093_P) (U := q1093_U) (N := q1093_N) ⟨wflT h flokX12, wcsT h csokX12, wlcT h lcokX12, spokX12 h, List.forall_mem_cons.mpr ⟨q854_met h hh, fun _ h => absurd h List.not_mem_nil⟩, fun _ h => absurd h List.not_mem_nil, List.forall_mem_cons.mpr ⟨fun M hM => Option.some.inj (show some q854_M = some M from hM) ▸ wlkV (lkX12_369 h) q854_M rfl rfl, fun _ h => absurd h List.not_mem_nil⟩, fun _ h => absurd h List.not_mem_nil, fun _ h => absurd h List.not_mem_nil⟩ dkX12_loadOf (by decide +kernel) (by rw [h.2.2.1]; exact q1093_ok)
/-- NearSpellModel.loadOf -/
def q1094_M : rfM := ((⟨"NearSpellModel", "loadOf", "(I)I"⟩, prog_14_method_97_code, 5, (some .int)), (22,2045), ([.inr (.inl [114]),.inl ((0,1,1),none)],[((114,28),(0,0,0),none),((998,0),(1,1,0),none)]), [(89,0),(114,35)], [(some (.inl (((-2147483648),2147483647,1),none)),[],[])])
def q1094_P : rfP := (flX12,csX12,lcX12,spX12,[q854_M],[],[(369,0,12)],([],[]))
def q1094_U : rfU := []
set_option maxHeartbeats 8000000 in
def q1094_N : List rfB := [(0,([(0,.inr (.inl [114])),(1,.inl ((0,1,1),none))],[],[((114,28),(0,0,0),some ((114,28),0,0)),((998,0),(1,1,0),some ((998,0),0,0))]),(27425,[0,0]),0),
  (4,([(0,.inr (.inl [114])),(1,.inl ((0,1,1),none)),(2,.inl (((-2147483648),2147483647,1),none)),(3,.inl ((0,14,1),none))],[],[((114,28),(0,0,0),some ((114,28),0,0)),((998,0),(1,1,0),some ((998,0),0,0))]),(27419,[(-1828),0]),0),
  (13,([(0,.inr (.inl [114])),(1,.inl ((0,1,1),none)),(2,.inl (((-2147483648),2147483647,1),none)),(3,.inl ((0,13,1),none)),(4,.inl ((0,64,1),none))],[],[((114,28),(0,0,0),some ((114,28),0,0)),((998,0),(1,1,0),some ((998,0),0,0))]),(27412,[(-1828),(-28)]),0),
  (51,([(0,.inr (.inl [114])),(1,.inl ((0,1,1),none)),(2,.inl (((-2147483648),2147483647,1),none)),(3,.inl ((0,13,1),none)),(4,.inl ((0,63,1),none))],[.inl (((-2147483648),2147483647,1),none)],[((114,28),(0,0,0),some ((114,28),0,0)),((998,0),(1,1,0),some ((998,0),0,0))]),(27388,[(-1828),(-28)]),0)]
set_option maxRecDepth 100000 in
theorem q1094_ok : rf_chkB q1094_P q1094_U wLay q1094_M ddX12_loadOf [(38,[0])] [.inl 3,.inl 4] [0,4,13,51] 600 q1094_N = true := by decide +kernel
set_option maxHeartbeats 4000000 in
theorem q1094_met {G : rfG} (h : okG G) (hh : w1OK G) : rf_met G q1094_M := rf_methodB h.1 (P := q1094_P) (U := q1094_U) (N := q1094_N) ⟨wflT h flokX12, wcsT h csokX12, wlcT h lcokX12, spokX12 h, List.forall_mem_cons.mpr ⟨q854_met h hh, fun _ h => absurd h List.not_mem_nil⟩, fun _ h => absurd h List.not_mem_nil, List.forall_mem_cons.mpr ⟨fun M hM => Option.some.inj (show some q854_M = some M from hM) ▸ wlkV (lkX12_369 h) q854_M rfl rfl, fun _ h => absurd h List.not_mem_nil⟩, fun _ h => absurd h List.not_mem_nil, fun _ h => absurd h List.not_mem_nil⟩ dkX12_loadOf (by decide +kernel) (by rw [h.2.2.1]; exact q1094_ok)
/-- NearSpellModel.loadOf -/
def q1095_M : rfM := ((⟨"NearSpellModel", "loadOf", "(I)I"⟩, prog_14_method_97_code, 5, (some .int)), (22,2045), ([.inr (.inl [114]),.inl ((0,2,1),none)],[((114,28),(0,0,0),none),((998,0),(1,1,0),none)]), [(89,0),(114,35)], [(some (.inl (((-2147483648),2147483647,1),none)),[],[])])
def q1095_P : rfP := (flX12,csX12,lcX12,spX12,[q854_M],[],[(369,0,12)],([],[]))
def q1095_U : rfU := []
set_option maxHeartbeats 8000000 in
def q1095_N : List rfB := [(0,([(0,.inr (.inl [114])),(1,.inl ((0,2,1),none))],[],[((114,28),(0,0,0),some ((114,28),0,0)),((998,0),(1,1,0),some ((998,0),0,0))]),(27425,[0,0]),0),
  (4,([(0,.inr (.inl [114])),(1,.inl ((0,2,1),none)),(2,.inl (((-2147483648),2147483647,1),none)),(3,.inl ((0,14,1),none))],[],[((114,28),(0,0,0),some ((114,28),0,0)),((998,0),(1,1,0),some ((998,0),0,0))]),(27419,[(-1828),0]),0),
  (13,([(0,.inr (.inl [114])),(1,.inl ((0,2,1),none)),(2,.inl (((-2147483648),2147483647,1),none)),(3,.inl ((0,13,1),none)),(4,.inl ((0,64,1),none))],[],[((114,28),(0,0,0),some ((114,28),0,0)),((998,0),(1,1,0),some ((998,0),0,0))]),(27412,[(-1828),(-28)]),0),
  (51,([(0,.inr (.inl [114])),(1,.inl ((0,2,1),none)),(2,.inl (((-2147483648),2147483647,1),none)),(3,.inl ((0,13,1),none)),(4,.inl ((0,63,1),none))],[.inl (((-2147483648),2147483647,1),none)],[((114,28),(0,0,0),some ((114,28),0,0)),((998,0),(1,1,0),some ((998,0),0,0))]),(27388,[(-1828),(-28)]),0)]
set_option maxRecDepth 100000 in
theorem q1095_ok : rf_chkB q1095_P q1095_U wLay q1095_M ddX12_loadOf [(38,[0])] [.inl 3,.inl 4] [0,4,13,51] 600 q1095_N = true := by decide +kernel
set_option maxHeartbeats 4000000 in
theorem q1095_met {G : rfG} (h : okG G) (hh : w1OK G) : rf_met G q1095_M := rf_methodB h.1 (P := q1095_P) (U := q1095_U) (N := q1095_N) ⟨wflT h flokX12, wcsT h csokX12, wlcT h lcokX12, spokX12 h, List.forall_mem_cons.mpr ⟨q854_met h hh, fun _ h => absurd h List.not_mem_nil⟩, fun _ h => absurd h List.not_mem_nil, List.forall_mem_cons.mpr ⟨fun M hM => Option.some.inj (show some q854_M = some M from hM) ▸ wlkV (lkX12_369 h) q854_M rfl rfl, fun _ h => absurd h List.not_mem_nil⟩, fun _ h => absurd h List.not_mem_nil, fun _ h => absurd h List.not_mem_nil⟩ dkX12_loadOf (by decide +kernel) (by rw [h.2.2.1]; exact q1095_ok)
/-- NearSpellModel.loadOf -/
def q1096_M : rfM := ((⟨"NearSpellModel", "loadOf", "(I)I"⟩, prog_14_method_97_code, 5, (some .int)), (22,2045), ([.inr (.inl [114]),.inl ((0,3,1),none)],[((114,28),(0,0,0),none),((998,0),(1,1,0),none)]), [(89,0),(114,35)], [(some (.inl (((-2147483648),2147483647,1),none)),[],[])])
def q1096_P : rfP := (flX12,csX12,lcX12,spX12,[q854_M],[],[(369,0,12)],([],[]))
def q1096_U : rfU := []
set_option maxHeartbeats 8000000 in
def q1096_N : List rfB := [(0,([(0,.inr (.inl [114])),(1,.inl ((0,3,1),none))],[],[((114,28),(0,0,0),some ((114,28),0,0)),((998,0),(1,1,0),some ((998,0),0,0))]),(27425,[0,0]),0),
  (4,([(0,.inr (.inl [114])),(1,.inl ((0,3,1),none)),(2,.inl (((-2147483648),2147483647,1),none)),(3,.inl ((0,14,1),none))],[],[((114,28),(0,0,0),some ((114,28),0,0)),((998,0),(1,1,0),some ((998,0),0,0))]),(27419,[(-1828),0]),0),
  (13,([(0,.inr (.inl [114])),(1,.inl ((0,3,1),none)),(2,.inl (((-2147483648),2147483647,1),none)),(3,.inl ((0,13,1),none)),(4,.inl ((0,64,1),none))],[],[((114,28),(0,0,0),some ((114,28),0,0)),((998,0),(1,1,0),some ((998,0),0,0))]),(27412,[(-1828),(-28)]),0),
  (51,([(0,.inr (.inl [114])),(1,.inl ((0,3,1),none)),(2,.inl (((-2147483648),2147483647,1),none)),(3,.inl ((0,13,1),none)),(4,.inl ((0,63,1),none))],[.inl (((-2147483648),2147483647,1),none)],[((114,28),(0,0,0),some ((114,28),0,0)),((998,0),(1,1,0),some ((998,0),0,0))]),(27388,[(-1828),(-28)]),0)]
set_option maxRecDepth 100000 in
theorem q1096_ok : rf_chkB q1096_P q1096_U wLay q1096_M ddX12_loadOf [(38,[0])] [.inl 3,.inl 4] [0,4,13,51] 600 q1096_N = true := by decide +kernel
set_option maxHeartbeats 4000000 in
theorem q1096_met {G : rfG} (h : okG G) (hh : w1OK G) : rf_met G q1096_M := rf_methodB h.1 (P := q1096_P) (U := q1096_U) (N := q1096_N) ⟨wflT h flokX12, wcsT h csokX12, wlcT h lcokX12, spokX12 h, List.forall_mem_cons.mpr ⟨q854_met h hh, fun _ h => absurd h List.not_mem_nil⟩, fun _ h => absurd h List.not_mem_nil, List.forall_mem_cons.mpr ⟨fun M hM => Option.some.inj (show some q854_M = some M from hM) ▸ wlkV (lkX12_369 h) q854_M rfl rfl, fun _ h => absurd h List.not_mem_nil⟩, fun _ h => absurd h List.not_mem_nil, fun _ h => absurd h List.not_mem_nil⟩ dkX12_loadOf (by decide +kernel) (by rw [h.2.2.1]; exact q1096_ok)
/-- NearSpellModel.loadOf -/
def q1097_M : rfM := ((⟨"NearSpellModel", "loadOf", "(I)I"⟩, prog_14_method_97_code, 5, (some .int)), (22,2045), ([.inr (.inl [114]),.inl ((0,12,1),none)],[((114,28),(0,0,0),none),((998,0),(1,1,0),none)]), [(89,0),(114,35)], [(some (.inl (((-2147483648),2147483647,1),none)),[],[])])
def q1097_P : rfP := (flX12,csX12,lcX12,spX12,[q854_M],[],[(369,0,12)],([],[]))
def q1097_U : rfU := []
set_option maxHeartbeats 8000000 in
def q1097_N : List rfB := [(0,([(0,.inr (.inl [114])),(1,.inl ((0,12,1),none))],[],[((114,28),(0,0,0),some ((114,28),0,0)),((998,0),(1,1,0),some ((998,0),0,0))]),(27425,[0,0]),0),
  (4,([(0,.inr (.inl [114])),(1,.inl ((0,12,1),none)),(2,.inl (((-2147483648),2147483647,1),none)),(3,.inl ((0,14,1),none))],[],[((114,28),(0,0,0),some ((114,28),0,0)),((998,0),(1,1,0),some ((998,0),0,0))]),(27419,[(-1828),0]),0),
  (13,([(0,.inr (.inl [114])),(1,.inl ((0,12,1),none)),(2,.inl (((-2147483648),2147483647,1),none)),(3,.inl ((0,13,1),none)),(4,.inl ((0,64,1),none))],[],[((114,28),(0,0,0),some ((114,28),0,0)),((998,0),(1,1,0),some ((998,0),0,0))]),(27412,[(-1828),(-28)]),0),
  (51,([(0,.inr (.inl [114])),(1,.inl ((0,12,1),none)),(2,.inl (((-2147483648),2147483647,1),none)),(3,.inl ((0,13,1),none)),(4,.inl ((0,63,1),none))],[.inl (((-2147483648),2147483647,1),none)],[((114,28),(0,0,0),some ((114,28),0,0)),((998,0),(1,1,0),some ((998,0),0,0))]),(27388,[(-1828),(-28)]),0)]
set_option maxRecDepth 100000 in
theorem q1097_ok : rf_chkB q1097_P q1097_U wLay q1097_M ddX12_loadOf [(38,[0])] [.inl 3,.inl 4] [0,4,13,51] 600 q1097_N = true := by decide +kernel
set_option maxHeartbeats 4000000 in
theorem q1097_met {G : rfG} (h : okG G) (hh : w1OK G) : rf_met G q1097_M := rf_methodB h.1 (P := q1097_P) (U := q1097_U) (N := q1097_N) ⟨wflT h flokX12, wcsT h csokX12, wlcT h lcokX12, spokX12 h, List.forall_mem_cons.mpr ⟨q854_met h hh, fun _ h => absurd h List.not_mem_nil⟩, fun _ h => absurd h List.not_mem_nil, List.forall_mem_cons.mpr ⟨fun M hM => Option.some.inj (show some q854_M = some M from hM) ▸ wlkV (lkX12_369 h) q854_M rfl rfl, fun _ h => absurd h List.not_mem_nil⟩, fun _ h => absurd h List.not_mem_nil, fun _ h => absurd h List.not_mem_nil⟩ dkX12_loadOf (by decide +kernel) (by rw [h.2.2.1]; exact q1097_ok)
/-- NearSpellModel.loadOf -/
def q1098_M : rfM := ((⟨"NearSpellModel", "loadOf", "(I)I"⟩, prog_14_method_97_code, 5, (some .int)), (22,2045), ([.inr (.inl [114]),.inl ((0,13,1),none)],[((114,28),(0,0,0),none),((998,0),(1,1,0),none)]), [(89,0),(114,35)], [(some (.inl (((-2147483648),2147483647,1),none)),[],[])])
def q1098_P : rfP := (flX12,csX12,lcX12,spX12,[q854_M],[],[(369,0,12)],([],[]))
def q1098_U : rfU := []
set_option maxHeartbeats 8000000 in
def q1098_N : List rfB := [(0,([(0,.inr (.inl [114])),(1,.inl ((0,13,1),none))],[],[((114,28),(0,0,0),some ((114,28),0,0)),((998,0),(1,1,0),some ((998,0),0,0))]),(27425,[0,0]),0),
  (4,([(0,.inr (.inl [114])),(1,.inl ((0,13,1),none)),(2,.inl (((-2147483648),2147483647,1),none)),(3,.inl ((0,14,1),none))],[],[((114,28),(0,0,0),some ((114,28),0,0)),((998,0),(1,1,0),some ((998,0),0,0))]),(27419,[(-1828),0]),0),
  (13,([(0,.inr (.inl [114])),(1,.inl ((0,13,1),none)),(2,.inl (((-2147483648),2147483647,1),none)),(3,.inl ((0,13,1),none)),(4,.inl ((0,64,1),none))],[],[((114,28),(0,0,0),some ((114,28),0,0)),((998,0),(1,1,0),some ((998,0),0,0))]),(27412,[(-1828),(-28)]),0),
  (51,([(0,.inr (.inl [114])),(1,.inl ((0,13,1),none)),(2,.inl (((-2147483648),2147483647,1),none)),(3,.inl ((0,13,1),none)),(4,.inl ((0,63,1),none))],[.inl (((-2147483648),2147483647,1),none)],[((114,28),(0,0,0),some ((114,28),0,0)),((998,0),(1,1,0),some ((998,0),0,0))]),(27388,[(-1828),(-28)]),0)]
set_option maxRecDepth 100000 in
theorem q1098_ok : rf_chkB q1098_P q1098_U wLay q1098_M ddX12_loadOf [(38,[0])] [.inl 3,.inl 4] [0,4,13,51] 600 q1098_N = true := by decide +kernel
set_option maxHeartbeats 4000000 in
theorem q1098_met {G : rfG} (h : okG G) (hh : w1OK G) : rf_met G q1098_M := rf_methodB h.1 (P := q1098_P) (U := q1098_U) (N := q1098_N) ⟨wflT h flokX12, wcsT h csokX12, wlcT h lcokX12, spokX12 h, List.forall_mem_cons.mpr ⟨q854_met h hh, fun _ h => absurd h List.not_mem_nil⟩, fun _ h => absurd h List.not_mem_nil, List.forall_mem_cons.mpr ⟨fun M hM => Option.some.inj (show some q854_M = some M from hM) ▸ wlkV (lkX12_369 h) q854_M rfl rfl, fun _ h => absurd h List.not_mem_nil⟩, fun _ h => absurd h List.not_mem_nil, fun _ h => absurd h List.not_mem_nil⟩ dkX12_loadOf (by decide +kernel) (by rw [h.2.2.1]; exact q1098_ok)
/-- NearSpellModel.loadOf -/
def q1099_M : rfM := ((⟨"NearSpellModel", "loadOf", "(I)I"⟩, prog_14_method_97_code, 5, (some .int)), (22,2045), ([.inr (.inl [114]),.inl ((0,14,1),none)],[((114,28),(0,0,0),none),((998,0),(1,1,0),none)]), [(89,0),(114,35)], [(some (.inl (((-2147483648),2147483647,1),none)),[],[])])
def q1099_P : rfP := (flX12,csX12,lcX12,spX12,[q854_M],[],[(369,0,12)],([],[]))
def q1099_U : rfU := []
set_option maxHeartbeats 8000000 in
def q1099_N : List rfB := [(0,([(0,.inr (.inl [114])),(1,.inl ((0,14,1),none))],[],[((114,28),(0,0,0),some ((114,28),0,0)),((998,0),(1,1,0),some ((998,0),0,0))]),(27425,[0,0]),0),
  (4,([(0,.inr (.inl [114])),(1,.inl ((0,14,1),none)),(2,.inl (((-2147483648),2147483647,1),none)),(3,.inl ((0,14,1),none))],[],[((114,28),(0,0,0),some ((114,28),0,0)),((998,0),(1,1,0),some ((998,0),0,0))]),(27419,[(-1828),0]),0),
  (13,([(0,.inr (.inl [114])),(1,.inl ((0,14,1),none)),(2,.inl (((-2147483648),2147483647,1),none)),(3,.inl ((0,13,1),none)),(4,.inl ((0,64,1),none))],[],[((114,28),(0,0,0),some ((114,28),0,0)),((998,0),(1,1,0),some ((998,0),0,0))]),(27412,[(-1828),(-28)]),0),
  (51,([(0,.inr (.inl [114])),(1,.inl ((0,14,1),none)),(2,.inl (((-2147483648),2147483647,1),none)),(3,.inl ((0,13,1),none)),(4,.inl ((0,63,1),none))],[.inl (((-2147483648),2147483647,1),none)],[((114,28),(0,0,0),some ((114,28),0,0)),((998,0),(1,1,0),some ((998,0),0,0))]),(27388,[(-1828),(-28)]),0)]
set_option maxRecDepth 100000 in
theorem q1099_ok : rf_chkB q1099_P q1099_U wLay q1099_M ddX12_loadOf [(38,[0])] [.inl 3,.inl 4] [0,4,13,51] 600 q1099_N = true := by decide +kernel
set_option maxHeartbeats 4000000 in
theorem q1099_met {G : rfG} (h : okG G) (hh : w1OK G) : rf_met G q1099_M := rf_methodB h.1 (P := q1099_P) (U := q1099_U) (N := q1099_N) ⟨wflT h flokX12, wcsT h csokX12, wlcT h lcokX12, spokX12 h, List.forall_mem_cons.mpr ⟨q854_met h hh, fun _ h => absurd h List.not_mem_nil⟩, fun _ h => absurd h List.not_mem_nil, List.forall_mem_cons.mpr ⟨fun M hM => Option.some.inj (show some q854_M = some M from hM) ▸ wlkV (lkX12_369 h) q854_M rfl rfl, fun _ h => absurd h List.not_mem_nil⟩, fun _ h => absurd h List.not_mem_nil, fun _ h => absurd h List.not_mem_nil⟩ dkX12_loadOf (by decide +kernel) (by rw [h.2.2.1]; exact q1099_ok)
/-- NearSpellModel.loadOf -/
def q1100_M : rfM := ((⟨"NearSpellModel", "loadOf", "(I)I"⟩, prog_14_method_97_code, 5, (some .int)), (22,2045), ([.inr (.inl [114]),.inl ((0,26,1),none)],[((114,28),(0,0,0),none),((998,0),(1,1,0),none)]), [(89,0),(114,35)], [(some (.inl (((-2147483648),2147483647,1),none)),[],[])])
def q1100_P : rfP := (flX12,csX12,lcX12,spX12,[q854_M],[],[(369,0,12)],([],[]))
def q1100_U : rfU := []
set_option maxHeartbeats 8000000 in
def q1100_N : List rfB := [(0,([(0,.inr (.inl [114])),(1,.inl ((0,26,1),none))],[],[((114,28),(0,0,0),some ((114,28),0,0)),((998,0),(1,1,0),some ((998,0),0,0))]),(27425,[0,0]),0),
  (4,([(0,.inr (.inl [114])),(1,.inl ((0,26,1),none)),(2,.inl (((-2147483648),2147483647,1),none)),(3,.inl ((0,14,1),none))],[],[((114,28),(0,0,0),some ((114,28),0,0)),((998,0),(1,1,0),some ((998,0),0,0))]),(27419,[(-1828),0]),0),
  (13,([(0,.inr (.inl [114])),(1,.inl ((0,26,1),none)),(2,.inl (((-2147483648),2147483647,1),none)),(3,.inl ((0,13,1),none)),(4,.inl ((0,64,1),none))],[],[((114,28),(0,0,0),some ((114,28),0,0)),((998,0),(1,1,0),some ((998,0),0,0))]),(27412,[(-1828),(-28)]),0),
  (51,([(0,.inr (.inl [114])),(1,.inl ((0,26,1),none)),(2,.inl (((-2147483648),2147483647,1),none)),(3,.inl ((0,13,1),none)),(4,.inl ((0,63,1),none))],[.inl (((-2147483648),2147483647,1),none)],[((114,28),(0,0,0),some ((114,28),0,0)),((998,0),(1,1,0),some ((998,0),0,0))]),(27388,[(-1828),(-28)]),0)]
set_option maxRecDepth 100000 in
theorem q1100_ok : rf_chkB q1100_P q1100_U wLay q1100_M ddX12_loadOf [(38,[0])] [.inl 3,.inl 4] [0,4,13,51] 600 q1100_N = true := by decide +kernel
set_option maxHeartbeats 4000000 in
theorem q1100_met {G : rfG} (h : okG G) (hh : w1OK G) : rf_met G q1100_M := rf_methodB h.1 (P := q1100_P) (U := q1100_U) (N := q1100_N) ⟨wflT h flokX12, wcsT h csokX12, wlcT h lcokX12, spokX12 h, List.forall_mem_cons.mpr ⟨q854_met h hh, fun _ h => absurd h List.not_mem_nil⟩, fun _ h => absurd h List.not_mem_nil, List.forall_mem_cons.mpr ⟨fun M hM => Option.some.inj (show some q854_M = some M from hM) ▸ wlkV (lkX12_369 h) q854_M rfl rfl, fun _ h => absurd h List.not_mem_nil⟩, fun _ h => absurd h List.not_mem_nil, fun _ h => absurd h List.not_mem_nil⟩ dkX12_loadOf (by decide +kernel) (by rw [h.2.2.1]; exact q1100_ok)
/-- NearSpellModel.loadOf -/
def q1101_M : rfM := ((⟨"NearSpellModel", "loadOf", "(I)I"⟩, prog_14_method_97_code, 5, (some .int)), (22,2045), ([.inr (.inl [114]),.inl ((0,29,1),none)],[((114,28),(0,0,0),none),((998,0),(1,1,0),none)]), [(89,0),(114,35)], [(some (.inl (((-2147483648),2147483647,1),none)),[],[])])
def q1101_P : rfP := (flX12,csX12,lcX12,spX12,[q854_M],[],[(369,0,12)],([],[]))
def q1101_U : rfU := []
set_option maxHeartbeats 8000000 in
def q1101_N : List rfB := [(0,([(0,.inr (.inl [114])),(1,.inl ((0,29,1),none))],[],[((114,28),(0,0,0),some ((114,28),0,0)),((998,0),(1,1,0),some ((998,0),0,0))]),(27425,[0,0]),0),
  (4,([(0,.inr (.inl [114])),(1,.inl ((0,29,1),none)),(2,.inl (((-2147483648),2147483647,1),none)),(3,.inl ((0,14,1),none))],[],[((114,28),(0,0,0),some ((114,28),0,0)),((998,0),(1,1,0),some ((998,0),0,0))]),(27419,[(-1828),0]),0),
  (13,([(0,.inr (.inl [114])),(1,.inl ((0,29,1),none)),(2,.inl (((-2147483648),2147483647,1),none)),(3,.inl ((0,13,1),none)),(4,.inl ((0,64,1),none))],[],[((114,28),(0,0,0),some ((114,28),0,0)),((998,0),(1,1,0),some ((998,0),0,0))]),(27412,[(-1828),(-28)]),0),
  (51,([(0,.inr (.inl [114])),(1,.inl ((0,29,1),none)),(2,.inl (((-2147483648),2147483647,1),none)),(3,.inl ((0,13,1),none)),(4,.inl ((0,63,1),none))],[.inl (((-2147483648),2147483647,1),none)],[((114,28),(0,0,0),some ((114,28),0,0)),((998,0),(1,1,0),some ((998,0),0,0))]),(27388,[(-1828),(-28)]),0)]
set_option maxRecDepth 100000 in
theorem q1101_ok : rf_chkB q1101_P q1101_U wLay q1101_M ddX12_loadOf [(38,[0])] [.inl 3,.inl 4] [0,4,13,51] 600 q1101_N = true := by decide +kernel
set_option maxHeartbeats 4000000 in
theorem q1101_met {G : rfG} (h : okG G) (hh : w1OK G) : rf_met G q1101_M := rf_methodB h.1 (P := q1101_P) (U := q1101_U) (N := q1101_N) ⟨wflT h flokX12, wcsT h csokX12, wlcT h lcokX12, spokX12 h, List.forall_mem_cons.mpr ⟨q854_met h hh, fun _ h => absurd h List.not_mem_nil⟩, fun _ h => absurd h List.not_mem_nil, List.forall_mem_cons.mpr ⟨fun M hM => Option.some.inj (show some q854_M = some M from hM) ▸ wlkV (lkX12_369 h) q854_M rfl rfl, fun _ h => absurd h List.not_mem_nil⟩, fun _ h => absurd h List.not_mem_nil, fun _ h => absurd h List.not_mem_nil⟩ dkX12_loadOf (by decide +kernel) (by rw [h.2.2.1]; exact q1101_ok)
/-- NearSpellModel.fullest -/
def q1102_M : rfM := ((⟨"NearSpellModel", "fullest", "()I"⟩, prog_14_method_99_code, 6, (some .int)), (23,2069), ([.inr (.inl [114])],[((114,28),(0,0,0),none),((998,0),(1,1,0),none)]), [(89,0),(91,0),(92,0),(93,0),(114,35),(114,40)], [(some (.inl ((0,31,1),none)),[],[])])
def ddX12_fullest : List (Nat × Instr × Nat) := [(0,.aload_n 0,1),(1,.aload_n 0,1),(2,.invokevirtual 372,3),(5,.invokevirtual 375,3),(8,.istore_n 1,1),(9,.iconst 0,1),(10,.istore_n 2,1),(11,.iconst 0,1),(12,.istore_n 3,1),(13,.iconst 0,1),(14,.istore 4,2),(16,.iload 4,2),(18,.aload_n 0,1),(19,.getfield 33,3),(22,.aload_n 0,1),(23,.getfield 242,3),(26,.iaload,1),(27,.if_icmp .ge 41,3),(30,.iload_n 1,1),(31,.ifCond .le 37,3),(34,.aload_n 0,1),(35,.iload 4,2),(37,.invokevirtual 462,3),(40,.istore 5,2),(42,.iload_n 1,1),(43,.iload 5,2),(45,.isub,1),(46,.istore_n 1,1),(47,.iload 5,2),(49,.iload_n 3,1),(50,.if_icmp .gt 6,3),(53,.goto 9,3),(56,.iload 4,2),(58,.istore_n 2,1),(59,.iload 5,2),(61,.istore_n 3,1),(62,.iinc 4 1,3),(65,.goto (-49),3),(68,.iload_n 2,1),(69,.ireturn,1)]
set_option maxRecDepth 100000 in
theorem dkX12_fullest : rf_decs prog_14_method_99_code ddX12_fullest := rf_decs_of (by decide +kernel)
def q1102_P : rfP := (flX12,csX12,lcX12,spX12,[q790_M,q850_M,q1089_M],[],[(372,0,12),(375,1,12),(462,2,12)],([],[]))
def q1102_U : rfU := []
set_option maxHeartbeats 8000000 in
def q1102_N : List rfB := [(0,([(0,.inr (.inl [114]))],[],[((114,28),(0,0,0),some ((114,28),0,0)),((998,0),(1,1,0),some ((998,0),0,0))]),(908,[0]),0),
  (16,([(0,.inr (.inl [114])),(1,.inl (((-2147483648),2147483647,1),none)),(2,.inl ((0,31,1),none)),(3,.inl ((0,2147483647,1),none)),(4,.inl ((0,31,1),none))],[],[((114,28),(0,0,0),some ((114,28),0,0)),((998,0),(1,1,0),some ((998,0),0,0))]),(895,[(-28)]),0),
  (68,([(0,.inr (.inl [114])),(1,.inl (((-2147483648),2147483647,1),none)),(2,.inl ((0,31,1),none)),(3,.inl ((0,2147483647,1),none)),(4,.inl ((0,31,1),none))],[],[((114,28),(0,0,0),some ((114,28),0,0)),((998,0),(1,1,0),some ((998,0),0,0))]),(1,[0]),0),
  (62,([(0,.inr (.inl [114])),(1,.inl (((-2147483648),2147483647,1),none)),(2,.inl ((0,31,1),none)),(3,.inl ((0,2147483647,1),none)),(4,.inl ((0,30,1),none)),(5,.inl (((-2147483648),2147483647,1),none))],[],[((114,28),(0,0,0),some ((114,28),0,0)),((998,0),(1,1,0),some ((998,0),0,0))]),(870,[(-28)]),0)]
set_option maxRecDepth 100000 in
theorem q1102_ok : rf_chkB q1102_P q1102_U wLay q1102_M ddX12_fullest [(2,[0]),(5,[1]),(37,[2])] [.inl 4] [0,16,62,68] 600 q1102_N = true := by decide +kernel
set_option maxHeartbeats 4000000 in
theorem q1102_met {G : rfG} (h : okG G) (hh : w1OK G) : rf_met G q1102_M := rf_methodB h.1 (P := q1102_P) (U := q1102_U) (N := q1102_N) ⟨wflT h flokX12, wcsT h csokX12, wlcT h lcokX12, spokX12 h, List.forall_mem_cons.mpr ⟨q790_met h, List.forall_mem_cons.mpr ⟨q850_met h, List.forall_mem_cons.mpr ⟨q1089_met h hh, fun _ h => absurd h List.not_mem_nil⟩⟩⟩, fun _ h => absurd h List.not_mem_nil, List.forall_mem_cons.mpr ⟨fun M hM => Option.some.inj (show some q790_M = some M from hM) ▸ wlkV (lkX12_372 h) q790_M rfl rfl, List.forall_mem_cons.mpr ⟨fun M hM => Option.some.inj (show some q850_M = some M from hM) ▸ wlkV (lkX12_375 h) q850_M rfl rfl, List.forall_mem_cons.mpr ⟨fun M hM => Option.some.inj (show some q1089_M = some M from hM) ▸ wlkV (lkX12_462 h) q1089_M rfl rfl, fun _ h => absurd h List.not_mem_nil⟩⟩⟩, fun _ h => absurd h List.not_mem_nil, fun _ h => absurd h List.not_mem_nil⟩ dkX12_fullest (by decide +kernel) (by rw [h.2.2.1]; exact q1102_ok)
/-- NearSpellModel.loadOf -/
def q1103_M : rfM := ((⟨"NearSpellModel", "loadOf", "(I)I"⟩, prog_14_method_97_code, 5, (some .int)), (22,2045), ([.inr (.inl [114]),.inl ((0,0,0),none)],[((77,1),(1,31,1),none),((114,28),(1,1,0),none),((998,0),(1,1,0),none)]), [(89,0),(114,35)], [(some (.inl (((-2147483648),2147483647,1),none)),[],[])])
def q1103_P : rfP := (flX12,csX12,lcX12,spX12,[q874_M],[],[(369,0,12)],([],[]))
def q1103_U : rfU := []
set_option maxHeartbeats 8000000 in
def q1103_N : List rfB := [(0,([(0,.inr (.inl [114])),(1,.inl ((0,0,0),none))],[],[((77,1),(1,31,1),some ((77,1),0,0)),((114,28),(1,1,0),some ((114,28),0,0)),((998,0),(1,1,0),some ((998,0),0,0))]),(27425,[0,0]),0),
  (4,([(0,.inr (.inl [114])),(1,.inl ((0,0,0),none)),(2,.inl (((-2147483648),2147483647,1),none)),(3,.inl ((0,14,1),none))],[],[((77,1),(1,31,1),some ((77,1),0,0)),((114,28),(1,1,0),some ((114,28),0,0)),((998,0),(1,1,0),some ((998,0),0,0))]),(27419,[(-1828),0]),0),
  (13,([(0,.inr (.inl [114])),(1,.inl ((0,0,0),none)),(2,.inl (((-2147483648),2147483647,1),none)),(3,.inl ((0,13,1),none)),(4,.inl ((0,64,1),none))],[],[((77,1),(1,31,1),some ((77,1),0,0)),((114,28),(1,1,0),some ((114,28),0,0)),((998,0),(1,1,0),some ((998,0),0,0))]),(27412,[(-1828),(-28)]),0),
  (51,([(0,.inr (.inl [114])),(1,.inl ((0,0,0),none)),(2,.inl (((-2147483648),2147483647,1),none)),(3,.inl ((0,13,1),none)),(4,.inl ((0,63,1),none))],[.inl (((-2147483648),2147483647,1),none)],[((77,1),(1,31,1),some ((77,1),0,0)),((114,28),(1,1,0),some ((114,28),0,0)),((998,0),(1,1,0),some ((998,0),0,0))]),(27388,[(-1828),(-28)]),0)]
set_option maxRecDepth 100000 in
theorem q1103_ok : rf_chkB q1103_P q1103_U wLay q1103_M ddX12_loadOf [(38,[0])] [.inl 3,.inl 4] [0,4,13,51] 600 q1103_N = true := by decide +kernel
set_option maxHeartbeats 4000000 in
theorem q1103_met {G : rfG} (h : okG G) (hh : w1OK G) : rf_met G q1103_M := rf_methodB h.1 (P := q1103_P) (U := q1103_U) (N := q1103_N) ⟨wflT h flokX12, wcsT h csokX12, wlcT h lcokX12, spokX12 h, List.forall_mem_cons.mpr ⟨q874_met h hh, fun _ h => absurd h List.not_mem_nil⟩, fun _ h => absurd h List.not_mem_nil, List.forall_mem_cons.mpr ⟨fun M hM => Option.some.inj (show some q874_M = some M from hM) ▸ wlkV (lkX12_369 h) q874_M rfl rfl, fun _ h => absurd h List.not_mem_nil⟩, fun _ h => absurd h List.not_mem_nil, fun _ h => absurd h List.not_mem_nil⟩ dkX12_loadOf (by decide +kernel) (by rw [h.2.2.1]; exact q1103_ok)
/-- NearSpellModel.loadOf -/
def q1104_M : rfM := ((⟨"NearSpellModel", "loadOf", "(I)I"⟩, prog_14_method_97_code, 5, (some .int)), (22,2045), ([.inr (.inl [114]),.inl ((0,1,1),none)],[((77,1),(1,31,1),none),((114,28),(1,1,0),none),((998,0),(1,1,0),none)]), [(89,0),(114,35)], [(some (.inl (((-2147483648),2147483647,1),none)),[],[])])
def q1104_P : rfP := (flX12,csX12,lcX12,spX12,[q874_M],[],[(369,0,12)],([],[]))
def q1104_U : rfU := []
set_option maxHeartbeats 8000000 in
def q1104_N : List rfB := [(0,([(0,.inr (.inl [114])),(1,.inl ((0,1,1),none))],[],[((77,1),(1,31,1),some ((77,1),0,0)),((114,28),(1,1,0),some ((114,28),0,0)),((998,0),(1,1,0),some ((998,0),0,0))]),(27425,[0,0]),0),
  (4,([(0,.inr (.inl [114])),(1,.inl ((0,1,1),none)),(2,.inl (((-2147483648),2147483647,1),none)),(3,.inl ((0,14,1),none))],[],[((77,1),(1,31,1),some ((77,1),0,0)),((114,28),(1,1,0),some ((114,28),0,0)),((998,0),(1,1,0),some ((998,0),0,0))]),(27419,[(-1828),0]),0),
  (13,([(0,.inr (.inl [114])),(1,.inl ((0,1,1),none)),(2,.inl (((-2147483648),2147483647,1),none)),(3,.inl ((0,13,1),none)),(4,.inl ((0,64,1),none))],[],[((77,1),(1,31,1),some ((77,1),0,0)),((114,28),(1,1,0),some ((114,28),0,0)),((998,0),(1,1,0),some ((998,0),0,0))]),(27412,[(-1828),(-28)]),0),
  (51,([(0,.inr (.inl [114])),(1,.inl ((0,1,1),none)),(2,.inl (((-2147483648),2147483647,1),none)),(3,.inl ((0,13,1),none)),(4,.inl ((0,63,1),none))],[.inl (((-2147483648),2147483647,1),none)],[((77,1),(1,31,1),some ((77,1),0,0)),((114,28),(1,1,0),some ((114,28),0,0)),((998,0),(1,1,0),some ((998,0),0,0))]),(27388,[(-1828),(-28)]),0)]
set_option maxRecDepth 100000 in
theorem q1104_ok : rf_chkB q1104_P q1104_U wLay q1104_M ddX12_loadOf [(38,[0])] [.inl 3,.inl 4] [0,4,13,51] 600 q1104_N = true := by decide +kernel
set_option maxHeartbeats 4000000 in
theorem q1104_met {G : rfG} (h : okG G) (hh : w1OK G) : rf_met G q1104_M := rf_methodB h.1 (P := q1104_P) (U := q1104_U) (N := q1104_N) ⟨wflT h flokX12, wcsT h csokX12, wlcT h lcokX12, spokX12 h, List.forall_mem_cons.mpr ⟨q874_met h hh, fun _ h => absurd h List.not_mem_nil⟩, fun _ h => absurd h List.not_mem_nil, List.forall_mem_cons.mpr ⟨fun M hM => Option.some.inj (show some q874_M = some M from hM) ▸ wlkV (lkX12_369 h) q874_M rfl rfl, fun _ h => absurd h List.not_mem_nil⟩, fun _ h => absurd h List.not_mem_nil, fun _ h => absurd h List.not_mem_nil⟩ dkX12_loadOf (by decide +kernel) (by rw [h.2.2.1]; exact q1104_ok)
/-- NearSpellModel.loadOf -/
def q1105_M : rfM := ((⟨"NearSpellModel", "loadOf", "(I)I"⟩, prog_14_method_97_code, 5, (some .int)), (22,2045), ([.inr (.inl [114]),.inl ((0,2,1),none)],[((77,1),(1,31,1),none),((114,28),(1,1,0),none),((998,0),(1,1,0),none)]), [(89,0),(114,35)], [(some (.inl (((-2147483648),2147483647,1),none)),[],[])])
def q1105_P : rfP := (flX12,csX12,lcX12,spX12,[q874_M],[],[(369,0,12)],([],[]))
def q1105_U : rfU := []
set_option maxHeartbeats 8000000 in
def q1105_N : List rfB := [(0,([(0,.inr (.inl [114])),(1,.inl ((0,2,1),none))],[],[((77,1),(1,31,1),some ((77,1),0,0)),((114,28),(1,1,0),some ((114,28),0,0)),((998,0),(1,1,0),some ((998,0),0,0))]),(27425,[0,0]),0),
  (4,([(0,.inr (.inl [114])),(1,.inl ((0,2,1),none)),(2,.inl (((-2147483648),2147483647,1),none)),(3,.inl ((0,14,1),none))],[],[((77,1),(1,31,1),some ((77,1),0,0)),((114,28),(1,1,0),some ((114,28),0,0)),((998,0),(1,1,0),some ((998,0),0,0))]),(27419,[(-1828),0]),0),
  (13,([(0,.inr (.inl [114])),(1,.inl ((0,2,1),none)),(2,.inl (((-2147483648),2147483647,1),none)),(3,.inl ((0,13,1),none)),(4,.inl ((0,64,1),none))],[],[((77,1),(1,31,1),some ((77,1),0,0)),((114,28),(1,1,0),some ((114,28),0,0)),((998,0),(1,1,0),some ((998,0),0,0))]),(27412,[(-1828),(-28)]),0),
  (51,([(0,.inr (.inl [114])),(1,.inl ((0,2,1),none)),(2,.inl (((-2147483648),2147483647,1),none)),(3,.inl ((0,13,1),none)),(4,.inl ((0,63,1),none))],[.inl (((-2147483648),2147483647,1),none)],[((77,1),(1,31,1),some ((77,1),0,0)),((114,28),(1,1,0),some ((114,28),0,0)),((998,0),(1,1,0),some ((998,0),0,0))]),(27388,[(-1828),(-28)]),0)]
set_option maxRecDepth 100000 in
theorem q1105_ok : rf_chkB q1105_P q1105_U wLay q1105_M ddX12_loadOf [(38,[0])] [.inl 3,.inl 4] [0,4,13,51] 600 q1105_N = true := by decide +kernel
set_option maxHeartbeats 4000000 in
theorem q1105_met {G : rfG} (h : okG G) (hh : w1OK G) : rf_met G q1105_M := rf_methodB h.1 (P := q1105_P) (U := q1105_U) (N := q1105_N) ⟨wflT h flokX12, wcsT h csokX12, wlcT h lcokX12, spokX12 h, List.forall_mem_cons.mpr ⟨q874_met h hh, fun _ h => absurd h List.not_mem_nil⟩, fun _ h => absurd h List.not_mem_nil, List.forall_mem_cons.mpr ⟨fun M hM => Option.some.inj (show some q874_M = some M from hM) ▸ wlkV (lkX12_369 h) q874_M rfl rfl, fun _ h => absurd h List.not_mem_nil⟩, fun _ h => absurd h List.not_mem_nil, fun _ h => absurd h List.not_mem_nil⟩ dkX12_loadOf (by decide +kernel) (by rw [h.2.2.1]; exact q1105_ok)
/-- NearSpellModel.loadOf -/
def q1106_M : rfM := ((⟨"NearSpellModel", "loadOf", "(I)I"⟩, prog_14_method_97_code, 5, (some .int)), (22,2045), ([.inr (.inl [114]),.inl ((0,3,1),none)],[((77,1),(1,31,1),none),((114,28),(1,1,0),none),((998,0),(1,1,0),none)]), [(89,0),(114,35)], [(some (.inl (((-2147483648),2147483647,1),none)),[],[])])
def q1106_P : rfP := (flX12,csX12,lcX12,spX12,[q874_M],[],[(369,0,12)],([],[]))
def q1106_U : rfU := []
set_option maxHeartbeats 8000000 in
def q1106_N : List rfB := [(0,([(0,.inr (.inl [114])),(1,.inl ((0,3,1),none))],[],[((77,1),(1,31,1),some ((77,1),0,0)),((114,28),(1,1,0),some ((114,28),0,0)),((998,0),(1,1,0),some ((998,0),0,0))]),(27425,[0,0]),0),
  (4,([(0,.inr (.inl [114])),(1,.inl ((0,3,1),none)),(2,.inl (((-2147483648),2147483647,1),none)),(3,.inl ((0,14,1),none))],[],[((77,1),(1,31,1),some ((77,1),0,0)),((114,28),(1,1,0),some ((114,28),0,0)),((998,0),(1,1,0),some ((998,0),0,0))]),(27419,[(-1828),0]),0),
  (13,([(0,.inr (.inl [114])),(1,.inl ((0,3,1),none)),(2,.inl (((-2147483648),2147483647,1),none)),(3,.inl ((0,13,1),none)),(4,.inl ((0,64,1),none))],[],[((77,1),(1,31,1),some ((77,1),0,0)),((114,28),(1,1,0),some ((114,28),0,0)),((998,0),(1,1,0),some ((998,0),0,0))]),(27412,[(-1828),(-28)]),0),
  (51,([(0,.inr (.inl [114])),(1,.inl ((0,3,1),none)),(2,.inl (((-2147483648),2147483647,1),none)),(3,.inl ((0,13,1),none)),(4,.inl ((0,63,1),none))],[.inl (((-2147483648),2147483647,1),none)],[((77,1),(1,31,1),some ((77,1),0,0)),((114,28),(1,1,0),some ((114,28),0,0)),((998,0),(1,1,0),some ((998,0),0,0))]),(27388,[(-1828),(-28)]),0)]
set_option maxRecDepth 100000 in
theorem q1106_ok : rf_chkB q1106_P q1106_U wLay q1106_M ddX12_loadOf [(38,[0])] [.inl 3,.inl 4] [0,4,13,51] 600 q1106_N = true := by decide +kernel
set_option maxHeartbeats 4000000 in
theorem q1106_met {G : rfG} (h : okG G) (hh : w1OK G) : rf_met G q1106_M := rf_methodB h.1 (P := q1106_P) (U := q1106_U) (N := q1106_N) ⟨wflT h flokX12, wcsT h csokX12, wlcT h lcokX12, spokX12 h, List.forall_mem_cons.mpr ⟨q874_met h hh, fun _ h => absurd h List.not_mem_nil⟩, fun _ h => absurd h List.not_mem_nil, List.forall_mem_cons.mpr ⟨fun M hM => Option.some.inj (show some q874_M = some M from hM) ▸ wlkV (lkX12_369 h) q874_M rfl rfl, fun _ h => absurd h List.not_mem_nil⟩, fun _ h => absurd h List.not_mem_nil, fun _ h => absurd h List.not_mem_nil⟩ dkX12_loadOf (by decide +kernel) (by rw [h.2.2.1]; exact q1106_ok)
/-- NearSpellModel.loadOf -/
def q1107_M : rfM := ((⟨"NearSpellModel", "loadOf", "(I)I"⟩, prog_14_method_97_code, 5, (some .int)), (22,2045), ([.inr (.inl [114]),.inl ((0,12,1),none)],[((77,1),(1,31,1),none),((114,28),(1,1,0),none),((998,0),(1,1,0),none)]), [(89,0),(114,35)], [(some (.inl (((-2147483648),2147483647,1),none)),[],[])])
def q1107_P : rfP := (flX12,csX12,lcX12,spX12,[q874_M],[],[(369,0,12)],([],[]))
def q1107_U : rfU := []
set_option maxHeartbeats 8000000 in
def q1107_N : List rfB := [(0,([(0,.inr (.inl [114])),(1,.inl ((0,12,1),none))],[],[((77,1),(1,31,1),some ((77,1),0,0)),((114,28),(1,1,0),some ((114,28),0,0)),((998,0),(1,1,0),some ((998,0),0,0))]),(27425,[0,0]),0),
  (4,([(0,.inr (.inl [114])),(1,.inl ((0,12,1),none)),(2,.inl (((-2147483648),2147483647,1),none)),(3,.inl ((0,14,1),none))],[],[((77,1),(1,31,1),some ((77,1),0,0)),((114,28),(1,1,0),some ((114,28),0,0)),((998,0),(1,1,0),some ((998,0),0,0))]),(27419,[(-1828),0]),0),
  (13,([(0,.inr (.inl [114])),(1,.inl ((0,12,1),none)),(2,.inl (((-2147483648),2147483647,1),none)),(3,.inl ((0,13,1),none)),(4,.inl ((0,64,1),none))],[],[((77,1),(1,31,1),some ((77,1),0,0)),((114,28),(1,1,0),some ((114,28),0,0)),((998,0),(1,1,0),some ((998,0),0,0))]),(27412,[(-1828),(-28)]),0),
  (51,([(0,.inr (.inl [114])),(1,.inl ((0,12,1),none)),(2,.inl (((-2147483648),2147483647,1),none)),(3,.inl ((0,13,1),none)),(4,.inl ((0,63,1),none))],[.inl (((-2147483648),2147483647,1),none)],[((77,1),(1,31,1),some ((77,1),0,0)),((114,28),(1,1,0),some ((114,28),0,0)),((998,0),(1,1,0),some ((998,0),0,0))]),(27388,[(-1828),(-28)]),0)]
set_option maxRecDepth 100000 in
theorem q1107_ok : rf_chkB q1107_P q1107_U wLay q1107_M ddX12_loadOf [(38,[0])] [.inl 3,.inl 4] [0,4,13,51] 600 q1107_N = true := by decide +kernel
set_option maxHeartbeats 4000000 in
theorem q1107_met {G : rfG} (h : okG G) (hh : w1OK G) : rf_met G q1107_M := rf_methodB h.1 (P := q1107_P) (U := q1107_U) (N := q1107_N) ⟨wflT h flokX12, wcsT h csokX12, wlcT h lcokX12, spokX12 h, List.forall_mem_cons.mpr ⟨q874_met h hh, fun _ h => absurd h List.not_mem_nil⟩, fun _ h => absurd h List.not_mem_nil, List.forall_mem_cons.mpr ⟨fun M hM => Option.some.inj (show some q874_M = some M from hM) ▸ wlkV (lkX12_369 h) q874_M rfl rfl, fun _ h => absurd h List.not_mem_nil⟩, fun _ h => absurd h List.not_mem_nil, fun _ h => absurd h List.not_mem_nil⟩ dkX12_loadOf (by decide +kernel) (by rw [h.2.2.1]; exact q1107_ok)
/-- NearSpellModel.loadOf -/
def q1108_M : rfM := ((⟨"NearSpellModel", "loadOf", "(I)I"⟩, prog_14_method_97_code, 5, (some .int)), (22,2045), ([.inr (.inl [114]),.inl ((0,13,1),none)],[((77,1),(1,31,1),none),((114,28),(1,1,0),none),((998,0),(1,1,0),none)]), [(89,0),(114,35)], [(some (.inl (((-2147483648),2147483647,1),none)),[],[])])
def q1108_P : rfP := (flX12,csX12,lcX12,spX12,[q874_M],[],[(369,0,12)],([],[]))
def q1108_U : rfU := []
set_option maxHeartbeats 8000000 in
def q1108_N : List rfB := [(0,([(0,.inr (.inl [114])),(1,.inl ((0,13,1),none))],[],[((77,1),(1,31,1),some ((77,1),0,0)),((114,28),(1,1,0),some ((114,28),0,0)),((998,0),(1,1,0),some ((998,0),0,0))]),(27425,[0,0]),0),
  (4,([(0,.inr (.inl [114])),(1,.inl ((0,13,1),none)),(2,.inl (((-2147483648),2147483647,1),none)),(3,.inl ((0,14,1),none))],[],[((77,1),(1,31,1),some ((77,1),0,0)),((114,28),(1,1,0),some ((114,28),0,0)),((998,0),(1,1,0),some ((998,0),0,0))]),(27419,[(-1828),0]),0),
  (13,([(0,.inr (.inl [114])),(1,.inl ((0,13,1),none)),(2,.inl (((-2147483648),2147483647,1),none)),(3,.inl ((0,13,1),none)),(4,.inl ((0,64,1),none))],[],[((77,1),(1,31,1),some ((77,1),0,0)),((114,28),(1,1,0),some ((114,28),0,0)),((998,0),(1,1,0),some ((998,0),0,0))]),(27412,[(-1828),(-28)]),0),
  (51,([(0,.inr (.inl [114])),(1,.inl ((0,13,1),none)),(2,.inl (((-2147483648),2147483647,1),none)),(3,.inl ((0,13,1),none)),(4,.inl ((0,63,1),none))],[.inl (((-2147483648),2147483647,1),none)],[((77,1),(1,31,1),some ((77,1),0,0)),((114,28),(1,1,0),some ((114,28),0,0)),((998,0),(1,1,0),some ((998,0),0,0))]),(27388,[(-1828),(-28)]),0)]
set_option maxRecDepth 100000 in
theorem q1108_ok : rf_chkB q1108_P q1108_U wLay q1108_M ddX12_loadOf [(38,[0])] [.inl 3,.inl 4] [0,4,13,51] 600 q1108_N = true := by decide +kernel
set_option maxHeartbeats 4000000 in
theorem q1108_met {G : rfG} (h : okG G) (hh : w1OK G) : rf_met G q1108_M := rf_methodB h.1 (P := q1108_P) (U := q1108_U) (N := q1108_N) ⟨wflT h flokX12, wcsT h csokX12, wlcT h lcokX12, spokX12 h, List.forall_mem_cons.mpr ⟨q874_met h hh, fun _ h => absurd h List.not_mem_nil⟩, fun _ h => absurd h List.not_mem_nil, List.forall_mem_cons.mpr ⟨fun M hM => Option.some.inj (show some q874_M = some M from hM) ▸ wlkV (lkX12_369 h) q874_M rfl rfl, fun _ h => absurd h List.not_mem_nil⟩, fun _ h => absurd h List.not_mem_nil, fun _ h => absurd h List.not_mem_nil⟩ dkX12_loadOf (by decide +kernel) (by rw [h.2.2.1]; exact q1108_ok)
/-- NearSpellModel.loadOf -/
def q1109_M : rfM := ((⟨"NearSpellModel", "loadOf", "(I)I"⟩, prog_14_method_97_code, 5, (some .int)), (22,2045), ([.inr (.inl [114]),.inl ((0,14,1),none)],[((77,1),(1,31,1),none),((114,28),(1,1,0),none),((998,0),(1,1,0),none)]), [(89,0),(114,35)], [(some (.inl (((-2147483648),2147483647,1),none)),[],[])])
def q1109_P : rfP := (flX12,csX12,lcX12,spX12,[q874_M],[],[(369,0,12)],([],[]))
def q1109_U : rfU := []
set_option maxHeartbeats 8000000 in
def q1109_N : List rfB := [(0,([(0,.inr (.inl [114])),(1,.inl ((0,14,1),none))],[],[((77,1),(1,31,1),some ((77,1),0,0)),((114,28),(1,1,0),some ((114,28),0,0)),((998,0),(1,1,0),some ((998,0),0,0))]),(27425,[0,0]),0),
  (4,([(0,.inr (.inl [114])),(1,.inl ((0,14,1),none)),(2,.inl (((-2147483648),2147483647,1),none)),(3,.inl ((0,14,1),none))],[],[((77,1),(1,31,1),some ((77,1),0,0)),((114,28),(1,1,0),some ((114,28),0,0)),((998,0),(1,1,0),some ((998,0),0,0))]),(27419,[(-1828),0]),0),
  (13,([(0,.inr (.inl [114])),(1,.inl ((0,14,1),none)),(2,.inl (((-2147483648),2147483647,1),none)),(3,.inl ((0,13,1),none)),(4,.inl ((0,64,1),none))],[],[((77,1),(1,31,1),some ((77,1),0,0)),((114,28),(1,1,0),some ((114,28),0,0)),((998,0),(1,1,0),some ((998,0),0,0))]),(27412,[(-1828),(-28)]),0),
  (51,([(0,.inr (.inl [114])),(1,.inl ((0,14,1),none)),(2,.inl (((-2147483648),2147483647,1),none)),(3,.inl ((0,13,1),none)),(4,.inl ((0,63,1),none))],[.inl (((-2147483648),2147483647,1),none)],[((77,1),(1,31,1),some ((77,1),0,0)),((114,28),(1,1,0),some ((114,28),0,0)),((998,0),(1,1,0),some ((998,0),0,0))]),(27388,[(-1828),(-28)]),0)]
set_option maxRecDepth 100000 in
theorem q1109_ok : rf_chkB q1109_P q1109_U wLay q1109_M ddX12_loadOf [(38,[0])] [.inl 3,.inl 4] [0,4,13,51] 600 q1109_N = true := by decide +kernel
set_option maxHeartbeats 4000000 in
theorem q1109_met {G : rfG} (h : okG G) (hh : w1OK G) : rf_met G q1109_M := rf_methodB h.1 (P := q1109_P) (U := q1109_U) (N := q1109_N) ⟨wflT h flokX12, wcsT h csokX12, wlcT h lcokX12, spokX12 h, List.forall_mem_cons.mpr ⟨q874_met h hh, fun _ h => absurd h List.not_mem_nil⟩, fun _ h => absurd h List.not_mem_nil, List.forall_mem_cons.mpr ⟨fun M hM => Option.some.inj (show some q874_M = some M from hM) ▸ wlkV (lkX12_369 h) q874_M rfl rfl, fun _ h => absurd h List.not_mem_nil⟩, fun _ h => absurd h List.not_mem_nil, fun _ h => absurd h List.not_mem_nil⟩ dkX12_loadOf (by decide +kernel) (by rw [h.2.2.1]; exact q1109_ok)
/-- NearSpellModel.loadOf -/
def q1110_M : rfM := ((⟨"NearSpellModel", "loadOf", "(I)I"⟩, prog_14_method_97_code, 5, (some .int)), (22,2045), ([.inr (.inl [114]),.inl ((0,26,1),none)],[((77,1),(1,31,1),none),((114,28),(1,1,0),none),((998,0),(1,1,0),none)]), [(89,0),(114,35)], [(some (.inl (((-2147483648),2147483647,1),none)),[],[])])
def q1110_P : rfP := (flX12,csX12,lcX12,spX12,[q874_M],[],[(369,0,12)],([],[]))
def q1110_U : rfU := []
set_option maxHeartbeats 8000000 in
def q1110_N : List rfB := [(0,([(0,.inr (.inl [114])),(1,.inl ((0,26,1),none))],[],[((77,1),(1,31,1),some ((77,1),0,0)),((114,28),(1,1,0),some ((114,28),0,0)),((998,0),(1,1,0),some ((998,0),0,0))]),(27425,[0,0]),0),
  (4,([(0,.inr (.inl [114])),(1,.inl ((0,26,1),none)),(2,.inl (((-2147483648),2147483647,1),none)),(3,.inl ((0,14,1),none))],[],[((77,1),(1,31,1),some ((77,1),0,0)),((114,28),(1,1,0),some ((114,28),0,0)),((998,0),(1,1,0),some ((998,0),0,0))]),(27419,[(-1828),0]),0),
  (13,([(0,.inr (.inl [114])),(1,.inl ((0,26,1),none)),(2,.inl (((-2147483648),2147483647,1),none)),(3,.inl ((0,13,1),none)),(4,.inl ((0,64,1),none))],[],[((77,1),(1,31,1),some ((77,1),0,0)),((114,28),(1,1,0),some ((114,28),0,0)),((998,0),(1,1,0),some ((998,0),0,0))]),(27412,[(-1828),(-28)]),0),
  (51,([(0,.inr (.inl [114])),(1,.inl ((0,26,1),none)),(2,.inl (((-2147483648),2147483647,1),none)),(3,.inl ((0,13,1),none)),(4,.inl ((0,63,1),none))],[.inl (((-2147483648),2147483647,1),none)],[((77,1),(1,31,1),some ((77,1),0,0)),((114,28),(1,1,0),some ((114,28),0,0)),((998,0),(1,1,0),some ((998,0),0,0))]),(27388,[(-1828),(-28)]),0)]
set_option maxRecDepth 100000 in
theorem q1110_ok : rf_chkB q1110_P q1110_U wLay q1110_M ddX12_loadOf [(38,[0])] [.inl 3,.inl 4] [0,4,13,51] 600 q1110_N = true := by decide +kernel
set_option maxHeartbeats 4000000 in
theorem q1110_met {G : rfG} (h : okG G) (hh : w1OK G) : rf_met G q1110_M := rf_methodB h.1 (P := q1110_P) (U := q1110_U) (N := q1110_N) ⟨wflT h flokX12, wcsT h csokX12, wlcT h lcokX12, spokX12 h, List.forall_mem_cons.mpr ⟨q874_met h hh, fun _ h => absurd h List.not_mem_nil⟩, fun _ h => absurd h List.not_mem_nil, List.forall_mem_cons.mpr ⟨fun M hM => Option.some.inj (show some q874_M = some M from hM) ▸ wlkV (lkX12_369 h) q874_M rfl rfl, fun _ h => absurd h List.not_mem_nil⟩, fun _ h => absurd h List.not_mem_nil, fun _ h => absurd h List.not_mem_nil⟩ dkX12_loadOf (by decide +kernel) (by rw [h.2.2.1]; exact q1110_ok)
/-- NearSpellModel.loadOf -/
def q1111_M : rfM := ((⟨"NearSpellModel", "loadOf", "(I)I"⟩, prog_14_method_97_code, 5, (some .int)), (22,2045), ([.inr (.inl [114]),.inl ((0,29,1),none)],[((77,1),(1,31,1),none),((114,28),(1,1,0),none),((998,0),(1,1,0),none)]), [(89,0),(114,35)], [(some (.inl (((-2147483648),2147483647,1),none)),[],[])])
def q1111_P : rfP := (flX12,csX12,lcX12,spX12,[q874_M],[],[(369,0,12)],([],[]))
def q1111_U : rfU := []
set_option maxHeartbeats 8000000 in
def q1111_N : List rfB := [(0,([(0,.inr (.inl [114])),(1,.inl ((0,29,1),none))],[],[((77,1),(1,31,1),some ((77,1),0,0)),((114,28),(1,1,0),some ((114,28),0,0)),((998,0),(1,1,0),some ((998,0),0,0))]),(27425,[0,0]),0),
  (4,([(0,.inr (.inl [114])),(1,.inl ((0,29,1),none)),(2,.inl (((-2147483648),2147483647,1),none)),(3,.inl ((0,14,1),none))],[],[((77,1),(1,31,1),some ((77,1),0,0)),((114,28),(1,1,0),some ((114,28),0,0)),((998,0),(1,1,0),some ((998,0),0,0))]),(27419,[(-1828),0]),0),
  (13,([(0,.inr (.inl [114])),(1,.inl ((0,29,1),none)),(2,.inl (((-2147483648),2147483647,1),none)),(3,.inl ((0,13,1),none)),(4,.inl ((0,64,1),none))],[],[((77,1),(1,31,1),some ((77,1),0,0)),((114,28),(1,1,0),some ((114,28),0,0)),((998,0),(1,1,0),some ((998,0),0,0))]),(27412,[(-1828),(-28)]),0),
  (51,([(0,.inr (.inl [114])),(1,.inl ((0,29,1),none)),(2,.inl (((-2147483648),2147483647,1),none)),(3,.inl ((0,13,1),none)),(4,.inl ((0,63,1),none))],[.inl (((-2147483648),2147483647,1),none)],[((77,1),(1,31,1),some ((77,1),0,0)),((114,28),(1,1,0),some ((114,28),0,0)),((998,0),(1,1,0),some ((998,0),0,0))]),(27388,[(-1828),(-28)]),0)]
set_option maxRecDepth 100000 in
theorem q1111_ok : rf_chkB q1111_P q1111_U wLay q1111_M ddX12_loadOf [(38,[0])] [.inl 3,.inl 4] [0,4,13,51] 600 q1111_N = true := by decide +kernel
set_option maxHeartbeats 4000000 in
theorem q1111_met {G : rfG} (h : okG G) (hh : w1OK G) : rf_met G q1111_M := rf_methodB h.1 (P := q1111_P) (U := q1111_U) (N := q1111_N) ⟨wflT h flokX12, wcsT h csokX12, wlcT h lcokX12, spokX12 h, List.forall_mem_cons.mpr ⟨q874_met h hh, fun _ h => absurd h List.not_mem_nil⟩, fun _ h => absurd h List.not_mem_nil, List.forall_mem_cons.mpr ⟨fun M hM => Option.some.inj (show some q874_M = some M from hM) ▸ wlkV (lkX12_369 h) q874_M rfl rfl, fun _ h => absurd h List.not_mem_nil⟩, fun _ h => absurd h List.not_mem_nil, fun _ h => absurd h List.not_mem_nil⟩ dkX12_loadOf (by decide +kernel) (by rw [h.2.2.1]; exact q1111_ok)
/-- NearSpellModel.fullest -/
def q1112_M : rfM := ((⟨"NearSpellModel", "fullest", "()I"⟩, prog_14_method_99_code, 6, (some .int)), (23,2069), ([.inr (.inl [114])],[((77,1),(1,31,1),none),((114,28),(1,1,0),none),((998,0),(1,1,0),none)]), [(89,0),(91,0),(92,0),(93,0),(114,35),(114,40)], [(some (.inl ((0,31,1),none)),[],[])])
def q1112_P : rfP := (flX12,csX12,lcX12,spX12,[q806_M,q873_M,q1091_M],[],[(372,0,12),(375,1,12),(462,2,12)],([],[]))
def q1112_U : rfU := []
set_option maxHeartbeats 8000000 in
def q1112_N : List rfB := [(0,([(0,.inr (.inl [114]))],[],[((77,1),(1,31,1),some ((77,1),0,0)),((114,28),(1,1,0),some ((114,28),0,0)),((998,0),(1,1,0),some ((998,0),0,0))]),(908,[0]),0),
  (16,([(0,.inr (.inl [114])),(1,.inl (((-2147483648),2147483647,1),none)),(2,.inl ((0,31,1),none)),(3,.inl ((0,2147483647,1),none)),(4,.inl ((0,31,1),none))],[],[((77,1),(1,31,1),some ((77,1),0,0)),((114,28),(1,1,0),some ((114,28),0,0)),((998,0),(1,1,0),some ((998,0),0,0))]),(895,[(-28)]),0),
  (68,([(0,.inr (.inl [114])),(1,.inl (((-2147483648),2147483647,1),none)),(2,.inl ((0,31,1),none)),(3,.inl ((0,2147483647,1),none)),(4,.inl ((0,31,1),none))],[],[((77,1),(1,31,1),some ((77,1),0,0)),((114,28),(1,1,0),some ((114,28),0,0)),((998,0),(1,1,0),some ((998,0),0,0))]),(1,[0]),0),
  (62,([(0,.inr (.inl [114])),(1,.inl (((-2147483648),2147483647,1),none)),(2,.inl ((0,31,1),none)),(3,.inl ((0,2147483647,1),none)),(4,.inl ((0,30,1),none)),(5,.inl (((-2147483648),2147483647,1),none))],[],[((77,1),(1,31,1),some ((77,1),0,0)),((114,28),(1,1,0),some ((114,28),0,0)),((998,0),(1,1,0),some ((998,0),0,0))]),(870,[(-28)]),0)]
set_option maxRecDepth 100000 in
theorem q1112_ok : rf_chkB q1112_P q1112_U wLay q1112_M ddX12_fullest [(2,[0]),(5,[1]),(37,[2])] [.inl 4] [0,16,62,68] 600 q1112_N = true := by decide +kernel
set_option maxHeartbeats 4000000 in
theorem q1112_met {G : rfG} (h : okG G) (hh : w1OK G) : rf_met G q1112_M := rf_methodB h.1 (P := q1112_P) (U := q1112_U) (N := q1112_N) ⟨wflT h flokX12, wcsT h csokX12, wlcT h lcokX12, spokX12 h, List.forall_mem_cons.mpr ⟨q806_met h, List.forall_mem_cons.mpr ⟨q873_met h, List.forall_mem_cons.mpr ⟨q1091_met h hh, fun _ h => absurd h List.not_mem_nil⟩⟩⟩, fun _ h => absurd h List.not_mem_nil, List.forall_mem_cons.mpr ⟨fun M hM => Option.some.inj (show some q806_M = some M from hM) ▸ wlkV (lkX12_372 h) q806_M rfl rfl, List.forall_mem_cons.mpr ⟨fun M hM => Option.some.inj (show some q873_M = some M from hM) ▸ wlkV (lkX12_375 h) q873_M rfl rfl, List.forall_mem_cons.mpr ⟨fun M hM => Option.some.inj (show some q1091_M = some M from hM) ▸ wlkV (lkX12_462 h) q1091_M rfl rfl, fun _ h => absurd h List.not_mem_nil⟩⟩⟩, fun _ h => absurd h List.not_mem_nil, fun _ h => absurd h List.not_mem_nil⟩ dkX12_fullest (by decide +kernel) (by rw [h.2.2.1]; exact q1112_ok)
