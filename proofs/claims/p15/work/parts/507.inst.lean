/-- NearSpell.redo -/
def q350_M : rfM := ((⟨"NearSpell", "redo", "()Z"⟩, prog_1_method_13_code, 1, (some .boolean)), (3,62), ([.inr (.inl [70])],[((16,4),(0,27,1),none),((16,5),(13,13,0),none)]), [(12,0),(16,5),(16,6)], [(some (.inl ((1,1,0),none)),[],[((16,4),(1,28,1),some ((16,4),1,1)),((16,5),(12,12,0),some ((16,5),(-1),(-1)))])])
def q350_P : rfP := (flX11,csX11,lcX11,spX11,[q349_M],[],[(208,0,0)],([],[]))
def q350_U : rfU := []
set_option maxHeartbeats 8000000 in
def q350_N : List rfB := [(0,([(0,.inr (.inl [70]))],[],[((16,4),(0,27,1),some ((16,4),0,0)),((16,5),(13,13,0),some ((16,5),0,0))]),(5,[]),0)]
set_option maxRecDepth 100000 in
theorem q350_ok : rf_chkB q350_P q350_U wLay q350_M ddX11_redo [(8,[0])] [] [0] 600 q350_N = true := by decide +kernel
set_option maxHeartbeats 4000000 in
theorem q350_met {G : rfG} (h : okG G) : rf_met G q350_M := rf_methodB h.1 (P := q350_P) (U := q350_U) (N := q350_N) ⟨wflT h flokX11, wcsT h csokX11, wlcT h lcokX11, spokX11 h, List.forall_mem_cons.mpr ⟨q349_met h, fun _ h => absurd h List.not_mem_nil⟩, fun _ h => absurd h List.not_mem_nil, List.forall_mem_cons.mpr ⟨fun M hM => Option.some.inj (show some q349_M = some M from hM) ▸ wlkV (lkX11_208 h) q349_M rfl rfl, fun _ h => absurd h List.not_mem_nil⟩, fun _ h => absurd h List.not_mem_nil, fun _ h => absurd h List.not_mem_nil⟩ dkX11_redo (by decide +kernel) (by rw [h.2.2.1]; exact q350_ok)
/-- NearSpell.Archive.doAgain -/
def q351_M : rfM := ((⟨"NearSpell$Archive", "doAgain", "(LNearSpell$State;)Z"⟩, prog_2_method_5_code, 2, (some .boolean)), (2,41), ([.inr (.inl [16]),.inr (.inl [13])],[((16,4),(0,26,1),none),((16,5),(14,14,0),none)]), [(12,0),(16,5),(16,6)], [(some (.inl ((1,1,0),none)),[],[((16,4),(1,27,1),some ((16,4),1,1)),((16,5),(13,13,0),some ((16,5),(-1),(-1)))])])
def q351_P : rfP := (flX0,csX0,lcX0,spX0,[q240_M],[],[(37,0,0)],([],[]))
def q351_U : rfU := []
set_option maxHeartbeats 8000000 in
def q351_N : List rfB := [(0,([(0,.inr (.inl [16])),(1,.inr (.inl [13]))],[],[((16,4),(0,26,1),some ((16,4),0,0)),((16,5),(14,14,0),some ((16,5),0,0))]),(19,[]),0)]
set_option maxRecDepth 100000 in
theorem q351_ok : rf_chkB q351_P q351_U wLay q351_M ddX0_doAgain [(31,[0])] [] [0] 600 q351_N = true := by decide +kernel
set_option maxHeartbeats 4000000 in
theorem q351_met {G : rfG} (h : okG G) : rf_met G q351_M := rf_methodB h.1 (P := q351_P) (U := q351_U) (N := q351_N) ⟨wflT h flokX0, wcsT h csokX0, wlcT h lcokX0, spokX0 h, List.forall_mem_cons.mpr ⟨q240_met h, fun _ h => absurd h List.not_mem_nil⟩, fun _ h => absurd h List.not_mem_nil, List.forall_mem_cons.mpr ⟨fun M hM => Option.some.inj (show some q240_M = some M from hM) ▸ wlkV (lkX0_37 h) q240_M rfl rfl, fun _ h => absurd h List.not_mem_nil⟩, fun _ h => absurd h List.not_mem_nil, fun _ h => absurd h List.not_mem_nil⟩ dkX0_doAgain (by decide +kernel) (by rw [h.2.2.1]; exact q351_ok)
/-- NearSpell.redo -/
def q352_M : rfM := ((⟨"NearSpell", "redo", "()Z"⟩, prog_1_method_13_code, 1, (some .boolean)), (3,62), ([.inr (.inl [70])],[((16,4),(0,26,1),none),((16,5),(14,14,0),none)]), [(12,0),(16,5),(16,6)], [(some (.inl ((1,1,0),none)),[],[((16,4),(1,27,1),some ((16,4),1,1)),((16,5),(13,13,0),some ((16,5),(-1),(-1)))])])
def q352_P : rfP := (flX11,csX11,lcX11,spX11,[q351_M],[],[(208,0,0)],([],[]))
def q352_U : rfU := []
set_option maxHeartbeats 8000000 in
def q352_N : List rfB := [(0,([(0,.inr (.inl [70]))],[],[((16,4),(0,26,1),some ((16,4),0,0)),((16,5),(14,14,0),some ((16,5),0,0))]),(5,[]),0)]
set_option maxRecDepth 100000 in
theorem q352_ok : rf_chkB q352_P q352_U wLay q352_M ddX11_redo [(8,[0])] [] [0] 600 q352_N = true := by decide +kernel
set_option maxHeartbeats 4000000 in
theorem q352_met {G : rfG} (h : okG G) : rf_met G q352_M := rf_methodB h.1 (P := q352_P) (U := q352_U) (N := q352_N) ⟨wflT h flokX11, wcsT h csokX11, wlcT h lcokX11, spokX11 h, List.forall_mem_cons.mpr ⟨q351_met h, fun _ h => absurd h List.not_mem_nil⟩, fun _ h => absurd h List.not_mem_nil, List.forall_mem_cons.mpr ⟨fun M hM => Option.some.inj (show some q351_M = some M from hM) ▸ wlkV (lkX11_208 h) q351_M rfl rfl, fun _ h => absurd h List.not_mem_nil⟩, fun _ h => absurd h List.not_mem_nil, fun _ h => absurd h List.not_mem_nil⟩ dkX11_redo (by decide +kernel) (by rw [h.2.2.1]; exact q352_ok)
/-- NearSpell.Archive.doAgain -/
def q353_M : rfM := ((⟨"NearSpell$Archive", "doAgain", "(LNearSpell$State;)Z"⟩, prog_2_method_5_code, 2, (some .boolean)), (2,41), ([.inr (.inl [16]),.inr (.inl [13])],[((16,4),(0,25,1),none),((16,5),(15,15,0),none)]), [(12,0),(16,5),(16,6)], [(some (.inl ((1,1,0),none)),[],[((16,4),(1,26,1),some ((16,4),1,1)),((16,5),(14,14,0),some ((16,5),(-1),(-1)))])])
def q353_P : rfP := (flX0,csX0,lcX0,spX0,[q240_M],[],[(37,0,0)],([],[]))
def q353_U : rfU := []
set_option maxHeartbeats 8000000 in
def q353_N : List rfB := [(0,([(0,.inr (.inl [16])),(1,.inr (.inl [13]))],[],[((16,4),(0,25,1),some ((16,4),0,0)),((16,5),(15,15,0),some ((16,5),0,0))]),(19,[]),0)]
set_option maxRecDepth 100000 in
theorem q353_ok : rf_chkB q353_P q353_U wLay q353_M ddX0_doAgain [(31,[0])] [] [0] 600 q353_N = true := by decide +kernel
set_option maxHeartbeats 4000000 in
theorem q353_met {G : rfG} (h : okG G) : rf_met G q353_M := rf_methodB h.1 (P := q353_P) (U := q353_U) (N := q353_N) ⟨wflT h flokX0, wcsT h csokX0, wlcT h lcokX0, spokX0 h, List.forall_mem_cons.mpr ⟨q240_met h, fun _ h => absurd h List.not_mem_nil⟩, fun _ h => absurd h List.not_mem_nil, List.forall_mem_cons.mpr ⟨fun M hM => Option.some.inj (show some q240_M = some M from hM) ▸ wlkV (lkX0_37 h) q240_M rfl rfl, fun _ h => absurd h List.not_mem_nil⟩, fun _ h => absurd h List.not_mem_nil, fun _ h => absurd h List.not_mem_nil⟩ dkX0_doAgain (by decide +kernel) (by rw [h.2.2.1]; exact q353_ok)
/-- NearSpell.redo -/
def q354_M : rfM := ((⟨"NearSpell", "redo", "()Z"⟩, prog_1_method_13_code, 1, (some .boolean)), (3,62), ([.inr (.inl [70])],[((16,4),(0,25,1),none),((16,5),(15,15,0),none)]), [(12,0),(16,5),(16,6)], [(some (.inl ((1,1,0),none)),[],[((16,4),(1,26,1),some ((16,4),1,1)),((16,5),(14,14,0),some ((16,5),(-1),(-1)))])])
def q354_P : rfP := (flX11,csX11,lcX11,spX11,[q353_M],[],[(208,0,0)],([],[]))
def q354_U : rfU := []
set_option maxHeartbeats 8000000 in
def q354_N : List rfB := [(0,([(0,.inr (.inl [70]))],[],[((16,4),(0,25,1),some ((16,4),0,0)),((16,5),(15,15,0),some ((16,5),0,0))]),(5,[]),0)]
set_option maxRecDepth 100000 in
theorem q354_ok : rf_chkB q354_P q354_U wLay q354_M ddX11_redo [(8,[0])] [] [0] 600 q354_N = true := by decide +kernel
set_option maxHeartbeats 4000000 in
theorem q354_met {G : rfG} (h : okG G) : rf_met G q354_M := rf_methodB h.1 (P := q354_P) (U := q354_U) (N := q354_N) ⟨wflT h flokX11, wcsT h csokX11, wlcT h lcokX11, spokX11 h, List.forall_mem_cons.mpr ⟨q353_met h, fun _ h => absurd h List.not_mem_nil⟩, fun _ h => absurd h List.not_mem_nil, List.forall_mem_cons.mpr ⟨fun M hM => Option.some.inj (show some q353_M = some M from hM) ▸ wlkV (lkX11_208 h) q353_M rfl rfl, fun _ h => absurd h List.not_mem_nil⟩, fun _ h => absurd h List.not_mem_nil, fun _ h => absurd h List.not_mem_nil⟩ dkX11_redo (by decide +kernel) (by rw [h.2.2.1]; exact q354_ok)
/-- NearSpell.Archive.doAgain -/
def q355_M : rfM := ((⟨"NearSpell$Archive", "doAgain", "(LNearSpell$State;)Z"⟩, prog_2_method_5_code, 2, (some .boolean)), (2,41), ([.inr (.inl [16]),.inr (.inl [13])],[((16,4),(0,24,1),none),((16,5),(16,16,0),none)]), [(12,0),(16,5),(16,6)], [(some (.inl ((1,1,0),none)),[],[((16,4),(1,25,1),some ((16,4),1,1)),((16,5),(15,15,0),some ((16,5),(-1),(-1)))])])
def q355_P : rfP := (flX0,csX0,lcX0,spX0,[q240_M],[],[(37,0,0)],([],[]))
def q355_U : rfU := []
set_option maxHeartbeats 8000000 in
def q355_N : List rfB := [(0,([(0,.inr (.inl [16])),(1,.inr (.inl [13]))],[],[((16,4),(0,24,1),some ((16,4),0,0)),((16,5),(16,16,0),some ((16,5),0,0))]),(19,[]),0)]
set_option maxRecDepth 100000 in
theorem q355_ok : rf_chkB q355_P q355_U wLay q355_M ddX0_doAgain [(31,[0])] [] [0] 600 q355_N = true := by decide +kernel
set_option maxHeartbeats 4000000 in
theorem q355_met {G : rfG} (h : okG G) : rf_met G q355_M := rf_methodB h.1 (P := q355_P) (U := q355_U) (N := q355_N) ⟨wflT h flokX0, wcsT h csokX0, wlcT h lcokX0, spokX0 h, List.forall_mem_cons.mpr ⟨q240_met h, fun _ h => absurd h List.not_mem_nil⟩, fun _ h => absurd h List.not_mem_nil, List.forall_mem_cons.mpr ⟨fun M hM => Option.some.inj (show some q240_M = some M from hM) ▸ wlkV (lkX0_37 h) q240_M rfl rfl, fun _ h => absurd h List.not_mem_nil⟩, fun _ h => absurd h List.not_mem_nil, fun _ h => absurd h List.not_mem_nil⟩ dkX0_doAgain (by decide +kernel) (by rw [h.2.2.1]; exact q355_ok)
/-- NearSpell.redo -/
def q356_M : rfM := ((⟨"NearSpell", "redo", "()Z"⟩, prog_1_method_13_code, 1, (some .boolean)), (3,62), ([.inr (.inl [70])],[((16,4),(0,24,1),none),((16,5),(16,16,0),none)]), [(12,0),(16,5),(16,6)], [(some (.inl ((1,1,0),none)),[],[((16,4),(1,25,1),some ((16,4),1,1)),((16,5),(15,15,0),some ((16,5),(-1),(-1)))])])
def q356_P : rfP := (flX11,csX11,lcX11,spX11,[q355_M],[],[(208,0,0)],([],[]))
def q356_U : rfU := []
set_option maxHeartbeats 8000000 in
def q356_N : List rfB := [(0,([(0,.inr (.inl [70]))],[],[((16,4),(0,24,1),some ((16,4),0,0)),((16,5),(16,16,0),some ((16,5),0,0))]),(5,[]),0)]
set_option maxRecDepth 100000 in
theorem q356_ok : rf_chkB q356_P q356_U wLay q356_M ddX11_redo [(8,[0])] [] [0] 600 q356_N = true := by decide +kernel
set_option maxHeartbeats 4000000 in
theorem q356_met {G : rfG} (h : okG G) : rf_met G q356_M := rf_methodB h.1 (P := q356_P) (U := q356_U) (N := q356_N) ⟨wflT h flokX11, wcsT h csokX11, wlcT h lcokX11, spokX11 h, List.forall_mem_cons.mpr ⟨q355_met h, fun _ h => absurd h List.not_mem_nil⟩, fun _ h => absurd h List.not_mem_nil, List.forall_mem_cons.mpr ⟨fun M hM => Option.some.inj (show some q355_M = some M from hM) ▸ wlkV (lkX11_208 h) q355_M rfl rfl, fun _ h => absurd h List.not_mem_nil⟩, fun _ h => absurd h List.not_mem_nil, fun _ h => absurd h List.not_mem_nil⟩ dkX11_redo (by decide +kernel) (by rw [h.2.2.1]; exact q356_ok)
/-- NearSpell.Archive.doAgain -/
def q357_M : rfM := ((⟨"NearSpell$Archive", "doAgain", "(LNearSpell$State;)Z"⟩, prog_2_method_5_code, 2, (some .boolean)), (2,41), ([.inr (.inl [16]),.inr (.inl [13])],[((16,4),(0,23,1),none),((16,5),(17,17,0),none)]), [(12,0),(16,5),(16,6)], [(some (.inl ((1,1,0),none)),[],[((16,4),(1,24,1),some ((16,4),1,1)),((16,5),(16,16,0),some ((16,5),(-1),(-1)))])])
def q357_P : rfP := (flX0,csX0,lcX0,spX0,[q240_M],[],[(37,0,0)],([],[]))
def q357_U : rfU := []
set_option maxHeartbeats 8000000 in
def q357_N : List rfB := [(0,([(0,.inr (.inl [16])),(1,.inr (.inl [13]))],[],[((16,4),(0,23,1),some ((16,4),0,0)),((16,5),(17,17,0),some ((16,5),0,0))]),(19,[]),0)]
set_option maxRecDepth 100000 in
theorem q357_ok : rf_chkB q357_P q357_U wLay q357_M ddX0_doAgain [(31,[0])] [] [0] 600 q357_N = true := by decide +kernel
set_option maxHeartbeats 4000000 in
theorem q357_met {G : rfG} (h : okG G) : rf_met G q357_M := rf_methodB h.1 (P := q357_P) (U := q357_U) (N := q357_N) ⟨wflT h flokX0, wcsT h csokX0, wlcT h lcokX0, spokX0 h, List.forall_mem_cons.mpr ⟨q240_met h, fun _ h => absurd h List.not_mem_nil⟩, fun _ h => absurd h List.not_mem_nil, List.forall_mem_cons.mpr ⟨fun M hM => Option.some.inj (show some q240_M = some M from hM) ▸ wlkV (lkX0_37 h) q240_M rfl rfl, fun _ h => absurd h List.not_mem_nil⟩, fun _ h => absurd h List.not_mem_nil, fun _ h => absurd h List.not_mem_nil⟩ dkX0_doAgain (by decide +kernel) (by rw [h.2.2.1]; exact q357_ok)
/-- NearSpell.redo -/
def q358_M : rfM := ((⟨"NearSpell", "redo", "()Z"⟩, prog_1_method_13_code, 1, (some .boolean)), (3,62), ([.inr (.inl [70])],[((16,4),(0,23,1),none),((16,5),(17,17,0),none)]), [(12,0),(16,5),(16,6)], [(some (.inl ((1,1,0),none)),[],[((16,4),(1,24,1),some ((16,4),1,1)),((16,5),(16,16,0),some ((16,5),(-1),(-1)))])])
def q358_P : rfP := (flX11,csX11,lcX11,spX11,[q357_M],[],[(208,0,0)],([],[]))
def q358_U : rfU := []
set_option maxHeartbeats 8000000 in
def q358_N : List rfB := [(0,([(0,.inr (.inl [70]))],[],[((16,4),(0,23,1),some ((16,4),0,0)),((16,5),(17,17,0),some ((16,5),0,0))]),(5,[]),0)]
set_option maxRecDepth 100000 in
theorem q358_ok : rf_chkB q358_P q358_U wLay q358_M ddX11_redo [(8,[0])] [] [0] 600 q358_N = true := by decide +kernel
set_option maxHeartbeats 4000000 in
theorem q358_met {G : rfG} (h : okG G) : rf_met G q358_M := rf_methodB h.1 (P := q358_P) (U := q358_U) (N := q358_N) ⟨wflT h flokX11, wcsT h csokX11, wlcT h lcokX11, spokX11 h, List.forall_mem_cons.mpr ⟨q357_met h, fun _ h => absurd h List.not_mem_nil⟩, fun _ h => absurd h List.not_mem_nil, List.forall_mem_cons.mpr ⟨fun M hM => Option.some.inj (show some q357_M = some M from hM) ▸ wlkV (lkX11_208 h) q357_M rfl rfl, fun _ h => absurd h List.not_mem_nil⟩, fun _ h => absurd h List.not_mem_nil, fun _ h => absurd h List.not_mem_nil⟩ dkX11_redo (by decide +kernel) (by rw [h.2.2.1]; exact q358_ok)
/-- NearSpell.Archive.doAgain -/
def q359_M : rfM := ((⟨"NearSpell$Archive", "doAgain", "(LNearSpell$State;)Z"⟩, prog_2_method_5_code, 2, (some .boolean)), (2,41), ([.inr (.inl [16]),.inr (.inl [13])],[((16,4),(0,22,1),none),((16,5),(18,18,0),none)]), [(12,0),(16,5),(16,6)], [(some (.inl ((1,1,0),none)),[],[((16,4),(1,23,1),some ((16,4),1,1)),((16,5),(17,17,0),some ((16,5),(-1),(-1)))])])
def q359_P : rfP := (flX0,csX0,lcX0,spX0,[q240_M],[],[(37,0,0)],([],[]))
def q359_U : rfU := []
set_option maxHeartbeats 8000000 in
def q359_N : List rfB := [(0,([(0,.inr (.inl [16])),(1,.inr (.inl [13]))],[],[((16,4),(0,22,1),some ((16,4),0,0)),((16,5),(18,18,0),some ((16,5),0,0))]),(19,[]),0)]
set_option maxRecDepth 100000 in
theorem q359_ok : rf_chkB q359_P q359_U wLay q359_M ddX0_doAgain [(31,[0])] [] [0] 600 q359_N = true := by decide +kernel
set_option maxHeartbeats 4000000 in
theorem q359_met {G : rfG} (h : okG G) : rf_met G q359_M := rf_methodB h.1 (P := q359_P) (U := q359_U) (N := q359_N) ⟨wflT h flokX0, wcsT h csokX0, wlcT h lcokX0, spokX0 h, List.forall_mem_cons.mpr ⟨q240_met h, fun _ h => absurd h List.not_mem_nil⟩, fun _ h => absurd h List.not_mem_nil, List.forall_mem_cons.mpr ⟨fun M hM => Option.some.inj (show some q240_M = some M from hM) ▸ wlkV (lkX0_37 h) q240_M rfl rfl, fun _ h => absurd h List.not_mem_nil⟩, fun _ h => absurd h List.not_mem_nil, fun _ h => absurd h List.not_mem_nil⟩ dkX0_doAgain (by decide +kernel) (by rw [h.2.2.1]; exact q359_ok)
/-- NearSpell.redo -/
def q360_M : rfM := ((⟨"NearSpell", "redo", "()Z"⟩, prog_1_method_13_code, 1, (some .boolean)), (3,62), ([.inr (.inl [70])],[((16,4),(0,22,1),none),((16,5),(18,18,0),none)]), [(12,0),(16,5),(16,6)], [(some (.inl ((1,1,0),none)),[],[((16,4),(1,23,1),some ((16,4),1,1)),((16,5),(17,17,0),some ((16,5),(-1),(-1)))])])
def q360_P : rfP := (flX11,csX11,lcX11,spX11,[q359_M],[],[(208,0,0)],([],[]))
def q360_U : rfU := []
set_option maxHeartbeats 8000000 in
def q360_N : List rfB := [(0,([(0,.inr (.inl [70]))],[],[((16,4),(0,22,1),some ((16,4),0,0)),((16,5),(18,18,0),some ((16,5),0,0))]),(5,[]),0)]
set_option maxRecDepth 100000 in
theorem q360_ok : rf_chkB q360_P q360_U wLay q360_M ddX11_redo [(8,[0])] [] [0] 600 q360_N = true := by decide +kernel
set_option maxHeartbeats 4000000 in
theorem q360_met {G : rfG} (h : okG G) : rf_met G q360_M := rf_methodB h.1 (P := q360_P) (U := q360_U) (N := q360_N) ⟨wflT h flokX11, wcsT h csokX11, wlcT h lcokX11, spokX11 h, List.forall_mem_cons.mpr ⟨q359_met h, fun _ h => absurd h List.not_mem_nil⟩, fun _ h => absurd h List.not_mem_nil, List.forall_mem_cons.mpr ⟨fun M hM => Option.some.inj (show some q359_M = some M from hM) ▸ wlkV (lkX11_208 h) q359_M rfl rfl, fun _ h => absurd h List.not_mem_nil⟩, fun _ h => absurd h List.not_mem_nil, fun _ h => absurd h List.not_mem_nil⟩ dkX11_redo (by decide +kernel) (by rw [h.2.2.1]; exact q360_ok)
/-- NearSpell.Archive.doAgain -/
def q361_M : rfM := ((⟨"NearSpell$Archive", "doAgain", "(LNearSpell$State;)Z"⟩, prog_2_method_5_code, 2, (some .boolean)), (2,41), ([.inr (.inl [16]),.inr (.inl [13])],[((16,4),(0,21,1),none),((16,5),(19,19,0),none)]), [(12,0),(16,5),(16,6)], [(some (.inl ((1,1,0),none)),[],[((16,4),(1,22,1),some ((16,4),1,1)),((16,5),(18,18,0),some ((16,5),(-1),(-1)))])])
def q361_P : rfP := (flX0,csX0,lcX0,spX0,[q240_M],[],[(37,0,0)],([],[]))
def q361_U : rfU := []
set_option maxHeartbeats 8000000 in
def q361_N : List rfB := [(0,([(0,.inr (.inl [16])),(1,.inr (.inl [13]))],[],[((16,4),(0,21,1),some ((16,4),0,0)),((16,5),(19,19,0),some ((16,5),0,0))]),(19,[]),0)]
set_option maxRecDepth 100000 in
theorem q361_ok : rf_chkB q361_P q361_U wLay q361_M ddX0_doAgain [(31,[0])] [] [0] 600 q361_N = true := by decide +kernel
set_option maxHeartbeats 4000000 in
theorem q361_met {G : rfG} (h : okG G) : rf_met G q361_M := rf_methodB h.1 (P := q361_P) (U := q361_U) (N := q361_N) ⟨wflT h flokX0, wcsT h csokX0, wlcT h lcokX0, spokX0 h, List.forall_mem_cons.mpr ⟨q240_met h, fun _ h => absurd h List.not_mem_nil⟩, fun _ h => absurd h List.not_mem_nil, List.forall_mem_cons.mpr ⟨fun M hM => Option.some.inj (show some q240_M = some M from hM) ▸ wlkV (lkX0_37 h) q240_M rfl rfl, fun _ h => absurd h List.not_mem_nil⟩, fun _ h => absurd h List.not_mem_nil, fun _ h => absurd h List.not_mem_nil⟩ dkX0_doAgain (by decide +kernel) (by rw [h.2.2.1]; exact q361_ok)
/-- NearSpell.redo -/
def q362_M : rfM := ((⟨"NearSpell", "redo", "()Z"⟩, prog_1_method_13_code, 1, (some .boolean)), (3,62), ([.inr (.inl [70])],[((16,4),(0,21,1),none),((16,5),(19,19,0),none)]), [(12,0),(16,5),(16,6)], [(some (.inl ((1,1,0),none)),[],[((16,4),(1,22,1),some ((16,4),1,1)),((16,5),(18,18,0),some ((16,5),(-1),(-1)))])])
def q362_P : rfP := (flX11,csX11,lcX11,spX11,[q361_M],[],[(208,0,0)],([],[]))
def q362_U : rfU := []
set_option maxHeartbeats 8000000 in
def q362_N : List rfB := [(0,([(0,.inr (.inl [70]))],[],[((16,4),(0,21,1),some ((16,4),0,0)),((16,5),(19,19,0),some ((16,5),0,0))]),(5,[]),0)]
set_option maxRecDepth 100000 in
theorem q362_ok : rf_chkB q362_P q362_U wLay q362_M ddX11_redo [(8,[0])] [] [0] 600 q362_N = true := by decide +kernel
set_option maxHeartbeats 4000000 in
theorem q362_met {G : rfG} (h : okG G) : rf_met G q362_M := rf_methodB h.1 (P := q362_P) (U := q362_U) (N := q362_N) ⟨wflT h flokX11, wcsT h csokX11, wlcT h lcokX11, spokX11 h, List.forall_mem_cons.mpr ⟨q361_met h, fun _ h => absurd h List.not_mem_nil⟩, fun _ h => absurd h List.not_mem_nil, List.forall_mem_cons.mpr ⟨fun M hM => Option.some.inj (show some q361_M = some M from hM) ▸ wlkV (lkX11_208 h) q361_M rfl rfl, fun _ h => absurd h List.not_mem_nil⟩, fun _ h => absurd h List.not_mem_nil, fun _ h => absurd h List.not_mem_nil⟩ dkX11_redo (by decide +kernel) (by rw [h.2.2.1]; exact q362_ok)
/-- NearSpell.Archive.doAgain -/
def q363_M : rfM := ((⟨"NearSpell$Archive", "doAgain", "(LNearSpell$State;)Z"⟩, prog_2_method_5_code, 2, (some .boolean)), (2,41), ([.inr (.inl [16]),.inr (.inl [13])],[((16,4),(0,20,1),none),((16,5),(20,20,0),none)]), [(12,0),(16,5),(16,6)], [(some (.inl ((1,1,0),none)),[],[((16,4),(1,21,1),some ((16,4),1,1)),((16,5),(19,19,0),some ((16,5),(-1),(-1)))])])
def q363_P : rfP := (flX0,csX0,lcX0,spX0,[q240_M],[],[(37,0,0)],([],[]))
def q363_U : rfU := []
set_option maxHeartbeats 8000000 in
def q363_N : List rfB := [(0,([(0,.inr (.inl [16])),(1,.inr (.inl [13]))],[],[((16,4),(0,20,1),some ((16,4),0,0)),((16,5),(20,20,0),some ((16,5),0,0))]),(19,[]),0)]
set_option maxRecDepth 100000 in
theorem q363_ok : rf_chkB q363_P q363_U wLay q363_M ddX0_doAgain [(31,[0])] [] [0] 600 q363_N = true := by decide +kernel
set_option maxHeartbeats 4000000 in
theorem q363_met {G : rfG} (h : okG G) : rf_met G q363_M := rf_methodB h.1 (P := q363_P) (U := q363_U) (N := q363_N) ⟨wflT h flokX0, wcsT h csokX0, wlcT h lcokX0, spokX0 h, List.forall_mem_cons.mpr ⟨q240_met h, fun _ h => absurd h List.not_mem_nil⟩, fun _ h => absurd h List.not_mem_nil, List.forall_mem_cons.mpr ⟨fun M hM => Option.some.inj (show some q240_M = some M from hM) ▸ wlkV (lkX0_37 h) q240_M rfl rfl, fun _ h => absurd h List.not_mem_nil⟩, fun _ h => absurd h List.not_mem_nil, fun _ h => absurd h List.not_mem_nil⟩ dkX0_doAgain (by decide +kernel) (by rw [h.2.2.1]; exact q363_ok)
/-- NearSpell.redo -/
def q364_M : rfM := ((⟨"NearSpell", "redo", "()Z"⟩, prog_1_method_13_code, 1, (some .boolean)), (3,62), ([.inr (.inl [70])],[((16,4),(0,20,1),none),((16,5),(20,20,0),none)]), [(12,0),(16,5),(16,6)], [(some (.inl ((1,1,0),none)),[],[((16,4),(1,21,1),some ((16,4),1,1)),((16,5),(19,19,0),some ((16,5),(-1),(-1)))])])
def q364_P : rfP := (flX11,csX11,lcX11,spX11,[q363_M],[],[(208,0,0)],([],[]))
def q364_U : rfU := []
set_option maxHeartbeats 8000000 in
def q364_N : List rfB := [(0,([(0,.inr (.inl [70]))],[],[((16,4),(0,20,1),some ((16,4),0,0)),((16,5),(20,20,0),some ((16,5),0,0))]),(5,[]),0)]
set_option maxRecDepth 100000 in
theorem q364_ok : rf_chkB q364_P q364_U wLay q364_M ddX11_redo [(8,[0])] [] [0] 600 q364_N = true := by decide +kernel
set_option maxHeartbeats 4000000 in
theorem q364_met {G : rfG} (h : okG G) : rf_met G q364_M := rf_methodB h.1 (P := q364_P) (U := q364_U) (N := q364_N) ⟨wflT h flokX11, wcsT h csokX11, wlcT h lcokX11, spokX11 h, List.forall_mem_cons.mpr ⟨q363_met h, fun _ h => absurd h List.not_mem_nil⟩, fun _ h => absurd h List.not_mem_nil, List.forall_mem_cons.mpr ⟨fun M hM => Option.some.inj (show some q363_M = some M from hM) ▸ wlkV (lkX11_208 h) q363_M rfl rfl, fun _ h => absurd h List.not_mem_nil⟩, fun _ h => absurd h List.not_mem_nil, fun _ h => absurd h List.not_mem_nil⟩ dkX11_redo (by decide +kernel) (by rw [h.2.2.1]; exact q364_ok)
/-- NearSpell.Archive.doAgain -/
def q365_M : rfM := ((⟨"NearSpell$Archive", "doAgain", "(LNearSpell$State;)Z"⟩, prog_2_method_5_code, 2, (some .boolean)), (2,41), ([.inr (.inl [16]),.inr (.inl [13])],[((16,4),(0,19,1),none),((16,5),(21,21,0),none)]), [(12,0),(16,5),(16,6)], [(some (.inl ((1,1,0),none)),[],[((16,4),(1,20,1),some ((16,4),1,1)),((16,5),(20,20,0),some ((16,5),(-1),(-1)))])])
def q365_P : rfP := (flX0,csX0,lcX0,spX0,[q240_M],[],[(37,0,0)],([],[]))
def q365_U : rfU := []
set_option maxHeartbeats 8000000 in
def q365_N : List rfB := [(0,([(0,.inr (.inl [16])),(1,.inr (.inl [13]))],[],[((16,4),(0,19,1),some ((16,4),0,0)),((16,5),(21,21,0),some ((16,5),0,0))]),(19,[]),0)]
set_option maxRecDepth 100000 in
theorem q365_ok : rf_chkB q365_P q365_U wLay q365_M ddX0_doAgain [(31,[0])] [] [0] 600 q365_N = true := by decide +kernel
set_option maxHeartbeats 4000000 in
theorem q365_met {G : rfG} (h : okG G) : rf_met G q365_M := rf_methodB h.1 (P := q365_P) (U := q365_U) (N := q365_N) ⟨wflT h flokX0, wcsT h csokX0, wlcT h lcokX0, spokX0 h, List.forall_mem_cons.mpr ⟨q240_met h, fun _ h => absurd h List.not_mem_nil⟩, fun _ h => absurd h List.not_mem_nil, List.forall_mem_cons.mpr ⟨fun M hM => Option.some.inj (show some q240_M = some M from hM) ▸ wlkV (lkX0_37 h) q240_M rfl rfl, fun _ h => absurd h List.not_mem_nil⟩, fun _ h => absurd h List.not_mem_nil, fun _ h => absurd h List.not_mem_nil⟩ dkX0_doAgain (by decide +kernel) (by rw [h.2.2.1]; exact q365_ok)
/-- NearSpell.redo -/
def q366_M : rfM := ((⟨"NearSpell", "redo", "()Z"⟩, prog_1_method_13_code, 1, (some .boolean)), (3,62), ([.inr (.inl [70])],[((16,4),(0,19,1),none),((16,5),(21,21,0),none)]), [(12,0),(16,5),(16,6)], [(some (.inl ((1,1,0),none)),[],[((16,4),(1,20,1),some ((16,4),1,1)),((16,5),(20,20,0),some ((16,5),(-1),(-1)))])])
def q366_P : rfP := (flX11,csX11,lcX11,spX11,[q365_M],[],[(208,0,0)],([],[]))
def q366_U : rfU := []
set_option maxHeartbeats 8000000 in
def q366_N : List rfB := [(0,([(0,.inr (.inl [70]))],[],[((16,4),(0,19,1),some ((16,4),0,0)),((16,5),(21,21,0),some ((16,5),0,0))]),(5,[]),0)]
set_option maxRecDepth 100000 in
theorem q366_ok : rf_chkB q366_P q366_U wLay q366_M ddX11_redo [(8,[0])] [] [0] 600 q366_N = true := by decide +kernel
set_option maxHeartbeats 4000000 in
theorem q366_met {G : rfG} (h : okG G) : rf_met G q366_M := rf_methodB h.1 (P := q366_P) (U := q366_U) (N := q366_N) ⟨wflT h flokX11, wcsT h csokX11, wlcT h lcokX11, spokX11 h, List.forall_mem_cons.mpr ⟨q365_met h, fun _ h => absurd h List.not_mem_nil⟩, fun _ h => absurd h List.not_mem_nil, List.forall_mem_cons.mpr ⟨fun M hM => Option.some.inj (show some q365_M = some M from hM) ▸ wlkV (lkX11_208 h) q365_M rfl rfl, fun _ h => absurd h List.not_mem_nil⟩, fun _ h => absurd h List.not_mem_nil, fun _ h => absurd h List.not_mem_nil⟩ dkX11_redo (by decide +kernel) (by rw [h.2.2.1]; exact q366_ok)
/-- NearSpell.Archive.doAgain -/
def q367_M : rfM := ((⟨"NearSpell$Archive", "doAgain", "(LNearSpell$State;)Z"⟩, prog_2_method_5_code, 2, (some .boolean)), (2,41), ([.inr (.inl [16]),.inr (.inl [13])],[((16,4),(0,18,1),none),((16,5),(22,22,0),none)]), [(12,0),(16,5),(16,6)], [(some (.inl ((1,1,0),none)),[],[((16,4),(1,19,1),some ((16,4),1,1)),((16,5),(21,21,0),some ((16,5),(-1),(-1)))])])
def q367_P : rfP := (flX0,csX0,lcX0,spX0,[q240_M],[],[(37,0,0)],([],[]))
def q367_U : rfU := []
set_option maxHeartbeats 8000000 in
def q367_N : List rfB := [(0,([(0,.inr (.inl [16])),(1,.inr (.inl [13]))],[],[((16,4),(0,18,1),some ((16,4),0,0)),((16,5),(22,22,0),some ((16,5),0,0))]),(19,[]),0)]
set_option maxRecDepth 100000 in
theorem q367_ok : rf_chkB q367_P q367_U wLay q367_M ddX0_doAgain [(31,[0])] [] [0] 600 q367_N = true := by decide +kernel
set_option maxHeartbeats 4000000 in
theorem q367_met {G : rfG} (h : okG G) : rf_met G q367_M := rf_methodB h.1 (P := q367_P) (U := q367_U) (N := q367_N) ⟨wflT h flokX0, wcsT h csokX0, wlcT h lcokX0, spokX0 h, List.forall_mem_cons.mpr ⟨q240_met h, fun _ h => absurd h List.not_mem_nil⟩, fun _ h => absurd h List.not_mem_nil, List.forall_mem_cons.mpr ⟨fun M hM => Option.some.inj (show some q240_M = some M from hM) ▸ wlkV (lkX0_37 h) q240_M rfl rfl, fun _ h => absurd h List.not_mem_nil⟩, fun _ h => absurd h List.not_mem_nil, fun _ h => absurd h List.not_mem_nil⟩ dkX0_doAgain (by decide +kernel) (by rw [h.2.2.1]; exact q367_ok)
/-- NearSpell.redo -/
def q368_M : rfM := ((⟨"NearSpell", "redo", "()Z"⟩, prog_1_method_13_code, 1, (some .boolean)), (3,62), ([.inr (.inl [70])],[((16,4),(0,18,1),none),((16,5),(22,22,0),none)]), [(12,0),(16,5),(16,6)], [(some (.inl ((1,1,0),none)),[],[((16,4),(1,19,1),some ((16,4),1,1)),((16,5),(21,21,0),some ((16,5),(-1),(-1)))])])
def q368_P : rfP := (flX11,csX11,lcX11,spX11,[q367_M],[],[(208,0,0)],([],[]))
def q368_U : rfU := []
set_option maxHeartbeats 8000000 in
def q368_N : List rfB := [(0,([(0,.inr (.inl [70]))],[],[((16,4),(0,18,1),some ((16,4),0,0)),((16,5),(22,22,0),some ((16,5),0,0))]),(5,[]),0)]
set_option maxRecDepth 100000 in
theorem q368_ok : rf_chkB q368_P q368_U wLay q368_M ddX11_redo [(8,[0])] [] [0] 600 q368_N = true := by decide +kernel
set_option maxHeartbeats 4000000 in
theorem q368_met {G : rfG} (h : okG G) : rf_met G q368_M := rf_methodB h.1 (P := q368_P) (U := q368_U) (N := q368_N) ⟨wflT h flokX11, wcsT h csokX11, wlcT h lcokX11, spokX11 h, List.forall_mem_cons.mpr ⟨q367_met h, fun _ h => absurd h List.not_mem_nil⟩, fun _ h => absurd h List.not_mem_nil, List.forall_mem_cons.mpr ⟨fun M hM => Option.some.inj (show some q367_M = some M from hM) ▸ wlkV (lkX11_208 h) q367_M rfl rfl, fun _ h => absurd h List.not_mem_nil⟩, fun _ h => absurd h List.not_mem_nil, fun _ h => absurd h List.not_mem_nil⟩ dkX11_redo (by decide +kernel) (by rw [h.2.2.1]; exact q368_ok)
/-- NearSpell.Archive.doAgain -/
def q369_M : rfM := ((⟨"NearSpell$Archive", "doAgain", "(LNearSpell$State;)Z"⟩, prog_2_method_5_code, 2, (some .boolean)), (2,41), ([.inr (.inl [16]),.inr (.inl [13])],[((16,4),(0,17,1),none),((16,5),(23,23,0),none)]), [(12,0),(16,5),(16,6)], [(some (.inl ((1,1,0),none)),[],[((16,4),(1,18,1),some ((16,4),1,1)),((16,5),(22,22,0),some ((16,5),(-1),(-1)))])])
def q369_P : rfP := (flX0,csX0,lcX0,spX0,[q240_M],[],[(37,0,0)],([],[]))
def q369_U : rfU := []
set_option maxHeartbeats 8000000 in
def q369_N : List rfB := [(0,([(0,.inr (.inl [16])),(1,.inr (.inl [13]))],[],[((16,4),(0,17,1),some ((16,4),0,0)),((16,5),(23,23,0),some ((16,5),0,0))]),(19,[]),0)]
set_option maxRecDepth 100000 in
theorem q369_ok : rf_chkB q369_P q369_U wLay q369_M ddX0_doAgain [(31,[0])] [] [0] 600 q369_N = true := by decide +kernel
set_option maxHeartbeats 4000000 in
theorem q369_met {G : rfG} (h : okG G) : rf_met G q369_M := rf_methodB h.1 (P := q369_P) (U := q369_U) (N := q369_N) ⟨wflT h flokX0, wcsT h csokX0, wlcT h lcokX0, spokX0 h, List.forall_mem_cons.mpr ⟨q240_met h, fun _ h => absurd h List.not_mem_nil⟩, fun _ h => absurd h List.not_mem_nil, List.forall_mem_cons.mpr ⟨fun M hM => Option.some.inj (show some q240_M = some M from hM) ▸ wlkV (lkX0_37 h) q240_M rfl rfl, fun _ h => absurd h List.not_mem_nil⟩, fun _ h => absurd h List.not_mem_nil, fun _ h => absurd h List.not_mem_nil⟩ dkX0_doAgain (by decide +kernel) (by rw [h.2.2.1]; exact q369_ok)
/-- NearSpell.redo -/
def q370_M : rfM := ((⟨"NearSpell", "redo", "()Z"⟩, prog_1_method_13_code, 1, (some .boolean)), (3,62), ([.inr (.inl [70])],[((16,4),(0,17,1),none),((16,5),(23,23,0),none)]), [(12,0),(16,5),(16,6)], [(some (.inl ((1,1,0),none)),[],[((16,4),(1,18,1),some ((16,4),1,1)),((16,5),(22,22,0),some ((16,5),(-1),(-1)))])])
def q370_P : rfP := (flX11,csX11,lcX11,spX11,[q369_M],[],[(208,0,0)],([],[]))
def q370_U : rfU := []
set_option maxHeartbeats 8000000 in
def q370_N : List rfB := [(0,([(0,.inr (.inl [70]))],[],[((16,4),(0,17,1),some ((16,4),0,0)),((16,5),(23,23,0),some ((16,5),0,0))]),(5,[]),0)]
set_option maxRecDepth 100000 in
theorem q370_ok : rf_chkB q370_P q370_U wLay q370_M ddX11_redo [(8,[0])] [] [0] 600 q370_N = true := by decide +kernel
set_option maxHeartbeats 4000000 in
theorem q370_met {G : rfG} (h : okG G) : rf_met G q370_M := rf_methodB h.1 (P := q370_P) (U := q370_U) (N := q370_N) ⟨wflT h flokX11, wcsT h csokX11, wlcT h lcokX11, spokX11 h, List.forall_mem_cons.mpr ⟨q369_met h, fun _ h => absurd h List.not_mem_nil⟩, fun _ h => absurd h List.not_mem_nil, List.forall_mem_cons.mpr ⟨fun M hM => Option.some.inj (show some q369_M = some M from hM) ▸ wlkV (lkX11_208 h) q369_M rfl rfl, fun _ h => absurd h List.not_mem_nil⟩, fun _ h => absurd h List.not_mem_nil, fun _ h => absurd h List.not_mem_nil⟩ dkX11_redo (by decide +kernel) (by rw [h.2.2.1]; exact q370_ok)
/-- NearSpell.Archive.doAgain -/
def q371_M : rfM := ((⟨"NearSpell$Archive", "doAgain", "(LNearSpell$State;)Z"⟩, prog_2_method_5_code, 2, (some .boolean)), (2,41), ([.inr (.inl [16]),.inr (.inl [13])],[((16,4),(0,16,1),none),((16,5),(24,24,0),none)]), [(12,0),(16,5),(16,6)], [(some (.inl ((1,1,0),none)),[],[((16,4),(1,17,1),some ((16,4),1,1)),((16,5),(23,23,0),some ((16,5),(-1),(-1)))])])
def q371_P : rfP := (flX0,csX0,lcX0,spX0,[q240_M],[],[(37,0,0)],([],[]))
def q371_U : rfU := []
set_option maxHeartbeats 8000000 in
def q371_N : List rfB := [(0,([(0,.inr (.inl [16])),(1,.inr (.inl [13]))],[],[((16,4),(0,16,1),some ((16,4),0,0)),((16,5),(24,24,0),some ((16,5),0,0))]),(19,[]),0)]
set_option maxRecDepth 100000 in
theorem q371_ok : rf_chkB q371_P q371_U wLay q371_M ddX0_doAgain [(31,[0])] [] [0] 600 q371_N = true := by decide +kernel
set_option maxHeartbeats 4000000 in
theorem q371_met {G : rfG} (h : okG G) : rf_met G q371_M := rf_methodB h.1 (P := q371_P) (U := q371_U) (N := q371_N) ⟨wflT h flokX0, wcsT h csokX0, wlcT h lcokX0, spokX0 h, List.forall_mem_cons.mpr ⟨q240_met h, fun _ h => absurd h List.not_mem_nil⟩, fun _ h => absurd h List.not_mem_nil, List.forall_mem_cons.mpr ⟨fun M hM => Option.some.inj (show some q240_M = some M from hM) ▸ wlkV (lkX0_37 h) q240_M rfl rfl, fun _ h => absurd h List.not_mem_nil⟩, fun _ h => absurd h List.not_mem_nil, fun _ h => absurd h List.not_mem_nil⟩ dkX0_doAgain (by decide +kernel) (by rw [h.2.2.1]; exact q371_ok)
/-- NearSpell.redo -/
def q372_M : rfM := ((⟨"NearSpell", "redo", "()Z"⟩, prog_1_method_13_code, 1, (some .boolean)), (3,62), ([.inr (.inl [70])],[((16,4),(0,16,1),none),((16,5),(24,24,0),none)]), [(12,0),(16,5),(16,6)], [(some (.inl ((1,1,0),none)),[],[((16,4),(1,17,1),some ((16,4),1,1)),((16,5),(23,23,0),some ((16,5),(-1),(-1)))])])
def q372_P : rfP := (flX11,csX11,lcX11,spX11,[q371_M],[],[(208,0,0)],([],[]))
def q372_U : rfU := []
set_option maxHeartbeats 8000000 in
def q372_N : List rfB := [(0,([(0,.inr (.inl [70]))],[],[((16,4),(0,16,1),some ((16,4),0,0)),((16,5),(24,24,0),some ((16,5),0,0))]),(5,[]),0)]
set_option maxRecDepth 100000 in
theorem q372_ok : rf_chkB q372_P q372_U wLay q372_M ddX11_redo [(8,[0])] [] [0] 600 q372_N = true := by decide +kernel
set_option maxHeartbeats 4000000 in
theorem q372_met {G : rfG} (h : okG G) : rf_met G q372_M := rf_methodB h.1 (P := q372_P) (U := q372_U) (N := q372_N) ⟨wflT h flokX11, wcsT h csokX11, wlcT h lcokX11, spokX11 h, List.forall_mem_cons.mpr ⟨q371_met h, fun _ h => absurd h List.not_mem_nil⟩, fun _ h => absurd h List.not_mem_nil, List.forall_mem_cons.mpr ⟨fun M hM => Option.some.inj (show some q371_M = some M from hM) ▸ wlkV (lkX11_208 h) q371_M rfl rfl, fun _ h => absurd h List.not_mem_nil⟩, fun _ h => absurd h List.not_mem_nil, fun _ h => absurd h List.not_mem_nil⟩ dkX11_redo (by decide +kernel) (by rw [h.2.2.1]; exact q372_ok)
/-- NearSpell.Archive.doAgain -/
def q373_M : rfM := ((⟨"NearSpell$Archive", "doAgain", "(LNearSpell$State;)Z"⟩, prog_2_method_5_code, 2, (some .boolean)), (2,41), ([.inr (.inl [16]),.inr (.inl [13])],[((16,4),(0,15,1),none),((16,5),(25,25,0),none)]), [(12,0),(16,5),(16,6)], [(some (.inl ((1,1,0),none)),[],[((16,4),(1,16,1),some ((16,4),1,1)),((16,5),(24,24,0),some ((16,5),(-1),(-1)))])])
def q373_P : rfP := (flX0,csX0,lcX0,spX0,[q240_M],[],[(37,0,0)],([],[]))
def q373_U : rfU := []
set_option maxHeartbeats 8000000 in
def q373_N : List rfB := [(0,([(0,.inr (.inl [16])),(1,.inr (.inl [13]))],[],[((16,4),(0,15,1),some ((16,4),0,0)),((16,5),(25,25,0),some ((16,5),0,0))]),(19,[]),0)]
set_option maxRecDepth 100000 in
theorem q373_ok : rf_chkB q373_P q373_U wLay q373_M ddX0_doAgain [(31,[0])] [] [0] 600 q373_N = true := by decide +kernel
set_option maxHeartbeats 4000000 in
theorem q373_met {G : rfG} (h : okG G) : rf_met G q373_M := rf_methodB h.1 (P := q373_P) (U := q373_U) (N := q373_N) ⟨wflT h flokX0, wcsT h csokX0, wlcT h lcokX0, spokX0 h, List.forall_mem_cons.mpr ⟨q240_met h, fun _ h => absurd h List.not_mem_nil⟩, fun _ h => absurd h List.not_mem_nil, List.forall_mem_cons.mpr ⟨fun M hM => Option.some.inj (show some q240_M = some M from hM) ▸ wlkV (lkX0_37 h) q240_M rfl rfl, fun _ h => absurd h List.not_mem_nil⟩, fun _ h => absurd h List.not_mem_nil, fun _ h => absurd h List.not_mem_nil⟩ dkX0_doAgain (by decide +kernel) (by rw [h.2.2.1]; exact q373_ok)
/-- NearSpell.redo -/
def q374_M : rfM := ((⟨"NearSpell", "redo", "()Z"⟩, prog_1_method_13_code, 1, (some .boolean)), (3,62), ([.inr (.inl [70])],[((16,4),(0,15,1),none),((16,5),(25,25,0),none)]), [(12,0),(16,5),(16,6)], [(some (.inl ((1,1,0),none)),[],[((16,4),(1,16,1),some ((16,4),1,1)),((16,5),(24,24,0),some ((16,5),(-1),(-1)))])])
def q374_P : rfP := (flX11,csX11,lcX11,spX11,[q373_M],[],[(208,0,0)],([],[]))
def q374_U : rfU := []
set_option maxHeartbeats 8000000 in
def q374_N : List rfB := [(0,([(0,.inr (.inl [70]))],[],[((16,4),(0,15,1),some ((16,4),0,0)),((16,5),(25,25,0),some ((16,5),0,0))]),(5,[]),0)]
set_option maxRecDepth 100000 in
theorem q374_ok : rf_chkB q374_P q374_U wLay q374_M ddX11_redo [(8,[0])] [] [0] 600 q374_N = true := by decide +kernel
set_option maxHeartbeats 4000000 in
theorem q374_met {G : rfG} (h : okG G) : rf_met G q374_M := rf_methodB h.1 (P := q374_P) (U := q374_U) (N := q374_N) ⟨wflT h flokX11, wcsT h csokX11, wlcT h lcokX11, spokX11 h, List.forall_mem_cons.mpr ⟨q373_met h, fun _ h => absurd h List.not_mem_nil⟩, fun _ h => absurd h List.not_mem_nil, List.forall_mem_cons.mpr ⟨fun M hM => Option.some.inj (show some q373_M = some M from hM) ▸ wlkV (lkX11_208 h) q373_M rfl rfl, fun _ h => absurd h List.not_mem_nil⟩, fun _ h => absurd h List.not_mem_nil, fun _ h => absurd h List.not_mem_nil⟩ dkX11_redo (by decide +kernel) (by rw [h.2.2.1]; exact q374_ok)
/-- NearSpell.Archive.doAgain -/
def q375_M : rfM := ((⟨"NearSpell$Archive", "doAgain", "(LNearSpell$State;)Z"⟩, prog_2_method_5_code, 2, (some .boolean)), (2,41), ([.inr (.inl [16]),.inr (.inl [13])],[((16,4),(0,14,1),none),((16,5),(26,26,0),none)]), [(12,0),(16,5),(16,6)], [(some (.inl ((1,1,0),none)),[],[((16,4),(1,15,1),some ((16,4),1,1)),((16,5),(25,25,0),some ((16,5),(-1),(-1)))])])
def q375_P : rfP := (flX0,csX0,lcX0,spX0,[q240_M],[],[(37,0,0)],([],[]))
def q375_U : rfU := []
set_option maxHeartbeats 8000000 in
def q375_N : List rfB := [(0,([(0,.inr (.inl [16])),(1,.inr (.inl [13]))],[],[((16,4),(0,14,1),some ((16,4),0,0)),((16,5),(26,26,0),some ((16,5),0,0))]),(19,[]),0)]
set_option maxRecDepth 100000 in
theorem q375_ok : rf_chkB q375_P q375_U wLay q375_M ddX0_doAgain [(31,[0])] [] [0] 600 q375_N = true := by decide +kernel
set_option maxHeartbeats 4000000 in
theorem q375_met {G : rfG} (h : okG G) : rf_met G q375_M := rf_methodB h.1 (P := q375_P) (U := q375_U) (N := q375_N) ⟨wflT h flokX0, wcsT h csokX0, wlcT h lcokX0, spokX0 h, List.forall_mem_cons.mpr ⟨q240_met h, fun _ h => absurd h List.not_mem_nil⟩, fun _ h => absurd h List.not_mem_nil, List.forall_mem_cons.mpr ⟨fun M hM => Option.some.inj (show some q240_M = some M from hM) ▸ wlkV (lkX0_37 h) q240_M rfl rfl, fun _ h => absurd h List.not_mem_nil⟩, fun _ h => absurd h List.not_mem_nil, fun _ h => absurd h List.not_mem_nil⟩ dkX0_doAgain (by decide +kernel) (by rw [h.2.2.1]; exact q375_ok)
/-- NearSpell.redo -/
def q376_M : rfM := ((⟨"NearSpell", "redo", "()Z"⟩, prog_1_method_13_code, 1, (some .boolean)), (3,62), ([.inr (.inl [70])],[((16,4),(0,14,1),none),((16,5),(26,26,0),none)]), [(12,0),(16,5),(16,6)], [(some (.inl ((1,1,0),none)),[],[((16,4),(1,15,1),some ((16,4),1,1)),((16,5),(25,25,0),some ((16,5),(-1),(-1)))])])
def q376_P : rfP := (flX11,csX11,lcX11,spX11,[q375_M],[],[(208,0,0)],([],[]))
def q376_U : rfU := []
set_option maxHeartbeats 8000000 in
def q376_N : List rfB := [(0,([(0,.inr (.inl [70]))],[],[((16,4),(0,14,1),some ((16,4),0,0)),((16,5),(26,26,0),some ((16,5),0,0))]),(5,[]),0)]
set_option maxRecDepth 100000 in
theorem q376_ok : rf_chkB q376_P q376_U wLay q376_M ddX11_redo [(8,[0])] [] [0] 600 q376_N = true := by decide +kernel
set_option maxHeartbeats 4000000 in
theorem q376_met {G : rfG} (h : okG G) : rf_met G q376_M := rf_methodB h.1 (P := q376_P) (U := q376_U) (N := q376_N) ⟨wflT h flokX11, wcsT h csokX11, wlcT h lcokX11, spokX11 h, List.forall_mem_cons.mpr ⟨q375_met h, fun _ h => absurd h List.not_mem_nil⟩, fun _ h => absurd h List.not_mem_nil, List.forall_mem_cons.mpr ⟨fun M hM => Option.some.inj (show some q375_M = some M from hM) ▸ wlkV (lkX11_208 h) q375_M rfl rfl, fun _ h => absurd h List.not_mem_nil⟩, fun _ h => absurd h List.not_mem_nil, fun _ h => absurd h List.not_mem_nil⟩ dkX11_redo (by decide +kernel) (by rw [h.2.2.1]; exact q376_ok)
/-- NearSpell.Archive.doAgain -/
def q377_M : rfM := ((⟨"NearSpell$Archive", "doAgain", "(LNearSpell$State;)Z"⟩, prog_2_method_5_code, 2, (some .boolean)), (2,41), ([.inr (.inl [16]),.inr (.inl [13])],[((16,4),(0,13,1),none),((16,5),(27,27,0),none)]), [(12,0),(16,5),(16,6)], [(some (.inl ((1,1,0),none)),[],[((16,4),(1,14,1),some ((16,4),1,1)),((16,5),(26,26,0),some ((16,5),(-1),(-1)))])])
def q377_P : rfP := (flX0,csX0,lcX0,spX0,[q240_M],[],[(37,0,0)],([],[]))
def q377_U : rfU := []
set_option maxHeartbeats 8000000 in
def q377_N : List rfB := [(0,([(0,.inr (.inl [16])),(1,.inr (.inl [13]))],[],[((16,4),(0,13,1),some ((16,4),0,0)),((16,5),(27,27,0),some ((16,5),0,0))]),(19,[]),0)]
set_option maxRecDepth 100000 in
theorem q377_ok : rf_chkB q377_P q377_U wLay q377_M ddX0_doAgain [(31,[0])] [] [0] 600 q377_N = true := by decide +kernel
set_option maxHeartbeats 4000000 in
theorem q377_met {G : rfG} (h : okG G) : rf_met G q377_M := rf_methodB h.1 (P := q377_P) (U := q377_U) (N := q377_N) ⟨wflT h flokX0, wcsT h csokX0, wlcT h lcokX0, spokX0 h, List.forall_mem_cons.mpr ⟨q240_met h, fun _ h => absurd h List.not_mem_nil⟩, fun _ h => absurd h List.not_mem_nil, List.forall_mem_cons.mpr ⟨fun M hM => Option.some.inj (show some q240_M = some M from hM) ▸ wlkV (lkX0_37 h) q240_M rfl rfl, fun _ h => absurd h List.not_mem_nil⟩, fun _ h => absurd h List.not_mem_nil, fun _ h => absurd h List.not_mem_nil⟩ dkX0_doAgain (by decide +kernel) (by rw [h.2.2.1]; exact q377_ok)
/-- NearSpell.redo -/
def q378_M : rfM := ((⟨"NearSpell", "redo", "()Z"⟩, prog_1_method_13_code, 1, (some .boolean)), (3,62), ([.inr (.inl [70])],[((16,4),(0,13,1),none),((16,5),(27,27,0),none)]), [(12,0),(16,5),(16,6)], [(some (.inl ((1,1,0),none)),[],[((16,4),(1,14,1),some ((16,4),1,1)),((16,5),(26,26,0),some ((16,5),(-1),(-1)))])])
def q378_P : rfP := (flX11,csX11,lcX11,spX11,[q377_M],[],[(208,0,0)],([],[]))
def q378_U : rfU := []
set_option maxHeartbeats 8000000 in
def q378_N : List rfB := [(0,([(0,.inr (.inl [70]))],[],[((16,4),(0,13,1),some ((16,4),0,0)),((16,5),(27,27,0),some ((16,5),0,0))]),(5,[]),0)]
set_option maxRecDepth 100000 in
theorem q378_ok : rf_chkB q378_P q378_U wLay q378_M ddX11_redo [(8,[0])] [] [0] 600 q378_N = true := by decide +kernel
set_option maxHeartbeats 4000000 in
theorem q378_met {G : rfG} (h : okG G) : rf_met G q378_M := rf_methodB h.1 (P := q378_P) (U := q378_U) (N := q378_N) ⟨wflT h flokX11, wcsT h csokX11, wlcT h lcokX11, spokX11 h, List.forall_mem_cons.mpr ⟨q377_met h, fun _ h => absurd h List.not_mem_nil⟩, fun _ h => absurd h List.not_mem_nil, List.forall_mem_cons.mpr ⟨fun M hM => Option.some.inj (show some q377_M = some M from hM) ▸ wlkV (lkX11_208 h) q377_M rfl rfl, fun _ h => absurd h List.not_mem_nil⟩, fun _ h => absurd h List.not_mem_nil, fun _ h => absurd h List.not_mem_nil⟩ dkX11_redo (by decide +kernel) (by rw [h.2.2.1]; exact q378_ok)
/-- NearSpell.Archive.doAgain -/
def q379_M : rfM := ((⟨"NearSpell$Archive", "doAgain", "(LNearSpell$State;)Z"⟩, prog_2_method_5_code, 2, (some .boolean)), (2,41), ([.inr (.inl [16]),.inr (.inl [13])],[((16,4),(0,12,1),none),((16,5),(28,28,0),none)]), [(12,0),(16,5),(16,6)], [(some (.inl ((1,1,0),none)),[],[((16,4),(1,13,1),some ((16,4),1,1)),((16,5),(27,27,0),some ((16,5),(-1),(-1)))])])
def q379_P : rfP := (flX0,csX0,lcX0,spX0,[q240_M],[],[(37,0,0)],([],[]))
def q379_U : rfU := []
set_option maxHeartbeats 8000000 in
def q379_N : List rfB := [(0,([(0,.inr (.inl [16])),(1,.inr (.inl [13]))],[],[((16,4),(0,12,1),some ((16,4),0,0)),((16,5),(28,28,0),some ((16,5),0,0))]),(19,[]),0)]
set_option maxRecDepth 100000 in
theorem q379_ok : rf_chkB q379_P q379_U wLay q379_M ddX0_doAgain [(31,[0])] [] [0] 600 q379_N = true := by decide +kernel
set_option maxHeartbeats 4000000 in
theorem q379_met {G : rfG} (h : okG G) : rf_met G q379_M := rf_methodB h.1 (P := q379_P) (U := q379_U) (N := q379_N) ⟨wflT h flokX0, wcsT h csokX0, wlcT h lcokX0, spokX0 h, List.forall_mem_cons.mpr ⟨q240_met h, fun _ h => absurd h List.not_mem_nil⟩, fun _ h => absurd h List.not_mem_nil, List.forall_mem_cons.mpr ⟨fun M hM => Option.some.inj (show some q240_M = some M from hM) ▸ wlkV (lkX0_37 h) q240_M rfl rfl, fun _ h => absurd h List.not_mem_nil⟩, fun _ h => absurd h List.not_mem_nil, fun _ h => absurd h List.not_mem_nil⟩ dkX0_doAgain (by decide +kernel) (by rw [h.2.2.1]; exact q379_ok)
/-- NearSpell.redo -/
def q380_M : rfM := ((⟨"NearSpell", "redo", "()Z"⟩, prog_1_method_13_code, 1, (some .boolean)), (3,62), ([.inr (.inl [70])],[((16,4),(0,12,1),none),((16,5),(28,28,0),none)]), [(12,0),(16,5),(16,6)], [(some (.inl ((1,1,0),none)),[],[((16,4),(1,13,1),some ((16,4),1,1)),((16,5),(27,27,0),some ((16,5),(-1),(-1)))])])
def q380_P : rfP := (flX11,csX11,lcX11,spX11,[q379_M],[],[(208,0,0)],([],[]))
def q380_U : rfU := []
set_option maxHeartbeats 8000000 in
def q380_N : List rfB := [(0,([(0,.inr (.inl [70]))],[],[((16,4),(0,12,1),some ((16,4),0,0)),((16,5),(28,28,0),some ((16,5),0,0))]),(5,[]),0)]
set_option maxRecDepth 100000 in
theorem q380_ok : rf_chkB q380_P q380_U wLay q380_M ddX11_redo [(8,[0])] [] [0] 600 q380_N = true := by decide +kernel
set_option maxHeartbeats 4000000 in
theorem q380_met {G : rfG} (h : okG G) : rf_met G q380_M := rf_methodB h.1 (P := q380_P) (U := q380_U) (N := q380_N) ⟨wflT h flokX11, wcsT h csokX11, wlcT h lcokX11, spokX11 h, List.forall_mem_cons.mpr ⟨q379_met h, fun _ h => absurd h List.not_mem_nil⟩, fun _ h => absurd h List.not_mem_nil, List.forall_mem_cons.mpr ⟨fun M hM => Option.some.inj (show some q379_M = some M from hM) ▸ wlkV (lkX11_208 h) q379_M rfl rfl, fun _ h => absurd h List.not_mem_nil⟩, fun _ h => absurd h List.not_mem_nil, fun _ h => absurd h List.not_mem_nil⟩ dkX11_redo (by decide +kernel) (by rw [h.2.2.1]; exact q380_ok)
/-- NearSpell.Archive.doAgain -/
def q381_M : rfM := ((⟨"NearSpell$Archive", "doAgain", "(LNearSpell$State;)Z"⟩, prog_2_method_5_code, 2, (some .boolean)), (2,41), ([.inr (.inl [16]),.inr (.inl [13])],[((16,4),(0,11,1),none),((16,5),(29,29,0),none)]), [(12,0),(16,5),(16,6)], [(some (.inl ((1,1,0),none)),[],[((16,4),(1,12,1),some ((16,4),1,1)),((16,5),(28,28,0),some ((16,5),(-1),(-1)))])])
def q381_P : rfP := (flX0,csX0,lcX0,spX0,[q240_M],[],[(37,0,0)],([],[]))
def q381_U : rfU := []
set_option maxHeartbeats 8000000 in
def q381_N : List rfB := [(0,([(0,.inr (.inl [16])),(1,.inr (.inl [13]))],[],[((16,4),(0,11,1),some ((16,4),0,0)),((16,5),(29,29,0),some ((16,5),0,0))]),(19,[]),0)]
set_option maxRecDepth 100000 in
theorem q381_ok : rf_chkB q381_P q381_U wLay q381_M ddX0_doAgain [(31,[0])] [] [0] 600 q381_N = true := by decide +kernel
set_option maxHeartbeats 4000000 in
theorem q381_met {G : rfG} (h : okG G) : rf_met G q381_M := rf_methodB h.1 (P := q381_P) (U := q381_U) (N := q381_N) ⟨wflT h flokX0, wcsT h csokX0, wlcT h lcokX0, spokX0 h, List.forall_mem_cons.mpr ⟨q240_met h, fun _ h => absurd h List.not_mem_nil⟩, fun _ h => absurd h List.not_mem_nil, List.forall_mem_cons.mpr ⟨fun M hM => Option.some.inj (show some q240_M = some M from hM) ▸ wlkV (lkX0_37 h) q240_M rfl rfl, fun _ h => absurd h List.not_mem_nil⟩, fun _ h => absurd h List.not_mem_nil, fun _ h => absurd h List.not_mem_nil⟩ dkX0_doAgain (by decide +kernel) (by rw [h.2.2.1]; exact q381_ok)
/-- NearSpell.redo -/
def q382_M : rfM := ((⟨"NearSpell", "redo", "()Z"⟩, prog_1_method_13_code, 1, (some .boolean)), (3,62), ([.inr (.inl [70])],[((16,4),(0,11,1),none),((16,5),(29,29,0),none)]), [(12,0),(16,5),(16,6)], [(some (.inl ((1,1,0),none)),[],[((16,4),(1,12,1),some ((16,4),1,1)),((16,5),(28,28,0),some ((16,5),(-1),(-1)))])])
def q382_P : rfP := (flX11,csX11,lcX11,spX11,[q381_M],[],[(208,0,0)],([],[]))
def q382_U : rfU := []
set_option maxHeartbeats 8000000 in
def q382_N : List rfB := [(0,([(0,.inr (.inl [70]))],[],[((16,4),(0,11,1),some ((16,4),0,0)),((16,5),(29,29,0),some ((16,5),0,0))]),(5,[]),0)]
set_option maxRecDepth 100000 in
theorem q382_ok : rf_chkB q382_P q382_U wLay q382_M ddX11_redo [(8,[0])] [] [0] 600 q382_N = true := by decide +kernel
set_option maxHeartbeats 4000000 in
theorem q382_met {G : rfG} (h : okG G) : rf_met G q382_M := rf_methodB h.1 (P := q382_P) (U := q382_U) (N := q382_N) ⟨wflT h flokX11, wcsT h csokX11, wlcT h lcokX11, spokX11 h, List.forall_mem_cons.mpr ⟨q381_met h, fun _ h => absurd h List.not_mem_nil⟩, fun _ h => absurd h List.not_mem_nil, List.forall_mem_cons.mpr ⟨fun M hM => Option.some.inj (show some q381_M = some M from hM) ▸ wlkV (lkX11_208 h) q381_M rfl rfl, fun _ h => absurd h List.not_mem_nil⟩, fun _ h => absurd h List.not_mem_nil, fun _ h => absurd h List.not_mem_nil⟩ dkX11_redo (by decide +kernel) (by rw [h.2.2.1]; exact q382_ok)
/-- NearSpell.Archive.doAgain -/
def q383_M : rfM := ((⟨"NearSpell$Archive", "doAgain", "(LNearSpell$State;)Z"⟩, prog_2_method_5_code, 2, (some .boolean)), (2,41), ([.inr (.inl [16]),.inr (.inl [13])],[((16,4),(0,10,1),none),((16,5),(30,30,0),none)]), [(12,0),(16,5),(16,6)], [(some (.inl ((1,1,0),none)),[],[((16,4),(1,11,1),some ((16,4),1,1)),((16,5),(29,29,0),some ((16,5),(-1),(-1)))])])
def q383_P : rfP := (flX0,csX0,lcX0,spX0,[q240_M],[],[(37,0,0)],([],[]))
def q383_U : rfU := []
set_option maxHeartbeats 8000000 in
def q383_N : List rfB := [(0,([(0,.inr (.inl [16])),(1,.inr (.inl [13]))],[],[((16,4),(0,10,1),some ((16,4),0,0)),((16,5),(30,30,0),some ((16,5),0,0))]),(19,[]),0)]
set_option maxRecDepth 100000 in
theorem q383_ok : rf_chkB q383_P q383_U wLay q383_M ddX0_doAgain [(31,[0])] [] [0] 600 q383_N = true := by decide +kernel
set_option maxHeartbeats 4000000 in
theorem q383_met {G : rfG} (h : okG G) : rf_met G q383_M := rf_methodB h.1 (P := q383_P) (U := q383_U) (N := q383_N) ⟨wflT h flokX0, wcsT h csokX0, wlcT h lcokX0, spokX0 h, List.forall_mem_cons.mpr ⟨q240_met h, fun _ h => absurd h List.not_mem_nil⟩, fun _ h => absurd h List.not_mem_nil, List.forall_mem_cons.mpr ⟨fun M hM => Option.some.inj (show some q240_M = some M from hM) ▸ wlkV (lkX0_37 h) q240_M rfl rfl, fun _ h => absurd h List.not_mem_nil⟩, fun _ h => absurd h List.not_mem_nil, fun _ h => absurd h List.not_mem_nil⟩ dkX0_doAgain (by decide +kernel) (by rw [h.2.2.1]; exact q383_ok)
/-- NearSpell.redo -/
def q384_M : rfM := ((⟨"NearSpell", "redo", "()Z"⟩, prog_1_method_13_code, 1, (some .boolean)), (3,62), ([.inr (.inl [70])],[((16,4),(0,10,1),none),((16,5),(30,30,0),none)]), [(12,0),(16,5),(16,6)], [(some (.inl ((1,1,0),none)),[],[((16,4),(1,11,1),some ((16,4),1,1)),((16,5),(29,29,0),some ((16,5),(-1),(-1)))])])
def q384_P : rfP := (flX11,csX11,lcX11,spX11,[q383_M],[],[(208,0,0)],([],[]))
def q384_U : rfU := []
set_option maxHeartbeats 8000000 in
def q384_N : List rfB := [(0,([(0,.inr (.inl [70]))],[],[((16,4),(0,10,1),some ((16,4),0,0)),((16,5),(30,30,0),some ((16,5),0,0))]),(5,[]),0)]
set_option maxRecDepth 100000 in
theorem q384_ok : rf_chkB q384_P q384_U wLay q384_M ddX11_redo [(8,[0])] [] [0] 600 q384_N = true := by decide +kernel
set_option maxHeartbeats 4000000 in
theorem q384_met {G : rfG} (h : okG G) : rf_met G q384_M := rf_methodB h.1 (P := q384_P) (U := q384_U) (N := q384_N) ⟨wflT h flokX11, wcsT h csokX11, wlcT h lcokX11, spokX11 h, List.forall_mem_cons.mpr ⟨q383_met h, fun _ h => absurd h List.not_mem_nil⟩, fun _ h => absurd h List.not_mem_nil, List.forall_mem_cons.mpr ⟨fun M hM => Option.some.inj (show some q383_M = some M from hM) ▸ wlkV (lkX11_208 h) q383_M rfl rfl, fun _ h => absurd h List.not_mem_nil⟩, fun _ h => absurd h List.not_mem_nil, fun _ h => absurd h List.not_mem_nil⟩ dkX11_redo (by decide +kernel) (by rw [h.2.2.1]; exact q384_ok)
/-- NearSpell.Archive.doAgain -/
def q385_M : rfM := ((⟨"NearSpell$Archive", "doAgain", "(LNearSpell$State;)Z"⟩, prog_2_method_5_code, 2, (some .boolean)), (2,41), ([.inr (.inl [16]),.inr (.inl [13])],[((16,4),(0,9,1),none),((16,5),(31,31,0),none)]), [(12,0),(16,5),(16,6)], [(some (.inl ((1,1,0),none)),[],[((16,4),(1,10,1),some ((16,4),1,1)),((16,5),(30,30,0),some ((16,5),(-1),(-1)))])])
def q385_P : rfP := (flX0,csX0,lcX0,spX0,[q240_M],[],[(37,0,0)],([],[]))
def q385_U : rfU := []
set_option maxHeartbeats 8000000 in
def q385_N : List rfB := [(0,([(0,.inr (.inl [16])),(1,.inr (.inl [13]))],[],[((16,4),(0,9,1),some ((16,4),0,0)),((16,5),(31,31,0),some ((16,5),0,0))]),(19,[]),0)]
set_option maxRecDepth 100000 in
theorem q385_ok : rf_chkB q385_P q385_U wLay q385_M ddX0_doAgain [(31,[0])] [] [0] 600 q385_N = true := by decide +kernel
set_option maxHeartbeats 4000000 in
theorem q385_met {G : rfG} (h : okG G) : rf_met G q385_M := rf_methodB h.1 (P := q385_P) (U := q385_U) (N := q385_N) ⟨wflT h flokX0, wcsT h csokX0, wlcT h lcokX0, spokX0 h, List.forall_mem_cons.mpr ⟨q240_met h, fun _ h => absurd h List.not_mem_nil⟩, fun _ h => absurd h List.not_mem_nil, List.forall_mem_cons.mpr ⟨fun M hM => Option.some.inj (show some q240_M = some M from hM) ▸ wlkV (lkX0_37 h) q240_M rfl rfl, fun _ h => absurd h List.not_mem_nil⟩, fun _ h => absurd h List.not_mem_nil, fun _ h => absurd h List.not_mem_nil⟩ dkX0_doAgain (by decide +kernel) (by rw [h.2.2.1]; exact q385_ok)
/-- NearSpell.redo -/
def q386_M : rfM := ((⟨"NearSpell", "redo", "()Z"⟩, prog_1_method_13_code, 1, (some .boolean)), (3,62), ([.inr (.inl [70])],[((16,4),(0,9,1),none),((16,5),(31,31,0),none)]), [(12,0),(16,5),(16,6)], [(some (.inl ((1,1,0),none)),[],[((16,4),(1,10,1),some ((16,4),1,1)),((16,5),(30,30,0),some ((16,5),(-1),(-1)))])])
def q386_P : rfP := (flX11,csX11,lcX11,spX11,[q385_M],[],[(208,0,0)],([],[]))
def q386_U : rfU := []
set_option maxHeartbeats 8000000 in
def q386_N : List rfB := [(0,([(0,.inr (.inl [70]))],[],[((16,4),(0,9,1),some ((16,4),0,0)),((16,5),(31,31,0),some ((16,5),0,0))]),(5,[]),0)]
set_option maxRecDepth 100000 in
theorem q386_ok : rf_chkB q386_P q386_U wLay q386_M ddX11_redo [(8,[0])] [] [0] 600 q386_N = true := by decide +kernel
set_option maxHeartbeats 4000000 in
theorem q386_met {G : rfG} (h : okG G) : rf_met G q386_M := rf_methodB h.1 (P := q386_P) (U := q386_U) (N := q386_N) ⟨wflT h flokX11, wcsT h csokX11, wlcT h lcokX11, spokX11 h, List.forall_mem_cons.mpr ⟨q385_met h, fun _ h => absurd h List.not_mem_nil⟩, fun _ h => absurd h List.not_mem_nil, List.forall_mem_cons.mpr ⟨fun M hM => Option.some.inj (show some q385_M = some M from hM) ▸ wlkV (lkX11_208 h) q385_M rfl rfl, fun _ h => absurd h List.not_mem_nil⟩, fun _ h => absurd h List.not_mem_nil, fun _ h => absurd h List.not_mem_nil⟩ dkX11_redo (by decide +kernel) (by rw [h.2.2.1]; exact q386_ok)
/-- NearSpell.Archive.doAgain -/
def q387_M : rfM := ((⟨"NearSpell$Archive", "doAgain", "(LNearSpell$State;)Z"⟩, prog_2_method_5_code, 2, (some .boolean)), (2,41), ([.inr (.inl [16]),.inr (.inl [13])],[((16,4),(0,8,1),none),((16,5),(32,32,0),none)]), [(12,0),(16,5),(16,6)], [(some (.inl ((1,1,0),none)),[],[((16,4),(1,9,1),some ((16,4),1,1)),((16,5),(31,31,0),some ((16,5),(-1),(-1)))])])
def q387_P : rfP := (flX0,csX0,lcX0,spX0,[q240_M],[],[(37,0,0)],([],[]))
def q387_U : rfU := []
set_option maxHeartbeats 8000000 in
def q387_N : List rfB := [(0,([(0,.inr (.inl [16])),(1,.inr (.inl [13]))],[],[((16,4),(0,8,1),some ((16,4),0,0)),((16,5),(32,32,0),some ((16,5),0,0))]),(19,[]),0)]
set_option maxRecDepth 100000 in
theorem q387_ok : rf_chkB q387_P q387_U wLay q387_M ddX0_doAgain [(31,[0])] [] [0] 600 q387_N = true := by decide +kernel
set_option maxHeartbeats 4000000 in
theorem q387_met {G : rfG} (h : okG G) : rf_met G q387_M := rf_methodB h.1 (P := q387_P) (U := q387_U) (N := q387_N) ⟨wflT h flokX0, wcsT h csokX0, wlcT h lcokX0, spokX0 h, List.forall_mem_cons.mpr ⟨q240_met h, fun _ h => absurd h List.not_mem_nil⟩, fun _ h => absurd h List.not_mem_nil, List.forall_mem_cons.mpr ⟨fun M hM => Option.some.inj (show some q240_M = some M from hM) ▸ wlkV (lkX0_37 h) q240_M rfl rfl, fun _ h => absurd h List.not_mem_nil⟩, fun _ h => absurd h List.not_mem_nil, fun _ h => absurd h List.not_mem_nil⟩ dkX0_doAgain (by decide +kernel) (by rw [h.2.2.1]; exact q387_ok)
/-- NearSpell.redo -/
def q388_M : rfM := ((⟨"NearSpell", "redo", "()Z"⟩, prog_1_method_13_code, 1, (some .boolean)), (3,62), ([.inr (.inl [70])],[((16,4),(0,8,1),none),((16,5),(32,32,0),none)]), [(12,0),(16,5),(16,6)], [(some (.inl ((1,1,0),none)),[],[((16,4),(1,9,1),some ((16,4),1,1)),((16,5),(31,31,0),some ((16,5),(-1),(-1)))])])
def q388_P : rfP := (flX11,csX11,lcX11,spX11,[q387_M],[],[(208,0,0)],([],[]))
def q388_U : rfU := []
set_option maxHeartbeats 8000000 in
def q388_N : List rfB := [(0,([(0,.inr (.inl [70]))],[],[((16,4),(0,8,1),some ((16,4),0,0)),((16,5),(32,32,0),some ((16,5),0,0))]),(5,[]),0)]
set_option maxRecDepth 100000 in
theorem q388_ok : rf_chkB q388_P q388_U wLay q388_M ddX11_redo [(8,[0])] [] [0] 600 q388_N = true := by decide +kernel
set_option maxHeartbeats 4000000 in
theorem q388_met {G : rfG} (h : okG G) : rf_met G q388_M := rf_methodB h.1 (P := q388_P) (U := q388_U) (N := q388_N) ⟨wflT h flokX11, wcsT h csokX11, wlcT h lcokX11, spokX11 h, List.forall_mem_cons.mpr ⟨q387_met h, fun _ h => absurd h List.not_mem_nil⟩, fun _ h => absurd h List.not_mem_nil, List.forall_mem_cons.mpr ⟨fun M hM => Option.some.inj (show some q387_M = some M from hM) ▸ wlkV (lkX11_208 h) q387_M rfl rfl, fun _ h => absurd h List.not_mem_nil⟩, fun _ h => absurd h List.not_mem_nil, fun _ h => absurd h List.not_mem_nil⟩ dkX11_redo (by decide +kernel) (by rw [h.2.2.1]; exact q388_ok)
/-- NearSpell.Archive.doAgain -/
def q389_M : rfM := ((⟨"NearSpell$Archive", "doAgain", "(LNearSpell$State;)Z"⟩, prog_2_method_5_code, 2, (some .boolean)), (2,41), ([.inr (.inl [16]),.inr (.inl [13])],[((16,4),(0,7,1),none),((16,5),(33,33,0),none)]), [(12,0),(16,5),(16,6)], [(some (.inl ((1,1,0),none)),[],[((16,4),(1,8,1),some ((16,4),1,1)),((16,5),(32,32,0),some ((16,5),(-1),(-1)))])])
def q389_P : rfP := (flX0,csX0,lcX0,spX0,[q240_M],[],[(37,0,0)],([],[]))
def q389_U : rfU := []
set_option maxHeartbeats 8000000 in
def q389_N : List rfB := [(0,([(0,.inr (.inl [16])),(1,.inr (.inl [13]))],[],[((16,4),(0,7,1),some ((16,4),0,0)),((16,5),(33,33,0),some ((16,5),0,0))]),(19,[]),0)]
set_option maxRecDepth 100000 in
theorem q389_ok : rf_chkB q389_P q389_U wLay q389_M ddX0_doAgain [(31,[0])] [] [0] 600 q389_N = true := by decide +kernel
set_option maxHeartbeats 4000000 in
theorem q389_met {G : rfG} (h : okG G) : rf_met G q389_M := rf_methodB h.1 (P := q389_P) (U := q389_U) (N := q389_N) ⟨wflT h flokX0, wcsT h csokX0, wlcT h lcokX0, spokX0 h, List.forall_mem_cons.mpr ⟨q240_met h, fun _ h => absurd h List.not_mem_nil⟩, fun _ h => absurd h List.not_mem_nil, List.forall_mem_cons.mpr ⟨fun M hM => Option.some.inj (show some q240_M = some M from hM) ▸ wlkV (lkX0_37 h) q240_M rfl rfl, fun _ h => absurd h List.not_mem_nil⟩, fun _ h => absurd h List.not_mem_nil, fun _ h => absurd h List.not_mem_nil⟩ dkX0_doAgain (by decide +kernel) (by rw [h.2.2.1]; exact q389_ok)
/-- NearSpell.redo -/
def q390_M : rfM := ((⟨"NearSpell", "redo", "()Z"⟩, prog_1_method_13_code, 1, (some .boolean)), (3,62), ([.inr (.inl [70])],[((16,4),(0,7,1),none),((16,5),(33,33,0),none)]), [(12,0),(16,5),(16,6)], [(some (.inl ((1,1,0),none)),[],[((16,4),(1,8,1),some ((16,4),1,1)),((16,5),(32,32,0),some ((16,5),(-1),(-1)))])])
def q390_P : rfP := (flX11,csX11,lcX11,spX11,[q389_M],[],[(208,0,0)],([],[]))
def q390_U : rfU := []
set_option maxHeartbeats 8000000 in
def q390_N : List rfB := [(0,([(0,.inr (.inl [70]))],[],[((16,4),(0,7,1),some ((16,4),0,0)),((16,5),(33,33,0),some ((16,5),0,0))]),(5,[]),0)]
set_option maxRecDepth 100000 in
theorem q390_ok : rf_chkB q390_P q390_U wLay q390_M ddX11_redo [(8,[0])] [] [0] 600 q390_N = true := by decide +kernel
set_option maxHeartbeats 4000000 in
theorem q390_met {G : rfG} (h : okG G) : rf_met G q390_M := rf_methodB h.1 (P := q390_P) (U := q390_U) (N := q390_N) ⟨wflT h flokX11, wcsT h csokX11, wlcT h lcokX11, spokX11 h, List.forall_mem_cons.mpr ⟨q389_met h, fun _ h => absurd h List.not_mem_nil⟩, fun _ h => absurd h List.not_mem_nil, List.forall_mem_cons.mpr ⟨fun M hM => Option.some.inj (show some q389_M = some M from hM) ▸ wlkV (lkX11_208 h) q389_M rfl rfl, fun _ h => absurd h List.not_mem_nil⟩, fun _ h => absurd h List.not_mem_nil, fun _ h => absurd h List.not_mem_nil⟩ dkX11_redo (by decide +kernel) (by rw [h.2.2.1]; exact q390_ok)
/-- NearSpell.Archive.doAgain -/
def q391_M : rfM := ((⟨"NearSpell$Archive", "doAgain", "(LNearSpell$State;)Z"⟩, prog_2_method_5_code, 2, (some .boolean)), (2,41), ([.inr (.inl [16]),.inr (.inl [13])],[((16,4),(0,6,1),none),((16,5),(34,34,0),none)]), [(12,0),(16,5),(16,6)], [(some (.inl ((1,1,0),none)),[],[((16,4),(1,7,1),some ((16,4),1,1)),((16,5),(33,33,0),some ((16,5),(-1),(-1)))])])
def q391_P : rfP := (flX0,csX0,lcX0,spX0,[q240_M],[],[(37,0,0)],([],[]))
def q391_U : rfU := []
set_option maxHeartbeats 8000000 in
def q391_N : List rfB := [(0,([(0,.inr (.inl [16])),(1,.inr (.inl [13]))],[],[((16,4),(0,6,1),some ((16,4),0,0)),((16,5),(34,34,0),some ((16,5),0,0))]),(19,[]),0)]
set_option maxRecDepth 100000 in
theorem q391_ok : rf_chkB q391_P q391_U wLay q391_M ddX0_doAgain [(31,[0])] [] [0] 600 q391_N = true := by decide +kernel
set_option maxHeartbeats 4000000 in
theorem q391_met {G : rfG} (h : okG G) : rf_met G q391_M := rf_methodB h.1 (P := q391_P) (U := q391_U) (N := q391_N) ⟨wflT h flokX0, wcsT h csokX0, wlcT h lcokX0, spokX0 h, List.forall_mem_cons.mpr ⟨q240_met h, fun _ h => absurd h List.not_mem_nil⟩, fun _ h => absurd h List.not_mem_nil, List.forall_mem_cons.mpr ⟨fun M hM => Option.some.inj (show some q240_M = some M from hM) ▸ wlkV (lkX0_37 h) q240_M rfl rfl, fun _ h => absurd h List.not_mem_nil⟩, fun _ h => absurd h List.not_mem_nil, fun _ h => absurd h List.not_mem_nil⟩ dkX0_doAgain (by decide +kernel) (by rw [h.2.2.1]; exact q391_ok)
/-- NearSpell.redo -/
def q392_M : rfM := ((⟨"NearSpell", "redo", "()Z"⟩, prog_1_method_13_code, 1, (some .boolean)), (3,62), ([.inr (.inl [70])],[((16,4),(0,6,1),none),((16,5),(34,34,0),none)]), [(12,0),(16,5),(16,6)], [(some (.inl ((1,1,0),none)),[],[((16,4),(1,7,1),some ((16,4),1,1)),((16,5),(33,33,0),some ((16,5),(-1),(-1)))])])
def q392_P : rfP := (flX11,csX11,lcX11,spX11,[q391_M],[],[(208,0,0)],([],[]))
def q392_U : rfU := []
set_option maxHeartbeats 8000000 in
def q392_N : List rfB := [(0,([(0,.inr (.inl [70]))],[],[((16,4),(0,6,1),some ((16,4),0,0)),((16,5),(34,34,0),some ((16,5),0,0))]),(5,[]),0)]
set_option maxRecDepth 100000 in
theorem q392_ok : rf_chkB q392_P q392_U wLay q392_M ddX11_redo [(8,[0])] [] [0] 600 q392_N = true := by decide +kernel
set_option maxHeartbeats 4000000 in
theorem q392_met {G : rfG} (h : okG G) : rf_met G q392_M := rf_methodB h.1 (P := q392_P) (U := q392_U) (N := q392_N) ⟨wflT h flokX11, wcsT h csokX11, wlcT h lcokX11, spokX11 h, List.forall_mem_cons.mpr ⟨q391_met h, fun _ h => absurd h List.not_mem_nil⟩, fun _ h => absurd h List.not_mem_nil, List.forall_mem_cons.mpr ⟨fun M hM => Option.some.inj (show some q391_M = some M from hM) ▸ wlkV (lkX11_208 h) q391_M rfl rfl, fun _ h => absurd h List.not_mem_nil⟩, fun _ h => absurd h List.not_mem_nil, fun _ h => absurd h List.not_mem_nil⟩ dkX11_redo (by decide +kernel) (by rw [h.2.2.1]; exact q392_ok)
/-- NearSpell.Archive.doAgain -/
def q393_M : rfM := ((⟨"NearSpell$Archive", "doAgain", "(LNearSpell$State;)Z"⟩, prog_2_method_5_code, 2, (some .boolean)), (2,41), ([.inr (.inl [16]),.inr (.inl [13])],[((16,4),(0,5,1),none),((16,5),(35,35,0),none)]), [(12,0),(16,5),(16,6)], [(some (.inl ((1,1,0),none)),[],[((16,4),(1,6,1),some ((16,4),1,1)),((16,5),(34,34,0),some ((16,5),(-1),(-1)))])])
def q393_P : rfP := (flX0,csX0,lcX0,spX0,[q240_M],[],[(37,0,0)],([],[]))
def q393_U : rfU := []
set_option maxHeartbeats 8000000 in
def q393_N : List rfB := [(0,([(0,.inr (.inl [16])),(1,.inr (.inl [13]))],[],[((16,4),(0,5,1),some ((16,4),0,0)),((16,5),(35,35,0),some ((16,5),0,0))]),(19,[]),0)]
set_option maxRecDepth 100000 in
theorem q393_ok : rf_chkB q393_P q393_U wLay q393_M ddX0_doAgain [(31,[0])] [] [0] 600 q393_N = true := by decide +kernel
set_option maxHeartbeats 4000000 in
theorem q393_met {G : rfG} (h : okG G) : rf_met G q393_M := rf_methodB h.1 (P := q393_P) (U := q393_U) (N := q393_N) ⟨wflT h flokX0, wcsT h csokX0, wlcT h lcokX0, spokX0 h, List.forall_mem_cons.mpr ⟨q240_met h, fun _ h => absurd h List.not_mem_nil⟩, fun _ h => absurd h List.not_mem_nil, List.forall_mem_cons.mpr ⟨fun M hM => Option.some.inj (show some q240_M = some M from hM) ▸ wlkV (lkX0_37 h) q240_M rfl rfl, fun _ h => absurd h List.not_mem_nil⟩, fun _ h => absurd h List.not_mem_nil, fun _ h => absurd h List.not_mem_nil⟩ dkX0_doAgain (by decide +kernel) (by rw [h.2.2.1]; exact q393_ok)
/-- NearSpell.redo -/
def q394_M : rfM := ((⟨"NearSpell", "redo", "()Z"⟩, prog_1_method_13_code, 1, (some .boolean)), (3,62), ([.inr (.inl [70])],[((16,4),(0,5,1),none),((16,5),(35,35,0),none)]), [(12,0),(16,5),(16,6)], [(some (.inl ((1,1,0),none)),[],[((16,4),(1,6,1),some ((16,4),1,1)),((16,5),(34,34,0),some ((16,5),(-1),(-1)))])])
def q394_P : rfP := (flX11,csX11,lcX11,spX11,[q393_M],[],[(208,0,0)],([],[]))
def q394_U : rfU := []
set_option maxHeartbeats 8000000 in
def q394_N : List rfB := [(0,([(0,.inr (.inl [70]))],[],[((16,4),(0,5,1),some ((16,4),0,0)),((16,5),(35,35,0),some ((16,5),0,0))]),(5,[]),0)]
set_option maxRecDepth 100000 in
theorem q394_ok : rf_chkB q394_P q394_U wLay q394_M ddX11_redo [(8,[0])] [] [0] 600 q394_N = true := by decide +kernel
set_option maxHeartbeats 4000000 in
theorem q394_met {G : rfG} (h : okG G) : rf_met G q394_M := rf_methodB h.1 (P := q394_P) (U := q394_U) (N := q394_N) ⟨wflT h flokX11, wcsT h csokX11, wlcT h lcokX11, spokX11 h, List.forall_mem_cons.mpr ⟨q393_met h, fun _ h => absurd h List.not_mem_nil⟩, fun _ h => absurd h List.not_mem_nil, List.forall_mem_cons.mpr ⟨fun M hM => Option.some.inj (show some q393_M = some M from hM) ▸ wlkV (lkX11_208 h) q393_M rfl rfl, fun _ h => absurd h List.not_mem_nil⟩, fun _ h => absurd h List.not_mem_nil, fun _ h => absurd h List.not_mem_nil⟩ dkX11_redo (by decide +kernel) (by rw [h.2.2.1]; exact q394_ok)
/-- NearSpell.Archive.doAgain -/
def q395_M : rfM := ((⟨"NearSpell$Archive", "doAgain", "(LNearSpell$State;)Z"⟩, prog_2_method_5_code, 2, (some .boolean)), (2,41), ([.inr (.inl [16]),.inr (.inl [13])],[((16,4),(0,4,1),none),((16,5),(36,36,0),none)]), [(12,0),(16,5),(16,6)], [(some (.inl ((1,1,0),none)),[],[((16,4),(1,5,1),some ((16,4),1,1)),((16,5),(35,35,0),some ((16,5),(-1),(-1)))])])
def q395_P : rfP := (flX0,csX0,lcX0,spX0,[q240_M],[],[(37,0,0)],([],[]))
def q395_U : rfU := []
set_option maxHeartbeats 8000000 in
def q395_N : List rfB := [(0,([(0,.inr (.inl [16])),(1,.inr (.inl [13]))],[],[((16,4),(0,4,1),some ((16,4),0,0)),((16,5),(36,36,0),some ((16,5),0,0))]),(19,[]),0)]
set_option maxRecDepth 100000 in
theorem q395_ok : rf_chkB q395_P q395_U wLay q395_M ddX0_doAgain [(31,[0])] [] [0] 600 q395_N = true := by decide +kernel
set_option maxHeartbeats 4000000 in
theorem q395_met {G : rfG} (h : okG G) : rf_met G q395_M := rf_methodB h.1 (P := q395_P) (U := q395_U) (N := q395_N) ⟨wflT h flokX0, wcsT h csokX0, wlcT h lcokX0, spokX0 h, List.forall_mem_cons.mpr ⟨q240_met h, fun _ h => absurd h List.not_mem_nil⟩, fun _ h => absurd h List.not_mem_nil, List.forall_mem_cons.mpr ⟨fun M hM => Option.some.inj (show some q240_M = some M from hM) ▸ wlkV (lkX0_37 h) q240_M rfl rfl, fun _ h => absurd h List.not_mem_nil⟩, fun _ h => absurd h List.not_mem_nil, fun _ h => absurd h List.not_mem_nil⟩ dkX0_doAgain (by decide +kernel) (by rw [h.2.2.1]; exact q395_ok)
/-- NearSpell.redo -/
def q396_M : rfM := ((⟨"NearSpell", "redo", "()Z"⟩, prog_1_method_13_code, 1, (some .boolean)), (3,62), ([.inr (.inl [70])],[((16,4),(0,4,1),none),((16,5),(36,36,0),none)]), [(12,0),(16,5),(16,6)], [(some (.inl ((1,1,0),none)),[],[((16,4),(1,5,1),some ((16,4),1,1)),((16,5),(35,35,0),some ((16,5),(-1),(-1)))])])
def q396_P : rfP := (flX11,csX11,lcX11,spX11,[q395_M],[],[(208,0,0)],([],[]))
def q396_U : rfU := []
set_option maxHeartbeats 8000000 in
def q396_N : List rfB := [(0,([(0,.inr (.inl [70]))],[],[((16,4),(0,4,1),some ((16,4),0,0)),((16,5),(36,36,0),some ((16,5),0,0))]),(5,[]),0)]
set_option maxRecDepth 100000 in
theorem q396_ok : rf_chkB q396_P q396_U wLay q396_M ddX11_redo [(8,[0])] [] [0] 600 q396_N = true := by decide +kernel
set_option maxHeartbeats 4000000 in
theorem q396_met {G : rfG} (h : okG G) : rf_met G q396_M := rf_methodB h.1 (P := q396_P) (U := q396_U) (N := q396_N) ⟨wflT h flokX11, wcsT h csokX11, wlcT h lcokX11, spokX11 h, List.forall_mem_cons.mpr ⟨q395_met h, fun _ h => absurd h List.not_mem_nil⟩, fun _ h => absurd h List.not_mem_nil, List.forall_mem_cons.mpr ⟨fun M hM => Option.some.inj (show some q395_M = some M from hM) ▸ wlkV (lkX11_208 h) q395_M rfl rfl, fun _ h => absurd h List.not_mem_nil⟩, fun _ h => absurd h List.not_mem_nil, fun _ h => absurd h List.not_mem_nil⟩ dkX11_redo (by decide +kernel) (by rw [h.2.2.1]; exact q396_ok)
/-- NearSpell.Archive.doAgain -/
def q397_M : rfM := ((⟨"NearSpell$Archive", "doAgain", "(LNearSpell$State;)Z"⟩, prog_2_method_5_code, 2, (some .boolean)), (2,41), ([.inr (.inl [16]),.inr (.inl [13])],[((16,4),(0,3,1),none),((16,5),(37,37,0),none)]), [(12,0),(16,5),(16,6)], [(some (.inl ((1,1,0),none)),[],[((16,4),(1,4,1),some ((16,4),1,1)),((16,5),(36,36,0),some ((16,5),(-1),(-1)))])])
def q397_P : rfP := (flX0,csX0,lcX0,spX0,[q240_M],[],[(37,0,0)],([],[]))
def q397_U : rfU := []
set_option maxHeartbeats 8000000 in
def q397_N : List rfB := [(0,([(0,.inr (.inl [16])),(1,.inr (.inl [13]))],[],[((16,4),(0,3,1),some ((16,4),0,0)),((16,5),(37,37,0),some ((16,5),0,0))]),(19,[]),0)]
set_option maxRecDepth 100000 in
theorem q397_ok : rf_chkB q397_P q397_U wLay q397_M ddX0_doAgain [(31,[0])] [] [0] 600 q397_N = true := by decide +kernel
set_option maxHeartbeats 4000000 in
theorem q397_met {G : rfG} (h : okG G) : rf_met G q397_M := rf_methodB h.1 (P := q397_P) (U := q397_U) (N := q397_N) ⟨wflT h flokX0, wcsT h csokX0, wlcT h lcokX0, spokX0 h, List.forall_mem_cons.mpr ⟨q240_met h, fun _ h => absurd h List.not_mem_nil⟩, fun _ h => absurd h List.not_mem_nil, List.forall_mem_cons.mpr ⟨fun M hM => Option.some.inj (show some q240_M = some M from hM) ▸ wlkV (lkX0_37 h) q240_M rfl rfl, fun _ h => absurd h List.not_mem_nil⟩, fun _ h => absurd h List.not_mem_nil, fun _ h => absurd h List.not_mem_nil⟩ dkX0_doAgain (by decide +kernel) (by rw [h.2.2.1]; exact q397_ok)
/-- NearSpell.redo -/
def q398_M : rfM := ((⟨"NearSpell", "redo", "()Z"⟩, prog_1_method_13_code, 1, (some .boolean)), (3,62), ([.inr (.inl [70])],[((16,4),(0,3,1),none),((16,5),(37,37,0),none)]), [(12,0),(16,5),(16,6)], [(some (.inl ((1,1,0),none)),[],[((16,4),(1,4,1),some ((16,4),1,1)),((16,5),(36,36,0),some ((16,5),(-1),(-1)))])])
def q398_P : rfP := (flX11,csX11,lcX11,spX11,[q397_M],[],[(208,0,0)],([],[]))
def q398_U : rfU := []
set_option maxHeartbeats 8000000 in
def q398_N : List rfB := [(0,([(0,.inr (.inl [70]))],[],[((16,4),(0,3,1),some ((16,4),0,0)),((16,5),(37,37,0),some ((16,5),0,0))]),(5,[]),0)]
set_option maxRecDepth 100000 in
theorem q398_ok : rf_chkB q398_P q398_U wLay q398_M ddX11_redo [(8,[0])] [] [0] 600 q398_N = true := by decide +kernel
set_option maxHeartbeats 4000000 in
theorem q398_met {G : rfG} (h : okG G) : rf_met G q398_M := rf_methodB h.1 (P := q398_P) (U := q398_U) (N := q398_N) ⟨wflT h flokX11, wcsT h csokX11, wlcT h lcokX11, spokX11 h, List.forall_mem_cons.mpr ⟨q397_met h, fun _ h => absurd h List.not_mem_nil⟩, fun _ h => absurd h List.not_mem_nil, List.forall_mem_cons.mpr ⟨fun M hM => Option.some.inj (show some q397_M = some M from hM) ▸ wlkV (lkX11_208 h) q397_M rfl rfl, fun _ h => absurd h List.not_mem_nil⟩, fun _ h => absurd h List.not_mem_nil, fun _ h => absurd h List.not_mem_nil⟩ dkX11_redo (by decide +kernel) (by rw [h.2.2.1]; exact q398_ok)
/-- NearSpell.Archive.doAgain -/
def q399_M : rfM := ((⟨"NearSpell$Archive", "doAgain", "(LNearSpell$State;)Z"⟩, prog_2_method_5_code, 2, (some .boolean)), (2,41), ([.inr (.inl [16]),.inr (.inl [13])],[((16,4),(0,2,1),none),((16,5),(38,38,0),none)]), [(12,0),(16,5),(16,6)], [(some (.inl ((1,1,0),none)),[],[((16,4),(1,3,1),some ((16,4),1,1)),((16,5),(37,37,0),some ((16,5),(-1),(-1)))])])
def q399_P : rfP := (flX0,csX0,lcX0,spX0,[q240_M],[],[(37,0,0)],([],[]))
def q399_U : rfU := []
set_option maxHeartbeats 8000000 in
def q399_N : List rfB := [(0,([(0,.inr (.inl [16])),(1,.inr (.inl [13]))],[],[((16,4),(0,2,1),some ((16,4),0,0)),((16,5),(38,38,0),some ((16,5),0,0))]),(19,[]),0)]
set_option maxRecDepth 100000 in
theorem q399_ok : rf_chkB q399_P q399_U wLay q399_M ddX0_doAgain [(31,[0])] [] [0] 600 q399_N = true := by decide +kernel
set_option maxHeartbeats 4000000 in
theorem q399_met {G : rfG} (h : okG G) : rf_met G q399_M := rf_methodB h.1 (P := q399_P) (U := q399_U) (N := q399_N) ⟨wflT h flokX0, wcsT h csokX0, wlcT h lcokX0, spokX0 h, List.forall_mem_cons.mpr ⟨q240_met h, fun _ h => absurd h List.not_mem_nil⟩, fun _ h => absurd h List.not_mem_nil, List.forall_mem_cons.mpr ⟨fun M hM => Option.some.inj (show some q240_M = some M from hM) ▸ wlkV (lkX0_37 h) q240_M rfl rfl, fun _ h => absurd h List.not_mem_nil⟩, fun _ h => absurd h List.not_mem_nil, fun _ h => absurd h List.not_mem_nil⟩ dkX0_doAgain (by decide +kernel) (by rw [h.2.2.1]; exact q399_ok)
