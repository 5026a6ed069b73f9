/-- NearSpell.undo -/
def q300_M : rfM := ((⟨"NearSpell", "undo", "()Z"⟩, prog_1_method_12_code, 1, (some .boolean)), (3,62), ([.inr (.inl [70])],[((16,4),(0,11,1),none),((16,5),(29,29,0),none)]), [(12,0),(16,5),(16,6)], [(some (.inl ((1,1,0),none)),[],[((16,4),(0,10,1),some ((16,4),(-1),(-1))),((16,5),(30,30,0),some ((16,5),1,1))]),(some (.inl ((0,0,0),none)),[],[((16,4),(0,0,1),some ((16,4),0,0)),((16,5),(29,29,0),some ((16,5),0,0))])])
def q300_P : rfP := (flX11,csX11,lcX11,spX11,[q299_M],[],[(204,0,0)],([],[]))
def q300_U : rfU := []
set_option maxHeartbeats 8000000 in
def q300_N : List rfB := [(0,([(0,.inr (.inl [70]))],[],[((16,4),(0,11,1),some ((16,4),0,0)),((16,5),(29,29,0),some ((16,5),0,0))]),(6,[]),0)]
set_option maxRecDepth 100000 in
theorem q300_ok : rf_chkB q300_P q300_U wLay q300_M ddX11_undo [(8,[0])] [] [0] 600 q300_N = true := by decide +kernel
set_option maxHeartbeats 4000000 in
theorem q300_met {G : rfG} (h : okG G) : rf_met G q300_M := rf_methodB h.1 (P := q300_P) (U := q300_U) (N := q300_N) ⟨wflT h flokX11, wcsT h csokX11, wlcT h lcokX11, spokX11 h, List.forall_mem_cons.mpr ⟨q299_met h, fun _ h => absurd h List.not_mem_nil⟩, fun _ h => absurd h List.not_mem_nil, List.forall_mem_cons.mpr ⟨fun M hM => Option.some.inj (show some q299_M = some M from hM) ▸ wlkV (lkX11_204 h) q299_M rfl rfl, fun _ h => absurd h List.not_mem_nil⟩, fun _ h => absurd h List.not_mem_nil, fun _ h => absurd h List.not_mem_nil⟩ dkX11_undo (by decide +kernel) (by rw [h.2.2.1]; exact q300_ok)
/-- NearSpell.Archive.takeBack -/
def q301_M : rfM := ((⟨"NearSpell$Archive", "takeBack", "(LNearSpell$State;)Z"⟩, prog_2_method_4_code, 2, (some .boolean)), (2,41), ([.inr (.inl [16]),.inr (.inl [13])],[((16,4),(0,10,1),none),((16,5),(30,30,0),none)]), [(12,0),(16,5),(16,6)], [(some (.inl ((0,0,0),none)),[],[((16,4),(0,0,1),some ((16,4),0,0)),((16,5),(30,30,0),some ((16,5),0,0))]),(some (.inl ((1,1,0),none)),[],[((16,4),(0,9,1),some ((16,4),(-1),(-1))),((16,5),(31,31,0),some ((16,5),1,1))])])
def q301_P : rfP := (flX0,csX0,lcX0,spX0,[q240_M],[],[(37,0,0)],([],[]))
def q301_U : rfU := []
set_option maxHeartbeats 8000000 in
def q301_N : List rfB := [(0,([(0,.inr (.inl [16])),(1,.inr (.inl [13]))],[],[((16,4),(0,10,1),some ((16,4),0,0)),((16,5),(30,30,0),some ((16,5),0,0))]),(21,[]),0)]
set_option maxRecDepth 100000 in
theorem q301_ok : rf_chkB q301_P q301_U wLay q301_M ddX0_takeBack [(31,[0])] [] [0] 600 q301_N = true := by decide +kernel
set_option maxHeartbeats 4000000 in
theorem q301_met {G : rfG} (h : okG G) : rf_met G q301_M := rf_methodB h.1 (P := q301_P) (U := q301_U) (N := q301_N) ⟨wflT h flokX0, wcsT h csokX0, wlcT h lcokX0, spokX0 h, List.forall_mem_cons.mpr ⟨q240_met h, fun _ h => absurd h List.not_mem_nil⟩, fun _ h => absurd h List.not_mem_nil, List.forall_mem_cons.mpr ⟨fun M hM => Option.some.inj (show some q240_M = some M from hM) ▸ wlkV (lkX0_37 h) q240_M rfl rfl, fun _ h => absurd h List.not_mem_nil⟩, fun _ h => absurd h List.not_mem_nil, fun _ h => absurd h List.not_mem_nil⟩ dkX0_takeBack (by decide +kernel) (by rw [h.2.2.1]; exact q301_ok)
/-- NearSpell.undo -/
def q302_M : rfM := ((⟨"NearSpell", "undo", "()Z"⟩, prog_1_method_12_code, 1, (some .boolean)), (3,62), ([.inr (.inl [70])],[((16,4),(0,10,1),none),((16,5),(30,30,0),none)]), [(12,0),(16,5),(16,6)], [(some (.inl ((1,1,0),none)),[],[((16,4),(0,9,1),some ((16,4),(-1),(-1))),((16,5),(31,31,0),some ((16,5),1,1))]),(some (.inl ((0,0,0),none)),[],[((16,4),(0,0,1),some ((16,4),0,0)),((16,5),(30,30,0),some ((16,5),0,0))])])
def q302_P : rfP := (flX11,csX11,lcX11,spX11,[q301_M],[],[(204,0,0)],([],[]))
def q302_U : rfU := []
set_option maxHeartbeats 8000000 in
def q302_N : List rfB := [(0,([(0,.inr (.inl [70]))],[],[((16,4),(0,10,1),some ((16,4),0,0)),((16,5),(30,30,0),some ((16,5),0,0))]),(6,[]),0)]
set_option maxRecDepth 100000 in
theorem q302_ok : rf_chkB q302_P q302_U wLay q302_M ddX11_undo [(8,[0])] [] [0] 600 q302_N = true := by decide +kernel
set_option maxHeartbeats 4000000 in
theorem q302_met {G : rfG} (h : okG G) : rf_met G q302_M := rf_methodB h.1 (P := q302_P) (U := q302_U) (N := q302_N) ⟨wflT h flokX11, wcsT h csokX11, wlcT h lcokX11, spokX11 h, List.forall_mem_cons.mpr ⟨q301_met h, fun _ h => absurd h List.not_mem_nil⟩, fun _ h => absurd h List.not_mem_nil, List.forall_mem_cons.mpr ⟨fun M hM => Option.some.inj (show some q301_M = some M from hM) ▸ wlkV (lkX11_204 h) q301_M rfl rfl, fun _ h => absurd h List.not_mem_nil⟩, fun _ h => absurd h List.not_mem_nil, fun _ h => absurd h List.not_mem_nil⟩ dkX11_undo (by decide +kernel) (by rw [h.2.2.1]; exact q302_ok)
/-- NearSpell.Archive.takeBack -/
def q303_M : rfM := ((⟨"NearSpell$Archive", "takeBack", "(LNearSpell$State;)Z"⟩, prog_2_method_4_code, 2, (some .boolean)), (2,41), ([.inr (.inl [16]),.inr (.inl [13])],[((16,4),(0,9,1),none),((16,5),(31,31,0),none)]), [(12,0),(16,5),(16,6)], [(some (.inl ((0,0,0),none)),[],[((16,4),(0,0,1),some ((16,4),0,0)),((16,5),(31,31,0),some ((16,5),0,0))]),(some (.inl ((1,1,0),none)),[],[((16,4),(0,8,1),some ((16,4),(-1),(-1))),((16,5),(32,32,0),some ((16,5),1,1))])])
def q303_P : rfP := (flX0,csX0,lcX0,spX0,[q240_M],[],[(37,0,0)],([],[]))
def q303_U : rfU := []
set_option maxHeartbeats 8000000 in
def q303_N : List rfB := [(0,([(0,.inr (.inl [16])),(1,.inr (.inl [13]))],[],[((16,4),(0,9,1),some ((16,4),0,0)),((16,5),(31,31,0),some ((16,5),0,0))]),(21,[]),0)]
set_option maxRecDepth 100000 in
theorem q303_ok : rf_chkB q303_P q303_U wLay q303_M ddX0_takeBack [(31,[0])] [] [0] 600 q303_N = true := by decide +kernel
set_option maxHeartbeats 4000000 in
theorem q303_met {G : rfG} (h : okG G) : rf_met G q303_M := rf_methodB h.1 (P := q303_P) (U := q303_U) (N := q303_N) ⟨wflT h flokX0, wcsT h csokX0, wlcT h lcokX0, spokX0 h, List.forall_mem_cons.mpr ⟨q240_met h, fun _ h => absurd h List.not_mem_nil⟩, fun _ h => absurd h List.not_mem_nil, List.forall_mem_cons.mpr ⟨fun M hM => Option.some.inj (show some q240_M = some M from hM) ▸ wlkV (lkX0_37 h) q240_M rfl rfl, fun _ h => absurd h List.not_mem_nil⟩, fun _ h => absurd h List.not_mem_nil, fun _ h => absurd h List.not_mem_nil⟩ dkX0_takeBack (by decide +kernel) (by rw [h.2.2.1]; exact q303_ok)
/-- NearSpell.undo -/
def q304_M : rfM := ((⟨"NearSpell", "undo", "()Z"⟩, prog_1_method_12_code, 1, (some .boolean)), (3,62), ([.inr (.inl [70])],[((16,4),(0,9,1),none),((16,5),(31,31,0),none)]), [(12,0),(16,5),(16,6)], [(some (.inl ((1,1,0),none)),[],[((16,4),(0,8,1),some ((16,4),(-1),(-1))),((16,5),(32,32,0),some ((16,5),1,1))]),(some (.inl ((0,0,0),none)),[],[((16,4),(0,0,1),some ((16,4),0,0)),((16,5),(31,31,0),some ((16,5),0,0))])])
def q304_P : rfP := (flX11,csX11,lcX11,spX11,[q303_M],[],[(204,0,0)],([],[]))
def q304_U : rfU := []
set_option maxHeartbeats 8000000 in
def q304_N : List rfB := [(0,([(0,.inr (.inl [70]))],[],[((16,4),(0,9,1),some ((16,4),0,0)),((16,5),(31,31,0),some ((16,5),0,0))]),(6,[]),0)]
set_option maxRecDepth 100000 in
theorem q304_ok : rf_chkB q304_P q304_U wLay q304_M ddX11_undo [(8,[0])] [] [0] 600 q304_N = true := by decide +kernel
set_option maxHeartbeats 4000000 in
theorem q304_met {G : rfG} (h : okG G) : rf_met G q304_M := rf_methodB h.1 (P := q304_P) (U := q304_U) (N := q304_N) ⟨wflT h flokX11, wcsT h csokX11, wlcT h lcokX11, spokX11 h, List.forall_mem_cons.mpr ⟨q303_met h, fun _ h => absurd h List.not_mem_nil⟩, fun _ h => absurd h List.not_mem_nil, List.forall_mem_cons.mpr ⟨fun M hM => Option.some.inj (show some q303_M = some M from hM) ▸ wlkV (lkX11_204 h) q303_M rfl rfl, fun _ h => absurd h List.not_mem_nil⟩, fun _ h => absurd h List.not_mem_nil, fun _ h => absurd h List.not_mem_nil⟩ dkX11_undo (by decide +kernel) (by rw [h.2.2.1]; exact q304_ok)
/-- NearSpell.Archive.takeBack -/
def q305_M : rfM := ((⟨"NearSpell$Archive", "takeBack", "(LNearSpell$State;)Z"⟩, prog_2_method_4_code, 2, (some .boolean)), (2,41), ([.inr (.inl [16]),.inr (.inl [13])],[((16,4),(0,8,1),none),((16,5),(32,32,0),none)]), [(12,0),(16,5),(16,6)], [(some (.inl ((0,0,0),none)),[],[((16,4),(0,0,1),some ((16,4),0,0)),((16,5),(32,32,0),some ((16,5),0,0))]),(some (.inl ((1,1,0),none)),[],[((16,4),(0,7,1),some ((16,4),(-1),(-1))),((16,5),(33,33,0),some ((16,5),1,1))])])
def q305_P : rfP := (flX0,csX0,lcX0,spX0,[q240_M],[],[(37,0,0)],([],[]))
def q305_U : rfU := []
set_option maxHeartbeats 8000000 in
def q305_N : List rfB := [(0,([(0,.inr (.inl [16])),(1,.inr (.inl [13]))],[],[((16,4),(0,8,1),some ((16,4),0,0)),((16,5),(32,32,0),some ((16,5),0,0))]),(21,[]),0)]
set_option maxRecDepth 100000 in
theorem q305_ok : rf_chkB q305_P q305_U wLay q305_M ddX0_takeBack [(31,[0])] [] [0] 600 q305_N = true := by decide +kernel
set_option maxHeartbeats 4000000 in
theorem q305_met {G : rfG} (h : okG G) : rf_met G q305_M := rf_methodB h.1 (P := q305_P) (U := q305_U) (N := q305_N) ⟨wflT h flokX0, wcsT h csokX0, wlcT h lcokX0, spokX0 h, List.forall_mem_cons.mpr ⟨q240_met h, fun _ h => absurd h List.not_mem_nil⟩, fun _ h => absurd h List.not_mem_nil, List.forall_mem_cons.mpr ⟨fun M hM => Option.some.inj (show some q240_M = some M from hM) ▸ wlkV (lkX0_37 h) q240_M rfl rfl, fun _ h => absurd h List.not_mem_nil⟩, fun _ h => absurd h List.not_mem_nil, fun _ h => absurd h List.not_mem_nil⟩ dkX0_takeBack (by decide +kernel) (by rw [h.2.2.1]; exact q305_ok)
/-- NearSpell.undo -/
def q306_M : rfM := ((⟨"NearSpell", "undo", "()Z"⟩, prog_1_method_12_code, 1, (some .boolean)), (3,62), ([.inr (.inl [70])],[((16,4),(0,8,1),none),((16,5),(32,32,0),none)]), [(12,0),(16,5),(16,6)], [(some (.inl ((1,1,0),none)),[],[((16,4),(0,7,1),some ((16,4),(-1),(-1))),((16,5),(33,33,0),some ((16,5),1,1))]),(some (.inl ((0,0,0),none)),[],[((16,4),(0,0,1),some ((16,4),0,0)),((16,5),(32,32,0),some ((16,5),0,0))])])
def q306_P : rfP := (flX11,csX11,lcX11,spX11,[q305_M],[],[(204,0,0)],([],[]))
def q306_U : rfU := []
set_option maxHeartbeats 8000000 in
def q306_N : List rfB := [(0,([(0,.inr (.inl [70]))],[],[((16,4),(0,8,1),some ((16,4),0,0)),((16,5),(32,32,0),some ((16,5),0,0))]),(6,[]),0)]
set_option maxRecDepth 100000 in
theorem q306_ok : rf_chkB q306_P q306_U wLay q306_M ddX11_undo [(8,[0])] [] [0] 600 q306_N = true := by decide +kernel
set_option maxHeartbeats 4000000 in
theorem q306_met {G : rfG} (h : okG G) : rf_met G q306_M := rf_methodB h.1 (P := q306_P) (U := q306_U) (N := q306_N) ⟨wflT h flokX11, wcsT h csokX11, wlcT h lcokX11, spokX11 h, List.forall_mem_cons.mpr ⟨q305_met h, fun _ h => absurd h List.not_mem_nil⟩, fun _ h => absurd h List.not_mem_nil, List.forall_mem_cons.mpr ⟨fun M hM => Option.some.inj (show some q305_M = some M from hM) ▸ wlkV (lkX11_204 h) q305_M rfl rfl, fun _ h => absurd h List.not_mem_nil⟩, fun _ h => absurd h List.not_mem_nil, fun _ h => absurd h List.not_mem_nil⟩ dkX11_undo (by decide +kernel) (by rw [h.2.2.1]; exact q306_ok)
/-- NearSpell.Archive.takeBack -/
def q307_M : rfM := ((⟨"NearSpell$Archive", "takeBack", "(LNearSpell$State;)Z"⟩, prog_2_method_4_code, 2, (some .boolean)), (2,41), ([.inr (.inl [16]),.inr (.inl [13])],[((16,4),(0,7,1),none),((16,5),(33,33,0),none)]), [(12,0),(16,5),(16,6)], [(some (.inl ((0,0,0),none)),[],[((16,4),(0,0,1),some ((16,4),0,0)),((16,5),(33,33,0),some ((16,5),0,0))]),(some (.inl ((1,1,0),none)),[],[((16,4),(0,6,1),some ((16,4),(-1),(-1))),((16,5),(34,34,0),some ((16,5),1,1))])])
def q307_P : rfP := (flX0,csX0,lcX0,spX0,[q240_M],[],[(37,0,0)],([],[]))
def q307_U : rfU := []
set_option maxHeartbeats 8000000 in
def q307_N : List rfB := [(0,([(0,.inr (.inl [16])),(1,.inr (.inl [13]))],[],[((16,4),(0,7,1),some ((16,4),0,0)),((16,5),(33,33,0),some ((16,5),0,0))]),(21,[]),0)]
set_option maxRecDepth 100000 in
theorem q307_ok : rf_chkB q307_P q307_U wLay q307_M ddX0_takeBack [(31,[0])] [] [0] 600 q307_N = true := by decide +kernel
set_option maxHeartbeats 4000000 in
theorem q307_met {G : rfG} (h : okG G) : rf_met G q307_M := rf_methodB h.1 (P := q307_P) (U := q307_U) (N := q307_N) ⟨wflT h flokX0, wcsT h csokX0, wlcT h lcokX0, spokX0 h, List.forall_mem_cons.mpr ⟨q240_met h, fun _ h => absurd h List.not_mem_nil⟩, fun _ h => absurd h List.not_mem_nil, List.forall_mem_cons.mpr ⟨fun M hM => Option.some.inj (show some q240_M = some M from hM) ▸ wlkV (lkX0_37 h) q240_M rfl rfl, fun _ h => absurd h List.not_mem_nil⟩, fun _ h => absurd h List.not_mem_nil, fun _ h => absurd h List.not_mem_nil⟩ dkX0_takeBack (by decide +kernel) (by rw [h.2.2.1]; exact q307_ok)
/-- NearSpell.undo -/
def q308_M : rfM := ((⟨"NearSpell", "undo", "()Z"⟩, prog_1_method_12_code, 1, (some .boolean)), (3,62), ([.inr (.inl [70])],[((16,4),(0,7,1),none),((16,5),(33,33,0),none)]), [(12,0),(16,5),(16,6)], [(some (.inl ((1,1,0),none)),[],[((16,4),(0,6,1),some ((16,4),(-1),(-1))),((16,5),(34,34,0),some ((16,5),1,1))]),(some (.inl ((0,0,0),none)),[],[((16,4),(0,0,1),some ((16,4),0,0)),((16,5),(33,33,0),some ((16,5),0,0))])])
def q308_P : rfP := (flX11,csX11,lcX11,spX11,[q307_M],[],[(204,0,0)],([],[]))
def q308_U : rfU := []
set_option maxHeartbeats 8000000 in
def q308_N : List rfB := [(0,([(0,.inr (.inl [70]))],[],[((16,4),(0,7,1),some ((16,4),0,0)),((16,5),(33,33,0),some ((16,5),0,0))]),(6,[]),0)]
set_option maxRecDepth 100000 in
theorem q308_ok : rf_chkB q308_P q308_U wLay q308_M ddX11_undo [(8,[0])] [] [0] 600 q308_N = true := by decide +kernel
set_option maxHeartbeats 4000000 in
theorem q308_met {G : rfG} (h : okG G) : rf_met G q308_M := rf_methodB h.1 (P := q308_P) (U := q308_U) (N := q308_N) ⟨wflT h flokX11, wcsT h csokX11, wlcT h lcokX11, spokX11 h, List.forall_mem_cons.mpr ⟨q307_met h, fun _ h => absurd h List.not_mem_nil⟩, fun _ h => absurd h List.not_mem_nil, List.forall_mem_cons.mpr ⟨fun M hM => Option.some.inj (show some q307_M = some M from hM) ▸ wlkV (lkX11_204 h) q307_M rfl rfl, fun _ h => absurd h List.not_mem_nil⟩, fun _ h => absurd h List.not_mem_nil, fun _ h => absurd h List.not_mem_nil⟩ dkX11_undo (by decide +kernel) (by rw [h.2.2.1]; exact q308_ok)
/-- NearSpell.Archive.takeBack -/
def q309_M : rfM := ((⟨"NearSpell$Archive", "takeBack", "(LNearSpell$State;)Z"⟩, prog_2_method_4_code, 2, (some .boolean)), (2,41), ([.inr (.inl [16]),.inr (.inl [13])],[((16,4),(0,6,1),none),((16,5),(34,34,0),none)]), [(12,0),(16,5),(16,6)], [(some (.inl ((0,0,0),none)),[],[((16,4),(0,0,1),some ((16,4),0,0)),((16,5),(34,34,0),some ((16,5),0,0))]),(some (.inl ((1,1,0),none)),[],[((16,4),(0,5,1),some ((16,4),(-1),(-1))),((16,5),(35,35,0),some ((16,5),1,1))])])
def q309_P : rfP := (flX0,csX0,lcX0,spX0,[q240_M],[],[(37,0,0)],([],[]))
def q309_U : rfU := []
set_option maxHeartbeats 8000000 in
def q309_N : List rfB := [(0,([(0,.inr (.inl [16])),(1,.inr (.inl [13]))],[],[((16,4),(0,6,1),some ((16,4),0,0)),((16,5),(34,34,0),some ((16,5),0,0))]),(21,[]),0)]
set_option maxRecDepth 100000 in
theorem q309_ok : rf_chkB q309_P q309_U wLay q309_M ddX0_takeBack [(31,[0])] [] [0] 600 q309_N = true := by decide +kernel
set_option maxHeartbeats 4000000 in
theorem q309_met {G : rfG} (h : okG G) : rf_met G q309_M := rf_methodB h.1 (P := q309_P) (U := q309_U) (N := q309_N) ⟨wflT h flokX0, wcsT h csokX0, wlcT h lcokX0, spokX0 h, List.forall_mem_cons.mpr ⟨q240_met h, fun _ h => absurd h List.not_mem_nil⟩, fun _ h => absurd h List.not_mem_nil, List.forall_mem_cons.mpr ⟨fun M hM => Option.some.inj (show some q240_M = some M from hM) ▸ wlkV (lkX0_37 h) q240_M rfl rfl, fun _ h => absurd h List.not_mem_nil⟩, fun _ h => absurd h List.not_mem_nil, fun _ h => absurd h List.not_mem_nil⟩ dkX0_takeBack (by decide +kernel) (by rw [h.2.2.1]; exact q309_ok)
/-- NearSpell.undo -/
def q310_M : rfM := ((⟨"NearSpell", "undo", "()Z"⟩, prog_1_method_12_code, 1, (some .boolean)), (3,62), ([.inr (.inl [70])],[((16,4),(0,6,1),none),((16,5),(34,34,0),none)]), [(12,0),(16,5),(16,6)], [(some (.inl ((1,1,0),none)),[],[((16,4),(0,5,1),some ((16,4),(-1),(-1))),((16,5),(35,35,0),some ((16,5),1,1))]),(some (.inl ((0,0,0),none)),[],[((16,4),(0,0,1),some ((16,4),0,0)),((16,5),(34,34,0),some ((16,5),0,0))])])
def q310_P : rfP := (flX11,csX11,lcX11,spX11,[q309_M],[],[(204,0,0)],([],[]))
def q310_U : rfU := []
set_option maxHeartbeats 8000000 in
def q310_N : List rfB := [(0,([(0,.inr (.inl [70]))],[],[((16,4),(0,6,1),some ((16,4),0,0)),((16,5),(34,34,0),some ((16,5),0,0))]),(6,[]),0)]
set_option maxRecDepth 100000 in
theorem q310_ok : rf_chkB q310_P q310_U wLay q310_M ddX11_undo [(8,[0])] [] [0] 600 q310_N = true := by decide +kernel
set_option maxHeartbeats 4000000 in
theorem q310_met {G : rfG} (h : okG G) : rf_met G q310_M := rf_methodB h.1 (P := q310_P) (U := q310_U) (N := q310_N) ⟨wflT h flokX11, wcsT h csokX11, wlcT h lcokX11, spokX11 h, List.forall_mem_cons.mpr ⟨q309_met h, fun _ h => absurd h List.not_mem_nil⟩, fun _ h => absurd h List.not_mem_nil, List.forall_mem_cons.mpr ⟨fun M hM => Option.some.inj (show some q309_M = some M from hM) ▸ wlkV (lkX11_204 h) q309_M rfl rfl, fun _ h => absurd h List.not_mem_nil⟩, fun _ h => absurd h List.not_mem_nil, fun _ h => absurd h List.not_mem_nil⟩ dkX11_undo (by decide +kernel) (by rw [h.2.2.1]; exact q310_ok)
/-- NearSpell.Archive.takeBack -/
def q311_M : rfM := ((⟨"NearSpell$Archive", "takeBack", "(LNearSpell$State;)Z"⟩, prog_2_method_4_code, 2, (some .boolean)), (2,41), ([.inr (.inl [16]),.inr (.inl [13])],[((16,4),(0,5,1),none),((16,5),(35,35,0),none)]), [(12,0),(16,5),(16,6)], [(some (.inl ((0,0,0),none)),[],[((16,4),(0,0,1),some ((16,4),0,0)),((16,5),(35,35,0),some ((16,5),0,0))]),(some (.inl ((1,1,0),none)),[],[((16,4),(0,4,1),some ((16,4),(-1),(-1))),((16,5),(36,36,0),some ((16,5),1,1))])])
def q311_P : rfP := (flX0,csX0,lcX0,spX0,[q240_M],[],[(37,0,0)],([],[]))
def q311_U : rfU := []
set_option maxHeartbeats 8000000 in
def q311_N : List rfB := [(0,([(0,.inr (.inl [16])),(1,.inr (.inl [13]))],[],[((16,4),(0,5,1),some ((16,4),0,0)),((16,5),(35,35,0),some ((16,5),0,0))]),(21,[]),0)]
set_option maxRecDepth 100000 in
theorem q311_ok : rf_chkB q311_P q311_U wLay q311_M ddX0_takeBack [(31,[0])] [] [0] 600 q311_N = true := by decide +kernel
set_option maxHeartbeats 4000000 in
theorem q311_met {G : rfG} (h : okG G) : rf_met G q311_M := rf_methodB h.1 (P := q311_P) (U := q311_U) (N := q311_N) ⟨wflT h flokX0, wcsT h csokX0, wlcT h lcokX0, spokX0 h, List.forall_mem_cons.mpr ⟨q240_met h, fun _ h => absurd h List.not_mem_nil⟩, fun _ h => absurd h List.not_mem_nil, List.forall_mem_cons.mpr ⟨fun M hM => Option.some.inj (show some q240_M = some M from hM) ▸ wlkV (lkX0_37 h) q240_M rfl rfl, fun _ h => absurd h List.not_mem_nil⟩, fun _ h => absurd h List.not_mem_nil, fun _ h => absurd h List.not_mem_nil⟩ dkX0_takeBack (by decide +kernel) (by rw [h.2.2.1]; exact q311_ok)
/-- NearSpell.undo -/
def q312_M : rfM := ((⟨"NearSpell", "undo", "()Z"⟩, prog_1_method_12_code, 1, (some .boolean)), (3,62), ([.inr (.inl [70])],[((16,4),(0,5,1),none),((16,5),(35,35,0),none)]), [(12,0),(16,5),(16,6)], [(some (.inl ((1,1,0),none)),[],[((16,4),(0,4,1),some ((16,4),(-1),(-1))),((16,5),(36,36,0),some ((16,5),1,1))]),(some (.inl ((0,0,0),none)),[],[((16,4),(0,0,1),some ((16,4),0,0)),((16,5),(35,35,0),some ((16,5),0,0))])])
def q312_P : rfP := (flX11,csX11,lcX11,spX11,[q311_M],[],[(204,0,0)],([],[]))
def q312_U : rfU := []
set_option maxHeartbeats 8000000 in
def q312_N : List rfB := [(0,([(0,.inr (.inl [70]))],[],[((16,4),(0,5,1),some ((16,4),0,0)),((16,5),(35,35,0),some ((16,5),0,0))]),(6,[]),0)]
set_option maxRecDepth 100000 in
theorem q312_ok : rf_chkB q312_P q312_U wLay q312_M ddX11_undo [(8,[0])] [] [0] 600 q312_N = true := by decide +kernel
set_option maxHeartbeats 4000000 in
theorem q312_met {G : rfG} (h : okG G) : rf_met G q312_M := rf_methodB h.1 (P := q312_P) (U := q312_U) (N := q312_N) ⟨wflT h flokX11, wcsT h csokX11, wlcT h lcokX11, spokX11 h, List.forall_mem_cons.mpr ⟨q311_met h, fun _ h => absurd h List.not_mem_nil⟩, fun _ h => absurd h List.not_mem_nil, List.forall_mem_cons.mpr ⟨fun M hM => Option.some.inj (show some q311_M = some M from hM) ▸ wlkV (lkX11_204 h) q311_M rfl rfl, fun _ h => absurd h List.not_mem_nil⟩, fun _ h => absurd h List.not_mem_nil, fun _ h => absurd h List.not_mem_nil⟩ dkX11_undo (by decide +kernel) (by rw [h.2.2.1]; exact q312_ok)
/-- NearSpell.Archive.takeBack -/
def q313_M : rfM := ((⟨"NearSpell$Archive", "takeBack", "(LNearSpell$State;)Z"⟩, prog_2_method_4_code, 2, (some .boolean)), (2,41), ([.inr (.inl [16]),.inr (.inl [13])],[((16,4),(0,4,1),none),((16,5),(36,36,0),none)]), [(12,0),(16,5),(16,6)], [(some (.inl ((0,0,0),none)),[],[((16,4),(0,0,1),some ((16,4),0,0)),((16,5),(36,36,0),some ((16,5),0,0))]),(some (.inl ((1,1,0),none)),[],[((16,4),(0,3,1),some ((16,4),(-1),(-1))),((16,5),(37,37,0),some ((16,5),1,1))])])
def q313_P : rfP := (flX0,csX0,lcX0,spX0,[q240_M],[],[(37,0,0)],([],[]))
def q313_U : rfU := []
set_option maxHeartbeats 8000000 in
def q313_N : List rfB := [(0,([(0,.inr (.inl [16])),(1,.inr (.inl [13]))],[],[((16,4),(0,4,1),some ((16,4),0,0)),((16,5),(36,36,0),some ((16,5),0,0))]),(21,[]),0)]
set_option maxRecDepth 100000 in
theorem q313_ok : rf_chkB q313_P q313_U wLay q313_M ddX0_takeBack [(31,[0])] [] [0] 600 q313_N = true := by decide +kernel
set_option maxHeartbeats 4000000 in
theorem q313_met {G : rfG} (h : okG G) : rf_met G q313_M := rf_methodB h.1 (P := q313_P) (U := q313_U) (N := q313_N) ⟨wflT h flokX0, wcsT h csokX0, wlcT h lcokX0, spokX0 h, List.forall_mem_cons.mpr ⟨q240_met h, fun _ h => absurd h List.not_mem_nil⟩, fun _ h => absurd h List.not_mem_nil, List.forall_mem_cons.mpr ⟨fun M hM => Option.some.inj (show some q240_M = some M from hM) ▸ wlkV (lkX0_37 h) q240_M rfl rfl, fun _ h => absurd h List.not_mem_nil⟩, fun _ h => absurd h List.not_mem_nil, fun _ h => absurd h List.not_mem_nil⟩ dkX0_takeBack (by decide +kernel) (by rw [h.2.2.1]; exact q313_ok)
/-- NearSpell.undo -/
def q314_M : rfM := ((⟨"NearSpell", "undo", "()Z"⟩, prog_1_method_12_code, 1, (some .boolean)), (3,62), ([.inr (.inl [70])],[((16,4),(0,4,1),none),((16,5),(36,36,0),none)]), [(12,0),(16,5),(16,6)], [(some (.inl ((1,1,0),none)),[],[((16,4),(0,3,1),some ((16,4),(-1),(-1))),((16,5),(37,37,0),some ((16,5),1,1))]),(some (.inl ((0,0,0),none)),[],[((16,4),(0,0,1),some ((16,4),0,0)),((16,5),(36,36,0),some ((16,5),0,0))])])
def q314_P : rfP := (flX11,csX11,lcX11,spX11,[q313_M],[],[(204,0,0)],([],[]))
def q314_U : rfU := []
set_option maxHeartbeats 8000000 in
def q314_N : List rfB := [(0,([(0,.inr (.inl [70]))],[],[((16,4),(0,4,1),some ((16,4),0,0)),((16,5),(36,36,0),some ((16,5),0,0))]),(6,[]),0)]
set_option maxRecDepth 100000 in
theorem q314_ok : rf_chkB q314_P q314_U wLay q314_M ddX11_undo [(8,[0])] [] [0] 600 q314_N = true := by decide +kernel
set_option maxHeartbeats 4000000 in
theorem q314_met {G : rfG} (h : okG G) : rf_met G q314_M := rf_methodB h.1 (P := q314_P) (U := q314_U) (N := q314_N) ⟨wflT h flokX11, wcsT h csokX11, wlcT h lcokX11, spokX11 h, List.forall_mem_cons.mpr ⟨q313_met h, fun _ h => absurd h List.not_mem_nil⟩, fun _ h => absurd h List.not_mem_nil, List.forall_mem_cons.mpr ⟨fun M hM => Option.some.inj (show some q313_M = some M from hM) ▸ wlkV (lkX11_204 h) q313_M rfl rfl, fun _ h => absurd h List.not_mem_nil⟩, fun _ h => absurd h List.not_mem_nil, fun _ h => absurd h List.not_mem_nil⟩ dkX11_undo (by decide +kernel) (by rw [h.2.2.1]; exact q314_ok)
/-- NearSpell.Archive.takeBack -/
def q315_M : rfM := ((⟨"NearSpell$Archive", "takeBack", "(LNearSpell$State;)Z"⟩, prog_2_method_4_code, 2, (some .boolean)), (2,41), ([.inr (.inl [16]),.inr (.inl [13])],[((16,4),(0,3,1),none),((16,5),(37,37,0),none)]), [(12,0),(16,5),(16,6)], [(some (.inl ((0,0,0),none)),[],[((16,4),(0,0,1),some ((16,4),0,0)),((16,5),(37,37,0),some ((16,5),0,0))]),(some (.inl ((1,1,0),none)),[],[((16,4),(0,2,1),some ((16,4),(-1),(-1))),((16,5),(38,38,0),some ((16,5),1,1))])])
def q315_P : rfP := (flX0,csX0,lcX0,spX0,[q240_M],[],[(37,0,0)],([],[]))
def q315_U : rfU := []
set_option maxHeartbeats 8000000 in
def q315_N : List rfB := [(0,([(0,.inr (.inl [16])),(1,.inr (.inl [13]))],[],[((16,4),(0,3,1),some ((16,4),0,0)),((16,5),(37,37,0),some ((16,5),0,0))]),(21,[]),0)]
set_option maxRecDepth 100000 in
theorem q315_ok : rf_chkB q315_P q315_U wLay q315_M ddX0_takeBack [(31,[0])] [] [0] 600 q315_N = true := by decide +kernel
set_option maxHeartbeats 4000000 in
theorem q315_met {G : rfG} (h : okG G) : rf_met G q315_M := rf_methodB h.1 (P := q315_P) (U := q315_U) (N := q315_N) ⟨wflT h flokX0, wcsT h csokX0, wlcT h lcokX0, spokX0 h, List.forall_mem_cons.mpr ⟨q240_met h, fun _ h => absurd h List.not_mem_nil⟩, fun _ h => absurd h List.not_mem_nil, List.forall_mem_cons.mpr ⟨fun M hM => Option.some.inj (show some q240_M = some M from hM) ▸ wlkV (lkX0_37 h) q240_M rfl rfl, fun _ h => absurd h List.not_mem_nil⟩, fun _ h => absurd h List.not_mem_nil, fun _ h => absurd h List.not_mem_nil⟩ dkX0_takeBack (by decide +kernel) (by rw [h.2.2.1]; exact q315_ok)
/-- NearSpell.undo -/
def q316_M : rfM := ((⟨"NearSpell", "undo", "()Z"⟩, prog_1_method_12_code, 1, (some .boolean)), (3,62), ([.inr (.inl [70])],[((16,4),(0,3,1),none),((16,5),(37,37,0),none)]), [(12,0),(16,5),(16,6)], [(some (.inl ((1,1,0),none)),[],[((16,4),(0,2,1),some ((16,4),(-1),(-1))),((16,5),(38,38,0),some ((16,5),1,1))]),(some (.inl ((0,0,0),none)),[],[((16,4),(0,0,1),some ((16,4),0,0)),((16,5),(37,37,0),some ((16,5),0,0))])])
def q316_P : rfP := (flX11,csX11,lcX11,spX11,[q315_M],[],[(204,0,0)],([],[]))
def q316_U : rfU := []
set_option maxHeartbeats 8000000 in
def q316_N : List rfB := [(0,([(0,.inr (.inl [70]))],[],[((16,4),(0,3,1),some ((16,4),0,0)),((16,5),(37,37,0),some ((16,5),0,0))]),(6,[]),0)]
set_option maxRecDepth 100000 in
theorem q316_ok : rf_chkB q316_P q316_U wLay q316_M ddX11_undo [(8,[0])] [] [0] 600 q316_N = true := by decide +kernel
set_option maxHeartbeats 4000000 in
theorem q316_met {G : rfG} (h : okG G) : rf_met G q316_M := rf_methodB h.1 (P := q316_P) (U := q316_U) (N := q316_N) ⟨wflT h flokX11, wcsT h csokX11, wlcT h lcokX11, spokX11 h, List.forall_mem_cons.mpr ⟨q315_met h, fun _ h => absurd h List.not_mem_nil⟩, fun _ h => absurd h List.not_mem_nil, List.forall_mem_cons.mpr ⟨fun M hM => Option.some.inj (show some q315_M = some M from hM) ▸ wlkV (lkX11_204 h) q315_M rfl rfl, fun _ h => absurd h List.not_mem_nil⟩, fun _ h => absurd h List.not_mem_nil, fun _ h => absurd h List.not_mem_nil⟩ dkX11_undo (by decide +kernel) (by rw [h.2.2.1]; exact q316_ok)
/-- NearSpell.Archive.takeBack -/
def q317_M : rfM := ((⟨"NearSpell$Archive", "takeBack", "(LNearSpell$State;)Z"⟩, prog_2_method_4_code, 2, (some .boolean)), (2,41), ([.inr (.inl [16]),.inr (.inl [13])],[((16,4),(0,2,1),none),((16,5),(38,38,0),none)]), [(12,0),(16,5),(16,6)], [(some (.inl ((0,0,0),none)),[],[((16,4),(0,0,1),some ((16,4),0,0)),((16,5),(38,38,0),some ((16,5),0,0))]),(some (.inl ((1,1,0),none)),[],[((16,4),(0,1,1),some ((16,4),(-1),(-1))),((16,5),(39,39,0),some ((16,5),1,1))])])
def q317_P : rfP := (flX0,csX0,lcX0,spX0,[q240_M],[],[(37,0,0)],([],[]))
def q317_U : rfU := []
set_option maxHeartbeats 8000000 in
def q317_N : List rfB := [(0,([(0,.inr (.inl [16])),(1,.inr (.inl [13]))],[],[((16,4),(0,2,1),some ((16,4),0,0)),((16,5),(38,38,0),some ((16,5),0,0))]),(21,[]),0)]
set_option maxRecDepth 100000 in
theorem q317_ok : rf_chkB q317_P q317_U wLay q317_M ddX0_takeBack [(31,[0])] [] [0] 600 q317_N = true := by decide +kernel
set_option maxHeartbeats 4000000 in
theorem q317_met {G : rfG} (h : okG G) : rf_met G q317_M := rf_methodB h.1 (P := q317_P) (U := q317_U) (N := q317_N) ⟨wflT h flokX0, wcsT h csokX0, wlcT h lcokX0, spokX0 h, List.forall_mem_cons.mpr ⟨q240_met h, fun _ h => absurd h List.not_mem_nil⟩, fun _ h => absurd h List.not_mem_nil, List.forall_mem_cons.mpr ⟨fun M hM => Option.some.inj (show some q240_M = some M from hM) ▸ wlkV (lkX0_37 h) q240_M rfl rfl, fun _ h => absurd h List.not_mem_nil⟩, fun _ h => absurd h List.not_mem_nil, fun _ h => absurd h List.not_mem_nil⟩ dkX0_takeBack (by decide +kernel) (by rw [h.2.2.1]; exact q317_ok)
/-- NearSpell.undo -/
def q318_M : rfM := ((⟨"NearSpell", "undo", "()Z"⟩, prog_1_method_12_code, 1, (some .boolean)), (3,62), ([.inr (.inl [70])],[((16,4),(0,2,1),none),((16,5),(38,38,0),none)]), [(12,0),(16,5),(16,6)], [(some (.inl ((1,1,0),none)),[],[((16,4),(0,1,1),some ((16,4),(-1),(-1))),((16,5),(39,39,0),some ((16,5),1,1))]),(some (.inl ((0,0,0),none)),[],[((16,4),(0,0,1),some ((16,4),0,0)),((16,5),(38,38,0),some ((16,5),0,0))])])
def q318_P : rfP := (flX11,csX11,lcX11,spX11,[q317_M],[],[(204,0,0)],([],[]))
def q318_U : rfU := []
set_option maxHeartbeats 8000000 in
def q318_N : List rfB := [(0,([(0,.inr (.inl [70]))],[],[((16,4),(0,2,1),some ((16,4),0,0)),((16,5),(38,38,0),some ((16,5),0,0))]),(6,[]),0)]
set_option maxRecDepth 100000 in
theorem q318_ok : rf_chkB q318_P q318_U wLay q318_M ddX11_undo [(8,[0])] [] [0] 600 q318_N = true := by decide +kernel
set_option maxHeartbeats 4000000 in
theorem q318_met {G : rfG} (h : okG G) : rf_met G q318_M := rf_methodB h.1 (P := q318_P) (U := q318_U) (N := q318_N) ⟨wflT h flokX11, wcsT h csokX11, wlcT h lcokX11, spokX11 h, List.forall_mem_cons.mpr ⟨q317_met h, fun _ h => absurd h List.not_mem_nil⟩, fun _ h => absurd h List.not_mem_nil, List.forall_mem_cons.mpr ⟨fun M hM => Option.some.inj (show some q317_M = some M from hM) ▸ wlkV (lkX11_204 h) q317_M rfl rfl, fun _ h => absurd h List.not_mem_nil⟩, fun _ h => absurd h List.not_mem_nil, fun _ h => absurd h List.not_mem_nil⟩ dkX11_undo (by decide +kernel) (by rw [h.2.2.1]; exact q318_ok)
/-- NearSpell.Archive.takeBack -/
def q319_M : rfM := ((⟨"NearSpell$Archive", "takeBack", "(LNearSpell$State;)Z"⟩, prog_2_method_4_code, 2, (some .boolean)), (2,41), ([.inr (.inl [16]),.inr (.inl [13])],[((16,4),(0,1,1),none),((16,5),(39,39,0),none)]), [(12,0),(16,5),(16,6)], [(some (.inl ((0,0,0),none)),[],[((16,4),(0,0,1),some ((16,4),0,0)),((16,5),(39,39,0),some ((16,5),0,0))]),(some (.inl ((1,1,0),none)),[],[((16,4),(0,0,1),some ((16,4),(-1),(-1))),((16,5),(40,40,0),some ((16,5),1,1))])])
def q319_P : rfP := (flX0,csX0,lcX0,spX0,[q240_M],[],[(37,0,0)],([],[]))
def q319_U : rfU := []
set_option maxHeartbeats 8000000 in
def q319_N : List rfB := [(0,([(0,.inr (.inl [16])),(1,.inr (.inl [13]))],[],[((16,4),(0,1,1),some ((16,4),0,0)),((16,5),(39,39,0),some ((16,5),0,0))]),(21,[]),0)]
set_option maxRecDepth 100000 in
theorem q319_ok : rf_chkB q319_P q319_U wLay q319_M ddX0_takeBack [(31,[0])] [] [0] 600 q319_N = true := by decide +kernel
set_option maxHeartbeats 4000000 in
theorem q319_met {G : rfG} (h : okG G) : rf_met G q319_M := rf_methodB h.1 (P := q319_P) (U := q319_U) (N := q319_N) ⟨wflT h flokX0, wcsT h csokX0, wlcT h lcokX0, spokX0 h, List.forall_mem_cons.mpr ⟨q240_met h, fun _ h => absurd h List.not_mem_nil⟩, fun _ h => absurd h List.not_mem_nil, List.forall_mem_cons.mpr ⟨fun M hM => Option.some.inj (show some q240_M = some M from hM) ▸ wlkV (lkX0_37 h) q240_M rfl rfl, fun _ h => absurd h List.not_mem_nil⟩, fun _ h => absurd h List.not_mem_nil, fun _ h => absurd h List.not_mem_nil⟩ dkX0_takeBack (by decide +kernel) (by rw [h.2.2.1]; exact q319_ok)
/-- NearSpell.undo -/
def q320_M : rfM := ((⟨"NearSpell", "undo", "()Z"⟩, prog_1_method_12_code, 1, (some .boolean)), (3,62), ([.inr (.inl [70])],[((16,4),(0,1,1),none),((16,5),(39,39,0),none)]), [(12,0),(16,5),(16,6)], [(some (.inl ((1,1,0),none)),[],[((16,4),(0,0,1),some ((16,4),(-1),(-1))),((16,5),(40,40,0),some ((16,5),1,1))]),(some (.inl ((0,0,0),none)),[],[((16,4),(0,0,1),some ((16,4),0,0)),((16,5),(39,39,0),some ((16,5),0,0))])])
def q320_P : rfP := (flX11,csX11,lcX11,spX11,[q319_M],[],[(204,0,0)],([],[]))
def q320_U : rfU := []
set_option maxHeartbeats 8000000 in
def q320_N : List rfB := [(0,([(0,.inr (.inl [70]))],[],[((16,4),(0,1,1),some ((16,4),0,0)),((16,5),(39,39,0),some ((16,5),0,0))]),(6,[]),0)]
set_option maxRecDepth 100000 in
theorem q320_ok : rf_chkB q320_P q320_U wLay q320_M ddX11_undo [(8,[0])] [] [0] 600 q320_N = true := by decide +kernel
set_option maxHeartbeats 4000000 in
theorem q320_met {G : rfG} (h : okG G) : rf_met G q320_M := rf_methodB h.1 (P := q320_P) (U := q320_U) (N := q320_N) ⟨wflT h flokX11, wcsT h csokX11, wlcT h lcokX11, spokX11 h, List.forall_mem_cons.mpr ⟨q319_met h, fun _ h => absurd h List.not_mem_nil⟩, fun _ h => absurd h List.not_mem_nil, List.forall_mem_cons.mpr ⟨fun M hM => Option.some.inj (show some q319_M = some M from hM) ▸ wlkV (lkX11_204 h) q319_M rfl rfl, fun _ h => absurd h List.not_mem_nil⟩, fun _ h => absurd h List.not_mem_nil, fun _ h => absurd h List.not_mem_nil⟩ dkX11_undo (by decide +kernel) (by rw [h.2.2.1]; exact q320_ok)
/-- NearSpell.Archive.takeBack -/
def q321_M : rfM := ((⟨"NearSpell$Archive", "takeBack", "(LNearSpell$State;)Z"⟩, prog_2_method_4_code, 2, (some .boolean)), (0,0), ([.inr (.inl [16]),.inr (.inl [13])],[((16,4),(0,0,0),none),((16,5),(40,40,0),none)]), [], [(some (.inl ((0,0,0),none)),[],[])])
def q321_P : rfP := (flX0,csX0,lcX0,spX0,[],[],[],([],[]))
def q321_U : rfU := []
set_option maxHeartbeats 8000000 in
def q321_N : List rfB := [(0,([(0,.inr (.inl [16])),(1,.inr (.inl [13]))],[],[((16,4),(0,0,0),some ((16,4),0,0)),((16,5),(40,40,0),some ((16,5),0,0))]),(4,[]),0)]
set_option maxRecDepth 100000 in
theorem q321_ok : rf_chkB q321_P q321_U wLay q321_M ddX0_takeBack [] [] [0] 600 q321_N = true := by decide +kernel
set_option maxHeartbeats 4000000 in
theorem q321_met {G : rfG} (h : okG G) : rf_met G q321_M := rf_methodB h.1 (P := q321_P) (U := q321_U) (N := q321_N) ⟨wflT h flokX0, wcsT h csokX0, wlcT h lcokX0, spokX0 h, fun _ h => absurd h List.not_mem_nil, fun _ h => absurd h List.not_mem_nil, fun _ h => absurd h List.not_mem_nil, fun _ h => absurd h List.not_mem_nil, fun _ h => absurd h List.not_mem_nil⟩ dkX0_takeBack (by decide +kernel) (by rw [h.2.2.1]; exact q321_ok)
/-- NearSpell.undo -/
def q322_M : rfM := ((⟨"NearSpell", "undo", "()Z"⟩, prog_1_method_12_code, 1, (some .boolean)), (1,21), ([.inr (.inl [70])],[((16,4),(0,0,0),none),((16,5),(40,40,0),none)]), [], [(some (.inl ((0,0,0),none)),[],[])])
def q322_P : rfP := (flX11,csX11,lcX11,spX11,[q321_M],[],[(204,0,0)],([],[]))
def q322_U : rfU := []
set_option maxHeartbeats 8000000 in
def q322_N : List rfB := [(0,([(0,.inr (.inl [70]))],[],[((16,4),(0,0,0),some ((16,4),0,0)),((16,5),(40,40,0),some ((16,5),0,0))]),(5,[]),0)]
set_option maxRecDepth 100000 in
theorem q322_ok : rf_chkB q322_P q322_U wLay q322_M ddX11_undo [(8,[0])] [] [0] 600 q322_N = true := by decide +kernel
set_option maxHeartbeats 4000000 in
theorem q322_met {G : rfG} (h : okG G) : rf_met G q322_M := rf_methodB h.1 (P := q322_P) (U := q322_U) (N := q322_N) ⟨wflT h flokX11, wcsT h csokX11, wlcT h lcokX11, spokX11 h, List.forall_mem_cons.mpr ⟨q321_met h, fun _ h => absurd h List.not_mem_nil⟩, fun _ h => absurd h List.not_mem_nil, List.forall_mem_cons.mpr ⟨fun M hM => Option.some.inj (show some q321_M = some M from hM) ▸ wlkV (lkX11_204 h) q321_M rfl rfl, fun _ h => absurd h List.not_mem_nil⟩, fun _ h => absurd h List.not_mem_nil, fun _ h => absurd h List.not_mem_nil⟩ dkX11_undo (by decide +kernel) (by rw [h.2.2.1]; exact q322_ok)
/-- NearSpell.Archive.doAgain -/
def q323_M : rfM := ((⟨"NearSpell$Archive", "doAgain", "(LNearSpell$State;)Z"⟩, prog_2_method_5_code, 2, (some .boolean)), (0,0), ([.inr (.inl [16]),.inr (.inl [13])],[((16,5),(0,0,0),none)]), [], [(some (.inl ((0,0,0),none)),[],[])])
def ddX0_doAgain : List (Nat × Instr × Nat) := [(0,.aload_n 0,1),(1,.getfield 30,3),(4,.ifCond .ne 5,3),(7,.iconst 0,1),(8,.ireturn,1),(9,.aload_n 0,1),(10,.dup,1),(11,.getfield 27,3),(14,.iconst 1,1),(15,.iadd,1),(16,.putfield 27,3),(19,.aload_n 0,1),(20,.dup,1),(21,.getfield 30,3),(24,.iconst 1,1),(25,.isub,1),(26,.putfield 30,3),(29,.aload_n 0,1),(30,.aload_n 1,1),(31,.invokevirtual 37,3),(34,.iconst 1,1),(35,.ireturn,1)]
set_option maxRecDepth 100000 in
theorem dkX0_doAgain : rf_decs prog_2_method_5_code ddX0_doAgain := rf_decs_of (by decide +kernel)
def q323_P : rfP := (flX0,csX0,lcX0,spX0,[],[],[],([],[]))
def q323_U : rfU := []
set_option maxHeartbeats 8000000 in
def q323_N : List rfB := [(0,([(0,.inr (.inl [16])),(1,.inr (.inl [13]))],[],[((16,5),(0,0,0),some ((16,5),0,0))]),(4,[]),0)]
set_option maxRecDepth 100000 in
theorem q323_ok : rf_chkB q323_P q323_U wLay q323_M ddX0_doAgain [] [] [0] 600 q323_N = true := by decide +kernel
set_option maxHeartbeats 4000000 in
theorem q323_met {G : rfG} (h : okG G) : rf_met G q323_M := rf_methodB h.1 (P := q323_P) (U := q323_U) (N := q323_N) ⟨wflT h flokX0, wcsT h csokX0, wlcT h lcokX0, spokX0 h, fun _ h => absurd h List.not_mem_nil, fun _ h => absurd h List.not_mem_nil, fun _ h => absurd h List.not_mem_nil, fun _ h => absurd h List.not_mem_nil, fun _ h => absurd h List.not_mem_nil⟩ dkX0_doAgain (by decide +kernel) (by rw [h.2.2.1]; exact q323_ok)
/-- NearSpell.redo -/
def q324_M : rfM := ((⟨"NearSpell", "redo", "()Z"⟩, prog_1_method_13_code, 1, (some .boolean)), (1,21), ([.inr (.inl [70])],[((16,4),(0,40,1),none),((16,5),(0,0,0),none)]), [], [(some (.inl ((0,0,0),none)),[],[])])
def ddX11_redo : List (Nat × Instr × Nat) := [(0,.aload_n 0,1),(1,.getfield 42,3),(4,.aload_n 0,1),(5,.getfield 35,3),(8,.invokevirtual 208,3),(11,.ireturn,1)]
set_option maxRecDepth 100000 in
theorem dkX11_redo : rf_decs prog_1_method_13_code ddX11_redo := rf_decs_of (by decide +kernel)
def q324_P : rfP := (flX11,csX11,lcX11,spX11,[q323_M],[],[(208,0,0)],([],[]))
def q324_U : rfU := []
set_option maxHeartbeats 8000000 in
def q324_N : List rfB := [(0,([(0,.inr (.inl [70]))],[],[((16,4),(0,40,1),some ((16,4),0,0)),((16,5),(0,0,0),some ((16,5),0,0))]),(5,[]),0)]
set_option maxRecDepth 100000 in
theorem q324_ok : rf_chkB q324_P q324_U wLay q324_M ddX11_redo [(8,[0])] [] [0] 600 q324_N = true := by decide +kernel
set_option maxHeartbeats 4000000 in
theorem q324_met {G : rfG} (h : okG G) : rf_met G q324_M := rf_methodB h.1 (P := q324_P) (U := q324_U) (N := q324_N) ⟨wflT h flokX11, wcsT h csokX11, wlcT h lcokX11, spokX11 h, List.forall_mem_cons.mpr ⟨q323_met h, fun _ h => absurd h List.not_mem_nil⟩, fun _ h => absurd h List.not_mem_nil, List.forall_mem_cons.mpr ⟨fun M hM => Option.some.inj (show some q323_M = some M from hM) ▸ wlkV (lkX11_208 h) q323_M rfl rfl, fun _ h => absurd h List.not_mem_nil⟩, fun _ h => absurd h List.not_mem_nil, fun _ h => absurd h List.not_mem_nil⟩ dkX11_redo (by decide +kernel) (by rw [h.2.2.1]; exact q324_ok)
/-- NearSpell.Archive.doAgain -/
def q325_M : rfM := ((⟨"NearSpell$Archive", "doAgain", "(LNearSpell$State;)Z"⟩, prog_2_method_5_code, 2, (some .boolean)), (2,41), ([.inr (.inl [16]),.inr (.inl [13])],[((16,4),(0,39,1),none),((16,5),(1,1,0),none)]), [(12,0),(16,5),(16,6)], [(some (.inl ((1,1,0),none)),[],[((16,4),(1,40,1),some ((16,4),1,1)),((16,5),(0,0,0),some ((16,5),(-1),(-1)))])])
def q325_P : rfP := (flX0,csX0,lcX0,spX0,[q240_M],[],[(37,0,0)],([],[]))
def q325_U : rfU := []
set_option maxHeartbeats 8000000 in
def q325_N : List rfB := [(0,([(0,.inr (.inl [16])),(1,.inr (.inl [13]))],[],[((16,4),(0,39,1),some ((16,4),0,0)),((16,5),(1,1,0),some ((16,5),0,0))]),(19,[]),0)]
set_option maxRecDepth 100000 in
theorem q325_ok : rf_chkB q325_P q325_U wLay q325_M ddX0_doAgain [(31,[0])] [] [0] 600 q325_N = true := by decide +kernel
set_option maxHeartbeats 4000000 in
theorem q325_met {G : rfG} (h : okG G) : rf_met G q325_M := rf_methodB h.1 (P := q325_P) (U := q325_U) (N := q325_N) ⟨wflT h flokX0, wcsT h csokX0, wlcT h lcokX0, spokX0 h, List.forall_mem_cons.mpr ⟨q240_met h, fun _ h => absurd h List.not_mem_nil⟩, fun _ h => absurd h List.not_mem_nil, List.forall_mem_cons.mpr ⟨fun M hM => Option.some.inj (show some q240_M = some M from hM) ▸ wlkV (lkX0_37 h) q240_M rfl rfl, fun _ h => absurd h List.not_mem_nil⟩, fun _ h => absurd h List.not_mem_nil, fun _ h => absurd h List.not_mem_nil⟩ dkX0_doAgain (by decide +kernel) (by rw [h.2.2.1]; exact q325_ok)
/-- NearSpell.redo -/
def q326_M : rfM := ((⟨"NearSpell", "redo", "()Z"⟩, prog_1_method_13_code, 1, (some .boolean)), (3,62), ([.inr (.inl [70])],[((16,4),(0,39,1),none),((16,5),(1,1,0),none)]), [(12,0),(16,5),(16,6)], [(some (.inl ((1,1,0),none)),[],[((16,4),(1,40,1),some ((16,4),1,1)),((16,5),(0,0,0),some ((16,5),(-1),(-1)))])])
def q326_P : rfP := (flX11,csX11,lcX11,spX11,[q325_M],[],[(208,0,0)],([],[]))
def q326_U : rfU := []
set_option maxHeartbeats 8000000 in
def q326_N : List rfB := [(0,([(0,.inr (.inl [70]))],[],[((16,4),(0,39,1),some ((16,4),0,0)),((16,5),(1,1,0),some ((16,5),0,0))]),(5,[]),0)]
set_option maxRecDepth 100000 in
theorem q326_ok : rf_chkB q326_P q326_U wLay q326_M ddX11_redo [(8,[0])] [] [0] 600 q326_N = true := by decide +kernel
set_option maxHeartbeats 4000000 in
theorem q326_met {G : rfG} (h : okG G) : rf_met G q326_M := rf_methodB h.1 (P := q326_P) (U := q326_U) (N := q326_N) ⟨wflT h flokX11, wcsT h csokX11, wlcT h lcokX11, spokX11 h, List.forall_mem_cons.mpr ⟨q325_met h, fun _ h => absurd h List.not_mem_nil⟩, fun _ h => absurd h List.not_mem_nil, List.forall_mem_cons.mpr ⟨fun M hM => Option.some.inj (show some q325_M = some M from hM) ▸ wlkV (lkX11_208 h) q325_M rfl rfl, fun _ h => absurd h List.not_mem_nil⟩, fun _ h => absurd h List.not_mem_nil, fun _ h => absurd h List.not_mem_nil⟩ dkX11_redo (by decide +kernel) (by rw [h.2.2.1]; exact q326_ok)
/-- NearSpell.Archive.doAgain -/
def q327_M : rfM := ((⟨"NearSpell$Archive", "doAgain", "(LNearSpell$State;)Z"⟩, prog_2_method_5_code, 2, (some .boolean)), (2,41), ([.inr (.inl [16]),.inr (.inl [13])],[((16,4),(0,38,1),none),((16,5),(2,2,0),none)]), [(12,0),(16,5),(16,6)], [(some (.inl ((1,1,0),none)),[],[((16,4),(1,39,1),some ((16,4),1,1)),((16,5),(1,1,0),some ((16,5),(-1),(-1)))])])
def q327_P : rfP := (flX0,csX0,lcX0,spX0,[q240_M],[],[(37,0,0)],([],[]))
def q327_U : rfU := []
set_option maxHeartbeats 8000000 in
def q327_N : List rfB := [(0,([(0,.inr (.inl [16])),(1,.inr (.inl [13]))],[],[((16,4),(0,38,1),some ((16,4),0,0)),((16,5),(2,2,0),some ((16,5),0,0))]),(19,[]),0)]
set_option maxRecDepth 100000 in
theorem q327_ok : rf_chkB q327_P q327_U wLay q327_M ddX0_doAgain [(31,[0])] [] [0] 600 q327_N = true := by decide +kernel
set_option maxHeartbeats 4000000 in
theorem q327_met {G : rfG} (h : okG G) : rf_met G q327_M := rf_methodB h.1 (P := q327_P) (U := q327_U) (N := q327_N) ⟨wflT h flokX0, wcsT h csokX0, wlcT h lcokX0, spokX0 h, List.forall_mem_cons.mpr ⟨q240_met h, fun _ h => absurd h List.not_mem_nil⟩, fun _ h => absurd h List.not_mem_nil, List.forall_mem_cons.mpr ⟨fun M hM => Option.some.inj (show some q240_M = some M from hM) ▸ wlkV (lkX0_37 h) q240_M rfl rfl, fun _ h => absurd h List.not_mem_nil⟩, fun _ h => absurd h List.not_mem_nil, fun _ h => absurd h List.not_mem_nil⟩ dkX0_doAgain (by decide +kernel) (by rw [h.2.2.1]; exact q327_ok)
/-- NearSpell.redo -/
def q328_M : rfM := ((⟨"NearSpell", "redo", "()Z"⟩, prog_1_method_13_code, 1, (some .boolean)), (3,62), ([.inr (.inl [70])],[((16,4),(0,38,1),none),((16,5),(2,2,0),none)]), [(12,0),(16,5),(16,6)], [(some (.inl ((1,1,0),none)),[],[((16,4),(1,39,1),some ((16,4),1,1)),((16,5),(1,1,0),some ((16,5),(-1),(-1)))])])
def q328_P : rfP := (flX11,csX11,lcX11,spX11,[q327_M],[],[(208,0,0)],([],[]))
def q328_U : rfU := []
set_option maxHeartbeats 8000000 in
def q328_N : List rfB := [(0,([(0,.inr (.inl [70]))],[],[((16,4),(0,38,1),some ((16,4),0,0)),((16,5),(2,2,0),some ((16,5),0,0))]),(5,[]),0)]
set_option maxRecDepth 100000 in
theorem q328_ok : rf_chkB q328_P q328_U wLay q328_M ddX11_redo [(8,[0])] [] [0] 600 q328_N = true := by decide +kernel
set_option maxHeartbeats 4000000 in
theorem q328_met {G : rfG} (h : okG G) : rf_met G q328_M := rf_methodB h.1 (P := q328_P) (U := q328_U) (N := q328_N) ⟨wflT h flokX11, wcsT h csokX11, wlcT h lcokX11, spokX11 h, List.forall_mem_cons.mpr ⟨q327_met h, fun _ h => absurd h List.not_mem_nil⟩, fun _ h => absurd h List.not_mem_nil, List.forall_mem_cons.mpr ⟨fun M hM => Option.some.inj (show some q327_M = some M from hM) ▸ wlkV (lkX11_208 h) q327_M rfl rfl, fun _ h => absurd h List.not_mem_nil⟩, fun _ h => absurd h List.not_mem_nil, fun _ h => absurd h List.not_mem_nil⟩ dkX11_redo (by decide +kernel) (by rw [h.2.2.1]; exact q328_ok)
/-- NearSpell.Archive.doAgain -/
def q329_M : rfM := ((⟨"NearSpell$Archive", "doAgain", "(LNearSpell$State;)Z"⟩, prog_2_method_5_code, 2, (some .boolean)), (2,41), ([.inr (.inl [16]),.inr (.inl [13])],[((16,4),(0,37,1),none),((16,5),(3,3,0),none)]), [(12,0),(16,5),(16,6)], [(some (.inl ((1,1,0),none)),[],[((16,4),(1,38,1),some ((16,4),1,1)),((16,5),(2,2,0),some ((16,5),(-1),(-1)))])])
def q329_P : rfP := (flX0,csX0,lcX0,spX0,[q240_M],[],[(37,0,0)],([],[]))
def q329_U : rfU := []
set_option maxHeartbeats 8000000 in
def q329_N : List rfB := [(0,([(0,.inr (.inl [16])),(1,.inr (.inl [13]))],[],[((16,4),(0,37,1),some ((16,4),0,0)),((16,5),(3,3,0),some ((16,5),0,0))]),(19,[]),0)]
set_option maxRecDepth 100000 in
theorem q329_ok : rf_chkB q329_P q329_U wLay q329_M ddX0_doAgain [(31,[0])] [] [0] 600 q329_N = true := by decide +kernel
set_option maxHeartbeats 4000000 in
theorem q329_met {G : rfG} (h : okG G) : rf_met G q329_M := rf_methodB h.1 (P := q329_P) (U := q329_U) (N := q329_N) ⟨wflT h flokX0, wcsT h csokX0, wlcT h lcokX0, spokX0 h, List.forall_mem_cons.mpr ⟨q240_met h, fun _ h => absurd h List.not_mem_nil⟩, fun _ h => absurd h List.not_mem_nil, List.forall_mem_cons.mpr ⟨fun M hM => Option.some.inj (show some q240_M = some M from hM) ▸ wlkV (lkX0_37 h) q240_M rfl rfl, fun _ h => absurd h List.not_mem_nil⟩, fun _ h => absurd h List.not_mem_nil, fun _ h => absurd h List.not_mem_nil⟩ dkX0_doAgain (by decide +kernel) (by rw [h.2.2.1]; exact q329_ok)
/-- NearSpell.redo -/
def q330_M : rfM := ((⟨"NearSpell", "redo", "()Z"⟩, prog_1_method_13_code, 1, (some .boolean)), (3,62), ([.inr (.inl [70])],[((16,4),(0,37,1),none),((16,5),(3,3,0),none)]), [(12,0),(16,5),(16,6)], [(some (.inl ((1,1,0),none)),[],[((16,4),(1,38,1),some ((16,4),1,1)),((16,5),(2,2,0),some ((16,5),(-1),(-1)))])])
def q330_P : rfP := (flX11,csX11,lcX11,spX11,[q329_M],[],[(208,0,0)],([],[]))
def q330_U : rfU := []
set_option maxHeartbeats 8000000 in
def q330_N : List rfB := [(0,([(0,.inr (.inl [70]))],[],[((16,4),(0,37,1),some ((16,4),0,0)),((16,5),(3,3,0),some ((16,5),0,0))]),(5,[]),0)]
set_option maxRecDepth 100000 in
theorem q330_ok : rf_chkB q330_P q330_U wLay q330_M ddX11_redo [(8,[0])] [] [0] 600 q330_N = true := by decide +kernel
set_option maxHeartbeats 4000000 in
theorem q330_met {G : rfG} (h : okG G) : rf_met G q330_M := rf_methodB h.1 (P := q330_P) (U := q330_U) (N := q330_N) ⟨wflT h flokX11, wcsT h csokX11, wlcT h lcokX11, spokX11 h, List.forall_mem_cons.mpr ⟨q329_met h, fun _ h => absurd h List.not_mem_nil⟩, fun _ h => absurd h List.not_mem_nil, List.forall_mem_cons.mpr ⟨fun M hM => Option.some.inj (show some q329_M = some M from hM) ▸ wlkV (lkX11_208 h) q329_M rfl rfl, fun _ h => absurd h List.not_mem_nil⟩, fun _ h => absurd h List.not_mem_nil, fun _ h => absurd h List.not_mem_nil⟩ dkX11_redo (by decide +kernel) (by rw [h.2.2.1]; exact q330_ok)
/-- NearSpell.Archive.doAgain -/
def q331_M : rfM := ((⟨"NearSpell$Archive", "doAgain", "(LNearSpell$State;)Z"⟩, prog_2_method_5_code, 2, (some .boolean)), (2,41), ([.inr (.inl [16]),.inr (.inl [13])],[((16,4),(0,36,1),none),((16,5),(4,4,0),none)]), [(12,0),(16,5),(16,6)], [(some (.inl ((1,1,0),none)),[],[((16,4),(1,37,1),some ((16,4),1,1)),((16,5),(3,3,0),some ((16,5),(-1),(-1)))])])
def q331_P : rfP := (flX0,csX0,lcX0,spX0,[q240_M],[],[(37,0,0)],([],[]))
def q331_U : rfU := []
set_option maxHeartbeats 8000000 in
def q331_N : List rfB := [(0,([(0,.inr (.inl [16])),(1,.inr (.inl [13]))],[],[((16,4),(0,36,1),some ((16,4),0,0)),((16,5),(4,4,0),some ((16,5),0,0))]),(19,[]),0)]
set_option maxRecDepth 100000 in
theorem q331_ok : rf_chkB q331_P q331_U wLay q331_M ddX0_doAgain [(31,[0])] [] [0] 600 q331_N = true := by decide +kernel
set_option maxHeartbeats 4000000 in
theorem q331_met {G : rfG} (h : okG G) : rf_met G q331_M := rf_methodB h.1 (P := q331_P) (U := q331_U) (N := q331_N) ⟨wflT h flokX0, wcsT h csokX0, wlcT h lcokX0, spokX0 h, List.forall_mem_cons.mpr ⟨q240_met h, fun _ h => absurd h List.not_mem_nil⟩, fun _ h => absurd h List.not_mem_nil, List.forall_mem_cons.mpr ⟨fun M hM => Option.some.inj (show some q240_M = some M from hM) ▸ wlkV (lkX0_37 h) q240_M rfl rfl, fun _ h => absurd h List.not_mem_nil⟩, fun _ h => absurd h List.not_mem_nil, fun _ h => absurd h List.not_mem_nil⟩ dkX0_doAgain (by decide +kernel) (by rw [h.2.2.1]; exact q331_ok)
/-- NearSpell.redo -/
def q332_M : rfM := ((⟨"NearSpell", "redo", "()Z"⟩, prog_1_method_13_code, 1, (some .boolean)), (3,62), ([.inr (.inl [70])],[((16,4),(0,36,1),none),((16,5),(4,4,0),none)]), [(12,0),(16,5),(16,6)], [(some (.inl ((1,1,0),none)),[],[((16,4),(1,37,1),some ((16,4),1,1)),((16,5),(3,3,0),some ((16,5),(-1),(-1)))])])
def q332_P : rfP := (flX11,csX11,lcX11,spX11,[q331_M],[],[(208,0,0)],([],[]))
def q332_U : rfU := []
set_option maxHeartbeats 8000000 in
def q332_N : List rfB := [(0,([(0,.inr (.inl [70]))],[],[((16,4),(0,36,1),some ((16,4),0,0)),((16,5),(4,4,0),some ((16,5),0,0))]),(5,[]),0)]
set_option maxRecDepth 100000 in
theorem q332_ok : rf_chkB q332_P q332_U wLay q332_M ddX11_redo [(8,[0])] [] [0] 600 q332_N = true := by decide +kernel
set_option maxHeartbeats 4000000 in
theorem q332_met {G : rfG} (h : okG G) : rf_met G q332_M := rf_methodB h.1 (P := q332_P) (U := q332_U) (N := q332_N) ⟨wflT h flokX11, wcsT h csokX11, wlcT h lcokX11, spokX11 h, List.forall_mem_cons.mpr ⟨q331_met h, fun _ h => absurd h List.not_mem_nil⟩, fun _ h => absurd h List.not_mem_nil, List.forall_mem_cons.mpr ⟨fun M hM => Option.some.inj (show some q331_M = some M from hM) ▸ wlkV (lkX11_208 h) q331_M rfl rfl, fun _ h => absurd h List.not_mem_nil⟩, fun _ h => absurd h List.not_mem_nil, fun _ h => absurd h List.not_mem_nil⟩ dkX11_redo (by decide +kernel) (by rw [h.2.2.1]; exact q332_ok)
/-- NearSpell.Archive.doAgain -/
def q333_M : rfM := ((⟨"NearSpell$Archive", "doAgain", "(LNearSpell$State;)Z"⟩, prog_2_method_5_code, 2, (some .boolean)), (2,41), ([.inr (.inl [16]),.inr (.inl [13])],[((16,4),(0,35,1),none),((16,5),(5,5,0),none)]), [(12,0),(16,5),(16,6)], [(some (.inl ((1,1,0),none)),[],[((16,4),(1,36,1),some ((16,4),1,1)),((16,5),(4,4,0),some ((16,5),(-1),(-1)))])])
def q333_P : rfP := (flX0,csX0,lcX0,spX0,[q240_M],[],[(37,0,0)],([],[]))
def q333_U : rfU := []
set_option maxHeartbeats 8000000 in
def q333_N : List rfB := [(0,([(0,.inr (.inl [16])),(1,.inr (.inl [13]))],[],[((16,4),(0,35,1),some ((16,4),0,0)),((16,5),(5,5,0),some ((16,5),0,0))]),(19,[]),0)]
set_option maxRecDepth 100000 in
theorem q333_ok : rf_chkB q333_P q333_U wLay q333_M ddX0_doAgain [(31,[0])] [] [0] 600 q333_N = true := by decide +kernel
set_option maxHeartbeats 4000000 in
theorem q333_met {G : rfG} (h : okG G) : rf_met G q333_M := rf_methodB h.1 (P := q333_P) (U := q333_U) (N := q333_N) ⟨wflT h flokX0, wcsT h csokX0, wlcT h lcokX0, spokX0 h, List.forall_mem_cons.mpr ⟨q240_met h, fun _ h => absurd h List.not_mem_nil⟩, fun _ h => absurd h List.not_mem_nil, List.forall_mem_cons.mpr ⟨fun M hM => Option.some.inj (show some q240_M = some M from hM) ▸ wlkV (lkX0_37 h) q240_M rfl rfl, fun _ h => absurd h List.not_mem_nil⟩, fun _ h => absurd h List.not_mem_nil, fun _ h => absurd h List.not_mem_nil⟩ dkX0_doAgain (by decide +kernel) (by rw [h.2.2.1]; exact q333_ok)
/-- NearSpell.redo -/
def q334_M : rfM := ((⟨"NearSpell", "redo", "()Z"⟩, prog_1_method_13_code, 1, (some .boolean)), (3,62), ([.inr (.inl [70])],[((16,4),(0,35,1),none),((16,5),(5,5,0),none)]), [(12,0),(16,5),(16,6)], [(some (.inl ((1,1,0),none)),[],[((16,4),(1,36,1),some ((16,4),1,1)),((16,5),(4,4,0),some ((16,5),(-1),(-1)))])])
def q334_P : rfP := (flX11,csX11,lcX11,spX11,[q333_M],[],[(208,0,0)],([],[]))
def q334_U : rfU := []
set_option maxHeartbeats 8000000 in
def q334_N : List rfB := [(0,([(0,.inr (.inl [70]))],[],[((16,4),(0,35,1),some ((16,4),0,0)),((16,5),(5,5,0),some ((16,5),0,0))]),(5,[]),0)]
set_option maxRecDepth 100000 in
theorem q334_ok : rf_chkB q334_P q334_U wLay q334_M ddX11_redo [(8,[0])] [] [0] 600 q334_N = true := by decide +kernel
set_option maxHeartbeats 4000000 in
theorem q334_met {G : rfG} (h : okG G) : rf_met G q334_M := rf_methodB h.1 (P := q334_P) (U := q334_U) (N := q334_N) ⟨wflT h flokX11, wcsT h csokX11, wlcT h lcokX11, spokX11 h, List.forall_mem_cons.mpr ⟨q333_met h, fun _ h => absurd h List.not_mem_nil⟩, fun _ h => absurd h List.not_mem_nil, List.forall_mem_cons.mpr ⟨fun M hM => Option.some.inj (show some q333_M = some M from hM) ▸ wlkV (lkX11_208 h) q333_M rfl rfl, fun _ h => absurd h List.not_mem_nil⟩, fun _ h => absurd h List.not_mem_nil, fun _ h => absurd h List.not_mem_nil⟩ dkX11_redo (by decide +kernel) (by rw [h.2.2.1]; exact q334_ok)
/-- NearSpell.Archive.doAgain -/
def q335_M : rfM := ((⟨"NearSpell$Archive", "doAgain", "(LNearSpell$State;)Z"⟩, prog_2_method_5_code, 2, (some .boolean)), (2,41), ([.inr (.inl [16]),.inr (.inl [13])],[((16,4),(0,34,1),none),((16,5),(6,6,0),none)]), [(12,0),(16,5),(16,6)], [(some (.inl ((1,1,0),none)),[],[((16,4),(1,35,1),some ((16,4),1,1)),((16,5),(5,5,0),some ((16,5),(-1),(-1)))])])
def q335_P : rfP := (flX0,csX0,lcX0,spX0,[q240_M],[],[(37,0,0)],([],[]))
def q335_U : rfU := []
set_option maxHeartbeats 8000000 in
def q335_N : List rfB := [(0,([(0,.inr (.inl [16])),(1,.inr (.inl [13]))],[],[((16,4),(0,34,1),some ((16,4),0,0)),((16,5),(6,6,0),some ((16,5),0,0))]),(19,[]),0)]
set_option maxRecDepth 100000 in
theorem q335_ok : rf_chkB q335_P q335_U wLay q335_M ddX0_doAgain [(31,[0])] [] [0] 600 q335_N = true := by decide +kernel
set_option maxHeartbeats 4000000 in
theorem q335_met {G : rfG} (h : okG G) : rf_met G q335_M := rf_methodB h.1 (P := q335_P) (U := q335_U) (N := q335_N) ⟨wflT h flokX0, wcsT h csokX0, wlcT h lcokX0, spokX0 h, List.forall_mem_cons.mpr ⟨q240_met h, fun _ h => absurd h List.not_mem_nil⟩, fun _ h => absurd h List.not_mem_nil, List.forall_mem_cons.mpr ⟨fun M hM => Option.some.inj (show some q240_M = some M from hM) ▸ wlkV (lkX0_37 h) q240_M rfl rfl, fun _ h => absurd h List.not_mem_nil⟩, fun _ h => absurd h List.not_mem_nil, fun _ h => absurd h List.not_mem_nil⟩ dkX0_doAgain (by decide +kernel) (by rw [h.2.2.1]; exact q335_ok)
/-- NearSpell.redo -/
def q336_M : rfM := ((⟨"NearSpell", "redo", "()Z"⟩, prog_1_method_13_code, 1, (some .boolean)), (3,62), ([.inr (.inl [70])],[((16,4),(0,34,1),none),((16,5),(6,6,0),none)]), [(12,0),(16,5),(16,6)], [(some (.inl ((1,1,0),none)),[],[((16,4),(1,35,1),some ((16,4),1,1)),((16,5),(5,5,0),some ((16,5),(-1),(-1)))])])
def q336_P : rfP := (flX11,csX11,lcX11,spX11,[q335_M],[],[(208,0,0)],([],[]))
def q336_U : rfU := []
set_option maxHeartbeats 8000000 in
def q336_N : List rfB := [(0,([(0,.inr (.inl [70]))],[],[((16,4),(0,34,1),some ((16,4),0,0)),((16,5),(6,6,0),some ((16,5),0,0))]),(5,[]),0)]
set_option maxRecDepth 100000 in
theorem q336_ok : rf_chkB q336_P q336_U wLay q336_M ddX11_redo [(8,[0])] [] [0] 600 q336_N = true := by decide +kernel
set_option maxHeartbeats 4000000 in
theorem q336_met {G : rfG} (h : okG G) : rf_met G q336_M := rf_methodB h.1 (P := q336_P) (U := q336_U) (N := q336_N) ⟨wflT h flokX11, wcsT h csokX11, wlcT h lcokX11, spokX11 h, List.forall_mem_cons.mpr ⟨q335_met h, fun _ h => absurd h List.not_mem_nil⟩, fun _ h => absurd h List.not_mem_nil, List.forall_mem_cons.mpr ⟨fun M hM => Option.some.inj (show some q335_M = some M from hM) ▸ wlkV (lkX11_208 h) q335_M rfl rfl, fun _ h => absurd h List.not_mem_nil⟩, fun _ h => absurd h List.not_mem_nil, fun _ h => absurd h List.not_mem_nil⟩ dkX11_redo (by decide +kernel) (by rw [h.2.2.1]; exact q336_ok)
/-- NearSpell.Archive.doAgain -/
def q337_M : rfM := ((⟨"NearSpell$Archive", "doAgain", "(LNearSpell$State;)Z"⟩, prog_2_method_5_code, 2, (some .boolean)), (2,41), ([.inr (.inl [16]),.inr (.inl [13])],[((16,4),(0,33,1),none),((16,5),(7,7,0),none)]), [(12,0),(16,5),(16,6)], [(some (.inl ((1,1,0),none)),[],[((16,4),(1,34,1),some ((16,4),1,1)),((16,5),(6,6,0),some ((16,5),(-1),(-1)))])])
def q337_P : rfP := (flX0,csX0,lcX0,spX0,[q240_M],[],[(37,0,0)],([],[]))
def q337_U : rfU := []
set_option maxHeartbeats 8000000 in
def q337_N : List rfB := [(0,([(0,.inr (.inl [16])),(1,.inr (.inl [13]))],[],[((16,4),(0,33,1),some ((16,4),0,0)),((16,5),(7,7,0),some ((16,5),0,0))]),(19,[]),0)]
set_option maxRecDepth 100000 in
theorem q337_ok : rf_chkB q337_P q337_U wLay q337_M ddX0_doAgain [(31,[0])] [] [0] 600 q337_N = true := by decide +kernel
set_option maxHeartbeats 4000000 in
theorem q337_met {G : rfG} (h : okG G) : rf_met G q337_M := rf_methodB h.1 (P := q337_P) (U := q337_U) (N := q337_N) ⟨wflT h flokX0, wcsT h csokX0, wlcT h lcokX0, spokX0 h, List.forall_mem_cons.mpr ⟨q240_met h, fun _ h => absurd h List.not_mem_nil⟩, fun _ h => absurd h List.not_mem_nil, List.forall_mem_cons.mpr ⟨fun M hM => Option.some.inj (show some q240_M = some M from hM) ▸ wlkV (lkX0_37 h) q240_M rfl rfl, fun _ h => absurd h List.not_mem_nil⟩, fun _ h => absurd h List.not_mem_nil, fun _ h => absurd h List.not_mem_nil⟩ dkX0_doAgain (by decide +kernel) (by rw [h.2.2.1]; exact q337_ok)
/-- NearSpell.redo -/
def q338_M : rfM := ((⟨"NearSpell", "redo", "()Z"⟩, prog_1_method_13_code, 1, (some .boolean)), (3,62), ([.inr (.inl [70])],[((16,4),(0,33,1),none),((16,5),(7,7,0),none)]), [(12,0),(16,5),(16,6)], [(some (.inl ((1,1,0),none)),[],[((16,4),(1,34,1),some ((16,4),1,1)),((16,5),(6,6,0),some ((16,5),(-1),(-1)))])])
def q338_P : rfP := (flX11,csX11,lcX11,spX11,[q337_M],[],[(208,0,0)],([],[]))
def q338_U : rfU := []
set_option maxHeartbeats 8000000 in
def q338_N : List rfB := [(0,([(0,.inr (.inl [70]))],[],[((16,4),(0,33,1),some ((16,4),0,0)),((16,5),(7,7,0),some ((16,5),0,0))]),(5,[]),0)]
set_option maxRecDepth 100000 in
theorem q338_ok : rf_chkB q338_P q338_U wLay q338_M ddX11_redo [(8,[0])] [] [0] 600 q338_N = true := by decide +kernel
set_option maxHeartbeats 4000000 in
theorem q338_met {G : rfG} (h : okG G) : rf_met G q338_M := rf_methodB h.1 (P := q338_P) (U := q338_U) (N := q338_N) ⟨wflT h flokX11, wcsT h csokX11, wlcT h lcokX11, spokX11 h, List.forall_mem_cons.mpr ⟨q337_met h, fun _ h => absurd h List.not_mem_nil⟩, fun _ h => absurd h List.not_mem_nil, List.forall_mem_cons.mpr ⟨fun M hM => Option.some.inj (show some q337_M = some M from hM) ▸ wlkV (lkX11_208 h) q337_M rfl rfl, fun _ h => absurd h List.not_mem_nil⟩, fun _ h => absurd h List.not_mem_nil, fun _ h => absurd h List.not_mem_nil⟩ dkX11_redo (by decide +kernel) (by rw [h.2.2.1]; exact q338_ok)
/-- NearSpell.Archive.doAgain -/
def q339_M : rfM := ((⟨"NearSpell$Archive", "doAgain", "(LNearSpell$State;)Z"⟩, prog_2_method_5_code, 2, (some .boolean)), (2,41), ([.inr (.inl [16]),.inr (.inl [13])],[((16,4),(0,32,1),none),((16,5),(8,8,0),none)]), [(12,0),(16,5),(16,6)], [(some (.inl ((1,1,0),none)),[],[((16,4),(1,33,1),some ((16,4),1,1)),((16,5),(7,7,0),some ((16,5),(-1),(-1)))])])
def q339_P : rfP := (flX0,csX0,lcX0,spX0,[q240_M],[],[(37,0,0)],([],[]))
def q339_U : rfU := []
set_option maxHeartbeats 8000000 in
def q339_N : List rfB := [(0,([(0,.inr (.inl [16])),(1,.inr (.inl [13]))],[],[((16,4),(0,32,1),some ((16,4),0,0)),((16,5),(8,8,0),some ((16,5),0,0))]),(19,[]),0)]
set_option maxRecDepth 100000 in
theorem q339_ok : rf_chkB q339_P q339_U wLay q339_M ddX0_doAgain [(31,[0])] [] [0] 600 q339_N = true := by decide +kernel
set_option maxHeartbeats 4000000 in
theorem q339_met {G : rfG} (h : okG G) : rf_met G q339_M := rf_methodB h.1 (P := q339_P) (U := q339_U) (N := q339_N) ⟨wflT h flokX0, wcsT h csokX0, wlcT h lcokX0, spokX0 h, List.forall_mem_cons.mpr ⟨q240_met h, fun _ h => absurd h List.not_mem_nil⟩, fun _ h => absurd h List.not_mem_nil, List.forall_mem_cons.mpr ⟨fun M hM => Option.some.inj (show some q240_M = some M from hM) ▸ wlkV (lkX0_37 h) q240_M rfl rfl, fun _ h => absurd h List.not_mem_nil⟩, fun _ h => absurd h List.not_mem_nil, fun _ h => absurd h List.not_mem_nil⟩ dkX0_doAgain (by decide +kernel) (by rw [h.2.2.1]; exact q339_ok)
/-- NearSpell.redo -/
def q340_M : rfM := ((⟨"NearSpell", "redo", "()Z"⟩, prog_1_method_13_code, 1, (some .boolean)), (3,62), ([.inr (.inl [70])],[((16,4),(0,32,1),none),((16,5),(8,8,0),none)]), [(12,0),(16,5),(16,6)], [(some (.inl ((1,1,0),none)),[],[((16,4),(1,33,1),some ((16,4),1,1)),((16,5),(7,7,0),some ((16,5),(-1),(-1)))])])
def q340_P : rfP := (flX11,csX11,lcX11,spX11,[q339_M],[],[(208,0,0)],([],[]))
def q340_U : rfU := []
set_option maxHeartbeats 8000000 in
def q340_N : List rfB := [(0,([(0,.inr (.inl [70]))],[],[((16,4),(0,32,1),some ((16,4),0,0)),((16,5),(8,8,0),some ((16,5),0,0))]),(5,[]),0)]
set_option maxRecDepth 100000 in
theorem q340_ok : rf_chkB q340_P q340_U wLay q340_M ddX11_redo [(8,[0])] [] [0] 600 q340_N = true := by decide +kernel
set_option maxHeartbeats 4000000 in
theorem q340_met {G : rfG} (h : okG G) : rf_met G q340_M := rf_methodB h.1 (P := q340_P) (U := q340_U) (N := q340_N) ⟨wflT h flokX11, wcsT h csokX11, wlcT h lcokX11, spokX11 h, List.forall_mem_cons.mpr ⟨q339_met h, fun _ h => absurd h List.not_mem_nil⟩, fun _ h => absurd h List.not_mem_nil, List.forall_mem_cons.mpr ⟨fun M hM => Option.some.inj (show some q339_M = some M from hM) ▸ wlkV (lkX11_208 h) q339_M rfl rfl, fun _ h => absurd h List.not_mem_nil⟩, fun _ h => absurd h List.not_mem_nil, fun _ h => absurd h List.not_mem_nil⟩ dkX11_redo (by decide +kernel) (by rw [h.2.2.1]; exact q340_ok)
/-- NearSpell.Archive.doAgain -/
def q341_M : rfM := ((⟨"NearSpell$Archive", "doAgain", "(LNearSpell$State;)Z"⟩, prog_2_method_5_code, 2, (some .boolean)), (2,41), ([.inr (.inl [16]),.inr (.inl [13])],[((16,4),(0,31,1),none),((16,5),(9,9,0),none)]), [(12,0),(16,5),(16,6)], [(some (.inl ((1,1,0),none)),[],[((16,4),(1,32,1),some ((16,4),1,1)),((16,5),(8,8,0),some ((16,5),(-1),(-1)))])])
def q341_P : rfP := (flX0,csX0,lcX0,spX0,[q240_M],[],[(37,0,0)],([],[]))
def q341_U : rfU := []
set_option maxHeartbeats 8000000 in
def q341_N : List rfB := [(0,([(0,.inr (.inl [16])),(1,.inr (.inl [13]))],[],[((16,4),(0,31,1),some ((16,4),0,0)),((16,5),(9,9,0),some ((16,5),0,0))]),(19,[]),0)]
set_option maxRecDepth 100000 in
theorem q341_ok : rf_chkB q341_P q341_U wLay q341_M ddX0_doAgain [(31,[0])] [] [0] 600 q341_N = true := by decide +kernel
set_option maxHeartbeats 4000000 in
theorem q341_met {G : rfG} (h : okG G) : rf_met G q341_M := rf_methodB h.1 (P := q341_P) (U := q341_U) (N := q341_N) ⟨wflT h flokX0, wcsT h csokX0, wlcT h lcokX0, spokX0 h, List.forall_mem_cons.mpr ⟨q240_met h, fun _ h => absurd h List.not_mem_nil⟩, fun _ h => absurd h List.not_mem_nil, List.forall_mem_cons.mpr ⟨fun M hM => Option.some.inj (show some q240_M = some M from hM) ▸ wlkV (lkX0_37 h) q240_M rfl rfl, fun _ h => absurd h List.not_mem_nil⟩, fun _ h => absurd h List.not_mem_nil, fun _ h => absurd h List.not_mem_nil⟩ dkX0_doAgain (by decide +kernel) (by rw [h.2.2.1]; exact q341_ok)
/-- NearSpell.redo -/
def q342_M : rfM := ((⟨"NearSpell", "redo", "()Z"⟩, prog_1_method_13_code, 1, (some .boolean)), (3,62), ([.inr (.inl [70])],[((16,4),(0,31,1),none),((16,5),(9,9,0),none)]), [(12,0),(16,5),(16,6)], [(some (.inl ((1,1,0),none)),[],[((16,4),(1,32,1),some ((16,4),1,1)),((16,5),(8,8,0),some ((16,5),(-1),(-1)))])])
def q342_P : rfP := (flX11,csX11,lcX11,spX11,[q341_M],[],[(208,0,0)],([],[]))
def q342_U : rfU := []
set_option maxHeartbeats 8000000 in
def q342_N : List rfB := [(0,([(0,.inr (.inl [70]))],[],[((16,4),(0,31,1),some ((16,4),0,0)),((16,5),(9,9,0),some ((16,5),0,0))]),(5,[]),0)]
set_option maxRecDepth 100000 in
theorem q342_ok : rf_chkB q342_P q342_U wLay q342_M ddX11_redo [(8,[0])] [] [0] 600 q342_N = true := by decide +kernel
set_option maxHeartbeats 4000000 in
theorem q342_met {G : rfG} (h : okG G) : rf_met G q342_M := rf_methodB h.1 (P := q342_P) (U := q342_U) (N := q342_N) ⟨wflT h flokX11, wcsT h csokX11, wlcT h lcokX11, spokX11 h, List.forall_mem_cons.mpr ⟨q341_met h, fun _ h => absurd h List.not_mem_nil⟩, fun _ h => absurd h List.not_mem_nil, List.forall_mem_cons.mpr ⟨fun M hM => Option.some.inj (show some q341_M = some M from hM) ▸ wlkV (lkX11_208 h) q341_M rfl rfl, fun _ h => absurd h List.not_mem_nil⟩, fun _ h => absurd h List.not_mem_nil, fun _ h => absurd h List.not_mem_nil⟩ dkX11_redo (by decide +kernel) (by rw [h.2.2.1]; exact q342_ok)
/-- NearSpell.Archive.doAgain -/
def q343_M : rfM := ((⟨"NearSpell$Archive", "doAgain", "(LNearSpell$State;)Z"⟩, prog_2_method_5_code, 2, (some .boolean)), (2,41), ([.inr (.inl [16]),.inr (.inl [13])],[((16,4),(0,30,1),none),((16,5),(10,10,0),none)]), [(12,0),(16,5),(16,6)], [(some (.inl ((1,1,0),none)),[],[((16,4),(1,31,1),some ((16,4),1,1)),((16,5),(9,9,0),some ((16,5),(-1),(-1)))])])
def q343_P : rfP := (flX0,csX0,lcX0,spX0,[q240_M],[],[(37,0,0)],([],[]))
def q343_U : rfU := []
set_option maxHeartbeats 8000000 in
def q343_N : List rfB := [(0,([(0,.inr (.inl [16])),(1,.inr (.inl [13]))],[],[((16,4),(0,30,1),some ((16,4),0,0)),((16,5),(10,10,0),some ((16,5),0,0))]),(19,[]),0)]
set_option maxRecDepth 100000 in
theorem q343_ok : rf_chkB q343_P q343_U wLay q343_M ddX0_doAgain [(31,[0])] [] [0] 600 q343_N = true := by decide +kernel
set_option maxHeartbeats 4000000 in
theorem q343_met {G : rfG} (h : okG G) : rf_met G q343_M := rf_methodB h.1 (P := q343_P) (U := q343_U) (N := q343_N) ⟨wflT h flokX0, wcsT h csokX0, wlcT h lcokX0, spokX0 h, List.forall_mem_cons.mpr ⟨q240_met h, fun _ h => absurd h List.not_mem_nil⟩, fun _ h => absurd h List.not_mem_nil, List.forall_mem_cons.mpr ⟨fun M hM => Option.some.inj (show some q240_M = some M from hM) ▸ wlkV (lkX0_37 h) q240_M rfl rfl, fun _ h => absurd h List.not_mem_nil⟩, fun _ h => absurd h List.not_mem_nil, fun _ h => absurd h List.not_mem_nil⟩ dkX0_doAgain (by decide +kernel) (by rw [h.2.2.1]; exact q343_ok)
/-- NearSpell.redo -/
def q344_M : rfM := ((⟨"NearSpell", "redo", "()Z"⟩, prog_1_method_13_code, 1, (some .boolean)), (3,62), ([.inr (.inl [70])],[((16,4),(0,30,1),none),((16,5),(10,10,0),none)]), [(12,0),(16,5),(16,6)], [(some (.inl ((1,1,0),none)),[],[((16,4),(1,31,1),some ((16,4),1,1)),((16,5),(9,9,0),some ((16,5),(-1),(-1)))])])
def q344_P : rfP := (flX11,csX11,lcX11,spX11,[q343_M],[],[(208,0,0)],([],[]))
def q344_U : rfU := []
set_option maxHeartbeats 8000000 in
def q344_N : List rfB := [(0,([(0,.inr (.inl [70]))],[],[((16,4),(0,30,1),some ((16,4),0,0)),((16,5),(10,10,0),some ((16,5),0,0))]),(5,[]),0)]
set_option maxRecDepth 100000 in
theorem q344_ok : rf_chkB q344_P q344_U wLay q344_M ddX11_redo [(8,[0])] [] [0] 600 q344_N = true := by decide +kernel
set_option maxHeartbeats 4000000 in
theorem q344_met {G : rfG} (h : okG G) : rf_met G q344_M := rf_methodB h.1 (P := q344_P) (U := q344_U) (N := q344_N) ⟨wflT h flokX11, wcsT h csokX11, wlcT h lcokX11, spokX11 h, List.forall_mem_cons.mpr ⟨q343_met h, fun _ h => absurd h List.not_mem_nil⟩, fun _ h => absurd h List.not_mem_nil, List.forall_mem_cons.mpr ⟨fun M hM => Option.some.inj (show some q343_M = some M from hM) ▸ wlkV (lkX11_208 h) q343_M rfl rfl, fun _ h => absurd h List.not_mem_nil⟩, fun _ h => absurd h List.not_mem_nil, fun _ h => absurd h List.not_mem_nil⟩ dkX11_redo (by decide +kernel) (by rw [h.2.2.1]; exact q344_ok)
/-- NearSpell.Archive.doAgain -/
def q345_M : rfM := ((⟨"NearSpell$Archive", "doAgain", "(LNearSpell$State;)Z"⟩, prog_2_method_5_code, 2, (some .boolean)), (2,41), ([.inr (.inl [16]),.inr (.inl [13])],[((16,4),(0,29,1),none),((16,5),(11,11,0),none)]), [(12,0),(16,5),(16,6)], [(some (.inl ((1,1,0),none)),[],[((16,4),(1,30,1),some ((16,4),1,1)),((16,5),(10,10,0),some ((16,5),(-1),(-1)))])])
def q345_P : rfP := (flX0,csX0,lcX0,spX0,[q240_M],[],[(37,0,0)],([],[]))
def q345_U : rfU := []
set_option maxHeartbeats 8000000 in
def q345_N : List rfB := [(0,([(0,.inr (.inl [16])),(1,.inr (.inl [13]))],[],[((16,4),(0,29,1),some ((16,4),0,0)),((16,5),(11,11,0),some ((16,5),0,0))]),(19,[]),0)]
set_option maxRecDepth 100000 in
theorem q345_ok : rf_chkB q345_P q345_U wLay q345_M ddX0_doAgain [(31,[0])] [] [0] 600 q345_N = true := by decide +kernel
set_option maxHeartbeats 4000000 in
theorem q345_met {G : rfG} (h : okG G) : rf_met G q345_M := rf_methodB h.1 (P := q345_P) (U := q345_U) (N := q345_N) ⟨wflT h flokX0, wcsT h csokX0, wlcT h lcokX0, spokX0 h, List.forall_mem_cons.mpr ⟨q240_met h, fun _ h => absurd h List.not_mem_nil⟩, fun _ h => absurd h List.not_mem_nil, List.forall_mem_cons.mpr ⟨fun M hM => Option.some.inj (show some q240_M = some M from hM) ▸ wlkV (lkX0_37 h) q240_M rfl rfl, fun _ h => absurd h List.not_mem_nil⟩, fun _ h => absurd h List.not_mem_nil, fun _ h => absurd h List.not_mem_nil⟩ dkX0_doAgain (by decide +kernel) (by rw [h.2.2.1]; exact q345_ok)
/-- NearSpell.redo -/
def q346_M : rfM := ((⟨"NearSpell", "redo", "()Z"⟩, prog_1_method_13_code, 1, (some .boolean)), (3,62), ([.inr (.inl [70])],[((16,4),(0,29,1),none),((16,5),(11,11,0),none)]), [(12,0),(16,5),(16,6)], [(some (.inl ((1,1,0),none)),[],[((16,4),(1,30,1),some ((16,4),1,1)),((16,5),(10,10,0),some ((16,5),(-1),(-1)))])])
def q346_P : rfP := (flX11,csX11,lcX11,spX11,[q345_M],[],[(208,0,0)],([],[]))
def q346_U : rfU := []
set_option maxHeartbeats 8000000 in
def q346_N : List rfB := [(0,([(0,.inr (.inl [70]))],[],[((16,4),(0,29,1),some ((16,4),0,0)),((16,5),(11,11,0),some ((16,5),0,0))]),(5,[]),0)]
set_option maxRecDepth 100000 in
theorem q346_ok : rf_chkB q346_P q346_U wLay q346_M ddX11_redo [(8,[0])] [] [0] 600 q346_N = true := by decide +kernel
set_option maxHeartbeats 4000000 in
theorem q346_met {G : rfG} (h : okG G) : rf_met G q346_M := rf_methodB h.1 (P := q346_P) (U := q346_U) (N := q346_N) ⟨wflT h flokX11, wcsT h csokX11, wlcT h lcokX11, spokX11 h, List.forall_mem_cons.mpr ⟨q345_met h, fun _ h => absurd h List.not_mem_nil⟩, fun _ h => absurd h List.not_mem_nil, List.forall_mem_cons.mpr ⟨fun M hM => Option.some.inj (show some q345_M = some M from hM) ▸ wlkV (lkX11_208 h) q345_M rfl rfl, fun _ h => absurd h List.not_mem_nil⟩, fun _ h => absurd h List.not_mem_nil, fun _ h => absurd h List.not_mem_nil⟩ dkX11_redo (by decide +kernel) (by rw [h.2.2.1]; exact q346_ok)
/-- NearSpell.Archive.doAgain -/
def q347_M : rfM := ((⟨"NearSpell$Archive", "doAgain", "(LNearSpell$State;)Z"⟩, prog_2_method_5_code, 2, (some .boolean)), (2,41), ([.inr (.inl [16]),.inr (.inl [13])],[((16,4),(0,28,1),none),((16,5),(12,12,0),none)]), [(12,0),(16,5),(16,6)], [(some (.inl ((1,1,0),none)),[],[((16,4),(1,29,1),some ((16,4),1,1)),((16,5),(11,11,0),some ((16,5),(-1),(-1)))])])
def q347_P : rfP := (flX0,csX0,lcX0,spX0,[q240_M],[],[(37,0,0)],([],[]))
def q347_U : rfU := []
set_option maxHeartbeats 8000000 in
def q347_N : List rfB := [(0,([(0,.inr (.inl [16])),(1,.inr (.inl [13]))],[],[((16,4),(0,28,1),some ((16,4),0,0)),((16,5),(12,12,0),some ((16,5),0,0))]),(19,[]),0)]
set_option maxRecDepth 100000 in
theorem q347_ok : rf_chkB q347_P q347_U wLay q347_M ddX0_doAgain [(31,[0])] [] [0] 600 q347_N = true := by decide +kernel
set_option maxHeartbeats 4000000 in
theorem q347_met {G : rfG} (h : okG G) : rf_met G q347_M := rf_methodB h.1 (P := q347_P) (U := q347_U) (N := q347_N) ⟨wflT h flokX0, wcsT h csokX0, wlcT h lcokX0, spokX0 h, List.forall_mem_cons.mpr ⟨q240_met h, fun _ h => absurd h List.not_mem_nil⟩, fun _ h => absurd h List.not_mem_nil, List.forall_mem_cons.mpr ⟨fun M hM => Option.some.inj (show some q240_M = some M from hM) ▸ wlkV (lkX0_37 h) q240_M rfl rfl, fun _ h => absurd h List.not_mem_nil⟩, fun _ h => absurd h List.not_mem_nil, fun _ h => absurd h List.not_mem_nil⟩ dkX0_doAgain (by decide +kernel) (by rw [h.2.2.1]; exact q347_ok)
/-- NearSpell.redo -/
def q348_M : rfM := ((⟨"NearSpell", "redo", "()Z"⟩, prog_1_method_13_code, 1, (some .boolean)), (3,62), ([.inr (.inl [70])],[((16,4),(0,28,1),none),((16,5),(12,12,0),none)]), [(12,0),(16,5),(16,6)], [(some (.inl ((1,1,0),none)),[],[((16,4),(1,29,1),some ((16,4),1,1)),((16,5),(11,11,0),some ((16,5),(-1),(-1)))])])
def q348_P : rfP := (flX11,csX11,lcX11,spX11,[q347_M],[],[(208,0,0)],([],[]))
def q348_U : rfU := []
set_option maxHeartbeats 8000000 in
def q348_N : List rfB := [(0,([(0,.inr (.inl [70]))],[],[((16,4),(0,28,1),some ((16,4),0,0)),((16,5),(12,12,0),some ((16,5),0,0))]),(5,[]),0)]
set_option maxRecDepth 100000 in
theorem q348_ok : rf_chkB q348_P q348_U wLay q348_M ddX11_redo [(8,[0])] [] [0] 600 q348_N = true := by decide +kernel
set_option maxHeartbeats 4000000 in
theorem q348_met {G : rfG} (h : okG G) : rf_met G q348_M := rf_methodB h.1 (P := q348_P) (U := q348_U) (N := q348_N) ⟨wflT h flokX11, wcsT h csokX11, wlcT h lcokX11, spokX11 h, List.forall_mem_cons.mpr ⟨q347_met h, fun _ h => absurd h List.not_mem_nil⟩, fun _ h => absurd h List.not_mem_nil, List.forall_mem_cons.mpr ⟨fun M hM => Option.some.inj (show some q347_M = some M from hM) ▸ wlkV (lkX11_208 h) q347_M rfl rfl, fun _ h => absurd h List.not_mem_nil⟩, fun _ h => absurd h List.not_mem_nil, fun _ h => absurd h List.not_mem_nil⟩ dkX11_redo (by decide +kernel) (by rw [h.2.2.1]; exact q348_ok)
/-- NearSpell.Archive.doAgain -/
def q349_M : rfM := ((⟨"NearSpell$Archive", "doAgain", "(LNearSpell$State;)Z"⟩, prog_2_method_5_code, 2, (some .boolean)), (2,41), ([.inr (.inl [16]),.inr (.inl [13])],[((16,4),(0,27,1),none),((16,5),(13,13,0),none)]), [(12,0),(16,5),(16,6)], [(some (.inl ((1,1,0),none)),[],[((16,4),(1,28,1),some ((16,4),1,1)),((16,5),(12,12,0),some ((16,5),(-1),(-1)))])])
def q349_P : rfP := (flX0,csX0,lcX0,spX0,[q240_M],[],[(37,0,0)],([],[]))
def q349_U : rfU := []
set_option maxHeartbeats 8000000 in
def q349_N : List rfB := [(0,([(0,.inr (.inl [16])),(1,.inr (.inl [13]))],[],[((16,4),(0,27,1),some ((16,4),0,0)),((16,5),(13,13,0),some ((16,5),0,0))]),(19,[]),0)]
set_option maxRecDepth 100000 in
theorem q349_ok : rf_chkB q349_P q349_U wLay q349_M ddX0_doAgain [(31,[0])] [] [0] 600 q349_N = true := by decide +kernel
set_option maxHeartbeats 4000000 in
theorem q349_met {G : rfG} (h : okG G) : rf_met G q349_M := rf_methodB h.1 (P := q349_P) (U := q349_U) (N := q349_N) ⟨wflT h flokX0, wcsT h csokX0, wlcT h lcokX0, spokX0 h, List.forall_mem_cons.mpr ⟨q240_met h, fun _ h => absurd h List.not_mem_nil⟩, fun _ h => absurd h List.not_mem_nil, List.forall_mem_cons.mpr ⟨fun M hM => Option.some.inj (show some q240_M = some M from hM) ▸ wlkV (lkX0_37 h) q240_M rfl rfl, fun _ h => absurd h List.not_mem_nil⟩, fun _ h => absurd h List.not_mem_nil, fun _ h => absurd h List.not_mem_nil⟩ dkX0_doAgain (by decide +kernel) (by rw [h.2.2.1]; exact q349_ok)
