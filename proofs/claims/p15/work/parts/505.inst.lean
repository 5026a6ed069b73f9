/-- NearSpell.undo -/
def q250_M : rfM := ((⟨"NearSpell", "undo", "()Z"⟩, prog_1_method_12_code, 1, (some .boolean)), (3,62), ([.inr (.inl [70])],[((16,4),(0,36,1),none),((16,5),(4,4,0),none)]), [(12,0),(16,5),(16,6)], [(some (.inl ((1,1,0),none)),[],[((16,4),(0,35,1),some ((16,4),(-1),(-1))),((16,5),(5,5,0),some ((16,5),1,1))]),(some (.inl ((0,0,0),none)),[],[((16,4),(0,0,1),some ((16,4),0,0)),((16,5),(4,4,0),some ((16,5),0,0))])])
def q250_P : rfP := (flX11,csX11,lcX11,spX11,[q249_M],[],[(204,0,0)],([],[]))
def q250_U : rfU := []
set_option maxHeartbeats 8000000 in
def q250_N : List rfB := [(0,([(0,.inr (.inl [70]))],[],[((16,4),(0,36,1),some ((16,4),0,0)),((16,5),(4,4,0),some ((16,5),0,0))]),(6,[]),0)]
set_option maxRecDepth 100000 in
theorem q250_ok : rf_chkB q250_P q250_U wLay q250_M ddX11_undo [(8,[0])] [] [0] 600 q250_N = true := by decide +kernel
set_option maxHeartbeats 4000000 in
theorem q250_met {G : rfG} (h : okG G) : rf_met G q250_M := rf_methodB h.1 (P := q250_P) (U := q250_U) (N := q250_N) ⟨wflT h flokX11, wcsT h csokX11, wlcT h lcokX11, spokX11 h, List.forall_mem_cons.mpr ⟨q249_met h, fun _ h => absurd h List.not_mem_nil⟩, fun _ h => absurd h List.not_mem_nil, List.forall_mem_cons.mpr ⟨fun M hM => Option.some.inj (show some q249_M = some M from hM) ▸ wlkV (lkX11_204 h) q249_M rfl rfl, fun _ h => absurd h List.not_mem_nil⟩, fun _ h => absurd h List.not_mem_nil, fun _ h => absurd h List.not_mem_nil⟩ dkX11_undo (by decide +kernel) (by rw [h.2.2.1]; exact q250_ok)
/-- NearSpell.Archive.takeBack -/
def q251_M : rfM := ((⟨"NearSpell$Archive", "takeBack", "(LNearSpell$State;)Z"⟩, prog_2_method_4_code, 2, (some .boolean)), (2,41), ([.inr (.inl [16]),.inr (.inl [13])],[((16,4),(0,35,1),none),((16,5),(5,5,0),none)]), [(12,0),(16,5),(16,6)], [(some (.inl ((0,0,0),none)),[],[((16,4),(0,0,1),some ((16,4),0,0)),((16,5),(5,5,0),some ((16,5),0,0))]),(some (.inl ((1,1,0),none)),[],[((16,4),(0,34,1),some ((16,4),(-1),(-1))),((16,5),(6,6,0),some ((16,5),1,1))])])
def q251_P : rfP := (flX0,csX0,lcX0,spX0,[q240_M],[],[(37,0,0)],([],[]))
def q251_U : rfU := []
set_option maxHeartbeats 8000000 in
def q251_N : List rfB := [(0,([(0,.inr (.inl [16])),(1,.inr (.inl [13]))],[],[((16,4),(0,35,1),some ((16,4),0,0)),((16,5),(5,5,0),some ((16,5),0,0))]),(21,[]),0)]
set_option maxRecDepth 100000 in
theorem q251_ok : rf_chkB q251_P q251_U wLay q251_M ddX0_takeBack [(31,[0])] [] [0] 600 q251_N = true := by decide +kernel
set_option maxHeartbeats 4000000 in
theorem q251_met {G : rfG} (h : okG G) : rf_met G q251_M := rf_methodB h.1 (P := q251_P) (U := q251_U) (N := q251_N) ⟨wflT h flokX0, wcsT h csokX0, wlcT h lcokX0, spokX0 h, List.forall_mem_cons.mpr ⟨q240_met h, fun _ h => absurd h List.not_mem_nil⟩, fun _ h => absurd h List.not_mem_nil, List.forall_mem_cons.mpr ⟨fun M hM => Option.some.inj (show some q240_M = some M from hM) ▸ wlkV (lkX0_37 h) q240_M rfl rfl, fun _ h => absurd h List.not_mem_nil⟩, fun _ h => absurd h List.not_mem_nil, fun _ h => absurd h List.not_mem_nil⟩ dkX0_takeBack (by decide +kernel) (by rw [h.2.2.1]; exact q251_ok)
/-- NearSpell.undo -/
def q252_M : rfM := ((⟨"NearSpell", "undo", "()Z"⟩, prog_1_method_12_code, 1, (some .boolean)), (3,62), ([.inr (.inl [70])],[((16,4),(0,35,1),none),((16,5),(5,5,0),none)]), [(12,0),(16,5),(16,6)], [(some (.inl ((1,1,0),none)),[],[((16,4),(0,34,1),some ((16,4),(-1),(-1))),((16,5),(6,6,0),some ((16,5),1,1))]),(some (.inl ((0,0,0),none)),[],[((16,4),(0,0,1),some ((16,4),0,0)),((16,5),(5,5,0),some ((16,5),0,0))])])
def q252_P : rfP := (flX11,csX11,lcX11,spX11,[q251_M],[],[(204,0,0)],([],[]))
def q252_U : rfU := []
set_option maxHeartbeats 8000000 in
def q252_N : List rfB := [(0,([(0,.inr (.inl [70]))],[],[((16,4),(0,35,1),some ((16,4),0,0)),((16,5),(5,5,0),some ((16,5),0,0))]),(6,[]),0)]
set_option maxRecDepth 100000 in
theorem q252_ok : rf_chkB q252_P q252_U wLay q252_M ddX11_undo [(8,[0])] [] [0] 600 q252_N = true := by decide +kernel
set_option maxHeartbeats 4000000 in
theorem q252_met {G : rfG} (h : okG G) : rf_met G q252_M := rf_methodB h.1 (P := q252_P) (U := q252_U) (N := q252_N) ⟨wflT h flokX11, wcsT h csokX11, wlcT h lcokX11, spokX11 h, List.forall_mem_cons.mpr ⟨q251_met h, fun _ h => absurd h List.not_mem_nil⟩, fun _ h => absurd h List.not_mem_nil, List.forall_mem_cons.mpr ⟨fun M hM => Option.some.inj (show some q251_M = some M from hM) ▸ wlkV (lkX11_204 h) q251_M rfl rfl, fun _ h => absurd h List.not_mem_nil⟩, fun _ h => absurd h List.not_mem_nil, fun _ h => absurd h List.not_mem_nil⟩ dkX11_undo (by decide +kernel) (by rw [h.2.2.1]; exact q252_ok)
/-- NearSpell.Archive.takeBack -/
def q253_M : rfM := ((⟨"NearSpell$Archive", "takeBack", "(LNearSpell$State;)Z"⟩, prog_2_method_4_code, 2, (some .boolean)), (2,41), ([.inr (.inl [16]),.inr (.inl [13])],[((16,4),(0,34,1),none),((16,5),(6,6,0),none)]), [(12,0),(16,5),(16,6)], [(some (.inl ((0,0,0),none)),[],[((16,4),(0,0,1),some ((16,4),0,0)),((16,5),(6,6,0),some ((16,5),0,0))]),(some (.inl ((1,1,0),none)),[],[((16,4),(0,33,1),some ((16,4),(-1),(-1))),((16,5),(7,7,0),some ((16,5),1,1))])])
def q253_P : rfP := (flX0,csX0,lcX0,spX0,[q240_M],[],[(37,0,0)],([],[]))
def q253_U : rfU := []
set_option maxHeartbeats 8000000 in
def q253_N : List rfB := [(0,([(0,.inr (.inl [16])),(1,.inr (.inl [13]))],[],[((16,4),(0,34,1),some ((16,4),0,0)),((16,5),(6,6,0),some ((16,5),0,0))]),(21,[]),0)]
set_option maxRecDepth 100000 in
theorem q253_ok : rf_chkB q253_P q253_U wLay q253_M ddX0_takeBack [(31,[0])] [] [0] 600 q253_N = true := by decide +kernel
set_option maxHeartbeats 4000000 in
theorem q253_met {G : rfG} (h : okG G) : rf_met G q253_M := rf_methodB h.1 (P := q253_P) (U := q253_U) (N := q253_N) ⟨wflT h flokX0, wcsT h csokX0, wlcT h lcokX0, spokX0 h, List.forall_mem_cons.mpr ⟨q240_met h, fun _ h => absurd h List.not_mem_nil⟩, fun _ h => absurd h List.not_mem_nil, List.forall_mem_cons.mpr ⟨fun M hM => Option.some.inj (show some q240_M = some M from hM) ▸ wlkV (lkX0_37 h) q240_M rfl rfl, fun _ h => absurd h List.not_mem_nil⟩, fun _ h => absurd h List.not_mem_nil, fun _ h => absurd h List.not_mem_nil⟩ dkX0_takeBack (by decide +kernel) (by rw [h.2.2.1]; exact q253_ok)
/-- NearSpell.undo -/
def q254_M : rfM := ((⟨"NearSpell", "undo", "()Z"⟩, prog_1_method_12_code, 1, (some .boolean)), (3,62), ([.inr (.inl [70])],[((16,4),(0,34,1),none),((16,5),(6,6,0),none)]), [(12,0),(16,5),(16,6)], [(some (.inl ((1,1,0),none)),[],[((16,4),(0,33,1),some ((16,4),(-1),(-1))),((16,5),(7,7,0),some ((16,5),1,1))]),(some (.inl ((0,0,0),none)),[],[((16,4),(0,0,1),some ((16,4),0,0)),((16,5),(6,6,0),some ((16,5),0,0))])])
def q254_P : rfP := (flX11,csX11,lcX11,spX11,[q253_M],[],[(204,0,0)],([],[]))
def q254_U : rfU := []
set_option maxHeartbeats 8000000 in
def q254_N : List rfB := [(0,([(0,.inr (.inl [70]))],[],[((16,4),(0,34,1),some ((16,4),0,0)),((16,5),(6,6,0),some ((16,5),0,0))]),(6,[]),0)]
set_option maxRecDepth 100000 in
theorem q254_ok : rf_chkB q254_P q254_U wLay q254_M ddX11_undo [(8,[0])] [] [0] 600 q254_N = true := by decide +kernel
set_option maxHeartbeats 4000000 in
theorem q254_met {G : rfG} (h : okG G) : rf_met G q254_M := rf_methodB h.1 (P := q254_P) (U := q254_U) (N := q254_N) ⟨wflT h flokX11, wcsT h csokX11, wlcT h lcokX11, spokX11 h, List.forall_mem_cons.mpr ⟨q253_met h, fun _ h => absurd h List.not_mem_nil⟩, fun _ h => absurd h List.not_mem_nil, List.forall_mem_cons.mpr ⟨fun M hM => Option.some.inj (show some q253_M = some M from hM) ▸ wlkV (lkX11_204 h) q253_M rfl rfl, fun _ h => absurd h List.not_mem_nil⟩, fun _ h => absurd h List.not_mem_nil, fun _ h => absurd h List.not_mem_nil⟩ dkX11_undo (by decide +kernel) (by rw [h.2.2.1]; exact q254_ok)
/-- NearSpell.Archive.takeBack -/
def q255_M : rfM := ((⟨"NearSpell$Archive", "takeBack", "(LNearSpell$State;)Z"⟩, prog_2_method_4_code, 2, (some .boolean)), (2,41), ([.inr (.inl [16]),.inr (.inl [13])],[((16,4),(0,33,1),none),((16,5),(7,7,0),none)]), [(12,0),(16,5),(16,6)], [(some (.inl ((0,0,0),none)),[],[((16,4),(0,0,1),some ((16,4),0,0)),((16,5),(7,7,0),some ((16,5),0,0))]),(some (.inl ((1,1,0),none)),[],[((16,4),(0,32,1),some ((16,4),(-1),(-1))),((16,5),(8,8,0),some ((16,5),1,1))])])
def q255_P : rfP := (flX0,csX0,lcX0,spX0,[q240_M],[],[(37,0,0)],([],[]))
def q255_U : rfU := []
set_option maxHeartbeats 8000000 in
def q255_N : List rfB := [(0,([(0,.inr (.inl [16])),(1,.inr (.inl [13]))],[],[((16,4),(0,33,1),some ((16,4),0,0)),((16,5),(7,7,0),some ((16,5),0,0))]),(21,[]),0)]
set_option maxRecDepth 100000 in
theorem q255_ok : rf_chkB q255_P q255_U wLay q255_M ddX0_takeBack [(31,[0])] [] [0] 600 q255_N = true := by decide +kernel
set_option maxHeartbeats 4000000 in
theorem q255_met {G : rfG} (h : okG G) : rf_met G q255_M := rf_methodB h.1 (P := q255_P) (U := q255_U) (N := q255_N) ⟨wflT h flokX0, wcsT h csokX0, wlcT h lcokX0, spokX0 h, List.forall_mem_cons.mpr ⟨q240_met h, fun _ h => absurd h List.not_mem_nil⟩, fun _ h => absurd h List.not_mem_nil, List.forall_mem_cons.mpr ⟨fun M hM => Option.some.inj (show some q240_M = some M from hM) ▸ wlkV (lkX0_37 h) q240_M rfl rfl, fun _ h => absurd h List.not_mem_nil⟩, fun _ h => absurd h List.not_mem_nil, fun _ h => absurd h List.not_mem_nil⟩ dkX0_takeBack (by decide +kernel) (by rw [h.2.2.1]; exact q255_ok)
/-- NearSpell.undo -/
def q256_M : rfM := ((⟨"NearSpell", "undo", "()Z"⟩, prog_1_method_12_code, 1, (some .boolean)), (3,62), ([.inr (.inl [70])],[((16,4),(0,33,1),none),((16,5),(7,7,0),none)]), [(12,0),(16,5),(16,6)], [(some (.inl ((1,1,0),none)),[],[((16,4),(0,32,1),some ((16,4),(-1),(-1))),((16,5),(8,8,0),some ((16,5),1,1))]),(some (.inl ((0,0,0),none)),[],[((16,4),(0,0,1),some ((16,4),0,0)),((16,5),(7,7,0),some ((16,5),0,0))])])
def q256_P : rfP := (flX11,csX11,lcX11,spX11,[q255_M],[],[(204,0,0)],([],[]))
def q256_U : rfU := []
set_option maxHeartbeats 8000000 in
def q256_N : List rfB := [(0,([(0,.inr (.inl [70]))],[],[((16,4),(0,33,1),some ((16,4),0,0)),((16,5),(7,7,0),some ((16,5),0,0))]),(6,[]),0)]
set_option maxRecDepth 100000 in
theorem q256_ok : rf_chkB q256_P q256_U wLay q256_M ddX11_undo [(8,[0])] [] [0] 600 q256_N = true := by decide +kernel
set_option maxHeartbeats 4000000 in
theorem q256_met {G : rfG} (h : okG G) : rf_met G q256_M := rf_methodB h.1 (P := q256_P) (U := q256_U) (N := q256_N) ⟨wflT h flokX11, wcsT h csokX11, wlcT h lcokX11, spokX11 h, List.forall_mem_cons.mpr ⟨q255_met h, fun _ h => absurd h List.not_mem_nil⟩, fun _ h => absurd h List.not_mem_nil, List.forall_mem_cons.mpr ⟨fun M hM => Option.some.inj (show some q255_M = some M from hM) ▸ wlkV (lkX11_204 h) q255_M rfl rfl, fun _ h => absurd h List.not_mem_nil⟩, fun _ h => absurd h List.not_mem_nil, fun _ h => absurd h List.not_mem_nil⟩ dkX11_undo (by decide +kernel) (by rw [h.2.2.1]; exact q256_ok)
/-- NearSpell.Archive.takeBack -/
def q257_M : rfM := ((⟨"NearSpell$Archive", "takeBack", "(LNearSpell$State;)Z"⟩, prog_2_method_4_code, 2, (some .boolean)), (2,41), ([.inr (.inl [16]),.inr (.inl [13])],[((16,4),(0,32,1),none),((16,5),(8,8,0),none)]), [(12,0),(16,5),(16,6)], [(some (.inl ((0,0,0),none)),[],[((16,4),(0,0,1),some ((16,4),0,0)),((16,5),(8,8,0),some ((16,5),0,0))]),(some (.inl ((1,1,0),none)),[],[((16,4),(0,31,1),some ((16,4),(-1),(-1))),((16,5),(9,9,0),some ((16,5),1,1))])])
def q257_P : rfP := (flX0,csX0,lcX0,spX0,[q240_M],[],[(37,0,0)],([],[]))
def q257_U : rfU := []
set_option maxHeartbeats 8000000 in
def q257_N : List rfB := [(0,([(0,.inr (.inl [16])),(1,.inr (.inl [13]))],[],[((16,4),(0,32,1),some ((16,4),0,0)),((16,5),(8,8,0),some ((16,5),0,0))]),(21,[]),0)]
set_option maxRecDepth 100000 in
theorem q257_ok : rf_chkB q257_P q257_U wLay q257_M ddX0_takeBack [(31,[0])] [] [0] 600 q257_N = true := by decide +kernel
set_option maxHeartbeats 4000000 in
theorem q257_met {G : rfG} (h : okG G) : rf_met G q257_M := rf_methodB h.1 (P := q257_P) (U := q257_U) (N := q257_N) ⟨wflT h flokX0, wcsT h csokX0, wlcT h lcokX0, spokX0 h, List.forall_mem_cons.mpr ⟨q240_met h, fun _ h => absurd h List.not_mem_nil⟩, fun _ h => absurd h List.not_mem_nil, List.forall_mem_cons.mpr ⟨fun M hM => Option.some.inj (show some q240_M = some M from hM) ▸ wlkV (lkX0_37 h) q240_M rfl rfl, fun _ h => absurd h List.not_mem_nil⟩, fun _ h => absurd h List.not_mem_nil, fun _ h => absurd h List.not_mem_nil⟩ dkX0_takeBack (by decide +kernel) (by rw [h.2.2.1]; exact q257_ok)
/-- NearSpell.undo -/
def q258_M : rfM := ((⟨"NearSpell", "undo", "()Z"⟩, prog_1_method_12_code, 1, (some .boolean)), (3,62), ([.inr (.inl [70])],[((16,4),(0,32,1),none),((16,5),(8,8,0),none)]), [(12,0),(16,5),(16,6)], [(some (.inl ((1,1,0),none)),[],[((16,4),(0,31,1),some ((16,4),(-1),(-1))),((16,5),(9,9,0),some ((16,5),1,1))]),(some (.inl ((0,0,0),none)),[],[((16,4),(0,0,1),some ((16,4),0,0)),((16,5),(8,8,0),some ((16,5),0,0))])])
def q258_P : rfP := (flX11,csX11,lcX11,spX11,[q257_M],[],[(204,0,0)],([],[]))
def q258_U : rfU := []
set_option maxHeartbeats 8000000 in
def q258_N : List rfB := [(0,([(0,.inr (.inl [70]))],[],[((16,4),(0,32,1),some ((16,4),0,0)),((16,5),(8,8,0),some ((16,5),0,0))]),(6,[]),0)]
set_option maxRecDepth 100000 in
theorem q258_ok : rf_chkB q258_P q258_U wLay q258_M ddX11_undo [(8,[0])] [] [0] 600 q258_N = true := by decide +kernel
set_option maxHeartbeats 4000000 in
theorem q258_met {G : rfG} (h : okG G) : rf_met G q258_M := rf_methodB h.1 (P := q258_P) (U := q258_U) (N := q258_N) ⟨wflT h flokX11, wcsT h csokX11, wlcT h lcokX11, spokX11 h, List.forall_mem_cons.mpr ⟨q257_met h, fun _ h => absurd h List.not_mem_nil⟩, fun _ h => absurd h List.not_mem_nil, List.forall_mem_cons.mpr ⟨fun M hM => Option.some.inj (show some q257_M = some M from hM) ▸ wlkV (lkX11_204 h) q257_M rfl rfl, fun _ h => absurd h List.not_mem_nil⟩, fun _ h => absurd h List.not_mem_nil, fun _ h => absurd h List.not_mem_nil⟩ dkX11_undo (by decide +kernel) (by rw [h.2.2.1]; exact q258_ok)
/-- NearSpell.Archive.takeBack -/
def q259_M : rfM := ((⟨"NearSpell$Archive", "takeBack", "(LNearSpell$State;)Z"⟩, prog_2_method_4_code, 2, (some .boolean)), (2,41), ([.inr (.inl [16]),.inr (.inl [13])],[((16,4),(0,31,1),none),((16,5),(9,9,0),none)]), [(12,0),(16,5),(16,6)], [(some (.inl ((0,0,0),none)),[],[((16,4),(0,0,1),some ((16,4),0,0)),((16,5),(9,9,0),some ((16,5),0,0))]),(some (.inl ((1,1,0),none)),[],[((16,4),(0,30,1),some ((16,4),(-1),(-1))),((16,5),(10,10,0),some ((16,5),1,1))])])
def q259_P : rfP := (flX0,csX0,lcX0,spX0,[q240_M],[],[(37,0,0)],([],[]))
def q259_U : rfU := []
set_option maxHeartbeats 8000000 in
def q259_N : List rfB := [(0,([(0,.inr (.inl [16])),(1,.inr (.inl [13]))],[],[((16,4),(0,31,1),some ((16,4),0,0)),((16,5),(9,9,0),some ((16,5),0,0))]),(21,[]),0)]
set_option maxRecDepth 100000 in
theorem q259_ok : rf_chkB q259_P q259_U wLay q259_M ddX0_takeBack [(31,[0])] [] [0] 600 q259_N = true := by decide +kernel
set_option maxHeartbeats 4000000 in
theorem q259_met {G : rfG} (h : okG G) : rf_met G q259_M := rf_methodB h.1 (P := q259_P) (U := q259_U) (N := q259_N) ⟨wflT h flokX0, wcsT h csokX0, wlcT h lcokX0, spokX0 h, List.forall_mem_cons.mpr ⟨q240_met h, fun _ h => absurd h List.not_mem_nil⟩, fun _ h => absurd h List.not_mem_nil, List.forall_mem_cons.mpr ⟨fun M hM => Option.some.inj (show some q240_M = some M from hM) ▸ wlkV (lkX0_37 h) q240_M rfl rfl, fun _ h => absurd h List.not_mem_nil⟩, fun _ h => absurd h List.not_mem_nil, fun _ h => absurd h List.not_mem_nil⟩ dkX0_takeBack (by decide +kernel) (by rw [h.2.2.1]; exact q259_ok)
/-- NearSpell.undo -/
def q260_M : rfM := ((⟨"NearSpell", "undo", "()Z"⟩, prog_1_method_12_code, 1, (some .boolean)), (3,62), ([.inr (.inl [70])],[((16,4),(0,31,1),none),((16,5),(9,9,0),none)]), [(12,0),(16,5),(16,6)], [(some (.inl ((1,1,0),none)),[],[((16,4),(0,30,1),some ((16,4),(-1),(-1))),((16,5),(10,10,0),some ((16,5),1,1))]),(some (.inl ((0,0,0),none)),[],[((16,4),(0,0,1),some ((16,4),0,0)),((16,5),(9,9,0),some ((16,5),0,0))])])
def q260_P : rfP := (flX11,csX11,lcX11,spX11,[q259_M],[],[(204,0,0)],([],[]))
def q260_U : rfU := []
set_option maxHeartbeats 8000000 in
def q260_N : List rfB := [(0,([(0,.inr (.inl [70]))],[],[((16,4),(0,31,1),some ((16,4),0,0)),((16,5),(9,9,0),some ((16,5),0,0))]),(6,[]),0)]
set_option maxRecDepth 100000 in
theorem q260_ok : rf_chkB q260_P q260_U wLay q260_M ddX11_undo [(8,[0])] [] [0] 600 q260_N = true := by decide +kernel
set_option maxHeartbeats 4000000 in
theorem q260_met {G : rfG} (h : okG G) : rf_met G q260_M := rf_methodB h.1 (P := q260_P) (U := q260_U) (N := q260_N) ⟨wflT h flokX11, wcsT h csokX11, wlcT h lcokX11, spokX11 h, List.forall_mem_cons.mpr ⟨q259_met h, fun _ h => absurd h List.not_mem_nil⟩, fun _ h => absurd h List.not_mem_nil, List.forall_mem_cons.mpr ⟨fun M hM => Option.some.inj (show some q259_M = some M from hM) ▸ wlkV (lkX11_204 h) q259_M rfl rfl, fun _ h => absurd h List.not_mem_nil⟩, fun _ h => absurd h List.not_mem_nil, fun _ h => absurd h List.not_mem_nil⟩ dkX11_undo (by decide +kernel) (by rw [h.2.2.1]; exact q260_ok)
/-- NearSpell.Archive.takeBack -/
def q261_M : rfM := ((⟨"NearSpell$Archive", "takeBack", "(LNearSpell$State;)Z"⟩, prog_2_method_4_code, 2, (some .boolean)), (2,41), ([.inr (.inl [16]),.inr (.inl [13])],[((16,4),(0,30,1),none),((16,5),(10,10,0),none)]), [(12,0),(16,5),(16,6)], [(some (.inl ((0,0,0),none)),[],[((16,4),(0,0,1),some ((16,4),0,0)),((16,5),(10,10,0),some ((16,5),0,0))]),(some (.inl ((1,1,0),none)),[],[((16,4),(0,29,1),some ((16,4),(-1),(-1))),((16,5),(11,11,0),some ((16,5),1,1))])])
def q261_P : rfP := (flX0,csX0,lcX0,spX0,[q240_M],[],[(37,0,0)],([],[]))
def q261_U : rfU := []
set_option maxHeartbeats 8000000 in
def q261_N : List rfB := [(0,([(0,.inr (.inl [16])),(1,.inr (.inl [13]))],[],[((16,4),(0,30,1),some ((16,4),0,0)),((16,5),(10,10,0),some ((16,5),0,0))]),(21,[]),0)]
set_option maxRecDepth 100000 in
theorem q261_ok : rf_chkB q261_P q261_U wLay q261_M ddX0_takeBack [(31,[0])] [] [0] 600 q261_N = true := by decide +kernel
set_option maxHeartbeats 4000000 in
theorem q261_met {G : rfG} (h : okG G) : rf_met G q261_M := rf_methodB h.1 (P := q261_P) (U := q261_U) (N := q261_N) ⟨wflT h flokX0, wcsT h csokX0, wlcT h lcokX0, spokX0 h, List.forall_mem_cons.mpr ⟨q240_met h, fun _ h => absurd h List.not_mem_nil⟩, fun _ h => absurd h List.not_mem_nil, List.forall_mem_cons.mpr ⟨fun M hM => Option.some.inj (show some q240_M = some M from hM) ▸ wlkV (lkX0_37 h) q240_M rfl rfl, fun _ h => absurd h List.not_mem_nil⟩, fun _ h => absurd h List.not_mem_nil, fun _ h => absurd h List.not_mem_nil⟩ dkX0_takeBack (by decide +kernel) (by rw [h.2.2.1]; exact q261_ok)
/-- NearSpell.undo -/
def q262_M : rfM := ((⟨"NearSpell", "undo", "()Z"⟩, prog_1_method_12_code, 1, (some .boolean)), (3,62), ([.inr (.inl [70])],[((16,4),(0,30,1),none),((16,5),(10,10,0),none)]), [(12,0),(16,5),(16,6)], [(some (.inl ((1,1,0),none)),[],[((16,4),(0,29,1),some ((16,4),(-1),(-1))),((16,5),(11,11,0),some ((16,5),1,1))]),(some (.inl ((0,0,0),none)),[],[((16,4),(0,0,1),some ((16,4),0,0)),((16,5),(10,10,0),some ((16,5),0,0))])])
def q262_P : rfP := (flX11,csX11,lcX11,spX11,[q261_M],[],[(204,0,0)],([],[]))
def q262_U : rfU := []
set_option maxHeartbeats 8000000 in
def q262_N : List rfB := [(0,([(0,.inr (.inl [70]))],[],[((16,4),(0,30,1),some ((16,4),0,0)),((16,5),(10,10,0),some ((16,5),0,0))]),(6,[]),0)]
set_option maxRecDepth 100000 in
theorem q262_ok : rf_chkB q262_P q262_U wLay q262_M ddX11_undo [(8,[0])] [] [0] 600 q262_N = true := by decide +kernel
set_option maxHeartbeats 4000000 in
theorem q262_met {G : rfG} (h : okG G) : rf_met G q262_M := rf_methodB h.1 (P := q262_P) (U := q262_U) (N := q262_N) ⟨wflT h flokX11, wcsT h csokX11, wlcT h lcokX11, spokX11 h, List.forall_mem_cons.mpr ⟨q261_met h, fun _ h => absurd h List.not_mem_nil⟩, fun _ h => absurd h List.not_mem_nil, List.forall_mem_cons.mpr ⟨fun M hM => Option.some.inj (show some q261_M = some M from hM) ▸ wlkV (lkX11_204 h) q261_M rfl rfl, fun _ h => absurd h List.not_mem_nil⟩, fun _ h => absurd h List.not_mem_nil, fun _ h => absurd h List.not_mem_nil⟩ dkX11_undo (by decide +kernel) (by rw [h.2.2.1]; exact q262_ok)
/-- NearSpell.Archive.takeBack -/
def q263_M : rfM := ((⟨"NearSpell$Archive", "takeBack", "(LNearSpell$State;)Z"⟩, prog_2_method_4_code, 2, (some .boolean)), (2,41), ([.inr (.inl [16]),.inr (.inl [13])],[((16,4),(0,29,1),none),((16,5),(11,11,0),none)]), [(12,0),(16,5),(16,6)], [(some (.inl ((0,0,0),none)),[],[((16,4),(0,0,1),some ((16,4),0,0)),((16,5),(11,11,0),some ((16,5),0,0))]),(some (.inl ((1,1,0),none)),[],[((16,4),(0,28,1),some ((16,4),(-1),(-1))),((16,5),(12,12,0),some ((16,5),1,1))])])
def q263_P : rfP := (flX0,csX0,lcX0,spX0,[q240_M],[],[(37,0,0)],([],[]))
def q263_U : rfU := []
set_option maxHeartbeats 8000000 in
def q263_N : List rfB := [(0,([(0,.inr (.inl [16])),(1,.inr (.inl [13]))],[],[((16,4),(0,29,1),some ((16,4),0,0)),((16,5),(11,11,0),some ((16,5),0,0))]),(21,[]),0)]
set_option maxRecDepth 100000 in
theorem q263_ok : rf_chkB q263_P q263_U wLay q263_M ddX0_takeBack [(31,[0])] [] [0] 600 q263_N = true := by decide +kernel
set_option maxHeartbeats 4000000 in
theorem q263_met {G : rfG} (h : okG G) : rf_met G q263_M := rf_methodB h.1 (P := q263_P) (U := q263_U) (N := q263_N) ⟨wflT h flokX0, wcsT h csokX0, wlcT h lcokX0, spokX0 h, List.forall_mem_cons.mpr ⟨q240_met h, fun _ h => absurd h List.not_mem_nil⟩, fun _ h => absurd h List.not_mem_nil, List.forall_mem_cons.mpr ⟨fun M hM => Option.some.inj (show some q240_M = some M from hM) ▸ wlkV (lkX0_37 h) q240_M rfl rfl, fun _ h => absurd h List.not_mem_nil⟩, fun _ h => absurd h List.not_mem_nil, fun _ h => absurd h List.not_mem_nil⟩ dkX0_takeBack (by decide +kernel) (by rw [h.2.2.1]; exact q263_ok)
/-- NearSpell.undo -/
def q264_M : rfM := ((⟨"NearSpell", "undo", "()Z"⟩, prog_1_method_12_code, 1, (some .boolean)), (3,62), ([.inr (.inl [70])],[((16,4),(0,29,1),none),((16,5),(11,11,0),none)]), [(12,0),(16,5),(16,6)], [(some (.inl ((1,1,0),none)),[],[((16,4),(0,28,1),some ((16,4),(-1),(-1))),((16,5),(12,12,0),some ((16,5),1,1))]),(some (.inl ((0,0,0),none)),[],[((16,4),(0,0,1),some ((16,4),0,0)),((16,5),(11,11,0),some ((16,5),0,0))])])
def q264_P : rfP := (flX11,csX11,lcX11,spX11,[q263_M],[],[(204,0,0)],([],[]))
def q264_U : rfU := []
set_option maxHeartbeats 8000000 in
def q264_N : List rfB := [(0,([(0,.inr (.inl [70]))],[],[((16,4),(0,29,1),some ((16,4),0,0)),((16,5),(11,11,0),some ((16,5),0,0))]),(6,[]),0)]
set_option maxRecDepth 100000 in
theorem q264_ok : rf_chkB q264_P q264_U wLay q264_M ddX11_undo [(8,[0])] [] [0] 600 q264_N = true := by decide +kernel
set_option maxHeartbeats 4000000 in
theorem q264_met {G : rfG} (h : okG G) : rf_met G q264_M := rf_methodB h.1 (P := q264_P) (U := q264_U) (N := q264_N) ⟨wflT h flokX11, wcsT h csokX11, wlcT h lcokX11, spokX11 h, List.forall_mem_cons.mpr ⟨q263_met h, fun _ h => absurd h List.not_mem_nil⟩, fun _ h => absurd h List.not_mem_nil, List.forall_mem_cons.mpr ⟨fun M hM => Option.some.inj (show some q263_M = some M from hM) ▸ wlkV (lkX11_204 h) q263_M rfl rfl, fun _ h => absurd h List.not_mem_nil⟩, fun _ h => absurd h List.not_mem_nil, fun _ h => absurd h List.not_mem_nil⟩ dkX11_undo (by decide +kernel) (by rw [h.2.2.1]; exact q264_ok)
/-- NearSpell.Archive.takeBack -/
def q265_M : rfM := ((⟨"NearSpell$Archive", "takeBack", "(LNearSpell$State;)Z"⟩, prog_2_method_4_code, 2, (some .boolean)), (2,41), ([.inr (.inl [16]),.inr (.inl [13])],[((16,4),(0,28,1),none),((16,5),(12,12,0),none)]), [(12,0),(16,5),(16,6)], [(some (.inl ((0,0,0),none)),[],[((16,4),(0,0,1),some ((16,4),0,0)),((16,5),(12,12,0),some ((16,5),0,0))]),(some (.inl ((1,1,0),none)),[],[((16,4),(0,27,1),some ((16,4),(-1),(-1))),((16,5),(13,13,0),some ((16,5),1,1))])])
def q265_P : rfP := (flX0,csX0,lcX0,spX0,[q240_M],[],[(37,0,0)],([],[]))
def q265_U : rfU := []
set_option maxHeartbeats 8000000 in
def q265_N : List rfB := [(0,([(0,.inr (.inl [16])),(1,.inr (.inl [13]))],[],[((16,4),(0,28,1),some ((16,4),0,0)),((16,5),(12,12,0),some ((16,5),0,0))]),(21,[]),0)]
set_option maxRecDepth 100000 in
theorem q265_ok : rf_chkB q265_P q265_U wLay q265_M ddX0_takeBack [(31,[0])] [] [0] 600 q265_N = true := by decide +kernel
set_option maxHeartbeats 4000000 in
theorem q265_met {G : rfG} (h : okG G) : rf_met G q265_M := rf_methodB h.1 (P := q265_P) (U := q265_U) (N := q265_N) ⟨wflT h flokX0, wcsT h csokX0, wlcT h lcokX0, spokX0 h, List.forall_mem_cons.mpr ⟨q240_met h, fun _ h => absurd h List.not_mem_nil⟩, fun _ h => absurd h List.not_mem_nil, List.forall_mem_cons.mpr ⟨fun M hM => Option.some.inj (show some q240_M = some M from hM) ▸ wlkV (lkX0_37 h) q240_M rfl rfl, fun _ h => absurd h List.not_mem_nil⟩, fun _ h => absurd h List.not_mem_nil, fun _ h => absurd h List.not_mem_nil⟩ dkX0_takeBack (by decide +kernel) (by rw [h.2.2.1]; exact q265_ok)
/-- NearSpell.undo -/
def q266_M : rfM := ((⟨"NearSpell", "undo", "()Z"⟩, prog_1_method_12_code, 1, (some .boolean)), (3,62), ([.inr (.inl [70])],[((16,4),(0,28,1),none),((16,5),(12,12,0),none)]), [(12,0),(16,5),(16,6)], [(some (.inl ((1,1,0),none)),[],[((16,4),(0,27,1),some ((16,4),(-1),(-1))),((16,5),(13,13,0),some ((16,5),1,1))]),(some (.inl ((0,0,0),none)),[],[((16,4),(0,0,1),some ((16,4),0,0)),((16,5),(12,12,0),some ((16,5),0,0))])])
def q266_P : rfP := (flX11,csX11,lcX11,spX11,[q265_M],[],[(204,0,0)],([],[]))
def q266_U : rfU := []
set_option maxHeartbeats 8000000 in
def q266_N : List rfB := [(0,([(0,.inr (.inl [70]))],[],[((16,4),(0,28,1),some ((16,4),0,0)),((16,5),(12,12,0),some ((16,5),0,0))]),(6,[]),0)]
set_option maxRecDepth 100000 in
theorem q266_ok : rf_chkB q266_P q266_U wLay q266_M ddX11_undo [(8,[0])] [] [0] 600 q266_N = true := by decide +kernel
set_option maxHeartbeats 4000000 in
theorem q266_met {G : rfG} (h : okG G) : rf_met G q266_M := rf_methodB h.1 (P := q266_P) (U := q266_U) (N := q266_N) ⟨wflT h flokX11, wcsT h csokX11, wlcT h lcokX11, spokX11 h, List.forall_mem_cons.mpr ⟨q265_met h, fun _ h => absurd h List.not_mem_nil⟩, fun _ h => absurd h List.not_mem_nil, List.forall_mem_cons.mpr ⟨fun M hM => Option.some.inj (show some q265_M = some M from hM) ▸ wlkV (lkX11_204 h) q265_M rfl rfl, fun _ h => absurd h List.not_mem_nil⟩, fun _ h => absurd h List.not_mem_nil, fun _ h => absurd h List.not_mem_nil⟩ dkX11_undo (by decide +kernel) (by rw [h.2.2.1]; exact q266_ok)
/-- NearSpell.Archive.takeBack -/
def q267_M : rfM := ((⟨"NearSpell$Archive", "takeBack", "(LNearSpell$State;)Z"⟩, prog_2_method_4_code, 2, (some .boolean)), (2,41), ([.inr (.inl [16]),.inr (.inl [13])],[((16,4),(0,27,1),none),((16,5),(13,13,0),none)]), [(12,0),(16,5),(16,6)], [(some (.inl ((0,0,0),none)),[],[((16,4),(0,0,1),some ((16,4),0,0)),((16,5),(13,13,0),some ((16,5),0,0))]),(some (.inl ((1,1,0),none)),[],[((16,4),(0,26,1),some ((16,4),(-1),(-1))),((16,5),(14,14,0),some ((16,5),1,1))])])
def q267_P : rfP := (flX0,csX0,lcX0,spX0,[q240_M],[],[(37,0,0)],([],[]))
def q267_U : rfU := []
set_option maxHeartbeats 8000000 in
def q267_N : List rfB := [(0,([(0,.inr (.inl [16])),(1,.inr (.inl [13]))],[],[((16,4),(0,27,1),some ((16,4),0,0)),((16,5),(13,13,0),some ((16,5),0,0))]),(21,[]),0)]
set_option maxRecDepth 100000 in
theorem q267_ok : rf_chkB q267_P q267_U wLay q267_M ddX0_takeBack [(31,[0])] [] [0] 600 q267_N = true := by decide +kernel
set_option maxHeartbeats 4000000 in
theorem q267_met {G : rfG} (h : okG G) : rf_met G q267_M := rf_methodB h.1 (P := q267_P) (U := q267_U) (N := q267_N) ⟨wflT h flokX0, wcsT h csokX0, wlcT h lcokX0, spokX0 h, List.forall_mem_cons.mpr ⟨q240_met h, fun _ h => absurd h List.not_mem_nil⟩, fun _ h => absurd h List.not_mem_nil, List.forall_mem_cons.mpr ⟨fun M hM => Option.some.inj (show some q240_M = some M from hM) ▸ wlkV (lkX0_37 h) q240_M rfl rfl, fun _ h => absurd h List.not_mem_nil⟩, fun _ h => absurd h List.not_mem_nil, fun _ h => absurd h List.not_mem_nil⟩ dkX0_takeBack (by decide +kernel) (by rw [h.2.2.1]; exact q267_ok)
/-- NearSpell.undo -/
def q268_M : rfM := ((⟨"NearSpell", "undo", "()Z"⟩, prog_1_method_12_code, 1, (some .boolean)), (3,62), ([.inr (.inl [70])],[((16,4),(0,27,1),none),((16,5),(13,13,0),none)]), [(12,0),(16,5),(16,6)], [(some (.inl ((1,1,0),none)),[],[((16,4),(0,26,1),some ((16,4),(-1),(-1))),((16,5),(14,14,0),some ((16,5),1,1))]),(some (.inl ((0,0,0),none)),[],[((16,4),(0,0,1),some ((16,4),0,0)),((16,5),(13,13,0),some ((16,5),0,0))])])
def q268_P : rfP := (flX11,csX11,lcX11,spX11,[q267_M],[],[(204,0,0)],([],[]))
def q268_U : rfU := []
set_option maxHeartbeats 8000000 in
def q268_N : List rfB := [(0,([(0,.inr (.inl [70]))],[],[((16,4),(0,27,1),some ((16,4),0,0)),((16,5),(13,13,0),some ((16,5),0,0))]),(6,[]),0)]
set_option maxRecDepth 100000 in
theorem q268_ok : rf_chkB q268_P q268_U wLay q268_M ddX11_undo [(8,[0])] [] [0] 600 q268_N = true := by decide +kernel
set_option maxHeartbeats 4000000 in
theorem q268_met {G : rfG} (h : okG G) : rf_met G q268_M := rf_methodB h.1 (P := q268_P) (U := q268_U) (N := q268_N) ⟨wflT h flokX11, wcsT h csokX11, wlcT h lcokX11, spokX11 h, List.forall_mem_cons.mpr ⟨q267_met h, fun _ h => absurd h List.not_mem_nil⟩, fun _ h => absurd h List.not_mem_nil, List.forall_mem_cons.mpr ⟨fun M hM => Option.some.inj (show some q267_M = some M from hM) ▸ wlkV (lkX11_204 h) q267_M rfl rfl, fun _ h => absurd h List.not_mem_nil⟩, fun _ h => absurd h List.not_mem_nil, fun _ h => absurd h List.not_mem_nil⟩ dkX11_undo (by decide +kernel) (by rw [h.2.2.1]; exact q268_ok)
/-- NearSpell.Archive.takeBack -/
def q269_M : rfM := ((⟨"NearSpell$Archive", "takeBack", "(LNearSpell$State;)Z"⟩, prog_2_method_4_code, 2, (some .boolean)), (2,41), ([.inr (.inl [16]),.inr (.inl [13])],[((16,4),(0,26,1),none),((16,5),(14,14,0),none)]), [(12,0),(16,5),(16,6)], [(some (.inl ((0,0,0),none)),[],[((16,4),(0,0,1),some ((16,4),0,0)),((16,5),(14,14,0),some ((16,5),0,0))]),(some (.inl ((1,1,0),none)),[],[((16,4),(0,25,1),some ((16,4),(-1),(-1))),((16,5),(15,15,0),some ((16,5),1,1))])])
def q269_P : rfP := (flX0,csX0,lcX0,spX0,[q240_M],[],[(37,0,0)],([],[]))
def q269_U : rfU := []
set_option maxHeartbeats 8000000 in
def q269_N : List rfB := [(0,([(0,.inr (.inl [16])),(1,.inr (.inl [13]))],[],[((16,4),(0,26,1),some ((16,4),0,0)),((16,5),(14,14,0),some ((16,5),0,0))]),(21,[]),0)]
set_option maxRecDepth 100000 in
theorem q269_ok : rf_chkB q269_P q269_U wLay q269_M ddX0_takeBack [(31,[0])] [] [0] 600 q269_N = true := by decide +kernel
set_option maxHeartbeats 4000000 in
theorem q269_met {G : rfG} (h : okG G) : rf_met G q269_M := rf_methodB h.1 (P := q269_P) (U := q269_U) (N := q269_N) ⟨wflT h flokX0, wcsT h csokX0, wlcT h lcokX0, spokX0 h, List.forall_mem_cons.mpr ⟨q240_met h, fun _ h => absurd h List.not_mem_nil⟩, fun _ h => absurd h List.not_mem_nil, List.forall_mem_cons.mpr ⟨fun M hM => Option.some.inj (show some q240_M = some M from hM) ▸ wlkV (lkX0_37 h) q240_M rfl rfl, fun _ h => absurd h List.not_mem_nil⟩, fun _ h => absurd h List.not_mem_nil, fun _ h => absurd h List.not_mem_nil⟩ dkX0_takeBack (by decide +kernel) (by rw [h.2.2.1]; exact q269_ok)
/-- NearSpell.undo -/
def q270_M : rfM := ((⟨"NearSpell", "undo", "()Z"⟩, prog_1_method_12_code, 1, (some .boolean)), (3,62), ([.inr (.inl [70])],[((16,4),(0,26,1),none),((16,5),(14,14,0),none)]), [(12,0),(16,5),(16,6)], [(some (.inl ((1,1,0),none)),[],[((16,4),(0,25,1),some ((16,4),(-1),(-1))),((16,5),(15,15,0),some ((16,5),1,1))]),(some (.inl ((0,0,0),none)),[],[((16,4),(0,0,1),some ((16,4),0,0)),((16,5),(14,14,0),some ((16,5),0,0))])])
def q270_P : rfP := (flX11,csX11,lcX11,spX11,[q269_M],[],[(204,0,0)],([],[]))
def q270_U : rfU := []
set_option maxHeartbeats 8000000 in
def q270_N : List rfB := [(0,([(0,.inr (.inl [70]))],[],[((16,4),(0,26,1),some ((16,4),0,0)),((16,5),(14,14,0),some ((16,5),0,0))]),(6,[]),0)]
set_option maxRecDepth 100000 in
theorem q270_ok : rf_chkB q270_P q270_U wLay q270_M ddX11_undo [(8,[0])] [] [0] 600 q270_N = true := by decide +kernel
set_option maxHeartbeats 4000000 in
theorem q270_met {G : rfG} (h : okG G) : rf_met G q270_M := rf_methodB h.1 (P := q270_P) (U := q270_U) (N := q270_N) ⟨wflT h flokX11, wcsT h csokX11, wlcT h lcokX11, spokX11 h, List.forall_mem_cons.mpr ⟨q269_met h, fun _ h => absurd h List.not_mem_nil⟩, fun _ h => absurd h List.not_mem_nil, List.forall_mem_cons.mpr ⟨fun M hM => Option.some.inj (show some q269_M = some M from hM) ▸ wlkV (lkX11_204 h) q269_M rfl rfl, fun _ h => absurd h List.not_mem_nil⟩, fun _ h => absurd h List.not_mem_nil, fun _ h => absurd h List.not_mem_nil⟩ dkX11_undo (by decide +kernel) (by rw [h.2.2.1]; exact q270_ok)
/-- NearSpell.Archive.takeBack -/
def q271_M : rfM := ((⟨"NearSpell$Archive", "takeBack", "(LNearSpell$State;)Z"⟩, prog_2_method_4_code, 2, (some .boolean)), (2,41), ([.inr (.inl [16]),.inr (.inl [13])],[((16,4),(0,25,1),none),((16,5),(15,15,0),none)]), [(12,0),(16,5),(16,6)], [(some (.inl ((0,0,0),none)),[],[((16,4),(0,0,1),some ((16,4),0,0)),((16,5),(15,15,0),some ((16,5),0,0))]),(some (.inl ((1,1,0),none)),[],[((16,4),(0,24,1),some ((16,4),(-1),(-1))),((16,5),(16,16,0),some ((16,5),1,1))])])
def q271_P : rfP := (flX0,csX0,lcX0,spX0,[q240_M],[],[(37,0,0)],([],[]))
def q271_U : rfU := []
set_option maxHeartbeats 8000000 in
def q271_N : List rfB := [(0,([(0,.inr (.inl [16])),(1,.inr (.inl [13]))],[],[((16,4),(0,25,1),some ((16,4),0,0)),((16,5),(15,15,0),some ((16,5),0,0))]),(21,[]),0)]
set_option maxRecDepth 100000 in
theorem q271_ok : rf_chkB q271_P q271_U wLay q271_M ddX0_takeBack [(31,[0])] [] [0] 600 q271_N = true := by decide +kernel
set_option maxHeartbeats 4000000 in
theorem q271_met {G : rfG} (h : okG G) : rf_met G q271_M := rf_methodB h.1 (P := q271_P) (U := q271_U) (N := q271_N) ⟨wflT h flokX0, wcsT h csokX0, wlcT h lcokX0, spokX0 h, List.forall_mem_cons.mpr ⟨q240_met h, fun _ h => absurd h List.not_mem_nil⟩, fun _ h => absurd h List.not_mem_nil, List.forall_mem_cons.mpr ⟨fun M hM => Option.some.inj (show some q240_M = some M from hM) ▸ wlkV (lkX0_37 h) q240_M rfl rfl, fun _ h => absurd h List.not_mem_nil⟩, fun _ h => absurd h List.not_mem_nil, fun _ h => absurd h List.not_mem_nil⟩ dkX0_takeBack (by decide +kernel) (by rw [h.2.2.1]; exact q271_ok)
/-- NearSpell.undo -/
def q272_M : rfM := ((⟨"NearSpell", "undo", "()Z"⟩, prog_1_method_12_code, 1, (some .boolean)), (3,62), ([.inr (.inl [70])],[((16,4),(0,25,1),none),((16,5),(15,15,0),none)]), [(12,0),(16,5),(16,6)], [(some (.inl ((1,1,0),none)),[],[((16,4),(0,24,1),some ((16,4),(-1),(-1))),((16,5),(16,16,0),some ((16,5),1,1))]),(some (.inl ((0,0,0),none)),[],[((16,4),(0,0,1),some ((16,4),0,0)),((16,5),(15,15,0),some ((16,5),0,0))])])
def q272_P : rfP := (flX11,csX11,lcX11,spX11,[q271_M],[],[(204,0,0)],([],[]))
def q272_U : rfU := []
set_option maxHeartbeats 8000000 in
def q272_N : List rfB := [(0,([(0,.inr (.inl [70]))],[],[((16,4),(0,25,1),some ((16,4),0,0)),((16,5),(15,15,0),some ((16,5),0,0))]),(6,[]),0)]
set_option maxRecDepth 100000 in
theorem q272_ok : rf_chkB q272_P q272_U wLay q272_M ddX11_undo [(8,[0])] [] [0] 600 q272_N = true := by decide +kernel
set_option maxHeartbeats 4000000 in
theorem q272_met {G : rfG} (h : okG G) : rf_met G q272_M := rf_methodB h.1 (P := q272_P) (U := q272_U) (N := q272_N) ⟨wflT h flokX11, wcsT h csokX11, wlcT h lcokX11, spokX11 h, List.forall_mem_cons.mpr ⟨q271_met h, fun _ h => absurd h List.not_mem_nil⟩, fun _ h => absurd h List.not_mem_nil, List.forall_mem_cons.mpr ⟨fun M hM => Option.some.inj (show some q271_M = some M from hM) ▸ wlkV (lkX11_204 h) q271_M rfl rfl, fun _ h => absurd h List.not_mem_nil⟩, fun _ h => absurd h List.not_mem_nil, fun _ h => absurd h List.not_mem_nil⟩ dkX11_undo (by decide +kernel) (by rw [h.2.2.1]; exact q272_ok)
/-- NearSpell.Archive.takeBack -/
def q273_M : rfM := ((⟨"NearSpell$Archive", "takeBack", "(LNearSpell$State;)Z"⟩, prog_2_method_4_code, 2, (some .boolean)), (2,41), ([.inr (.inl [16]),.inr (.inl [13])],[((16,4),(0,24,1),none),((16,5),(16,16,0),none)]), [(12,0),(16,5),(16,6)], [(some (.inl ((0,0,0),none)),[],[((16,4),(0,0,1),some ((16,4),0,0)),((16,5),(16,16,0),some ((16,5),0,0))]),(some (.inl ((1,1,0),none)),[],[((16,4),(0,23,1),some ((16,4),(-1),(-1))),((16,5),(17,17,0),some ((16,5),1,1))])])
def q273_P : rfP := (flX0,csX0,lcX0,spX0,[q240_M],[],[(37,0,0)],([],[]))
def q273_U : rfU := []
set_option maxHeartbeats 8000000 in
def q273_N : List rfB := [(0,([(0,.inr (.inl [16])),(1,.inr (.inl [13]))],[],[((16,4),(0,24,1),some ((16,4),0,0)),((16,5),(16,16,0),some ((16,5),0,0))]),(21,[]),0)]
set_option maxRecDepth 100000 in
theorem q273_ok : rf_chkB q273_P q273_U wLay q273_M ddX0_takeBack [(31,[0])] [] [0] 600 q273_N = true := by decide +kernel
set_option maxHeartbeats 4000000 in
theorem q273_met {G : rfG} (h : okG G) : rf_met G q273_M := rf_methodB h.1 (P := q273_P) (U := q273_U) (N := q273_N) ⟨wflT h flokX0, wcsT h csokX0, wlcT h lcokX0, spokX0 h, List.forall_mem_cons.mpr ⟨q240_met h, fun _ h => absurd h List.not_mem_nil⟩, fun _ h => absurd h List.not_mem_nil, List.forall_mem_cons.mpr ⟨fun M hM => Option.some.inj (show some q240_M = some M from hM) ▸ wlkV (lkX0_37 h) q240_M rfl rfl, fun _ h => absurd h List.not_mem_nil⟩, fun _ h => absurd h List.not_mem_nil, fun _ h => absurd h List.not_mem_nil⟩ dkX0_takeBack (by decide +kernel) (by rw [h.2.2.1]; exact q273_ok)
/-- NearSpell.undo -/
def q274_M : rfM := ((⟨"NearSpell", "undo", "()Z"⟩, prog_1_method_12_code, 1, (some .boolean)), (3,62), ([.inr (.inl [70])],[((16,4),(0,24,1),none),((16,5),(16,16,0),none)]), [(12,0),(16,5),(16,6)], [(some (.inl ((1,1,0),none)),[],[((16,4),(0,23,1),some ((16,4),(-1),(-1))),((16,5),(17,17,0),some ((16,5),1,1))]),(some (.inl ((0,0,0),none)),[],[((16,4),(0,0,1),some ((16,4),0,0)),((16,5),(16,16,0),some ((16,5),0,0))])])
def q274_P : rfP := (flX11,csX11,lcX11,spX11,[q273_M],[],[(204,0,0)],([],[]))
def q274_U : rfU := []
set_option maxHeartbeats 8000000 in
def q274_N : List rfB := [(0,([(0,.inr (.inl [70]))],[],[((16,4),(0,24,1),some ((16,4),0,0)),((16,5),(16,16,0),some ((16,5),0,0))]),(6,[]),0)]
set_option maxRecDepth 100000 in
theorem q274_ok : rf_chkB q274_P q274_U wLay q274_M ddX11_undo [(8,[0])] [] [0] 600 q274_N = true := by decide +kernel
set_option maxHeartbeats 4000000 in
theorem q274_met {G : rfG} (h : okG G) : rf_met G q274_M := rf_methodB h.1 (P := q274_P) (U := q274_U) (N := q274_N) ⟨wflT h flokX11, wcsT h csokX11, wlcT h lcokX11, spokX11 h, List.forall_mem_cons.mpr ⟨q273_met h, fun _ h => absurd h List.not_mem_nil⟩, fun _ h => absurd h List.not_mem_nil, List.forall_mem_cons.mpr ⟨fun M hM => Option.some.inj (show some q273_M = some M from hM) ▸ wlkV (lkX11_204 h) q273_M rfl rfl, fun _ h => absurd h List.not_mem_nil⟩, fun _ h => absurd h List.not_mem_nil, fun _ h => absurd h List.not_mem_nil⟩ dkX11_undo (by decide +kernel) (by rw [h.2.2.1]; exact q274_ok)
/-- NearSpell.Archive.takeBack -/
def q275_M : rfM := ((⟨"NearSpell$Archive", "takeBack", "(LNearSpell$State;)Z"⟩, prog_2_method_4_code, 2, (some .boolean)), (2,41), ([.inr (.inl [16]),.inr (.inl [13])],[((16,4),(0,23,1),none),((16,5),(17,17,0),none)]), [(12,0),(16,5),(16,6)], [(some (.inl ((0,0,0),none)),[],[((16,4),(0,0,1),some ((16,4),0,0)),((16,5),(17,17,0),some ((16,5),0,0))]),(some (.inl ((1,1,0),none)),[],[((16,4),(0,22,1),some ((16,4),(-1),(-1))),((16,5),(18,18,0),some ((16,5),1,1))])])
def q275_P : rfP := (flX0,csX0,lcX0,spX0,[q240_M],[],[(37,0,0)],([],[]))
def q275_U : rfU := []
set_option maxHeartbeats 8000000 in
def q275_N : List rfB := [(0,([(0,.inr (.inl [16])),(1,.inr (.inl [13]))],[],[((16,4),(0,23,1),some ((16,4),0,0)),((16,5),(17,17,0),some ((16,5),0,0))]),(21,[]),0)]
set_option maxRecDepth 100000 in
theorem q275_ok : rf_chkB q275_P q275_U wLay q275_M ddX0_takeBack [(31,[0])] [] [0] 600 q275_N = true := by decide +kernel
set_option maxHeartbeats 4000000 in
theorem q275_met {G : rfG} (h : okG G) : rf_met G q275_M := rf_methodB h.1 (P := q275_P) (U := q275_U) (N := q275_N) ⟨wflT h flokX0, wcsT h csokX0, wlcT h lcokX0, spokX0 h, List.forall_mem_cons.mpr ⟨q240_met h, fun _ h => absurd h List.not_mem_nil⟩, fun _ h => absurd h List.not_mem_nil, List.forall_mem_cons.mpr ⟨fun M hM => Option.some.inj (show some q240_M = some M from hM) ▸ wlkV (lkX0_37 h) q240_M rfl rfl, fun _ h => absurd h List.not_mem_nil⟩, fun _ h => absurd h List.not_mem_nil, fun _ h => absurd h List.not_mem_nil⟩ dkX0_takeBack (by decide +kernel) (by rw [h.2.2.1]; exact q275_ok)
/-- NearSpell.undo -/
def q276_M : rfM := ((⟨"NearSpell", "undo", "()Z"⟩, prog_1_method_12_code, 1, (some .boolean)), (3,62), ([.inr (.inl [70])],[((16,4),(0,23,1),none),((16,5),(17,17,0),none)]), [(12,0),(16,5),(16,6)], [(some (.inl ((1,1,0),none)),[],[((16,4),(0,22,1),some ((16,4),(-1),(-1))),((16,5),(18,18,0),some ((16,5),1,1))]),(some (.inl ((0,0,0),none)),[],[((16,4),(0,0,1),some ((16,4),0,0)),((16,5),(17,17,0),some ((16,5),0,0))])])
def q276_P : rfP := (flX11,csX11,lcX11,spX11,[q275_M],[],[(204,0,0)],([],[]))
def q276_U : rfU := []
set_option maxHeartbeats 8000000 in
def q276_N : List rfB := [(0,([(0,.inr (.inl [70]))],[],[((16,4),(0,23,1),some ((16,4),0,0)),((16,5),(17,17,0),some ((16,5),0,0))]),(6,[]),0)]
set_option maxRecDepth 100000 in
theorem q276_ok : rf_chkB q276_P q276_U wLay q276_M ddX11_undo [(8,[0])] [] [0] 600 q276_N = true := by decide +kernel
set_option maxHeartbeats 4000000 in
theorem q276_met {G : rfG} (h : okG G) : rf_met G q276_M := rf_methodB h.1 (P := q276_P) (U := q276_U) (N := q276_N) ⟨wflT h flokX11, wcsT h csokX11, wlcT h lcokX11, spokX11 h, List.forall_mem_cons.mpr ⟨q275_met h, fun _ h => absurd h List.not_mem_nil⟩, fun _ h => absurd h List.not_mem_nil, List.forall_mem_cons.mpr ⟨fun M hM => Option.some.inj (show some q275_M = some M from hM) ▸ wlkV (lkX11_204 h) q275_M rfl rfl, fun _ h => absurd h List.not_mem_nil⟩, fun _ h => absurd h List.not_mem_nil, fun _ h => absurd h List.not_mem_nil⟩ dkX11_undo (by decide +kernel) (by rw [h.2.2.1]; exact q276_ok)
/-- NearSpell.Archive.takeBack -/
def q277_M : rfM := ((⟨"NearSpell$Archive", "takeBack", "(LNearSpell$State;)Z"⟩, prog_2_method_4_code, 2, (some .boolean)), (2,41), ([.inr (.inl [16]),.inr (.inl [13])],[((16,4),(0,22,1),none),((16,5),(18,18,0),none)]), [(12,0),(16,5),(16,6)], [(some (.inl ((0,0,0),none)),[],[((16,4),(0,0,1),some ((16,4),0,0)),((16,5),(18,18,0),some ((16,5),0,0))]),(some (.inl ((1,1,0),none)),[],[((16,4),(0,21,1),some ((16,4),(-1),(-1))),((16,5),(19,19,0),some ((16,5),1,1))])])
def q277_P : rfP := (flX0,csX0,lcX0,spX0,[q240_M],[],[(37,0,0)],([],[]))
def q277_U : rfU := []
set_option maxHeartbeats 8000000 in
def q277_N : List rfB := [(0,([(0,.inr (.inl [16])),(1,.inr (.inl [13]))],[],[((16,4),(0,22,1),some ((16,4),0,0)),((16,5),(18,18,0),some ((16,5),0,0))]),(21,[]),0)]
set_option maxRecDepth 100000 in
theorem q277_ok : rf_chkB q277_P q277_U wLay q277_M ddX0_takeBack [(31,[0])] [] [0] 600 q277_N = true := by decide +kernel
set_option maxHeartbeats 4000000 in
theorem q277_met {G : rfG} (h : okG G) : rf_met G q277_M := rf_methodB h.1 (P := q277_P) (U := q277_U) (N := q277_N) ⟨wflT h flokX0, wcsT h csokX0, wlcT h lcokX0, spokX0 h, List.forall_mem_cons.mpr ⟨q240_met h, fun _ h => absurd h List.not_mem_nil⟩, fun _ h => absurd h List.not_mem_nil, List.forall_mem_cons.mpr ⟨fun M hM => Option.some.inj (show some q240_M = some M from hM) ▸ wlkV (lkX0_37 h) q240_M rfl rfl, fun _ h => absurd h List.not_mem_nil⟩, fun _ h => absurd h List.not_mem_nil, fun _ h => absurd h List.not_mem_nil⟩ dkX0_takeBack (by decide +kernel) (by rw [h.2.2.1]; exact q277_ok)
/-- NearSpell.undo -/
def q278_M : rfM := ((⟨"NearSpell", "undo", "()Z"⟩, prog_1_method_12_code, 1, (some .boolean)), (3,62), ([.inr (.inl [70])],[((16,4),(0,22,1),none),((16,5),(18,18,0),none)]), [(12,0),(16,5),(16,6)], [(some (.inl ((1,1,0),none)),[],[((16,4),(0,21,1),some ((16,4),(-1),(-1))),((16,5),(19,19,0),some ((16,5),1,1))]),(some (.inl ((0,0,0),none)),[],[((16,4),(0,0,1),some ((16,4),0,0)),((16,5),(18,18,0),some ((16,5),0,0))])])
def q278_P : rfP := (flX11,csX11,lcX11,spX11,[q277_M],[],[(204,0,0)],([],[]))
def q278_U : rfU := []
set_option maxHeartbeats 8000000 in
def q278_N : List rfB := [(0,([(0,.inr (.inl [70]))],[],[((16,4),(0,22,1),some ((16,4),0,0)),((16,5),(18,18,0),some ((16,5),0,0))]),(6,[]),0)]
set_option maxRecDepth 100000 in
theorem q278_ok : rf_chkB q278_P q278_U wLay q278_M ddX11_undo [(8,[0])] [] [0] 600 q278_N = true := by decide +kernel
set_option maxHeartbeats 4000000 in
theorem q278_met {G : rfG} (h : okG G) : rf_met G q278_M := rf_methodB h.1 (P := q278_P) (U := q278_U) (N := q278_N) ⟨wflT h flokX11, wcsT h csokX11, wlcT h lcokX11, spokX11 h, List.forall_mem_cons.mpr ⟨q277_met h, fun _ h => absurd h List.not_mem_nil⟩, fun _ h => absurd h List.not_mem_nil, List.forall_mem_cons.mpr ⟨fun M hM => Option.some.inj (show some q277_M = some M from hM) ▸ wlkV (lkX11_204 h) q277_M rfl rfl, fun _ h => absurd h List.not_mem_nil⟩, fun _ h => absurd h List.not_mem_nil, fun _ h => absurd h List.not_mem_nil⟩ dkX11_undo (by decide +kernel) (by rw [h.2.2.1]; exact q278_ok)
/-- NearSpell.Archive.takeBack -/
def q279_M : rfM := ((⟨"NearSpell$Archive", "takeBack", "(LNearSpell$State;)Z"⟩, prog_2_method_4_code, 2, (some .boolean)), (2,41), ([.inr (.inl [16]),.inr (.inl [13])],[((16,4),(0,21,1),none),((16,5),(19,19,0),none)]), [(12,0),(16,5),(16,6)], [(some (.inl ((0,0,0),none)),[],[((16,4),(0,0,1),some ((16,4),0,0)),((16,5),(19,19,0),some ((16,5),0,0))]),(some (.inl ((1,1,0),none)),[],[((16,4),(0,20,1),some ((16,4),(-1),(-1))),((16,5),(20,20,0),some ((16,5),1,1))])])
def q279_P : rfP := (flX0,csX0,lcX0,spX0,[q240_M],[],[(37,0,0)],([],[]))
def q279_U : rfU := []
set_option maxHeartbeats 8000000 in
def q279_N : List rfB := [(0,([(0,.inr (.inl [16])),(1,.inr (.inl [13]))],[],[((16,4),(0,21,1),some ((16,4),0,0)),((16,5),(19,19,0),some ((16,5),0,0))]),(21,[]),0)]
set_option maxRecDepth 100000 in
theorem q279_ok : rf_chkB q279_P q279_U wLay q279_M ddX0_takeBack [(31,[0])] [] [0] 600 q279_N = true := by decide +kernel
set_option maxHeartbeats 4000000 in
theorem q279_met {G : rfG} (h : okG G) : rf_met G q279_M := rf_methodB h.1 (P := q279_P) (U := q279_U) (N := q279_N) ⟨wflT h flokX0, wcsT h csokX0, wlcT h lcokX0, spokX0 h, List.forall_mem_cons.mpr ⟨q240_met h, fun _ h => absurd h List.not_mem_nil⟩, fun _ h => absurd h List.not_mem_nil, List.forall_mem_cons.mpr ⟨fun M hM => Option.some.inj (show some q240_M = some M from hM) ▸ wlkV (lkX0_37 h) q240_M rfl rfl, fun _ h => absurd h List.not_mem_nil⟩, fun _ h => absurd h List.not_mem_nil, fun _ h => absurd h List.not_mem_nil⟩ dkX0_takeBack (by decide +kernel) (by rw [h.2.2.1]; exact q279_ok)
/-- NearSpell.undo -/
def q280_M : rfM := ((⟨"NearSpell", "undo", "()Z"⟩, prog_1_method_12_code, 1, (some .boolean)), (3,62), ([.inr (.inl [70])],[((16,4),(0,21,1),none),((16,5),(19,19,0),none)]), [(12,0),(16,5),(16,6)], [(some (.inl ((1,1,0),none)),[],[((16,4),(0,20,1),some ((16,4),(-1),(-1))),((16,5),(20,20,0),some ((16,5),1,1))]),(some (.inl ((0,0,0),none)),[],[((16,4),(0,0,1),some ((16,4),0,0)),((16,5),(19,19,0),some ((16,5),0,0))])])
def q280_P : rfP := (flX11,csX11,lcX11,spX11,[q279_M],[],[(204,0,0)],([],[]))
def q280_U : rfU := []
set_option maxHeartbeats 8000000 in
def q280_N : List rfB := [(0,([(0,.inr (.inl [70]))],[],[((16,4),(0,21,1),some ((16,4),0,0)),((16,5),(19,19,0),some ((16,5),0,0))]),(6,[]),0)]
set_option maxRecDepth 100000 in
theorem q280_ok : rf_chkB q280_P q280_U wLay q280_M ddX11_undo [(8,[0])] [] [0] 600 q280_N = true := by decide +kernel
set_option maxHeartbeats 4000000 in
theorem q280_met {G : rfG} (h : okG G) : rf_met G q280_M := rf_methodB h.1 (P := q280_P) (U := q280_U) (N := q280_N) ⟨wflT h flokX11, wcsT h csokX11, wlcT h lcokX11, spokX11 h, List.forall_mem_cons.mpr ⟨q279_met h, fun _ h => absurd h List.not_mem_nil⟩, fun _ h => absurd h List.not_mem_nil, List.forall_mem_cons.mpr ⟨fun M hM => Option.some.inj (show some q279_M = some M from hM) ▸ wlkV (lkX11_204 h) q279_M rfl rfl, fun _ h => absurd h List.not_mem_nil⟩, fun _ h => absurd h List.not_mem_nil, fun _ h => absurd h List.not_mem_nil⟩ dkX11_undo (by decide +kernel) (by rw [h.2.2.1]; exact q280_ok)
/-- NearSpell.Archive.takeBack -/
def q281_M : rfM := ((⟨"NearSpell$Archive", "takeBack", "(LNearSpell$State;)Z"⟩, prog_2_method_4_code, 2, (some .boolean)), (2,41), ([.inr (.inl [16]),.inr (.inl [13])],[((16,4),(0,20,1),none),((16,5),(20,20,0),none)]), [(12,0),(16,5),(16,6)], [(some (.inl ((0,0,0),none)),[],[((16,4),(0,0,1),some ((16,4),0,0)),((16,5),(20,20,0),some ((16,5),0,0))]),(some (.inl ((1,1,0),none)),[],[((16,4),(0,19,1),some ((16,4),(-1),(-1))),((16,5),(21,21,0),some ((16,5),1,1))])])
def q281_P : rfP := (flX0,csX0,lcX0,spX0,[q240_M],[],[(37,0,0)],([],[]))
def q281_U : rfU := []
set_option maxHeartbeats 8000000 in
def q281_N : List rfB := [(0,([(0,.inr (.inl [16])),(1,.inr (.inl [13]))],[],[((16,4),(0,20,1),some ((16,4),0,0)),((16,5),(20,20,0),some ((16,5),0,0))]),(21,[]),0)]
set_option maxRecDepth 100000 in
theorem q281_ok : rf_chkB q281_P q281_U wLay q281_M ddX0_takeBack [(31,[0])] [] [0] 600 q281_N = true := by decide +kernel
set_option maxHeartbeats 4000000 in
theorem q281_met {G : rfG} (h : okG G) : rf_met G q281_M := rf_methodB h.1 (P := q281_P) (U := q281_U) (N := q281_N) ⟨wflT h flokX0, wcsT h csokX0, wlcT h lcokX0, spokX0 h, List.forall_mem_cons.mpr ⟨q240_met h, fun _ h => absurd h List.not_mem_nil⟩, fun _ h => absurd h List.not_mem_nil, List.forall_mem_cons.mpr ⟨fun M hM => Option.some.inj (show some q240_M = some M from hM) ▸ wlkV (lkX0_37 h) q240_M rfl rfl, fun _ h => absurd h List.not_mem_nil⟩, fun _ h => absurd h List.not_mem_nil, fun _ h => absurd h List.not_mem_nil⟩ dkX0_takeBack (by decide +kernel) (by rw [h.2.2.1]; exact q281_ok)
/-- NearSpell.undo -/
def q282_M : rfM := ((⟨"NearSpell", "undo", "()Z"⟩, prog_1_method_12_code, 1, (some .boolean)), (3,62), ([.inr (.inl [70])],[((16,4),(0,20,1),none),((16,5),(20,20,0),none)]), [(12,0),(16,5),(16,6)], [(some (.inl ((1,1,0),none)),[],[((16,4),(0,19,1),some ((16,4),(-1),(-1))),((16,5),(21,21,0),some ((16,5),1,1))]),(some (.inl ((0,0,0),none)),[],[((16,4),(0,0,1),some ((16,4),0,0)),((16,5),(20,20,0),some ((16,5),0,0))])])
def q282_P : rfP := (flX11,csX11,lcX11,spX11,[q281_M],[],[(204,0,0)],([],[]))
def q282_U : rfU := []
set_option maxHeartbeats 8000000 in
def q282_N : List rfB := [(0,([(0,.inr (.inl [70]))],[],[((16,4),(0,20,1),some ((16,4),0,0)),((16,5),(20,20,0),some ((16,5),0,0))]),(6,[]),0)]
set_option maxRecDepth 100000 in
theorem q282_ok : rf_chkB q282_P q282_U wLay q282_M ddX11_undo [(8,[0])] [] [0] 600 q282_N = true := by decide +kernel
set_option maxHeartbeats 4000000 in
theorem q282_met {G : rfG} (h : okG G) : rf_met G q282_M := rf_methodB h.1 (P := q282_P) (U := q282_U) (N := q282_N) ⟨wflT h flokX11, wcsT h csokX11, wlcT h lcokX11, spokX11 h, List.forall_mem_cons.mpr ⟨q281_met h, fun _ h => absurd h List.not_mem_nil⟩, fun _ h => absurd h List.not_mem_nil, List.forall_mem_cons.mpr ⟨fun M hM => Option.some.inj (show some q281_M = some M from hM) ▸ wlkV (lkX11_204 h) q281_M rfl rfl, fun _ h => absurd h List.not_mem_nil⟩, fun _ h => absurd h List.not_mem_nil, fun _ h => absurd h List.not_mem_nil⟩ dkX11_undo (by decide +kernel) (by rw [h.2.2.1]; exact q282_ok)
/-- NearSpell.Archive.takeBack -/
def q283_M : rfM := ((⟨"NearSpell$Archive", "takeBack", "(LNearSpell$State;)Z"⟩, prog_2_method_4_code, 2, (some .boolean)), (2,41), ([.inr (.inl [16]),.inr (.inl [13])],[((16,4),(0,19,1),none),((16,5),(21,21,0),none)]), [(12,0),(16,5),(16,6)], [(some (.inl ((0,0,0),none)),[],[((16,4),(0,0,1),some ((16,4),0,0)),((16,5),(21,21,0),some ((16,5),0,0))]),(some (.inl ((1,1,0),none)),[],[((16,4),(0,18,1),some ((16,4),(-1),(-1))),((16,5),(22,22,0),some ((16,5),1,1))])])
def q283_P : rfP := (flX0,csX0,lcX0,spX0,[q240_M],[],[(37,0,0)],([],[]))
def q283_U : rfU := []
set_option maxHeartbeats 8000000 in
def q283_N : List rfB := [(0,([(0,.inr (.inl [16])),(1,.inr (.inl [13]))],[],[((16,4),(0,19,1),some ((16,4),0,0)),((16,5),(21,21,0),some ((16,5),0,0))]),(21,[]),0)]
set_option maxRecDepth 100000 in
theorem q283_ok : rf_chkB q283_P q283_U wLay q283_M ddX0_takeBack [(31,[0])] [] [0] 600 q283_N = true := by decide +kernel
set_option maxHeartbeats 4000000 in
theorem q283_met {G : rfG} (h : okG G) : rf_met G q283_M := rf_methodB h.1 (P := q283_P) (U := q283_U) (N := q283_N) ⟨wflT h flokX0, wcsT h csokX0, wlcT h lcokX0, spokX0 h, List.forall_mem_cons.mpr ⟨q240_met h, fun _ h => absurd h List.not_mem_nil⟩, fun _ h => absurd h List.not_mem_nil, List.forall_mem_cons.mpr ⟨fun M hM => Option.some.inj (show some q240_M = some M from hM) ▸ wlkV (lkX0_37 h) q240_M rfl rfl, fun _ h => absurd h List.not_mem_nil⟩, fun _ h => absurd h List.not_mem_nil, fun _ h => absurd h List.not_mem_nil⟩ dkX0_takeBack (by decide +kernel) (by rw [h.2.2.1]; exact q283_ok)
/-- NearSpell.undo -/
def q284_M : rfM := ((⟨"NearSpell", "undo", "()Z"⟩, prog_1_method_12_code, 1, (some .boolean)), (3,62), ([.inr (.inl [70])],[((16,4),(0,19,1),none),((16,5),(21,21,0),none)]), [(12,0),(16,5),(16,6)], [(some (.inl ((1,1,0),none)),[],[((16,4),(0,18,1),some ((16,4),(-1),(-1))),((16,5),(22,22,0),some ((16,5),1,1))]),(some (.inl ((0,0,0),none)),[],[((16,4),(0,0,1),some ((16,4),0,0)),((16,5),(21,21,0),some ((16,5),0,0))])])
def q284_P : rfP := (flX11,csX11,lcX11,spX11,[q283_M],[],[(204,0,0)],([],[]))
def q284_U : rfU := []
set_option maxHeartbeats 8000000 in
def q284_N : List rfB := [(0,([(0,.inr (.inl [70]))],[],[((16,4),(0,19,1),some ((16,4),0,0)),((16,5),(21,21,0),some ((16,5),0,0))]),(6,[]),0)]
set_option maxRecDepth 100000 in
theorem q284_ok : rf_chkB q284_P q284_U wLay q284_M ddX11_undo [(8,[0])] [] [0] 600 q284_N = true := by decide +kernel
set_option maxHeartbeats 4000000 in
theorem q284_met {G : rfG} (h : okG G) : rf_met G q284_M := rf_methodB h.1 (P := q284_P) (U := q284_U) (N := q284_N) ⟨wflT h flokX11, wcsT h csokX11, wlcT h lcokX11, spokX11 h, List.forall_mem_cons.mpr ⟨q283_met h, fun _ h => absurd h List.not_mem_nil⟩, fun _ h => absurd h List.not_mem_nil, List.forall_mem_cons.mpr ⟨fun M hM => Option.some.inj (show some q283_M = some M from hM) ▸ wlkV (lkX11_204 h) q283_M rfl rfl, fun _ h => absurd h List.not_mem_nil⟩, fun _ h => absurd h List.not_mem_nil, fun _ h => absurd h List.not_mem_nil⟩ dkX11_undo (by decide +kernel) (by rw [h.2.2.1]; exact q284_ok)
/-- NearSpell.Archive.takeBack -/
def q285_M : rfM := ((⟨"NearSpell$Archive", "takeBack", "(LNearSpell$State;)Z"⟩, prog_2_method_4_code, 2, (some .boolean)), (2,41), ([.inr (.inl [16]),.inr (.inl [13])],[((16,4),(0,18,1),none),((16,5),(22,22,0),none)]), [(12,0),(16,5),(16,6)], [(some (.inl ((0,0,0),none)),[],[((16,4),(0,0,1),some ((16,4),0,0)),((16,5),(22,22,0),some ((16,5),0,0))]),(some (.inl ((1,1,0),none)),[],[((16,4),(0,17,1),some ((16,4),(-1),(-1))),((16,5),(23,23,0),some ((16,5),1,1))])])
def q285_P : rfP := (flX0,csX0,lcX0,spX0,[q240_M],[],[(37,0,0)],([],[]))
def q285_U : rfU := []
set_option maxHeartbeats 8000000 in
def q285_N : List rfB := [(0,([(0,.inr (.inl [16])),(1,.inr (.inl [13]))],[],[((16,4),(0,18,1),some ((16,4),0,0)),((16,5),(22,22,0),some ((16,5),0,0))]),(21,[]),0)]
set_option maxRecDepth 100000 in
theorem q285_ok : rf_chkB q285_P q285_U wLay q285_M ddX0_takeBack [(31,[0])] [] [0] 600 q285_N = true := by decide +kernel
set_option maxHeartbeats 4000000 in
theorem q285_met {G : rfG} (h : okG G) : rf_met G q285_M := rf_methodB h.1 (P := q285_P) (U := q285_U) (N := q285_N) ⟨wflT h flokX0, wcsT h csokX0, wlcT h lcokX0, spokX0 h, List.forall_mem_cons.mpr ⟨q240_met h, fun _ h => absurd h List.not_mem_nil⟩, fun _ h => absurd h List.not_mem_nil, List.forall_mem_cons.mpr ⟨fun M hM => Option.some.inj (show some q240_M = some M from hM) ▸ wlkV (lkX0_37 h) q240_M rfl rfl, fun _ h => absurd h List.not_mem_nil⟩, fun _ h => absurd h List.not_mem_nil, fun _ h => absurd h List.not_mem_nil⟩ dkX0_takeBack (by decide +kernel) (by rw [h.2.2.1]; exact q285_ok)
/-- NearSpell.undo -/
def q286_M : rfM := ((⟨"NearSpell", "undo", "()Z"⟩, prog_1_method_12_code, 1, (some .boolean)), (3,62), ([.inr (.inl [70])],[((16,4),(0,18,1),none),((16,5),(22,22,0),none)]), [(12,0),(16,5),(16,6)], [(some (.inl ((1,1,0),none)),[],[((16,4),(0,17,1),some ((16,4),(-1),(-1))),((16,5),(23,23,0),some ((16,5),1,1))]),(some (.inl ((0,0,0),none)),[],[((16,4),(0,0,1),some ((16,4),0,0)),((16,5),(22,22,0),some ((16,5),0,0))])])
def q286_P : rfP := (flX11,csX11,lcX11,spX11,[q285_M],[],[(204,0,0)],([],[]))
def q286_U : rfU := []
set_option maxHeartbeats 8000000 in
def q286_N : List rfB := [(0,([(0,.inr (.inl [70]))],[],[((16,4),(0,18,1),some ((16,4),0,0)),((16,5),(22,22,0),some ((16,5),0,0))]),(6,[]),0)]
set_option maxRecDepth 100000 in
theorem q286_ok : rf_chkB q286_P q286_U wLay q286_M ddX11_undo [(8,[0])] [] [0] 600 q286_N = true := by decide +kernel
set_option maxHeartbeats 4000000 in
theorem q286_met {G : rfG} (h : okG G) : rf_met G q286_M := rf_methodB h.1 (P := q286_P) (U := q286_U) (N := q286_N) ⟨wflT h flokX11, wcsT h csokX11, wlcT h lcokX11, spokX11 h, List.forall_mem_cons.mpr ⟨q285_met h, fun _ h => absurd h List.not_mem_nil⟩, fun _ h => absurd h List.not_mem_nil, List.forall_mem_cons.mpr ⟨fun M hM => Option.some.inj (show some q285_M = some M from hM) ▸ wlkV (lkX11_204 h) q285_M rfl rfl, fun _ h => absurd h List.not_mem_nil⟩, fun _ h => absurd h List.not_mem_nil, fun _ h => absurd h List.not_mem_nil⟩ dkX11_undo (by decide +kernel) (by rw [h.2.2.1]; exact q286_ok)
/-- NearSpell.Archive.takeBack -/
def q287_M : rfM := ((⟨"NearSpell$Archive", "takeBack", "(LNearSpell$State;)Z"⟩, prog_2_method_4_code, 2, (some .boolean)), (2,41), ([.inr (.inl [16]),.inr (.inl [13])],[((16,4),(0,17,1),none),((16,5),(23,23,0),none)]), [(12,0),(16,5),(16,6)], [(some (.inl ((0,0,0),none)),[],[((16,4),(0,0,1),some ((16,4),0,0)),((16,5),(23,23,0),some ((16,5),0,0))]),(some (.inl ((1,1,0),none)),[],[((16,4),(0,16,1),some ((16,4),(-1),(-1))),((16,5),(24,24,0),some ((16,5),1,1))])])
def q287_P : rfP := (flX0,csX0,lcX0,spX0,[q240_M],[],[(37,0,0)],([],[]))
def q287_U : rfU := []
set_option maxHeartbeats 8000000 in
def q287_N : List rfB := [(0,([(0,.inr (.inl [16])),(1,.inr (.inl [13]))],[],[((16,4),(0,17,1),some ((16,4),0,0)),((16,5),(23,23,0),some ((16,5),0,0))]),(21,[]),0)]
set_option maxRecDepth 100000 in
theorem q287_ok : rf_chkB q287_P q287_U wLay q287_M ddX0_takeBack [(31,[0])] [] [0] 600 q287_N = true := by decide +kernel
set_option maxHeartbeats 4000000 in
theorem q287_met {G : rfG} (h : okG G) : rf_met G q287_M := rf_methodB h.1 (P := q287_P) (U := q287_U) (N := q287_N) ⟨wflT h flokX0, wcsT h csokX0, wlcT h lcokX0, spokX0 h, List.forall_mem_cons.mpr ⟨q240_met h, fun _ h => absurd h List.not_mem_nil⟩, fun _ h => absurd h List.not_mem_nil, List.forall_mem_cons.mpr ⟨fun M hM => Option.some.inj (show some q240_M = some M from hM) ▸ wlkV (lkX0_37 h) q240_M rfl rfl, fun _ h => absurd h List.not_mem_nil⟩, fun _ h => absurd h List.not_mem_nil, fun _ h => absurd h List.not_mem_nil⟩ dkX0_takeBack (by decide +kernel) (by rw [h.2.2.1]; exact q287_ok)
/-- NearSpell.undo -/
def q288_M : rfM := ((⟨"NearSpell", "undo", "()Z"⟩, prog_1_method_12_code, 1, (some .boolean)), (3,62), ([.inr (.inl [70])],[((16,4),(0,17,1),none),((16,5),(23,23,0),none)]), [(12,0),(16,5),(16,6)], [(some (.inl ((1,1,0),none)),[],[((16,4),(0,16,1),some ((16,4),(-1),(-1))),((16,5),(24,24,0),some ((16,5),1,1))]),(some (.inl ((0,0,0),none)),[],[((16,4),(0,0,1),some ((16,4),0,0)),((16,5),(23,23,0),some ((16,5),0,0))])])
def q288_P : rfP := (flX11,csX11,lcX11,spX11,[q287_M],[],[(204,0,0)],([],[]))
def q288_U : rfU := []
set_option maxHeartbeats 8000000 in
def q288_N : List rfB := [(0,([(0,.inr (.inl [70]))],[],[((16,4),(0,17,1),some ((16,4),0,0)),((16,5),(23,23,0),some ((16,5),0,0))]),(6,[]),0)]
set_option maxRecDepth 100000 in
theorem q288_ok : rf_chkB q288_P q288_U wLay q288_M ddX11_undo [(8,[0])] [] [0] 600 q288_N = true := by decide +kernel
set_option maxHeartbeats 4000000 in
theorem q288_met {G : rfG} (h : okG G) : rf_met G q288_M := rf_methodB h.1 (P := q288_P) (U := q288_U) (N := q288_N) ⟨wflT h flokX11, wcsT h csokX11, wlcT h lcokX11, spokX11 h, List.forall_mem_cons.mpr ⟨q287_met h, fun _ h => absurd h List.not_mem_nil⟩, fun _ h => absurd h List.not_mem_nil, List.forall_mem_cons.mpr ⟨fun M hM => Option.some.inj (show some q287_M = some M from hM) ▸ wlkV (lkX11_204 h) q287_M rfl rfl, fun _ h => absurd h List.not_mem_nil⟩, fun _ h => absurd h List.not_mem_nil, fun _ h => absurd h List.not_mem_nil⟩ dkX11_undo (by decide +kernel) (by rw [h.2.2.1]; exact q288_ok)
/-- NearSpell.Archive.takeBack -/
def q289_M : rfM := ((⟨"NearSpell$Archive", "takeBack", "(LNearSpell$State;)Z"⟩, prog_2_method_4_code, 2, (some .boolean)), (2,41), ([.inr (.inl [16]),.inr (.inl [13])],[((16,4),(0,16,1),none),((16,5),(24,24,0),none)]), [(12,0),(16,5),(16,6)], [(some (.inl ((0,0,0),none)),[],[((16,4),(0,0,1),some ((16,4),0,0)),((16,5),(24,24,0),some ((16,5),0,0))]),(some (.inl ((1,1,0),none)),[],[((16,4),(0,15,1),some ((16,4),(-1),(-1))),((16,5),(25,25,0),some ((16,5),1,1))])])
def q289_P : rfP := (flX0,csX0,lcX0,spX0,[q240_M],[],[(37,0,0)],([],[]))
def q289_U : rfU := []
set_option maxHeartbeats 8000000 in
def q289_N : List rfB := [(0,([(0,.inr (.inl [16])),(1,.inr (.inl [13]))],[],[((16,4),(0,16,1),some ((16,4),0,0)),((16,5),(24,24,0),some ((16,5),0,0))]),(21,[]),0)]
set_option maxRecDepth 100000 in
theorem q289_ok : rf_chkB q289_P q289_U wLay q289_M ddX0_takeBack [(31,[0])] [] [0] 600 q289_N = true := by decide +kernel
set_option maxHeartbeats 4000000 in
theorem q289_met {G : rfG} (h : okG G) : rf_met G q289_M := rf_methodB h.1 (P := q289_P) (U := q289_U) (N := q289_N) ⟨wflT h flokX0, wcsT h csokX0, wlcT h lcokX0, spokX0 h, List.forall_mem_cons.mpr ⟨q240_met h, fun _ h => absurd h List.not_mem_nil⟩, fun _ h => absurd h List.not_mem_nil, List.forall_mem_cons.mpr ⟨fun M hM => Option.some.inj (show some q240_M = some M from hM) ▸ wlkV (lkX0_37 h) q240_M rfl rfl, fun _ h => absurd h List.not_mem_nil⟩, fun _ h => absurd h List.not_mem_nil, fun _ h => absurd h List.not_mem_nil⟩ dkX0_takeBack (by decide +kernel) (by rw [h.2.2.1]; exact q289_ok)
/-- NearSpell.undo -/
def q290_M : rfM := ((⟨"NearSpell", "undo", "()Z"⟩, prog_1_method_12_code, 1, (some .boolean)), (3,62), ([.inr (.inl [70])],[((16,4),(0,16,1),none),((16,5),(24,24,0),none)]), [(12,0),(16,5),(16,6)], [(some (.inl ((1,1,0),none)),[],[((16,4),(0,15,1),some ((16,4),(-1),(-1))),((16,5),(25,25,0),some ((16,5),1,1))]),(some (.inl ((0,0,0),none)),[],[((16,4),(0,0,1),some ((16,4),0,0)),((16,5),(24,24,0),some ((16,5),0,0))])])
def q290_P : rfP := (flX11,csX11,lcX11,spX11,[q289_M],[],[(204,0,0)],([],[]))
def q290_U : rfU := []
set_option maxHeartbeats 8000000 in
def q290_N : List rfB := [(0,([(0,.inr (.inl [70]))],[],[((16,4),(0,16,1),some ((16,4),0,0)),((16,5),(24,24,0),some ((16,5),0,0))]),(6,[]),0)]
set_option maxRecDepth 100000 in
theorem q290_ok : rf_chkB q290_P q290_U wLay q290_M ddX11_undo [(8,[0])] [] [0] 600 q290_N = true := by decide +kernel
set_option maxHeartbeats 4000000 in
theorem q290_met {G : rfG} (h : okG G) : rf_met G q290_M := rf_methodB h.1 (P := q290_P) (U := q290_U) (N := q290_N) ⟨wflT h flokX11, wcsT h csokX11, wlcT h lcokX11, spokX11 h, List.forall_mem_cons.mpr ⟨q289_met h, fun _ h => absurd h List.not_mem_nil⟩, fun _ h => absurd h List.not_mem_nil, List.forall_mem_cons.mpr ⟨fun M hM => Option.some.inj (show some q289_M = some M from hM) ▸ wlkV (lkX11_204 h) q289_M rfl rfl, fun _ h => absurd h List.not_mem_nil⟩, fun _ h => absurd h List.not_mem_nil, fun _ h => absurd h List.not_mem_nil⟩ dkX11_undo (by decide +kernel) (by rw [h.2.2.1]; exact q290_ok)
/-- NearSpell.Archive.takeBack -/
def q291_M : rfM := ((⟨"NearSpell$Archive", "takeBack", "(LNearSpell$State;)Z"⟩, prog_2_method_4_code, 2, (some .boolean)), (2,41), ([.inr (.inl [16]),.inr (.inl [13])],[((16,4),(0,15,1),none),((16,5),(25,25,0),none)]), [(12,0),(16,5),(16,6)], [(some (.inl ((0,0,0),none)),[],[((16,4),(0,0,1),some ((16,4),0,0)),((16,5),(25,25,0),some ((16,5),0,0))]),(some (.inl ((1,1,0),none)),[],[((16,4),(0,14,1),some ((16,4),(-1),(-1))),((16,5),(26,26,0),some ((16,5),1,1))])])
def q291_P : rfP := (flX0,csX0,lcX0,spX0,[q240_M],[],[(37,0,0)],([],[]))
def q291_U : rfU := []
set_option maxHeartbeats 8000000 in
def q291_N : List rfB := [(0,([(0,.inr (.inl [16])),(1,.inr (.inl [13]))],[],[((16,4),(0,15,1),some ((16,4),0,0)),((16,5),(25,25,0),some ((16,5),0,0))]),(21,[]),0)]
set_option maxRecDepth 100000 in
theorem q291_ok : rf_chkB q291_P q291_U wLay q291_M ddX0_takeBack [(31,[0])] [] [0] 600 q291_N = true := by decide +kernel
set_option maxHeartbeats 4000000 in
theorem q291_met {G : rfG} (h : okG G) : rf_met G q291_M := rf_methodB h.1 (P := q291_P) (U := q291_U) (N := q291_N) ⟨wflT h flokX0, wcsT h csokX0, wlcT h lcokX0, spokX0 h, List.forall_mem_cons.mpr ⟨q240_met h, fun _ h => absurd h List.not_mem_nil⟩, fun _ h => absurd h List.not_mem_nil, List.forall_mem_cons.mpr ⟨fun M hM => Option.some.inj (show some q240_M = some M from hM) ▸ wlkV (lkX0_37 h) q240_M rfl rfl, fun _ h => absurd h List.not_mem_nil⟩, fun _ h => absurd h List.not_mem_nil, fun _ h => absurd h List.not_mem_nil⟩ dkX0_takeBack (by decide +kernel) (by rw [h.2.2.1]; exact q291_ok)
/-- NearSpell.undo -/
def q292_M : rfM := ((⟨"NearSpell", "undo", "()Z"⟩, prog_1_method_12_code, 1, (some .boolean)), (3,62), ([.inr (.inl [70])],[((16,4),(0,15,1),none),((16,5),(25,25,0),none)]), [(12,0),(16,5),(16,6)], [(some (.inl ((1,1,0),none)),[],[((16,4),(0,14,1),some ((16,4),(-1),(-1))),((16,5),(26,26,0),some ((16,5),1,1))]),(some (.inl ((0,0,0),none)),[],[((16,4),(0,0,1),some ((16,4),0,0)),((16,5),(25,25,0),some ((16,5),0,0))])])
def q292_P : rfP := (flX11,csX11,lcX11,spX11,[q291_M],[],[(204,0,0)],([],[]))
def q292_U : rfU := []
set_option maxHeartbeats 8000000 in
def q292_N : List rfB := [(0,([(0,.inr (.inl [70]))],[],[((16,4),(0,15,1),some ((16,4),0,0)),((16,5),(25,25,0),some ((16,5),0,0))]),(6,[]),0)]
set_option maxRecDepth 100000 in
theorem q292_ok : rf_chkB q292_P q292_U wLay q292_M ddX11_undo [(8,[0])] [] [0] 600 q292_N = true := by decide +kernel
set_option maxHeartbeats 4000000 in
theorem q292_met {G : rfG} (h : okG G) : rf_met G q292_M := rf_methodB h.1 (P := q292_P) (U := q292_U) (N := q292_N) ⟨wflT h flokX11, wcsT h csokX11, wlcT h lcokX11, spokX11 h, List.forall_mem_cons.mpr ⟨q291_met h, fun _ h => absurd h List.not_mem_nil⟩, fun _ h => absurd h List.not_mem_nil, List.forall_mem_cons.mpr ⟨fun M hM => Option.some.inj (show some q291_M = some M from hM) ▸ wlkV (lkX11_204 h) q291_M rfl rfl, fun _ h => absurd h List.not_mem_nil⟩, fun _ h => absurd h List.not_mem_nil, fun _ h => absurd h List.not_mem_nil⟩ dkX11_undo (by decide +kernel) (by rw [h.2.2.1]; exact q292_ok)
/-- NearSpell.Archive.takeBack -/
def q293_M : rfM := ((⟨"NearSpell$Archive", "takeBack", "(LNearSpell$State;)Z"⟩, prog_2_method_4_code, 2, (some .boolean)), (2,41), ([.inr (.inl [16]),.inr (.inl [13])],[((16,4),(0,14,1),none),((16,5),(26,26,0),none)]), [(12,0),(16,5),(16,6)], [(some (.inl ((0,0,0),none)),[],[((16,4),(0,0,1),some ((16,4),0,0)),((16,5),(26,26,0),some ((16,5),0,0))]),(some (.inl ((1,1,0),none)),[],[((16,4),(0,13,1),some ((16,4),(-1),(-1))),((16,5),(27,27,0),some ((16,5),1,1))])])
def q293_P : rfP := (flX0,csX0,lcX0,spX0,[q240_M],[],[(37,0,0)],([],[]))
def q293_U : rfU := []
set_option maxHeartbeats 8000000 in
def q293_N : List rfB := [(0,([(0,.inr (.inl [16])),(1,.inr (.inl [13]))],[],[((16,4),(0,14,1),some ((16,4),0,0)),((16,5),(26,26,0),some ((16,5),0,0))]),(21,[]),0)]
set_option maxRecDepth 100000 in
theorem q293_ok : rf_chkB q293_P q293_U wLay q293_M ddX0_takeBack [(31,[0])] [] [0] 600 q293_N = true := by decide +kernel
set_option maxHeartbeats 4000000 in
theorem q293_met {G : rfG} (h : okG G) : rf_met G q293_M := rf_methodB h.1 (P := q293_P) (U := q293_U) (N := q293_N) ⟨wflT h flokX0, wcsT h csokX0, wlcT h lcokX0, spokX0 h, List.forall_mem_cons.mpr ⟨q240_met h, fun _ h => absurd h List.not_mem_nil⟩, fun _ h => absurd h List.not_mem_nil, List.forall_mem_cons.mpr ⟨fun M hM => Option.some.inj (show some q240_M = some M from hM) ▸ wlkV (lkX0_37 h) q240_M rfl rfl, fun _ h => absurd h List.not_mem_nil⟩, fun _ h => absurd h List.not_mem_nil, fun _ h => absurd h List.not_mem_nil⟩ dkX0_takeBack (by decide +kernel) (by rw [h.2.2.1]; exact q293_ok)
/-- NearSpell.undo -/
def q294_M : rfM := ((⟨"NearSpell", "undo", "()Z"⟩, prog_1_method_12_code, 1, (some .boolean)), (3,62), ([.inr (.inl [70])],[((16,4),(0,14,1),none),((16,5),(26,26,0),none)]), [(12,0),(16,5),(16,6)], [(some (.inl ((1,1,0),none)),[],[((16,4),(0,13,1),some ((16,4),(-1),(-1))),((16,5),(27,27,0),some ((16,5),1,1))]),(some (.inl ((0,0,0),none)),[],[((16,4),(0,0,1),some ((16,4),0,0)),((16,5),(26,26,0),some ((16,5),0,0))])])
def q294_P : rfP := (flX11,csX11,lcX11,spX11,[q293_M],[],[(204,0,0)],([],[]))
def q294_U : rfU := []
set_option maxHeartbeats 8000000 in
def q294_N : List rfB := [(0,([(0,.inr (.inl [70]))],[],[((16,4),(0,14,1),some ((16,4),0,0)),((16,5),(26,26,0),some ((16,5),0,0))]),(6,[]),0)]
set_option maxRecDepth 100000 in
theorem q294_ok : rf_chkB q294_P q294_U wLay q294_M ddX11_undo [(8,[0])] [] [0] 600 q294_N = true := by decide +kernel
set_option maxHeartbeats 4000000 in
theorem q294_met {G : rfG} (h : okG G) : rf_met G q294_M := rf_methodB h.1 (P := q294_P) (U := q294_U) (N := q294_N) ⟨wflT h flokX11, wcsT h csokX11, wlcT h lcokX11, spokX11 h, List.forall_mem_cons.mpr ⟨q293_met h, fun _ h => absurd h List.not_mem_nil⟩, fun _ h => absurd h List.not_mem_nil, List.forall_mem_cons.mpr ⟨fun M hM => Option.some.inj (show some q293_M = some M from hM) ▸ wlkV (lkX11_204 h) q293_M rfl rfl, fun _ h => absurd h List.not_mem_nil⟩, fun _ h => absurd h List.not_mem_nil, fun _ h => absurd h List.not_mem_nil⟩ dkX11_undo (by decide +kernel) (by rw [h.2.2.1]; exact q294_ok)
/-- NearSpell.Archive.takeBack -/
def q295_M : rfM := ((⟨"NearSpell$Archive", "takeBack", "(LNearSpell$State;)Z"⟩, prog_2_method_4_code, 2, (some .boolean)), (2,41), ([.inr (.inl [16]),.inr (.inl [13])],[((16,4),(0,13,1),none),((16,5),(27,27,0),none)]), [(12,0),(16,5),(16,6)], [(some (.inl ((0,0,0),none)),[],[((16,4),(0,0,1),some ((16,4),0,0)),((16,5),(27,27,0),some ((16,5),0,0))]),(some (.inl ((1,1,0),none)),[],[((16,4),(0,12,1),some ((16,4),(-1),(-1))),((16,5),(28,28,0),some ((16,5),1,1))])])
def q295_P : rfP := (flX0,csX0,lcX0,spX0,[q240_M],[],[(37,0,0)],([],[]))
def q295_U : rfU := []
set_option maxHeartbeats 8000000 in
def q295_N : List rfB := [(0,([(0,.inr (.inl [16])),(1,.inr (.inl [13]))],[],[((16,4),(0,13,1),some ((16,4),0,0)),((16,5),(27,27,0),some ((16,5),0,0))]),(21,[]),0)]
set_option maxRecDepth 100000 in
theorem q295_ok : rf_chkB q295_P q295_U wLay q295_M ddX0_takeBack [(31,[0])] [] [0] 600 q295_N = true := by decide +kernel
set_option maxHeartbeats 4000000 in
theorem q295_met {G : rfG} (h : okG G) : rf_met G q295_M := rf_methodB h.1 (P := q295_P) (U := q295_U) (N := q295_N) ⟨wflT h flokX0, wcsT h csokX0, wlcT h lcokX0, spokX0 h, List.forall_mem_cons.mpr ⟨q240_met h, fun _ h => absurd h List.not_mem_nil⟩, fun _ h => absurd h List.not_mem_nil, List.forall_mem_cons.mpr ⟨fun M hM => Option.some.inj (show some q240_M = some M from hM) ▸ wlkV (lkX0_37 h) q240_M rfl rfl, fun _ h => absurd h List.not_mem_nil⟩, fun _ h => absurd h List.not_mem_nil, fun _ h => absurd h List.not_mem_nil⟩ dkX0_takeBack (by decide +kernel) (by rw [h.2.2.1]; exact q295_ok)
/-- NearSpell.undo -/
def q296_M : rfM := ((⟨"NearSpell", "undo", "()Z"⟩, prog_1_method_12_code, 1, (some .boolean)), (3,62), ([.inr (.inl [70])],[((16,4),(0,13,1),none),((16,5),(27,27,0),none)]), [(12,0),(16,5),(16,6)], [(some (.inl ((1,1,0),none)),[],[((16,4),(0,12,1),some ((16,4),(-1),(-1))),((16,5),(28,28,0),some ((16,5),1,1))]),(some (.inl ((0,0,0),none)),[],[((16,4),(0,0,1),some ((16,4),0,0)),((16,5),(27,27,0),some ((16,5),0,0))])])
def q296_P : rfP := (flX11,csX11,lcX11,spX11,[q295_M],[],[(204,0,0)],([],[]))
def q296_U : rfU := []
set_option maxHeartbeats 8000000 in
def q296_N : List rfB := [(0,([(0,.inr (.inl [70]))],[],[((16,4),(0,13,1),some ((16,4),0,0)),((16,5),(27,27,0),some ((16,5),0,0))]),(6,[]),0)]
set_option maxRecDepth 100000 in
theorem q296_ok : rf_chkB q296_P q296_U wLay q296_M ddX11_undo [(8,[0])] [] [0] 600 q296_N = true := by decide +kernel
set_option maxHeartbeats 4000000 in
theorem q296_met {G : rfG} (h : okG G) : rf_met G q296_M := rf_methodB h.1 (P := q296_P) (U := q296_U) (N := q296_N) ⟨wflT h flokX11, wcsT h csokX11, wlcT h lcokX11, spokX11 h, List.forall_mem_cons.mpr ⟨q295_met h, fun _ h => absurd h List.not_mem_nil⟩, fun _ h => absurd h List.not_mem_nil, List.forall_mem_cons.mpr ⟨fun M hM => Option.some.inj (show some q295_M = some M from hM) ▸ wlkV (lkX11_204 h) q295_M rfl rfl, fun _ h => absurd h List.not_mem_nil⟩, fun _ h => absurd h List.not_mem_nil, fun _ h => absurd h List.not_mem_nil⟩ dkX11_undo (by decide +kernel) (by rw [h.2.2.1]; exact q296_ok)
/-- NearSpell.Archive.takeBack -/
def q297_M : rfM := ((⟨"NearSpell$Archive", "takeBack", "(LNearSpell$State;)Z"⟩, prog_2_method_4_code, 2, (some .boolean)), (2,41), ([.inr (.inl [16]),.inr (.inl [13])],[((16,4),(0,12,1),none),((16,5),(28,28,0),none)]), [(12,0),(16,5),(16,6)], [(some (.inl ((0,0,0),none)),[],[((16,4),(0,0,1),some ((16,4),0,0)),((16,5),(28,28,0),some ((16,5),0,0))]),(some (.inl ((1,1,0),none)),[],[((16,4),(0,11,1),some ((16,4),(-1),(-1))),((16,5),(29,29,0),some ((16,5),1,1))])])
def q297_P : rfP := (flX0,csX0,lcX0,spX0,[q240_M],[],[(37,0,0)],([],[]))
def q297_U : rfU := []
set_option maxHeartbeats 8000000 in
def q297_N : List rfB := [(0,([(0,.inr (.inl [16])),(1,.inr (.inl [13]))],[],[((16,4),(0,12,1),some ((16,4),0,0)),((16,5),(28,28,0),some ((16,5),0,0))]),(21,[]),0)]
set_option maxRecDepth 100000 in
theorem q297_ok : rf_chkB q297_P q297_U wLay q297_M ddX0_takeBack [(31,[0])] [] [0] 600 q297_N = true := by decide +kernel
set_option maxHeartbeats 4000000 in
theorem q297_met {G : rfG} (h : okG G) : rf_met G q297_M := rf_methodB h.1 (P := q297_P) (U := q297_U) (N := q297_N) ⟨wflT h flokX0, wcsT h csokX0, wlcT h lcokX0, spokX0 h, List.forall_mem_cons.mpr ⟨q240_met h, fun _ h => absurd h List.not_mem_nil⟩, fun _ h => absurd h List.not_mem_nil, List.forall_mem_cons.mpr ⟨fun M hM => Option.some.inj (show some q240_M = some M from hM) ▸ wlkV (lkX0_37 h) q240_M rfl rfl, fun _ h => absurd h List.not_mem_nil⟩, fun _ h => absurd h List.not_mem_nil, fun _ h => absurd h List.not_mem_nil⟩ dkX0_takeBack (by decide +kernel) (by rw [h.2.2.1]; exact q297_ok)
/-- NearSpell.undo -/
def q298_M : rfM := ((⟨"NearSpell", "undo", "()Z"⟩, prog_1_method_12_code, 1, (some .boolean)), (3,62), ([.inr (.inl [70])],[((16,4),(0,12,1),none),((16,5),(28,28,0),none)]), [(12,0),(16,5),(16,6)], [(some (.inl ((1,1,0),none)),[],[((16,4),(0,11,1),some ((16,4),(-1),(-1))),((16,5),(29,29,0),some ((16,5),1,1))]),(some (.inl ((0,0,0),none)),[],[((16,4),(0,0,1),some ((16,4),0,0)),((16,5),(28,28,0),some ((16,5),0,0))])])
def q298_P : rfP := (flX11,csX11,lcX11,spX11,[q297_M],[],[(204,0,0)],([],[]))
def q298_U : rfU := []
set_option maxHeartbeats 8000000 in
def q298_N : List rfB := [(0,([(0,.inr (.inl [70]))],[],[((16,4),(0,12,1),some ((16,4),0,0)),((16,5),(28,28,0),some ((16,5),0,0))]),(6,[]),0)]
set_option maxRecDepth 100000 in
theorem q298_ok : rf_chkB q298_P q298_U wLay q298_M ddX11_undo [(8,[0])] [] [0] 600 q298_N = true := by decide +kernel
set_option maxHeartbeats 4000000 in
theorem q298_met {G : rfG} (h : okG G) : rf_met G q298_M := rf_methodB h.1 (P := q298_P) (U := q298_U) (N := q298_N) ⟨wflT h flokX11, wcsT h csokX11, wlcT h lcokX11, spokX11 h, List.forall_mem_cons.mpr ⟨q297_met h, fun _ h => absurd h List.not_mem_nil⟩, fun _ h => absurd h List.not_mem_nil, List.forall_mem_cons.mpr ⟨fun M hM => Option.some.inj (show some q297_M = some M from hM) ▸ wlkV (lkX11_204 h) q297_M rfl rfl, fun _ h => absurd h List.not_mem_nil⟩, fun _ h => absurd h List.not_mem_nil, fun _ h => absurd h List.not_mem_nil⟩ dkX11_undo (by decide +kernel) (by rw [h.2.2.1]; exact q298_ok)
/-- NearSpell.Archive.takeBack -/
def q299_M : rfM := ((⟨"NearSpell$Archive", "takeBack", "(LNearSpell$State;)Z"⟩, prog_2_method_4_code, 2, (some .boolean)), (2,41), ([.inr (.inl [16]),.inr (.inl [13])],[((16,4),(0,11,1),none),((16,5),(29,29,0),none)]), [(12,0),(16,5),(16,6)], [(some (.inl ((0,0,0),none)),[],[((16,4),(0,0,1),some ((16,4),0,0)),((16,5),(29,29,0),some ((16,5),0,0))]),(some (.inl ((1,1,0),none)),[],[((16,4),(0,10,1),some ((16,4),(-1),(-1))),((16,5),(30,30,0),some ((16,5),1,1))])])
def q299_P : rfP := (flX0,csX0,lcX0,spX0,[q240_M],[],[(37,0,0)],([],[]))
def q299_U : rfU := []
set_option maxHeartbeats 8000000 in
def q299_N : List rfB := [(0,([(0,.inr (.inl [16])),(1,.inr (.inl [13]))],[],[((16,4),(0,11,1),some ((16,4),0,0)),((16,5),(29,29,0),some ((16,5),0,0))]),(21,[]),0)]
set_option maxRecDepth 100000 in
theorem q299_ok : rf_chkB q299_P q299_U wLay q299_M ddX0_takeBack [(31,[0])] [] [0] 600 q299_N = true := by decide +kernel
set_option maxHeartbeats 4000000 in
theorem q299_met {G : rfG} (h : okG G) : rf_met G q299_M := rf_methodB h.1 (P := q299_P) (U := q299_U) (N := q299_N) ⟨wflT h flokX0, wcsT h csokX0, wlcT h lcokX0, spokX0 h, List.forall_mem_cons.mpr ⟨q240_met h, fun _ h => absurd h List.not_mem_nil⟩, fun _ h => absurd h List.not_mem_nil, List.forall_mem_cons.mpr ⟨fun M hM => Option.some.inj (show some q240_M = some M from hM) ▸ wlkV (lkX0_37 h) q240_M rfl rfl, fun _ h => absurd h List.not_mem_nil⟩, fun _ h => absurd h List.not_mem_nil, fun _ h => absurd h List.not_mem_nil⟩ dkX0_takeBack (by decide +kernel) (by rw [h.2.2.1]; exact q299_ok)
