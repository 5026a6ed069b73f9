/-- NearSpellModel.numeral -/
def q570_M : rfM := ((⟨"NearSpellModel", "numeral", "(II)I"⟩, prog_14_method_14_code, 4, (some .int)), (2,42), ([.inr (.inl [114]),.inl ((0,0,0),none),.inl ((100,100,0),none)],[((114,4),(0,0,1),none),((114,7),(0,1600,1),none),((114,8),(0,0,1),none)]), [(114,5),(114,6)], [(some (.inl ((0,0,0),none)),[],[((114,4),(2,2,0),none),((114,5),(0,1600,1),none)])])
def q570_P : rfP := (flX12,csX12,lcX12,spX12,[q520_M,q533_M,q527_M],[],[(223,0,12),(223,2,12),(230,1,12)],([],[]))
def q570_U : rfU := []
set_option maxHeartbeats 8000000 in
def q570_N : List rfB := [(0,([(0,.inr (.inl [114])),(1,.inl ((0,0,0),none)),(2,.inl ((100,100,0),none))],[],[((114,4),(0,0,1),some ((114,4),0,0)),((114,7),(0,1600,1),some ((114,7),0,0)),((114,8),(0,0,1),some ((114,8),0,0))]),(22,[]),0)]
set_option maxRecDepth 100000 in
theorem q570_ok : rf_chkB q570_P q570_U wLay q570_M ddX12_numeral [(1,[0]),(18,[1]),(22,[2]),(59,[2]),(70,[2])] [] [0] 600 q570_N = true := by decide +kernel
set_option maxHeartbeats 4000000 in
theorem q570_met {G : rfG} (h : okG G) (hh : wHandOK G) : rf_met G q570_M := rf_methodB h.1 (P := q570_P) (U := q570_U) (N := q570_N) ⟨wflT h flokX12, wcsT h csokX12, wlcT h lcokX12, spokX12 h, List.forall_mem_cons.mpr ⟨q520_met h hh, List.forall_mem_cons.mpr ⟨q533_met h hh, List.forall_mem_cons.mpr ⟨q527_met h hh, fun _ h => absurd h List.not_mem_nil⟩⟩⟩, fun _ h => absurd h List.not_mem_nil, List.forall_mem_cons.mpr ⟨fun M hM => Option.some.inj (show some q520_M = some M from hM) ▸ wlkV (lkX12_223 h) q520_M rfl rfl, List.forall_mem_cons.mpr ⟨fun M hM => Option.some.inj (show some q527_M = some M from hM) ▸ wlkV (lkX12_223 h) q527_M rfl rfl, List.forall_mem_cons.mpr ⟨fun M hM => Option.some.inj (show some q533_M = some M from hM) ▸ wlkV (lkX12_230 h) q533_M rfl rfl, fun _ h => absurd h List.not_mem_nil⟩⟩⟩, fun _ h => absurd h List.not_mem_nil, fun _ h => absurd h List.not_mem_nil⟩ dkX12_numeral (by decide +kernel) (by rw [h.2.2.1]; exact q570_ok)
/-- NearSpellModel.once -/
def q571_M : rfM := ((⟨"NearSpellModel", "once", "(III)I"⟩, prog_14_method_18_code, 4, (some .int)), (3,65), ([.inr (.inl [114]),.inl ((4,4,0),none),.inl ((0,0,0),none),.inl ((100,100,0),none)],[((114,4),(0,0,1),none),((114,7),(0,1600,1),none),((114,8),(0,0,1),none)]), [(80,0),(114,5),(114,6)], [(some (.inl ((0,0,0),none)),[],[((114,4),(2,2,0),none),((114,5),(0,1600,1),none)])])
def q571_P : rfP := (flX12,csX12,lcX12,spX12,[q570_M],[],[(255,0,12)],([],[]))
def q571_U : rfU := []
set_option maxHeartbeats 8000000 in
def q571_N : List rfB := [(0,([(0,.inr (.inl [114])),(1,.inl ((4,4,0),none)),(2,.inl ((0,0,0),none)),(3,.inl ((100,100,0),none))],[],[((114,4),(0,0,1),some ((114,4),0,0)),((114,7),(0,1600,1),some ((114,7),0,0)),((114,8),(0,0,1),some ((114,8),0,0))]),(15,[]),0)]
set_option maxRecDepth 100000 in
theorem q571_ok : rf_chkB q571_P q571_U wLay q571_M ddX12_once [(18,[0])] [] [0] 600 q571_N = true := by decide +kernel
set_option maxHeartbeats 4000000 in
theorem q571_met {G : rfG} (h : okG G) (hh : wHandOK G) : rf_met G q571_M := rf_methodB h.1 (P := q571_P) (U := q571_U) (N := q571_N) ⟨wflT h flokX12, wcsT h csokX12, wlcT h lcokX12, spokX12 h, List.forall_mem_cons.mpr ⟨q570_met h hh, fun _ h => absurd h List.not_mem_nil⟩, fun _ h => absurd h List.not_mem_nil, List.forall_mem_cons.mpr ⟨fun M hM => Option.some.inj (show some q570_M = some M from hM) ▸ wlkV (lkX12_255 h) q570_M rfl rfl, fun _ h => absurd h List.not_mem_nil⟩, fun _ h => absurd h List.not_mem_nil, fun _ h => absurd h List.not_mem_nil⟩ dkX12_once (by decide +kernel) (by rw [h.2.2.1]; exact q571_ok)
/-- NearSpellModel.numeral -/
def q572_M : rfM := ((⟨"NearSpellModel", "numeral", "(II)I"⟩, prog_14_method_14_code, 4, (some .int)), (1,20), ([.inr (.inl [114]),.inl ((0,0,0),none),.inl ((100,100,0),none)],[((114,4),(1,4,1),none),((114,7),(0,1600,1),none)]), [], [(some (.inl ((0,0,0),none)),[],[])])
def q572_P : rfP := (flX12,csX12,lcX12,spX12,[q527_M],[],[(223,0,12)],([],[]))
def q572_U : rfU := []
set_option maxHeartbeats 8000000 in
def q572_N : List rfB := [(0,([(0,.inr (.inl [114])),(1,.inl ((0,0,0),none)),(2,.inl ((100,100,0),none))],[],[((114,4),(1,4,1),some ((114,4),0,0)),((114,7),(0,1600,1),some ((114,7),0,0))]),(4,[]),0)]
set_option maxRecDepth 100000 in
theorem q572_ok : rf_chkB q572_P q572_U wLay q572_M ddX12_numeral [(1,[0])] [] [0] 600 q572_N = true := by decide +kernel
set_option maxHeartbeats 4000000 in
theorem q572_met {G : rfG} (h : okG G) (hh : wHandOK G) : rf_met G q572_M := rf_methodB h.1 (P := q572_P) (U := q572_U) (N := q572_N) ⟨wflT h flokX12, wcsT h csokX12, wlcT h lcokX12, spokX12 h, List.forall_mem_cons.mpr ⟨q527_met h hh, fun _ h => absurd h List.not_mem_nil⟩, fun _ h => absurd h List.not_mem_nil, List.forall_mem_cons.mpr ⟨fun M hM => Option.some.inj (show some q527_M = some M from hM) ▸ wlkV (lkX12_223 h) q527_M rfl rfl, fun _ h => absurd h List.not_mem_nil⟩, fun _ h => absurd h List.not_mem_nil, fun _ h => absurd h List.not_mem_nil⟩ dkX12_numeral (by decide +kernel) (by rw [h.2.2.1]; exact q572_ok)
/-- NearSpellModel.once -/
def q573_M : rfM := ((⟨"NearSpellModel", "once", "(III)I"⟩, prog_14_method_18_code, 4, (some .int)), (2,43), ([.inr (.inl [114]),.inl ((4,4,0),none),.inl ((0,0,0),none),.inl ((100,100,0),none)],[((114,4),(1,4,1),none),((114,7),(0,1600,1),none)]), [(80,0)], [(some (.inl ((0,0,0),none)),[],[])])
def q573_P : rfP := (flX12,csX12,lcX12,spX12,[q572_M],[],[(255,0,12)],([],[]))
def q573_U : rfU := []
set_option maxHeartbeats 8000000 in
def q573_N : List rfB := [(0,([(0,.inr (.inl [114])),(1,.inl ((4,4,0),none)),(2,.inl ((0,0,0),none)),(3,.inl ((100,100,0),none))],[],[((114,4),(1,4,1),some ((114,4),0,0)),((114,7),(0,1600,1),some ((114,7),0,0))]),(15,[]),0)]
set_option maxRecDepth 100000 in
theorem q573_ok : rf_chkB q573_P q573_U wLay q573_M ddX12_once [(18,[0])] [] [0] 600 q573_N = true := by decide +kernel
set_option maxHeartbeats 4000000 in
theorem q573_met {G : rfG} (h : okG G) (hh : wHandOK G) : rf_met G q573_M := rf_methodB h.1 (P := q573_P) (U := q573_U) (N := q573_N) ⟨wflT h flokX12, wcsT h csokX12, wlcT h lcokX12, spokX12 h, List.forall_mem_cons.mpr ⟨q572_met h hh, fun _ h => absurd h List.not_mem_nil⟩, fun _ h => absurd h List.not_mem_nil, List.forall_mem_cons.mpr ⟨fun M hM => Option.some.inj (show some q572_M = some M from hM) ▸ wlkV (lkX12_255 h) q572_M rfl rfl, fun _ h => absurd h List.not_mem_nil⟩, fun _ h => absurd h List.not_mem_nil, fun _ h => absurd h List.not_mem_nil⟩ dkX12_once (by decide +kernel) (by rw [h.2.2.1]; exact q573_ok)
/-- NearSpellModel.numeral -/
def q574_M : rfM := ((⟨"NearSpellModel", "numeral", "(II)I"⟩, prog_14_method_14_code, 4, (some .int)), (1,20), ([.inr (.inl [114]),.inl ((0,0,0),none),.inl ((100,100,0),none)],[((114,4),(1,4,1),none),((114,7),(0,1600,1),none),((114,8),(1,5,1),none)]), [], [(some (.inl ((0,0,0),none)),[],[])])
def q574_P : rfP := (flX12,csX12,lcX12,spX12,[q527_M],[],[(223,0,12)],([],[]))
def q574_U : rfU := []
set_option maxHeartbeats 8000000 in
def q574_N : List rfB := [(0,([(0,.inr (.inl [114])),(1,.inl ((0,0,0),none)),(2,.inl ((100,100,0),none))],[],[((114,4),(1,4,1),some ((114,4),0,0)),((114,7),(0,1600,1),some ((114,7),0,0)),((114,8),(1,5,1),some ((114,8),0,0))]),(4,[]),0)]
set_option maxRecDepth 100000 in
theorem q574_ok : rf_chkB q574_P q574_U wLay q574_M ddX12_numeral [(1,[0])] [] [0] 600 q574_N = true := by decide +kernel
set_option maxHeartbeats 4000000 in
theorem q574_met {G : rfG} (h : okG G) (hh : wHandOK G) : rf_met G q574_M := rf_methodB h.1 (P := q574_P) (U := q574_U) (N := q574_N) ⟨wflT h flokX12, wcsT h csokX12, wlcT h lcokX12, spokX12 h, List.forall_mem_cons.mpr ⟨q527_met h hh, fun _ h => absurd h List.not_mem_nil⟩, fun _ h => absurd h List.not_mem_nil, List.forall_mem_cons.mpr ⟨fun M hM => Option.some.inj (show some q527_M = some M from hM) ▸ wlkV (lkX12_223 h) q527_M rfl rfl, fun _ h => absurd h List.not_mem_nil⟩, fun _ h => absurd h List.not_mem_nil, fun _ h => absurd h List.not_mem_nil⟩ dkX12_numeral (by decide +kernel) (by rw [h.2.2.1]; exact q574_ok)
/-- NearSpellModel.once -/
def q575_M : rfM := ((⟨"NearSpellModel", "once", "(III)I"⟩, prog_14_method_18_code, 4, (some .int)), (2,43), ([.inr (.inl [114]),.inl ((4,4,0),none),.inl ((0,0,0),none),.inl ((100,100,0),none)],[((114,4),(1,4,1),none),((114,7),(0,1600,1),none),((114,8),(1,5,1),none)]), [(80,0)], [(some (.inl ((0,0,0),none)),[],[])])
def q575_P : rfP := (flX12,csX12,lcX12,spX12,[q574_M],[],[(255,0,12)],([],[]))
def q575_U : rfU := []
set_option maxHeartbeats 8000000 in
def q575_N : List rfB := [(0,([(0,.inr (.inl [114])),(1,.inl ((4,4,0),none)),(2,.inl ((0,0,0),none)),(3,.inl ((100,100,0),none))],[],[((114,4),(1,4,1),some ((114,4),0,0)),((114,7),(0,1600,1),some ((114,7),0,0)),((114,8),(1,5,1),some ((114,8),0,0))]),(15,[]),0)]
set_option maxRecDepth 100000 in
theorem q575_ok : rf_chkB q575_P q575_U wLay q575_M ddX12_once [(18,[0])] [] [0] 600 q575_N = true := by decide +kernel
set_option maxHeartbeats 4000000 in
theorem q575_met {G : rfG} (h : okG G) (hh : wHandOK G) : rf_met G q575_M := rf_methodB h.1 (P := q575_P) (U := q575_U) (N := q575_N) ⟨wflT h flokX12, wcsT h csokX12, wlcT h lcokX12, spokX12 h, List.forall_mem_cons.mpr ⟨q574_met h hh, fun _ h => absurd h List.not_mem_nil⟩, fun _ h => absurd h List.not_mem_nil, List.forall_mem_cons.mpr ⟨fun M hM => Option.some.inj (show some q574_M = some M from hM) ▸ wlkV (lkX12_255 h) q574_M rfl rfl, fun _ h => absurd h List.not_mem_nil⟩, fun _ h => absurd h List.not_mem_nil, fun _ h => absurd h List.not_mem_nil⟩ dkX12_once (by decide +kernel) (by rw [h.2.2.1]; exact q575_ok)
/-- NearSpellModel.numeral -/
def q576_M : rfM := ((⟨"NearSpellModel", "numeral", "(II)I"⟩, prog_14_method_14_code, 4, (some .int)), (1,20), ([.inr (.inl [114]),.inl ((0,0,0),none),.inl ((100,100,0),none)],[((114,4),(1,4,1),none),((114,7),(0,1600,1),none),((114,8),(0,0,1),none)]), [], [(some (.inl ((0,0,0),none)),[],[])])
def q576_P : rfP := (flX12,csX12,lcX12,spX12,[q527_M],[],[(223,0,12)],([],[]))
def q576_U : rfU := []
set_option maxHeartbeats 8000000 in
def q576_N : List rfB := [(0,([(0,.inr (.inl [114])),(1,.inl ((0,0,0),none)),(2,.inl ((100,100,0),none))],[],[((114,4),(1,4,1),some ((114,4),0,0)),((114,7),(0,1600,1),some ((114,7),0,0)),((114,8),(0,0,1),some ((114,8),0,0))]),(4,[]),0)]
set_option maxRecDepth 100000 in
theorem q576_ok : rf_chkB q576_P q576_U wLay q576_M ddX12_numeral [(1,[0])] [] [0] 600 q576_N = true := by decide +kernel
set_option maxHeartbeats 4000000 in
theorem q576_met {G : rfG} (h : okG G) (hh : wHandOK G) : rf_met G q576_M := rf_methodB h.1 (P := q576_P) (U := q576_U) (N := q576_N) ⟨wflT h flokX12, wcsT h csokX12, wlcT h lcokX12, spokX12 h, List.forall_mem_cons.mpr ⟨q527_met h hh, fun _ h => absurd h List.not_mem_nil⟩, fun _ h => absurd h List.not_mem_nil, List.forall_mem_cons.mpr ⟨fun M hM => Option.some.inj (show some q527_M = some M from hM) ▸ wlkV (lkX12_223 h) q527_M rfl rfl, fun _ h => absurd h List.not_mem_nil⟩, fun _ h => absurd h List.not_mem_nil, fun _ h => absurd h List.not_mem_nil⟩ dkX12_numeral (by decide +kernel) (by rw [h.2.2.1]; exact q576_ok)
/-- NearSpellModel.once -/
def q577_M : rfM := ((⟨"NearSpellModel", "once", "(III)I"⟩, prog_14_method_18_code, 4, (some .int)), (2,43), ([.inr (.inl [114]),.inl ((4,4,0),none),.inl ((0,0,0),none),.inl ((100,100,0),none)],[((114,4),(1,4,1),none),((114,7),(0,1600,1),none),((114,8),(0,0,1),none)]), [(80,0)], [(some (.inl ((0,0,0),none)),[],[])])
def q577_P : rfP := (flX12,csX12,lcX12,spX12,[q576_M],[],[(255,0,12)],([],[]))
def q577_U : rfU := []
set_option maxHeartbeats 8000000 in
def q577_N : List rfB := [(0,([(0,.inr (.inl [114])),(1,.inl ((4,4,0),none)),(2,.inl ((0,0,0),none)),(3,.inl ((100,100,0),none))],[],[((114,4),(1,4,1),some ((114,4),0,0)),((114,7),(0,1600,1),some ((114,7),0,0)),((114,8),(0,0,1),some ((114,8),0,0))]),(15,[]),0)]
set_option maxRecDepth 100000 in
theorem q577_ok : rf_chkB q577_P q577_U wLay q577_M ddX12_once [(18,[0])] [] [0] 600 q577_N = true := by decide +kernel
set_option maxHeartbeats 4000000 in
theorem q577_met {G : rfG} (h : okG G) (hh : wHandOK G) : rf_met G q577_M := rf_methodB h.1 (P := q577_P) (U := q577_U) (N := q577_N) ⟨wflT h flokX12, wcsT h csokX12, wlcT h lcokX12, spokX12 h, List.forall_mem_cons.mpr ⟨q576_met h hh, fun _ h => absurd h List.not_mem_nil⟩, fun _ h => absurd h List.not_mem_nil, List.forall_mem_cons.mpr ⟨fun M hM => Option.some.inj (show some q576_M = some M from hM) ▸ wlkV (lkX12_255 h) q576_M rfl rfl, fun _ h => absurd h List.not_mem_nil⟩, fun _ h => absurd h List.not_mem_nil, fun _ h => absurd h List.not_mem_nil⟩ dkX12_once (by decide +kernel) (by rw [h.2.2.1]; exact q577_ok)
/-- NearSpellModel.numeral -/
def q578_M : rfM := ((⟨"NearSpellModel", "numeral", "(II)I"⟩, prog_14_method_14_code, 4, (some .int)), (2,44), ([.inr (.inl [114]),.inl ((0,0,0),none),.inl ((999,999,0),none)],[((114,4),(0,0,1),none),((114,7),(0,1600,1),none),((114,8),(1,5,1),none)]), [(114,5),(114,6),(114,7),(114,8),(114,9),(114,10),(114,11)], [(some (.inl ((0,999,1),none)),[],[((114,3),(1,1600,1),none),((114,4),(0,0,1),some ((114,4),0,0)),((114,6),(0,1599,1),some ((114,7),0,4294967296)),((114,7),(1,1600,1),some ((114,7),1,4294967296)),((114,8),(5,5,0),none)]),(some (.inl ((0,999,1),none)),[],[((114,4),(0,0,1),some ((114,4),0,0)),((114,7),(0,1600,1),none),((114,8),(0,0,0),none)]),(some (.inl ((0,999,1),none)),[],[((114,3),(1,1600,1),none),((114,4),(0,0,1),some ((114,4),0,0)),((114,6),(0,1599,1),some ((114,7),0,4294967296)),((114,7),(0,1600,1),some ((114,7),0,4294967296)),((114,8),(1,4,1),none)]),(some (.inl ((0,0,0),none)),[],[((114,4),(1,2,1),none),((114,5),(0,1600,1),none),((114,7),(0,1600,1),some ((114,7),0,0)),((114,8),(1,5,1),some ((114,8),0,0))]),(some (.inl ((0,0,0),none)),[],[((114,4),(4,4,0),none),((114,5),(0,1600,1),none),((114,7),(0,1600,1),some ((114,7),0,0)),((114,8),(4,4,1),some ((114,8),0,0))])])
def q578_P : rfP := (flX12,csX12,lcX12,spX12,[q520_M,q526_M,q527_M,q530_M,q519_M],[],[(219,3,12),(223,0,12),(223,2,12),(227,4,12),(230,1,12)],([],[]))
def q578_U : rfU := []
set_option maxHeartbeats 8000000 in
def q578_N : List rfB := [(0,([(0,.inr (.inl [114])),(1,.inl ((0,0,0),none)),(2,.inl ((999,999,0),none))],[],[((114,4),(0,0,1),some ((114,4),0,0)),((114,7),(0,1600,1),some ((114,7),0,0)),((114,8),(1,5,1),some ((114,8),0,0))]),(75,[]),0),
  (44,([(0,.inr (.inl [114])),(1,.inl ((0,0,0),none)),(2,.inl ((999,999,0),none))],[],[((114,4),(0,0,1),some ((114,4),0,0)),((114,7),(0,1600,1),some ((114,7),0,0)),((114,8),(4,4,1),some ((114,8),0,0))]),(15,[]),0)]
set_option maxRecDepth 100000 in
theorem q578_ok : rf_chkB q578_P q578_U wLay q578_M ddX12_numeral [(1,[0]),(18,[1]),(22,[0,2]),(50,[3]),(59,[2,0]),(66,[4]),(70,[2,0])] [] [0,44] 600 q578_N = true := by decide +kernel
set_option maxHeartbeats 4000000 in
theorem q578_met {G : rfG} (h : okG G) (hh : wHandOK G) : rf_met G q578_M := rf_methodB h.1 (P := q578_P) (U := q578_U) (N := q578_N) ⟨wflT h flokX12, wcsT h csokX12, wlcT h lcokX12, spokX12 h, List.forall_mem_cons.mpr ⟨q520_met h hh, List.forall_mem_cons.mpr ⟨q526_met h hh, List.forall_mem_cons.mpr ⟨q527_met h hh, List.forall_mem_cons.mpr ⟨q530_met h hh, List.forall_mem_cons.mpr ⟨q519_met h hh, fun _ h => absurd h List.not_mem_nil⟩⟩⟩⟩⟩, fun _ h => absurd h List.not_mem_nil, List.forall_mem_cons.mpr ⟨fun M hM => Option.some.inj (show some q530_M = some M from hM) ▸ wlkV (lkX12_219 h) q530_M rfl rfl, List.forall_mem_cons.mpr ⟨fun M hM => Option.some.inj (show some q520_M = some M from hM) ▸ wlkV (lkX12_223 h) q520_M rfl rfl, List.forall_mem_cons.mpr ⟨fun M hM => Option.some.inj (show some q527_M = some M from hM) ▸ wlkV (lkX12_223 h) q527_M rfl rfl, List.forall_mem_cons.mpr ⟨fun M hM => Option.some.inj (show some q519_M = some M from hM) ▸ wlkV (lkX12_227 h) q519_M rfl rfl, List.forall_mem_cons.mpr ⟨fun M hM => Option.some.inj (show some q526_M = some M from hM) ▸ wlkV (lkX12_230 h) q526_M rfl rfl, fun _ h => absurd h List.not_mem_nil⟩⟩⟩⟩⟩, fun _ h => absurd h List.not_mem_nil, fun _ h => absurd h List.not_mem_nil⟩ dkX12_numeral (by decide +kernel) (by rw [h.2.2.1]; exact q578_ok)
/-- NearSpellModel.once -/
def q579_M : rfM := ((⟨"NearSpellModel", "once", "(III)I"⟩, prog_14_method_18_code, 4, (some .int)), (3,67), ([.inr (.inl [114]),.inl ((5,5,0),none),.inl ((0,0,0),none),.inl ((999,999,0),none)],[((114,4),(0,0,1),none),((114,7),(0,1600,1),none),((114,8),(1,5,1),none)]), [(80,0),(114,5),(114,6),(114,7),(114,8),(114,9),(114,10),(114,11)], [(some (.inl ((0,999,1),none)),[],[((114,3),(1,1600,1),none),((114,4),(0,0,1),some ((114,4),0,0)),((114,6),(0,1599,1),some ((114,7),0,4294967296)),((114,7),(0,1600,1),some ((114,7),0,4294967296)),((114,8),(1,4,1),none)]),(some (.inl ((0,0,0),none)),[],[((114,4),(4,4,0),none),((114,5),(0,1600,1),none),((114,7),(0,1600,1),some ((114,7),0,0)),((114,8),(4,4,1),some ((114,8),0,0))]),(some (.inl ((0,0,0),none)),[],[((114,4),(1,2,1),none),((114,5),(0,1600,1),none),((114,7),(0,1600,1),some ((114,7),0,0)),((114,8),(1,5,1),some ((114,8),0,0))]),(some (.inl ((0,999,1),none)),[],[((114,3),(1,1600,1),none),((114,4),(0,0,1),some ((114,4),0,0)),((114,6),(0,1599,1),some ((114,7),0,4294967296)),((114,7),(1,1600,1),some ((114,7),1,4294967296)),((114,8),(5,5,0),none)]),(some (.inl ((0,999,1),none)),[],[((114,4),(0,0,1),some ((114,4),0,0)),((114,7),(0,1600,1),none),((114,8),(0,0,0),none)])])
def q579_P : rfP := (flX12,csX12,lcX12,spX12,[q578_M],[],[(255,0,12)],([],[]))
def q579_U : rfU := []
set_option maxHeartbeats 8000000 in
def q579_N : List rfB := [(0,([(0,.inr (.inl [114])),(1,.inl ((5,5,0),none)),(2,.inl ((0,0,0),none)),(3,.inl ((999,999,0),none))],[],[((114,4),(0,0,1),some ((114,4),0,0)),((114,7),(0,1600,1),some ((114,7),0,0)),((114,8),(1,5,1),some ((114,8),0,0))]),(19,[]),0)]
set_option maxRecDepth 100000 in
theorem q579_ok : rf_chkB q579_P q579_U wLay q579_M ddX12_once [(18,[0])] [] [0] 600 q579_N = true := by decide +kernel
set_option maxHeartbeats 4000000 in
theorem q579_met {G : rfG} (h : okG G) (hh : wHandOK G) : rf_met G q579_M := rf_methodB h.1 (P := q579_P) (U := q579_U) (N := q579_N) ⟨wflT h flokX12, wcsT h csokX12, wlcT h lcokX12, spokX12 h, List.forall_mem_cons.mpr ⟨q578_met h hh, fun _ h => absurd h List.not_mem_nil⟩, fun _ h => absurd h List.not_mem_nil, List.forall_mem_cons.mpr ⟨fun M hM => Option.some.inj (show some q578_M = some M from hM) ▸ wlkV (lkX12_255 h) q578_M rfl rfl, fun _ h => absurd h List.not_mem_nil⟩, fun _ h => absurd h List.not_mem_nil, fun _ h => absurd h List.not_mem_nil⟩ dkX12_once (by decide +kernel) (by rw [h.2.2.1]; exact q579_ok)
/-- NearSpellModel.numeral -/
def q580_M : rfM := ((⟨"NearSpellModel", "numeral", "(II)I"⟩, prog_14_method_14_code, 4, (some .int)), (2,42), ([.inr (.inl [114]),.inl ((0,0,0),none),.inl ((999,999,0),none)],[((114,4),(0,0,1),none),((114,7),(0,1600,1),none),((114,8),(0,0,1),none)]), [(114,5),(114,6)], [(some (.inl ((0,0,0),none)),[],[((114,4),(2,2,0),none),((114,5),(0,1600,1),none)])])
def q580_P : rfP := (flX12,csX12,lcX12,spX12,[q520_M,q533_M,q527_M],[],[(223,0,12),(223,2,12),(230,1,12)],([],[]))
def q580_U : rfU := []
set_option maxHeartbeats 8000000 in
def q580_N : List rfB := [(0,([(0,.inr (.inl [114])),(1,.inl ((0,0,0),none)),(2,.inl ((999,999,0),none))],[],[((114,4),(0,0,1),some ((114,4),0,0)),((114,7),(0,1600,1),some ((114,7),0,0)),((114,8),(0,0,1),some ((114,8),0,0))]),(22,[]),0)]
set_option maxRecDepth 100000 in
theorem q580_ok : rf_chkB q580_P q580_U wLay q580_M ddX12_numeral [(1,[0]),(18,[1]),(22,[2]),(59,[2]),(70,[2])] [] [0] 600 q580_N = true := by decide +kernel
set_option maxHeartbeats 4000000 in
theorem q580_met {G : rfG} (h : okG G) (hh : wHandOK G) : rf_met G q580_M := rf_methodB h.1 (P := q580_P) (U := q580_U) (N := q580_N) ⟨wflT h flokX12, wcsT h csokX12, wlcT h lcokX12, spokX12 h, List.forall_mem_cons.mpr ⟨q520_met h hh, List.forall_mem_cons.mpr ⟨q533_met h hh, List.forall_mem_cons.mpr ⟨q527_met h hh, fun _ h => absurd h List.not_mem_nil⟩⟩⟩, fun _ h => absurd h List.not_mem_nil, List.forall_mem_cons.mpr ⟨fun M hM => Option.some.inj (show some q520_M = some M from hM) ▸ wlkV (lkX12_223 h) q520_M rfl rfl, List.forall_mem_cons.mpr ⟨fun M hM => Option.some.inj (show some q527_M = some M from hM) ▸ wlkV (lkX12_223 h) q527_M rfl rfl, List.forall_mem_cons.mpr ⟨fun M hM => Option.some.inj (show some q533_M = some M from hM) ▸ wlkV (lkX12_230 h) q533_M rfl rfl, fun _ h => absurd h List.not_mem_nil⟩⟩⟩, fun _ h => absurd h List.not_mem_nil, fun _ h => absurd h List.not_mem_nil⟩ dkX12_numeral (by decide +kernel) (by rw [h.2.2.1]; exact q580_ok)
/-- NearSpellModel.once -/
def q581_M : rfM := ((⟨"NearSpellModel", "once", "(III)I"⟩, prog_14_method_18_code, 4, (some .int)), (3,65), ([.inr (.inl [114]),.inl ((5,5,0),none),.inl ((0,0,0),none),.inl ((999,999,0),none)],[((114,4),(0,0,1),none),((114,7),(0,1600,1),none),((114,8),(0,0,1),none)]), [(80,0),(114,5),(114,6)], [(some (.inl ((0,0,0),none)),[],[((114,4),(2,2,0),none),((114,5),(0,1600,1),none)])])
def q581_P : rfP := (flX12,csX12,lcX12,spX12,[q580_M],[],[(255,0,12)],([],[]))
def q581_U : rfU := []
set_option maxHeartbeats 8000000 in
def q581_N : List rfB := [(0,([(0,.inr (.inl [114])),(1,.inl ((5,5,0),none)),(2,.inl ((0,0,0),none)),(3,.inl ((999,999,0),none))],[],[((114,4),(0,0,1),some ((114,4),0,0)),((114,7),(0,1600,1),some ((114,7),0,0)),((114,8),(0,0,1),some ((114,8),0,0))]),(15,[]),0)]
set_option maxRecDepth 100000 in
theorem q581_ok : rf_chkB q581_P q581_U wLay q581_M ddX12_once [(18,[0])] [] [0] 600 q581_N = true := by decide +kernel
set_option maxHeartbeats 4000000 in
theorem q581_met {G : rfG} (h : okG G) (hh : wHandOK G) : rf_met G q581_M := rf_methodB h.1 (P := q581_P) (U := q581_U) (N := q581_N) ⟨wflT h flokX12, wcsT h csokX12, wlcT h lcokX12, spokX12 h, List.forall_mem_cons.mpr ⟨q580_met h hh, fun _ h => absurd h List.not_mem_nil⟩, fun _ h => absurd h List.not_mem_nil, List.forall_mem_cons.mpr ⟨fun M hM => Option.some.inj (show some q580_M = some M from hM) ▸ wlkV (lkX12_255 h) q580_M rfl rfl, fun _ h => absurd h List.not_mem_nil⟩, fun _ h => absurd h List.not_mem_nil, fun _ h => absurd h List.not_mem_nil⟩ dkX12_once (by decide +kernel) (by rw [h.2.2.1]; exact q581_ok)
/-- NearSpellModel.numeral -/
def q582_M : rfM := ((⟨"NearSpellModel", "numeral", "(II)I"⟩, prog_14_method_14_code, 4, (some .int)), (1,20), ([.inr (.inl [114]),.inl ((0,0,0),none),.inl ((999,999,0),none)],[((114,4),(1,4,1),none),((114,7),(0,1600,1),none)]), [], [(some (.inl ((0,0,0),none)),[],[])])
def q582_P : rfP := (flX12,csX12,lcX12,spX12,[q527_M],[],[(223,0,12)],([],[]))
def q582_U : rfU := []
set_option maxHeartbeats 8000000 in
def q582_N : List rfB := [(0,([(0,.inr (.inl [114])),(1,.inl ((0,0,0),none)),(2,.inl ((999,999,0),none))],[],[((114,4),(1,4,1),some ((114,4),0,0)),((114,7),(0,1600,1),some ((114,7),0,0))]),(4,[]),0)]
set_option maxRecDepth 100000 in
theorem q582_ok : rf_chkB q582_P q582_U wLay q582_M ddX12_numeral [(1,[0])] [] [0] 600 q582_N = true := by decide +kernel
set_option maxHeartbeats 4000000 in
theorem q582_met {G : rfG} (h : okG G) (hh : wHandOK G) : rf_met G q582_M := rf_methodB h.1 (P := q582_P) (U := q582_U) (N := q582_N) ⟨wflT h flokX12, wcsT h csokX12, wlcT h lcokX12, spokX12 h, List.forall_mem_cons.mpr ⟨q527_met h hh, fun _ h => absurd h List.not_mem_nil⟩, fun _ h => absurd h List.not_mem_nil, List.forall_mem_cons.mpr ⟨fun M hM => Option.some.inj (show some q527_M = some M from hM) ▸ wlkV (lkX12_223 h) q527_M rfl rfl, fun _ h => absurd h List.not_mem_nil⟩, fun _ h => absurd h List.not_mem_nil, fun _ h => absurd h List.not_mem_nil⟩ dkX12_numeral (by decide +kernel) (by rw [h.2.2.1]; exact q582_ok)
/-- NearSpellModel.once -/
def q583_M : rfM := ((⟨"NearSpellModel", "once", "(III)I"⟩, prog_14_method_18_code, 4, (some .int)), (2,43), ([.inr (.inl [114]),.inl ((5,5,0),none),.inl ((0,0,0),none),.inl ((999,999,0),none)],[((114,4),(1,4,1),none),((114,7),(0,1600,1),none)]), [(80,0)], [(some (.inl ((0,0,0),none)),[],[])])
def q583_P : rfP := (flX12,csX12,lcX12,spX12,[q582_M],[],[(255,0,12)],([],[]))
def q583_U : rfU := []
set_option maxHeartbeats 8000000 in
def q583_N : List rfB := [(0,([(0,.inr (.inl [114])),(1,.inl ((5,5,0),none)),(2,.inl ((0,0,0),none)),(3,.inl ((999,999,0),none))],[],[((114,4),(1,4,1),some ((114,4),0,0)),((114,7),(0,1600,1),some ((114,7),0,0))]),(15,[]),0)]
set_option maxRecDepth 100000 in
theorem q583_ok : rf_chkB q583_P q583_U wLay q583_M ddX12_once [(18,[0])] [] [0] 600 q583_N = true := by decide +kernel
set_option maxHeartbeats 4000000 in
theorem q583_met {G : rfG} (h : okG G) (hh : wHandOK G) : rf_met G q583_M := rf_methodB h.1 (P := q583_P) (U := q583_U) (N := q583_N) ⟨wflT h flokX12, wcsT h csokX12, wlcT h lcokX12, spokX12 h, List.forall_mem_cons.mpr ⟨q582_met h hh, fun _ h => absurd h List.not_mem_nil⟩, fun _ h => absurd h List.not_mem_nil, List.forall_mem_cons.mpr ⟨fun M hM => Option.some.inj (show some q582_M = some M from hM) ▸ wlkV (lkX12_255 h) q582_M rfl rfl, fun _ h => absurd h List.not_mem_nil⟩, fun _ h => absurd h List.not_mem_nil, fun _ h => absurd h List.not_mem_nil⟩ dkX12_once (by decide +kernel) (by rw [h.2.2.1]; exact q583_ok)
/-- NearSpellModel.numeral -/
def q584_M : rfM := ((⟨"NearSpellModel", "numeral", "(II)I"⟩, prog_14_method_14_code, 4, (some .int)), (1,20), ([.inr (.inl [114]),.inl ((0,0,0),none),.inl ((999,999,0),none)],[((114,4),(1,4,1),none),((114,7),(0,1600,1),none),((114,8),(1,5,1),none)]), [], [(some (.inl ((0,0,0),none)),[],[])])
def q584_P : rfP := (flX12,csX12,lcX12,spX12,[q527_M],[],[(223,0,12)],([],[]))
def q584_U : rfU := []
set_option maxHeartbeats 8000000 in
def q584_N : List rfB := [(0,([(0,.inr (.inl [114])),(1,.inl ((0,0,0),none)),(2,.inl ((999,999,0),none))],[],[((114,4),(1,4,1),some ((114,4),0,0)),((114,7),(0,1600,1),some ((114,7),0,0)),((114,8),(1,5,1),some ((114,8),0,0))]),(4,[]),0)]
set_option maxRecDepth 100000 in
theorem q584_ok : rf_chkB q584_P q584_U wLay q584_M ddX12_numeral [(1,[0])] [] [0] 600 q584_N = true := by decide +kernel
set_option maxHeartbeats 4000000 in
theorem q584_met {G : rfG} (h : okG G) (hh : wHandOK G) : rf_met G q584_M := rf_methodB h.1 (P := q584_P) (U := q584_U) (N := q584_N) ⟨wflT h flokX12, wcsT h csokX12, wlcT h lcokX12, spokX12 h, List.forall_mem_cons.mpr ⟨q527_met h hh, fun _ h => absurd h List.not_mem_nil⟩, fun _ h => absurd h List.not_mem_nil, List.forall_mem_cons.mpr ⟨fun M hM => Option.some.inj (show some q527_M = some M from hM) ▸ wlkV (lkX12_223 h) q527_M rfl rfl, fun _ h => absurd h List.not_mem_nil⟩, fun _ h => absurd h List.not_mem_nil, fun _ h => absurd h List.not_mem_nil⟩ dkX12_numeral (by decide +kernel) (by rw [h.2.2.1]; exact q584_ok)
/-- NearSpellModel.once -/
def q585_M : rfM := ((⟨"NearSpellModel", "once", "(III)I"⟩, prog_14_method_18_code, 4, (some .int)), (2,43), ([.inr (.inl [114]),.inl ((5,5,0),none),.inl ((0,0,0),none),.inl ((999,999,0),none)],[((114,4),(1,4,1),none),((114,7),(0,1600,1),none),((114,8),(1,5,1),none)]), [(80,0)], [(some (.inl ((0,0,0),none)),[],[])])
def q585_P : rfP := (flX12,csX12,lcX12,spX12,[q584_M],[],[(255,0,12)],([],[]))
def q585_U : rfU := []
set_option maxHeartbeats 8000000 in
def q585_N : List rfB := [(0,([(0,.inr (.inl [114])),(1,.inl ((5,5,0),none)),(2,.inl ((0,0,0),none)),(3,.inl ((999,999,0),none))],[],[((114,4),(1,4,1),some ((114,4),0,0)),((114,7),(0,1600,1),some ((114,7),0,0)),((114,8),(1,5,1),some ((114,8),0,0))]),(15,[]),0)]
set_option maxRecDepth 100000 in
theorem q585_ok : rf_chkB q585_P q585_U wLay q585_M ddX12_once [(18,[0])] [] [0] 600 q585_N = true := by decide +kernel
set_option maxHeartbeats 4000000 in
theorem q585_met {G : rfG} (h : okG G) (hh : wHandOK G) : rf_met G q585_M := rf_methodB h.1 (P := q585_P) (U := q585_U) (N := q585_N) ⟨wflT h flokX12, wcsT h csokX12, wlcT h lcokX12, spokX12 h, List.forall_mem_cons.mpr ⟨q584_met h hh, fun _ h => absurd h List.not_mem_nil⟩, fun _ h => absurd h List.not_mem_nil, List.forall_mem_cons.mpr ⟨fun M hM => Option.some.inj (show some q584_M = some M from hM) ▸ wlkV (lkX12_255 h) q584_M rfl rfl, fun _ h => absurd h List.not_mem_nil⟩, fun _ h => absurd h List.not_mem_nil, fun _ h => absurd h List.not_mem_nil⟩ dkX12_once (by decide +kernel) (by rw [h.2.2.1]; exact q585_ok)
/-- NearSpellModel.numeral -/
def q586_M : rfM := ((⟨"NearSpellModel", "numeral", "(II)I"⟩, prog_14_method_14_code, 4, (some .int)), (1,20), ([.inr (.inl [114]),.inl ((0,0,0),none),.inl ((999,999,0),none)],[((114,4),(1,4,1),none),((114,7),(0,1600,1),none),((114,8),(0,0,1),none)]), [], [(some (.inl ((0,0,0),none)),[],[])])
def q586_P : rfP := (flX12,csX12,lcX12,spX12,[q527_M],[],[(223,0,12)],([],[]))
def q586_U : rfU := []
set_option maxHeartbeats 8000000 in
def q586_N : List rfB := [(0,([(0,.inr (.inl [114])),(1,.inl ((0,0,0),none)),(2,.inl ((999,999,0),none))],[],[((114,4),(1,4,1),some ((114,4),0,0)),((114,7),(0,1600,1),some ((114,7),0,0)),((114,8),(0,0,1),some ((114,8),0,0))]),(4,[]),0)]
set_option maxRecDepth 100000 in
theorem q586_ok : rf_chkB q586_P q586_U wLay q586_M ddX12_numeral [(1,[0])] [] [0] 600 q586_N = true := by decide +kernel
set_option maxHeartbeats 4000000 in
theorem q586_met {G : rfG} (h : okG G) (hh : wHandOK G) : rf_met G q586_M := rf_methodB h.1 (P := q586_P) (U := q586_U) (N := q586_N) ⟨wflT h flokX12, wcsT h csokX12, wlcT h lcokX12, spokX12 h, List.forall_mem_cons.mpr ⟨q527_met h hh, fun _ h => absurd h List.not_mem_nil⟩, fun _ h => absurd h List.not_mem_nil, List.forall_mem_cons.mpr ⟨fun M hM => Option.some.inj (show some q527_M = some M from hM) ▸ wlkV (lkX12_223 h) q527_M rfl rfl, fun _ h => absurd h List.not_mem_nil⟩, fun _ h => absurd h List.not_mem_nil, fun _ h => absurd h List.not_mem_nil⟩ dkX12_numeral (by decide +kernel) (by rw [h.2.2.1]; exact q586_ok)
/-- NearSpellModel.once -/
def q587_M : rfM := ((⟨"NearSpellModel", "once", "(III)I"⟩, prog_14_method_18_code, 4, (some .int)), (2,43), ([.inr (.inl [114]),.inl ((5,5,0),none),.inl ((0,0,0),none),.inl ((999,999,0),none)],[((114,4),(1,4,1),none),((114,7),(0,1600,1),none),((114,8),(0,0,1),none)]), [(80,0)], [(some (.inl ((0,0,0),none)),[],[])])
def q587_P : rfP := (flX12,csX12,lcX12,spX12,[q586_M],[],[(255,0,12)],([],[]))
def q587_U : rfU := []
set_option maxHeartbeats 8000000 in
def q587_N : List rfB := [(0,([(0,.inr (.inl [114])),(1,.inl ((5,5,0),none)),(2,.inl ((0,0,0),none)),(3,.inl ((999,999,0),none))],[],[((114,4),(1,4,1),some ((114,4),0,0)),((114,7),(0,1600,1),some ((114,7),0,0)),((114,8),(0,0,1),some ((114,8),0,0))]),(15,[]),0)]
set_option maxRecDepth 100000 in
theorem q587_ok : rf_chkB q587_P q587_U wLay q587_M ddX12_once [(18,[0])] [] [0] 600 q587_N = true := by decide +kernel
set_option maxHeartbeats 4000000 in
theorem q587_met {G : rfG} (h : okG G) (hh : wHandOK G) : rf_met G q587_M := rf_methodB h.1 (P := q587_P) (U := q587_U) (N := q587_N) ⟨wflT h flokX12, wcsT h csokX12, wlcT h lcokX12, spokX12 h, List.forall_mem_cons.mpr ⟨q586_met h hh, fun _ h => absurd h List.not_mem_nil⟩, fun _ h => absurd h List.not_mem_nil, List.forall_mem_cons.mpr ⟨fun M hM => Option.some.inj (show some q586_M = some M from hM) ▸ wlkV (lkX12_255 h) q586_M rfl rfl, fun _ h => absurd h List.not_mem_nil⟩, fun _ h => absurd h List.not_mem_nil, fun _ h => absurd h List.not_mem_nil⟩ dkX12_once (by decide +kernel) (by rw [h.2.2.1]; exact q587_ok)
/-- NearSpellModel.isSignHere -/
def q588_M : rfM := ((⟨"NearSpellModel", "isSignHere", "(I)Z"⟩, prog_14_method_10_code, 2, (some .boolean)), (1,21), ([.inr (.inl [114]),.inl ((59,59,0),none)],[((114,8),(1,5,1),none)]), [], [(some (.inl ((1,1,0),none)),[],[((114,3),(1,1600,1),none),((114,6),(0,1599,1),none),((114,8),(5,5,1),none)]),(some (.inl ((0,0,0),none)),[],[])])
def ddX12_isSignHere : List (Nat × Instr × Nat) := [(0,.aload_n 0,1),(1,.getfield 195,3),(4,.iconst 5,1),(5,.if_icmp .ne 19,3),(8,.aload_n 0,1),(9,.aload_n 0,1),(10,.getfield 188,3),(13,.invokevirtual 191,3),(16,.iload_n 1,1),(17,.if_icmp .ne 7,3),(20,.iconst 1,1),(21,.goto 4,3),(24,.iconst 0,1),(25,.ireturn,1)]
set_option maxRecDepth 100000 in
theorem dkX12_isSignHere : rf_decs prog_14_method_10_code ddX12_isSignHere := rf_decs_of (by decide +kernel)
def q588_P : rfP := (flX12,csX12,lcX12,spX12,[q511_M],[],[(191,0,12)],([],[]))
def q588_U : rfU := []
set_option maxHeartbeats 8000000 in
def q588_N : List rfB := [(0,([(0,.inr (.inl [114])),(1,.inl ((59,59,0),none))],[],[((114,8),(1,5,1),some ((114,8),0,0))]),(16,[]),0),
  (24,([(0,.inr (.inl [114])),(1,.inl ((59,59,0),none))],[],[((114,8),(1,5,1),some ((114,8),0,0))]),(1,[]),0)]
set_option maxRecDepth 100000 in
theorem q588_ok : rf_chkB q588_P q588_U wLay q588_M ddX12_isSignHere [(13,[0])] [] [0,24] 600 q588_N = true := by decide +kernel
set_option maxHeartbeats 4000000 in
theorem q588_met {G : rfG} (h : okG G) (hh : wHandOK G) : rf_met G q588_M := rf_methodB h.1 (P := q588_P) (U := q588_U) (N := q588_N) ⟨wflT h flokX12, wcsT h csokX12, wlcT h lcokX12, spokX12 h, List.forall_mem_cons.mpr ⟨q511_met h hh, fun _ h => absurd h List.not_mem_nil⟩, fun _ h => absurd h List.not_mem_nil, List.forall_mem_cons.mpr ⟨fun M hM => Option.some.inj (show some q511_M = some M from hM) ▸ wlkV (lkX12_191 h) q511_M rfl rfl, fun _ h => absurd h List.not_mem_nil⟩, fun _ h => absurd h List.not_mem_nil, fun _ h => absurd h List.not_mem_nil⟩ dkX12_isSignHere (by decide +kernel) (by rw [h.2.2.1]; exact q588_ok)
/-- NearSpellModel.isSignHere -/
def q589_M : rfM := ((⟨"NearSpellModel", "isSignHere", "(I)Z"⟩, prog_14_method_10_code, 2, (some .boolean)), (0,0), ([.inr (.inl [114]),.inl ((59,59,0),none)],[((114,8),(0,0,1),none)]), [], [(some (.inl ((0,0,0),none)),[],[])])
def q589_P : rfP := (flX12,csX12,lcX12,spX12,[],[],[],([],[]))
def q589_U : rfU := []
set_option maxHeartbeats 8000000 in
def q589_N : List rfB := [(0,([(0,.inr (.inl [114])),(1,.inl ((59,59,0),none))],[],[((114,8),(0,0,1),some ((114,8),0,0))]),(5,[]),0)]
set_option maxRecDepth 100000 in
theorem q589_ok : rf_chkB q589_P q589_U wLay q589_M ddX12_isSignHere [] [] [0] 600 q589_N = true := by decide +kernel
set_option maxHeartbeats 4000000 in
theorem q589_met {G : rfG} (h : okG G) (hh : wHandOK G) : rf_met G q589_M := rf_methodB h.1 (P := q589_P) (U := q589_U) (N := q589_N) ⟨wflT h flokX12, wcsT h csokX12, wlcT h lcokX12, spokX12 h, fun _ h => absurd h List.not_mem_nil, fun _ h => absurd h List.not_mem_nil, fun _ h => absurd h List.not_mem_nil, fun _ h => absurd h List.not_mem_nil, fun _ h => absurd h List.not_mem_nil⟩ dkX12_isSignHere (by decide +kernel) (by rw [h.2.2.1]; exact q589_ok)
/-- NearSpellModel.isSignHere -/
def q590_M : rfM := ((⟨"NearSpellModel", "isSignHere", "(I)Z"⟩, prog_14_method_10_code, 2, (some .boolean)), (1,21), ([.inr (.inl [114]),.inl ((59,59,0),none)],[]), [], [(some (.inl ((1,1,0),none)),[],[((114,3),(1,1600,1),none),((114,6),(0,1599,1),none),((114,8),(5,5,1),none)]),(some (.inl ((0,0,0),none)),[],[])])
def q590_P : rfP := (flX12,csX12,lcX12,spX12,[q511_M],[],[(191,0,12)],([],[]))
def q590_U : rfU := []
set_option maxHeartbeats 8000000 in
def q590_N : List rfB := [(0,([(0,.inr (.inl [114])),(1,.inl ((59,59,0),none))],[],[]),(16,[]),0),
  (24,([(0,.inr (.inl [114])),(1,.inl ((59,59,0),none))],[],[]),(1,[]),0)]
set_option maxRecDepth 100000 in
theorem q590_ok : rf_chkB q590_P q590_U wLay q590_M ddX12_isSignHere [(13,[0])] [] [0,24] 600 q590_N = true := by decide +kernel
set_option maxHeartbeats 4000000 in
theorem q590_met {G : rfG} (h : okG G) (hh : wHandOK G) : rf_met G q590_M := rf_methodB h.1 (P := q590_P) (U := q590_U) (N := q590_N) ⟨wflT h flokX12, wcsT h csokX12, wlcT h lcokX12, spokX12 h, List.forall_mem_cons.mpr ⟨q511_met h hh, fun _ h => absurd h List.not_mem_nil⟩, fun _ h => absurd h List.not_mem_nil, List.forall_mem_cons.mpr ⟨fun M hM => Option.some.inj (show some q511_M = some M from hM) ▸ wlkV (lkX12_191 h) q511_M rfl rfl, fun _ h => absurd h List.not_mem_nil⟩, fun _ h => absurd h List.not_mem_nil, fun _ h => absurd h List.not_mem_nil⟩ dkX12_isSignHere (by decide +kernel) (by rw [h.2.2.1]; exact q590_ok)
/-- NearSpellModel.must -/
def q591_M : rfM := ((⟨"NearSpellModel", "must", "(Z)V"⟩, prog_14_method_13_code, 2, none), (2,44), ([.inr (.inl [114]),.inl ((1,1,0),none)],[((114,4),(0,0,1),none),((114,7),(0,1600,1),none),((114,8),(1,5,1),none)]), [(114,7),(114,8),(114,9),(114,10),(114,11)], [(none,[],[((114,7),(0,1600,1),none),((114,8),(0,0,0),none)]),(none,[],[((114,3),(1,1600,1),none),((114,6),(0,1599,1),some ((114,7),0,4294967296)),((114,7),(0,1600,1),some ((114,7),0,4294967296)),((114,8),(1,4,1),none)]),(none,[],[((114,3),(1,1600,1),none),((114,6),(0,1599,1),some ((114,7),0,4294967296)),((114,7),(1,1600,1),some ((114,7),1,4294967296)),((114,8),(5,5,0),none)])])
def ddX12_must : List (Nat × Instr × Nat) := [(0,.aload_n 0,1),(1,.invokevirtual 223,3),(4,.ifCond .ne 4,3),(7,.return_,1),(8,.iload_n 1,1),(9,.ifCond .eq 10,3),(12,.aload_n 0,1),(13,.invokevirtual 227,3),(16,.goto 7,3),(19,.aload_n 0,1),(20,.invokevirtual 230,3),(23,.return_,1)]
set_option maxRecDepth 100000 in
theorem dkX12_must : rf_decs prog_14_method_13_code ddX12_must := rf_decs_of (by decide +kernel)
def q591_P : rfP := (flX12,csX12,lcX12,spX12,[q520_M,q519_M],[],[(223,0,12),(227,1,12)],([],[]))
def q591_U : rfU := []
set_option maxHeartbeats 8000000 in
def q591_N : List rfB := [(0,([(0,.inr (.inl [114])),(1,.inl ((1,1,0),none))],[],[((114,4),(0,0,1),some ((114,4),0,0)),((114,7),(0,1600,1),some ((114,7),0,0)),((114,8),(1,5,1),some ((114,8),0,0))]),(12,[]),0)]
set_option maxRecDepth 100000 in
theorem q591_ok : rf_chkB q591_P q591_U wLay q591_M ddX12_must [(1,[0]),(13,[1])] [] [0] 600 q591_N = true := by decide +kernel
set_option maxHeartbeats 4000000 in
theorem q591_met {G : rfG} (h : okG G) (hh : wHandOK G) : rf_met G q591_M := rf_methodB h.1 (P := q591_P) (U := q591_U) (N := q591_N) ⟨wflT h flokX12, wcsT h csokX12, wlcT h lcokX12, spokX12 h, List.forall_mem_cons.mpr ⟨q520_met h hh, List.forall_mem_cons.mpr ⟨q519_met h hh, fun _ h => absurd h List.not_mem_nil⟩⟩, fun _ h => absurd h List.not_mem_nil, List.forall_mem_cons.mpr ⟨fun M hM => Option.some.inj (show some q520_M = some M from hM) ▸ wlkV (lkX12_223 h) q520_M rfl rfl, List.forall_mem_cons.mpr ⟨fun M hM => Option.some.inj (show some q519_M = some M from hM) ▸ wlkV (lkX12_227 h) q519_M rfl rfl, fun _ h => absurd h List.not_mem_nil⟩⟩, fun _ h => absurd h List.not_mem_nil, fun _ h => absurd h List.not_mem_nil⟩ dkX12_must (by decide +kernel) (by rw [h.2.2.1]; exact q591_ok)
/-- NearSpellModel.must -/
def q592_M : rfM := ((⟨"NearSpellModel", "must", "(Z)V"⟩, prog_14_method_13_code, 2, none), (2,42), ([.inr (.inl [114]),.inl ((0,0,0),none)],[((114,4),(0,0,1),none),((114,7),(0,1600,1),none),((114,8),(1,5,1),none)]), [(114,5),(114,6)], [(none,[],[((114,4),(1,2,1),none),((114,5),(0,1600,1),none)])])
def q592_P : rfP := (flX12,csX12,lcX12,spX12,[q520_M,q526_M],[],[(223,0,12),(230,1,12)],([],[]))
def q592_U : rfU := []
set_option maxHeartbeats 8000000 in
def q592_N : List rfB := [(0,([(0,.inr (.inl [114])),(1,.inl ((0,0,0),none))],[],[((114,4),(0,0,1),some ((114,4),0,0)),((114,7),(0,1600,1),some ((114,7),0,0)),((114,8),(1,5,1),some ((114,8),0,0))]),(7,[]),0)]
set_option maxRecDepth 100000 in
theorem q592_ok : rf_chkB q592_P q592_U wLay q592_M ddX12_must [(1,[0]),(20,[1])] [] [0] 600 q592_N = true := by decide +kernel
set_option maxHeartbeats 4000000 in
theorem q592_met {G : rfG} (h : okG G) (hh : wHandOK G) : rf_met G q592_M := rf_methodB h.1 (P := q592_P) (U := q592_U) (N := q592_N) ⟨wflT h flokX12, wcsT h csokX12, wlcT h lcokX12, spokX12 h, List.forall_mem_cons.mpr ⟨q520_met h hh, List.forall_mem_cons.mpr ⟨q526_met h hh, fun _ h => absurd h List.not_mem_nil⟩⟩, fun _ h => absurd h List.not_mem_nil, List.forall_mem_cons.mpr ⟨fun M hM => Option.some.inj (show some q520_M = some M from hM) ▸ wlkV (lkX12_223 h) q520_M rfl rfl, List.forall_mem_cons.mpr ⟨fun M hM => Option.some.inj (show some q526_M = some M from hM) ▸ wlkV (lkX12_230 h) q526_M rfl rfl, fun _ h => absurd h List.not_mem_nil⟩⟩, fun _ h => absurd h List.not_mem_nil, fun _ h => absurd h List.not_mem_nil⟩ dkX12_must (by decide +kernel) (by rw [h.2.2.1]; exact q592_ok)
/-- NearSpellModel.must -/
def q593_M : rfM := ((⟨"NearSpellModel", "must", "(Z)V"⟩, prog_14_method_13_code, 2, none), (2,42), ([.inr (.inl [114]),.inl ((0,0,0),none)],[((114,4),(0,0,1),none),((114,7),(0,1600,1),none),((114,8),(0,0,1),none)]), [(114,5),(114,6)], [(none,[],[((114,4),(2,2,0),none),((114,5),(0,1600,1),none)])])
def q593_P : rfP := (flX12,csX12,lcX12,spX12,[q520_M,q533_M],[],[(223,0,12),(230,1,12)],([],[]))
def q593_U : rfU := []
set_option maxHeartbeats 8000000 in
def q593_N : List rfB := [(0,([(0,.inr (.inl [114])),(1,.inl ((0,0,0),none))],[],[((114,4),(0,0,1),some ((114,4),0,0)),((114,7),(0,1600,1),some ((114,7),0,0)),((114,8),(0,0,1),some ((114,8),0,0))]),(7,[]),0)]
set_option maxRecDepth 100000 in
theorem q593_ok : rf_chkB q593_P q593_U wLay q593_M ddX12_must [(1,[0]),(20,[1])] [] [0] 600 q593_N = true := by decide +kernel
set_option maxHeartbeats 4000000 in
theorem q593_met {G : rfG} (h : okG G) (hh : wHandOK G) : rf_met G q593_M := rf_methodB h.1 (P := q593_P) (U := q593_U) (N := q593_N) ⟨wflT h flokX12, wcsT h csokX12, wlcT h lcokX12, spokX12 h, List.forall_mem_cons.mpr ⟨q520_met h hh, List.forall_mem_cons.mpr ⟨q533_met h hh, fun _ h => absurd h List.not_mem_nil⟩⟩, fun _ h => absurd h List.not_mem_nil, List.forall_mem_cons.mpr ⟨fun M hM => Option.some.inj (show some q520_M = some M from hM) ▸ wlkV (lkX12_223 h) q520_M rfl rfl, List.forall_mem_cons.mpr ⟨fun M hM => Option.some.inj (show some q533_M = some M from hM) ▸ wlkV (lkX12_230 h) q533_M rfl rfl, fun _ h => absurd h List.not_mem_nil⟩⟩, fun _ h => absurd h List.not_mem_nil, fun _ h => absurd h List.not_mem_nil⟩ dkX12_must (by decide +kernel) (by rw [h.2.2.1]; exact q593_ok)
/-- NearSpellModel.must -/
def q594_M : rfM := ((⟨"NearSpellModel", "must", "(Z)V"⟩, prog_14_method_13_code, 2, none), (1,20), ([.inr (.inl [114]),.inl ((1,1,0),none)],[((114,4),(1,4,1),none),((114,7),(0,1600,1),none),((114,8),(1,5,1),none)]), [], [(none,[],[])])
def q594_P : rfP := (flX12,csX12,lcX12,spX12,[q527_M],[],[(223,0,12)],([],[]))
def q594_U : rfU := []
set_option maxHeartbeats 8000000 in
def q594_N : List rfB := [(0,([(0,.inr (.inl [114])),(1,.inl ((1,1,0),none))],[],[((114,4),(1,4,1),some ((114,4),0,0)),((114,7),(0,1600,1),some ((114,7),0,0)),((114,8),(1,5,1),some ((114,8),0,0))]),(3,[]),0)]
set_option maxRecDepth 100000 in
theorem q594_ok : rf_chkB q594_P q594_U wLay q594_M ddX12_must [(1,[0])] [] [0] 600 q594_N = true := by decide +kernel
set_option maxHeartbeats 4000000 in
theorem q594_met {G : rfG} (h : okG G) (hh : wHandOK G) : rf_met G q594_M := rf_methodB h.1 (P := q594_P) (U := q594_U) (N := q594_N) ⟨wflT h flokX12, wcsT h csokX12, wlcT h lcokX12, spokX12 h, List.forall_mem_cons.mpr ⟨q527_met h hh, fun _ h => absurd h List.not_mem_nil⟩, fun _ h => absurd h List.not_mem_nil, List.forall_mem_cons.mpr ⟨fun M hM => Option.some.inj (show some q527_M = some M from hM) ▸ wlkV (lkX12_223 h) q527_M rfl rfl, fun _ h => absurd h List.not_mem_nil⟩, fun _ h => absurd h List.not_mem_nil, fun _ h => absurd h List.not_mem_nil⟩ dkX12_must (by decide +kernel) (by rw [h.2.2.1]; exact q594_ok)
/-- NearSpellModel.must -/
def q595_M : rfM := ((⟨"NearSpellModel", "must", "(Z)V"⟩, prog_14_method_13_code, 2, none), (1,20), ([.inr (.inl [114]),.inl ((0,0,0),none)],[((114,4),(1,4,1),none),((114,7),(0,1600,1),none)]), [], [(none,[],[])])
def q595_P : rfP := (flX12,csX12,lcX12,spX12,[q527_M],[],[(223,0,12)],([],[]))
def q595_U : rfU := []
set_option maxHeartbeats 8000000 in
def q595_N : List rfB := [(0,([(0,.inr (.inl [114])),(1,.inl ((0,0,0),none))],[],[((114,4),(1,4,1),some ((114,4),0,0)),((114,7),(0,1600,1),some ((114,7),0,0))]),(3,[]),0)]
set_option maxRecDepth 100000 in
theorem q595_ok : rf_chkB q595_P q595_U wLay q595_M ddX12_must [(1,[0])] [] [0] 600 q595_N = true := by decide +kernel
set_option maxHeartbeats 4000000 in
theorem q595_met {G : rfG} (h : okG G) (hh : wHandOK G) : rf_met G q595_M := rf_methodB h.1 (P := q595_P) (U := q595_U) (N := q595_N) ⟨wflT h flokX12, wcsT h csokX12, wlcT h lcokX12, spokX12 h, List.forall_mem_cons.mpr ⟨q527_met h hh, fun _ h => absurd h List.not_mem_nil⟩, fun _ h => absurd h List.not_mem_nil, List.forall_mem_cons.mpr ⟨fun M hM => Option.some.inj (show some q527_M = some M from hM) ▸ wlkV (lkX12_223 h) q527_M rfl rfl, fun _ h => absurd h List.not_mem_nil⟩, fun _ h => absurd h List.not_mem_nil, fun _ h => absurd h List.not_mem_nil⟩ dkX12_must (by decide +kernel) (by rw [h.2.2.1]; exact q595_ok)
/-- NearSpellModel.must -/
def q596_M : rfM := ((⟨"NearSpellModel", "must", "(Z)V"⟩, prog_14_method_13_code, 2, none), (1,20), ([.inr (.inl [114]),.inl ((0,0,0),none)],[((114,4),(1,4,1),none),((114,7),(0,1600,1),none),((114,8),(1,5,1),none)]), [], [(none,[],[])])
def q596_P : rfP := (flX12,csX12,lcX12,spX12,[q527_M],[],[(223,0,12)],([],[]))
def q596_U : rfU := []
set_option maxHeartbeats 8000000 in
def q596_N : List rfB := [(0,([(0,.inr (.inl [114])),(1,.inl ((0,0,0),none))],[],[((114,4),(1,4,1),some ((114,4),0,0)),((114,7),(0,1600,1),some ((114,7),0,0)),((114,8),(1,5,1),some ((114,8),0,0))]),(3,[]),0)]
set_option maxRecDepth 100000 in
theorem q596_ok : rf_chkB q596_P q596_U wLay q596_M ddX12_must [(1,[0])] [] [0] 600 q596_N = true := by decide +kernel
set_option maxHeartbeats 4000000 in
theorem q596_met {G : rfG} (h : okG G) (hh : wHandOK G) : rf_met G q596_M := rf_methodB h.1 (P := q596_P) (U := q596_U) (N := q596_N) ⟨wflT h flokX12, wcsT h csokX12, wlcT h lcokX12, spokX12 h, List.forall_mem_cons.mpr ⟨q527_met h hh, fun _ h => absurd h List.not_mem_nil⟩, fun _ h => absurd h List.not_mem_nil, List.forall_mem_cons.mpr ⟨fun M hM => Option.some.inj (show some q527_M = some M from hM) ▸ wlkV (lkX12_223 h) q527_M rfl rfl, fun _ h => absurd h List.not_mem_nil⟩, fun _ h => absurd h List.not_mem_nil, fun _ h => absurd h List.not_mem_nil⟩ dkX12_must (by decide +kernel) (by rw [h.2.2.1]; exact q596_ok)
/-- NearSpellModel.must -/
def q597_M : rfM := ((⟨"NearSpellModel", "must", "(Z)V"⟩, prog_14_method_13_code, 2, none), (1,20), ([.inr (.inl [114]),.inl ((0,0,0),none)],[((114,4),(1,4,1),none),((114,7),(0,1600,1),none),((114,8),(0,0,1),none)]), [], [(none,[],[])])
def q597_P : rfP := (flX12,csX12,lcX12,spX12,[q527_M],[],[(223,0,12)],([],[]))
def q597_U : rfU := []
set_option maxHeartbeats 8000000 in
def q597_N : List rfB := [(0,([(0,.inr (.inl [114])),(1,.inl ((0,0,0),none))],[],[((114,4),(1,4,1),some ((114,4),0,0)),((114,7),(0,1600,1),some ((114,7),0,0)),((114,8),(0,0,1),some ((114,8),0,0))]),(3,[]),0)]
set_option maxRecDepth 100000 in
theorem q597_ok : rf_chkB q597_P q597_U wLay q597_M ddX12_must [(1,[0])] [] [0] 600 q597_N = true := by decide +kernel
set_option maxHeartbeats 4000000 in
theorem q597_met {G : rfG} (h : okG G) (hh : wHandOK G) : rf_met G q597_M := rf_methodB h.1 (P := q597_P) (U := q597_U) (N := q597_N) ⟨wflT h flokX12, wcsT h csokX12, wlcT h lcokX12, spokX12 h, List.forall_mem_cons.mpr ⟨q527_met h hh, fun _ h => absurd h List.not_mem_nil⟩, fun _ h => absurd h List.not_mem_nil, List.forall_mem_cons.mpr ⟨fun M hM => Option.some.inj (show some q527_M = some M from hM) ▸ wlkV (lkX12_223 h) q527_M rfl rfl, fun _ h => absurd h List.not_mem_nil⟩, fun _ h => absurd h List.not_mem_nil, fun _ h => absurd h List.not_mem_nil⟩ dkX12_must (by decide +kernel) (by rw [h.2.2.1]; exact q597_ok)
/-- NearSpellModel.readLine -/
def q598_M : rfM := ((⟨"NearSpellModel", "readLine", "()V"⟩, prog_14_method_19_code, 3, none), (22,2041), ([.inr (.inl [114])],[((114,4),(0,0,1),none),((114,7),(0,1600,1),none),((114,8),(1,5,1),none)]), [(73,0),(74,0),(75,0),(76,0),(77,0),(78,0),(79,0),(80,0),(81,0),(82,0),(83,0),(84,0),(85,0),(86,0),(87,0),(88,0),(114,5),(114,6),(114,7),(114,8),(114,9),(114,10),(114,11),(114,31),(114,32),(114,33),(114,34)], [(none,[],[((114,4),(1,4,1),none),((114,7),(0,1600,1),none)]),(none,[],[((114,4),(1,4,1),none),((114,5),(0,1600,1),none),((114,7),(0,1600,1),some ((114,7),0,4294967296)),((114,8),(1,4,1),none)]),(none,[],[((114,3),(1,1600,1),none),((114,4),(0,0,1),none),((114,7),(0,1600,1),none),((114,8),(0,0,0),none)]),(none,[],[((114,3),(1,1600,1),none),((114,4),(0,0,1),none),((114,6),(1,1599,1),some ((114,7),1,4294967296)),((114,7),(1,1600,1),some ((114,7),1,4294967296)),((114,8),(1,4,1),none)]),(none,[],[((114,3),(1,1600,1),none),((114,4),(0,0,1),none),((114,6),(1,1599,1),some ((114,7),1,4294967296)),((114,7),(2,1600,1),some ((114,7),2,4294967296)),((114,8),(5,5,0),none)]),(none,[],[((114,3),(1,1600,1),none),((114,4),(1,4,1),none),((114,7),(0,1600,1),none),((114,8),(5,5,1),none)]),(none,[],[((114,4),(2,2,0),none),((114,5),(0,1600,1),none),((114,7),(0,1600,1),none),((114,8),(0,0,1),none)])])
def ddX12_readLine : List (Nat × Instr × Nat) := [(0,.aload_n 0,1),(1,.getfield 202,3),(4,.lstore_n 1,1),(5,.aload_n 0,1),(6,.getfield 195,3),(9,.iconst 3,1),(10,.if_icmp .ne 10,3),(13,.aload_n 0,1),(14,.invokevirtual 259,3),(17,.ifCond .eq 7,3),(20,.aload_n 0,1),(21,.invokevirtual 230,3),(24,.aload_n 0,1),(25,.invokevirtual 223,3),(28,.ifCond .ne 4,3),(31,.return_,1),(32,.aload_n 0,1),(33,.invokevirtual 227,3),(36,.lload_n 1,1),(37,.ldc2_w 157,3),(40,.lcmp,1),(41,.ifCond .ne 7,3),(44,.aload_n 0,1),(45,.invokevirtual 262,3),(48,.lload_n 1,1),(49,.ldc2_w 159,3),(52,.lcmp,1),(53,.ifCond .ne 20,3),(56,.aload_n 0,1),(57,.getfield 27,3),(60,.aload_n 0,1),(61,.getfield 233,3),(64,.aload_n 0,1),(65,.iconst 1,1),(66,.iconst 1,1),(67,.bipush 6,2),(69,.invokevirtual 265,3),(72,.iastore,1),(73,.lload_n 1,1),(74,.ldc2_w 161,3),(77,.lcmp,1),(78,.ifCond .ne 19,3),(81,.aload_n 0,1),(82,.getfield 30,3),(85,.aload_n 0,1),(86,.getfield 233,3),(89,.aload_n 0,1),(90,.iconst 2,1),(91,.iconst 0,1),(92,.iconst 2,1),(93,.invokevirtual 265,3),(96,.iastore,1),(97,.lload_n 1,1),(98,.ldc2_w 163,3),(101,.lcmp,1),(102,.ifCond .ne 7,3),(105,.aload_n 0,1),(106,.invokevirtual 269,3),(109,.lload_n 1,1),(110,.ldc2_w 165,3),(113,.lcmp,1),(114,.ifCond .ne 20,3),(117,.aload_n 0,1),(118,.getfield 33,3),(121,.aload_n 0,1),(122,.getfield 233,3),(125,.aload_n 0,1),(126,.iconst 3,1),(127,.iconst 1,1),(128,.bipush 31,2),(130,.invokevirtual 265,3),(133,.iastore,1),(134,.lload_n 1,1),(135,.ldc2_w 167,3),(138,.lcmp,1),(139,.ifCond .ne 20,3),(142,.aload_n 0,1),(143,.getfield 36,3),(146,.aload_n 0,1),(147,.getfield 233,3),(150,.aload_n 0,1),(151,.iconst 4,1),(152,.iconst 0,1),(153,.bipush 100,2),(155,.invokevirtual 265,3),(158,.iastore,1),(159,.lload_n 1,1),(160,.ldc2_w 169,3),(163,.lcmp,1),(164,.ifCond .ne 21,3),(167,.aload_n 0,1),(168,.getfield 39,3),(171,.aload_n 0,1),(172,.getfield 233,3),(175,.aload_n 0,1),(176,.iconst 5,1),(177,.iconst 0,1),(178,.sipush 999,3),(181,.invokevirtual 265,3),(184,.iastore,1),(185,.aload_n 0,1),(186,.aload_n 0,1),(187,.bipush 59,2),(189,.invokevirtual 272,3),(192,.invokevirtual 275,3),(195,.return_,1)]
set_option maxRecDepth 100000 in
theorem dkX12_readLine : rf_decs prog_14_method_19_code ddX12_readLine := rf_decs_of (by decide +kernel)
def q598_P : rfP := (flX12,csX12,lcX12,spX12,[q523_M,q526_M,q520_M,q527_M,q519_M,q528_M,q529_M,q532_M,q535_M,q537_M,q539_M,q541_M,q543_M,q545_M,q547_M,q549_M,q551_M,q553_M,q555_M,q557_M,q559_M,q561_M,q563_M,q565_M,q567_M,q569_M,q571_M,q573_M,q575_M,q577_M,q579_M,q581_M,q583_M,q585_M,q587_M,q588_M,q589_M,q590_M,q591_M,q592_M,q593_M,q594_M,q595_M,q596_M,q597_M],[],[(223,2,12),(223,3,12),(227,4,12),(230,1,12),(259,0,12),(262,5,12),(262,6,12),(265,7,12),(265,8,12),(265,9,12),(265,10,12),(265,11,12),(265,12,12),(265,13,12),(265,14,12),(265,20,12),(265,21,12),(265,22,12),(265,23,12),(265,24,12),(265,25,12),(265,26,12),(265,27,12),(265,28,12),(265,29,12),(265,30,12),(265,31,12),(265,32,12),(265,33,12),(265,34,12),(269,15,12),(269,16,12),(269,17,12),(269,18,12),(269,19,12),(272,35,12),(272,36,12),(272,37,12),(275,38,12),(275,39,12),(275,40,12),(275,41,12),(275,42,12),(275,43,12),(275,44,12)],([],[]))
def q598_U : rfU := []
set_option maxHeartbeats 8000000 in
def q598_N : List rfB := [(0,([(0,.inr (.inl [114]))],[],[((114,4),(0,0,1),some ((114,4),0,0)),((114,7),(0,1600,1),some ((114,7),0,0)),((114,8),(1,5,1),some ((114,8),0,0))]),(582,[]),0),
  (48,([(0,.inr (.inl [114])),(1,.inr (.inr 0))],[],[((114,3),(1,1600,1),none),((114,4),(0,0,1),none),((114,7),(1,1600,1),some ((114,7),1,4294967296)),((114,8),(5,5,1),none)]),(555,[]),0),
  (48,([(0,.inr (.inl [114])),(1,.inr (.inr 0))],[],[((114,4),(0,0,1),none),((114,7),(0,1600,1),none),((114,8),(0,0,1),none)]),(207,[]),0),
  (48,([(0,.inr (.inl [114])),(1,.inr (.inr 0))],[],[((114,3),(1,1600,1),none),((114,4),(0,0,1),none),((114,7),(0,1600,1),some ((114,7),0,4294967296)),((114,8),(1,4,1),none)]),(528,[]),0),
  (48,([(0,.inr (.inl [114])),(1,.inr (.inr 0))],[],[((114,4),(1,4,1),none),((114,7),(0,1600,1),none)]),(241,[]),0),
  (73,([(0,.inr (.inl [114])),(1,.inr (.inr 0))],[],[((114,3),(1,1600,1),none),((114,4),(0,0,1),none),((114,7),(1,1600,1),some ((114,7),1,4294967296)),((114,8),(5,5,1),none)]),(513,[]),0),
  (73,([(0,.inr (.inl [114])),(1,.inr (.inr 0))],[],[((114,4),(0,0,1),none),((114,7),(0,1600,1),none),((114,8),(0,0,1),none)]),(180,[]),0),
  (73,([(0,.inr (.inl [114])),(1,.inr (.inr 0))],[],[((114,3),(1,1600,1),none),((114,4),(0,0,1),none),((114,7),(0,1600,1),some ((114,7),0,4294967296)),((114,8),(1,4,1),none)]),(465,[]),0),
  (73,([(0,.inr (.inl [114])),(1,.inr (.inr 0))],[],[((114,4),(1,4,1),none),((114,7),(0,1600,1),none)]),(227,[]),0),
  (72,([(0,.inr (.inl [114])),(1,.inr (.inr 0))],[.inl ((1,1,0),none),.inl ((0,1,1),some (.inr (114,29),some 0)),.inr (.inl [75])],[((114,3),(1,1600,1),none),((114,4),(1,2,1),none),((114,5),(0,1600,1),none),((114,7),(1,1600,1),some ((114,7),1,4294967296)),((114,8),(5,5,1),none)]),(542,[]),0),
  (72,([(0,.inr (.inl [114])),(1,.inr (.inr 0))],[.inl ((1,6,1),none),.inl ((0,1,1),some (.inr (114,29),some 0)),.inr (.inl [75])],[((114,3),(1,1600,1),none),((114,4),(0,0,1),none),((114,7),(0,1600,1),none),((114,8),(0,0,0),none)]),(515,[]),0),
  (72,([(0,.inr (.inl [114])),(1,.inr (.inr 0))],[.inl ((1,6,1),none),.inl ((0,1,1),some (.inr (114,29),some 0)),.inr (.inl [75])],[((114,3),(1,1600,1),none),((114,4),(0,0,1),none),((114,6),(0,1599,1),some ((114,7),0,4294967296)),((114,7),(0,1600,1),some ((114,7),0,4294967296)),((114,8),(1,4,1),none)]),(466,[]),0),
  (72,([(0,.inr (.inl [114])),(1,.inr (.inr 0))],[.inl ((1,6,1),none),.inl ((0,1,1),some (.inr (114,29),some 0)),.inr (.inl [75])],[((114,3),(1,1600,1),none),((114,4),(0,0,1),none),((114,6),(0,1599,1),some ((114,7),0,4294967296)),((114,7),(1,1600,1),some ((114,7),1,4294967296)),((114,8),(5,5,0),none)]),(514,[]),0),
  (72,([(0,.inr (.inl [114])),(1,.inr (.inr 0))],[.inl ((1,1,0),none),.inl ((0,1,1),some (.inr (114,29),some 0)),.inr (.inl [75])],[((114,4),(2,2,0),none),((114,5),(0,1600,1),none),((114,7),(0,1600,1),none),((114,8),(0,0,1),none)]),(194,[]),0),
  (72,([(0,.inr (.inl [114])),(1,.inr (.inr 0))],[.inl ((1,1,0),none),.inl ((0,1,1),some (.inr (114,29),some 0)),.inr (.inl [75])],[((114,3),(1,1600,1),none),((114,4),(1,4,1),none),((114,5),(0,1600,1),none),((114,7),(0,1600,1),some ((114,7),0,4294967296)),((114,8),(1,4,1),none)]),(480,[]),0),
  (72,([(0,.inr (.inl [114])),(1,.inr (.inr 0))],[.inl ((1,1,0),none),.inl ((0,1,1),some (.inr (114,29),some 0)),.inr (.inl [75])],[((114,4),(1,4,1),none),((114,7),(0,1600,1),none)]),(228,[]),0),
  (73,([(0,.inr (.inl [114])),(1,.inr (.inr 0))],[],[((114,3),(1,1600,1),none),((114,4),(1,2,1),none),((114,5),(0,1600,1),none),((114,7),(1,1600,1),some ((114,7),1,4294967296)),((114,8),(5,5,1),none)]),(541,[]),0),
  (73,([(0,.inr (.inl [114])),(1,.inr (.inr 0))],[],[((114,4),(2,2,0),none),((114,5),(0,1600,1),none),((114,7),(0,1600,1),none),((114,8),(0,0,1),none)]),(193,[]),0),
  (73,([(0,.inr (.inl [114])),(1,.inr (.inr 0))],[],[((114,3),(1,1600,1),none),((114,4),(1,4,1),none),((114,5),(0,1600,1),none),((114,7),(0,1600,1),some ((114,7),0,4294967296)),((114,8),(1,4,1),none)]),(479,[]),0),
  (97,([(0,.inr (.inl [114])),(1,.inr (.inr 0))],[],[((114,3),(1,1600,1),none),((114,4),(0,0,1),none),((114,7),(1,1600,1),some ((114,7),1,4294967296)),((114,8),(5,5,1),none)]),(450,[]),0),
  (97,([(0,.inr (.inl [114])),(1,.inr (.inr 0))],[],[((114,4),(0,0,1),none),((114,7),(0,1600,1),none),((114,8),(0,0,1),none)]),(147,[]),0),
  (97,([(0,.inr (.inl [114])),(1,.inr (.inr 0))],[],[((114,3),(1,1600,1),none),((114,4),(0,0,1),none),((114,7),(0,1600,1),some ((114,7),0,4294967296)),((114,8),(1,4,1),none)]),(423,[]),0),
  (97,([(0,.inr (.inl [114])),(1,.inr (.inr 0))],[],[((114,4),(1,4,1),none),((114,7),(0,1600,1),none)]),(213,[]),0),
  (97,([(0,.inr (.inl [114])),(1,.inr (.inr 0))],[],[((114,3),(1,1600,1),none),((114,4),(1,2,1),none),((114,5),(0,1600,1),none),((114,7),(1,1600,1),some ((114,7),1,4294967296)),((114,8),(5,5,1),none)]),(499,[]),0),
  (97,([(0,.inr (.inl [114])),(1,.inr (.inr 0))],[],[((114,4),(2,2,0),none),((114,5),(0,1600,1),none),((114,7),(0,1600,1),none),((114,8),(0,0,1),none)]),(166,[]),0),
  (97,([(0,.inr (.inl [114])),(1,.inr (.inr 0))],[],[((114,3),(1,1600,1),none),((114,4),(1,4,1),none),((114,5),(0,1600,1),none),((114,7),(0,1600,1),some ((114,7),0,4294967296)),((114,8),(1,4,1),none)]),(443,[]),0),
  (96,([(0,.inr (.inl [114])),(1,.inr (.inr 0))],[.inl ((0,2,1),none),.inl ((0,1,1),some (.inr (114,29),some 0)),.inr (.inl [76])],[((114,3),(1,1600,1),none),((114,4),(0,0,1),none),((114,6),(0,1599,1),some ((114,7),0,4294967296)),((114,7),(1,1600,1),some ((114,7),1,4294967296)),((114,8),(5,5,0),none)]),(451,[]),0),
  (96,([(0,.inr (.inl [114])),(1,.inr (.inr 0))],[.inl ((0,0,0),none),.inl ((0,1,1),some (.inr (114,29),some 0)),.inr (.inl [76])],[((114,3),(1,1600,1),none),((114,4),(1,2,1),none),((114,5),(0,1600,1),none),((114,7),(1,1600,1),some ((114,7),1,4294967296)),((114,8),(5,5,1),none)]),(500,[]),0),
  (96,([(0,.inr (.inl [114])),(1,.inr (.inr 0))],[.inl ((0,2,1),none),.inl ((0,1,1),some (.inr (114,29),some 0)),.inr (.inl [76])],[((114,3),(1,1600,1),none),((114,4),(0,0,1),none),((114,7),(0,1600,1),none),((114,8),(0,0,0),none)]),(452,[]),0),
  (96,([(0,.inr (.inl [114])),(1,.inr (.inr 0))],[.inl ((0,2,1),none),.inl ((0,1,1),some (.inr (114,29),some 0)),.inr (.inl [76])],[((114,3),(1,1600,1),none),((114,4),(0,0,1),none),((114,6),(0,1599,1),some ((114,7),0,4294967296)),((114,7),(0,1600,1),some ((114,7),0,4294967296)),((114,8),(1,4,1),none)]),(424,[]),0),
  (96,([(0,.inr (.inl [114])),(1,.inr (.inr 0))],[.inl ((0,0,0),none),.inl ((0,1,1),some (.inr (114,29),some 0)),.inr (.inl [76])],[((114,4),(2,2,0),none),((114,5),(0,1600,1),none),((114,7),(0,1600,1),none),((114,8),(0,0,1),none)]),(167,[]),0),
  (96,([(0,.inr (.inl [114])),(1,.inr (.inr 0))],[.inl ((0,0,0),none),.inl ((0,1,1),some (.inr (114,29),some 0)),.inr (.inl [76])],[((114,3),(1,1600,1),none),((114,4),(1,4,1),none),((114,5),(0,1600,1),none),((114,7),(0,1600,1),some ((114,7),0,4294967296)),((114,8),(1,4,1),none)]),(444,[]),0),
  (96,([(0,.inr (.inl [114])),(1,.inr (.inr 0))],[.inl ((0,0,0),none),.inl ((0,1,1),some (.inr (114,29),some 0)),.inr (.inl [76])],[((114,4),(1,4,1),none),((114,7),(0,1600,1),none)]),(214,[]),0),
  (109,([(0,.inr (.inl [114])),(1,.inr (.inr 0))],[],[((114,3),(1,1600,1),none),((114,4),(0,0,1),none),((114,7),(1,1600,1),some ((114,7),1,4294967296)),((114,8),(5,5,1),none)]),(417,[]),0),
  (109,([(0,.inr (.inl [114])),(1,.inr (.inr 0))],[],[((114,4),(0,0,1),none),((114,7),(0,1600,1),none),((114,8),(0,0,1),none)]),(91,[]),0),
  (109,([(0,.inr (.inl [114])),(1,.inr (.inr 0))],[],[((114,3),(1,1600,1),none),((114,4),(0,0,1),none),((114,7),(0,1600,1),some ((114,7),0,4294967296)),((114,8),(1,4,1),none)]),(390,[]),0),
  (109,([(0,.inr (.inl [114])),(1,.inr (.inr 0))],[],[((114,4),(1,4,1),none),((114,7),(0,1600,1),none)]),(141,[]),0),
  (109,([(0,.inr (.inl [114])),(1,.inr (.inr 0))],[],[((114,3),(1,1600,1),none),((114,4),(1,2,1),none),((114,5),(0,1600,1),none),((114,7),(1,1600,1),some ((114,7),1,4294967296)),((114,8),(5,5,1),none)]),(493,[]),0),
  (109,([(0,.inr (.inl [114])),(1,.inr (.inr 0))],[],[((114,4),(2,2,0),none),((114,5),(0,1600,1),none),((114,7),(0,1600,1),none),((114,8),(0,0,1),none)]),(160,[]),0),
  (109,([(0,.inr (.inl [114])),(1,.inr (.inr 0))],[],[((114,3),(1,1600,1),none),((114,4),(1,4,1),none),((114,5),(0,1600,1),none),((114,7),(0,1600,1),some ((114,7),0,4294967296)),((114,8),(1,4,1),none)]),(437,[]),0),
  (134,([(0,.inr (.inl [114])),(1,.inr (.inr 0))],[],[((114,3),(1,1600,1),none),((114,4),(0,0,1),none),((114,7),(1,1600,1),some ((114,7),1,4294967296)),((114,8),(5,5,1),none)]),(375,[]),0),
  (134,([(0,.inr (.inl [114])),(1,.inr (.inr 0))],[],[((114,4),(0,0,1),none),((114,7),(0,1600,1),none),((114,8),(0,0,1),none)]),(64,[]),0),
  (134,([(0,.inr (.inl [114])),(1,.inr (.inr 0))],[],[((114,3),(1,1600,1),none),((114,4),(0,0,1),none),((114,7),(0,1600,1),some ((114,7),0,4294967296)),((114,8),(1,4,1),none)]),(333,[]),0),
  (134,([(0,.inr (.inl [114])),(1,.inr (.inr 0))],[],[((114,4),(1,4,1),none),((114,7),(0,1600,1),none)]),(127,[]),0),
  (134,([(0,.inr (.inl [114])),(1,.inr (.inr 0))],[],[((114,3),(1,1600,1),none),((114,4),(1,2,1),none),((114,5),(0,1600,1),none),((114,7),(1,1600,1),some ((114,7),1,4294967296)),((114,8),(5,5,1),none)]),(403,[]),0),
  (134,([(0,.inr (.inl [114])),(1,.inr (.inr 0))],[],[((114,4),(2,2,0),none),((114,5),(0,1600,1),none),((114,7),(0,1600,1),none),((114,8),(0,0,1),none)]),(77,[]),0),
  (134,([(0,.inr (.inl [114])),(1,.inr (.inr 0))],[],[((114,3),(1,1600,1),none),((114,4),(1,4,1),none),((114,5),(0,1600,1),none),((114,7),(0,1600,1),some ((114,7),0,4294967296)),((114,8),(1,4,1),none)]),(347,[]),0),
  (133,([(0,.inr (.inl [114])),(1,.inr (.inr 0))],[.inl ((1,31,1),none),.inl ((0,1,1),some (.inr (114,29),some 0)),.inr (.inl [77])],[((114,3),(1,1600,1),none),((114,4),(0,0,1),none),((114,6),(0,1599,1),some ((114,7),0,4294967296)),((114,7),(0,1600,1),some ((114,7),0,4294967296)),((114,8),(1,4,1),none)]),(334,[]),0),
  (133,([(0,.inr (.inl [114])),(1,.inr (.inr 0))],[.inl ((1,1,0),none),.inl ((0,1,1),some (.inr (114,29),some 0)),.inr (.inl [77])],[((114,3),(1,1600,1),none),((114,4),(1,2,1),none),((114,5),(0,1600,1),none),((114,7),(1,1600,1),some ((114,7),1,4294967296)),((114,8),(5,5,1),none)]),(404,[]),0),
  (133,([(0,.inr (.inl [114])),(1,.inr (.inr 0))],[.inl ((1,31,1),none),.inl ((0,1,1),some (.inr (114,29),some 0)),.inr (.inl [77])],[((114,3),(1,1600,1),none),((114,4),(0,0,1),none),((114,6),(0,1599,1),some ((114,7),0,4294967296)),((114,7),(1,1600,1),some ((114,7),1,4294967296)),((114,8),(5,5,0),none)]),(376,[]),0),
  (133,([(0,.inr (.inl [114])),(1,.inr (.inr 0))],[.inl ((1,31,1),none),.inl ((0,1,1),some (.inr (114,29),some 0)),.inr (.inl [77])],[((114,3),(1,1600,1),none),((114,4),(0,0,1),none),((114,7),(0,1600,1),none),((114,8),(0,0,0),none)]),(377,[]),0),
  (133,([(0,.inr (.inl [114])),(1,.inr (.inr 0))],[.inl ((1,1,0),none),.inl ((0,1,1),some (.inr (114,29),some 0)),.inr (.inl [77])],[((114,4),(2,2,0),none),((114,5),(0,1600,1),none),((114,7),(0,1600,1),none),((114,8),(0,0,1),none)]),(78,[]),0),
  (133,([(0,.inr (.inl [114])),(1,.inr (.inr 0))],[.inl ((1,1,0),none),.inl ((0,1,1),some (.inr (114,29),some 0)),.inr (.inl [77])],[((114,3),(1,1600,1),none),((114,4),(1,4,1),none),((114,5),(0,1600,1),none),((114,7),(0,1600,1),some ((114,7),0,4294967296)),((114,8),(1,4,1),none)]),(348,[]),0),
  (133,([(0,.inr (.inl [114])),(1,.inr (.inr 0))],[.inl ((1,1,0),none),.inl ((0,1,1),some (.inr (114,29),some 0)),.inr (.inl [77])],[((114,4),(1,4,1),none),((114,7),(0,1600,1),none)]),(128,[]),0),
  (159,([(0,.inr (.inl [114])),(1,.inr (.inr 0))],[],[((114,3),(1,1600,1),none),((114,4),(0,0,1),none),((114,7),(1,1600,1),some ((114,7),1,4294967296)),((114,8),(5,5,1),none)]),(318,[]),0),
  (159,([(0,.inr (.inl [114])),(1,.inr (.inr 0))],[],[((114,4),(0,0,1),none),((114,7),(0,1600,1),none),((114,8),(0,0,1),none)]),(37,[]),0),
  (159,([(0,.inr (.inl [114])),(1,.inr (.inr 0))],[],[((114,3),(1,1600,1),none),((114,4),(0,0,1),none),((114,7),(0,1600,1),some ((114,7),0,4294967296)),((114,8),(1,4,1),none)]),(284,[]),0),
  (159,([(0,.inr (.inl [114])),(1,.inr (.inr 0))],[],[((114,4),(1,4,1),none),((114,7),(0,1600,1),none)]),(113,[]),0),
  (159,([(0,.inr (.inl [114])),(1,.inr (.inr 0))],[],[((114,3),(1,1600,1),none),((114,4),(1,2,1),none),((114,5),(0,1600,1),none),((114,7),(1,1600,1),some ((114,7),1,4294967296)),((114,8),(5,5,1),none)]),(361,[]),0),
  (159,([(0,.inr (.inl [114])),(1,.inr (.inr 0))],[],[((114,4),(2,2,0),none),((114,5),(0,1600,1),none),((114,7),(0,1600,1),none),((114,8),(0,0,1),none)]),(50,[]),0),
  (159,([(0,.inr (.inl [114])),(1,.inr (.inr 0))],[],[((114,3),(1,1600,1),none),((114,4),(1,4,1),none),((114,5),(0,1600,1),none),((114,7),(0,1600,1),some ((114,7),0,4294967296)),((114,8),(1,4,1),none)]),(298,[]),0),
  (158,([(0,.inr (.inl [114])),(1,.inr (.inr 0))],[.inl ((0,0,0),none),.inl ((0,1,1),some (.inr (114,29),some 0)),.inr (.inl [78])],[((114,3),(1,1600,1),none),((114,4),(1,2,1),none),((114,5),(0,1600,1),none),((114,7),(1,1600,1),some ((114,7),1,4294967296)),((114,8),(5,5,1),none)]),(362,[]),0),
  (158,([(0,.inr (.inl [114])),(1,.inr (.inr 0))],[.inl ((0,100,1),none),.inl ((0,1,1),some (.inr (114,29),some 0)),.inr (.inl [78])],[((114,3),(1,1600,1),none),((114,4),(0,0,1),none),((114,7),(0,1600,1),none),((114,8),(0,0,0),none)]),(320,[]),0),
  (158,([(0,.inr (.inl [114])),(1,.inr (.inr 0))],[.inl ((0,100,1),none),.inl ((0,1,1),some (.inr (114,29),some 0)),.inr (.inl [78])],[((114,3),(1,1600,1),none),((114,4),(0,0,1),none),((114,6),(0,1599,1),some ((114,7),0,4294967296)),((114,7),(0,1600,1),some ((114,7),0,4294967296)),((114,8),(1,4,1),none)]),(285,[]),0),
  (158,([(0,.inr (.inl [114])),(1,.inr (.inr 0))],[.inl ((0,100,1),none),.inl ((0,1,1),some (.inr (114,29),some 0)),.inr (.inl [78])],[((114,3),(1,1600,1),none),((114,4),(0,0,1),none),((114,6),(0,1599,1),some ((114,7),0,4294967296)),((114,7),(1,1600,1),some ((114,7),1,4294967296)),((114,8),(5,5,0),none)]),(319,[]),0),
  (158,([(0,.inr (.inl [114])),(1,.inr (.inr 0))],[.inl ((0,0,0),none),.inl ((0,1,1),some (.inr (114,29),some 0)),.inr (.inl [78])],[((114,4),(2,2,0),none),((114,5),(0,1600,1),none),((114,7),(0,1600,1),none),((114,8),(0,0,1),none)]),(51,[]),0),
  (158,([(0,.inr (.inl [114])),(1,.inr (.inr 0))],[.inl ((0,0,0),none),.inl ((0,1,1),some (.inr (114,29),some 0)),.inr (.inl [78])],[((114,3),(1,1600,1),none),((114,4),(1,4,1),none),((114,5),(0,1600,1),none),((114,7),(0,1600,1),some ((114,7),0,4294967296)),((114,8),(1,4,1),none)]),(299,[]),0),
  (158,([(0,.inr (.inl [114])),(1,.inr (.inr 0))],[.inl ((0,0,0),none),.inl ((0,1,1),some (.inr (114,29),some 0)),.inr (.inl [78])],[((114,4),(1,4,1),none),((114,7),(0,1600,1),none)]),(114,[]),0),
  (185,([(0,.inr (.inl [114])),(1,.inr (.inr 0))],[],[((114,3),(1,1600,1),none),((114,4),(0,0,1),none),((114,7),(1,1600,1),some ((114,7),1,4294967296)),((114,8),(5,5,1),none)]),(269,[]),0),
  (185,([(0,.inr (.inl [114])),(1,.inr (.inr 0))],[],[((114,4),(0,0,1),none),((114,7),(0,1600,1),none),((114,8),(0,0,1),none)]),(18,[]),0),
  (185,([(0,.inr (.inl [114])),(1,.inr (.inr 0))],[],[((114,3),(1,1600,1),none),((114,4),(0,0,1),none),((114,7),(0,1600,1),some ((114,7),0,4294967296)),((114,8),(1,4,1),none)]),(253,[]),0),
  (185,([(0,.inr (.inl [114])),(1,.inr (.inr 0))],[],[((114,4),(1,4,1),none),((114,7),(0,1600,1),none)]),(99,[]),0),
  (185,([(0,.inr (.inl [114])),(1,.inr (.inr 0))],[],[((114,3),(1,1600,1),none),((114,4),(1,2,1),none),((114,5),(0,1600,1),none),((114,7),(1,1600,1),some ((114,7),1,4294967296)),((114,8),(5,5,1),none)]),(304,[]),0),
  (185,([(0,.inr (.inl [114])),(1,.inr (.inr 0))],[],[((114,4),(2,2,0),none),((114,5),(0,1600,1),none),((114,7),(0,1600,1),none),((114,8),(0,0,1),none)]),(23,[]),0),
  (185,([(0,.inr (.inl [114])),(1,.inr (.inr 0))],[],[((114,3),(1,1600,1),none),((114,4),(1,4,1),none),((114,5),(0,1600,1),none),((114,7),(0,1600,1),some ((114,7),0,4294967296)),((114,8),(1,4,1),none)]),(259,[]),0),
  (184,([(0,.inr (.inl [114])),(1,.inr (.inr 0))],[.inl ((0,999,1),none),.inl ((0,1,1),some (.inr (114,29),some 0)),.inr (.inl [79])],[((114,3),(1,1600,1),none),((114,4),(0,0,1),none),((114,7),(0,1600,1),none),((114,8),(0,0,0),none)]),(271,[]),0),
  (184,([(0,.inr (.inl [114])),(1,.inr (.inr 0))],[.inl ((0,999,1),none),.inl ((0,1,1),some (.inr (114,29),some 0)),.inr (.inl [79])],[((114,3),(1,1600,1),none),((114,4),(0,0,1),none),((114,6),(0,1599,1),some ((114,7),0,4294967296)),((114,7),(1,1600,1),some ((114,7),1,4294967296)),((114,8),(5,5,0),none)]),(270,[]),0),
  (184,([(0,.inr (.inl [114])),(1,.inr (.inr 0))],[.inl ((0,0,0),none),.inl ((0,1,1),some (.inr (114,29),some 0)),.inr (.inl [79])],[((114,3),(1,1600,1),none),((114,4),(1,2,1),none),((114,5),(0,1600,1),none),((114,7),(1,1600,1),some ((114,7),1,4294967296)),((114,8),(5,5,1),none)]),(305,[]),0),
  (184,([(0,.inr (.inl [114])),(1,.inr (.inr 0))],[.inl ((0,999,1),none),.inl ((0,1,1),some (.inr (114,29),some 0)),.inr (.inl [79])],[((114,3),(1,1600,1),none),((114,4),(0,0,1),none),((114,6),(0,1599,1),some ((114,7),0,4294967296)),((114,7),(0,1600,1),some ((114,7),0,4294967296)),((114,8),(1,4,1),none)]),(254,[]),0),
  (184,([(0,.inr (.inl [114])),(1,.inr (.inr 0))],[.inl ((0,0,0),none),.inl ((0,1,1),some (.inr (114,29),some 0)),.inr (.inl [79])],[((114,4),(2,2,0),none),((114,5),(0,1600,1),none),((114,7),(0,1600,1),none),((114,8),(0,0,1),none)]),(24,[]),0),
  (184,([(0,.inr (.inl [114])),(1,.inr (.inr 0))],[.inl ((0,0,0),none),.inl ((0,1,1),some (.inr (114,29),some 0)),.inr (.inl [79])],[((114,3),(1,1600,1),none),((114,4),(1,4,1),none),((114,5),(0,1600,1),none),((114,7),(0,1600,1),some ((114,7),0,4294967296)),((114,8),(1,4,1),none)]),(260,[]),0),
  (184,([(0,.inr (.inl [114])),(1,.inr (.inr 0))],[.inl ((0,0,0),none),.inl ((0,1,1),some (.inr (114,29),some 0)),.inr (.inl [79])],[((114,4),(1,4,1),none),((114,7),(0,1600,1),none)]),(100,[]),0),
  (192,([(0,.inr (.inl [114])),(1,.inr (.inr 0))],[.inl ((1,1,0),none),.inr (.inl [114])],[((114,3),(1,1600,1),none),((114,4),(0,0,1),none),((114,6),(0,1599,1),none),((114,7),(1,1600,1),some ((114,7),1,4294967296)),((114,8),(5,5,1),none)]),(264,[]),0),
  (192,([(0,.inr (.inl [114])),(1,.inr (.inr 0))],[.inl ((0,0,0),none),.inr (.inl [114])],[((114,3),(1,1600,1),none),((114,4),(0,0,1),none),((114,7),(1,1600,1),some ((114,7),1,4294967296)),((114,8),(5,5,1),none)]),(265,[]),0),
  (192,([(0,.inr (.inl [114])),(1,.inr (.inr 0))],[.inl ((0,0,0),none),.inr (.inl [114])],[((114,4),(0,0,1),none),((114,7),(0,1600,1),none),((114,8),(0,0,1),none)]),(14,[]),0),
  (192,([(0,.inr (.inl [114])),(1,.inr (.inr 0))],[.inl ((0,0,0),none),.inr (.inl [114])],[((114,3),(1,1600,1),none),((114,4),(0,0,1),none),((114,7),(0,1600,1),some ((114,7),0,4294967296)),((114,8),(1,4,1),none)]),(249,[]),0),
  (192,([(0,.inr (.inl [114])),(1,.inr (.inr 0))],[.inl ((1,1,0),none),.inr (.inl [114])],[((114,3),(1,1600,1),none),((114,4),(1,4,1),none),((114,6),(0,1599,1),none),((114,7),(0,1600,1),none),((114,8),(5,5,1),none)]),(93,[]),0),
  (192,([(0,.inr (.inl [114])),(1,.inr (.inr 0))],[.inl ((0,0,0),none),.inr (.inl [114])],[((114,4),(1,4,1),none),((114,7),(0,1600,1),none)]),(95,[]),0),
  (192,([(0,.inr (.inl [114])),(1,.inr (.inr 0))],[.inl ((0,0,0),none),.inr (.inl [114])],[((114,3),(1,1600,1),none),((114,4),(1,2,1),none),((114,5),(0,1600,1),none),((114,7),(1,1600,1),some ((114,7),1,4294967296)),((114,8),(5,5,1),none)]),(300,[]),0),
  (192,([(0,.inr (.inl [114])),(1,.inr (.inr 0))],[.inl ((0,0,0),none),.inr (.inl [114])],[((114,4),(2,2,0),none),((114,5),(0,1600,1),none),((114,7),(0,1600,1),none),((114,8),(0,0,1),none)]),(19,[]),0),
  (192,([(0,.inr (.inl [114])),(1,.inr (.inr 0))],[.inl ((0,0,0),none),.inr (.inl [114])],[((114,3),(1,1600,1),none),((114,4),(1,4,1),none),((114,5),(0,1600,1),none),((114,7),(0,1600,1),some ((114,7),0,4294967296)),((114,8),(1,4,1),none)]),(255,[]),0),
  (195,([(0,.inr (.inl [114])),(1,.inr (.inr 0))],[],[((114,3),(1,1600,1),none),((114,4),(0,0,1),none),((114,7),(0,1600,1),none),((114,8),(0,0,0),none)]),(261,[]),0),
  (195,([(0,.inr (.inl [114])),(1,.inr (.inr 0))],[],[((114,3),(1,1600,1),none),((114,4),(0,0,1),none),((114,6),(1,1599,1),some ((114,7),1,4294967296)),((114,7),(1,1600,1),some ((114,7),1,4294967296)),((114,8),(1,4,1),none)]),(262,[]),0),
  (195,([(0,.inr (.inl [114])),(1,.inr (.inr 0))],[],[((114,3),(1,1600,1),none),((114,4),(0,0,1),none),((114,6),(1,1599,1),some ((114,7),1,4294967296)),((114,7),(2,1600,1),some ((114,7),2,4294967296)),((114,8),(5,5,0),none)]),(263,[]),0),
  (195,([(0,.inr (.inl [114])),(1,.inr (.inr 0))],[],[((114,3),(1,1600,1),none),((114,4),(1,4,1),none),((114,7),(0,1600,1),none),((114,8),(5,5,1),none)]),(92,[]),0),
  (195,([(0,.inr (.inl [114])),(1,.inr (.inr 0))],[],[((114,4),(2,2,0),none),((114,5),(0,1600,1),none),((114,7),(0,1600,1),none),((114,8),(0,0,1),none)]),(13,[]),0),
  (195,([(0,.inr (.inl [114])),(1,.inr (.inr 0))],[],[((114,3),(1,1600,1),none),((114,4),(1,4,1),none),((114,5),(0,1600,1),none),((114,7),(0,1600,1),some ((114,7),0,4294967296)),((114,8),(1,4,1),none)]),(248,[]),0),
  (195,([(0,.inr (.inl [114])),(1,.inr (.inr 0))],[],[((114,4),(1,4,1),none),((114,7),(0,1600,1),none)]),(94,[]),0)]
set_option maxRecDepth 100000 in
theorem q598_ok : rf_chkB q598_P q598_U wLay q598_M ddX12_readLine [(14,[0]),(21,[1]),(25,[2,3]),(33,[4]),(45,[5,6]),(69,[7,8,9]),(93,[10,11,12,13,14]),(106,[15,16,17,18,19]),(130,[20,21,22,23,24]),(155,[25,26,27,28,29]),(181,[30,31,32,33,34]),(189,[35,36,37]),(192,[38,39,40,41,42,43,44])] [] [0,48,72,73,96,97,109,133,134,158,159,184,185,192,195] 600 q598_N = true := by decide +kernel
set_option maxHeartbeats 4000000 in
theorem q598_met {G : rfG} (h : okG G) (hh : wHandOK G) : rf_met G q598_M := rf_methodB h.1 (P := q598_P) (U := q598_U) (N := q598_N) ⟨wflT h flokX12, wcsT h csokX12, wlcT h lcokX12, spokX12 h, List.forall_mem_cons.mpr ⟨q523_met h hh, List.forall_mem_cons.mpr ⟨q526_met h hh, List.forall_mem_cons.mpr ⟨q520_met h hh, List.forall_mem_cons.mpr ⟨q527_met h hh, List.forall_mem_cons.mpr ⟨q519_met h hh, List.forall_mem_cons.mpr ⟨q528_met h hh, List.forall_mem_cons.mpr ⟨q529_met h hh, List.forall_mem_cons.mpr ⟨q532_met h hh, List.forall_mem_cons.mpr ⟨q535_met h hh, List.forall_mem_cons.mpr ⟨q537_met h hh, List.forall_mem_cons.mpr ⟨q539_met h hh, List.forall_mem_cons.mpr ⟨q541_met h hh, List.forall_mem_cons.mpr ⟨q543_met h hh, List.forall_mem_cons.mpr ⟨q545_met h hh, List.forall_mem_cons.mpr ⟨q547_met h hh, List.forall_mem_cons.mpr ⟨q549_met h hh, List.forall_mem_cons.mpr ⟨q551_met h hh, List.forall_mem_cons.mpr ⟨q553_met h hh, List.forall_mem_cons.mpr ⟨q555_met h hh, List.forall_mem_cons.mpr ⟨q557_met h hh, List.forall_mem_cons.mpr ⟨q559_met h hh, List.forall_mem_cons.mpr ⟨q561_met h hh, List.forall_mem_cons.mpr ⟨q563_met h hh, List.forall_mem_cons.mpr ⟨q565_met h hh, List.forall_mem_cons.mpr ⟨q567_met h hh, List.forall_mem_cons.mpr ⟨q569_met h hh, List.forall_mem_cons.mpr ⟨q571_met h hh, List.forall_mem_cons.mpr ⟨q573_met h hh, List.forall_mem_cons.mpr ⟨q575_met h hh, List.forall_mem_cons.mpr ⟨q577_met h hh, List.forall_mem_cons.mpr ⟨q579_met h hh, List.forall_mem_cons.mpr ⟨q581_met h hh, List.forall_mem_cons.mpr ⟨q583_met h hh, List.forall_mem_cons.mpr ⟨q585_met h hh, List.forall_mem_cons.mpr ⟨q587_met h hh, List.forall_mem_cons.mpr ⟨q588_met h hh, List.forall_mem_cons.mpr ⟨q589_met h hh, List.forall_mem_cons.mpr ⟨q590_met h hh, List.forall_mem_cons.mpr ⟨q591_met h hh, List.forall_mem_cons.mpr ⟨q592_met h hh, List.forall_mem_cons.mpr ⟨q593_met h hh, List.forall_mem_cons.mpr ⟨q594_met h hh, List.forall_mem_cons.mpr ⟨q595_met h hh, List.forall_mem_cons.mpr ⟨q596_met h hh, List.forall_mem_cons.mpr ⟨q597_met h hh, fun _ h => absurd h List.not_mem_nil⟩⟩⟩⟩⟩⟩⟩⟩⟩⟩⟩⟩⟩⟩⟩⟩⟩⟩⟩⟩⟩⟩⟩⟩⟩⟩⟩⟩⟩⟩⟩⟩⟩⟩⟩⟩⟩⟩⟩⟩⟩⟩⟩⟩⟩, fun _ h => absurd h List.not_mem_nil, List.forall_mem_cons.mpr ⟨fun M hM => Option.some.inj (show some q520_M = some M from hM) ▸ wlkV (lkX12_223 h) q520_M rfl rfl, List.forall_mem_cons.mpr ⟨fun M hM => Option.some.inj (show some q527_M = some M from hM) ▸ wlkV (lkX12_223 h) q527_M rfl rfl, List.forall_mem_cons.mpr ⟨fun M hM => Option.some.inj (show some q519_M = some M from hM) ▸ wlkV (lkX12_227 h) q519_M rfl rfl, List.forall_mem_cons.mpr ⟨fun M hM => Option.some.inj (show some q526_M = some M from hM) ▸ wlkV (lkX12_230 h) q526_M rfl rfl, List.forall_mem_cons.mpr ⟨fun M hM => Option.some.inj (show some q523_M = some M from hM) ▸ wlkV (lkX12_259 h) q523_M rfl rfl, List.forall_mem_cons.mpr ⟨fun M hM => Option.some.inj (show some q528_M = some M from hM) ▸ wlkV (lkX12_262 h) q528_M rfl rfl, List.forall_mem_cons.mpr ⟨fun M hM => Option.some.inj (show some q529_M = some M from hM) ▸ wlkV (lkX12_262 h) q529_M rfl rfl, List.forall_mem_cons.mpr ⟨fun M hM => Option.some.inj (show some q532_M = some M from hM) ▸ wlkV (lkX12_265 h) q532_M rfl rfl, List.forall_mem_cons.mpr ⟨fun M hM => Option.some.inj (show some q535_M = some M from hM) ▸ wlkV (lkX12_265 h) q535_M rfl rfl, List.forall_mem_cons.mpr ⟨fun M hM => Option.some.inj (show some q537_M = some M from hM) ▸ wlkV (lkX12_265 h) q537_M rfl rfl, List.forall_mem_cons.mpr ⟨fun M hM => Option.some.inj (show some q539_M = some M from hM) ▸ wlkV (lkX12_265 h) q539_M rfl rfl, List.forall_mem_cons.mpr ⟨fun M hM => Option.some.inj (show some q541_M = some M from hM) ▸ wlkV (lkX12_265 h) q541_M rfl rfl, List.forall_mem_cons.mpr ⟨fun M hM => Option.some.inj (show some q543_M = some M from hM) ▸ wlkV (lkX12_265 h) q543_M rfl rfl, List.forall_mem_cons.mpr ⟨fun M hM => Option.some.inj (show some q545_M = some M from hM) ▸ wlkV (lkX12_265 h) q545_M rfl rfl, List.forall_mem_cons.mpr ⟨fun M hM => Option.some.inj (show some q547_M = some M from hM) ▸ wlkV (lkX12_265 h) q547_M rfl rfl, List.forall_mem_cons.mpr ⟨fun M hM => Option.some.inj (show some q559_M = some M from hM) ▸ wlkV (lkX12_265 h) q559_M rfl rfl, List.forall_mem_cons.mpr ⟨fun M hM => Option.some.inj (show some q561_M = some M from hM) ▸ wlkV (lkX12_265 h) q561_M rfl rfl, List.forall_mem_cons.mpr ⟨fun M hM => Option.some.inj (show some q563_M = some M from hM) ▸ wlkV (lkX12_265 h) q563_M rfl rfl, List.forall_mem_cons.mpr ⟨fun M hM => Option.some.inj (show some q565_M = some M from hM) ▸ wlkV (lkX12_265 h) q565_M rfl rfl, List.forall_mem_cons.mpr ⟨fun M hM => Option.some.inj (show some q567_M = some M from hM) ▸ wlkV (lkX12_265 h) q567_M rfl rfl, List.forall_mem_cons.mpr ⟨fun M hM => Option.some.inj (show some q569_M = some M from hM) ▸ wlkV (lkX12_265 h) q569_M rfl rfl, List.forall_mem_cons.mpr ⟨fun M hM => Option.some.inj (show some q571_M = some M from hM) ▸ wlkV (lkX12_265 h) q571_M rfl rfl, List.forall_mem_cons.mpr ⟨fun M hM => Option.some.inj (show some q573_M = some M from hM) ▸ wlkV (lkX12_265 h) q573_M rfl rfl, List.forall_mem_cons.mpr ⟨fun M hM => Option.some.inj (show some q575_M = some M from hM) ▸ wlkV (lkX12_265 h) q575_M rfl rfl, List.forall_mem_cons.mpr ⟨fun M hM => Option.some.inj (show some q577_M = some M from hM) ▸ wlkV (lkX12_265 h) q577_M rfl rfl, List.forall_mem_cons.mpr ⟨fun M hM => Option.some.inj (show some q579_M = some M from hM) ▸ wlkV (lkX12_265 h) q579_M rfl rfl, List.forall_mem_cons.mpr ⟨fun M hM => Option.some.inj (show some q581_M = some M from hM) ▸ wlkV (lkX12_265 h) q581_M rfl rfl, List.forall_mem_cons.mpr ⟨fun M hM => Option.some.inj (show some q583_M = some M from hM) ▸ wlkV (lkX12_265 h) q583_M rfl rfl, List.forall_mem_cons.mpr ⟨fun M hM => Option.some.inj (show some q585_M = some M from hM) ▸ wlkV (lkX12_265 h) q585_M rfl rfl, List.forall_mem_cons.mpr ⟨fun M hM => Option.some.inj (show some q587_M = some M from hM) ▸ wlkV (lkX12_265 h) q587_M rfl rfl, List.forall_mem_cons.mpr ⟨fun M hM => Option.some.inj (show some q549_M = some M from hM) ▸ wlkV (lkX12_269 h) q549_M rfl rfl, List.forall_mem_cons.mpr ⟨fun M hM => Option.some.inj (show some q551_M = some M from hM) ▸ wlkV (lkX12_269 h) q551_M rfl rfl, List.forall_mem_cons.mpr ⟨fun M hM => Option.some.inj (show some q553_M = some M from hM) ▸ wlkV (lkX12_269 h) q553_M rfl rfl, List.forall_mem_cons.mpr ⟨fun M hM => Option.some.inj (show some q555_M = some M from hM) ▸ wlkV (lkX12_269 h) q555_M rfl rfl, List.forall_mem_cons.mpr ⟨fun M hM => Option.some.inj (show some q557_M = some M from hM) ▸ wlkV (lkX12_269 h) q557_M rfl rfl, List.forall_mem_cons.mpr ⟨fun M hM => Option.some.inj (show some q588_M = some M from hM) ▸ wlkV (lkX12_272 h) q588_M rfl rfl, List.forall_mem_cons.mpr ⟨fun M hM => Option.some.inj (show some q589_M = some M from hM) ▸ wlkV (lkX12_272 h) q589_M rfl rfl, List.forall_mem_cons.mpr ⟨fun M hM => Option.some.inj (show some q590_M = some M from hM) ▸ wlkV (lkX12_272 h) q590_M rfl rfl, List.forall_mem_cons.mpr ⟨fun M hM => Option.some.inj (show some q591_M = some M from hM) ▸ wlkV (lkX12_275 h) q591_M rfl rfl, List.forall_mem_cons.mpr ⟨fun M hM => Option.some.inj (show some q592_M = some M from hM) ▸ wlkV (lkX12_275 h) q592_M rfl rfl, List.forall_mem_cons.mpr ⟨fun M hM => Option.some.inj (show some q593_M = some M from hM) ▸ wlkV (lkX12_275 h) q593_M rfl rfl, List.forall_mem_cons.mpr ⟨fun M hM => Option.some.inj (show some q594_M = some M from hM) ▸ wlkV (lkX12_275 h) q594_M rfl rfl, List.forall_mem_cons.mpr ⟨fun M hM => Option.some.inj (show some q595_M = some M from hM) ▸ wlkV (lkX12_275 h) q595_M rfl rfl, List.forall_mem_cons.mpr ⟨fun M hM => Option.some.inj (show some q596_M = some M from hM) ▸ wlkV (lkX12_275 h) q596_M rfl rfl, List.forall_mem_cons.mpr ⟨fun M hM => Option.some.inj (show some q597_M = some M from hM) ▸ wlkV (lkX12_275 h) q597_M rfl rfl, fun _ h => absurd h List.not_mem_nil⟩⟩⟩⟩⟩⟩⟩⟩⟩⟩⟩⟩⟩⟩⟩⟩⟩⟩⟩⟩⟩⟩⟩⟩⟩⟩⟩⟩⟩⟩⟩⟩⟩⟩⟩⟩⟩⟩⟩⟩⟩⟩⟩⟩⟩, fun _ h => absurd h List.not_mem_nil, fun _ h => absurd h List.not_mem_nil⟩ dkX12_readLine (by decide +kernel) (by rw [h.2.2.1]; exact q598_ok)
/-- NearSpellModel.startAnew -/
def q599_M : rfM := ((⟨"NearSpellModel", "startAnew", "()V"⟩, prog_14_method_45_code, 2, none), (0,0), ([.inr (.inl [114])],[((114,28),(1,1,0),none)]), [(90,0),(113,0),(114,49),(114,56),(114,57),(114,64)], [(none,[],[((90,28),(0,10,1),none),((90,36),(0,999,1),none),((114,48),(0,0,0),none),((114,55),(0,0,0),none),((114,56),(0,0,0),none),((114,63),(0,0,0),none)])])
def ddX12_startAnew : List (Nat × Instr × Nat) := [(0,.iconst 0,1),(1,.istore_n 1,1),(2,.iload_n 1,1),(3,.bipush 37,2),(5,.if_icmp .ge 16,3),(8,.aload_n 0,1),(9,.getfield 72,3),(12,.iload_n 1,1),(13,.iconst 0,1),(14,.iastore,1),(15,.iinc 1 1,3),(18,.goto (-16),3),(21,.iconst 0,1),(22,.istore_n 1,1),(23,.iload_n 1,1),(24,.bipush 14,2),(26,.if_icmp .ge 18,3),(29,.aload_n 0,1),(30,.getfield 72,3),(33,.iconst 0,1),(34,.iload_n 1,1),(35,.iadd,1),(36,.iconst (-1),1),(37,.iastore,1),(38,.iinc 1 1,3),(41,.goto (-18),3),(44,.iconst 0,1),(45,.istore_n 1,1),(46,.iload_n 1,1),(47,.aload_n 0,1),(48,.getfield 20,3),(51,.aload_n 0,1),(52,.getfield 242,3),(55,.iaload,1),(56,.if_icmp .ge 54,3),(59,.aload_n 0,1),(60,.getfield 72,3),(63,.iconst 0,1),(64,.iload_n 1,1),(65,.iadd,1),(66,.aload_n 0,1),(67,.getfield 45,3),(70,.bipush 10,2),(72,.aload_n 0,1),(73,.getfield 242,3),(76,.imul,1),(77,.iload_n 1,1),(78,.iadd,1),(79,.iaload,1),(80,.iastore,1),(81,.aload_n 0,1),(82,.getfield 72,3),(85,.bipush 14,2),(87,.iload_n 1,1),(88,.iadd,1),(89,.aload_n 0,1),(90,.getfield 48,3),(93,.bipush 10,2),(95,.aload_n 0,1),(96,.getfield 242,3),(99,.imul,1),(100,.iload_n 1,1),(101,.iadd,1),(102,.iaload,1),(103,.iastore,1),(104,.iinc 1 1,3),(107,.goto (-61),3),(110,.aload_n 0,1),(111,.getfield 72,3),(114,.bipush 28,2),(116,.aload_n 0,1),(117,.getfield 20,3),(120,.aload_n 0,1),(121,.getfield 242,3),(124,.iaload,1),(125,.iastore,1),(126,.aload_n 0,1),(127,.getfield 72,3),(130,.bipush 36,2),(132,.aload_n 0,1),(133,.getfield 39,3),(136,.aload_n 0,1),(137,.getfield 242,3),(140,.iaload,1),(141,.iastore,1),(142,.aload_n 0,1),(143,.iconst 0,1),(144,.putfield 338,3),(147,.aload_n 0,1),(148,.iconst 0,1),(149,.putfield 341,3),(152,.aload_n 0,1),(153,.iconst 0,1),(154,.putfield 344,3),(157,.aload_n 0,1),(158,.iconst 0,1),(159,.putfield 347,3),(162,.iconst 0,1),(163,.istore_n 1,1),(164,.iload_n 1,1),(165,.iconst 3,1),(166,.if_icmp .ge 16,3),(169,.aload_n 0,1),(170,.getfield 141,3),(173,.iload_n 1,1),(174,.iconst 0,1),(175,.bastore,1),(176,.iinc 1 1,3),(179,.goto (-15),3),(182,.return_,1)]
set_option maxRecDepth 100000 in
theorem dkX12_startAnew : rf_decs prog_14_method_45_code ddX12_startAnew := rf_decs_of (by decide +kernel)
def q599_P : rfP := (flX12,csX12,lcX12,spX12,[],[],[],([],[]))
def q599_U : rfU := []
set_option maxHeartbeats 8000000 in
def q599_N : List rfB := [(0,([(0,.inr (.inl [114]))],[],[((114,28),(1,1,0),some ((114,28),0,0))]),(1135,[0]),0),
  (2,([(0,.inr (.inl [114])),(1,.inl ((0,37,1),none))],[],[((114,28),(1,1,0),some ((114,28),0,0))]),(1131,[(-11)]),0),
  (23,([(0,.inr (.inl [114])),(1,.inl ((0,14,1),none))],[],[((114,28),(1,1,0),some ((114,28),0,0))]),(711,[(-13)]),0),
  (46,([(0,.inr (.inl [114])),(1,.inl ((0,10,1),none))],[],[((114,28),(1,1,0),some ((114,28),0,0))]),(514,[(-40)]),0),
  (164,([(0,.inr (.inl [114])),(1,.inl ((0,3,1),none))],[],[((90,28),(0,10,1),none),((90,36),(0,999,1),none),((114,28),(1,1,0),some ((114,28),0,0)),((114,48),(0,0,0),none),((114,55),(0,0,0),none),((114,56),(0,0,0),none),((114,63),(0,0,0),none)]),(42,[(-11)]),0)]
set_option maxRecDepth 100000 in
theorem q599_ok : rf_chkB q599_P q599_U wLay q599_M ddX12_startAnew [] [.inl 1] [0,2,23,46,164] 600 q599_N = true := by decide +kernel
set_option maxHeartbeats 4000000 in
theorem q599_met {G : rfG} (h : okG G) (hh : wHandOK G) : rf_met G q599_M := rf_methodB h.1 (P := q599_P) (U := q599_U) (N := q599_N) ⟨wflT h flokX12, wcsT h csokX12, wlcT h lcokX12, spokX12 h, fun _ h => absurd h List.not_mem_nil, fun _ h => absurd h List.not_mem_nil, fun _ h => absurd h List.not_mem_nil, fun _ h => absurd h List.not_mem_nil, fun _ h => absurd h List.not_mem_nil⟩ dkX12_startAnew (by decide +kernel) (by rw [h.2.2.1]; exact q599_ok)
/-- NearSpellModel.book -/
def q600_M : rfM := ((⟨"NearSpellModel", "book", "()I"⟩, prog_14_method_16_code, 2, (some .int)), (23,2063), ([.inr (.inl [114])],[((114,28),(0,0,0),none)]), [(72,0),(73,0),(74,0),(75,0),(76,0),(77,0),(78,0),(79,0),(80,0),(81,0),(82,0),(83,0),(84,0),(85,0),(86,0),(87,0),(88,0),(90,0),(113,0),(114,3),(114,4),(114,5),(114,6),(114,7),(114,8),(114,9),(114,10),(114,11),(114,29),(114,30),(114,31),(114,32),(114,33),(114,34),(114,49),(114,56),(114,57),(114,64)], [(some (.inl (((-1),10,1),none)),[],[((114,2),(0,0,0),none),((114,7),(0,1600,1),none),((114,29),(1,1,0),none)])])
def ddX12_book : List (Nat × Instr × Nat) := [(0,.aload_n 0,1),(1,.iconst 0,1),(2,.putfield 154,3),(5,.aload_n 0,1),(6,.iconst (-1),1),(7,.putfield 16,3),(10,.aload_n 0,1),(11,.aload_n 0,1),(12,.getfield 239,3),(15,.putfield 151,3),(18,.iconst 0,1),(19,.istore_n 1,1),(20,.iload_n 1,1),(21,.aload_n 0,1),(22,.getfield 151,3),(25,.if_icmp .ge 21,3),(28,.aload_n 0,1),(29,.getfield 13,3),(32,.iload_n 1,1),(33,.aload_n 0,1),(34,.getfield 7,3),(37,.iload_n 1,1),(38,.baload,1),(39,.bastore,1),(40,.iinc 1 1,3),(43,.goto (-23),3),(46,.aload_n 0,1),(47,.iconst 0,1),(48,.putfield 239,3),(51,.aload_n 0,1),(52,.iconst 0,1),(53,.putfield 185,3),(56,.aload_n 0,1),(57,.iconst 1,1),(58,.aload_n 0,1),(59,.getfield 242,3),(62,.isub,1),(63,.putfield 233,3),(66,.aload_n 0,1),(67,.invokevirtual 145,3),(70,.aload_n 0,1),(71,.invokevirtual 227,3),(74,.aload_n 0,1),(75,.invokevirtual 223,3),(78,.ifCond .eq 17,3),(81,.aload_n 0,1),(82,.getfield 195,3),(85,.ifCond .eq 10,3),(88,.aload_n 0,1),(89,.invokevirtual 245,3),(92,.goto (-18),3),(95,.aload_n 0,1),(96,.invokevirtual 223,3),(99,.ifCond .ne 5,3),(102,.iconst (-1),1),(103,.ireturn,1),(104,.aload_n 0,1),(105,.aload_n 0,1),(106,.getfield 233,3),(109,.putfield 242,3),(112,.aload_n 0,1),(113,.invokevirtual 148,3),(116,.aload_n 0,1),(117,.getfield 20,3),(120,.aload_n 0,1),(121,.getfield 242,3),(124,.iaload,1),(125,.ireturn,1)]
set_option maxRecDepth 100000 in
theorem dkX12_book : rf_decs prog_14_method_16_code ddX12_book := rf_decs_of (by decide +kernel)
def q600_P : rfP := (flX12,csX12,lcX12,spX12,[q510_M,q519_M,q520_M,q598_M,q527_M,q599_M],[],[(145,0,12),(148,5,12),(223,2,12),(223,4,12),(227,1,12),(245,3,12)],([],[]))
def q600_U : rfU := []
set_option maxHeartbeats 8000000 in
def q600_N : List rfB := [(0,([(0,.inr (.inl [114]))],[],[((114,28),(0,0,0),some ((114,28),0,0))]),(54519,[0,0]),0),
  (20,([(0,.inr (.inl [114])),(1,.inl ((0,1600,1),none))],[],[((114,4),(0,0,0),none),((114,5),((-1),(-1),0),none),((114,28),(0,0,0),some ((114,28),0,0))]),(54505,[0,(-15)]),0),
  (74,([(0,.inr (.inl [114])),(1,.inl ((0,1600,1),none))],[],[((114,2),(0,0,0),none),((114,3),(1,1600,1),none),((114,4),(0,0,1),none),((114,6),(0,1599,1),none),((114,7),(1,1600,1),none),((114,8),(5,5,0),none),((114,28),(0,0,0),some ((114,28),0,0)),((114,29),(1,1,0),none)]),(30465,[(-19),0]),0),
  (74,([(0,.inr (.inl [114])),(1,.inl ((0,1600,1),none))],[],[((114,2),(0,0,0),none),((114,4),(0,0,1),none),((114,7),(0,1600,1),none),((114,8),(0,0,0),none),((114,28),(0,0,0),some ((114,28),0,0)),((114,29),(1,1,0),none)]),(20,[0,0]),0),
  (74,([(0,.inr (.inl [114])),(1,.inl ((0,1600,1),none))],[],[((114,2),(0,0,0),none),((114,3),(1,1600,1),none),((114,4),(0,0,1),none),((114,6),(0,1599,1),none),((114,7),(0,1600,1),none),((114,8),(1,4,1),none),((114,28),(0,0,0),some ((114,28),0,0)),((114,29),(1,1,0),none)]),(30474,[(-19),0]),0),
  (92,([(0,.inr (.inl [114])),(1,.inl ((0,1600,1),none))],[],[((114,2),(0,0,0),none),((114,3),(1,1600,1),none),((114,4),(0,0,1),none),((114,7),(0,1600,1),none),((114,8),(0,0,0),none),((114,28),(0,0,0),some ((114,28),0,0)),((114,29),(1,1,0),none)]),(39,[0,0]),0),
  (92,([(0,.inr (.inl [114])),(1,.inl ((0,1600,1),none))],[],[((114,2),(0,0,0),none),((114,3),(1,1600,1),none),((114,4),(2,2,0),none),((114,5),(0,1600,1),none),((114,7),(0,1600,1),none),((114,8),(0,0,1),none),((114,28),(0,0,0),some ((114,28),0,0)),((114,29),(1,1,0),none)]),(57,[0,0]),0),
  (92,([(0,.inr (.inl [114])),(1,.inl ((0,1600,1),none))],[],[((114,2),(0,0,0),none),((114,3),(1,1600,1),none),((114,4),(1,4,1),none),((114,5),(0,1600,1),none),((114,7),(0,1600,1),none),((114,8),(1,4,1),none),((114,28),(0,0,0),some ((114,28),0,0)),((114,29),(1,1,0),none)]),(38,[0,0]),0),
  (92,([(0,.inr (.inl [114])),(1,.inl ((0,1600,1),none))],[],[((114,2),(0,0,0),none),((114,3),(1,1600,1),none),((114,4),(0,0,1),none),((114,6),(1,1599,1),none),((114,7),(1,1600,1),none),((114,8),(1,4,1),none),((114,28),(0,0,0),some ((114,28),0,0)),((114,29),(1,1,0),none)]),(30475,[(-19),0]),0),
  (92,([(0,.inr (.inl [114])),(1,.inl ((0,1600,1),none))],[],[((114,2),(0,0,0),none),((114,3),(1,1600,1),none),((114,4),(1,4,1),none),((114,7),(0,1600,1),none),((114,28),(0,0,0),some ((114,28),0,0)),((114,29),(1,1,0),none)]),(29,[0,0]),0),
  (92,([(0,.inr (.inl [114])),(1,.inl ((0,1600,1),none))],[],[((114,2),(0,0,0),none),((114,3),(1,1600,1),none),((114,4),(0,0,1),none),((114,6),(1,1599,1),none),((114,7),(2,1600,1),none),((114,8),(5,5,0),none),((114,28),(0,0,0),some ((114,28),0,0)),((114,29),(1,1,0),none)]),(30466,[(-19),0]),0),
  (92,([(0,.inr (.inl [114])),(1,.inl ((0,1600,1),none))],[],[((114,2),(0,0,0),none),((114,3),(1,1600,1),none),((114,4),(1,4,1),none),((114,7),(0,1600,1),none),((114,8),(5,5,1),none),((114,28),(0,0,0),some ((114,28),0,0)),((114,29),(1,1,0),none)]),(48,[0,0]),0),
  (74,([(0,.inr (.inl [114])),(1,.inl ((0,1600,1),none))],[],[((114,2),(0,0,0),none),((114,3),(1,1600,1),none),((114,4),(2,2,0),none),((114,5),(0,1600,1),none),((114,7),(0,1600,1),none),((114,8),(0,0,1),none),((114,28),(0,0,0),some ((114,28),0,0)),((114,29),(1,1,0),none)]),(56,[0,0]),0),
  (74,([(0,.inr (.inl [114])),(1,.inl ((0,1600,1),none))],[],[((114,2),(0,0,0),none),((114,3),(1,1600,1),none),((114,4),(1,4,1),none),((114,5),(0,1600,1),none),((114,7),(0,1600,1),none),((114,8),(1,4,1),none),((114,28),(0,0,0),some ((114,28),0,0)),((114,29),(1,1,0),none)]),(37,[0,0]),0),
  (74,([(0,.inr (.inl [114])),(1,.inl ((0,1600,1),none))],[],[((114,2),(0,0,0),none),((114,3),(1,1600,1),none),((114,4),(1,4,1),none),((114,7),(0,1600,1),none),((114,28),(0,0,0),some ((114,28),0,0)),((114,29),(1,1,0),none)]),(28,[0,0]),0),
  (74,([(0,.inr (.inl [114])),(1,.inl ((0,1600,1),none))],[],[((114,2),(0,0,0),none),((114,3),(1,1600,1),none),((114,4),(1,4,1),none),((114,7),(0,1600,1),none),((114,8),(5,5,1),none),((114,28),(0,0,0),some ((114,28),0,0)),((114,29),(1,1,0),none)]),(47,[0,0]),0)]
set_option maxRecDepth 100000 in
theorem q600_ok : rf_chkB q600_P q600_U wLay q600_M ddX12_book [(67,[0]),(71,[1]),(75,[2,4]),(89,[3]),(96,[2,4]),(113,[5])] [.inr (114,7),.inl 1] [0,20,74,92] 600 q600_N = true := by decide +kernel
set_option maxHeartbeats 4000000 in
theorem q600_met {G : rfG} (h : okG G) (hh : wHandOK G) : rf_met G q600_M := rf_methodB h.1 (P := q600_P) (U := q600_U) (N := q600_N) ⟨wflT h flokX12, wcsT h csokX12, wlcT h lcokX12, spokX12 h, List.forall_mem_cons.mpr ⟨q510_met h hh, List.forall_mem_cons.mpr ⟨q519_met h hh, List.forall_mem_cons.mpr ⟨q520_met h hh, List.forall_mem_cons.mpr ⟨q598_met h hh, List.forall_mem_cons.mpr ⟨q527_met h hh, List.forall_mem_cons.mpr ⟨q599_met h hh, fun _ h => absurd h List.not_mem_nil⟩⟩⟩⟩⟩⟩, fun _ h => absurd h List.not_mem_nil, List.forall_mem_cons.mpr ⟨fun M hM => Option.some.inj (show some q510_M = some M from hM) ▸ wlkV (lkX12_145 h) q510_M rfl rfl, List.forall_mem_cons.mpr ⟨fun M hM => Option.some.inj (show some q599_M = some M from hM) ▸ wlkV (lkX12_148 h) q599_M rfl rfl, List.forall_mem_cons.mpr ⟨fun M hM => Option.some.inj (show some q520_M = some M from hM) ▸ wlkV (lkX12_223 h) q520_M rfl rfl, List.forall_mem_cons.mpr ⟨fun M hM => Option.some.inj (show some q527_M = some M from hM) ▸ wlkV (lkX12_223 h) q527_M rfl rfl, List.forall_mem_cons.mpr ⟨fun M hM => Option.some.inj (show some q519_M = some M from hM) ▸ wlkV (lkX12_227 h) q519_M rfl rfl, List.forall_mem_cons.mpr ⟨fun M hM => Option.some.inj (show some q598_M = some M from hM) ▸ wlkV (lkX12_245 h) q598_M rfl rfl, fun _ h => absurd h List.not_mem_nil⟩⟩⟩⟩⟩⟩, fun _ h => absurd h List.not_mem_nil, fun _ h => absurd h List.not_mem_nil⟩ dkX12_book (by decide +kernel) (by rw [h.2.2.1]; exact q600_ok)
/-- NearSpellModel.clearBank -/
def q601_M : rfM := ((⟨"NearSpellModel", "clearBank", "()V"⟩, prog_14_method_15_code, 1, none), (0,0), ([.inr (.inl [114])],[((77,1),(1,31,1),none)]), [(73,0),(74,0),(75,0),(76,0),(77,0),(78,0),(79,0),(80,0),(114,31)], [(none,[],[((114,30),(0,560,560),none)])])
def q601_P : rfP := (flX12,csX12,lcX12,spX12,[],[],[],([],[]))
def q601_U : rfU := []
set_option maxHeartbeats 8000000 in
def q601_N : List rfB := [(0,([(0,.inr (.inl [114]))],[],[((77,1),(1,31,1),some ((77,1),0,0))]),(54,[]),0)]
set_option maxRecDepth 100000 in
theorem q601_ok : rf_chkB q601_P q601_U wLay q601_M ddX12_clearBank [] [] [0] 600 q601_N = true := by decide +kernel
set_option maxHeartbeats 4000000 in
theorem q601_met {G : rfG} (h : okG G) (hh : wHandOK G) : rf_met G q601_M := rf_methodB h.1 (P := q601_P) (U := q601_U) (N := q601_N) ⟨wflT h flokX12, wcsT h csokX12, wlcT h lcokX12, spokX12 h, fun _ h => absurd h List.not_mem_nil, fun _ h => absurd h List.not_mem_nil, fun _ h => absurd h List.not_mem_nil, fun _ h => absurd h List.not_mem_nil, fun _ h => absurd h List.not_mem_nil⟩ dkX12_clearBank (by decide +kernel) (by rw [h.2.2.1]; exact q601_ok)
/-- NearSpellModel.startAnew -/
def q602_M : rfM := ((⟨"NearSpellModel", "startAnew", "()V"⟩, prog_14_method_45_code, 2, none), (0,0), ([.inr (.inl [114])],[((114,28),(0,0,0),none)]), [(90,0),(113,0),(114,49),(114,56),(114,57),(114,64)], [(none,[],[((90,28),(0,10,1),none),((90,36),(0,999,1),none),((114,48),(0,0,0),none),((114,55),(0,0,0),none),((114,56),(0,0,0),none),((114,63),(0,0,0),none)])])
def q602_P : rfP := (flX12,csX12,lcX12,spX12,[],[],[],([],[]))
def q602_U : rfU := []
set_option maxHeartbeats 8000000 in
def q602_N : List rfB := [(0,([(0,.inr (.inl [114]))],[],[((114,28),(0,0,0),some ((114,28),0,0))]),(1135,[0]),0),
  (2,([(0,.inr (.inl [114])),(1,.inl ((0,37,1),none))],[],[((114,28),(0,0,0),some ((114,28),0,0))]),(1131,[(-11)]),0),
  (23,([(0,.inr (.inl [114])),(1,.inl ((0,14,1),none))],[],[((114,28),(0,0,0),some ((114,28),0,0))]),(711,[(-13)]),0),
  (46,([(0,.inr (.inl [114])),(1,.inl ((0,10,1),none))],[],[((114,28),(0,0,0),some ((114,28),0,0))]),(514,[(-40)]),0),
  (164,([(0,.inr (.inl [114])),(1,.inl ((0,3,1),none))],[],[((90,28),(0,10,1),none),((90,36),(0,999,1),none),((114,28),(0,0,0),some ((114,28),0,0)),((114,48),(0,0,0),none),((114,55),(0,0,0),none),((114,56),(0,0,0),none),((114,63),(0,0,0),none)]),(42,[(-11)]),0)]
set_option maxRecDepth 100000 in
theorem q602_ok : rf_chkB q602_P q602_U wLay q602_M ddX12_startAnew [] [.inl 1] [0,2,23,46,164] 600 q602_N = true := by decide +kernel
set_option maxHeartbeats 4000000 in
theorem q602_met {G : rfG} (h : okG G) (hh : wHandOK G) : rf_met G q602_M := rf_methodB h.1 (P := q602_P) (U := q602_U) (N := q602_N) ⟨wflT h flokX12, wcsT h csokX12, wlcT h lcokX12, spokX12 h, fun _ h => absurd h List.not_mem_nil, fun _ h => absurd h List.not_mem_nil, fun _ h => absurd h List.not_mem_nil, fun _ h => absurd h List.not_mem_nil, fun _ h => absurd h List.not_mem_nil⟩ dkX12_startAnew (by decide +kernel) (by rw [h.2.2.1]; exact q602_ok)
/-- NearSpellModel.book -/
def q603_M : rfM := ((⟨"NearSpellModel", "book", "()I"⟩, prog_14_method_16_code, 2, (some .int)), (23,2063), ([.inr (.inl [114])],[((77,1),(1,31,1),none),((114,28),(1,1,0),none)]), [(72,0),(73,0),(74,0),(75,0),(76,0),(77,0),(78,0),(79,0),(80,0),(81,0),(82,0),(83,0),(84,0),(85,0),(86,0),(87,0),(88,0),(90,0),(113,0),(114,3),(114,4),(114,5),(114,6),(114,7),(114,8),(114,9),(114,10),(114,11),(114,29),(114,30),(114,31),(114,32),(114,33),(114,34),(114,49),(114,56),(114,57),(114,64)], [(some (.inl (((-1),10,1),none)),[],[((114,2),(0,0,0),none),((114,7),(0,1600,1),none),((114,29),(0,0,0),none)])])
def q603_P : rfP := (flX12,csX12,lcX12,spX12,[q601_M,q519_M,q520_M,q598_M,q527_M,q602_M],[],[(145,0,12),(148,5,12),(223,2,12),(223,4,12),(227,1,12),(245,3,12)],([],[]))
def q603_U : rfU := []
set_option maxHeartbeats 8000000 in
def q603_N : List rfB := [(0,([(0,.inr (.inl [114]))],[],[((77,1),(1,31,1),some ((77,1),0,0)),((114,28),(1,1,0),some ((114,28),0,0))]),(54519,[0,0]),0),
  (20,([(0,.inr (.inl [114])),(1,.inl ((0,1600,1),none))],[],[((77,1),(1,31,1),some ((77,1),0,0)),((114,4),(0,0,0),none),((114,5),((-1),(-1),0),none),((114,28),(1,1,0),some ((114,28),0,0))]),(54505,[0,(-15)]),0),
  (74,([(0,.inr (.inl [114])),(1,.inl ((0,1600,1),none))],[],[((114,2),(0,0,0),none),((114,3),(1,1600,1),none),((114,4),(0,0,1),none),((114,6),(0,1599,1),none),((114,7),(1,1600,1),none),((114,8),(5,5,0),none),((114,28),(1,1,0),some ((114,28),0,0)),((114,29),(0,0,0),none)]),(30465,[(-19),0]),0),
  (74,([(0,.inr (.inl [114])),(1,.inl ((0,1600,1),none))],[],[((114,2),(0,0,0),none),((114,4),(0,0,1),none),((114,7),(0,1600,1),none),((114,8),(0,0,0),none),((114,28),(1,1,0),some ((114,28),0,0)),((114,29),(0,0,0),none)]),(20,[0,0]),0),
  (74,([(0,.inr (.inl [114])),(1,.inl ((0,1600,1),none))],[],[((114,2),(0,0,0),none),((114,3),(1,1600,1),none),((114,4),(0,0,1),none),((114,6),(0,1599,1),none),((114,7),(0,1600,1),none),((114,8),(1,4,1),none),((114,28),(1,1,0),some ((114,28),0,0)),((114,29),(0,0,0),none)]),(30474,[(-19),0]),0),
  (92,([(0,.inr (.inl [114])),(1,.inl ((0,1600,1),none))],[],[((114,2),(0,0,0),none),((114,3),(1,1600,1),none),((114,4),(0,0,1),none),((114,7),(0,1600,1),none),((114,8),(0,0,0),none),((114,28),(1,1,0),some ((114,28),0,0)),((114,29),(0,0,0),none)]),(39,[0,0]),0),
  (92,([(0,.inr (.inl [114])),(1,.inl ((0,1600,1),none))],[],[((114,2),(0,0,0),none),((114,3),(1,1600,1),none),((114,4),(2,2,0),none),((114,5),(0,1600,1),none),((114,7),(0,1600,1),none),((114,8),(0,0,1),none),((114,28),(1,1,0),some ((114,28),0,0)),((114,29),(0,0,0),none)]),(57,[0,0]),0),
  (92,([(0,.inr (.inl [114])),(1,.inl ((0,1600,1),none))],[],[((114,2),(0,0,0),none),((114,3),(1,1600,1),none),((114,4),(1,4,1),none),((114,5),(0,1600,1),none),((114,7),(0,1600,1),none),((114,8),(1,4,1),none),((114,28),(1,1,0),some ((114,28),0,0)),((114,29),(0,0,0),none)]),(38,[0,0]),0),
  (92,([(0,.inr (.inl [114])),(1,.inl ((0,1600,1),none))],[],[((114,2),(0,0,0),none),((114,3),(1,1600,1),none),((114,4),(0,0,1),none),((114,6),(1,1599,1),none),((114,7),(1,1600,1),none),((114,8),(1,4,1),none),((114,28),(1,1,0),some ((114,28),0,0)),((114,29),(0,0,0),none)]),(30475,[(-19),0]),0),
  (92,([(0,.inr (.inl [114])),(1,.inl ((0,1600,1),none))],[],[((114,2),(0,0,0),none),((114,3),(1,1600,1),none),((114,4),(1,4,1),none),((114,7),(0,1600,1),none),((114,28),(1,1,0),some ((114,28),0,0)),((114,29),(0,0,0),none)]),(29,[0,0]),0),
  (92,([(0,.inr (.inl [114])),(1,.inl ((0,1600,1),none))],[],[((114,2),(0,0,0),none),((114,3),(1,1600,1),none),((114,4),(0,0,1),none),((114,6),(1,1599,1),none),((114,7),(2,1600,1),none),((114,8),(5,5,0),none),((114,28),(1,1,0),some ((114,28),0,0)),((114,29),(0,0,0),none)]),(30466,[(-19),0]),0),
  (92,([(0,.inr (.inl [114])),(1,.inl ((0,1600,1),none))],[],[((114,2),(0,0,0),none),((114,3),(1,1600,1),none),((114,4),(1,4,1),none),((114,7),(0,1600,1),none),((114,8),(5,5,1),none),((114,28),(1,1,0),some ((114,28),0,0)),((114,29),(0,0,0),none)]),(48,[0,0]),0),
  (74,([(0,.inr (.inl [114])),(1,.inl ((0,1600,1),none))],[],[((114,2),(0,0,0),none),((114,3),(1,1600,1),none),((114,4),(2,2,0),none),((114,5),(0,1600,1),none),((114,7),(0,1600,1),none),((114,8),(0,0,1),none),((114,28),(1,1,0),some ((114,28),0,0)),((114,29),(0,0,0),none)]),(56,[0,0]),0),
  (74,([(0,.inr (.inl [114])),(1,.inl ((0,1600,1),none))],[],[((114,2),(0,0,0),none),((114,3),(1,1600,1),none),((114,4),(1,4,1),none),((114,5),(0,1600,1),none),((114,7),(0,1600,1),none),((114,8),(1,4,1),none),((114,28),(1,1,0),some ((114,28),0,0)),((114,29),(0,0,0),none)]),(37,[0,0]),0),
  (74,([(0,.inr (.inl [114])),(1,.inl ((0,1600,1),none))],[],[((114,2),(0,0,0),none),((114,3),(1,1600,1),none),((114,4),(1,4,1),none),((114,7),(0,1600,1),none),((114,28),(1,1,0),some ((114,28),0,0)),((114,29),(0,0,0),none)]),(28,[0,0]),0),
  (74,([(0,.inr (.inl [114])),(1,.inl ((0,1600,1),none))],[],[((114,2),(0,0,0),none),((114,3),(1,1600,1),none),((114,4),(1,4,1),none),((114,7),(0,1600,1),none),((114,8),(5,5,1),none),((114,28),(1,1,0),some ((114,28),0,0)),((114,29),(0,0,0),none)]),(47,[0,0]),0)]
set_option maxRecDepth 100000 in
theorem q603_ok : rf_chkB q603_P q603_U wLay q603_M ddX12_book [(67,[0]),(71,[1]),(75,[2,4]),(89,[3]),(96,[2,4]),(113,[5])] [.inr (114,7),.inl 1] [0,20,74,92] 600 q603_N = true := by decide +kernel
set_option maxHeartbeats 4000000 in
theorem q603_met {G : rfG} (h : okG G) (hh : wHandOK G) : rf_met G q603_M := rf_methodB h.1 (P := q603_P) (U := q603_U) (N := q603_N) ⟨wflT h flokX12, wcsT h csokX12, wlcT h lcokX12, spokX12 h, List.forall_mem_cons.mpr ⟨q601_met h hh, List.forall_mem_cons.mpr ⟨q519_met h hh, List.forall_mem_cons.mpr ⟨q520_met h hh, List.forall_mem_cons.mpr ⟨q598_met h hh, List.forall_mem_cons.mpr ⟨q527_met h hh, List.forall_mem_cons.mpr ⟨q602_met h hh, fun _ h => absurd h List.not_mem_nil⟩⟩⟩⟩⟩⟩, fun _ h => absurd h List.not_mem_nil, List.forall_mem_cons.mpr ⟨fun M hM => Option.some.inj (show some q601_M = some M from hM) ▸ wlkV (lkX12_145 h) q601_M rfl rfl, List.forall_mem_cons.mpr ⟨fun M hM => Option.some.inj (show some q602_M = some M from hM) ▸ wlkV (lkX12_148 h) q602_M rfl rfl, List.forall_mem_cons.mpr ⟨fun M hM => Option.some.inj (show some q520_M = some M from hM) ▸ wlkV (lkX12_223 h) q520_M rfl rfl, List.forall_mem_cons.mpr ⟨fun M hM => Option.some.inj (show some q527_M = some M from hM) ▸ wlkV (lkX12_223 h) q527_M rfl rfl, List.forall_mem_cons.mpr ⟨fun M hM => Option.some.inj (show some q519_M = some M from hM) ▸ wlkV (lkX12_227 h) q519_M rfl rfl, List.forall_mem_cons.mpr ⟨fun M hM => Option.some.inj (show some q598_M = some M from hM) ▸ wlkV (lkX12_245 h) q598_M rfl rfl, fun _ h => absurd h List.not_mem_nil⟩⟩⟩⟩⟩⟩, fun _ h => absurd h List.not_mem_nil, fun _ h => absurd h List.not_mem_nil⟩ dkX12_book (by decide +kernel) (by rw [h.2.2.1]; exact q603_ok)
/-- NearSpellModel.fault -/
def q604_M : rfM := ((⟨"NearSpellModel", "fault", "(I)I"⟩, prog_14_method_34_code, 2, (some .int)), (0,0), ([.inr (.inl [114]),.inl (((-2147483648),2147483647,1),none)],[((114,28),(0,0,0),none)]), [], [(some (.inl (((-1),1600,1),none)),[],[])])
def ddX12_fault : List (Nat × Instr × Nat) := [(0,.iload_n 1,1),(1,.ifCond .ne 10,3),(4,.aload_n 0,1),(5,.getfield 154,3),(8,.goto 16,3),(11,.iload_n 1,1),(12,.iconst 1,1),(13,.if_icmp .ne 10,3),(16,.aload_n 0,1),(17,.getfield 16,3),(20,.goto 4,3),(23,.iconst (-1),1),(24,.ireturn,1)]
set_option maxRecDepth 100000 in
theorem dkX12_fault : rf_decs prog_14_method_34_code ddX12_fault := rf_decs_of (by decide +kernel)
def q604_P : rfP := (flX12,csX12,lcX12,spX12,[],[],[],([],[]))
def q604_U : rfU := []
set_option maxHeartbeats 8000000 in
def q604_N : List rfB := [(0,([(0,.inr (.inl [114])),(1,.inl (((-2147483648),2147483647,1),none))],[],[((114,28),(0,0,0),some ((114,28),0,0))]),(13,[]),0),
  (24,([(0,.inr (.inl [114])),(1,.inl ((0,1,1),none))],[.inl (((-1),1600,1),none)],[((114,28),(0,0,0),some ((114,28),0,0))]),(2,[]),0),
  (24,([(0,.inr (.inl [114])),(1,.inl (((-2147483648),2147483647,1),none))],[.inl (((-1),(-1),0),none)],[((114,28),(0,0,0),some ((114,28),0,0))]),(0,[]),0)]
set_option maxRecDepth 100000 in
theorem q604_ok : rf_chkB q604_P q604_U wLay q604_M ddX12_fault [] [] [0,24] 600 q604_N = true := by decide +kernel
set_option maxHeartbeats 4000000 in
theorem q604_met {G : rfG} (h : okG G) (hh : wHandOK G) : rf_met G q604_M := rf_methodB h.1 (P := q604_P) (U := q604_U) (N := q604_N) ⟨wflT h flokX12, wcsT h csokX12, wlcT h lcokX12, spokX12 h, fun _ h => absurd h List.not_mem_nil, fun _ h => absurd h List.not_mem_nil, fun _ h => absurd h List.not_mem_nil, fun _ h => absurd h List.not_mem_nil, fun _ h => absurd h List.not_mem_nil⟩ dkX12_fault (by decide +kernel) (by rw [h.2.2.1]; exact q604_ok)
/-- NearSpellModel.fault -/
def q605_M : rfM := ((⟨"NearSpellModel", "fault", "(I)I"⟩, prog_14_method_34_code, 2, (some .int)), (0,0), ([.inr (.inl [114]),.inl (((-2147483648),2147483647,1),none)],[((77,1),(1,31,1),none),((114,28),(1,1,0),none)]), [], [(some (.inl (((-1),1600,1),none)),[],[])])
def q605_P : rfP := (flX12,csX12,lcX12,spX12,[],[],[],([],[]))
def q605_U : rfU := []
set_option maxHeartbeats 8000000 in
def q605_N : List rfB := [(0,([(0,.inr (.inl [114])),(1,.inl (((-2147483648),2147483647,1),none))],[],[((77,1),(1,31,1),some ((77,1),0,0)),((114,28),(1,1,0),some ((114,28),0,0))]),(13,[]),0),
  (24,([(0,.inr (.inl [114])),(1,.inl ((0,1,1),none))],[.inl (((-1),1600,1),none)],[((77,1),(1,31,1),some ((77,1),0,0)),((114,28),(1,1,0),some ((114,28),0,0))]),(2,[]),0),
  (24,([(0,.inr (.inl [114])),(1,.inl (((-2147483648),2147483647,1),none))],[.inl (((-1),(-1),0),none)],[((77,1),(1,31,1),some ((77,1),0,0)),((114,28),(1,1,0),some ((114,28),0,0))]),(0,[]),0)]
set_option maxRecDepth 100000 in
theorem q605_ok : rf_chkB q605_P q605_U wLay q605_M ddX12_fault [] [] [0,24] 600 q605_N = true := by decide +kernel
set_option maxHeartbeats 4000000 in
theorem q605_met {G : rfG} (h : okG G) (hh : wHandOK G) : rf_met G q605_M := rf_methodB h.1 (P := q605_P) (U := q605_U) (N := q605_N) ⟨wflT h flokX12, wcsT h csokX12, wlcT h lcokX12, spokX12 h, fun _ h => absurd h List.not_mem_nil, fun _ h => absurd h List.not_mem_nil, fun _ h => absurd h List.not_mem_nil, fun _ h => absurd h List.not_mem_nil, fun _ h => absurd h List.not_mem_nil⟩ dkX12_fault (by decide +kernel) (by rw [h.2.2.1]; exact q605_ok)
/-- NearSpellModel.isIn -/
def q606_M : rfM := ((⟨"NearSpellModel", "isIn", "(III)Z"⟩, prog_14_method_35_code, 3, (some .boolean)), (0,0), ([.inl (((-2147483648),2147483647,1),none),.inl ((0,0,0),none),.inl (((-1),13,1),none)],[]), [], [(some (.inl ((1,1,0),none)),[(0,0,13),(2,0,13)],[]),(some (.inl ((0,0,0),none)),[],[])])
def ddX12_isIn : List (Nat × Instr × Nat) := [(0,.iload_n 0,1),(1,.iload_n 1,1),(2,.if_icmp .lt 12,3),(5,.iload_n 0,1),(6,.iload_n 2,1),(7,.if_icmp .gt 7,3),(10,.iconst 1,1),(11,.goto 4,3),(14,.iconst 0,1),(15,.ireturn,1)]
set_option maxRecDepth 100000 in
theorem dkX12_isIn : rf_decs prog_14_method_35_code ddX12_isIn := rf_decs_of (by decide +kernel)
def q606_P : rfP := (flX12,csX12,lcX12,spX12,[],[],[],([],[]))
def q606_U : rfU := []
set_option maxHeartbeats 8000000 in
def q606_N : List rfB := [(0,([(0,.inl (((-2147483648),2147483647,1),none)),(1,.inl ((0,0,0),none)),(2,.inl (((-1),13,1),none))],[],[]),(10,[]),0),
  (14,([(0,.inl (((-2147483648),2147483647,1),none)),(1,.inl ((0,0,0),none)),(2,.inl (((-1),13,1),none))],[],[]),(1,[]),0)]
set_option maxRecDepth 100000 in
theorem q606_ok : rf_chkB q606_P q606_U wLay q606_M ddX12_isIn [] [] [0,14] 600 q606_N = true := by decide +kernel
set_option maxHeartbeats 4000000 in
theorem q606_met {G : rfG} (h : okG G) (hh : wHandOK G) : rf_met G q606_M := rf_methodB h.1 (P := q606_P) (U := q606_U) (N := q606_N) ⟨wflT h flokX12, wcsT h csokX12, wlcT h lcokX12, spokX12 h, fun _ h => absurd h List.not_mem_nil, fun _ h => absurd h List.not_mem_nil, fun _ h => absurd h List.not_mem_nil, fun _ h => absurd h List.not_mem_nil, fun _ h => absurd h List.not_mem_nil⟩ dkX12_isIn (by decide +kernel) (by rw [h.2.2.1]; exact q606_ok)
/-- NearSpellModel.isEntry -/
def q607_M : rfM := ((⟨"NearSpellModel", "isEntry", "(I)Z"⟩, prog_14_method_46_code, 2, (some .boolean)), (1,22), ([.inr (.inl [114]),.inl (((-2147483648),2147483647,1),none)],[]), [], [(some (.inl ((1,1,0),none)),[(1,0,13)],[((90,28),(1,14,1),none)]),(some (.inl ((0,0,0),none)),[],[])])
def ddX12_isEntry : List (Nat × Instr × Nat) := [(0,.iload_n 1,1),(1,.iconst 0,1),(2,.aload_n 0,1),(3,.getfield 72,3),(6,.bipush 28,2),(8,.iaload,1),(9,.iconst 1,1),(10,.isub,1),(11,.invokestatic 334,3),(14,.ifCond .eq 18,3),(17,.aload_n 0,1),(18,.getfield 72,3),(21,.iconst 0,1),(22,.iload_n 1,1),(23,.iadd,1),(24,.iaload,1),(25,.ifCond .lt 7,3),(28,.iconst 1,1),(29,.goto 4,3),(32,.iconst 0,1),(33,.ireturn,1)]
set_option maxRecDepth 100000 in
theorem dkX12_isEntry : rf_decs prog_14_method_46_code ddX12_isEntry := rf_decs_of (by decide +kernel)
def q607_P : rfP := (flX12,csX12,lcX12,spX12,[q606_M],[(334,0)],[],([],[]))
def q607_U : rfU := []
set_option maxHeartbeats 8000000 in
def q607_N : List rfB := [(0,([(0,.inr (.inl [114])),(1,.inl (((-2147483648),2147483647,1),none))],[],[]),(22,[]),0),
  (32,([(0,.inr (.inl [114])),(1,.inl (((-2147483648),2147483647,1),none))],[],[]),(1,[]),0)]
set_option maxRecDepth 100000 in
theorem q607_ok : rf_chkB q607_P q607_U wLay q607_M ddX12_isEntry [(11,[0])] [] [0,32] 600 q607_N = true := by decide +kernel
set_option maxHeartbeats 4000000 in
theorem q607_met {G : rfG} (h : okG G) (hh : wHandOK G) : rf_met G q607_M := rf_methodB h.1 (P := q607_P) (U := q607_U) (N := q607_N) ⟨wflT h flokX12, wcsT h csokX12, wlcT h lcokX12, spokX12 h, List.forall_mem_cons.mpr ⟨q606_met h hh, fun _ h => absurd h List.not_mem_nil⟩, List.forall_mem_cons.mpr ⟨fun M hM => Option.some.inj (show some q606_M = some M from hM) ▸ wlkS (lkX12_334 h) q606_M rfl rfl, fun _ h => absurd h List.not_mem_nil⟩, fun _ h => absurd h List.not_mem_nil, fun _ h => absurd h List.not_mem_nil, fun _ h => absurd h List.not_mem_nil⟩ dkX12_isEntry (by decide +kernel) (by rw [h.2.2.1]; exact q607_ok)
/-- NearSpellModel.lengthOf -/
def q608_M : rfM := ((⟨"NearSpellModel", "lengthOf", "(I)I"⟩, prog_14_method_41_code, 3, (some .int)), (0,0), ([.inl (((-1),387420488,1),none)],[]), [], [(some (.inl ((0,6,1),none)),[],[])])
def ddX12_lengthOf : List (Nat × Instr × Nat) := [(0,.iconst 0,1),(1,.istore_n 1,1),(2,.iload_n 0,1),(3,.istore_n 2,1),(4,.iload_n 2,1),(5,.ifCond .le 14,3),(8,.iinc 1 1,3),(11,.iload_n 2,1),(12,.bipush 27,2),(14,.idiv,1),(15,.istore_n 2,1),(16,.goto (-12),3),(19,.iload_n 1,1),(20,.ireturn,1)]
set_option maxRecDepth 100000 in
theorem dkX12_lengthOf : rf_decs prog_14_method_41_code ddX12_lengthOf := rf_decs_of (by decide +kernel)
def q608_P : rfP := (flX12,csX12,lcX12,spX12,[],[],[],([],[]))
def q608_U : rfU := []
set_option maxHeartbeats 8000000 in
def q608_N : List rfB := [(0,([(0,.inl (((-1),387420488,1),none))],[],[]),(67,[]),0),
  (4,([(0,.inl (((-1),387420488,1),none)),(1,.inl ((0,0,0),none)),(2,.inl (((-1),387420488,1),some (.inl 0,some 0)))],[],[]),(63,[]),0),
  (4,([(0,.inl ((1,387420488,1),none)),(1,.inl ((1,1,0),none)),(2,.inl ((0,14348906,1),some (.inl 0,none)))],[],[]),(55,[]),0),
  (4,([(0,.inl ((1,387420488,1),none)),(1,.inl ((2,2,0),none)),(2,.inl ((0,531440,1),none))],[],[]),(47,[]),0),
  (4,([(0,.inl ((1,387420488,1),none)),(1,.inl ((3,3,0),none)),(2,.inl ((0,19682,1),none))],[],[]),(39,[]),0),
  (4,([(0,.inl ((1,387420488,1),none)),(1,.inl ((4,4,0),none)),(2,.inl ((0,728,1),none))],[],[]),(31,[]),0),
  (4,([(0,.inl ((1,387420488,1),none)),(1,.inl ((5,5,0),none)),(2,.inl ((0,26,1),none))],[],[]),(23,[]),0),
  (4,([(0,.inl ((1,387420488,1),none)),(1,.inl ((6,6,0),none)),(2,.inl ((0,0,1),none))],[],[]),(15,[]),0)]
set_option maxRecDepth 100000 in
theorem q608_ok : rf_chkB q608_P q608_U wLay q608_M ddX12_lengthOf [] [] [0,4] 600 q608_N = true := by decide +kernel
set_option maxHeartbeats 4000000 in
theorem q608_met {G : rfG} (h : okG G) (hh : wHandOK G) : rf_met G q608_M := rf_methodB h.1 (P := q608_P) (U := q608_U) (N := q608_N) ⟨wflT h flokX12, wcsT h csokX12, wlcT h lcokX12, spokX12 h, fun _ h => absurd h List.not_mem_nil, fun _ h => absurd h List.not_mem_nil, fun _ h => absurd h List.not_mem_nil, fun _ h => absurd h List.not_mem_nil, fun _ h => absurd h List.not_mem_nil⟩ dkX12_lengthOf (by decide +kernel) (by rw [h.2.2.1]; exact q608_ok)
/-- NearSpellModel.errorsNow -/
def q609_M : rfM := ((⟨"NearSpellModel", "errorsNow", "()I"⟩, prog_14_method_52_code, 1, (some .int)), (0,0), ([.inr (.inl [114])],[((114,28),(0,0,0),none)]), [], [(some (.inl ((0,2,1),none)),[],[])])
def ddX12_errorsNow : List (Nat × Instr × Nat) := [(0,.aload_n 0,1),(1,.getfield 30,3),(4,.aload_n 0,1),(5,.getfield 242,3),(8,.iaload,1),(9,.ireturn,1)]
set_option maxRecDepth 100000 in
theorem dkX12_errorsNow : rf_decs prog_14_method_52_code ddX12_errorsNow := rf_decs_of (by decide +kernel)
def q609_P : rfP := (flX12,csX12,lcX12,spX12,[],[],[],([],[]))
def q609_U : rfU := []
set_option maxHeartbeats 8000000 in
def q609_N : List rfB := [(0,([(0,.inr (.inl [114]))],[],[((114,28),(0,0,0),some ((114,28),0,0))]),(5,[]),0)]
set_option maxRecDepth 100000 in
theorem q609_ok : rf_chkB q609_P q609_U wLay q609_M ddX12_errorsNow [] [] [0] 600 q609_N = true := by decide +kernel
set_option maxHeartbeats 4000000 in
theorem q609_met {G : rfG} (h : okG G) (hh : wHandOK G) : rf_met G q609_M := rf_methodB h.1 (P := q609_P) (U := q609_U) (N := q609_N) ⟨wflT h flokX12, wcsT h csokX12, wlcT h lcokX12, spokX12 h, fun _ h => absurd h List.not_mem_nil, fun _ h => absurd h List.not_mem_nil, fun _ h => absurd h List.not_mem_nil, fun _ h => absurd h List.not_mem_nil, fun _ h => absurd h List.not_mem_nil⟩ dkX12_errorsNow (by decide +kernel) (by rw [h.2.2.1]; exact q609_ok)
/-- NearSpellModel.firstLetters -/
def q610_M : rfM := ((⟨"NearSpellModel", "firstLetters", "(II)I"⟩, prog_14_method_43_code, 4, (some .int)), (1,22), ([.inl (((-1),387420488,1),none),.inl ((0,6,1),none)],[]), [], [(some (.inl (((-1),387420488,1),none)),[],[])])
def ddX12_firstLetters : List (Nat × Instr × Nat) := [(0,.iload_n 0,1),(1,.istore_n 2,1),(2,.iload_n 0,1),(3,.invokestatic 319,3),(6,.istore_n 3,1),(7,.iload_n 3,1),(8,.iload_n 1,1),(9,.if_icmp .le 14,3),(12,.iload_n 2,1),(13,.bipush 27,2),(15,.idiv,1),(16,.istore_n 2,1),(17,.iinc 3 (-1),3),(20,.goto (-13),3),(23,.iload_n 2,1),(24,.ireturn,1)]
set_option maxRecDepth 100000 in
theorem dkX12_firstLetters : rf_decs prog_14_method_43_code ddX12_firstLetters := rf_decs_of (by decide +kernel)
def q610_P : rfP := (flX12,csX12,lcX12,spX12,[q608_M],[(319,0)],[],([],[]))
def q610_U : rfU := []
set_option maxHeartbeats 8000000 in
def q610_N : List rfB := [(0,([(0,.inl (((-1),387420488,1),none)),(1,.inl ((0,6,1),none))],[],[]),(76,[0]),0),
  (7,([(0,.inl (((-1),387420488,1),none)),(1,.inl ((0,6,1),none)),(2,.inl (((-1),387420488,1),none)),(3,.inl ((0,6,1),none))],[],[]),(9,[10]),0)]
set_option maxRecDepth 100000 in
theorem q610_ok : rf_chkB q610_P q610_U wLay q610_M ddX12_firstLetters [(3,[0])] [.inl 3] [0,7] 600 q610_N = true := by decide +kernel
set_option maxHeartbeats 4000000 in
theorem q610_met {G : rfG} (h : okG G) (hh : wHandOK G) : rf_met G q610_M := rf_methodB h.1 (P := q610_P) (U := q610_U) (N := q610_N) ⟨wflT h flokX12, wcsT h csokX12, wlcT h lcokX12, spokX12 h, List.forall_mem_cons.mpr ⟨q608_met h hh, fun _ h => absurd h List.not_mem_nil⟩, List.forall_mem_cons.mpr ⟨fun M hM => Option.some.inj (show some q608_M = some M from hM) ▸ wlkS (lkX12_319 h) q608_M rfl rfl, fun _ h => absurd h List.not_mem_nil⟩, fun _ h => absurd h List.not_mem_nil, fun _ h => absurd h List.not_mem_nil, fun _ h => absurd h List.not_mem_nil⟩ dkX12_firstLetters (by decide +kernel) (by rw [h.2.2.1]; exact q610_ok)
/-- NearSpellModel.many -/
def q611_M : rfM := ((⟨"NearSpellModel", "many", "(I)I"⟩, prog_14_method_37_code, 3, (some .int)), (1,21), ([.inl (((-2147483648),2147483647,1),none)],[]), [], [(some (.inl (((-2147483648),2147483647,1),none)),[],[])])
def ddX12_many : List (Nat × Instr × Nat) := [(0,.iconst 0,1),(1,.istore_n 1,1),(2,.iconst 0,1),(3,.istore_n 2,1),(4,.iload_n 2,1),(5,.bipush 14,2),(7,.if_icmp .ge 25,3),(10,.iload_n 1,1),(11,.iload_n 0,1),(12,.iload_n 2,1),(13,.invokestatic 251,3),(16,.ifCond .eq 7,3),(19,.iconst 1,1),(20,.goto 4,3),(23,.iconst 0,1),(24,.iadd,1),(25,.istore_n 1,1),(26,.iinc 2 1,3),(29,.goto (-25),3),(32,.iload_n 1,1),(33,.ireturn,1)]
set_option maxRecDepth 100000 in
theorem dkX12_many : rf_decs prog_14_method_37_code ddX12_many := rf_decs_of (by decide +kernel)
def q611_P : rfP := (flX12,csX12,lcX12,spX12,[q522_M],[(251,0)],[],([],[]))
def q611_U : rfU := []
set_option maxHeartbeats 8000000 in
def q611_N : List rfB := [(0,([(0,.inl (((-2147483648),2147483647,1),none))],[],[]),(275,[0]),0),
  (4,([(0,.inl (((-2147483648),2147483647,1),none)),(1,.inl (((-2147483648),2147483647,1),none)),(2,.inl ((0,14,1),none))],[],[]),(269,[(-18)]),0),
  (25,([(0,.inl (((-2147483648),2147483647,1),none)),(1,.inl (((-2147483648),2147483647,1),none)),(2,.inl ((0,13,1),none))],[.inl (((-2147483648),2147483647,1),none)],[]),(255,[(-18)]),0)]
set_option maxRecDepth 100000 in
theorem q611_ok : rf_chkB q611_P q611_U wLay q611_M ddX12_many [(13,[0])] [.inl 2] [0,4,25] 600 q611_N = true := by decide +kernel
set_option maxHeartbeats 4000000 in
theorem q611_met {G : rfG} (h : okG G) (hh : wHandOK G) : rf_met G q611_M := rf_methodB h.1 (P := q611_P) (U := q611_U) (N := q611_N) ⟨wflT h flokX12, wcsT h csokX12, wlcT h lcokX12, spokX12 h, List.forall_mem_cons.mpr ⟨q522_met h hh, fun _ h => absurd h List.not_mem_nil⟩, List.forall_mem_cons.mpr ⟨fun M hM => Option.some.inj (show some q522_M = some M from hM) ▸ wlkS (lkX12_251 h) q522_M rfl rfl, fun _ h => absurd h List.not_mem_nil⟩, fun _ h => absurd h List.not_mem_nil, fun _ h => absurd h List.not_mem_nil, fun _ h => absurd h List.not_mem_nil⟩ dkX12_many (by decide +kernel) (by rw [h.2.2.1]; exact q611_ok)
/-- NearSpellModel.firstLetters -/
def q612_M : rfM := ((⟨"NearSpellModel", "firstLetters", "(II)I"⟩, prog_14_method_43_code, 4, (some .int)), (1,22), ([.inl (((-1),387420488,1),none),.inl ((1,1,0),none)],[]), [], [(some (.inl (((-1),387420488,1),none)),[],[])])
def q612_P : rfP := (flX12,csX12,lcX12,spX12,[q608_M],[(319,0)],[],([],[]))
def q612_U : rfU := []
set_option maxHeartbeats 8000000 in
def q612_N : List rfB := [(0,([(0,.inl (((-1),387420488,1),none)),(1,.inl ((1,1,0),none))],[],[]),(76,[0]),0),
  (7,([(0,.inl (((-1),387420488,1),none)),(1,.inl ((1,1,0),none)),(2,.inl (((-1),387420488,1),none)),(3,.inl ((0,6,1),none))],[],[]),(9,[10]),0)]
set_option maxRecDepth 100000 in
theorem q612_ok : rf_chkB q612_P q612_U wLay q612_M ddX12_firstLetters [(3,[0])] [.inl 3] [0,7] 600 q612_N = true := by decide +kernel
set_option maxHeartbeats 4000000 in
theorem q612_met {G : rfG} (h : okG G) (hh : wHandOK G) : rf_met G q612_M := rf_methodB h.1 (P := q612_P) (U := q612_U) (N := q612_N) ⟨wflT h flokX12, wcsT h csokX12, wlcT h lcokX12, spokX12 h, List.forall_mem_cons.mpr ⟨q608_met h hh, fun _ h => absurd h List.not_mem_nil⟩, List.forall_mem_cons.mpr ⟨fun M hM => Option.some.inj (show some q608_M = some M from hM) ▸ wlkS (lkX12_319 h) q608_M rfl rfl, fun _ h => absurd h List.not_mem_nil⟩, fun _ h => absurd h List.not_mem_nil, fun _ h => absurd h List.not_mem_nil, fun _ h => absurd h List.not_mem_nil⟩ dkX12_firstLetters (by decide +kernel) (by rw [h.2.2.1]; exact q612_ok)
/-- NearSpellModel.letterOf -/
def q613_M : rfM := ((⟨"NearSpellModel", "letterOf", "(II)I"⟩, prog_14_method_44_code, 2, (some .int)), (2,45), ([.inl (((-1),387420488,1),none),.inl ((0,0,0),none)],[]), [], [(some (.inl (((-26),26,1),none)),[],[])])
def ddX12_letterOf : List (Nat × Instr × Nat) := [(0,.iload_n 0,1),(1,.iload_n 1,1),(2,.iconst 1,1),(3,.iadd,1),(4,.invokestatic 322,3),(7,.bipush 27,2),(9,.irem,1),(10,.ireturn,1)]
set_option maxRecDepth 100000 in
theorem dkX12_letterOf : rf_decs prog_14_method_44_code ddX12_letterOf := rf_decs_of (by decide +kernel)
def q613_P : rfP := (flX12,csX12,lcX12,spX12,[q612_M],[(322,0)],[],([],[]))
def q613_U : rfU := []
set_option maxHeartbeats 8000000 in
def q613_N : List rfB := [(0,([(0,.inl (((-1),387420488,1),none)),(1,.inl ((0,0,0),none))],[],[]),(7,[]),0)]
set_option maxRecDepth 100000 in
theorem q613_ok : rf_chkB q613_P q613_U wLay q613_M ddX12_letterOf [(4,[0])] [] [0] 600 q613_N = true := by decide +kernel
set_option maxHeartbeats 4000000 in
theorem q613_met {G : rfG} (h : okG G) (hh : wHandOK G) : rf_met G q613_M := rf_methodB h.1 (P := q613_P) (U := q613_U) (N := q613_N) ⟨wflT h flokX12, wcsT h csokX12, wlcT h lcokX12, spokX12 h, List.forall_mem_cons.mpr ⟨q612_met h hh, fun _ h => absurd h List.not_mem_nil⟩, List.forall_mem_cons.mpr ⟨fun M hM => Option.some.inj (show some q612_M = some M from hM) ▸ wlkS (lkX12_322 h) q612_M rfl rfl, fun _ h => absurd h List.not_mem_nil⟩, fun _ h => absurd h List.not_mem_nil, fun _ h => absurd h List.not_mem_nil, fun _ h => absurd h List.not_mem_nil⟩ dkX12_letterOf (by decide +kernel) (by rw [h.2.2.1]; exact q613_ok)
/-- NearSpellModel.firstLetters -/
def q614_M : rfM := ((⟨"NearSpellModel", "firstLetters", "(II)I"⟩, prog_14_method_43_code, 4, (some .int)), (1,22), ([.inl (((-1),387420488,1),none),.inl ((1,2,1),none)],[]), [], [(some (.inl (((-1),387420488,1),none)),[],[])])
def q614_P : rfP := (flX12,csX12,lcX12,spX12,[q608_M],[(319,0)],[],([],[]))
def q614_U : rfU := []
set_option maxHeartbeats 8000000 in
def q614_N : List rfB := [(0,([(0,.inl (((-1),387420488,1),none)),(1,.inl ((1,2,1),none))],[],[]),(76,[0]),0),
  (7,([(0,.inl (((-1),387420488,1),none)),(1,.inl ((1,2,1),none)),(2,.inl (((-1),387420488,1),none)),(3,.inl ((0,6,1),none))],[],[]),(9,[10]),0)]
set_option maxRecDepth 100000 in
theorem q614_ok : rf_chkB q614_P q614_U wLay q614_M ddX12_firstLetters [(3,[0])] [.inl 3] [0,7] 600 q614_N = true := by decide +kernel
set_option maxHeartbeats 4000000 in
theorem q614_met {G : rfG} (h : okG G) (hh : wHandOK G) : rf_met G q614_M := rf_methodB h.1 (P := q614_P) (U := q614_U) (N := q614_N) ⟨wflT h flokX12, wcsT h csokX12, wlcT h lcokX12, spokX12 h, List.forall_mem_cons.mpr ⟨q608_met h hh, fun _ h => absurd h List.not_mem_nil⟩, List.forall_mem_cons.mpr ⟨fun M hM => Option.some.inj (show some q608_M = some M from hM) ▸ wlkS (lkX12_319 h) q608_M rfl rfl, fun _ h => absurd h List.not_mem_nil⟩, fun _ h => absurd h List.not_mem_nil, fun _ h => absurd h List.not_mem_nil, fun _ h => absurd h List.not_mem_nil⟩ dkX12_firstLetters (by decide +kernel) (by rw [h.2.2.1]; exact q614_ok)
/-- NearSpellModel.letterOf -/
def q615_M : rfM := ((⟨"NearSpellModel", "letterOf", "(II)I"⟩, prog_14_method_44_code, 2, (some .int)), (2,45), ([.inl (((-1),387420488,1),none),.inl ((0,1,1),none)],[]), [], [(some (.inl (((-26),26,1),none)),[],[])])
def q615_P : rfP := (flX12,csX12,lcX12,spX12,[q614_M],[(322,0)],[],([],[]))
def q615_U : rfU := []
set_option maxHeartbeats 8000000 in
def q615_N : List rfB := [(0,([(0,.inl (((-1),387420488,1),none)),(1,.inl ((0,1,1),none))],[],[]),(7,[]),0)]
set_option maxRecDepth 100000 in
theorem q615_ok : rf_chkB q615_P q615_U wLay q615_M ddX12_letterOf [(4,[0])] [] [0] 600 q615_N = true := by decide +kernel
set_option maxHeartbeats 4000000 in
theorem q615_met {G : rfG} (h : okG G) (hh : wHandOK G) : rf_met G q615_M := rf_methodB h.1 (P := q615_P) (U := q615_U) (N := q615_N) ⟨wflT h flokX12, wcsT h csokX12, wlcT h lcokX12, spokX12 h, List.forall_mem_cons.mpr ⟨q614_met h hh, fun _ h => absurd h List.not_mem_nil⟩, List.forall_mem_cons.mpr ⟨fun M hM => Option.some.inj (show some q614_M = some M from hM) ▸ wlkS (lkX12_322 h) q614_M rfl rfl, fun _ h => absurd h List.not_mem_nil⟩, fun _ h => absurd h List.not_mem_nil, fun _ h => absurd h List.not_mem_nil, fun _ h => absurd h List.not_mem_nil⟩ dkX12_letterOf (by decide +kernel) (by rw [h.2.2.1]; exact q615_ok)
/-- NearSpellModel.firstLetters -/
def q616_M : rfM := ((⟨"NearSpellModel", "firstLetters", "(II)I"⟩, prog_14_method_43_code, 4, (some .int)), (1,22), ([.inl (((-1),387420488,1),none),.inl ((1,3,1),none)],[]), [], [(some (.inl (((-1),387420488,1),none)),[],[])])
def q616_P : rfP := (flX12,csX12,lcX12,spX12,[q608_M],[(319,0)],[],([],[]))
def q616_U : rfU := []
set_option maxHeartbeats 8000000 in
def q616_N : List rfB := [(0,([(0,.inl (((-1),387420488,1),none)),(1,.inl ((1,3,1),none))],[],[]),(76,[0]),0),
  (7,([(0,.inl (((-1),387420488,1),none)),(1,.inl ((1,3,1),none)),(2,.inl (((-1),387420488,1),none)),(3,.inl ((0,6,1),none))],[],[]),(9,[10]),0)]
set_option maxRecDepth 100000 in
theorem q616_ok : rf_chkB q616_P q616_U wLay q616_M ddX12_firstLetters [(3,[0])] [.inl 3] [0,7] 600 q616_N = true := by decide +kernel
set_option maxHeartbeats 4000000 in
theorem q616_met {G : rfG} (h : okG G) (hh : wHandOK G) : rf_met G q616_M := rf_methodB h.1 (P := q616_P) (U := q616_U) (N := q616_N) ⟨wflT h flokX12, wcsT h csokX12, wlcT h lcokX12, spokX12 h, List.forall_mem_cons.mpr ⟨q608_met h hh, fun _ h => absurd h List.not_mem_nil⟩, List.forall_mem_cons.mpr ⟨fun M hM => Option.some.inj (show some q608_M = some M from hM) ▸ wlkS (lkX12_319 h) q608_M rfl rfl, fun _ h => absurd h List.not_mem_nil⟩, fun _ h => absurd h List.not_mem_nil, fun _ h => absurd h List.not_mem_nil, fun _ h => absurd h List.not_mem_nil⟩ dkX12_firstLetters (by decide +kernel) (by rw [h.2.2.1]; exact q616_ok)
/-- NearSpellModel.letterOf -/
def q617_M : rfM := ((⟨"NearSpellModel", "letterOf", "(II)I"⟩, prog_14_method_44_code, 2, (some .int)), (2,45), ([.inl (((-1),387420488,1),none),.inl ((0,2,1),none)],[]), [], [(some (.inl (((-26),26,1),none)),[],[])])
def q617_P : rfP := (flX12,csX12,lcX12,spX12,[q616_M],[(322,0)],[],([],[]))
def q617_U : rfU := []
set_option maxHeartbeats 8000000 in
def q617_N : List rfB := [(0,([(0,.inl (((-1),387420488,1),none)),(1,.inl ((0,2,1),none))],[],[]),(7,[]),0)]
set_option maxRecDepth 100000 in
theorem q617_ok : rf_chkB q617_P q617_U wLay q617_M ddX12_letterOf [(4,[0])] [] [0] 600 q617_N = true := by decide +kernel
set_option maxHeartbeats 4000000 in
theorem q617_met {G : rfG} (h : okG G) (hh : wHandOK G) : rf_met G q617_M := rf_methodB h.1 (P := q617_P) (U := q617_U) (N := q617_N) ⟨wflT h flokX12, wcsT h csokX12, wlcT h lcokX12, spokX12 h, List.forall_mem_cons.mpr ⟨q616_met h hh, fun _ h => absurd h List.not_mem_nil⟩, List.forall_mem_cons.mpr ⟨fun M hM => Option.some.inj (show some q616_M = some M from hM) ▸ wlkS (lkX12_322 h) q616_M rfl rfl, fun _ h => absurd h List.not_mem_nil⟩, fun _ h => absurd h List.not_mem_nil, fun _ h => absurd h List.not_mem_nil, fun _ h => absurd h List.not_mem_nil⟩ dkX12_letterOf (by decide +kernel) (by rw [h.2.2.1]; exact q617_ok)
/-- NearSpellModel.firstLetters -/
def q618_M : rfM := ((⟨"NearSpellModel", "firstLetters", "(II)I"⟩, prog_14_method_43_code, 4, (some .int)), (1,22), ([.inl (((-1),387420488,1),none),.inl ((1,4,1),none)],[]), [], [(some (.inl (((-1),387420488,1),none)),[],[])])
def q618_P : rfP := (flX12,csX12,lcX12,spX12,[q608_M],[(319,0)],[],([],[]))
def q618_U : rfU := []
set_option maxHeartbeats 8000000 in
def q618_N : List rfB := [(0,([(0,.inl (((-1),387420488,1),none)),(1,.inl ((1,4,1),none))],[],[]),(76,[0]),0),
  (7,([(0,.inl (((-1),387420488,1),none)),(1,.inl ((1,4,1),none)),(2,.inl (((-1),387420488,1),none)),(3,.inl ((0,6,1),none))],[],[]),(9,[10]),0)]
set_option maxRecDepth 100000 in
theorem q618_ok : rf_chkB q618_P q618_U wLay q618_M ddX12_firstLetters [(3,[0])] [.inl 3] [0,7] 600 q618_N = true := by decide +kernel
set_option maxHeartbeats 4000000 in
theorem q618_met {G : rfG} (h : okG G) (hh : wHandOK G) : rf_met G q618_M := rf_methodB h.1 (P := q618_P) (U := q618_U) (N := q618_N) ⟨wflT h flokX12, wcsT h csokX12, wlcT h lcokX12, spokX12 h, List.forall_mem_cons.mpr ⟨q608_met h hh, fun _ h => absurd h List.not_mem_nil⟩, List.forall_mem_cons.mpr ⟨fun M hM => Option.some.inj (show some q608_M = some M from hM) ▸ wlkS (lkX12_319 h) q608_M rfl rfl, fun _ h => absurd h List.not_mem_nil⟩, fun _ h => absurd h List.not_mem_nil, fun _ h => absurd h List.not_mem_nil, fun _ h => absurd h List.not_mem_nil⟩ dkX12_firstLetters (by decide +kernel) (by rw [h.2.2.1]; exact q618_ok)
/-- NearSpellModel.letterOf -/
def q619_M : rfM := ((⟨"NearSpellModel", "letterOf", "(II)I"⟩, prog_14_method_44_code, 2, (some .int)), (2,45), ([.inl (((-1),387420488,1),none),.inl ((0,3,1),none)],[]), [], [(some (.inl (((-26),26,1),none)),[],[])])
def q619_P : rfP := (flX12,csX12,lcX12,spX12,[q618_M],[(322,0)],[],([],[]))
def q619_U : rfU := []
set_option maxHeartbeats 8000000 in
def q619_N : List rfB := [(0,([(0,.inl (((-1),387420488,1),none)),(1,.inl ((0,3,1),none))],[],[]),(7,[]),0)]
set_option maxRecDepth 100000 in
theorem q619_ok : rf_chkB q619_P q619_U wLay q619_M ddX12_letterOf [(4,[0])] [] [0] 600 q619_N = true := by decide +kernel
set_option maxHeartbeats 4000000 in
theorem q619_met {G : rfG} (h : okG G) (hh : wHandOK G) : rf_met G q619_M := rf_methodB h.1 (P := q619_P) (U := q619_U) (N := q619_N) ⟨wflT h flokX12, wcsT h csokX12, wlcT h lcokX12, spokX12 h, List.forall_mem_cons.mpr ⟨q618_met h hh, fun _ h => absurd h List.not_mem_nil⟩, List.forall_mem_cons.mpr ⟨fun M hM => Option.some.inj (show some q618_M = some M from hM) ▸ wlkS (lkX12_322 h) q618_M rfl rfl, fun _ h => absurd h List.not_mem_nil⟩, fun _ h => absurd h List.not_mem_nil, fun _ h => absurd h List.not_mem_nil, fun _ h => absurd h List.not_mem_nil⟩ dkX12_letterOf (by decide +kernel) (by rw [h.2.2.1]; exact q619_ok)
