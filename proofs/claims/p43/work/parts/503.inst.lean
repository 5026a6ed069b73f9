/-- NearSpell.State.isEntry -/
def q160_M : rfM := ((⟨"NearSpell$State", "isEntry", "(I)Z"⟩, prog_10_method_6_code, 2, (some .boolean)), (0,0), ([.inr (.inl [13]),.inl ((0,0,0),none)],[]), [], [(some (.inl ((1,1,0),none)),[],[((12,34),(1,14,1),none)]),(some (.inl ((0,0,0),none)),[],[])])
def q160_P : rfP := (flX8,csX8,lcX8,spX8,[],[],[],([],[]))
def q160_U : rfU := []
set_option maxHeartbeats 8000000 in
def q160_N : List rfB := [(0,([(0,.inr (.inl [13])),(1,.inl ((0,0,0),none))],[],[]),(20,[]),0),
  (32,([(0,.inr (.inl [13])),(1,.inl ((0,0,0),none))],[],[]),(1,[]),0)]
set_option maxRecDepth 100000 in
theorem q160_ok : rf_chkB q160_P q160_U wLay q160_M ddX8_isEntry [] [] [0,32] 600 q160_N = true := by decide +kernel
set_option maxHeartbeats 4000000 in
theorem q160_met {G : rfG} (h : okG G) (hh : wHandOK G) : rf_met G q160_M := rf_methodB h.1 (P := q160_P) (U := q160_U) (N := q160_N) ⟨wflT h flokX8, wcsT h csokX8, wlcT h lcokX8, spokX8 h, fun _ h => absurd h List.not_mem_nil, fun _ h => absurd h List.not_mem_nil, fun _ h => absurd h List.not_mem_nil, fun _ h => absurd h List.not_mem_nil, fun _ h => absurd h List.not_mem_nil⟩ dkX8_isEntry (by decide +kernel) (by rw [h.2.2.1]; exact q160_ok)
/-- NearSpell.State.spellingOf -/
def q161_M : rfM := ((⟨"NearSpell$State", "spellingOf", "(I)I"⟩, prog_10_method_7_code, 2, (some .int)), (0,0), ([.inr (.inl [13]),.inl ((0,0,0),none)],[]), [], [(some (.inl (((-2147483648),2147483647,1),none)),[],[])])
def q161_P : rfP := (flX8,csX8,lcX8,spX8,[],[],[],([],[]))
def q161_U : rfU := []
set_option maxHeartbeats 8000000 in
def q161_N : List rfB := [(0,([(0,.inr (.inl [13])),(1,.inl ((0,0,0),none))],[],[]),(12,[]),0)]
set_option maxRecDepth 100000 in
theorem q161_ok : rf_chkB q161_P q161_U wLay q161_M ddX8_spellingOf [] [] [0] 600 q161_N = true := by decide +kernel
set_option maxHeartbeats 4000000 in
theorem q161_met {G : rfG} (h : okG G) (hh : wHandOK G) : rf_met G q161_M := rf_methodB h.1 (P := q161_P) (U := q161_U) (N := q161_N) ⟨wflT h flokX8, wcsT h csokX8, wlcT h lcokX8, spokX8 h, fun _ h => absurd h List.not_mem_nil, fun _ h => absurd h List.not_mem_nil, fun _ h => absurd h List.not_mem_nil, fun _ h => absurd h List.not_mem_nil, fun _ h => absurd h List.not_mem_nil⟩ dkX8_spellingOf (by decide +kernel) (by rw [h.2.2.1]; exact q161_ok)
/-- NearSpell.State.isEntry -/
def q162_M : rfM := ((⟨"NearSpell$State", "isEntry", "(I)Z"⟩, prog_10_method_6_code, 2, (some .boolean)), (0,0), ([.inr (.inl [13]),.inl ((0,1,1),none)],[]), [], [(some (.inl ((1,1,0),none)),[],[((12,34),(1,14,1),none)]),(some (.inl ((0,0,0),none)),[],[])])
def q162_P : rfP := (flX8,csX8,lcX8,spX8,[],[],[],([],[]))
def q162_U : rfU := []
set_option maxHeartbeats 8000000 in
def q162_N : List rfB := [(0,([(0,.inr (.inl [13])),(1,.inl ((0,1,1),none))],[],[]),(20,[]),0),
  (32,([(0,.inr (.inl [13])),(1,.inl ((0,1,1),none))],[],[]),(1,[]),0)]
set_option maxRecDepth 100000 in
theorem q162_ok : rf_chkB q162_P q162_U wLay q162_M ddX8_isEntry [] [] [0,32] 600 q162_N = true := by decide +kernel
set_option maxHeartbeats 4000000 in
theorem q162_met {G : rfG} (h : okG G) (hh : wHandOK G) : rf_met G q162_M := rf_methodB h.1 (P := q162_P) (U := q162_U) (N := q162_N) ⟨wflT h flokX8, wcsT h csokX8, wlcT h lcokX8, spokX8 h, fun _ h => absurd h List.not_mem_nil, fun _ h => absurd h List.not_mem_nil, fun _ h => absurd h List.not_mem_nil, fun _ h => absurd h List.not_mem_nil, fun _ h => absurd h List.not_mem_nil⟩ dkX8_isEntry (by decide +kernel) (by rw [h.2.2.1]; exact q162_ok)
/-- NearSpell.State.spellingOf -/
def q163_M : rfM := ((⟨"NearSpell$State", "spellingOf", "(I)I"⟩, prog_10_method_7_code, 2, (some .int)), (0,0), ([.inr (.inl [13]),.inl ((0,1,1),none)],[]), [], [(some (.inl (((-2147483648),2147483647,1),none)),[],[])])
def q163_P : rfP := (flX8,csX8,lcX8,spX8,[],[],[],([],[]))
def q163_U : rfU := []
set_option maxHeartbeats 8000000 in
def q163_N : List rfB := [(0,([(0,.inr (.inl [13])),(1,.inl ((0,1,1),none))],[],[]),(12,[]),0)]
set_option maxRecDepth 100000 in
theorem q163_ok : rf_chkB q163_P q163_U wLay q163_M ddX8_spellingOf [] [] [0] 600 q163_N = true := by decide +kernel
set_option maxHeartbeats 4000000 in
theorem q163_met {G : rfG} (h : okG G) (hh : wHandOK G) : rf_met G q163_M := rf_methodB h.1 (P := q163_P) (U := q163_U) (N := q163_N) ⟨wflT h flokX8, wcsT h csokX8, wlcT h lcokX8, spokX8 h, fun _ h => absurd h List.not_mem_nil, fun _ h => absurd h List.not_mem_nil, fun _ h => absurd h List.not_mem_nil, fun _ h => absurd h List.not_mem_nil, fun _ h => absurd h List.not_mem_nil⟩ dkX8_spellingOf (by decide +kernel) (by rw [h.2.2.1]; exact q163_ok)
/-- NearSpell.State.isEntry -/
def q164_M : rfM := ((⟨"NearSpell$State", "isEntry", "(I)Z"⟩, prog_10_method_6_code, 2, (some .boolean)), (0,0), ([.inr (.inl [13]),.inl ((0,2,1),none)],[]), [], [(some (.inl ((1,1,0),none)),[],[((12,34),(1,14,1),none)]),(some (.inl ((0,0,0),none)),[],[])])
def q164_P : rfP := (flX8,csX8,lcX8,spX8,[],[],[],([],[]))
def q164_U : rfU := []
set_option maxHeartbeats 8000000 in
def q164_N : List rfB := [(0,([(0,.inr (.inl [13])),(1,.inl ((0,2,1),none))],[],[]),(20,[]),0),
  (32,([(0,.inr (.inl [13])),(1,.inl ((0,2,1),none))],[],[]),(1,[]),0)]
set_option maxRecDepth 100000 in
theorem q164_ok : rf_chkB q164_P q164_U wLay q164_M ddX8_isEntry [] [] [0,32] 600 q164_N = true := by decide +kernel
set_option maxHeartbeats 4000000 in
theorem q164_met {G : rfG} (h : okG G) (hh : wHandOK G) : rf_met G q164_M := rf_methodB h.1 (P := q164_P) (U := q164_U) (N := q164_N) ⟨wflT h flokX8, wcsT h csokX8, wlcT h lcokX8, spokX8 h, fun _ h => absurd h List.not_mem_nil, fun _ h => absurd h List.not_mem_nil, fun _ h => absurd h List.not_mem_nil, fun _ h => absurd h List.not_mem_nil, fun _ h => absurd h List.not_mem_nil⟩ dkX8_isEntry (by decide +kernel) (by rw [h.2.2.1]; exact q164_ok)
/-- NearSpell.State.spellingOf -/
def q165_M : rfM := ((⟨"NearSpell$State", "spellingOf", "(I)I"⟩, prog_10_method_7_code, 2, (some .int)), (0,0), ([.inr (.inl [13]),.inl ((0,2,1),none)],[]), [], [(some (.inl (((-2147483648),2147483647,1),none)),[],[])])
def q165_P : rfP := (flX8,csX8,lcX8,spX8,[],[],[],([],[]))
def q165_U : rfU := []
set_option maxHeartbeats 8000000 in
def q165_N : List rfB := [(0,([(0,.inr (.inl [13])),(1,.inl ((0,2,1),none))],[],[]),(12,[]),0)]
set_option maxRecDepth 100000 in
theorem q165_ok : rf_chkB q165_P q165_U wLay q165_M ddX8_spellingOf [] [] [0] 600 q165_N = true := by decide +kernel
set_option maxHeartbeats 4000000 in
theorem q165_met {G : rfG} (h : okG G) (hh : wHandOK G) : rf_met G q165_M := rf_methodB h.1 (P := q165_P) (U := q165_U) (N := q165_N) ⟨wflT h flokX8, wcsT h csokX8, wlcT h lcokX8, spokX8 h, fun _ h => absurd h List.not_mem_nil, fun _ h => absurd h List.not_mem_nil, fun _ h => absurd h List.not_mem_nil, fun _ h => absurd h List.not_mem_nil, fun _ h => absurd h List.not_mem_nil⟩ dkX8_spellingOf (by decide +kernel) (by rw [h.2.2.1]; exact q165_ok)
/-- NearSpell.State.isEntry -/
def q166_M : rfM := ((⟨"NearSpell$State", "isEntry", "(I)Z"⟩, prog_10_method_6_code, 2, (some .boolean)), (0,0), ([.inr (.inl [13]),.inl ((0,3,1),none)],[]), [], [(some (.inl ((1,1,0),none)),[],[((12,34),(1,14,1),none)]),(some (.inl ((0,0,0),none)),[],[])])
def q166_P : rfP := (flX8,csX8,lcX8,spX8,[],[],[],([],[]))
def q166_U : rfU := []
set_option maxHeartbeats 8000000 in
def q166_N : List rfB := [(0,([(0,.inr (.inl [13])),(1,.inl ((0,3,1),none))],[],[]),(20,[]),0),
  (32,([(0,.inr (.inl [13])),(1,.inl ((0,3,1),none))],[],[]),(1,[]),0)]
set_option maxRecDepth 100000 in
theorem q166_ok : rf_chkB q166_P q166_U wLay q166_M ddX8_isEntry [] [] [0,32] 600 q166_N = true := by decide +kernel
set_option maxHeartbeats 4000000 in
theorem q166_met {G : rfG} (h : okG G) (hh : wHandOK G) : rf_met G q166_M := rf_methodB h.1 (P := q166_P) (U := q166_U) (N := q166_N) ⟨wflT h flokX8, wcsT h csokX8, wlcT h lcokX8, spokX8 h, fun _ h => absurd h List.not_mem_nil, fun _ h => absurd h List.not_mem_nil, fun _ h => absurd h List.not_mem_nil, fun _ h => absurd h List.not_mem_nil, fun _ h => absurd h List.not_mem_nil⟩ dkX8_isEntry (by decide +kernel) (by rw [h.2.2.1]; exact q166_ok)
/-- NearSpell.State.spellingOf -/
def q167_M : rfM := ((⟨"NearSpell$State", "spellingOf", "(I)I"⟩, prog_10_method_7_code, 2, (some .int)), (0,0), ([.inr (.inl [13]),.inl ((0,3,1),none)],[]), [], [(some (.inl (((-2147483648),2147483647,1),none)),[],[])])
def q167_P : rfP := (flX8,csX8,lcX8,spX8,[],[],[],([],[]))
def q167_U : rfU := []
set_option maxHeartbeats 8000000 in
def q167_N : List rfB := [(0,([(0,.inr (.inl [13])),(1,.inl ((0,3,1),none))],[],[]),(12,[]),0)]
set_option maxRecDepth 100000 in
theorem q167_ok : rf_chkB q167_P q167_U wLay q167_M ddX8_spellingOf [] [] [0] 600 q167_N = true := by decide +kernel
set_option maxHeartbeats 4000000 in
theorem q167_met {G : rfG} (h : okG G) (hh : wHandOK G) : rf_met G q167_M := rf_methodB h.1 (P := q167_P) (U := q167_U) (N := q167_N) ⟨wflT h flokX8, wcsT h csokX8, wlcT h lcokX8, spokX8 h, fun _ h => absurd h List.not_mem_nil, fun _ h => absurd h List.not_mem_nil, fun _ h => absurd h List.not_mem_nil, fun _ h => absurd h List.not_mem_nil, fun _ h => absurd h List.not_mem_nil⟩ dkX8_spellingOf (by decide +kernel) (by rw [h.2.2.1]; exact q167_ok)
/-- NearSpell.State.isEntry -/
def q168_M : rfM := ((⟨"NearSpell$State", "isEntry", "(I)Z"⟩, prog_10_method_6_code, 2, (some .boolean)), (0,0), ([.inr (.inl [13]),.inl ((0,6,1),none)],[]), [], [(some (.inl ((1,1,0),none)),[],[((12,34),(1,14,1),none)]),(some (.inl ((0,0,0),none)),[],[])])
def q168_P : rfP := (flX8,csX8,lcX8,spX8,[],[],[],([],[]))
def q168_U : rfU := []
set_option maxHeartbeats 8000000 in
def q168_N : List rfB := [(0,([(0,.inr (.inl [13])),(1,.inl ((0,6,1),none))],[],[]),(20,[]),0),
  (32,([(0,.inr (.inl [13])),(1,.inl ((0,6,1),none))],[],[]),(1,[]),0)]
set_option maxRecDepth 100000 in
theorem q168_ok : rf_chkB q168_P q168_U wLay q168_M ddX8_isEntry [] [] [0,32] 600 q168_N = true := by decide +kernel
set_option maxHeartbeats 4000000 in
theorem q168_met {G : rfG} (h : okG G) (hh : wHandOK G) : rf_met G q168_M := rf_methodB h.1 (P := q168_P) (U := q168_U) (N := q168_N) ⟨wflT h flokX8, wcsT h csokX8, wlcT h lcokX8, spokX8 h, fun _ h => absurd h List.not_mem_nil, fun _ h => absurd h List.not_mem_nil, fun _ h => absurd h List.not_mem_nil, fun _ h => absurd h List.not_mem_nil, fun _ h => absurd h List.not_mem_nil⟩ dkX8_isEntry (by decide +kernel) (by rw [h.2.2.1]; exact q168_ok)
/-- NearSpell.State.spellingOf -/
def q169_M : rfM := ((⟨"NearSpell$State", "spellingOf", "(I)I"⟩, prog_10_method_7_code, 2, (some .int)), (0,0), ([.inr (.inl [13]),.inl ((0,6,1),none)],[]), [], [(some (.inl (((-2147483648),2147483647,1),none)),[],[])])
def q169_P : rfP := (flX8,csX8,lcX8,spX8,[],[],[],([],[]))
def q169_U : rfU := []
set_option maxHeartbeats 8000000 in
def q169_N : List rfB := [(0,([(0,.inr (.inl [13])),(1,.inl ((0,6,1),none))],[],[]),(12,[]),0)]
set_option maxRecDepth 100000 in
theorem q169_ok : rf_chkB q169_P q169_U wLay q169_M ddX8_spellingOf [] [] [0] 600 q169_N = true := by decide +kernel
set_option maxHeartbeats 4000000 in
theorem q169_met {G : rfG} (h : okG G) (hh : wHandOK G) : rf_met G q169_M := rf_methodB h.1 (P := q169_P) (U := q169_U) (N := q169_N) ⟨wflT h flokX8, wcsT h csokX8, wlcT h lcokX8, spokX8 h, fun _ h => absurd h List.not_mem_nil, fun _ h => absurd h List.not_mem_nil, fun _ h => absurd h List.not_mem_nil, fun _ h => absurd h List.not_mem_nil, fun _ h => absurd h List.not_mem_nil⟩ dkX8_spellingOf (by decide +kernel) (by rw [h.2.2.1]; exact q169_ok)
/-- NearSpell.State.isEntry -/
def q170_M : rfM := ((⟨"NearSpell$State", "isEntry", "(I)Z"⟩, prog_10_method_6_code, 2, (some .boolean)), (0,0), ([.inr (.inl [13]),.inl ((0,9,1),none)],[]), [], [(some (.inl ((1,1,0),none)),[],[((12,34),(1,14,1),none)]),(some (.inl ((0,0,0),none)),[],[])])
def q170_P : rfP := (flX8,csX8,lcX8,spX8,[],[],[],([],[]))
def q170_U : rfU := []
set_option maxHeartbeats 8000000 in
def q170_N : List rfB := [(0,([(0,.inr (.inl [13])),(1,.inl ((0,9,1),none))],[],[]),(20,[]),0),
  (32,([(0,.inr (.inl [13])),(1,.inl ((0,9,1),none))],[],[]),(1,[]),0)]
set_option maxRecDepth 100000 in
theorem q170_ok : rf_chkB q170_P q170_U wLay q170_M ddX8_isEntry [] [] [0,32] 600 q170_N = true := by decide +kernel
set_option maxHeartbeats 4000000 in
theorem q170_met {G : rfG} (h : okG G) (hh : wHandOK G) : rf_met G q170_M := rf_methodB h.1 (P := q170_P) (U := q170_U) (N := q170_N) ⟨wflT h flokX8, wcsT h csokX8, wlcT h lcokX8, spokX8 h, fun _ h => absurd h List.not_mem_nil, fun _ h => absurd h List.not_mem_nil, fun _ h => absurd h List.not_mem_nil, fun _ h => absurd h List.not_mem_nil, fun _ h => absurd h List.not_mem_nil⟩ dkX8_isEntry (by decide +kernel) (by rw [h.2.2.1]; exact q170_ok)
/-- NearSpell.State.spellingOf -/
def q171_M : rfM := ((⟨"NearSpell$State", "spellingOf", "(I)I"⟩, prog_10_method_7_code, 2, (some .int)), (0,0), ([.inr (.inl [13]),.inl ((0,9,1),none)],[]), [], [(some (.inl (((-2147483648),2147483647,1),none)),[],[])])
def q171_P : rfP := (flX8,csX8,lcX8,spX8,[],[],[],([],[]))
def q171_U : rfU := []
set_option maxHeartbeats 8000000 in
def q171_N : List rfB := [(0,([(0,.inr (.inl [13])),(1,.inl ((0,9,1),none))],[],[]),(12,[]),0)]
set_option maxRecDepth 100000 in
theorem q171_ok : rf_chkB q171_P q171_U wLay q171_M ddX8_spellingOf [] [] [0] 600 q171_N = true := by decide +kernel
set_option maxHeartbeats 4000000 in
theorem q171_met {G : rfG} (h : okG G) (hh : wHandOK G) : rf_met G q171_M := rf_methodB h.1 (P := q171_P) (U := q171_U) (N := q171_N) ⟨wflT h flokX8, wcsT h csokX8, wlcT h lcokX8, spokX8 h, fun _ h => absurd h List.not_mem_nil, fun _ h => absurd h List.not_mem_nil, fun _ h => absurd h List.not_mem_nil, fun _ h => absurd h List.not_mem_nil, fun _ h => absurd h List.not_mem_nil⟩ dkX8_spellingOf (by decide +kernel) (by rw [h.2.2.1]; exact q171_ok)
/-- NearSpell.State.isEntry -/
def q172_M : rfM := ((⟨"NearSpell$State", "isEntry", "(I)Z"⟩, prog_10_method_6_code, 2, (some .boolean)), (0,0), ([.inr (.inl [13]),.inl ((0,12,1),none)],[]), [], [(some (.inl ((1,1,0),none)),[],[((12,34),(1,14,1),none)]),(some (.inl ((0,0,0),none)),[],[])])
def q172_P : rfP := (flX8,csX8,lcX8,spX8,[],[],[],([],[]))
def q172_U : rfU := []
set_option maxHeartbeats 8000000 in
def q172_N : List rfB := [(0,([(0,.inr (.inl [13])),(1,.inl ((0,12,1),none))],[],[]),(20,[]),0),
  (32,([(0,.inr (.inl [13])),(1,.inl ((0,12,1),none))],[],[]),(1,[]),0)]
set_option maxRecDepth 100000 in
theorem q172_ok : rf_chkB q172_P q172_U wLay q172_M ddX8_isEntry [] [] [0,32] 600 q172_N = true := by decide +kernel
set_option maxHeartbeats 4000000 in
theorem q172_met {G : rfG} (h : okG G) (hh : wHandOK G) : rf_met G q172_M := rf_methodB h.1 (P := q172_P) (U := q172_U) (N := q172_N) ⟨wflT h flokX8, wcsT h csokX8, wlcT h lcokX8, spokX8 h, fun _ h => absurd h List.not_mem_nil, fun _ h => absurd h List.not_mem_nil, fun _ h => absurd h List.not_mem_nil, fun _ h => absurd h List.not_mem_nil, fun _ h => absurd h List.not_mem_nil⟩ dkX8_isEntry (by decide +kernel) (by rw [h.2.2.1]; exact q172_ok)
/-- NearSpell.State.spellingOf -/
def q173_M : rfM := ((⟨"NearSpell$State", "spellingOf", "(I)I"⟩, prog_10_method_7_code, 2, (some .int)), (0,0), ([.inr (.inl [13]),.inl ((0,12,1),none)],[]), [], [(some (.inl (((-2147483648),2147483647,1),none)),[],[])])
def q173_P : rfP := (flX8,csX8,lcX8,spX8,[],[],[],([],[]))
def q173_U : rfU := []
set_option maxHeartbeats 8000000 in
def q173_N : List rfB := [(0,([(0,.inr (.inl [13])),(1,.inl ((0,12,1),none))],[],[]),(12,[]),0)]
set_option maxRecDepth 100000 in
theorem q173_ok : rf_chkB q173_P q173_U wLay q173_M ddX8_spellingOf [] [] [0] 600 q173_N = true := by decide +kernel
set_option maxHeartbeats 4000000 in
theorem q173_met {G : rfG} (h : okG G) (hh : wHandOK G) : rf_met G q173_M := rf_methodB h.1 (P := q173_P) (U := q173_U) (N := q173_N) ⟨wflT h flokX8, wcsT h csokX8, wlcT h lcokX8, spokX8 h, fun _ h => absurd h List.not_mem_nil, fun _ h => absurd h List.not_mem_nil, fun _ h => absurd h List.not_mem_nil, fun _ h => absurd h List.not_mem_nil, fun _ h => absurd h List.not_mem_nil⟩ dkX8_spellingOf (by decide +kernel) (by rw [h.2.2.1]; exact q173_ok)
/-- NearSpell.State.isEntry -/
def q174_M : rfM := ((⟨"NearSpell$State", "isEntry", "(I)Z"⟩, prog_10_method_6_code, 2, (some .boolean)), (0,0), ([.inr (.inl [13]),.inl ((0,13,1),none)],[]), [], [(some (.inl ((1,1,0),none)),[],[((12,34),(1,14,1),none)]),(some (.inl ((0,0,0),none)),[],[])])
def q174_P : rfP := (flX8,csX8,lcX8,spX8,[],[],[],([],[]))
def q174_U : rfU := []
set_option maxHeartbeats 8000000 in
def q174_N : List rfB := [(0,([(0,.inr (.inl [13])),(1,.inl ((0,13,1),none))],[],[]),(20,[]),0),
  (32,([(0,.inr (.inl [13])),(1,.inl ((0,13,1),none))],[],[]),(1,[]),0)]
set_option maxRecDepth 100000 in
theorem q174_ok : rf_chkB q174_P q174_U wLay q174_M ddX8_isEntry [] [] [0,32] 600 q174_N = true := by decide +kernel
set_option maxHeartbeats 4000000 in
theorem q174_met {G : rfG} (h : okG G) (hh : wHandOK G) : rf_met G q174_M := rf_methodB h.1 (P := q174_P) (U := q174_U) (N := q174_N) ⟨wflT h flokX8, wcsT h csokX8, wlcT h lcokX8, spokX8 h, fun _ h => absurd h List.not_mem_nil, fun _ h => absurd h List.not_mem_nil, fun _ h => absurd h List.not_mem_nil, fun _ h => absurd h List.not_mem_nil, fun _ h => absurd h List.not_mem_nil⟩ dkX8_isEntry (by decide +kernel) (by rw [h.2.2.1]; exact q174_ok)
/-- NearSpell.State.numberOf -/
def q175_M : rfM := ((⟨"NearSpell$State", "numberOf", "(I)I"⟩, prog_10_method_11_code, 3, (some .int)), (1,21), ([.inr (.inl [13]),.inl ((0,387420488,1),none)],[]), [], [(some (.inl (((-1),13,1),none)),[],[])])
def ddX8_numberOf : List (Nat × Instr × Nat) := [(0,.iconst 0,1),(1,.istore_n 2,1),(2,.iload_n 2,1),(3,.aload_n 0,1),(4,.getfield 11,3),(7,.bipush 34,2),(9,.iaload,1),(10,.if_icmp .ge 28,3),(13,.aload_n 0,1),(14,.iload_n 2,1),(15,.invokevirtual 34,3),(18,.ifCond .eq 14,3),(21,.aload_n 0,1),(22,.iload_n 2,1),(23,.invokevirtual 38,3),(26,.iload_n 1,1),(27,.if_icmp .ne 5,3),(30,.iload_n 2,1),(31,.ireturn,1),(32,.iinc 2 1,3),(35,.goto (-33),3),(38,.iconst (-1),1),(39,.ireturn,1)]
set_option maxRecDepth 100000 in
theorem dkX8_numberOf : rf_decs prog_10_method_11_code ddX8_numberOf := rf_decs_of (by decide +kernel)
def q175_P : rfP := (flX8,csX8,lcX8,spX8,[q174_M,q99_M],[],[(34,0,8),(38,1,8)],([],[]))
def q175_U : rfU := []
set_option maxHeartbeats 8000000 in
def q175_N : List rfB := [(0,([(0,.inr (.inl [13])),(1,.inl ((0,387420488,1),none))],[],[]),(290,[0]),0),
  (2,([(0,.inr (.inl [13])),(1,.inl ((0,387420488,1),none)),(2,.inl ((0,14,1),none))],[],[]),(286,[(-19)]),0),
  (32,([(0,.inr (.inl [13])),(1,.inl ((0,387420488,1),none)),(2,.inl ((0,13,1),none))],[],[((12,34),(1,14,1),none)]),(270,[(-19)]),0)]
set_option maxRecDepth 100000 in
theorem q175_ok : rf_chkB q175_P q175_U wLay q175_M ddX8_numberOf [(15,[0]),(23,[1])] [.inl 2] [0,2,32] 600 q175_N = true := by decide +kernel
set_option maxHeartbeats 4000000 in
theorem q175_met {G : rfG} (h : okG G) (hh : wHandOK G) : rf_met G q175_M := rf_methodB h.1 (P := q175_P) (U := q175_U) (N := q175_N) ⟨wflT h flokX8, wcsT h csokX8, wlcT h lcokX8, spokX8 h, List.forall_mem_cons.mpr ⟨q174_met h hh, List.forall_mem_cons.mpr ⟨q99_met h hh, fun _ h => absurd h List.not_mem_nil⟩⟩, fun _ h => absurd h List.not_mem_nil, List.forall_mem_cons.mpr ⟨fun M hM => Option.some.inj (show some q174_M = some M from hM) ▸ wlkV (lkX8_34 h) q174_M rfl rfl, List.forall_mem_cons.mpr ⟨fun M hM => Option.some.inj (show some q99_M = some M from hM) ▸ wlkV (lkX8_38 h) q99_M rfl rfl, fun _ h => absurd h List.not_mem_nil⟩⟩, fun _ h => absurd h List.not_mem_nil, fun _ h => absurd h List.not_mem_nil⟩ dkX8_numberOf (by decide +kernel) (by rw [h.2.2.1]; exact q175_ok)
/-- NearSpell.State.given -/
def q176_M : rfM := ((⟨"NearSpell$State", "given", "()I"⟩, prog_10_method_3_code, 1, (some .int)), (0,0), ([.inr (.inl [13])],[]), [], [(some (.inl ((0,14,1),none)),[],[])])
def ddX8_given : List (Nat × Instr × Nat) := [(0,.aload_n 0,1),(1,.getfield 11,3),(4,.bipush 34,2),(6,.iaload,1),(7,.ireturn,1)]
set_option maxRecDepth 100000 in
theorem dkX8_given : rf_decs prog_10_method_3_code ddX8_given := rf_decs_of (by decide +kernel)
def q176_P : rfP := (flX8,csX8,lcX8,spX8,[],[],[],([],[]))
def q176_U : rfU := []
set_option maxHeartbeats 8000000 in
def q176_N : List rfB := [(0,([(0,.inr (.inl [13]))],[],[]),(4,[]),0)]
set_option maxRecDepth 100000 in
theorem q176_ok : rf_chkB q176_P q176_U wLay q176_M ddX8_given [] [] [0] 600 q176_N = true := by decide +kernel
set_option maxHeartbeats 4000000 in
theorem q176_met {G : rfG} (h : okG G) (hh : wHandOK G) : rf_met G q176_M := rf_methodB h.1 (P := q176_P) (U := q176_U) (N := q176_N) ⟨wflT h flokX8, wcsT h csokX8, wlcT h lcokX8, spokX8 h, fun _ h => absurd h List.not_mem_nil, fun _ h => absurd h List.not_mem_nil, fun _ h => absurd h List.not_mem_nil, fun _ h => absurd h List.not_mem_nil, fun _ h => absurd h List.not_mem_nil⟩ dkX8_given (by decide +kernel) (by rw [h.2.2.1]; exact q176_ok)
/-- NearSpell.State.addEntry -/
def q177_M : rfM := ((⟨"NearSpell$State", "addEntry", "(II)I"⟩, prog_10_method_12_code, 4, (some .int)), (0,0), ([.inr (.inl [13]),.inl ((0,387420488,1),none),.inl ((0,999,1),none)],[]), [(12,0)], [(some (.inl (((-1),13,1),none)),[],[((12,34),(1,14,1),none)])])
def q177_P : rfP := (flX8,csX8,lcX8,spX8,[],[],[],([],[]))
def q177_U : rfU := []
set_option maxHeartbeats 8000000 in
def q177_N : List rfB := [(0,([(0,.inr (.inl [13])),(1,.inl ((0,387420488,1),none)),(2,.inl ((0,999,1),none))],[],[]),(33,[]),0)]
set_option maxRecDepth 100000 in
theorem q177_ok : rf_chkB q177_P q177_U wLay q177_M ddX8_addEntry [] [] [0] 600 q177_N = true := by decide +kernel
set_option maxHeartbeats 4000000 in
theorem q177_met {G : rfG} (h : okG G) (hh : wHandOK G) : rf_met G q177_M := rf_methodB h.1 (P := q177_P) (U := q177_U) (N := q177_N) ⟨wflT h flokX8, wcsT h csokX8, wlcT h lcokX8, spokX8 h, fun _ h => absurd h List.not_mem_nil, fun _ h => absurd h List.not_mem_nil, fun _ h => absurd h List.not_mem_nil, fun _ h => absurd h List.not_mem_nil, fun _ h => absurd h List.not_mem_nil⟩ dkX8_addEntry (by decide +kernel) (by rw [h.2.2.1]; exact q177_ok)
/-- NearSpell.Archive.keepAct -/
def q178_M : rfM := ((⟨"NearSpell$Archive", "keepAct", "(LNearSpell$State;)V"⟩, prog_2_method_3_code, 2, none), (2,41), ([.inr (.inl [16]),.inr (.inl [13])],[]), [(14,0),(16,4),(16,5),(16,6)], [(none,[],[((16,4),(1,40,1),none),((16,5),(0,0,0),none)])])
def ddX0_keepAct : List (Nat × Instr × Nat) := [(0,.aload_n 0,1),(1,.iconst 0,1),(2,.putfield 30,3),(5,.aload_n 0,1),(6,.getfield 27,3),(9,.bipush 40,2),(11,.if_icmp .ge 16,3),(14,.aload_n 0,1),(15,.dup,1),(16,.getfield 27,3),(19,.iconst 1,1),(20,.iadd,1),(21,.putfield 27,3),(24,.goto 16,3),(27,.aload_n 0,1),(28,.aload_n 0,1),(29,.getfield 24,3),(32,.iconst 1,1),(33,.iadd,1),(34,.bipush 41,2),(36,.irem,1),(37,.putfield 24,3),(40,.aload_n 0,1),(41,.aload_n 1,1),(42,.invokevirtual 33,3),(45,.return_,1)]
set_option maxRecDepth 100000 in
theorem dkX0_keepAct : rf_decs prog_2_method_3_code ddX0_keepAct := rf_decs_of (by decide +kernel)
def q178_P : rfP := (flX0,csX0,lcX0,spX0,[q92_M],[],[(33,0,0)],([],[]))
def q178_U : rfU := []
set_option maxHeartbeats 8000000 in
def q178_N : List rfB := [(0,([(0,.inr (.inl [16])),(1,.inr (.inl [13]))],[],[]),(25,[]),0),
  (40,([(0,.inr (.inl [16])),(1,.inr (.inl [13]))],[],[((16,4),(1,40,1),none),((16,5),(0,0,0),none)]),(3,[]),0)]
set_option maxRecDepth 100000 in
theorem q178_ok : rf_chkB q178_P q178_U wLay q178_M ddX0_keepAct [(42,[0])] [] [0,40] 600 q178_N = true := by decide +kernel
set_option maxHeartbeats 4000000 in
theorem q178_met {G : rfG} (h : okG G) (hh : wHandOK G) : rf_met G q178_M := rf_methodB h.1 (P := q178_P) (U := q178_U) (N := q178_N) ⟨wflT h flokX0, wcsT h csokX0, wlcT h lcokX0, spokX0 h, List.forall_mem_cons.mpr ⟨q92_met h hh, fun _ h => absurd h List.not_mem_nil⟩, fun _ h => absurd h List.not_mem_nil, List.forall_mem_cons.mpr ⟨fun M hM => Option.some.inj (show some q92_M = some M from hM) ▸ wlkV (lkX0_33 h) q92_M rfl rfl, fun _ h => absurd h List.not_mem_nil⟩, fun _ h => absurd h List.not_mem_nil, fun _ h => absurd h List.not_mem_nil⟩ dkX0_keepAct (by decide +kernel) (by rw [h.2.2.1]; exact q178_ok)
/-- NearSpell.learn -/
def q179_M : rfM := ((⟨"NearSpell", "learn", "(II)I"⟩, prog_1_method_7_code, 4, (some .int)), (3,62), ([.inr (.inl [70]),.inl (((-2147483648),2147483647,1),none),.inl (((-2147483648),2147483647,1),none)],[]), [(12,0),(14,0),(16,4),(16,5),(16,6)], [(some (.inl (((-1),13,1),none)),[],[])])
def ddX11_learn : List (Nat × Instr × Nat) := [(0,.iload_n 1,1),(1,.invokestatic 163,3),(4,.ifCond .eq 14,3),(7,.iload_n 2,1),(8,.ifCond .lt 10,3),(11,.iload_n 2,1),(12,.sipush 999,3),(15,.if_icmp .le 5,3),(18,.iconst (-1),1),(19,.ireturn,1),(20,.aload_n 0,1),(21,.getfield 35,3),(24,.iload_n 1,1),(25,.invokevirtual 166,3),(28,.iconst (-1),1),(29,.if_icmp .ne 15,3),(32,.aload_n 0,1),(33,.getfield 35,3),(36,.invokevirtual 169,3),(39,.bipush 14,2),(41,.if_icmp .lt 5,3),(44,.iconst (-1),1),(45,.ireturn,1),(46,.aload_n 0,1),(47,.getfield 35,3),(50,.iload_n 1,1),(51,.iload_n 2,1),(52,.invokevirtual 173,3),(55,.istore_n 3,1),(56,.aload_n 0,1),(57,.getfield 42,3),(60,.aload_n 0,1),(61,.getfield 35,3),(64,.invokevirtual 177,3),(67,.iload_n 3,1),(68,.ireturn,1)]
set_option maxRecDepth 100000 in
theorem dkX11_learn : rf_decs prog_1_method_7_code ddX11_learn := rf_decs_of (by decide +kernel)
def q179_P : rfP := (flX11,csX11,lcX11,spX11,[q159_M,q175_M,q176_M,q177_M,q178_M],[(163,0)],[(166,1,8),(169,2,8),(173,3,8),(177,4,0)],([],[]))
def q179_U : rfU := []
set_option maxHeartbeats 8000000 in
def q179_N : List rfB := [(0,([(0,.inr (.inl [70])),(1,.inl (((-2147483648),2147483647,1),none)),(2,.inl (((-2147483648),2147483647,1),none))],[],[]),(36,[]),0),
  (18,([(0,.inr (.inl [70])),(1,.inl (((-2147483648),2147483647,1),none)),(2,.inl (((-2147483648),2147483647,1),none))],[],[]),(1,[]),0),
  (44,([(0,.inr (.inl [70])),(1,.inl ((0,387420488,1),none)),(2,.inl ((0,999,1),none))],[],[]),(4,[]),0)]
set_option maxRecDepth 100000 in
theorem q179_ok : rf_chkB q179_P q179_U wLay q179_M ddX11_learn [(1,[0]),(25,[1]),(36,[2]),(52,[3]),(64,[4])] [] [0,18,44] 600 q179_N = true := by decide +kernel
set_option maxHeartbeats 4000000 in
theorem q179_met {G : rfG} (h : okG G) (hh : wHandOK G) : rf_met G q179_M := rf_methodB h.1 (P := q179_P) (U := q179_U) (N := q179_N) ⟨wflT h flokX11, wcsT h csokX11, wlcT h lcokX11, spokX11 h, List.forall_mem_cons.mpr ⟨q159_met h hh, List.forall_mem_cons.mpr ⟨q175_met h hh, List.forall_mem_cons.mpr ⟨q176_met h hh, List.forall_mem_cons.mpr ⟨q177_met h hh, List.forall_mem_cons.mpr ⟨q178_met h hh, fun _ h => absurd h List.not_mem_nil⟩⟩⟩⟩⟩, List.forall_mem_cons.mpr ⟨fun M hM => Option.some.inj (show some q159_M = some M from hM) ▸ wlkS (lkX11_163 h) q159_M rfl rfl, fun _ h => absurd h List.not_mem_nil⟩, List.forall_mem_cons.mpr ⟨fun M hM => Option.some.inj (show some q175_M = some M from hM) ▸ wlkV (lkX11_166 h) q175_M rfl rfl, List.forall_mem_cons.mpr ⟨fun M hM => Option.some.inj (show some q176_M = some M from hM) ▸ wlkV (lkX11_169 h) q176_M rfl rfl, List.forall_mem_cons.mpr ⟨fun M hM => Option.some.inj (show some q177_M = some M from hM) ▸ wlkV (lkX11_173 h) q177_M rfl rfl, List.forall_mem_cons.mpr ⟨fun M hM => Option.some.inj (show some q178_M = some M from hM) ▸ wlkV (lkX11_177 h) q178_M rfl rfl, fun _ h => absurd h List.not_mem_nil⟩⟩⟩⟩, fun _ h => absurd h List.not_mem_nil, fun _ h => absurd h List.not_mem_nil⟩ dkX11_learn (by decide +kernel) (by rw [h.2.2.1]; exact q179_ok)
/-- NearSpell.State.dropEntry -/
def q180_M : rfM := ((⟨"NearSpell$State", "dropEntry", "(I)V"⟩, prog_10_method_13_code, 2, none), (1,21), ([.inr (.inl [13]),.inl ((0,13,1),none)],[]), [(12,0)], [(none,[],[])])
def ddX8_dropEntry : List (Nat × Instr × Nat) := [(0,.aload_n 0,1),(1,.iload_n 1,1),(2,.invokevirtual 34,3),(5,.ifCond .eq 13,3),(8,.aload_n 0,1),(9,.getfield 11,3),(12,.bipush 14,2),(14,.iload_n 1,1),(15,.iadd,1),(16,.iconst (-1),1),(17,.iastore,1),(18,.return_,1)]
set_option maxRecDepth 100000 in
theorem dkX8_dropEntry : rf_decs prog_10_method_13_code ddX8_dropEntry := rf_decs_of (by decide +kernel)
def q180_P : rfP := (flX8,csX8,lcX8,spX8,[q174_M],[],[(34,0,8)],([],[]))
def q180_U : rfU := []
set_option maxHeartbeats 8000000 in
def q180_N : List rfB := [(0,([(0,.inr (.inl [13])),(1,.inl ((0,13,1),none))],[],[]),(12,[]),0),
  (18,([(0,.inr (.inl [13])),(1,.inl ((0,13,1),none))],[],[]),(0,[]),0)]
set_option maxRecDepth 100000 in
theorem q180_ok : rf_chkB q180_P q180_U wLay q180_M ddX8_dropEntry [(2,[0])] [] [0,18] 600 q180_N = true := by decide +kernel
set_option maxHeartbeats 4000000 in
theorem q180_met {G : rfG} (h : okG G) (hh : wHandOK G) : rf_met G q180_M := rf_methodB h.1 (P := q180_P) (U := q180_U) (N := q180_N) ⟨wflT h flokX8, wcsT h csokX8, wlcT h lcokX8, spokX8 h, List.forall_mem_cons.mpr ⟨q174_met h hh, fun _ h => absurd h List.not_mem_nil⟩, fun _ h => absurd h List.not_mem_nil, List.forall_mem_cons.mpr ⟨fun M hM => Option.some.inj (show some q174_M = some M from hM) ▸ wlkV (lkX8_34 h) q174_M rfl rfl, fun _ h => absurd h List.not_mem_nil⟩, fun _ h => absurd h List.not_mem_nil, fun _ h => absurd h List.not_mem_nil⟩ dkX8_dropEntry (by decide +kernel) (by rw [h.2.2.1]; exact q180_ok)
/-- NearSpell.State.entries -/
def q181_M : rfM := ((⟨"NearSpell$State", "entries", "()I"⟩, prog_10_method_10_code, 3, (some .int)), (1,21), ([.inr (.inl [13])],[]), [], [(some (.inl (((-2147483648),2147483647,1),none)),[],[])])
def ddX8_entries : List (Nat × Instr × Nat) := [(0,.iconst 0,1),(1,.istore_n 1,1),(2,.iconst 0,1),(3,.istore_n 2,1),(4,.iload_n 2,1),(5,.aload_n 0,1),(6,.getfield 11,3),(9,.bipush 34,2),(11,.iaload,1),(12,.if_icmp .ge 20,3),(15,.aload_n 0,1),(16,.iload_n 2,1),(17,.invokevirtual 34,3),(20,.ifCond .eq 6,3),(23,.iinc 1 1,3),(26,.iinc 2 1,3),(29,.goto (-25),3),(32,.iload_n 1,1),(33,.ireturn,1)]
set_option maxRecDepth 100000 in
theorem dkX8_entries : rf_decs prog_10_method_10_code ddX8_entries := rf_decs_of (by decide +kernel)
def q181_P : rfP := (flX8,csX8,lcX8,spX8,[q174_M],[],[(34,0,8)],([],[]))
def q181_U : rfU := []
set_option maxHeartbeats 8000000 in
def q181_N : List rfB := [(0,([(0,.inr (.inl [13]))],[],[]),(230,[0]),0),
  (4,([(0,.inr (.inl [13])),(1,.inl (((-2147483648),2147483647,1),none)),(2,.inl ((0,14,1),none))],[],[]),(224,[(-15)]),0),
  (26,([(0,.inr (.inl [13])),(1,.inl (((-2147483648),2147483647,1),none)),(2,.inl ((0,13,1),none))],[],[((12,34),(1,14,1),none)]),(212,[(-15)]),0)]
set_option maxRecDepth 100000 in
theorem q181_ok : rf_chkB q181_P q181_U wLay q181_M ddX8_entries [(17,[0])] [.inl 2] [0,4,26] 600 q181_N = true := by decide +kernel
set_option maxHeartbeats 4000000 in
theorem q181_met {G : rfG} (h : okG G) (hh : wHandOK G) : rf_met G q181_M := rf_methodB h.1 (P := q181_P) (U := q181_U) (N := q181_N) ⟨wflT h flokX8, wcsT h csokX8, wlcT h lcokX8, spokX8 h, List.forall_mem_cons.mpr ⟨q174_met h hh, fun _ h => absurd h List.not_mem_nil⟩, fun _ h => absurd h List.not_mem_nil, List.forall_mem_cons.mpr ⟨fun M hM => Option.some.inj (show some q174_M = some M from hM) ▸ wlkV (lkX8_34 h) q174_M rfl rfl, fun _ h => absurd h List.not_mem_nil⟩, fun _ h => absurd h List.not_mem_nil, fun _ h => absurd h List.not_mem_nil⟩ dkX8_entries (by decide +kernel) (by rw [h.2.2.1]; exact q181_ok)
/-- NearSpell.forget -/
def q182_M : rfM := ((⟨"NearSpell", "forget", "(I)I"⟩, prog_1_method_8_code, 2, (some .int)), (3,62), ([.inr (.inl [70]),.inl (((-2147483648),2147483647,1),none)],[]), [(12,0),(14,0),(16,4),(16,5),(16,6)], [(some (.inl (((-2147483648),2147483647,1),none)),[],[])])
def ddX11_forget : List (Nat × Instr × Nat) := [(0,.aload_n 0,1),(1,.getfield 35,3),(4,.iload_n 1,1),(5,.invokevirtual 141,3),(8,.ifCond .ne 5,3),(11,.iconst (-1),1),(12,.ireturn,1),(13,.aload_n 0,1),(14,.getfield 35,3),(17,.iload_n 1,1),(18,.invokevirtual 180,3),(21,.aload_n 0,1),(22,.getfield 42,3),(25,.aload_n 0,1),(26,.getfield 35,3),(29,.invokevirtual 177,3),(32,.aload_n 0,1),(33,.getfield 35,3),(36,.invokevirtual 183,3),(39,.ireturn,1)]
set_option maxRecDepth 100000 in
theorem dkX11_forget : rf_decs prog_1_method_8_code ddX11_forget := rf_decs_of (by decide +kernel)
def q182_P : rfP := (flX11,csX11,lcX11,spX11,[q98_M,q180_M,q178_M,q181_M],[],[(141,0,8),(177,2,0),(180,1,8),(183,3,8)],([],[]))
def q182_U : rfU := []
set_option maxHeartbeats 8000000 in
def q182_N : List rfB := [(0,([(0,.inr (.inl [70])),(1,.inl (((-2147483648),2147483647,1),none))],[],[]),(20,[]),0)]
set_option maxRecDepth 100000 in
theorem q182_ok : rf_chkB q182_P q182_U wLay q182_M ddX11_forget [(5,[0]),(18,[1]),(29,[2]),(36,[3])] [] [0] 600 q182_N = true := by decide +kernel
set_option maxHeartbeats 4000000 in
theorem q182_met {G : rfG} (h : okG G) (hh : wHandOK G) : rf_met G q182_M := rf_methodB h.1 (P := q182_P) (U := q182_U) (N := q182_N) ⟨wflT h flokX11, wcsT h csokX11, wlcT h lcokX11, spokX11 h, List.forall_mem_cons.mpr ⟨q98_met h hh, List.forall_mem_cons.mpr ⟨q180_met h hh, List.forall_mem_cons.mpr ⟨q178_met h hh, List.forall_mem_cons.mpr ⟨q181_met h hh, fun _ h => absurd h List.not_mem_nil⟩⟩⟩⟩, fun _ h => absurd h List.not_mem_nil, List.forall_mem_cons.mpr ⟨fun M hM => Option.some.inj (show some q98_M = some M from hM) ▸ wlkV (lkX11_141 h) q98_M rfl rfl, List.forall_mem_cons.mpr ⟨fun M hM => Option.some.inj (show some q178_M = some M from hM) ▸ wlkV (lkX11_177 h) q178_M rfl rfl, List.forall_mem_cons.mpr ⟨fun M hM => Option.some.inj (show some q180_M = some M from hM) ▸ wlkV (lkX11_180 h) q180_M rfl rfl, List.forall_mem_cons.mpr ⟨fun M hM => Option.some.inj (show some q181_M = some M from hM) ▸ wlkV (lkX11_183 h) q181_M rfl rfl, fun _ h => absurd h List.not_mem_nil⟩⟩⟩⟩, fun _ h => absurd h List.not_mem_nil, fun _ h => absurd h List.not_mem_nil⟩ dkX11_forget (by decide +kernel) (by rw [h.2.2.1]; exact q182_ok)
/-- NearSpell.State.useOnce -/
def q183_M : rfM := ((⟨"NearSpell$State", "useOnce", "(I)V"⟩, prog_10_method_14_code, 2, none), (1,21), ([.inr (.inl [13]),.inl ((0,13,1),none)],[]), [(12,0)], [(none,[],[])])
def ddX8_useOnce : List (Nat × Instr × Nat) := [(0,.aload_n 0,1),(1,.iload_n 1,1),(2,.invokevirtual 34,3),(5,.ifCond .eq 16,3),(8,.aload_n 0,1),(9,.getfield 11,3),(12,.bipush 14,2),(14,.iload_n 1,1),(15,.iadd,1),(16,.dup2,1),(17,.iaload,1),(18,.iconst 1,1),(19,.iadd,1),(20,.iastore,1),(21,.return_,1)]
set_option maxRecDepth 100000 in
theorem dkX8_useOnce : rf_decs prog_10_method_14_code ddX8_useOnce := rf_decs_of (by decide +kernel)
def q183_P : rfP := (flX8,csX8,lcX8,spX8,[q174_M],[],[(34,0,8)],([],[]))
def q183_U : rfU := []
set_option maxHeartbeats 8000000 in
def q183_N : List rfB := [(0,([(0,.inr (.inl [13])),(1,.inl ((0,13,1),none))],[],[]),(15,[]),0),
  (21,([(0,.inr (.inl [13])),(1,.inl ((0,13,1),none))],[],[]),(0,[]),0)]
set_option maxRecDepth 100000 in
theorem q183_ok : rf_chkB q183_P q183_U wLay q183_M ddX8_useOnce [(2,[0])] [] [0,21] 600 q183_N = true := by decide +kernel
set_option maxHeartbeats 4000000 in
theorem q183_met {G : rfG} (h : okG G) (hh : wHandOK G) : rf_met G q183_M := rf_methodB h.1 (P := q183_P) (U := q183_U) (N := q183_N) ⟨wflT h flokX8, wcsT h csokX8, wlcT h lcokX8, spokX8 h, List.forall_mem_cons.mpr ⟨q174_met h hh, fun _ h => absurd h List.not_mem_nil⟩, fun _ h => absurd h List.not_mem_nil, List.forall_mem_cons.mpr ⟨fun M hM => Option.some.inj (show some q174_M = some M from hM) ▸ wlkV (lkX8_34 h) q174_M rfl rfl, fun _ h => absurd h List.not_mem_nil⟩, fun _ h => absurd h List.not_mem_nil, fun _ h => absurd h List.not_mem_nil⟩ dkX8_useOnce (by decide +kernel) (by rw [h.2.2.1]; exact q183_ok)
/-- NearSpell.use -/
def q184_M : rfM := ((⟨"NearSpell", "use", "(I)I"⟩, prog_1_method_9_code, 2, (some .int)), (3,62), ([.inr (.inl [70]),.inl (((-2147483648),2147483647,1),none)],[]), [(12,0),(14,0),(16,4),(16,5),(16,6)], [(some (.inl (((-2147483648),2147483647,1),none)),[],[])])
def ddX11_use : List (Nat × Instr × Nat) := [(0,.aload_n 0,1),(1,.getfield 35,3),(4,.iload_n 1,1),(5,.invokevirtual 141,3),(8,.ifCond .eq 17,3),(11,.aload_n 0,1),(12,.getfield 35,3),(15,.iload_n 1,1),(16,.invokevirtual 151,3),(19,.sipush 999,3),(22,.if_icmp .lt 5,3),(25,.iconst (-1),1),(26,.ireturn,1),(27,.aload_n 0,1),(28,.getfield 35,3),(31,.iload_n 1,1),(32,.invokevirtual 186,3),(35,.aload_n 0,1),(36,.getfield 42,3),(39,.aload_n 0,1),(40,.getfield 35,3),(43,.invokevirtual 177,3),(46,.aload_n 0,1),(47,.getfield 35,3),(50,.iload_n 1,1),(51,.invokevirtual 151,3),(54,.ireturn,1)]
set_option maxRecDepth 100000 in
theorem dkX11_use : rf_decs prog_1_method_9_code ddX11_use := rf_decs_of (by decide +kernel)
def q184_P : rfP := (flX11,csX11,lcX11,spX11,[q98_M,q101_M,q183_M,q178_M],[],[(141,0,8),(151,1,8),(177,3,0),(186,2,8)],([],[]))
def q184_U : rfU := []
set_option maxHeartbeats 8000000 in
def q184_N : List rfB := [(0,([(0,.inr (.inl [70])),(1,.inl (((-2147483648),2147483647,1),none))],[],[]),(27,[]),0),
  (25,([(0,.inr (.inl [70])),(1,.inl (((-2147483648),2147483647,1),none))],[],[]),(15,[]),0)]
set_option maxRecDepth 100000 in
theorem q184_ok : rf_chkB q184_P q184_U wLay q184_M ddX11_use [(5,[0]),(16,[1]),(32,[2]),(43,[3]),(51,[1])] [] [0,25] 600 q184_N = true := by decide +kernel
set_option maxHeartbeats 4000000 in
theorem q184_met {G : rfG} (h : okG G) (hh : wHandOK G) : rf_met G q184_M := rf_methodB h.1 (P := q184_P) (U := q184_U) (N := q184_N) ⟨wflT h flokX11, wcsT h csokX11, wlcT h lcokX11, spokX11 h, List.forall_mem_cons.mpr ⟨q98_met h hh, List.forall_mem_cons.mpr ⟨q101_met h hh, List.forall_mem_cons.mpr ⟨q183_met h hh, List.forall_mem_cons.mpr ⟨q178_met h hh, fun _ h => absurd h List.not_mem_nil⟩⟩⟩⟩, fun _ h => absurd h List.not_mem_nil, List.forall_mem_cons.mpr ⟨fun M hM => Option.some.inj (show some q98_M = some M from hM) ▸ wlkV (lkX11_141 h) q98_M rfl rfl, List.forall_mem_cons.mpr ⟨fun M hM => Option.some.inj (show some q101_M = some M from hM) ▸ wlkV (lkX11_151 h) q101_M rfl rfl, List.forall_mem_cons.mpr ⟨fun M hM => Option.some.inj (show some q178_M = some M from hM) ▸ wlkV (lkX11_177 h) q178_M rfl rfl, List.forall_mem_cons.mpr ⟨fun M hM => Option.some.inj (show some q183_M = some M from hM) ▸ wlkV (lkX11_186 h) q183_M rfl rfl, fun _ h => absurd h List.not_mem_nil⟩⟩⟩⟩, fun _ h => absurd h List.not_mem_nil, fun _ h => absurd h List.not_mem_nil⟩ dkX11_use (by decide +kernel) (by rw [h.2.2.1]; exact q184_ok)
/-- NearSpell.State.phraseSize -/
def q185_M : rfM := ((⟨"NearSpell$State", "phraseSize", "()I"⟩, prog_10_method_4_code, 1, (some .int)), (0,0), ([.inr (.inl [13])],[]), [], [(some (.inl ((0,6,1),none)),[],[])])
def ddX8_phraseSize : List (Nat × Instr × Nat) := [(0,.aload_n 0,1),(1,.getfield 11,3),(4,.bipush 35,2),(6,.iaload,1),(7,.ireturn,1)]
set_option maxRecDepth 100000 in
theorem dkX8_phraseSize : rf_decs prog_10_method_4_code ddX8_phraseSize := rf_decs_of (by decide +kernel)
def q185_P : rfP := (flX8,csX8,lcX8,spX8,[],[],[],([],[]))
def q185_U : rfU := []
set_option maxHeartbeats 8000000 in
def q185_N : List rfB := [(0,([(0,.inr (.inl [13]))],[],[]),(4,[]),0)]
set_option maxRecDepth 100000 in
theorem q185_ok : rf_chkB q185_P q185_U wLay q185_M ddX8_phraseSize [] [] [0] 600 q185_N = true := by decide +kernel
set_option maxHeartbeats 4000000 in
theorem q185_met {G : rfG} (h : okG G) (hh : wHandOK G) : rf_met G q185_M := rf_methodB h.1 (P := q185_P) (U := q185_U) (N := q185_N) ⟨wflT h flokX8, wcsT h csokX8, wlcT h lcokX8, spokX8 h, fun _ h => absurd h List.not_mem_nil, fun _ h => absurd h List.not_mem_nil, fun _ h => absurd h List.not_mem_nil, fun _ h => absurd h List.not_mem_nil, fun _ h => absurd h List.not_mem_nil⟩ dkX8_phraseSize (by decide +kernel) (by rw [h.2.2.1]; exact q185_ok)
/-- NearSpell.State.addTyped -/
def q186_M : rfM := ((⟨"NearSpell$State", "addTyped", "(II)I"⟩, prog_10_method_15_code, 4, (some .int)), (0,0), ([.inr (.inl [13]),.inl ((0,387420488,1),none),.inl ((0,100,1),none)],[]), [(12,0)], [(some (.inl ((0,387420488,1),none)),[],[((12,35),(1,6,1),none),((12,36),((-999),999,1),none)])])
def ddX8_addTyped : List (Nat × Instr × Nat) := [(0,.aload_n 0,1),(1,.getfield 11,3),(4,.bipush 36,2),(6,.aload_n 0,1),(7,.getfield 11,3),(10,.bipush 36,2),(12,.iaload,1),(13,.sipush 137,3),(16,.imul,1),(17,.bipush 71,2),(19,.iadd,1),(20,.sipush 1000,3),(23,.irem,1),(24,.iastore,1),(25,.aload_n 0,1),(26,.getfield 11,3),(29,.bipush 36,2),(31,.iaload,1),(32,.bipush 100,2),(34,.irem,1),(35,.iload_n 2,1),(36,.if_icmp .ge 10,3),(39,.iload_n 1,1),(40,.bipush 27,2),(42,.idiv,1),(43,.goto 4,3),(46,.iload_n 1,1),(47,.istore_n 3,1),(48,.aload_n 0,1),(49,.getfield 11,3),(52,.bipush 35,2),(54,.iaload,1),(55,.bipush 6,2),(57,.if_icmp .ge 30,3),(60,.aload_n 0,1),(61,.getfield 11,3),(64,.bipush 28,2),(66,.aload_n 0,1),(67,.getfield 11,3),(70,.bipush 35,2),(72,.iaload,1),(73,.iadd,1),(74,.iload_n 3,1),(75,.iastore,1),(76,.aload_n 0,1),(77,.getfield 11,3),(80,.bipush 35,2),(82,.dup2,1),(83,.iaload,1),(84,.iconst 1,1),(85,.iadd,1),(86,.iastore,1),(87,.iload_n 3,1),(88,.ireturn,1)]
set_option maxRecDepth 100000 in
theorem dkX8_addTyped : rf_decs prog_10_method_15_code ddX8_addTyped := rf_decs_of (by decide +kernel)
def q186_P : rfP := (flX8,csX8,lcX8,spX8,[],[],[],([],[]))
def q186_U : rfU := []
set_option maxHeartbeats 8000000 in
def q186_N : List rfB := [(0,([(0,.inr (.inl [13])),(1,.inl ((0,387420488,1),none)),(2,.inl ((0,100,1),none))],[],[]),(53,[]),0),
  (47,([(0,.inr (.inl [13])),(1,.inl ((0,387420488,1),none)),(2,.inl ((0,100,1),none))],[.inl ((0,387420488,1),none)],[((12,36),((-999),999,1),none)]),(26,[]),0),
  (87,([(0,.inr (.inl [13])),(1,.inl ((0,387420488,1),none)),(2,.inl ((0,100,1),none)),(3,.inl ((0,387420488,1),none))],[],[((12,35),(1,6,1),none),((12,36),((-999),999,1),none)]),(1,[]),0)]
set_option maxRecDepth 100000 in
theorem q186_ok : rf_chkB q186_P q186_U wLay q186_M ddX8_addTyped [] [] [0,47,87] 600 q186_N = true := by decide +kernel
set_option maxHeartbeats 4000000 in
theorem q186_met {G : rfG} (h : okG G) (hh : wHandOK G) : rf_met G q186_M := rf_methodB h.1 (P := q186_P) (U := q186_U) (N := q186_N) ⟨wflT h flokX8, wcsT h csokX8, wlcT h lcokX8, spokX8 h, fun _ h => absurd h List.not_mem_nil, fun _ h => absurd h List.not_mem_nil, fun _ h => absurd h List.not_mem_nil, fun _ h => absurd h List.not_mem_nil, fun _ h => absurd h List.not_mem_nil⟩ dkX8_addTyped (by decide +kernel) (by rw [h.2.2.1]; exact q186_ok)
/-- NearSpell.lengthOf -/
def q187_M : rfM := ((⟨"NearSpell", "lengthOf", "(I)I"⟩, prog_1_method_53_code, 2, (some .int)), (0,0), ([.inl ((0,387420488,1),none)],[]), [], [(some (.inl ((0,6,1),none)),[],[])])
def q187_P : rfP := (flX11,csX11,lcX11,spX11,[],[],[],([],[]))
def q187_U : rfU := []
set_option maxHeartbeats 8000000 in
def q187_N : List rfB := [(0,([(0,.inl ((0,387420488,1),none))],[],[]),(80,[0]),0),
  (2,([(0,.inl ((0,387420488,1),none)),(1,.inl ((0,6,1),none))],[],[]),(76,[(-11)]),0),
  (23,([(0,.inl ((0,387420488,1),none)),(1,.inl ((0,6,1),none))],[],[]),(1,[0]),0)]
set_option maxRecDepth 100000 in
theorem q187_ok : rf_chkB q187_P q187_U wLay q187_M ddX11_lengthOf [] [.inl 1] [0,2,23] 600 q187_N = true := by decide +kernel
set_option maxHeartbeats 4000000 in
theorem q187_met {G : rfG} (h : okG G) (hh : wHandOK G) : rf_met G q187_M := rf_methodB h.1 (P := q187_P) (U := q187_U) (N := q187_N) ⟨wflT h flokX11, wcsT h csokX11, wlcT h lcokX11, spokX11 h, fun _ h => absurd h List.not_mem_nil, fun _ h => absurd h List.not_mem_nil, fun _ h => absurd h List.not_mem_nil, fun _ h => absurd h List.not_mem_nil, fun _ h => absurd h List.not_mem_nil⟩ dkX11_lengthOf (by decide +kernel) (by rw [h.2.2.1]; exact q187_ok)
/-- NearSpell.Ruler.putLetters -/
def q188_M : rfM := ((⟨"NearSpell$Ruler", "putLetters", "(I[II)I"⟩, prog_9_method_8_code, 6, (some .int)), (1,21), ([.inl ((0,387420488,1),none),.inr (.inl [17]),.inl ((0,0,0),none)],[]), [(17,0)], [(some (.inl ((0,6,1),none)),[],[])])
def ddX7_putLetters : List (Nat × Instr × Nat) := [(0,.iload_n 2,1),(1,.iload_n 0,1),(2,.invokestatic 55,3),(5,.iadd,1),(6,.istore_n 3,1),(7,.iload_n 3,1),(8,.aload_n 1,1),(9,.arraylength,1),(10,.if_icmp .le 5,3),(13,.iload_n 2,1),(14,.ireturn,1),(15,.iload_n 0,1),(16,.istore 4,2),(18,.iload_n 3,1),(19,.iconst 1,1),(20,.isub,1),(21,.istore 5,2),(23,.iload 5,2),(25,.iload_n 2,1),(26,.if_icmp .lt 25,3),(29,.aload_n 1,1),(30,.iload 5,2),(32,.iload 4,2),(34,.bipush 27,2),(36,.irem,1),(37,.iastore,1),(38,.iload 4,2),(40,.bipush 27,2),(42,.idiv,1),(43,.istore 4,2),(45,.iinc 5 (-1),3),(48,.goto (-25),3),(51,.iload_n 3,1),(52,.ireturn,1)]
set_option maxRecDepth 100000 in
theorem dkX7_putLetters : rf_decs prog_9_method_8_code ddX7_putLetters := rf_decs_of (by decide +kernel)
def q188_P : rfP := (flX7,csX7,lcX7,spX7,[q187_M],[(55,0)],[],([],[]))
def q188_U : rfU := []
set_option maxHeartbeats 8000000 in
def q188_N : List rfB := [(0,([(0,.inl ((0,387420488,1),none)),(1,.inr (.inl [17])),(2,.inl ((0,0,0),none))],[],[]),(128,[0]),0),
  (23,([(0,.inl ((0,387420488,1),none)),(1,.inr (.inl [17])),(2,.inl ((0,0,0),none)),(3,.inl ((0,6,1),none)),(4,.inl ((0,387420488,1),none)),(5,.inl (((-1),5,1),none))],[],[]),(31,[16]),0)]
set_option maxRecDepth 100000 in
theorem q188_ok : rf_chkB q188_P q188_U wLay q188_M ddX7_putLetters [(2,[0])] [.inl 5] [0,23] 600 q188_N = true := by decide +kernel
set_option maxHeartbeats 4000000 in
theorem q188_met {G : rfG} (h : okG G) (hh : wHandOK G) : rf_met G q188_M := rf_methodB h.1 (P := q188_P) (U := q188_U) (N := q188_N) ⟨wflT h flokX7, wcsT h csokX7, wlcT h lcokX7, spokX7 h, List.forall_mem_cons.mpr ⟨q187_met h hh, fun _ h => absurd h List.not_mem_nil⟩, List.forall_mem_cons.mpr ⟨fun M hM => Option.some.inj (show some q187_M = some M from hM) ▸ wlkS (lkX7_55 h) q187_M rfl rfl, fun _ h => absurd h List.not_mem_nil⟩, fun _ h => absurd h List.not_mem_nil, fun _ h => absurd h List.not_mem_nil, fun _ h => absurd h List.not_mem_nil⟩ dkX7_putLetters (by decide +kernel) (by rw [h.2.2.1]; exact q188_ok)
/-- NearSpell.Ruler.setText -/
def q189_M : rfM := ((⟨"NearSpell$Ruler", "setText", "(I)V"⟩, prog_9_method_3_code, 2, none), (2,46), ([.inr (.inl [20]),.inl ((0,387420488,1),none)],[]), [(17,0),(20,4),(20,5)], [(none,[],[((20,3),(0,6,1),none),((20,4),(0,0,0),none)])])
def ddX7_setText : List (Nat × Instr × Nat) := [(0,.aload_n 0,1),(1,.iload_n 1,1),(2,.aload_n 0,1),(3,.getfield 11,3),(6,.iconst 0,1),(7,.invokestatic 36,3),(10,.putfield 21,3),(13,.aload_n 0,1),(14,.iconst 0,1),(15,.putfield 25,3),(18,.return_,1)]
set_option maxRecDepth 100000 in
theorem dkX7_setText : rf_decs prog_9_method_3_code ddX7_setText := rf_decs_of (by decide +kernel)
def q189_P : rfP := (flX7,csX7,lcX7,spX7,[q188_M],[(36,0)],[],([],[]))
def q189_U : rfU := []
set_option maxHeartbeats 8000000 in
def q189_N : List rfB := [(0,([(0,.inr (.inl [20])),(1,.inl ((0,387420488,1),none))],[],[]),(10,[]),0)]
set_option maxRecDepth 100000 in
theorem q189_ok : rf_chkB q189_P q189_U wLay q189_M ddX7_setText [(7,[0])] [] [0] 600 q189_N = true := by decide +kernel
set_option maxHeartbeats 4000000 in
theorem q189_met {G : rfG} (h : okG G) (hh : wHandOK G) : rf_met G q189_M := rf_methodB h.1 (P := q189_P) (U := q189_U) (N := q189_N) ⟨wflT h flokX7, wcsT h csokX7, wlcT h lcokX7, spokX7 h, List.forall_mem_cons.mpr ⟨q188_met h hh, fun _ h => absurd h List.not_mem_nil⟩, List.forall_mem_cons.mpr ⟨fun M hM => Option.some.inj (show some q188_M = some M from hM) ▸ wlkS (lkX7_36 h) q188_M rfl rfl, fun _ h => absurd h List.not_mem_nil⟩, fun _ h => absurd h List.not_mem_nil, fun _ h => absurd h List.not_mem_nil, fun _ h => absurd h List.not_mem_nil⟩ dkX7_setText (by decide +kernel) (by rw [h.2.2.1]; exact q189_ok)
/-- NearSpell.Ruler.putLetters -/
def q190_M : rfM := ((⟨"NearSpell$Ruler", "putLetters", "(I[II)I"⟩, prog_9_method_8_code, 6, (some .int)), (1,21), ([.inl (((-2147483648),2147483647,1),none),.inr (.inl [18]),.inl ((0,0,0),none)],[]), [(18,0)], [(some (.inl ((0,6,1),none)),[],[])])
def q190_P : rfP := (flX7,csX7,lcX7,spX7,[q100_M],[(55,0)],[],([],[]))
def q190_U : rfU := []
set_option maxHeartbeats 8000000 in
def q190_N : List rfB := [(0,([(0,.inl (((-2147483648),2147483647,1),none)),(1,.inr (.inl [18])),(2,.inl ((0,0,0),none))],[],[]),(128,[0]),0),
  (23,([(0,.inl (((-2147483648),2147483647,1),none)),(1,.inr (.inl [18])),(2,.inl ((0,0,0),none)),(3,.inl ((0,6,1),none)),(4,.inl (((-2147483648),2147483647,1),none)),(5,.inl (((-1),5,1),none))],[],[]),(31,[16]),0)]
set_option maxRecDepth 100000 in
theorem q190_ok : rf_chkB q190_P q190_U wLay q190_M ddX7_putLetters [(2,[0])] [.inl 5] [0,23] 600 q190_N = true := by decide +kernel
set_option maxHeartbeats 4000000 in
theorem q190_met {G : rfG} (h : okG G) (hh : wHandOK G) : rf_met G q190_M := rf_methodB h.1 (P := q190_P) (U := q190_U) (N := q190_N) ⟨wflT h flokX7, wcsT h csokX7, wlcT h lcokX7, spokX7 h, List.forall_mem_cons.mpr ⟨q100_met h hh, fun _ h => absurd h List.not_mem_nil⟩, List.forall_mem_cons.mpr ⟨fun M hM => Option.some.inj (show some q100_M = some M from hM) ▸ wlkS (lkX7_55 h) q100_M rfl rfl, fun _ h => absurd h List.not_mem_nil⟩, fun _ h => absurd h List.not_mem_nil, fun _ h => absurd h List.not_mem_nil, fun _ h => absurd h List.not_mem_nil⟩ dkX7_putLetters (by decide +kernel) (by rw [h.2.2.1]; exact q190_ok)
/-- NearSpell.Ruler.fillRow -/
def q191_M : rfM := ((⟨"NearSpell$Ruler", "fillRow", "(I)V"⟩, prog_9_method_9_code, 7, none), (1,15), ([.inr (.inl [20]),.inl ((1,1,0),none)],[]), [(19,0)], [(none,[],[((19,13),(1,1,0),none)])])
def ddX7_fillRow : List (Nat × Instr × Nat) := [(0,.iload_n 1,1),(1,.iconst 1,1),(2,.if_icmp .lt 9,3),(5,.iload_n 1,1),(6,.bipush 12,2),(8,.if_icmp .le 4,3),(11,.return_,1),(12,.aload_n 0,1),(13,.getfield 15,3),(16,.iload_n 1,1),(17,.iconst 1,1),(18,.isub,1),(19,.iaload,1),(20,.istore_n 2,1),(21,.iload_n 1,1),(22,.iconst 1,1),(23,.if_icmp .le 14,3),(26,.aload_n 0,1),(27,.getfield 15,3),(30,.iload_n 1,1),(31,.iconst 2,1),(32,.isub,1),(33,.iaload,1),(34,.goto 4,3),(37,.iconst 0,1),(38,.istore_n 3,1),(39,.iload_n 1,1),(40,.bipush 13,2),(42,.imul,1),(43,.istore 4,2),(45,.aload_n 0,1),(46,.getfield 18,3),(49,.iload 4,2),(51,.iload_n 1,1),(52,.iastore,1),(53,.iconst 1,1),(54,.istore 5,2),(56,.iload 5,2),(58,.aload_n 0,1),(59,.getfield 21,3),(62,.if_icmp .gt 137,3),(65,.iinc 4 1,3),(68,.aload_n 0,1),(69,.getfield 18,3),(72,.iload 4,2),(74,.bipush 13,2),(76,.isub,1),(77,.iconst 1,1),(78,.isub,1),(79,.iaload,1),(80,.istore 6,2),(82,.aload_n 0,1),(83,.getfield 11,3),(86,.iload 5,2),(88,.iconst 1,1),(89,.isub,1),(90,.iaload,1),(91,.iload_n 2,1),(92,.if_icmp .eq 92,3),(95,.iconst 1,1),(96,.iload 6,2),(98,.aload_n 0,1),(99,.getfield 18,3),(102,.iload 4,2),(104,.iconst 1,1),(105,.isub,1),(106,.iaload,1),(107,.aload_n 0,1),(108,.getfield 18,3),(111,.iload 4,2),(113,.bipush 13,2),(115,.isub,1),(116,.iaload,1),(117,.invokestatic 44,3),(120,.invokestatic 44,3),(123,.iadd,1),(124,.istore 6,2),(126,.iload_n 1,1),(127,.iconst 1,1),(128,.if_icmp .le 56,3),(131,.iload 5,2),(133,.iconst 1,1),(134,.if_icmp .le 50,3),(137,.aload_n 0,1),(138,.getfield 11,3),(141,.iload 5,2),(143,.iconst 1,1),(144,.isub,1),(145,.iaload,1),(146,.iload_n 3,1),(147,.if_icmp .ne 37,3),(150,.aload_n 0,1),(151,.getfield 11,3),(154,.iload 5,2),(156,.iconst 2,1),(157,.isub,1),(158,.iaload,1),(159,.iload_n 2,1),(160,.if_icmp .ne 24,3),(163,.iload 6,2),(165,.aload_n 0,1),(166,.getfield 18,3),(169,.iload 4,2),(171,.bipush 26,2),(173,.isub,1),(174,.iconst 2,1),(175,.isub,1),(176,.iaload,1),(177,.iconst 1,1),(178,.iadd,1),(179,.invokestatic 44,3),(182,.istore 6,2),(184,.aload_n 0,1),(185,.getfield 18,3),(188,.iload 4,2),(190,.iload 6,2),(192,.iastore,1),(193,.iinc 5 1,3),(196,.goto (-140),3),(199,.return_,1)]
set_option maxRecDepth 100000 in
theorem dkX7_fillRow : rf_decs prog_9_method_9_code ddX7_fillRow := rf_decs_of (by decide +kernel)
def q191_P : rfP := (flX7,csX7,lcX7,spX7,[],[],[],([],[(44,1)]))
def q191_U : rfU := [(.inl 1,[((-2147483648),0),(1,1),(2,12),(13,2147483647)])]
set_option maxHeartbeats 8000000 in
def q191_N : List rfB := [(0,([(0,.inr (.inl [20])),(1,.inl ((1,1,0),none))],[],[]),(645,[]),0),
  (56,([(0,.inr (.inl [20])),(1,.inl ((1,1,0),none)),(2,.inl (((-2147483648),2147483647,1),some (.inr (18,0),some 0))),(3,.inl ((0,0,0),none)),(4,.inl ((13,13,0),none)),(5,.inl ((1,1,0),none))],[],[((19,13),(1,1,0),none)]),(616,[]),0),
  (184,([(0,.inr (.inl [20])),(1,.inl ((1,1,0),none)),(2,.inl (((-2147483648),2147483647,1),some (.inr (18,0),some 0))),(3,.inl ((0,0,0),none)),(4,.inl ((14,14,0),none)),(5,.inl ((1,1,0),none)),(6,.inl (((-2147483648),2147483647,1),none))],[],[((19,13),(1,1,0),none),((20,3),(1,12,1),none)]),(573,[]),0),
  (56,([(0,.inr (.inl [20])),(1,.inl ((1,1,0),none)),(2,.inl (((-2147483648),2147483647,1),some (.inr (18,0),some 0))),(3,.inl ((0,0,0),none)),(4,.inl ((14,14,0),none)),(5,.inl ((2,2,0),none)),(6,.inl (((-2147483648),2147483647,1),none))],[],[((19,13),(1,1,0),none),((19,14),((-2147483648),2147483647,1),none),((20,3),(1,12,1),none)]),(566,[]),0),
  (184,([(0,.inr (.inl [20])),(1,.inl ((1,1,0),none)),(2,.inl (((-2147483648),2147483647,1),some (.inr (18,0),some 0))),(3,.inl ((0,0,0),none)),(4,.inl ((15,15,0),none)),(5,.inl ((2,2,0),none)),(6,.inl (((-2147483648),2147483647,1),none))],[],[((19,13),(1,1,0),none),((20,3),(2,12,1),none)]),(523,[]),0),
  (56,([(0,.inr (.inl [20])),(1,.inl ((1,1,0),none)),(2,.inl (((-2147483648),2147483647,1),some (.inr (18,0),some 0))),(3,.inl ((0,0,0),none)),(4,.inl ((15,15,0),none)),(5,.inl ((3,3,0),none)),(6,.inl (((-2147483648),2147483647,1),none))],[],[((19,13),(1,1,0),none),((19,15),((-2147483648),2147483647,1),none),((20,3),(2,12,1),none)]),(516,[]),0),
  (184,([(0,.inr (.inl [20])),(1,.inl ((1,1,0),none)),(2,.inl (((-2147483648),2147483647,1),some (.inr (18,0),some 0))),(3,.inl ((0,0,0),none)),(4,.inl ((16,16,0),none)),(5,.inl ((3,3,0),none)),(6,.inl (((-2147483648),2147483647,1),none))],[],[((19,13),(1,1,0),none),((20,3),(3,12,1),none)]),(473,[]),0),
  (56,([(0,.inr (.inl [20])),(1,.inl ((1,1,0),none)),(2,.inl (((-2147483648),2147483647,1),some (.inr (18,0),some 0))),(3,.inl ((0,0,0),none)),(4,.inl ((16,16,0),none)),(5,.inl ((4,4,0),none)),(6,.inl (((-2147483648),2147483647,1),none))],[],[((19,13),(1,1,0),none),((19,16),((-2147483648),2147483647,1),none),((20,3),(3,12,1),none)]),(466,[]),0),
  (184,([(0,.inr (.inl [20])),(1,.inl ((1,1,0),none)),(2,.inl (((-2147483648),2147483647,1),some (.inr (18,0),some 0))),(3,.inl ((0,0,0),none)),(4,.inl ((17,17,0),none)),(5,.inl ((4,4,0),none)),(6,.inl (((-2147483648),2147483647,1),none))],[],[((19,13),(1,1,0),none),((20,3),(4,12,1),none)]),(423,[]),0),
  (56,([(0,.inr (.inl [20])),(1,.inl ((1,1,0),none)),(2,.inl (((-2147483648),2147483647,1),some (.inr (18,0),some 0))),(3,.inl ((0,0,0),none)),(4,.inl ((17,17,0),none)),(5,.inl ((5,5,0),none)),(6,.inl (((-2147483648),2147483647,1),none))],[],[((19,13),(1,1,0),none),((19,17),((-2147483648),2147483647,1),none),((20,3),(4,12,1),none)]),(416,[]),0),
  (184,([(0,.inr (.inl [20])),(1,.inl ((1,1,0),none)),(2,.inl (((-2147483648),2147483647,1),some (.inr (18,0),some 0))),(3,.inl ((0,0,0),none)),(4,.inl ((18,18,0),none)),(5,.inl ((5,5,0),none)),(6,.inl (((-2147483648),2147483647,1),none))],[],[((19,13),(1,1,0),none),((20,3),(5,12,1),none)]),(373,[]),0),
  (56,([(0,.inr (.inl [20])),(1,.inl ((1,1,0),none)),(2,.inl (((-2147483648),2147483647,1),some (.inr (18,0),some 0))),(3,.inl ((0,0,0),none)),(4,.inl ((18,18,0),none)),(5,.inl ((6,6,0),none)),(6,.inl (((-2147483648),2147483647,1),none))],[],[((19,13),(1,1,0),none),((19,18),((-2147483648),2147483647,1),none),((20,3),(5,12,1),none)]),(366,[]),0),
  (184,([(0,.inr (.inl [20])),(1,.inl ((1,1,0),none)),(2,.inl (((-2147483648),2147483647,1),some (.inr (18,0),some 0))),(3,.inl ((0,0,0),none)),(4,.inl ((19,19,0),none)),(5,.inl ((6,6,0),none)),(6,.inl (((-2147483648),2147483647,1),none))],[],[((19,13),(1,1,0),none),((20,3),(6,12,1),none)]),(323,[]),0),
  (56,([(0,.inr (.inl [20])),(1,.inl ((1,1,0),none)),(2,.inl (((-2147483648),2147483647,1),some (.inr (18,0),some 0))),(3,.inl ((0,0,0),none)),(4,.inl ((19,19,0),none)),(5,.inl ((7,7,0),none)),(6,.inl (((-2147483648),2147483647,1),none))],[],[((19,13),(1,1,0),none),((19,19),((-2147483648),2147483647,1),none),((20,3),(6,12,1),none)]),(316,[]),0),
  (184,([(0,.inr (.inl [20])),(1,.inl ((1,1,0),none)),(2,.inl (((-2147483648),2147483647,1),some (.inr (18,0),some 0))),(3,.inl ((0,0,0),none)),(4,.inl ((20,20,0),none)),(5,.inl ((7,7,0),none)),(6,.inl (((-2147483648),2147483647,1),none))],[],[((19,13),(1,1,0),none),((20,3),(7,12,1),none)]),(273,[]),0),
  (56,([(0,.inr (.inl [20])),(1,.inl ((1,1,0),none)),(2,.inl (((-2147483648),2147483647,1),some (.inr (18,0),some 0))),(3,.inl ((0,0,0),none)),(4,.inl ((20,20,0),none)),(5,.inl ((8,8,0),none)),(6,.inl (((-2147483648),2147483647,1),none))],[],[((19,13),(1,1,0),none),((19,20),((-2147483648),2147483647,1),none),((20,3),(7,12,1),none)]),(266,[]),0),
  (184,([(0,.inr (.inl [20])),(1,.inl ((1,1,0),none)),(2,.inl (((-2147483648),2147483647,1),some (.inr (18,0),some 0))),(3,.inl ((0,0,0),none)),(4,.inl ((21,21,0),none)),(5,.inl ((8,8,0),none)),(6,.inl (((-2147483648),2147483647,1),none))],[],[((19,13),(1,1,0),none),((20,3),(8,12,1),none)]),(223,[]),0),
  (56,([(0,.inr (.inl [20])),(1,.inl ((1,1,0),none)),(2,.inl (((-2147483648),2147483647,1),some (.inr (18,0),some 0))),(3,.inl ((0,0,0),none)),(4,.inl ((21,21,0),none)),(5,.inl ((9,9,0),none)),(6,.inl (((-2147483648),2147483647,1),none))],[],[((19,13),(1,1,0),none),((19,21),((-2147483648),2147483647,1),none),((20,3),(8,12,1),none)]),(216,[]),0),
  (184,([(0,.inr (.inl [20])),(1,.inl ((1,1,0),none)),(2,.inl (((-2147483648),2147483647,1),some (.inr (18,0),some 0))),(3,.inl ((0,0,0),none)),(4,.inl ((22,22,0),none)),(5,.inl ((9,9,0),none)),(6,.inl (((-2147483648),2147483647,1),none))],[],[((19,13),(1,1,0),none),((20,3),(9,12,1),none)]),(173,[]),0),
  (56,([(0,.inr (.inl [20])),(1,.inl ((1,1,0),none)),(2,.inl (((-2147483648),2147483647,1),some (.inr (18,0),some 0))),(3,.inl ((0,0,0),none)),(4,.inl ((22,22,0),none)),(5,.inl ((10,10,0),none)),(6,.inl (((-2147483648),2147483647,1),none))],[],[((19,13),(1,1,0),none),((19,22),((-2147483648),2147483647,1),none),((20,3),(9,12,1),none)]),(166,[]),0),
  (184,([(0,.inr (.inl [20])),(1,.inl ((1,1,0),none)),(2,.inl (((-2147483648),2147483647,1),some (.inr (18,0),some 0))),(3,.inl ((0,0,0),none)),(4,.inl ((23,23,0),none)),(5,.inl ((10,10,0),none)),(6,.inl (((-2147483648),2147483647,1),none))],[],[((19,13),(1,1,0),none),((20,3),(10,12,1),none)]),(123,[]),0),
  (56,([(0,.inr (.inl [20])),(1,.inl ((1,1,0),none)),(2,.inl (((-2147483648),2147483647,1),some (.inr (18,0),some 0))),(3,.inl ((0,0,0),none)),(4,.inl ((23,23,0),none)),(5,.inl ((11,11,0),none)),(6,.inl (((-2147483648),2147483647,1),none))],[],[((19,13),(1,1,0),none),((19,23),((-2147483648),2147483647,1),none),((20,3),(10,12,1),none)]),(116,[]),0),
  (184,([(0,.inr (.inl [20])),(1,.inl ((1,1,0),none)),(2,.inl (((-2147483648),2147483647,1),some (.inr (18,0),some 0))),(3,.inl ((0,0,0),none)),(4,.inl ((24,24,0),none)),(5,.inl ((11,11,0),none)),(6,.inl (((-2147483648),2147483647,1),none))],[],[((19,13),(1,1,0),none),((20,3),(11,12,1),none)]),(73,[]),0),
  (56,([(0,.inr (.inl [20])),(1,.inl ((1,1,0),none)),(2,.inl (((-2147483648),2147483647,1),some (.inr (18,0),some 0))),(3,.inl ((0,0,0),none)),(4,.inl ((24,24,0),none)),(5,.inl ((12,12,0),none)),(6,.inl (((-2147483648),2147483647,1),none))],[],[((19,13),(1,1,0),none),((19,24),((-2147483648),2147483647,1),none),((20,3),(11,12,1),none)]),(66,[]),0),
  (184,([(0,.inr (.inl [20])),(1,.inl ((1,1,0),none)),(2,.inl (((-2147483648),2147483647,1),some (.inr (18,0),some 0))),(3,.inl ((0,0,0),none)),(4,.inl ((25,25,0),none)),(5,.inl ((12,12,0),none)),(6,.inl (((-2147483648),2147483647,1),none))],[],[((19,13),(1,1,0),none),((20,3),(12,12,1),none)]),(23,[]),0),
  (56,([(0,.inr (.inl [20])),(1,.inl ((1,1,0),none)),(2,.inl (((-2147483648),2147483647,1),some (.inr (18,0),some 0))),(3,.inl ((0,0,0),none)),(4,.inl ((25,25,0),none)),(5,.inl ((13,13,0),none)),(6,.inl (((-2147483648),2147483647,1),none))],[],[((19,13),(1,1,0),none),((19,25),((-2147483648),2147483647,1),none),((20,3),(12,12,1),none)]),(16,[]),0)]
set_option maxRecDepth 100000 in
theorem q191_ok : rf_chkB q191_P q191_U wLay q191_M ddX7_fillRow [] [] [0,56,184] 600 q191_N = true := by decide +kernel
set_option maxHeartbeats 4000000 in
theorem q191_met {G : rfG} (h : okG G) (hh : wHandOK G) : rf_met G q191_M := rf_methodB h.1 (P := q191_P) (U := q191_U) (N := q191_N) ⟨wflT h flokX7, wcsT h csokX7, wlcT h lcokX7, spokX7 h, fun _ h => absurd h List.not_mem_nil, fun _ h => absurd h List.not_mem_nil, fun _ h => absurd h List.not_mem_nil, fun _ h => absurd h List.not_mem_nil, List.forall_mem_cons.mpr ⟨⟨wmT h (wmem (i := 130) (by decide +kernel) (by decide +kernel)), fun h => absurd h (by decide), fun _ => ⟨wmT h (wmem (i := 919) (by decide +kernel) (by decide +kernel)), wmT h (wmem (i := 557) (by decide +kernel) (by decide +kernel)), wmT h (wmem (i := 558) (by decide +kernel) (by decide +kernel))⟩, fun h => absurd h (by decide)⟩, fun _ h => absurd h List.not_mem_nil⟩⟩ dkX7_fillRow (by decide +kernel) (by rw [h.2.2.1]; exact q191_ok)
/-- NearSpell.Ruler.fillRow -/
def q192_M : rfM := ((⟨"NearSpell$Ruler", "fillRow", "(I)V"⟩, prog_9_method_9_code, 7, none), (1,15), ([.inr (.inl [20]),.inl ((1,2,1),none)],[]), [(19,0)], [(none,[],[])])
def q192_P : rfP := (flX7,csX7,lcX7,spX7,[],[],[],([],[(44,1)]))
def q192_U : rfU := [(.inl 1,[((-2147483648),0),(1,1),(2,12),(13,2147483647)])]
set_option maxHeartbeats 8000000 in
def q192_N : List rfB := [(0,([(0,.inr (.inl [20])),(1,.inl ((1,2,1),none))],[],[]),(1653,[]),1000000),
  (56,([(0,.inr (.inl [20])),(1,.inl ((2,2,1),none)),(2,.inl (((-2147483648),2147483647,1),some (.inr (18,1),some 0))),(3,.inl (((-2147483648),2147483647,1),some (.inr (18,0),some 0))),(4,.inl ((26,26,13),none)),(5,.inl ((1,1,0),none))],[],[((19,26),(2,2,1),none)]),(1617,[]),0),
  (56,([(0,.inr (.inl [20])),(1,.inl ((1,1,1),none)),(2,.inl (((-2147483648),2147483647,1),some (.inr (18,0),some 0))),(3,.inl ((0,0,0),none)),(4,.inl ((13,13,13),none)),(5,.inl ((1,1,0),none))],[],[((19,13),(1,1,1),none)]),(616,[]),0),
  (184,([(0,.inr (.inl [20])),(1,.inl ((2,2,1),none)),(2,.inl (((-2147483648),2147483647,1),some (.inr (18,1),some 0))),(3,.inl (((-2147483648),2147483647,1),some (.inr (18,0),some 0))),(4,.inl ((27,27,13),none)),(5,.inl ((1,1,0),none)),(6,.inl (((-2147483648),2147483647,1),none))],[],[((19,26),(2,2,1),none),((20,3),(1,12,1),none)]),(1571,[]),0),
  (184,([(0,.inr (.inl [20])),(1,.inl ((1,1,1),none)),(2,.inl (((-2147483648),2147483647,1),some (.inr (18,0),some 0))),(3,.inl ((0,0,0),none)),(4,.inl ((14,14,13),none)),(5,.inl ((1,1,0),none)),(6,.inl (((-2147483648),2147483647,1),none))],[],[((19,13),(1,1,1),none),((20,3),(1,12,1),none)]),(573,[]),0),
  (56,([(0,.inr (.inl [20])),(1,.inl ((2,2,1),none)),(2,.inl (((-2147483648),2147483647,1),some (.inr (18,1),some 0))),(3,.inl (((-2147483648),2147483647,1),some (.inr (18,0),some 0))),(4,.inl ((27,27,13),none)),(5,.inl ((2,2,0),none)),(6,.inl (((-2147483648),2147483647,1),none))],[],[((19,26),(2,2,1),none),((19,27),((-2147483648),2147483647,1),none),((20,3),(1,12,1),none)]),(1564,[]),0),
  (184,([(0,.inr (.inl [20])),(1,.inl ((2,2,1),none)),(2,.inl (((-2147483648),2147483647,1),some (.inr (18,1),some 0))),(3,.inl (((-2147483648),2147483647,1),some (.inr (18,0),some 0))),(4,.inl ((28,28,13),none)),(5,.inl ((2,2,0),none)),(6,.inl (((-2147483648),2147483647,1),none))],[],[((19,26),(2,2,1),none),((20,3),(2,12,1),none)]),(1489,[]),0),
  (56,([(0,.inr (.inl [20])),(1,.inl ((1,1,1),none)),(2,.inl (((-2147483648),2147483647,1),some (.inr (18,0),some 0))),(3,.inl ((0,0,0),none)),(4,.inl ((14,14,13),none)),(5,.inl ((2,2,0),none)),(6,.inl (((-2147483648),2147483647,1),none))],[],[((19,13),(1,1,1),none),((19,14),((-2147483648),2147483647,1),none),((20,3),(1,12,1),none)]),(566,[]),0),
  (184,([(0,.inr (.inl [20])),(1,.inl ((1,1,1),none)),(2,.inl (((-2147483648),2147483647,1),some (.inr (18,0),some 0))),(3,.inl ((0,0,0),none)),(4,.inl ((15,15,13),none)),(5,.inl ((2,2,0),none)),(6,.inl (((-2147483648),2147483647,1),none))],[],[((19,13),(1,1,1),none),((20,3),(2,12,1),none)]),(523,[]),0),
  (56,([(0,.inr (.inl [20])),(1,.inl ((2,2,1),none)),(2,.inl (((-2147483648),2147483647,1),some (.inr (18,1),some 0))),(3,.inl (((-2147483648),2147483647,1),some (.inr (18,0),some 0))),(4,.inl ((28,28,13),none)),(5,.inl ((3,3,0),none)),(6,.inl (((-2147483648),2147483647,1),none))],[],[((19,26),(2,2,1),none),((19,28),((-2147483648),2147483647,1),none),((20,3),(2,12,1),none)]),(1482,[]),0),
  (184,([(0,.inr (.inl [20])),(1,.inl ((2,2,1),none)),(2,.inl (((-2147483648),2147483647,1),some (.inr (18,1),some 0))),(3,.inl (((-2147483648),2147483647,1),some (.inr (18,0),some 0))),(4,.inl ((29,29,13),none)),(5,.inl ((3,3,0),none)),(6,.inl (((-2147483648),2147483647,1),none))],[],[((19,26),(2,2,1),none),((20,3),(3,12,1),none)]),(1407,[]),0),
  (56,([(0,.inr (.inl [20])),(1,.inl ((1,1,1),none)),(2,.inl (((-2147483648),2147483647,1),some (.inr (18,0),some 0))),(3,.inl ((0,0,0),none)),(4,.inl ((15,15,13),none)),(5,.inl ((3,3,0),none)),(6,.inl (((-2147483648),2147483647,1),none))],[],[((19,13),(1,1,1),none),((19,15),((-2147483648),2147483647,1),none),((20,3),(2,12,1),none)]),(516,[]),0),
  (184,([(0,.inr (.inl [20])),(1,.inl ((1,1,1),none)),(2,.inl (((-2147483648),2147483647,1),some (.inr (18,0),some 0))),(3,.inl ((0,0,0),none)),(4,.inl ((16,16,13),none)),(5,.inl ((3,3,0),none)),(6,.inl (((-2147483648),2147483647,1),none))],[],[((19,13),(1,1,1),none),((20,3),(3,12,1),none)]),(473,[]),0),
  (56,([(0,.inr (.inl [20])),(1,.inl ((2,2,1),none)),(2,.inl (((-2147483648),2147483647,1),some (.inr (18,1),some 0))),(3,.inl (((-2147483648),2147483647,1),some (.inr (18,0),some 0))),(4,.inl ((29,29,13),none)),(5,.inl ((4,4,0),none)),(6,.inl (((-2147483648),2147483647,1),none))],[],[((19,26),(2,2,1),none),((19,29),((-2147483648),2147483647,1),none),((20,3),(3,12,1),none)]),(1400,[]),0),
  (184,([(0,.inr (.inl [20])),(1,.inl ((2,2,1),none)),(2,.inl (((-2147483648),2147483647,1),some (.inr (18,1),some 0))),(3,.inl (((-2147483648),2147483647,1),some (.inr (18,0),some 0))),(4,.inl ((30,30,13),none)),(5,.inl ((4,4,0),none)),(6,.inl (((-2147483648),2147483647,1),none))],[],[((19,26),(2,2,1),none),((20,3),(4,12,1),none)]),(1325,[]),0),
  (56,([(0,.inr (.inl [20])),(1,.inl ((1,1,1),none)),(2,.inl (((-2147483648),2147483647,1),some (.inr (18,0),some 0))),(3,.inl ((0,0,0),none)),(4,.inl ((16,16,13),none)),(5,.inl ((4,4,0),none)),(6,.inl (((-2147483648),2147483647,1),none))],[],[((19,13),(1,1,1),none),((19,16),((-2147483648),2147483647,1),none),((20,3),(3,12,1),none)]),(466,[]),0),
  (184,([(0,.inr (.inl [20])),(1,.inl ((1,1,1),none)),(2,.inl (((-2147483648),2147483647,1),some (.inr (18,0),some 0))),(3,.inl ((0,0,0),none)),(4,.inl ((17,17,13),none)),(5,.inl ((4,4,0),none)),(6,.inl (((-2147483648),2147483647,1),none))],[],[((19,13),(1,1,1),none),((20,3),(4,12,1),none)]),(423,[]),0),
  (56,([(0,.inr (.inl [20])),(1,.inl ((2,2,1),none)),(2,.inl (((-2147483648),2147483647,1),some (.inr (18,1),some 0))),(3,.inl (((-2147483648),2147483647,1),some (.inr (18,0),some 0))),(4,.inl ((30,30,13),none)),(5,.inl ((5,5,0),none)),(6,.inl (((-2147483648),2147483647,1),none))],[],[((19,26),(2,2,1),none),((19,30),((-2147483648),2147483647,1),none),((20,3),(4,12,1),none)]),(1318,[]),0),
  (184,([(0,.inr (.inl [20])),(1,.inl ((2,2,1),none)),(2,.inl (((-2147483648),2147483647,1),some (.inr (18,1),some 0))),(3,.inl (((-2147483648),2147483647,1),some (.inr (18,0),some 0))),(4,.inl ((31,31,13),none)),(5,.inl ((5,5,0),none)),(6,.inl (((-2147483648),2147483647,1),none))],[],[((19,26),(2,2,1),none),((20,3),(5,12,1),none)]),(1243,[]),0),
  (56,([(0,.inr (.inl [20])),(1,.inl ((1,1,1),none)),(2,.inl (((-2147483648),2147483647,1),some (.inr (18,0),some 0))),(3,.inl ((0,0,0),none)),(4,.inl ((17,17,13),none)),(5,.inl ((5,5,0),none)),(6,.inl (((-2147483648),2147483647,1),none))],[],[((19,13),(1,1,1),none),((19,17),((-2147483648),2147483647,1),none),((20,3),(4,12,1),none)]),(416,[]),0),
  (184,([(0,.inr (.inl [20])),(1,.inl ((1,1,1),none)),(2,.inl (((-2147483648),2147483647,1),some (.inr (18,0),some 0))),(3,.inl ((0,0,0),none)),(4,.inl ((18,18,13),none)),(5,.inl ((5,5,0),none)),(6,.inl (((-2147483648),2147483647,1),none))],[],[((19,13),(1,1,1),none),((20,3),(5,12,1),none)]),(373,[]),0),
  (56,([(0,.inr (.inl [20])),(1,.inl ((2,2,1),none)),(2,.inl (((-2147483648),2147483647,1),some (.inr (18,1),some 0))),(3,.inl (((-2147483648),2147483647,1),some (.inr (18,0),some 0))),(4,.inl ((31,31,13),none)),(5,.inl ((6,6,0),none)),(6,.inl (((-2147483648),2147483647,1),none))],[],[((19,26),(2,2,1),none),((19,31),((-2147483648),2147483647,1),none),((20,3),(5,12,1),none)]),(1236,[]),0),
  (184,([(0,.inr (.inl [20])),(1,.inl ((2,2,1),none)),(2,.inl (((-2147483648),2147483647,1),some (.inr (18,1),some 0))),(3,.inl (((-2147483648),2147483647,1),some (.inr (18,0),some 0))),(4,.inl ((32,32,13),none)),(5,.inl ((6,6,0),none)),(6,.inl (((-2147483648),2147483647,1),none))],[],[((19,26),(2,2,1),none),((20,3),(6,12,1),none)]),(1161,[]),0),
  (56,([(0,.inr (.inl [20])),(1,.inl ((1,1,1),none)),(2,.inl (((-2147483648),2147483647,1),some (.inr (18,0),some 0))),(3,.inl ((0,0,0),none)),(4,.inl ((18,18,13),none)),(5,.inl ((6,6,0),none)),(6,.inl (((-2147483648),2147483647,1),none))],[],[((19,13),(1,1,1),none),((19,18),((-2147483648),2147483647,1),none),((20,3),(5,12,1),none)]),(366,[]),0),
  (184,([(0,.inr (.inl [20])),(1,.inl ((1,1,1),none)),(2,.inl (((-2147483648),2147483647,1),some (.inr (18,0),some 0))),(3,.inl ((0,0,0),none)),(4,.inl ((19,19,13),none)),(5,.inl ((6,6,0),none)),(6,.inl (((-2147483648),2147483647,1),none))],[],[((19,13),(1,1,1),none),((20,3),(6,12,1),none)]),(323,[]),0),
  (56,([(0,.inr (.inl [20])),(1,.inl ((2,2,1),none)),(2,.inl (((-2147483648),2147483647,1),some (.inr (18,1),some 0))),(3,.inl (((-2147483648),2147483647,1),some (.inr (18,0),some 0))),(4,.inl ((32,32,13),none)),(5,.inl ((7,7,0),none)),(6,.inl (((-2147483648),2147483647,1),none))],[],[((19,26),(2,2,1),none),((19,32),((-2147483648),2147483647,1),none),((20,3),(6,12,1),none)]),(1154,[]),0),
  (184,([(0,.inr (.inl [20])),(1,.inl ((2,2,1),none)),(2,.inl (((-2147483648),2147483647,1),some (.inr (18,1),some 0))),(3,.inl (((-2147483648),2147483647,1),some (.inr (18,0),some 0))),(4,.inl ((33,33,13),none)),(5,.inl ((7,7,0),none)),(6,.inl (((-2147483648),2147483647,1),none))],[],[((19,26),(2,2,1),none),((20,3),(7,12,1),none)]),(1079,[]),0),
  (56,([(0,.inr (.inl [20])),(1,.inl ((1,1,1),none)),(2,.inl (((-2147483648),2147483647,1),some (.inr (18,0),some 0))),(3,.inl ((0,0,0),none)),(4,.inl ((19,19,13),none)),(5,.inl ((7,7,0),none)),(6,.inl (((-2147483648),2147483647,1),none))],[],[((19,13),(1,1,1),none),((19,19),((-2147483648),2147483647,1),none),((20,3),(6,12,1),none)]),(316,[]),0),
  (184,([(0,.inr (.inl [20])),(1,.inl ((1,1,1),none)),(2,.inl (((-2147483648),2147483647,1),some (.inr (18,0),some 0))),(3,.inl ((0,0,0),none)),(4,.inl ((20,20,13),none)),(5,.inl ((7,7,0),none)),(6,.inl (((-2147483648),2147483647,1),none))],[],[((19,13),(1,1,1),none),((20,3),(7,12,1),none)]),(273,[]),0),
  (56,([(0,.inr (.inl [20])),(1,.inl ((2,2,1),none)),(2,.inl (((-2147483648),2147483647,1),some (.inr (18,1),some 0))),(3,.inl (((-2147483648),2147483647,1),some (.inr (18,0),some 0))),(4,.inl ((33,33,13),none)),(5,.inl ((8,8,0),none)),(6,.inl (((-2147483648),2147483647,1),none))],[],[((19,26),(2,2,1),none),((19,33),((-2147483648),2147483647,1),none),((20,3),(7,12,1),none)]),(1072,[]),0),
  (184,([(0,.inr (.inl [20])),(1,.inl ((2,2,1),none)),(2,.inl (((-2147483648),2147483647,1),some (.inr (18,1),some 0))),(3,.inl (((-2147483648),2147483647,1),some (.inr (18,0),some 0))),(4,.inl ((34,34,13),none)),(5,.inl ((8,8,0),none)),(6,.inl (((-2147483648),2147483647,1),none))],[],[((19,26),(2,2,1),none),((20,3),(8,12,1),none)]),(997,[]),0),
  (56,([(0,.inr (.inl [20])),(1,.inl ((1,1,1),none)),(2,.inl (((-2147483648),2147483647,1),some (.inr (18,0),some 0))),(3,.inl ((0,0,0),none)),(4,.inl ((20,20,13),none)),(5,.inl ((8,8,0),none)),(6,.inl (((-2147483648),2147483647,1),none))],[],[((19,13),(1,1,1),none),((19,20),((-2147483648),2147483647,1),none),((20,3),(7,12,1),none)]),(266,[]),0),
  (184,([(0,.inr (.inl [20])),(1,.inl ((1,1,1),none)),(2,.inl (((-2147483648),2147483647,1),some (.inr (18,0),some 0))),(3,.inl ((0,0,0),none)),(4,.inl ((21,21,13),none)),(5,.inl ((8,8,0),none)),(6,.inl (((-2147483648),2147483647,1),none))],[],[((19,13),(1,1,1),none),((20,3),(8,12,1),none)]),(223,[]),0),
  (56,([(0,.inr (.inl [20])),(1,.inl ((2,2,1),none)),(2,.inl (((-2147483648),2147483647,1),some (.inr (18,1),some 0))),(3,.inl (((-2147483648),2147483647,1),some (.inr (18,0),some 0))),(4,.inl ((34,34,13),none)),(5,.inl ((9,9,0),none)),(6,.inl (((-2147483648),2147483647,1),none))],[],[((19,26),(2,2,1),none),((19,34),((-2147483648),2147483647,1),none),((20,3),(8,12,1),none)]),(990,[]),0),
  (184,([(0,.inr (.inl [20])),(1,.inl ((2,2,1),none)),(2,.inl (((-2147483648),2147483647,1),some (.inr (18,1),some 0))),(3,.inl (((-2147483648),2147483647,1),some (.inr (18,0),some 0))),(4,.inl ((35,35,13),none)),(5,.inl ((9,9,0),none)),(6,.inl (((-2147483648),2147483647,1),none))],[],[((19,26),(2,2,1),none),((20,3),(9,12,1),none)]),(915,[]),0),
  (56,([(0,.inr (.inl [20])),(1,.inl ((1,1,1),none)),(2,.inl (((-2147483648),2147483647,1),some (.inr (18,0),some 0))),(3,.inl ((0,0,0),none)),(4,.inl ((21,21,13),none)),(5,.inl ((9,9,0),none)),(6,.inl (((-2147483648),2147483647,1),none))],[],[((19,13),(1,1,1),none),((19,21),((-2147483648),2147483647,1),none),((20,3),(8,12,1),none)]),(216,[]),0),
  (184,([(0,.inr (.inl [20])),(1,.inl ((1,1,1),none)),(2,.inl (((-2147483648),2147483647,1),some (.inr (18,0),some 0))),(3,.inl ((0,0,0),none)),(4,.inl ((22,22,13),none)),(5,.inl ((9,9,0),none)),(6,.inl (((-2147483648),2147483647,1),none))],[],[((19,13),(1,1,1),none),((20,3),(9,12,1),none)]),(173,[]),0),
  (56,([(0,.inr (.inl [20])),(1,.inl ((2,2,1),none)),(2,.inl (((-2147483648),2147483647,1),some (.inr (18,1),some 0))),(3,.inl (((-2147483648),2147483647,1),some (.inr (18,0),some 0))),(4,.inl ((35,35,13),none)),(5,.inl ((10,10,0),none)),(6,.inl (((-2147483648),2147483647,1),none))],[],[((19,26),(2,2,1),none),((19,35),((-2147483648),2147483647,1),none),((20,3),(9,12,1),none)]),(908,[]),0),
  (184,([(0,.inr (.inl [20])),(1,.inl ((2,2,1),none)),(2,.inl (((-2147483648),2147483647,1),some (.inr (18,1),some 0))),(3,.inl (((-2147483648),2147483647,1),some (.inr (18,0),some 0))),(4,.inl ((36,36,13),none)),(5,.inl ((10,10,0),none)),(6,.inl (((-2147483648),2147483647,1),none))],[],[((19,26),(2,2,1),none),((20,3),(10,12,1),none)]),(833,[]),0),
  (56,([(0,.inr (.inl [20])),(1,.inl ((1,1,1),none)),(2,.inl (((-2147483648),2147483647,1),some (.inr (18,0),some 0))),(3,.inl ((0,0,0),none)),(4,.inl ((22,22,13),none)),(5,.inl ((10,10,0),none)),(6,.inl (((-2147483648),2147483647,1),none))],[],[((19,13),(1,1,1),none),((19,22),((-2147483648),2147483647,1),none),((20,3),(9,12,1),none)]),(166,[]),0),
  (184,([(0,.inr (.inl [20])),(1,.inl ((1,1,1),none)),(2,.inl (((-2147483648),2147483647,1),some (.inr (18,0),some 0))),(3,.inl ((0,0,0),none)),(4,.inl ((23,23,13),none)),(5,.inl ((10,10,0),none)),(6,.inl (((-2147483648),2147483647,1),none))],[],[((19,13),(1,1,1),none),((20,3),(10,12,1),none)]),(123,[]),0),
  (56,([(0,.inr (.inl [20])),(1,.inl ((2,2,1),none)),(2,.inl (((-2147483648),2147483647,1),some (.inr (18,1),some 0))),(3,.inl (((-2147483648),2147483647,1),some (.inr (18,0),some 0))),(4,.inl ((36,36,13),none)),(5,.inl ((11,11,0),none)),(6,.inl (((-2147483648),2147483647,1),none))],[],[((19,26),(2,2,1),none),((19,36),((-2147483648),2147483647,1),none),((20,3),(10,12,1),none)]),(826,[]),0),
  (184,([(0,.inr (.inl [20])),(1,.inl ((2,2,1),none)),(2,.inl (((-2147483648),2147483647,1),some (.inr (18,1),some 0))),(3,.inl (((-2147483648),2147483647,1),some (.inr (18,0),some 0))),(4,.inl ((37,37,13),none)),(5,.inl ((11,11,0),none)),(6,.inl (((-2147483648),2147483647,1),none))],[],[((19,26),(2,2,1),none),((20,3),(11,12,1),none)]),(751,[]),0),
  (56,([(0,.inr (.inl [20])),(1,.inl ((1,1,1),none)),(2,.inl (((-2147483648),2147483647,1),some (.inr (18,0),some 0))),(3,.inl ((0,0,0),none)),(4,.inl ((23,23,13),none)),(5,.inl ((11,11,0),none)),(6,.inl (((-2147483648),2147483647,1),none))],[],[((19,13),(1,1,1),none),((19,23),((-2147483648),2147483647,1),none),((20,3),(10,12,1),none)]),(116,[]),0),
  (184,([(0,.inr (.inl [20])),(1,.inl ((1,1,1),none)),(2,.inl (((-2147483648),2147483647,1),some (.inr (18,0),some 0))),(3,.inl ((0,0,0),none)),(4,.inl ((24,24,13),none)),(5,.inl ((11,11,0),none)),(6,.inl (((-2147483648),2147483647,1),none))],[],[((19,13),(1,1,1),none),((20,3),(11,12,1),none)]),(73,[]),0),
  (56,([(0,.inr (.inl [20])),(1,.inl ((2,2,1),none)),(2,.inl (((-2147483648),2147483647,1),some (.inr (18,1),some 0))),(3,.inl (((-2147483648),2147483647,1),some (.inr (18,0),some 0))),(4,.inl ((37,37,13),none)),(5,.inl ((12,12,0),none)),(6,.inl (((-2147483648),2147483647,1),none))],[],[((19,26),(2,2,1),none),((19,37),((-2147483648),2147483647,1),none),((20,3),(11,12,1),none)]),(744,[]),0),
  (184,([(0,.inr (.inl [20])),(1,.inl ((2,2,1),none)),(2,.inl (((-2147483648),2147483647,1),some (.inr (18,1),some 0))),(3,.inl (((-2147483648),2147483647,1),some (.inr (18,0),some 0))),(4,.inl ((38,38,13),none)),(5,.inl ((12,12,0),none)),(6,.inl (((-2147483648),2147483647,1),none))],[],[((19,26),(2,2,1),none),((20,3),(12,12,1),none)]),(669,[]),0),
  (56,([(0,.inr (.inl [20])),(1,.inl ((1,1,1),none)),(2,.inl (((-2147483648),2147483647,1),some (.inr (18,0),some 0))),(3,.inl ((0,0,0),none)),(4,.inl ((24,24,13),none)),(5,.inl ((12,12,0),none)),(6,.inl (((-2147483648),2147483647,1),none))],[],[((19,13),(1,1,1),none),((19,24),((-2147483648),2147483647,1),none),((20,3),(11,12,1),none)]),(66,[]),0),
  (184,([(0,.inr (.inl [20])),(1,.inl ((1,1,1),none)),(2,.inl (((-2147483648),2147483647,1),some (.inr (18,0),some 0))),(3,.inl ((0,0,0),none)),(4,.inl ((25,25,13),none)),(5,.inl ((12,12,0),none)),(6,.inl (((-2147483648),2147483647,1),none))],[],[((19,13),(1,1,1),none),((20,3),(12,12,1),none)]),(23,[]),0),
  (56,([(0,.inr (.inl [20])),(1,.inl ((2,2,1),none)),(2,.inl (((-2147483648),2147483647,1),some (.inr (18,1),some 0))),(3,.inl (((-2147483648),2147483647,1),some (.inr (18,0),some 0))),(4,.inl ((38,38,13),none)),(5,.inl ((13,13,0),none)),(6,.inl (((-2147483648),2147483647,1),none))],[],[((19,26),(2,2,1),none),((19,38),((-2147483648),2147483647,1),none),((20,3),(12,12,1),none)]),(662,[]),0),
  (56,([(0,.inr (.inl [20])),(1,.inl ((1,1,1),none)),(2,.inl (((-2147483648),2147483647,1),some (.inr (18,0),some 0))),(3,.inl ((0,0,0),none)),(4,.inl ((25,25,13),none)),(5,.inl ((13,13,0),none)),(6,.inl (((-2147483648),2147483647,1),none))],[],[((19,13),(1,1,1),none),((19,25),((-2147483648),2147483647,1),none),((20,3),(12,12,1),none)]),(16,[]),0)]
set_option maxRecDepth 100000 in
theorem q192_ok : rf_chkB q192_P q192_U wLay q192_M ddX7_fillRow [] [] [0,56,184] 600 q192_N = true := by decide +kernel
set_option maxHeartbeats 4000000 in
theorem q192_met {G : rfG} (h : okG G) (hh : wHandOK G) : rf_met G q192_M := rf_methodB h.1 (P := q192_P) (U := q192_U) (N := q192_N) ⟨wflT h flokX7, wcsT h csokX7, wlcT h lcokX7, spokX7 h, fun _ h => absurd h List.not_mem_nil, fun _ h => absurd h List.not_mem_nil, fun _ h => absurd h List.not_mem_nil, fun _ h => absurd h List.not_mem_nil, List.forall_mem_cons.mpr ⟨⟨wmT h (wmem (i := 130) (by decide +kernel) (by decide +kernel)), fun h => absurd h (by decide), fun _ => ⟨wmT h (wmem (i := 919) (by decide +kernel) (by decide +kernel)), wmT h (wmem (i := 557) (by decide +kernel) (by decide +kernel)), wmT h (wmem (i := 558) (by decide +kernel) (by decide +kernel))⟩, fun h => absurd h (by decide)⟩, fun _ h => absurd h List.not_mem_nil⟩⟩ dkX7_fillRow (by decide +kernel) (by rw [h.2.2.1]; exact q192_ok)
/-- NearSpell.Ruler.fillRow -/
def q193_M : rfM := ((⟨"NearSpell$Ruler", "fillRow", "(I)V"⟩, prog_9_method_9_code, 7, none), (1,15), ([.inr (.inl [20]),.inl ((1,3,1),none)],[]), [(19,0)], [(none,[],[])])
def q193_P : rfP := (flX7,csX7,lcX7,spX7,[],[],[],([],[(44,1)]))
def q193_U : rfU := [(.inl 1,[((-2147483648),0),(1,1),(2,12),(13,2147483647)])]
set_option maxHeartbeats 8000000 in
def q193_N : List rfB := [(0,([(0,.inr (.inl [20])),(1,.inl ((1,3,1),none))],[],[]),(1653,[]),1000000),
  (56,([(0,.inr (.inl [20])),(1,.inl ((2,3,1),none)),(2,.inl (((-2147483648),2147483647,1),none)),(3,.inl (((-2147483648),2147483647,1),none)),(4,.inl ((26,39,13),none)),(5,.inl ((1,1,0),none))],[],[]),(1617,[]),0),
  (56,([(0,.inr (.inl [20])),(1,.inl ((1,1,1),none)),(2,.inl (((-2147483648),2147483647,1),some (.inr (18,0),some 0))),(3,.inl ((0,0,0),none)),(4,.inl ((13,13,13),none)),(5,.inl ((1,1,0),none))],[],[((19,13),(1,1,1),none)]),(616,[]),0),
  (184,([(0,.inr (.inl [20])),(1,.inl ((2,3,1),none)),(2,.inl (((-2147483648),2147483647,1),none)),(3,.inl (((-2147483648),2147483647,1),none)),(4,.inl ((27,40,13),none)),(5,.inl ((1,1,0),none)),(6,.inl (((-2147483648),2147483647,1),none))],[],[((20,3),(1,12,1),none)]),(1571,[]),0),
  (184,([(0,.inr (.inl [20])),(1,.inl ((1,1,1),none)),(2,.inl (((-2147483648),2147483647,1),some (.inr (18,0),some 0))),(3,.inl ((0,0,0),none)),(4,.inl ((14,14,13),none)),(5,.inl ((1,1,0),none)),(6,.inl (((-2147483648),2147483647,1),none))],[],[((19,13),(1,1,1),none),((20,3),(1,12,1),none)]),(573,[]),0),
  (56,([(0,.inr (.inl [20])),(1,.inl ((2,3,1),none)),(2,.inl (((-2147483648),2147483647,1),none)),(3,.inl (((-2147483648),2147483647,1),none)),(4,.inl ((27,40,13),none)),(5,.inl ((2,2,0),none)),(6,.inl (((-2147483648),2147483647,1),none))],[],[((20,3),(1,12,1),none)]),(1564,[]),0),
  (184,([(0,.inr (.inl [20])),(1,.inl ((2,3,1),none)),(2,.inl (((-2147483648),2147483647,1),none)),(3,.inl (((-2147483648),2147483647,1),none)),(4,.inl ((28,41,13),none)),(5,.inl ((2,2,0),none)),(6,.inl (((-2147483648),2147483647,1),none))],[],[((20,3),(2,12,1),none)]),(1489,[]),0),
  (56,([(0,.inr (.inl [20])),(1,.inl ((1,1,1),none)),(2,.inl (((-2147483648),2147483647,1),some (.inr (18,0),some 0))),(3,.inl ((0,0,0),none)),(4,.inl ((14,14,13),none)),(5,.inl ((2,2,0),none)),(6,.inl (((-2147483648),2147483647,1),none))],[],[((19,13),(1,1,1),none),((19,14),((-2147483648),2147483647,1),none),((20,3),(1,12,1),none)]),(566,[]),0),
  (184,([(0,.inr (.inl [20])),(1,.inl ((1,1,1),none)),(2,.inl (((-2147483648),2147483647,1),some (.inr (18,0),some 0))),(3,.inl ((0,0,0),none)),(4,.inl ((15,15,13),none)),(5,.inl ((2,2,0),none)),(6,.inl (((-2147483648),2147483647,1),none))],[],[((19,13),(1,1,1),none),((20,3),(2,12,1),none)]),(523,[]),0),
  (56,([(0,.inr (.inl [20])),(1,.inl ((2,3,1),none)),(2,.inl (((-2147483648),2147483647,1),none)),(3,.inl (((-2147483648),2147483647,1),none)),(4,.inl ((28,41,13),none)),(5,.inl ((3,3,0),none)),(6,.inl (((-2147483648),2147483647,1),none))],[],[((20,3),(2,12,1),none)]),(1482,[]),0),
  (184,([(0,.inr (.inl [20])),(1,.inl ((2,3,1),none)),(2,.inl (((-2147483648),2147483647,1),none)),(3,.inl (((-2147483648),2147483647,1),none)),(4,.inl ((29,42,13),none)),(5,.inl ((3,3,0),none)),(6,.inl (((-2147483648),2147483647,1),none))],[],[((20,3),(3,12,1),none)]),(1407,[]),0),
  (56,([(0,.inr (.inl [20])),(1,.inl ((1,1,1),none)),(2,.inl (((-2147483648),2147483647,1),some (.inr (18,0),some 0))),(3,.inl ((0,0,0),none)),(4,.inl ((15,15,13),none)),(5,.inl ((3,3,0),none)),(6,.inl (((-2147483648),2147483647,1),none))],[],[((19,13),(1,1,1),none),((19,15),((-2147483648),2147483647,1),none),((20,3),(2,12,1),none)]),(516,[]),0),
  (184,([(0,.inr (.inl [20])),(1,.inl ((1,1,1),none)),(2,.inl (((-2147483648),2147483647,1),some (.inr (18,0),some 0))),(3,.inl ((0,0,0),none)),(4,.inl ((16,16,13),none)),(5,.inl ((3,3,0),none)),(6,.inl (((-2147483648),2147483647,1),none))],[],[((19,13),(1,1,1),none),((20,3),(3,12,1),none)]),(473,[]),0),
  (56,([(0,.inr (.inl [20])),(1,.inl ((2,3,1),none)),(2,.inl (((-2147483648),2147483647,1),none)),(3,.inl (((-2147483648),2147483647,1),none)),(4,.inl ((29,42,13),none)),(5,.inl ((4,4,0),none)),(6,.inl (((-2147483648),2147483647,1),none))],[],[((20,3),(3,12,1),none)]),(1400,[]),0),
  (184,([(0,.inr (.inl [20])),(1,.inl ((2,3,1),none)),(2,.inl (((-2147483648),2147483647,1),none)),(3,.inl (((-2147483648),2147483647,1),none)),(4,.inl ((30,43,13),none)),(5,.inl ((4,4,0),none)),(6,.inl (((-2147483648),2147483647,1),none))],[],[((20,3),(4,12,1),none)]),(1325,[]),0),
  (56,([(0,.inr (.inl [20])),(1,.inl ((1,1,1),none)),(2,.inl (((-2147483648),2147483647,1),some (.inr (18,0),some 0))),(3,.inl ((0,0,0),none)),(4,.inl ((16,16,13),none)),(5,.inl ((4,4,0),none)),(6,.inl (((-2147483648),2147483647,1),none))],[],[((19,13),(1,1,1),none),((19,16),((-2147483648),2147483647,1),none),((20,3),(3,12,1),none)]),(466,[]),0),
  (184,([(0,.inr (.inl [20])),(1,.inl ((1,1,1),none)),(2,.inl (((-2147483648),2147483647,1),some (.inr (18,0),some 0))),(3,.inl ((0,0,0),none)),(4,.inl ((17,17,13),none)),(5,.inl ((4,4,0),none)),(6,.inl (((-2147483648),2147483647,1),none))],[],[((19,13),(1,1,1),none),((20,3),(4,12,1),none)]),(423,[]),0),
  (56,([(0,.inr (.inl [20])),(1,.inl ((2,3,1),none)),(2,.inl (((-2147483648),2147483647,1),none)),(3,.inl (((-2147483648),2147483647,1),none)),(4,.inl ((30,43,13),none)),(5,.inl ((5,5,0),none)),(6,.inl (((-2147483648),2147483647,1),none))],[],[((20,3),(4,12,1),none)]),(1318,[]),0),
  (184,([(0,.inr (.inl [20])),(1,.inl ((2,3,1),none)),(2,.inl (((-2147483648),2147483647,1),none)),(3,.inl (((-2147483648),2147483647,1),none)),(4,.inl ((31,44,13),none)),(5,.inl ((5,5,0),none)),(6,.inl (((-2147483648),2147483647,1),none))],[],[((20,3),(5,12,1),none)]),(1243,[]),0),
  (56,([(0,.inr (.inl [20])),(1,.inl ((1,1,1),none)),(2,.inl (((-2147483648),2147483647,1),some (.inr (18,0),some 0))),(3,.inl ((0,0,0),none)),(4,.inl ((17,17,13),none)),(5,.inl ((5,5,0),none)),(6,.inl (((-2147483648),2147483647,1),none))],[],[((19,13),(1,1,1),none),((19,17),((-2147483648),2147483647,1),none),((20,3),(4,12,1),none)]),(416,[]),0),
  (184,([(0,.inr (.inl [20])),(1,.inl ((1,1,1),none)),(2,.inl (((-2147483648),2147483647,1),some (.inr (18,0),some 0))),(3,.inl ((0,0,0),none)),(4,.inl ((18,18,13),none)),(5,.inl ((5,5,0),none)),(6,.inl (((-2147483648),2147483647,1),none))],[],[((19,13),(1,1,1),none),((20,3),(5,12,1),none)]),(373,[]),0),
  (56,([(0,.inr (.inl [20])),(1,.inl ((2,3,1),none)),(2,.inl (((-2147483648),2147483647,1),none)),(3,.inl (((-2147483648),2147483647,1),none)),(4,.inl ((31,44,13),none)),(5,.inl ((6,6,0),none)),(6,.inl (((-2147483648),2147483647,1),none))],[],[((20,3),(5,12,1),none)]),(1236,[]),0),
  (184,([(0,.inr (.inl [20])),(1,.inl ((2,3,1),none)),(2,.inl (((-2147483648),2147483647,1),none)),(3,.inl (((-2147483648),2147483647,1),none)),(4,.inl ((32,45,13),none)),(5,.inl ((6,6,0),none)),(6,.inl (((-2147483648),2147483647,1),none))],[],[((20,3),(6,12,1),none)]),(1161,[]),0),
  (56,([(0,.inr (.inl [20])),(1,.inl ((1,1,1),none)),(2,.inl (((-2147483648),2147483647,1),some (.inr (18,0),some 0))),(3,.inl ((0,0,0),none)),(4,.inl ((18,18,13),none)),(5,.inl ((6,6,0),none)),(6,.inl (((-2147483648),2147483647,1),none))],[],[((19,13),(1,1,1),none),((19,18),((-2147483648),2147483647,1),none),((20,3),(5,12,1),none)]),(366,[]),0),
  (184,([(0,.inr (.inl [20])),(1,.inl ((1,1,1),none)),(2,.inl (((-2147483648),2147483647,1),some (.inr (18,0),some 0))),(3,.inl ((0,0,0),none)),(4,.inl ((19,19,13),none)),(5,.inl ((6,6,0),none)),(6,.inl (((-2147483648),2147483647,1),none))],[],[((19,13),(1,1,1),none),((20,3),(6,12,1),none)]),(323,[]),0),
  (56,([(0,.inr (.inl [20])),(1,.inl ((2,3,1),none)),(2,.inl (((-2147483648),2147483647,1),none)),(3,.inl (((-2147483648),2147483647,1),none)),(4,.inl ((32,45,13),none)),(5,.inl ((7,7,0),none)),(6,.inl (((-2147483648),2147483647,1),none))],[],[((20,3),(6,12,1),none)]),(1154,[]),0),
  (184,([(0,.inr (.inl [20])),(1,.inl ((2,3,1),none)),(2,.inl (((-2147483648),2147483647,1),none)),(3,.inl (((-2147483648),2147483647,1),none)),(4,.inl ((33,46,13),none)),(5,.inl ((7,7,0),none)),(6,.inl (((-2147483648),2147483647,1),none))],[],[((20,3),(7,12,1),none)]),(1079,[]),0),
  (56,([(0,.inr (.inl [20])),(1,.inl ((1,1,1),none)),(2,.inl (((-2147483648),2147483647,1),some (.inr (18,0),some 0))),(3,.inl ((0,0,0),none)),(4,.inl ((19,19,13),none)),(5,.inl ((7,7,0),none)),(6,.inl (((-2147483648),2147483647,1),none))],[],[((19,13),(1,1,1),none),((19,19),((-2147483648),2147483647,1),none),((20,3),(6,12,1),none)]),(316,[]),0),
  (184,([(0,.inr (.inl [20])),(1,.inl ((1,1,1),none)),(2,.inl (((-2147483648),2147483647,1),some (.inr (18,0),some 0))),(3,.inl ((0,0,0),none)),(4,.inl ((20,20,13),none)),(5,.inl ((7,7,0),none)),(6,.inl (((-2147483648),2147483647,1),none))],[],[((19,13),(1,1,1),none),((20,3),(7,12,1),none)]),(273,[]),0),
  (56,([(0,.inr (.inl [20])),(1,.inl ((2,3,1),none)),(2,.inl (((-2147483648),2147483647,1),none)),(3,.inl (((-2147483648),2147483647,1),none)),(4,.inl ((33,46,13),none)),(5,.inl ((8,8,0),none)),(6,.inl (((-2147483648),2147483647,1),none))],[],[((20,3),(7,12,1),none)]),(1072,[]),0),
  (184,([(0,.inr (.inl [20])),(1,.inl ((2,3,1),none)),(2,.inl (((-2147483648),2147483647,1),none)),(3,.inl (((-2147483648),2147483647,1),none)),(4,.inl ((34,47,13),none)),(5,.inl ((8,8,0),none)),(6,.inl (((-2147483648),2147483647,1),none))],[],[((20,3),(8,12,1),none)]),(997,[]),0),
  (56,([(0,.inr (.inl [20])),(1,.inl ((1,1,1),none)),(2,.inl (((-2147483648),2147483647,1),some (.inr (18,0),some 0))),(3,.inl ((0,0,0),none)),(4,.inl ((20,20,13),none)),(5,.inl ((8,8,0),none)),(6,.inl (((-2147483648),2147483647,1),none))],[],[((19,13),(1,1,1),none),((19,20),((-2147483648),2147483647,1),none),((20,3),(7,12,1),none)]),(266,[]),0),
  (184,([(0,.inr (.inl [20])),(1,.inl ((1,1,1),none)),(2,.inl (((-2147483648),2147483647,1),some (.inr (18,0),some 0))),(3,.inl ((0,0,0),none)),(4,.inl ((21,21,13),none)),(5,.inl ((8,8,0),none)),(6,.inl (((-2147483648),2147483647,1),none))],[],[((19,13),(1,1,1),none),((20,3),(8,12,1),none)]),(223,[]),0),
  (56,([(0,.inr (.inl [20])),(1,.inl ((2,3,1),none)),(2,.inl (((-2147483648),2147483647,1),none)),(3,.inl (((-2147483648),2147483647,1),none)),(4,.inl ((34,47,13),none)),(5,.inl ((9,9,0),none)),(6,.inl (((-2147483648),2147483647,1),none))],[],[((20,3),(8,12,1),none)]),(990,[]),0),
  (184,([(0,.inr (.inl [20])),(1,.inl ((2,3,1),none)),(2,.inl (((-2147483648),2147483647,1),none)),(3,.inl (((-2147483648),2147483647,1),none)),(4,.inl ((35,48,13),none)),(5,.inl ((9,9,0),none)),(6,.inl (((-2147483648),2147483647,1),none))],[],[((20,3),(9,12,1),none)]),(915,[]),0),
  (56,([(0,.inr (.inl [20])),(1,.inl ((1,1,1),none)),(2,.inl (((-2147483648),2147483647,1),some (.inr (18,0),some 0))),(3,.inl ((0,0,0),none)),(4,.inl ((21,21,13),none)),(5,.inl ((9,9,0),none)),(6,.inl (((-2147483648),2147483647,1),none))],[],[((19,13),(1,1,1),none),((19,21),((-2147483648),2147483647,1),none),((20,3),(8,12,1),none)]),(216,[]),0),
  (184,([(0,.inr (.inl [20])),(1,.inl ((1,1,1),none)),(2,.inl (((-2147483648),2147483647,1),some (.inr (18,0),some 0))),(3,.inl ((0,0,0),none)),(4,.inl ((22,22,13),none)),(5,.inl ((9,9,0),none)),(6,.inl (((-2147483648),2147483647,1),none))],[],[((19,13),(1,1,1),none),((20,3),(9,12,1),none)]),(173,[]),0),
  (56,([(0,.inr (.inl [20])),(1,.inl ((2,3,1),none)),(2,.inl (((-2147483648),2147483647,1),none)),(3,.inl (((-2147483648),2147483647,1),none)),(4,.inl ((35,48,13),none)),(5,.inl ((10,10,0),none)),(6,.inl (((-2147483648),2147483647,1),none))],[],[((20,3),(9,12,1),none)]),(908,[]),0),
  (184,([(0,.inr (.inl [20])),(1,.inl ((2,3,1),none)),(2,.inl (((-2147483648),2147483647,1),none)),(3,.inl (((-2147483648),2147483647,1),none)),(4,.inl ((36,49,13),none)),(5,.inl ((10,10,0),none)),(6,.inl (((-2147483648),2147483647,1),none))],[],[((20,3),(10,12,1),none)]),(833,[]),0),
  (56,([(0,.inr (.inl [20])),(1,.inl ((1,1,1),none)),(2,.inl (((-2147483648),2147483647,1),some (.inr (18,0),some 0))),(3,.inl ((0,0,0),none)),(4,.inl ((22,22,13),none)),(5,.inl ((10,10,0),none)),(6,.inl (((-2147483648),2147483647,1),none))],[],[((19,13),(1,1,1),none),((19,22),((-2147483648),2147483647,1),none),((20,3),(9,12,1),none)]),(166,[]),0),
  (184,([(0,.inr (.inl [20])),(1,.inl ((1,1,1),none)),(2,.inl (((-2147483648),2147483647,1),some (.inr (18,0),some 0))),(3,.inl ((0,0,0),none)),(4,.inl ((23,23,13),none)),(5,.inl ((10,10,0),none)),(6,.inl (((-2147483648),2147483647,1),none))],[],[((19,13),(1,1,1),none),((20,3),(10,12,1),none)]),(123,[]),0),
  (56,([(0,.inr (.inl [20])),(1,.inl ((2,3,1),none)),(2,.inl (((-2147483648),2147483647,1),none)),(3,.inl (((-2147483648),2147483647,1),none)),(4,.inl ((36,49,13),none)),(5,.inl ((11,11,0),none)),(6,.inl (((-2147483648),2147483647,1),none))],[],[((20,3),(10,12,1),none)]),(826,[]),0),
  (184,([(0,.inr (.inl [20])),(1,.inl ((2,3,1),none)),(2,.inl (((-2147483648),2147483647,1),none)),(3,.inl (((-2147483648),2147483647,1),none)),(4,.inl ((37,50,13),none)),(5,.inl ((11,11,0),none)),(6,.inl (((-2147483648),2147483647,1),none))],[],[((20,3),(11,12,1),none)]),(751,[]),0),
  (56,([(0,.inr (.inl [20])),(1,.inl ((1,1,1),none)),(2,.inl (((-2147483648),2147483647,1),some (.inr (18,0),some 0))),(3,.inl ((0,0,0),none)),(4,.inl ((23,23,13),none)),(5,.inl ((11,11,0),none)),(6,.inl (((-2147483648),2147483647,1),none))],[],[((19,13),(1,1,1),none),((19,23),((-2147483648),2147483647,1),none),((20,3),(10,12,1),none)]),(116,[]),0),
  (184,([(0,.inr (.inl [20])),(1,.inl ((1,1,1),none)),(2,.inl (((-2147483648),2147483647,1),some (.inr (18,0),some 0))),(3,.inl ((0,0,0),none)),(4,.inl ((24,24,13),none)),(5,.inl ((11,11,0),none)),(6,.inl (((-2147483648),2147483647,1),none))],[],[((19,13),(1,1,1),none),((20,3),(11,12,1),none)]),(73,[]),0),
  (56,([(0,.inr (.inl [20])),(1,.inl ((2,3,1),none)),(2,.inl (((-2147483648),2147483647,1),none)),(3,.inl (((-2147483648),2147483647,1),none)),(4,.inl ((37,50,13),none)),(5,.inl ((12,12,0),none)),(6,.inl (((-2147483648),2147483647,1),none))],[],[((20,3),(11,12,1),none)]),(744,[]),0),
  (184,([(0,.inr (.inl [20])),(1,.inl ((2,3,1),none)),(2,.inl (((-2147483648),2147483647,1),none)),(3,.inl (((-2147483648),2147483647,1),none)),(4,.inl ((38,51,13),none)),(5,.inl ((12,12,0),none)),(6,.inl (((-2147483648),2147483647,1),none))],[],[((20,3),(12,12,1),none)]),(669,[]),0),
  (56,([(0,.inr (.inl [20])),(1,.inl ((1,1,1),none)),(2,.inl (((-2147483648),2147483647,1),some (.inr (18,0),some 0))),(3,.inl ((0,0,0),none)),(4,.inl ((24,24,13),none)),(5,.inl ((12,12,0),none)),(6,.inl (((-2147483648),2147483647,1),none))],[],[((19,13),(1,1,1),none),((19,24),((-2147483648),2147483647,1),none),((20,3),(11,12,1),none)]),(66,[]),0),
  (184,([(0,.inr (.inl [20])),(1,.inl ((1,1,1),none)),(2,.inl (((-2147483648),2147483647,1),some (.inr (18,0),some 0))),(3,.inl ((0,0,0),none)),(4,.inl ((25,25,13),none)),(5,.inl ((12,12,0),none)),(6,.inl (((-2147483648),2147483647,1),none))],[],[((19,13),(1,1,1),none),((20,3),(12,12,1),none)]),(23,[]),0),
  (56,([(0,.inr (.inl [20])),(1,.inl ((2,3,1),none)),(2,.inl (((-2147483648),2147483647,1),none)),(3,.inl (((-2147483648),2147483647,1),none)),(4,.inl ((38,51,13),none)),(5,.inl ((13,13,0),none)),(6,.inl (((-2147483648),2147483647,1),none))],[],[((20,3),(12,12,1),none)]),(662,[]),0),
  (56,([(0,.inr (.inl [20])),(1,.inl ((1,1,1),none)),(2,.inl (((-2147483648),2147483647,1),some (.inr (18,0),some 0))),(3,.inl ((0,0,0),none)),(4,.inl ((25,25,13),none)),(5,.inl ((13,13,0),none)),(6,.inl (((-2147483648),2147483647,1),none))],[],[((19,13),(1,1,1),none),((19,25),((-2147483648),2147483647,1),none),((20,3),(12,12,1),none)]),(16,[]),0)]
set_option maxRecDepth 100000 in
theorem q193_ok : rf_chkB q193_P q193_U wLay q193_M ddX7_fillRow [] [] [0,56,184] 600 q193_N = true := by decide +kernel
set_option maxHeartbeats 4000000 in
theorem q193_met {G : rfG} (h : okG G) (hh : wHandOK G) : rf_met G q193_M := rf_methodB h.1 (P := q193_P) (U := q193_U) (N := q193_N) ⟨wflT h flokX7, wcsT h csokX7, wlcT h lcokX7, spokX7 h, fun _ h => absurd h List.not_mem_nil, fun _ h => absurd h List.not_mem_nil, fun _ h => absurd h List.not_mem_nil, fun _ h => absurd h List.not_mem_nil, List.forall_mem_cons.mpr ⟨⟨wmT h (wmem (i := 130) (by decide +kernel) (by decide +kernel)), fun h => absurd h (by decide), fun _ => ⟨wmT h (wmem (i := 919) (by decide +kernel) (by decide +kernel)), wmT h (wmem (i := 557) (by decide +kernel) (by decide +kernel)), wmT h (wmem (i := 558) (by decide +kernel) (by decide +kernel))⟩, fun h => absurd h (by decide)⟩, fun _ h => absurd h List.not_mem_nil⟩⟩ dkX7_fillRow (by decide +kernel) (by rw [h.2.2.1]; exact q193_ok)
/-- NearSpell.Ruler.fillRow -/
def q194_M : rfM := ((⟨"NearSpell$Ruler", "fillRow", "(I)V"⟩, prog_9_method_9_code, 7, none), (1,15), ([.inr (.inl [20]),.inl ((1,4,1),none)],[]), [(19,0)], [(none,[],[])])
def q194_P : rfP := (flX7,csX7,lcX7,spX7,[],[],[],([],[(44,1)]))
def q194_U : rfU := [(.inl 1,[((-2147483648),0),(1,1),(2,12),(13,2147483647)])]
set_option maxHeartbeats 8000000 in
def q194_N : List rfB := [(0,([(0,.inr (.inl [20])),(1,.inl ((1,4,1),none))],[],[]),(1653,[]),1000000),
  (56,([(0,.inr (.inl [20])),(1,.inl ((2,4,1),none)),(2,.inl (((-2147483648),2147483647,1),none)),(3,.inl (((-2147483648),2147483647,1),none)),(4,.inl ((26,52,13),none)),(5,.inl ((1,1,0),none))],[],[]),(1617,[]),0),
  (56,([(0,.inr (.inl [20])),(1,.inl ((1,1,1),none)),(2,.inl (((-2147483648),2147483647,1),some (.inr (18,0),some 0))),(3,.inl ((0,0,0),none)),(4,.inl ((13,13,13),none)),(5,.inl ((1,1,0),none))],[],[((19,13),(1,1,1),none)]),(616,[]),0),
  (184,([(0,.inr (.inl [20])),(1,.inl ((2,4,1),none)),(2,.inl (((-2147483648),2147483647,1),none)),(3,.inl (((-2147483648),2147483647,1),none)),(4,.inl ((27,53,13),none)),(5,.inl ((1,1,0),none)),(6,.inl (((-2147483648),2147483647,1),none))],[],[((20,3),(1,12,1),none)]),(1571,[]),0),
  (184,([(0,.inr (.inl [20])),(1,.inl ((1,1,1),none)),(2,.inl (((-2147483648),2147483647,1),some (.inr (18,0),some 0))),(3,.inl ((0,0,0),none)),(4,.inl ((14,14,13),none)),(5,.inl ((1,1,0),none)),(6,.inl (((-2147483648),2147483647,1),none))],[],[((19,13),(1,1,1),none),((20,3),(1,12,1),none)]),(573,[]),0),
  (56,([(0,.inr (.inl [20])),(1,.inl ((2,4,1),none)),(2,.inl (((-2147483648),2147483647,1),none)),(3,.inl (((-2147483648),2147483647,1),none)),(4,.inl ((27,53,13),none)),(5,.inl ((2,2,0),none)),(6,.inl (((-2147483648),2147483647,1),none))],[],[((20,3),(1,12,1),none)]),(1564,[]),0),
  (184,([(0,.inr (.inl [20])),(1,.inl ((2,4,1),none)),(2,.inl (((-2147483648),2147483647,1),none)),(3,.inl (((-2147483648),2147483647,1),none)),(4,.inl ((28,54,13),none)),(5,.inl ((2,2,0),none)),(6,.inl (((-2147483648),2147483647,1),none))],[],[((20,3),(2,12,1),none)]),(1489,[]),0),
  (56,([(0,.inr (.inl [20])),(1,.inl ((1,1,1),none)),(2,.inl (((-2147483648),2147483647,1),some (.inr (18,0),some 0))),(3,.inl ((0,0,0),none)),(4,.inl ((14,14,13),none)),(5,.inl ((2,2,0),none)),(6,.inl (((-2147483648),2147483647,1),none))],[],[((19,13),(1,1,1),none),((19,14),((-2147483648),2147483647,1),none),((20,3),(1,12,1),none)]),(566,[]),0),
  (184,([(0,.inr (.inl [20])),(1,.inl ((1,1,1),none)),(2,.inl (((-2147483648),2147483647,1),some (.inr (18,0),some 0))),(3,.inl ((0,0,0),none)),(4,.inl ((15,15,13),none)),(5,.inl ((2,2,0),none)),(6,.inl (((-2147483648),2147483647,1),none))],[],[((19,13),(1,1,1),none),((20,3),(2,12,1),none)]),(523,[]),0),
  (56,([(0,.inr (.inl [20])),(1,.inl ((2,4,1),none)),(2,.inl (((-2147483648),2147483647,1),none)),(3,.inl (((-2147483648),2147483647,1),none)),(4,.inl ((28,54,13),none)),(5,.inl ((3,3,0),none)),(6,.inl (((-2147483648),2147483647,1),none))],[],[((20,3),(2,12,1),none)]),(1482,[]),0),
  (184,([(0,.inr (.inl [20])),(1,.inl ((2,4,1),none)),(2,.inl (((-2147483648),2147483647,1),none)),(3,.inl (((-2147483648),2147483647,1),none)),(4,.inl ((29,55,13),none)),(5,.inl ((3,3,0),none)),(6,.inl (((-2147483648),2147483647,1),none))],[],[((20,3),(3,12,1),none)]),(1407,[]),0),
  (56,([(0,.inr (.inl [20])),(1,.inl ((1,1,1),none)),(2,.inl (((-2147483648),2147483647,1),some (.inr (18,0),some 0))),(3,.inl ((0,0,0),none)),(4,.inl ((15,15,13),none)),(5,.inl ((3,3,0),none)),(6,.inl (((-2147483648),2147483647,1),none))],[],[((19,13),(1,1,1),none),((19,15),((-2147483648),2147483647,1),none),((20,3),(2,12,1),none)]),(516,[]),0),
  (184,([(0,.inr (.inl [20])),(1,.inl ((1,1,1),none)),(2,.inl (((-2147483648),2147483647,1),some (.inr (18,0),some 0))),(3,.inl ((0,0,0),none)),(4,.inl ((16,16,13),none)),(5,.inl ((3,3,0),none)),(6,.inl (((-2147483648),2147483647,1),none))],[],[((19,13),(1,1,1),none),((20,3),(3,12,1),none)]),(473,[]),0),
  (56,([(0,.inr (.inl [20])),(1,.inl ((2,4,1),none)),(2,.inl (((-2147483648),2147483647,1),none)),(3,.inl (((-2147483648),2147483647,1),none)),(4,.inl ((29,55,13),none)),(5,.inl ((4,4,0),none)),(6,.inl (((-2147483648),2147483647,1),none))],[],[((20,3),(3,12,1),none)]),(1400,[]),0),
  (184,([(0,.inr (.inl [20])),(1,.inl ((2,4,1),none)),(2,.inl (((-2147483648),2147483647,1),none)),(3,.inl (((-2147483648),2147483647,1),none)),(4,.inl ((30,56,13),none)),(5,.inl ((4,4,0),none)),(6,.inl (((-2147483648),2147483647,1),none))],[],[((20,3),(4,12,1),none)]),(1325,[]),0),
  (56,([(0,.inr (.inl [20])),(1,.inl ((1,1,1),none)),(2,.inl (((-2147483648),2147483647,1),some (.inr (18,0),some 0))),(3,.inl ((0,0,0),none)),(4,.inl ((16,16,13),none)),(5,.inl ((4,4,0),none)),(6,.inl (((-2147483648),2147483647,1),none))],[],[((19,13),(1,1,1),none),((19,16),((-2147483648),2147483647,1),none),((20,3),(3,12,1),none)]),(466,[]),0),
  (184,([(0,.inr (.inl [20])),(1,.inl ((1,1,1),none)),(2,.inl (((-2147483648),2147483647,1),some (.inr (18,0),some 0))),(3,.inl ((0,0,0),none)),(4,.inl ((17,17,13),none)),(5,.inl ((4,4,0),none)),(6,.inl (((-2147483648),2147483647,1),none))],[],[((19,13),(1,1,1),none),((20,3),(4,12,1),none)]),(423,[]),0),
  (56,([(0,.inr (.inl [20])),(1,.inl ((2,4,1),none)),(2,.inl (((-2147483648),2147483647,1),none)),(3,.inl (((-2147483648),2147483647,1),none)),(4,.inl ((30,56,13),none)),(5,.inl ((5,5,0),none)),(6,.inl (((-2147483648),2147483647,1),none))],[],[((20,3),(4,12,1),none)]),(1318,[]),0),
  (184,([(0,.inr (.inl [20])),(1,.inl ((2,4,1),none)),(2,.inl (((-2147483648),2147483647,1),none)),(3,.inl (((-2147483648),2147483647,1),none)),(4,.inl ((31,57,13),none)),(5,.inl ((5,5,0),none)),(6,.inl (((-2147483648),2147483647,1),none))],[],[((20,3),(5,12,1),none)]),(1243,[]),0),
  (56,([(0,.inr (.inl [20])),(1,.inl ((1,1,1),none)),(2,.inl (((-2147483648),2147483647,1),some (.inr (18,0),some 0))),(3,.inl ((0,0,0),none)),(4,.inl ((17,17,13),none)),(5,.inl ((5,5,0),none)),(6,.inl (((-2147483648),2147483647,1),none))],[],[((19,13),(1,1,1),none),((19,17),((-2147483648),2147483647,1),none),((20,3),(4,12,1),none)]),(416,[]),0),
  (184,([(0,.inr (.inl [20])),(1,.inl ((1,1,1),none)),(2,.inl (((-2147483648),2147483647,1),some (.inr (18,0),some 0))),(3,.inl ((0,0,0),none)),(4,.inl ((18,18,13),none)),(5,.inl ((5,5,0),none)),(6,.inl (((-2147483648),2147483647,1),none))],[],[((19,13),(1,1,1),none),((20,3),(5,12,1),none)]),(373,[]),0),
  (56,([(0,.inr (.inl [20])),(1,.inl ((2,4,1),none)),(2,.inl (((-2147483648),2147483647,1),none)),(3,.inl (((-2147483648),2147483647,1),none)),(4,.inl ((31,57,13),none)),(5,.inl ((6,6,0),none)),(6,.inl (((-2147483648),2147483647,1),none))],[],[((20,3),(5,12,1),none)]),(1236,[]),0),
  (184,([(0,.inr (.inl [20])),(1,.inl ((2,4,1),none)),(2,.inl (((-2147483648),2147483647,1),none)),(3,.inl (((-2147483648),2147483647,1),none)),(4,.inl ((32,58,13),none)),(5,.inl ((6,6,0),none)),(6,.inl (((-2147483648),2147483647,1),none))],[],[((20,3),(6,12,1),none)]),(1161,[]),0),
  (56,([(0,.inr (.inl [20])),(1,.inl ((1,1,1),none)),(2,.inl (((-2147483648),2147483647,1),some (.inr (18,0),some 0))),(3,.inl ((0,0,0),none)),(4,.inl ((18,18,13),none)),(5,.inl ((6,6,0),none)),(6,.inl (((-2147483648),2147483647,1),none))],[],[((19,13),(1,1,1),none),((19,18),((-2147483648),2147483647,1),none),((20,3),(5,12,1),none)]),(366,[]),0),
  (184,([(0,.inr (.inl [20])),(1,.inl ((1,1,1),none)),(2,.inl (((-2147483648),2147483647,1),some (.inr (18,0),some 0))),(3,.inl ((0,0,0),none)),(4,.inl ((19,19,13),none)),(5,.inl ((6,6,0),none)),(6,.inl (((-2147483648),2147483647,1),none))],[],[((19,13),(1,1,1),none),((20,3),(6,12,1),none)]),(323,[]),0),
  (56,([(0,.inr (.inl [20])),(1,.inl ((2,4,1),none)),(2,.inl (((-2147483648),2147483647,1),none)),(3,.inl (((-2147483648),2147483647,1),none)),(4,.inl ((32,58,13),none)),(5,.inl ((7,7,0),none)),(6,.inl (((-2147483648),2147483647,1),none))],[],[((20,3),(6,12,1),none)]),(1154,[]),0),
  (184,([(0,.inr (.inl [20])),(1,.inl ((2,4,1),none)),(2,.inl (((-2147483648),2147483647,1),none)),(3,.inl (((-2147483648),2147483647,1),none)),(4,.inl ((33,59,13),none)),(5,.inl ((7,7,0),none)),(6,.inl (((-2147483648),2147483647,1),none))],[],[((20,3),(7,12,1),none)]),(1079,[]),0),
  (56,([(0,.inr (.inl [20])),(1,.inl ((1,1,1),none)),(2,.inl (((-2147483648),2147483647,1),some (.inr (18,0),some 0))),(3,.inl ((0,0,0),none)),(4,.inl ((19,19,13),none)),(5,.inl ((7,7,0),none)),(6,.inl (((-2147483648),2147483647,1),none))],[],[((19,13),(1,1,1),none),((19,19),((-2147483648),2147483647,1),none),((20,3),(6,12,1),none)]),(316,[]),0),
  (184,([(0,.inr (.inl [20])),(1,.inl ((1,1,1),none)),(2,.inl (((-2147483648),2147483647,1),some (.inr (18,0),some 0))),(3,.inl ((0,0,0),none)),(4,.inl ((20,20,13),none)),(5,.inl ((7,7,0),none)),(6,.inl (((-2147483648),2147483647,1),none))],[],[((19,13),(1,1,1),none),((20,3),(7,12,1),none)]),(273,[]),0),
  (56,([(0,.inr (.inl [20])),(1,.inl ((2,4,1),none)),(2,.inl (((-2147483648),2147483647,1),none)),(3,.inl (((-2147483648),2147483647,1),none)),(4,.inl ((33,59,13),none)),(5,.inl ((8,8,0),none)),(6,.inl (((-2147483648),2147483647,1),none))],[],[((20,3),(7,12,1),none)]),(1072,[]),0),
  (184,([(0,.inr (.inl [20])),(1,.inl ((2,4,1),none)),(2,.inl (((-2147483648),2147483647,1),none)),(3,.inl (((-2147483648),2147483647,1),none)),(4,.inl ((34,60,13),none)),(5,.inl ((8,8,0),none)),(6,.inl (((-2147483648),2147483647,1),none))],[],[((20,3),(8,12,1),none)]),(997,[]),0),
  (56,([(0,.inr (.inl [20])),(1,.inl ((1,1,1),none)),(2,.inl (((-2147483648),2147483647,1),some (.inr (18,0),some 0))),(3,.inl ((0,0,0),none)),(4,.inl ((20,20,13),none)),(5,.inl ((8,8,0),none)),(6,.inl (((-2147483648),2147483647,1),none))],[],[((19,13),(1,1,1),none),((19,20),((-2147483648),2147483647,1),none),((20,3),(7,12,1),none)]),(266,[]),0),
  (184,([(0,.inr (.inl [20])),(1,.inl ((1,1,1),none)),(2,.inl (((-2147483648),2147483647,1),some (.inr (18,0),some 0))),(3,.inl ((0,0,0),none)),(4,.inl ((21,21,13),none)),(5,.inl ((8,8,0),none)),(6,.inl (((-2147483648),2147483647,1),none))],[],[((19,13),(1,1,1),none),((20,3),(8,12,1),none)]),(223,[]),0),
  (56,([(0,.inr (.inl [20])),(1,.inl ((2,4,1),none)),(2,.inl (((-2147483648),2147483647,1),none)),(3,.inl (((-2147483648),2147483647,1),none)),(4,.inl ((34,60,13),none)),(5,.inl ((9,9,0),none)),(6,.inl (((-2147483648),2147483647,1),none))],[],[((20,3),(8,12,1),none)]),(990,[]),0),
  (184,([(0,.inr (.inl [20])),(1,.inl ((2,4,1),none)),(2,.inl (((-2147483648),2147483647,1),none)),(3,.inl (((-2147483648),2147483647,1),none)),(4,.inl ((35,61,13),none)),(5,.inl ((9,9,0),none)),(6,.inl (((-2147483648),2147483647,1),none))],[],[((20,3),(9,12,1),none)]),(915,[]),0),
  (56,([(0,.inr (.inl [20])),(1,.inl ((1,1,1),none)),(2,.inl (((-2147483648),2147483647,1),some (.inr (18,0),some 0))),(3,.inl ((0,0,0),none)),(4,.inl ((21,21,13),none)),(5,.inl ((9,9,0),none)),(6,.inl (((-2147483648),2147483647,1),none))],[],[((19,13),(1,1,1),none),((19,21),((-2147483648),2147483647,1),none),((20,3),(8,12,1),none)]),(216,[]),0),
  (184,([(0,.inr (.inl [20])),(1,.inl ((1,1,1),none)),(2,.inl (((-2147483648),2147483647,1),some (.inr (18,0),some 0))),(3,.inl ((0,0,0),none)),(4,.inl ((22,22,13),none)),(5,.inl ((9,9,0),none)),(6,.inl (((-2147483648),2147483647,1),none))],[],[((19,13),(1,1,1),none),((20,3),(9,12,1),none)]),(173,[]),0),
  (56,([(0,.inr (.inl [20])),(1,.inl ((2,4,1),none)),(2,.inl (((-2147483648),2147483647,1),none)),(3,.inl (((-2147483648),2147483647,1),none)),(4,.inl ((35,61,13),none)),(5,.inl ((10,10,0),none)),(6,.inl (((-2147483648),2147483647,1),none))],[],[((20,3),(9,12,1),none)]),(908,[]),0),
  (184,([(0,.inr (.inl [20])),(1,.inl ((2,4,1),none)),(2,.inl (((-2147483648),2147483647,1),none)),(3,.inl (((-2147483648),2147483647,1),none)),(4,.inl ((36,62,13),none)),(5,.inl ((10,10,0),none)),(6,.inl (((-2147483648),2147483647,1),none))],[],[((20,3),(10,12,1),none)]),(833,[]),0),
  (56,([(0,.inr (.inl [20])),(1,.inl ((1,1,1),none)),(2,.inl (((-2147483648),2147483647,1),some (.inr (18,0),some 0))),(3,.inl ((0,0,0),none)),(4,.inl ((22,22,13),none)),(5,.inl ((10,10,0),none)),(6,.inl (((-2147483648),2147483647,1),none))],[],[((19,13),(1,1,1),none),((19,22),((-2147483648),2147483647,1),none),((20,3),(9,12,1),none)]),(166,[]),0),
  (184,([(0,.inr (.inl [20])),(1,.inl ((1,1,1),none)),(2,.inl (((-2147483648),2147483647,1),some (.inr (18,0),some 0))),(3,.inl ((0,0,0),none)),(4,.inl ((23,23,13),none)),(5,.inl ((10,10,0),none)),(6,.inl (((-2147483648),2147483647,1),none))],[],[((19,13),(1,1,1),none),((20,3),(10,12,1),none)]),(123,[]),0),
  (56,([(0,.inr (.inl [20])),(1,.inl ((2,4,1),none)),(2,.inl (((-2147483648),2147483647,1),none)),(3,.inl (((-2147483648),2147483647,1),none)),(4,.inl ((36,62,13),none)),(5,.inl ((11,11,0),none)),(6,.inl (((-2147483648),2147483647,1),none))],[],[((20,3),(10,12,1),none)]),(826,[]),0),
  (184,([(0,.inr (.inl [20])),(1,.inl ((2,4,1),none)),(2,.inl (((-2147483648),2147483647,1),none)),(3,.inl (((-2147483648),2147483647,1),none)),(4,.inl ((37,63,13),none)),(5,.inl ((11,11,0),none)),(6,.inl (((-2147483648),2147483647,1),none))],[],[((20,3),(11,12,1),none)]),(751,[]),0),
  (56,([(0,.inr (.inl [20])),(1,.inl ((1,1,1),none)),(2,.inl (((-2147483648),2147483647,1),some (.inr (18,0),some 0))),(3,.inl ((0,0,0),none)),(4,.inl ((23,23,13),none)),(5,.inl ((11,11,0),none)),(6,.inl (((-2147483648),2147483647,1),none))],[],[((19,13),(1,1,1),none),((19,23),((-2147483648),2147483647,1),none),((20,3),(10,12,1),none)]),(116,[]),0),
  (184,([(0,.inr (.inl [20])),(1,.inl ((1,1,1),none)),(2,.inl (((-2147483648),2147483647,1),some (.inr (18,0),some 0))),(3,.inl ((0,0,0),none)),(4,.inl ((24,24,13),none)),(5,.inl ((11,11,0),none)),(6,.inl (((-2147483648),2147483647,1),none))],[],[((19,13),(1,1,1),none),((20,3),(11,12,1),none)]),(73,[]),0),
  (56,([(0,.inr (.inl [20])),(1,.inl ((2,4,1),none)),(2,.inl (((-2147483648),2147483647,1),none)),(3,.inl (((-2147483648),2147483647,1),none)),(4,.inl ((37,63,13),none)),(5,.inl ((12,12,0),none)),(6,.inl (((-2147483648),2147483647,1),none))],[],[((20,3),(11,12,1),none)]),(744,[]),0),
  (184,([(0,.inr (.inl [20])),(1,.inl ((2,4,1),none)),(2,.inl (((-2147483648),2147483647,1),none)),(3,.inl (((-2147483648),2147483647,1),none)),(4,.inl ((38,64,13),none)),(5,.inl ((12,12,0),none)),(6,.inl (((-2147483648),2147483647,1),none))],[],[((20,3),(12,12,1),none)]),(669,[]),0),
  (56,([(0,.inr (.inl [20])),(1,.inl ((1,1,1),none)),(2,.inl (((-2147483648),2147483647,1),some (.inr (18,0),some 0))),(3,.inl ((0,0,0),none)),(4,.inl ((24,24,13),none)),(5,.inl ((12,12,0),none)),(6,.inl (((-2147483648),2147483647,1),none))],[],[((19,13),(1,1,1),none),((19,24),((-2147483648),2147483647,1),none),((20,3),(11,12,1),none)]),(66,[]),0),
  (184,([(0,.inr (.inl [20])),(1,.inl ((1,1,1),none)),(2,.inl (((-2147483648),2147483647,1),some (.inr (18,0),some 0))),(3,.inl ((0,0,0),none)),(4,.inl ((25,25,13),none)),(5,.inl ((12,12,0),none)),(6,.inl (((-2147483648),2147483647,1),none))],[],[((19,13),(1,1,1),none),((20,3),(12,12,1),none)]),(23,[]),0),
  (56,([(0,.inr (.inl [20])),(1,.inl ((2,4,1),none)),(2,.inl (((-2147483648),2147483647,1),none)),(3,.inl (((-2147483648),2147483647,1),none)),(4,.inl ((38,64,13),none)),(5,.inl ((13,13,0),none)),(6,.inl (((-2147483648),2147483647,1),none))],[],[((20,3),(12,12,1),none)]),(662,[]),0),
  (56,([(0,.inr (.inl [20])),(1,.inl ((1,1,1),none)),(2,.inl (((-2147483648),2147483647,1),some (.inr (18,0),some 0))),(3,.inl ((0,0,0),none)),(4,.inl ((25,25,13),none)),(5,.inl ((13,13,0),none)),(6,.inl (((-2147483648),2147483647,1),none))],[],[((19,13),(1,1,1),none),((19,25),((-2147483648),2147483647,1),none),((20,3),(12,12,1),none)]),(16,[]),0)]
set_option maxRecDepth 100000 in
theorem q194_ok : rf_chkB q194_P q194_U wLay q194_M ddX7_fillRow [] [] [0,56,184] 600 q194_N = true := by decide +kernel
set_option maxHeartbeats 4000000 in
theorem q194_met {G : rfG} (h : okG G) (hh : wHandOK G) : rf_met G q194_M := rf_methodB h.1 (P := q194_P) (U := q194_U) (N := q194_N) ⟨wflT h flokX7, wcsT h csokX7, wlcT h lcokX7, spokX7 h, fun _ h => absurd h List.not_mem_nil, fun _ h => absurd h List.not_mem_nil, fun _ h => absurd h List.not_mem_nil, fun _ h => absurd h List.not_mem_nil, List.forall_mem_cons.mpr ⟨⟨wmT h (wmem (i := 130) (by decide +kernel) (by decide +kernel)), fun h => absurd h (by decide), fun _ => ⟨wmT h (wmem (i := 919) (by decide +kernel) (by decide +kernel)), wmT h (wmem (i := 557) (by decide +kernel) (by decide +kernel)), wmT h (wmem (i := 558) (by decide +kernel) (by decide +kernel))⟩, fun h => absurd h (by decide)⟩, fun _ h => absurd h List.not_mem_nil⟩⟩ dkX7_fillRow (by decide +kernel) (by rw [h.2.2.1]; exact q194_ok)
/-- NearSpell.Ruler.fillRow -/
def q195_M : rfM := ((⟨"NearSpell$Ruler", "fillRow", "(I)V"⟩, prog_9_method_9_code, 7, none), (1,15), ([.inr (.inl [20]),.inl ((1,6,1),none)],[]), [(19,0)], [(none,[],[])])
def q195_P : rfP := (flX7,csX7,lcX7,spX7,[],[],[],([],[(44,1)]))
def q195_U : rfU := [(.inl 1,[((-2147483648),0),(1,1),(2,12),(13,2147483647)])]
set_option maxHeartbeats 8000000 in
def q195_N : List rfB := [(0,([(0,.inr (.inl [20])),(1,.inl ((1,6,1),none))],[],[]),(1653,[]),1000000),
  (56,([(0,.inr (.inl [20])),(1,.inl ((2,6,1),none)),(2,.inl (((-2147483648),2147483647,1),none)),(3,.inl (((-2147483648),2147483647,1),none)),(4,.inl ((26,78,13),none)),(5,.inl ((1,1,0),none))],[],[]),(1617,[]),0),
  (56,([(0,.inr (.inl [20])),(1,.inl ((1,1,1),none)),(2,.inl (((-2147483648),2147483647,1),some (.inr (18,0),some 0))),(3,.inl ((0,0,0),none)),(4,.inl ((13,13,13),none)),(5,.inl ((1,1,0),none))],[],[((19,13),(1,1,1),none)]),(616,[]),0),
  (184,([(0,.inr (.inl [20])),(1,.inl ((2,6,1),none)),(2,.inl (((-2147483648),2147483647,1),none)),(3,.inl (((-2147483648),2147483647,1),none)),(4,.inl ((27,79,13),none)),(5,.inl ((1,1,0),none)),(6,.inl (((-2147483648),2147483647,1),none))],[],[((20,3),(1,12,1),none)]),(1571,[]),0),
  (184,([(0,.inr (.inl [20])),(1,.inl ((1,1,1),none)),(2,.inl (((-2147483648),2147483647,1),some (.inr (18,0),some 0))),(3,.inl ((0,0,0),none)),(4,.inl ((14,14,13),none)),(5,.inl ((1,1,0),none)),(6,.inl (((-2147483648),2147483647,1),none))],[],[((19,13),(1,1,1),none),((20,3),(1,12,1),none)]),(573,[]),0),
  (56,([(0,.inr (.inl [20])),(1,.inl ((2,6,1),none)),(2,.inl (((-2147483648),2147483647,1),none)),(3,.inl (((-2147483648),2147483647,1),none)),(4,.inl ((27,79,13),none)),(5,.inl ((2,2,0),none)),(6,.inl (((-2147483648),2147483647,1),none))],[],[((20,3),(1,12,1),none)]),(1564,[]),0),
  (184,([(0,.inr (.inl [20])),(1,.inl ((2,6,1),none)),(2,.inl (((-2147483648),2147483647,1),none)),(3,.inl (((-2147483648),2147483647,1),none)),(4,.inl ((28,80,13),none)),(5,.inl ((2,2,0),none)),(6,.inl (((-2147483648),2147483647,1),none))],[],[((20,3),(2,12,1),none)]),(1489,[]),0),
  (56,([(0,.inr (.inl [20])),(1,.inl ((1,1,1),none)),(2,.inl (((-2147483648),2147483647,1),some (.inr (18,0),some 0))),(3,.inl ((0,0,0),none)),(4,.inl ((14,14,13),none)),(5,.inl ((2,2,0),none)),(6,.inl (((-2147483648),2147483647,1),none))],[],[((19,13),(1,1,1),none),((19,14),((-2147483648),2147483647,1),none),((20,3),(1,12,1),none)]),(566,[]),0),
  (184,([(0,.inr (.inl [20])),(1,.inl ((1,1,1),none)),(2,.inl (((-2147483648),2147483647,1),some (.inr (18,0),some 0))),(3,.inl ((0,0,0),none)),(4,.inl ((15,15,13),none)),(5,.inl ((2,2,0),none)),(6,.inl (((-2147483648),2147483647,1),none))],[],[((19,13),(1,1,1),none),((20,3),(2,12,1),none)]),(523,[]),0),
  (56,([(0,.inr (.inl [20])),(1,.inl ((2,6,1),none)),(2,.inl (((-2147483648),2147483647,1),none)),(3,.inl (((-2147483648),2147483647,1),none)),(4,.inl ((28,80,13),none)),(5,.inl ((3,3,0),none)),(6,.inl (((-2147483648),2147483647,1),none))],[],[((20,3),(2,12,1),none)]),(1482,[]),0),
  (184,([(0,.inr (.inl [20])),(1,.inl ((2,6,1),none)),(2,.inl (((-2147483648),2147483647,1),none)),(3,.inl (((-2147483648),2147483647,1),none)),(4,.inl ((29,81,13),none)),(5,.inl ((3,3,0),none)),(6,.inl (((-2147483648),2147483647,1),none))],[],[((20,3),(3,12,1),none)]),(1407,[]),0),
  (56,([(0,.inr (.inl [20])),(1,.inl ((1,1,1),none)),(2,.inl (((-2147483648),2147483647,1),some (.inr (18,0),some 0))),(3,.inl ((0,0,0),none)),(4,.inl ((15,15,13),none)),(5,.inl ((3,3,0),none)),(6,.inl (((-2147483648),2147483647,1),none))],[],[((19,13),(1,1,1),none),((19,15),((-2147483648),2147483647,1),none),((20,3),(2,12,1),none)]),(516,[]),0),
  (184,([(0,.inr (.inl [20])),(1,.inl ((1,1,1),none)),(2,.inl (((-2147483648),2147483647,1),some (.inr (18,0),some 0))),(3,.inl ((0,0,0),none)),(4,.inl ((16,16,13),none)),(5,.inl ((3,3,0),none)),(6,.inl (((-2147483648),2147483647,1),none))],[],[((19,13),(1,1,1),none),((20,3),(3,12,1),none)]),(473,[]),0),
  (56,([(0,.inr (.inl [20])),(1,.inl ((2,6,1),none)),(2,.inl (((-2147483648),2147483647,1),none)),(3,.inl (((-2147483648),2147483647,1),none)),(4,.inl ((29,81,13),none)),(5,.inl ((4,4,0),none)),(6,.inl (((-2147483648),2147483647,1),none))],[],[((20,3),(3,12,1),none)]),(1400,[]),0),
  (184,([(0,.inr (.inl [20])),(1,.inl ((2,6,1),none)),(2,.inl (((-2147483648),2147483647,1),none)),(3,.inl (((-2147483648),2147483647,1),none)),(4,.inl ((30,82,13),none)),(5,.inl ((4,4,0),none)),(6,.inl (((-2147483648),2147483647,1),none))],[],[((20,3),(4,12,1),none)]),(1325,[]),0),
  (56,([(0,.inr (.inl [20])),(1,.inl ((1,1,1),none)),(2,.inl (((-2147483648),2147483647,1),some (.inr (18,0),some 0))),(3,.inl ((0,0,0),none)),(4,.inl ((16,16,13),none)),(5,.inl ((4,4,0),none)),(6,.inl (((-2147483648),2147483647,1),none))],[],[((19,13),(1,1,1),none),((19,16),((-2147483648),2147483647,1),none),((20,3),(3,12,1),none)]),(466,[]),0),
  (184,([(0,.inr (.inl [20])),(1,.inl ((1,1,1),none)),(2,.inl (((-2147483648),2147483647,1),some (.inr (18,0),some 0))),(3,.inl ((0,0,0),none)),(4,.inl ((17,17,13),none)),(5,.inl ((4,4,0),none)),(6,.inl (((-2147483648),2147483647,1),none))],[],[((19,13),(1,1,1),none),((20,3),(4,12,1),none)]),(423,[]),0),
  (56,([(0,.inr (.inl [20])),(1,.inl ((2,6,1),none)),(2,.inl (((-2147483648),2147483647,1),none)),(3,.inl (((-2147483648),2147483647,1),none)),(4,.inl ((30,82,13),none)),(5,.inl ((5,5,0),none)),(6,.inl (((-2147483648),2147483647,1),none))],[],[((20,3),(4,12,1),none)]),(1318,[]),0),
  (184,([(0,.inr (.inl [20])),(1,.inl ((2,6,1),none)),(2,.inl (((-2147483648),2147483647,1),none)),(3,.inl (((-2147483648),2147483647,1),none)),(4,.inl ((31,83,13),none)),(5,.inl ((5,5,0),none)),(6,.inl (((-2147483648),2147483647,1),none))],[],[((20,3),(5,12,1),none)]),(1243,[]),0),
  (56,([(0,.inr (.inl [20])),(1,.inl ((1,1,1),none)),(2,.inl (((-2147483648),2147483647,1),some (.inr (18,0),some 0))),(3,.inl ((0,0,0),none)),(4,.inl ((17,17,13),none)),(5,.inl ((5,5,0),none)),(6,.inl (((-2147483648),2147483647,1),none))],[],[((19,13),(1,1,1),none),((19,17),((-2147483648),2147483647,1),none),((20,3),(4,12,1),none)]),(416,[]),0),
  (184,([(0,.inr (.inl [20])),(1,.inl ((1,1,1),none)),(2,.inl (((-2147483648),2147483647,1),some (.inr (18,0),some 0))),(3,.inl ((0,0,0),none)),(4,.inl ((18,18,13),none)),(5,.inl ((5,5,0),none)),(6,.inl (((-2147483648),2147483647,1),none))],[],[((19,13),(1,1,1),none),((20,3),(5,12,1),none)]),(373,[]),0),
  (56,([(0,.inr (.inl [20])),(1,.inl ((2,6,1),none)),(2,.inl (((-2147483648),2147483647,1),none)),(3,.inl (((-2147483648),2147483647,1),none)),(4,.inl ((31,83,13),none)),(5,.inl ((6,6,0),none)),(6,.inl (((-2147483648),2147483647,1),none))],[],[((20,3),(5,12,1),none)]),(1236,[]),0),
  (184,([(0,.inr (.inl [20])),(1,.inl ((2,6,1),none)),(2,.inl (((-2147483648),2147483647,1),none)),(3,.inl (((-2147483648),2147483647,1),none)),(4,.inl ((32,84,13),none)),(5,.inl ((6,6,0),none)),(6,.inl (((-2147483648),2147483647,1),none))],[],[((20,3),(6,12,1),none)]),(1161,[]),0),
  (56,([(0,.inr (.inl [20])),(1,.inl ((1,1,1),none)),(2,.inl (((-2147483648),2147483647,1),some (.inr (18,0),some 0))),(3,.inl ((0,0,0),none)),(4,.inl ((18,18,13),none)),(5,.inl ((6,6,0),none)),(6,.inl (((-2147483648),2147483647,1),none))],[],[((19,13),(1,1,1),none),((19,18),((-2147483648),2147483647,1),none),((20,3),(5,12,1),none)]),(366,[]),0),
  (184,([(0,.inr (.inl [20])),(1,.inl ((1,1,1),none)),(2,.inl (((-2147483648),2147483647,1),some (.inr (18,0),some 0))),(3,.inl ((0,0,0),none)),(4,.inl ((19,19,13),none)),(5,.inl ((6,6,0),none)),(6,.inl (((-2147483648),2147483647,1),none))],[],[((19,13),(1,1,1),none),((20,3),(6,12,1),none)]),(323,[]),0),
  (56,([(0,.inr (.inl [20])),(1,.inl ((2,6,1),none)),(2,.inl (((-2147483648),2147483647,1),none)),(3,.inl (((-2147483648),2147483647,1),none)),(4,.inl ((32,84,13),none)),(5,.inl ((7,7,0),none)),(6,.inl (((-2147483648),2147483647,1),none))],[],[((20,3),(6,12,1),none)]),(1154,[]),0),
  (184,([(0,.inr (.inl [20])),(1,.inl ((2,6,1),none)),(2,.inl (((-2147483648),2147483647,1),none)),(3,.inl (((-2147483648),2147483647,1),none)),(4,.inl ((33,85,13),none)),(5,.inl ((7,7,0),none)),(6,.inl (((-2147483648),2147483647,1),none))],[],[((20,3),(7,12,1),none)]),(1079,[]),0),
  (56,([(0,.inr (.inl [20])),(1,.inl ((1,1,1),none)),(2,.inl (((-2147483648),2147483647,1),some (.inr (18,0),some 0))),(3,.inl ((0,0,0),none)),(4,.inl ((19,19,13),none)),(5,.inl ((7,7,0),none)),(6,.inl (((-2147483648),2147483647,1),none))],[],[((19,13),(1,1,1),none),((19,19),((-2147483648),2147483647,1),none),((20,3),(6,12,1),none)]),(316,[]),0),
  (184,([(0,.inr (.inl [20])),(1,.inl ((1,1,1),none)),(2,.inl (((-2147483648),2147483647,1),some (.inr (18,0),some 0))),(3,.inl ((0,0,0),none)),(4,.inl ((20,20,13),none)),(5,.inl ((7,7,0),none)),(6,.inl (((-2147483648),2147483647,1),none))],[],[((19,13),(1,1,1),none),((20,3),(7,12,1),none)]),(273,[]),0),
  (56,([(0,.inr (.inl [20])),(1,.inl ((2,6,1),none)),(2,.inl (((-2147483648),2147483647,1),none)),(3,.inl (((-2147483648),2147483647,1),none)),(4,.inl ((33,85,13),none)),(5,.inl ((8,8,0),none)),(6,.inl (((-2147483648),2147483647,1),none))],[],[((20,3),(7,12,1),none)]),(1072,[]),0),
  (184,([(0,.inr (.inl [20])),(1,.inl ((2,6,1),none)),(2,.inl (((-2147483648),2147483647,1),none)),(3,.inl (((-2147483648),2147483647,1),none)),(4,.inl ((34,86,13),none)),(5,.inl ((8,8,0),none)),(6,.inl (((-2147483648),2147483647,1),none))],[],[((20,3),(8,12,1),none)]),(997,[]),0),
  (56,([(0,.inr (.inl [20])),(1,.inl ((1,1,1),none)),(2,.inl (((-2147483648),2147483647,1),some (.inr (18,0),some 0))),(3,.inl ((0,0,0),none)),(4,.inl ((20,20,13),none)),(5,.inl ((8,8,0),none)),(6,.inl (((-2147483648),2147483647,1),none))],[],[((19,13),(1,1,1),none),((19,20),((-2147483648),2147483647,1),none),((20,3),(7,12,1),none)]),(266,[]),0),
  (184,([(0,.inr (.inl [20])),(1,.inl ((1,1,1),none)),(2,.inl (((-2147483648),2147483647,1),some (.inr (18,0),some 0))),(3,.inl ((0,0,0),none)),(4,.inl ((21,21,13),none)),(5,.inl ((8,8,0),none)),(6,.inl (((-2147483648),2147483647,1),none))],[],[((19,13),(1,1,1),none),((20,3),(8,12,1),none)]),(223,[]),0),
  (56,([(0,.inr (.inl [20])),(1,.inl ((2,6,1),none)),(2,.inl (((-2147483648),2147483647,1),none)),(3,.inl (((-2147483648),2147483647,1),none)),(4,.inl ((34,86,13),none)),(5,.inl ((9,9,0),none)),(6,.inl (((-2147483648),2147483647,1),none))],[],[((20,3),(8,12,1),none)]),(990,[]),0),
  (184,([(0,.inr (.inl [20])),(1,.inl ((2,6,1),none)),(2,.inl (((-2147483648),2147483647,1),none)),(3,.inl (((-2147483648),2147483647,1),none)),(4,.inl ((35,87,13),none)),(5,.inl ((9,9,0),none)),(6,.inl (((-2147483648),2147483647,1),none))],[],[((20,3),(9,12,1),none)]),(915,[]),0),
  (56,([(0,.inr (.inl [20])),(1,.inl ((1,1,1),none)),(2,.inl (((-2147483648),2147483647,1),some (.inr (18,0),some 0))),(3,.inl ((0,0,0),none)),(4,.inl ((21,21,13),none)),(5,.inl ((9,9,0),none)),(6,.inl (((-2147483648),2147483647,1),none))],[],[((19,13),(1,1,1),none),((19,21),((-2147483648),2147483647,1),none),((20,3),(8,12,1),none)]),(216,[]),0),
  (184,([(0,.inr (.inl [20])),(1,.inl ((1,1,1),none)),(2,.inl (((-2147483648),2147483647,1),some (.inr (18,0),some 0))),(3,.inl ((0,0,0),none)),(4,.inl ((22,22,13),none)),(5,.inl ((9,9,0),none)),(6,.inl (((-2147483648),2147483647,1),none))],[],[((19,13),(1,1,1),none),((20,3),(9,12,1),none)]),(173,[]),0),
  (56,([(0,.inr (.inl [20])),(1,.inl ((2,6,1),none)),(2,.inl (((-2147483648),2147483647,1),none)),(3,.inl (((-2147483648),2147483647,1),none)),(4,.inl ((35,87,13),none)),(5,.inl ((10,10,0),none)),(6,.inl (((-2147483648),2147483647,1),none))],[],[((20,3),(9,12,1),none)]),(908,[]),0),
  (184,([(0,.inr (.inl [20])),(1,.inl ((2,6,1),none)),(2,.inl (((-2147483648),2147483647,1),none)),(3,.inl (((-2147483648),2147483647,1),none)),(4,.inl ((36,88,13),none)),(5,.inl ((10,10,0),none)),(6,.inl (((-2147483648),2147483647,1),none))],[],[((20,3),(10,12,1),none)]),(833,[]),0),
  (56,([(0,.inr (.inl [20])),(1,.inl ((1,1,1),none)),(2,.inl (((-2147483648),2147483647,1),some (.inr (18,0),some 0))),(3,.inl ((0,0,0),none)),(4,.inl ((22,22,13),none)),(5,.inl ((10,10,0),none)),(6,.inl (((-2147483648),2147483647,1),none))],[],[((19,13),(1,1,1),none),((19,22),((-2147483648),2147483647,1),none),((20,3),(9,12,1),none)]),(166,[]),0),
  (184,([(0,.inr (.inl [20])),(1,.inl ((1,1,1),none)),(2,.inl (((-2147483648),2147483647,1),some (.inr (18,0),some 0))),(3,.inl ((0,0,0),none)),(4,.inl ((23,23,13),none)),(5,.inl ((10,10,0),none)),(6,.inl (((-2147483648),2147483647,1),none))],[],[((19,13),(1,1,1),none),((20,3),(10,12,1),none)]),(123,[]),0),
  (56,([(0,.inr (.inl [20])),(1,.inl ((2,6,1),none)),(2,.inl (((-2147483648),2147483647,1),none)),(3,.inl (((-2147483648),2147483647,1),none)),(4,.inl ((36,88,13),none)),(5,.inl ((11,11,0),none)),(6,.inl (((-2147483648),2147483647,1),none))],[],[((20,3),(10,12,1),none)]),(826,[]),0),
  (184,([(0,.inr (.inl [20])),(1,.inl ((2,6,1),none)),(2,.inl (((-2147483648),2147483647,1),none)),(3,.inl (((-2147483648),2147483647,1),none)),(4,.inl ((37,89,13),none)),(5,.inl ((11,11,0),none)),(6,.inl (((-2147483648),2147483647,1),none))],[],[((20,3),(11,12,1),none)]),(751,[]),0),
  (56,([(0,.inr (.inl [20])),(1,.inl ((1,1,1),none)),(2,.inl (((-2147483648),2147483647,1),some (.inr (18,0),some 0))),(3,.inl ((0,0,0),none)),(4,.inl ((23,23,13),none)),(5,.inl ((11,11,0),none)),(6,.inl (((-2147483648),2147483647,1),none))],[],[((19,13),(1,1,1),none),((19,23),((-2147483648),2147483647,1),none),((20,3),(10,12,1),none)]),(116,[]),0),
  (184,([(0,.inr (.inl [20])),(1,.inl ((1,1,1),none)),(2,.inl (((-2147483648),2147483647,1),some (.inr (18,0),some 0))),(3,.inl ((0,0,0),none)),(4,.inl ((24,24,13),none)),(5,.inl ((11,11,0),none)),(6,.inl (((-2147483648),2147483647,1),none))],[],[((19,13),(1,1,1),none),((20,3),(11,12,1),none)]),(73,[]),0),
  (56,([(0,.inr (.inl [20])),(1,.inl ((2,6,1),none)),(2,.inl (((-2147483648),2147483647,1),none)),(3,.inl (((-2147483648),2147483647,1),none)),(4,.inl ((37,89,13),none)),(5,.inl ((12,12,0),none)),(6,.inl (((-2147483648),2147483647,1),none))],[],[((20,3),(11,12,1),none)]),(744,[]),0),
  (184,([(0,.inr (.inl [20])),(1,.inl ((2,6,1),none)),(2,.inl (((-2147483648),2147483647,1),none)),(3,.inl (((-2147483648),2147483647,1),none)),(4,.inl ((38,90,13),none)),(5,.inl ((12,12,0),none)),(6,.inl (((-2147483648),2147483647,1),none))],[],[((20,3),(12,12,1),none)]),(669,[]),0),
  (56,([(0,.inr (.inl [20])),(1,.inl ((1,1,1),none)),(2,.inl (((-2147483648),2147483647,1),some (.inr (18,0),some 0))),(3,.inl ((0,0,0),none)),(4,.inl ((24,24,13),none)),(5,.inl ((12,12,0),none)),(6,.inl (((-2147483648),2147483647,1),none))],[],[((19,13),(1,1,1),none),((19,24),((-2147483648),2147483647,1),none),((20,3),(11,12,1),none)]),(66,[]),0),
  (184,([(0,.inr (.inl [20])),(1,.inl ((1,1,1),none)),(2,.inl (((-2147483648),2147483647,1),some (.inr (18,0),some 0))),(3,.inl ((0,0,0),none)),(4,.inl ((25,25,13),none)),(5,.inl ((12,12,0),none)),(6,.inl (((-2147483648),2147483647,1),none))],[],[((19,13),(1,1,1),none),((20,3),(12,12,1),none)]),(23,[]),0),
  (56,([(0,.inr (.inl [20])),(1,.inl ((2,6,1),none)),(2,.inl (((-2147483648),2147483647,1),none)),(3,.inl (((-2147483648),2147483647,1),none)),(4,.inl ((38,90,13),none)),(5,.inl ((13,13,0),none)),(6,.inl (((-2147483648),2147483647,1),none))],[],[((20,3),(12,12,1),none)]),(662,[]),0),
  (56,([(0,.inr (.inl [20])),(1,.inl ((1,1,1),none)),(2,.inl (((-2147483648),2147483647,1),some (.inr (18,0),some 0))),(3,.inl ((0,0,0),none)),(4,.inl ((25,25,13),none)),(5,.inl ((13,13,0),none)),(6,.inl (((-2147483648),2147483647,1),none))],[],[((19,13),(1,1,1),none),((19,25),((-2147483648),2147483647,1),none),((20,3),(12,12,1),none)]),(16,[]),0)]
set_option maxRecDepth 100000 in
theorem q195_ok : rf_chkB q195_P q195_U wLay q195_M ddX7_fillRow [] [] [0,56,184] 600 q195_N = true := by decide +kernel
set_option maxHeartbeats 4000000 in
theorem q195_met {G : rfG} (h : okG G) (hh : wHandOK G) : rf_met G q195_M := rf_methodB h.1 (P := q195_P) (U := q195_U) (N := q195_N) ⟨wflT h flokX7, wcsT h csokX7, wlcT h lcokX7, spokX7 h, fun _ h => absurd h List.not_mem_nil, fun _ h => absurd h List.not_mem_nil, fun _ h => absurd h List.not_mem_nil, fun _ h => absurd h List.not_mem_nil, List.forall_mem_cons.mpr ⟨⟨wmT h (wmem (i := 130) (by decide +kernel) (by decide +kernel)), fun h => absurd h (by decide), fun _ => ⟨wmT h (wmem (i := 919) (by decide +kernel) (by decide +kernel)), wmT h (wmem (i := 557) (by decide +kernel) (by decide +kernel)), wmT h (wmem (i := 558) (by decide +kernel) (by decide +kernel))⟩, fun h => absurd h (by decide)⟩, fun _ h => absurd h List.not_mem_nil⟩⟩ dkX7_fillRow (by decide +kernel) (by rw [h.2.2.1]; exact q195_ok)
/-- NearSpell.Ruler.toLonger -/
def q196_M : rfM := ((⟨"NearSpell$Ruler", "toLonger", "(II)I"⟩, prog_9_method_7_code, 5, (some .int)), (2,46), ([.inr (.inl [20]),.inl ((0,0,0),none),.inl (((-2147483648),2147483647,1),none)],[]), [(18,0),(19,0),(20,5)], [(some (.inl (((-2147483648),2147483647,1),none)),[],[((20,4),(0,6,1),none)])])
def ddX7_toLonger : List (Nat × Instr × Nat) := [(0,.iconst 0,1),(1,.iload_n 1,1),(2,.aload_n 0,1),(3,.getfield 25,3),(6,.invokestatic 44,3),(9,.invokestatic 49,3),(12,.istore_n 3,1),(13,.aload_n 0,1),(14,.iload_n 2,1),(15,.aload_n 0,1),(16,.getfield 15,3),(19,.iload_n 3,1),(20,.invokestatic 36,3),(23,.putfield 25,3),(26,.iload_n 3,1),(27,.iconst 1,1),(28,.iadd,1),(29,.istore 4,2),(31,.iload 4,2),(33,.aload_n 0,1),(34,.getfield 25,3),(37,.if_icmp .gt 15,3),(40,.aload_n 0,1),(41,.iload 4,2),(43,.invokevirtual 52,3),(46,.iinc 4 1,3),(49,.goto (-18),3),(52,.aload_n 0,1),(53,.getfield 18,3),(56,.aload_n 0,1),(57,.getfield 25,3),(60,.bipush 13,2),(62,.imul,1),(63,.aload_n 0,1),(64,.getfield 21,3),(67,.iadd,1),(68,.iaload,1),(69,.ireturn,1)]
set_option maxRecDepth 100000 in
theorem dkX7_toLonger : rf_decs prog_9_method_7_code ddX7_toLonger := rf_decs_of (by decide +kernel)
def q196_P : rfP := (flX7,csX7,lcX7,spX7,[q190_M,q195_M],[(36,0)],[(52,1,7)],([],[(44,1),(49,0)]))
def q196_U : rfU := []
set_option maxHeartbeats 8000000 in
def q196_N : List rfB := [(0,([(0,.inr (.inl [20])),(1,.inl ((0,0,0),none)),(2,.inl (((-2147483648),2147483647,1),none))],[],[]),(138,[0]),0),
  (31,([(0,.inr (.inl [20])),(1,.inl ((0,0,0),none)),(2,.inl (((-2147483648),2147483647,1),none)),(3,.inl ((0,0,1),none)),(4,.inl ((1,11,1),none))],[],[((20,4),(0,6,1),none)]),(128,[(-10)]),0)]
set_option maxRecDepth 100000 in
theorem q196_ok : rf_chkB q196_P q196_U wLay q196_M ddX7_toLonger [(20,[0]),(43,[1])] [.inl 4] [0,31] 600 q196_N = true := by decide +kernel
set_option maxHeartbeats 4000000 in
theorem q196_met {G : rfG} (h : okG G) (hh : wHandOK G) : rf_met G q196_M := rf_methodB h.1 (P := q196_P) (U := q196_U) (N := q196_N) ⟨wflT h flokX7, wcsT h csokX7, wlcT h lcokX7, spokX7 h, List.forall_mem_cons.mpr ⟨q190_met h hh, List.forall_mem_cons.mpr ⟨q195_met h hh, fun _ h => absurd h List.not_mem_nil⟩⟩, List.forall_mem_cons.mpr ⟨fun M hM => Option.some.inj (show some q190_M = some M from hM) ▸ wlkS (lkX7_36 h) q190_M rfl rfl, fun _ h => absurd h List.not_mem_nil⟩, List.forall_mem_cons.mpr ⟨fun M hM => Option.some.inj (show some q195_M = some M from hM) ▸ wlkV (lkX7_52 h) q195_M rfl rfl, fun _ h => absurd h List.not_mem_nil⟩, fun _ h => absurd h List.not_mem_nil, List.forall_mem_cons.mpr ⟨⟨wmT h (wmem (i := 130) (by decide +kernel) (by decide +kernel)), fun h => absurd h (by decide), fun _ => ⟨wmT h (wmem (i := 919) (by decide +kernel) (by decide +kernel)), wmT h (wmem (i := 557) (by decide +kernel) (by decide +kernel)), wmT h (wmem (i := 558) (by decide +kernel) (by decide +kernel))⟩, fun h => absurd h (by decide)⟩, List.forall_mem_cons.mpr ⟨⟨wmT h (wmem (i := 130) (by decide +kernel) (by decide +kernel)), fun _ => ⟨wmT h (wmem (i := 920) (by decide +kernel) (by decide +kernel)), wmT h (wmem (i := 652) (by decide +kernel) (by decide +kernel)), wmT h (wmem (i := 653) (by decide +kernel) (by decide +kernel))⟩, fun h => absurd h (by decide), fun h => absurd h (by decide)⟩, fun _ h => absurd h List.not_mem_nil⟩⟩⟩ dkX7_toLonger (by decide +kernel) (by rw [h.2.2.1]; exact q196_ok)
/-- NearSpell.Ruler.to -/
def q197_M : rfM := ((⟨"NearSpell$Ruler", "to", "(I)I"⟩, prog_9_method_5_code, 2, (some .int)), (3,70), ([.inr (.inl [20]),.inl (((-2147483648),2147483647,1),none)],[]), [(18,0),(19,0),(20,5)], [(some (.inl (((-2147483648),2147483647,1),none)),[],[((20,4),(0,6,1),none)])])
def ddX7_to : List (Nat × Instr × Nat) := [(0,.aload_n 0,1),(1,.iconst 0,1),(2,.iload_n 1,1),(3,.invokevirtual 40,3),(6,.ireturn,1)]
set_option maxRecDepth 100000 in
theorem dkX7_to : rf_decs prog_9_method_5_code ddX7_to := rf_decs_of (by decide +kernel)
def q197_P : rfP := (flX7,csX7,lcX7,spX7,[q196_M],[],[(40,0,7)],([],[]))
def q197_U : rfU := []
set_option maxHeartbeats 8000000 in
def q197_N : List rfB := [(0,([(0,.inr (.inl [20])),(1,.inl (((-2147483648),2147483647,1),none))],[],[]),(4,[]),0)]
set_option maxRecDepth 100000 in
theorem q197_ok : rf_chkB q197_P q197_U wLay q197_M ddX7_to [(3,[0])] [] [0] 600 q197_N = true := by decide +kernel
set_option maxHeartbeats 4000000 in
theorem q197_met {G : rfG} (h : okG G) (hh : wHandOK G) : rf_met G q197_M := rf_methodB h.1 (P := q197_P) (U := q197_U) (N := q197_N) ⟨wflT h flokX7, wcsT h csokX7, wlcT h lcokX7, spokX7 h, List.forall_mem_cons.mpr ⟨q196_met h hh, fun _ h => absurd h List.not_mem_nil⟩, fun _ h => absurd h List.not_mem_nil, List.forall_mem_cons.mpr ⟨fun M hM => Option.some.inj (show some q196_M = some M from hM) ▸ wlkV (lkX7_40 h) q196_M rfl rfl, fun _ h => absurd h List.not_mem_nil⟩, fun _ h => absurd h List.not_mem_nil, fun _ h => absurd h List.not_mem_nil⟩ dkX7_to (by decide +kernel) (by rw [h.2.2.1]; exact q197_ok)
/-- NearSpell.Finder.within -/
def q198_M : rfM := ((⟨"NearSpell$Finder", "within", "(II)I"⟩, prog_4_method_4_code, 5, (some .int)), (4,91), ([.inr (.inl [55]),.inl ((0,387420488,1),none),.inl ((6,6,0),none)],[]), [(17,0),(18,0),(19,0),(20,4),(20,5),(54,0)], [(some (.inl ((0,2147483647,1),none)),[],[((20,3),(0,6,1),none),((20,4),(0,6,1),none)])])
def ddX2_within : List (Nat × Instr × Nat) := [(0,.aload_n 0,1),(1,.getfield 23,3),(4,.iload_n 1,1),(5,.invokevirtual 60,3),(8,.iconst 0,1),(9,.istore_n 3,1),(10,.iconst 0,1),(11,.istore 4,2),(13,.iload 4,2),(15,.aload_n 0,1),(16,.getfield 15,3),(19,.invokevirtual 43,3),(22,.if_icmp .ge 73,3),(25,.iload 4,2),(27,.bipush 14,2),(29,.if_icmp .ge 66,3),(32,.aload_n 0,1),(33,.getfield 15,3),(36,.iload 4,2),(38,.invokevirtual 49,3),(41,.ifCond .eq 48,3),(44,.aload_n 0,1),(45,.getfield 27,3),(48,.iload 4,2),(50,.aload_n 0,1),(51,.getfield 23,3),(54,.aload_n 0,1),(55,.getfield 15,3),(58,.iload 4,2),(60,.invokevirtual 66,3),(63,.invokevirtual 70,3),(66,.iastore,1),(67,.iload_n 3,1),(68,.aload_n 0,1),(69,.getfield 27,3),(72,.iload 4,2),(74,.iaload,1),(75,.iload_n 2,1),(76,.if_icmp .gt 10,3),(79,.iconst 1,1),(80,.iload 4,2),(82,.ishl,1),(83,.goto 4,3),(86,.iconst 0,1),(87,.ior,1),(88,.istore_n 3,1),(89,.iinc 4 1,3),(92,.goto (-79),3),(95,.iload_n 3,1),(96,.ireturn,1)]
set_option maxRecDepth 100000 in
theorem dkX2_within : rf_decs prog_4_method_4_code ddX2_within := rf_decs_of (by decide +kernel)
def q198_P : rfP := (flX2,csX2,lcX2,spX2,[q189_M,q176_M,q174_M,q99_M,q197_M],[],[(43,1,8),(49,2,8),(60,0,7),(66,3,8),(70,4,7)],([],[]))
def q198_U : rfU := []
set_option maxHeartbeats 8000000 in
def q198_N : List rfB := [(0,([(0,.inr (.inl [55])),(1,.inl ((0,387420488,1),none)),(2,.inl ((6,6,0),none))],[],[]),(654,[0]),0),
  (13,([(0,.inr (.inl [55])),(1,.inl ((0,387420488,1),none)),(2,.inl ((6,6,0),none)),(3,.inl ((0,2147483647,1),none)),(4,.inl ((0,14,1),none))],[],[((20,3),(0,6,1),none),((20,4),(0,6,1),none)]),(644,[(-43)]),0),
  (89,([(0,.inr (.inl [55])),(1,.inl ((0,387420488,1),none)),(2,.inl ((6,6,0),none)),(3,.inl ((0,2147483647,1),none)),(4,.inl ((0,13,1),none))],[],[((20,3),(0,6,1),none),((20,4),(0,6,1),none)]),(604,[(-43)]),0),
  (88,([(0,.inr (.inl [55])),(1,.inl ((0,387420488,1),none)),(2,.inl ((6,6,0),none)),(3,.inl ((0,2147483647,1),none)),(4,.inl ((0,13,1),none))],[.inl ((0,2147483647,1),none)],[((12,34),(1,14,1),none),((20,3),(0,6,1),none),((20,4),(0,6,1),none)]),(606,[(-43)]),0)]
set_option maxRecDepth 100000 in
theorem q198_ok : rf_chkB q198_P q198_U wLay q198_M ddX2_within [(5,[0]),(19,[1]),(38,[2]),(60,[3]),(63,[4])] [.inl 4] [0,13,88,89] 600 q198_N = true := by decide +kernel
set_option maxHeartbeats 4000000 in
theorem q198_met {G : rfG} (h : okG G) (hh : wHandOK G) : rf_met G q198_M := rf_methodB h.1 (P := q198_P) (U := q198_U) (N := q198_N) ⟨wflT h flokX2, wcsT h csokX2, wlcT h lcokX2, spokX2 h, List.forall_mem_cons.mpr ⟨q189_met h hh, List.forall_mem_cons.mpr ⟨q176_met h hh, List.forall_mem_cons.mpr ⟨q174_met h hh, List.forall_mem_cons.mpr ⟨q99_met h hh, List.forall_mem_cons.mpr ⟨q197_met h hh, fun _ h => absurd h List.not_mem_nil⟩⟩⟩⟩⟩, fun _ h => absurd h List.not_mem_nil, List.forall_mem_cons.mpr ⟨fun M hM => Option.some.inj (show some q176_M = some M from hM) ▸ wlkV (lkX2_43 h) q176_M rfl rfl, List.forall_mem_cons.mpr ⟨fun M hM => Option.some.inj (show some q174_M = some M from hM) ▸ wlkV (lkX2_49 h) q174_M rfl rfl, List.forall_mem_cons.mpr ⟨fun M hM => Option.some.inj (show some q189_M = some M from hM) ▸ wlkV (lkX2_60 h) q189_M rfl rfl, List.forall_mem_cons.mpr ⟨fun M hM => Option.some.inj (show some q99_M = some M from hM) ▸ wlkV (lkX2_66 h) q99_M rfl rfl, List.forall_mem_cons.mpr ⟨fun M hM => Option.some.inj (show some q197_M = some M from hM) ▸ wlkV (lkX2_70 h) q197_M rfl rfl, fun _ h => absurd h List.not_mem_nil⟩⟩⟩⟩⟩, fun _ h => absurd h List.not_mem_nil, fun _ h => absurd h List.not_mem_nil⟩ dkX2_within (by decide +kernel) (by rw [h.2.2.1]; exact q198_ok)
/-- NearSpell.beginningOf -/
def q199_M : rfM := ((⟨"NearSpell", "beginningOf", "(II)I"⟩, prog_1_method_55_code, 3, (some .int)), (1,21), ([.inl ((0,387420488,1),none),.inl ((1,6,1),none)],[]), [], [(some (.inl (((-2147483648),2147483647,1),none)),[],[])])
def q199_P : rfP := (flX11,csX11,lcX11,spX11,[q187_M],[(148,0)],[],([],[]))
def q199_U : rfU := []
set_option maxHeartbeats 8000000 in
def q199_N : List rfB := [(0,([(0,.inl ((0,387420488,1),none)),(1,.inl ((1,6,1),none))],[],[]),(17,[]),0),
  (28,([(0,.inl ((0,387420488,1),none)),(1,.inl ((1,6,1),none)),(2,.inl (((-6),5,1),none))],[.inl (((-2147483648),2147483647,1),none)],[]),(0,[]),0)]
set_option maxRecDepth 100000 in
theorem q199_ok : rf_chkB q199_P q199_U wLay q199_M ddX11_beginningOf [(1,[0])] [] [0,28] 600 q199_N = true := by decide +kernel
set_option maxHeartbeats 4000000 in
theorem q199_met {G : rfG} (h : okG G) (hh : wHandOK G) : rf_met G q199_M := rf_methodB h.1 (P := q199_P) (U := q199_U) (N := q199_N) ⟨wflT h flokX11, wcsT h csokX11, wlcT h lcokX11, spokX11 h, List.forall_mem_cons.mpr ⟨q187_met h hh, fun _ h => absurd h List.not_mem_nil⟩, List.forall_mem_cons.mpr ⟨fun M hM => Option.some.inj (show some q187_M = some M from hM) ▸ wlkS (lkX11_148 h) q187_M rfl rfl, fun _ h => absurd h List.not_mem_nil⟩, fun _ h => absurd h List.not_mem_nil, fun _ h => absurd h List.not_mem_nil, fun _ h => absurd h List.not_mem_nil⟩ dkX11_beginningOf (by decide +kernel) (by rw [h.2.2.1]; exact q199_ok)
/-- NearSpell.FormList.add -/
def q200_M : rfM := ((⟨"NearSpell$FormList", "add", "(I)V"⟩, prog_5_method_4_code, 4, none), (0,0), ([.inr (.inl [50]),.inl (((-2147483648),2147483647,1),none)],[]), [(49,0),(50,2)], [(none,[],[])])
def q200_P : rfP := (flX3,csX3,lcX3,spX3,[],[],[],([],[]))
def q200_U : rfU := [(.inr (50,1),[(0,21),(22,22)])]
set_option maxHeartbeats 8000000 in
def q200_N : List rfB := [(0,([(0,.inr (.inl [50])),(1,.inl (((-2147483648),2147483647,1),none))],[],[]),(992,[0,0]),1000000),
  (5,([(0,.inr (.inl [50])),(1,.inl (((-2147483648),2147483647,1),none)),(2,.inl ((0,22,1),none))],[],[((50,1),(22,22,1),none)]),(700,[13,0]),0),
  (5,([(0,.inr (.inl [50])),(1,.inl (((-2147483648),2147483647,1),none)),(2,.inl ((0,21,1),none))],[],[((50,1),(0,21,1),none)]),(394,[13,0]),0),
  (27,([(0,.inr (.inl [50])),(1,.inl (((-2147483648),2147483647,1),none)),(2,.inl ((0,21,1),none))],[],[((50,1),(0,21,1),none)]),(383,[0,0]),0),
  (27,([(0,.inr (.inl [50])),(1,.inl (((-2147483648),2147483647,1),none)),(2,.inl ((0,22,1),none))],[],[((50,1),(22,22,1),none)]),(689,[0,0]),0),
  (43,([(0,.inr (.inl [50])),(1,.inl (((-2147483648),2147483647,1),none)),(2,.inl ((0,21,1),none))],[],[((50,1),(0,21,1),none)]),(372,[0,0]),0),
  (43,([(0,.inr (.inl [50])),(1,.inl (((-2147483648),2147483647,1),none)),(2,.inl ((0,22,1),none))],[],[((50,1),(22,22,1),none)]),(679,[0,0]),0),
  (55,([(0,.inr (.inl [50])),(1,.inl (((-2147483648),2147483647,1),none)),(2,.inl ((1,21,1),none))],[],[((50,1),(0,21,1),none)]),(373,[0,0]),0),
  (55,([(0,.inr (.inl [50])),(1,.inl (((-2147483648),2147483647,1),none)),(2,.inl ((0,22,1),none))],[],[((50,1),(22,22,1),none)]),(673,[0,0]),0),
  (61,([(0,.inr (.inl [50])),(1,.inl (((-2147483648),2147483647,1),none)),(2,.inl ((0,21,1),none)),(3,.inl ((0,21,1),none))],[],[((50,1),(0,21,1),none)]),(25,[0,16]),0)]
set_option maxRecDepth 100000 in
theorem q200_ok : rf_chkB q200_P q200_U wLay q200_M ddX3_add [] [.inl 2,.inl 3] [0,5,27,43,55,61] 600 q200_N = true := by decide +kernel
set_option maxHeartbeats 4000000 in
theorem q200_met {G : rfG} (h : okG G) (hh : wHandOK G) : rf_met G q200_M := rf_methodB h.1 (P := q200_P) (U := q200_U) (N := q200_N) ⟨wflT h flokX3, wcsT h csokX3, wlcT h lcokX3, spokX3 h, fun _ h => absurd h List.not_mem_nil, fun _ h => absurd h List.not_mem_nil, fun _ h => absurd h List.not_mem_nil, fun _ h => absurd h List.not_mem_nil, fun _ h => absurd h List.not_mem_nil⟩ dkX3_add (by decide +kernel) (by rw [h.2.2.1]; exact q200_ok)
/-- NearSpell.FormList.add -/
def q201_M : rfM := ((⟨"NearSpell$FormList", "add", "(I)V"⟩, prog_5_method_4_code, 4, none), (0,0), ([.inr (.inl [50]),.inl (((-2147483648),387420488,1),none)],[]), [(49,0),(50,2)], [(none,[],[])])
def q201_P : rfP := (flX3,csX3,lcX3,spX3,[],[],[],([],[]))
def q201_U : rfU := [(.inr (50,1),[(0,21),(22,22)])]
set_option maxHeartbeats 8000000 in
def q201_N : List rfB := [(0,([(0,.inr (.inl [50])),(1,.inl (((-2147483648),387420488,1),none))],[],[]),(992,[0,0]),1000000),
  (5,([(0,.inr (.inl [50])),(1,.inl (((-2147483648),387420488,1),none)),(2,.inl ((0,22,1),none))],[],[((50,1),(22,22,1),none)]),(700,[13,0]),0),
  (5,([(0,.inr (.inl [50])),(1,.inl (((-2147483648),387420488,1),none)),(2,.inl ((0,21,1),none))],[],[((50,1),(0,21,1),none)]),(394,[13,0]),0),
  (27,([(0,.inr (.inl [50])),(1,.inl (((-2147483648),387420488,1),none)),(2,.inl ((0,21,1),none))],[],[((50,1),(0,21,1),none)]),(383,[0,0]),0),
  (27,([(0,.inr (.inl [50])),(1,.inl (((-2147483648),387420488,1),none)),(2,.inl ((0,22,1),none))],[],[((50,1),(22,22,1),none)]),(689,[0,0]),0),
  (43,([(0,.inr (.inl [50])),(1,.inl (((-2147483648),387420488,1),none)),(2,.inl ((0,21,1),none))],[],[((50,1),(0,21,1),none)]),(372,[0,0]),0),
  (43,([(0,.inr (.inl [50])),(1,.inl (((-2147483648),387420488,1),none)),(2,.inl ((0,22,1),none))],[],[((50,1),(22,22,1),none)]),(679,[0,0]),0),
  (55,([(0,.inr (.inl [50])),(1,.inl (((-2147483648),387420488,1),none)),(2,.inl ((1,21,1),none))],[],[((50,1),(0,21,1),none)]),(373,[0,0]),0),
  (55,([(0,.inr (.inl [50])),(1,.inl (((-2147483648),387420488,1),none)),(2,.inl ((0,22,1),none))],[],[((50,1),(22,22,1),none)]),(673,[0,0]),0),
  (61,([(0,.inr (.inl [50])),(1,.inl (((-2147483648),387420488,1),none)),(2,.inl ((0,21,1),none)),(3,.inl ((0,21,1),none))],[],[((50,1),(0,21,1),none)]),(25,[0,16]),0)]
set_option maxRecDepth 100000 in
theorem q201_ok : rf_chkB q201_P q201_U wLay q201_M ddX3_add [] [.inl 2,.inl 3] [0,5,27,43,55,61] 600 q201_N = true := by decide +kernel
set_option maxHeartbeats 4000000 in
theorem q201_met {G : rfG} (h : okG G) (hh : wHandOK G) : rf_met G q201_M := rf_methodB h.1 (P := q201_P) (U := q201_U) (N := q201_N) ⟨wflT h flokX3, wcsT h csokX3, wlcT h lcokX3, spokX3 h, fun _ h => absurd h List.not_mem_nil, fun _ h => absurd h List.not_mem_nil, fun _ h => absurd h List.not_mem_nil, fun _ h => absurd h List.not_mem_nil, fun _ h => absurd h List.not_mem_nil⟩ dkX3_add (by decide +kernel) (by rw [h.2.2.1]; exact q201_ok)
/-- NearSpell.FormList.shorten -/
def q202_M : rfM := ((⟨"NearSpell$FormList", "shorten", "(I)V"⟩, prog_5_method_3_code, 6, none), (1,23), ([.inr (.inl [50]),.inl (((-2147483648),2147483647,1),none)],[]), [(49,0),(50,2)], [(none,[],[])])
def q202_P : rfP := (flX3,csX3,lcX3,spX3,[q100_M,q125_M,q200_M,q128_M],[(39,0),(43,1),(43,3)],[(32,2,3)],([],[]))
def q202_U : rfU := []
set_option maxHeartbeats 8000000 in
def q202_N : List rfB := [(0,([(0,.inr (.inl [50])),(1,.inl (((-2147483648),2147483647,1),none))],[],[]),(2852,[0,0]),0),
  (7,([(0,.inr (.inl [50])),(1,.inl (((-2147483648),2147483647,1),none)),(2,.inl ((0,6,1),none)),(3,.inl ((0,12,1),none))],[],[]),(2845,[(-219),0]),0),
  (28,([(0,.inr (.inl [50])),(1,.inl (((-2147483648),2147483647,1),none)),(2,.inl ((1,6,1),none)),(3,.inl ((0,11,1),none)),(4,.inl (((-2147483648),2147483647,1),none)),(5,.inl ((0,11,1),none))],[],[]),(2831,[(-219),(-17)]),0),
  (61,([(0,.inr (.inl [50])),(1,.inl (((-2147483648),2147483647,1),none)),(2,.inl ((1,6,1),none)),(3,.inl ((0,11,1),none)),(4,.inl (((-2147483648),2147483647,1),none)),(5,.inl ((0,11,1),none))],[],[]),(2629,[(-219),0]),0)]
set_option maxRecDepth 100000 in
theorem q202_ok : rf_chkB q202_P q202_U wLay q202_M ddX3_shorten [(1,[0]),(14,[3]),(22,[2]),(49,[1]),(52,[2])] [.inl 3,.inl 5] [0,7,28,61] 600 q202_N = true := by decide +kernel
set_option maxHeartbeats 4000000 in
theorem q202_met {G : rfG} (h : okG G) (hh : wHandOK G) : rf_met G q202_M := rf_methodB h.1 (P := q202_P) (U := q202_U) (N := q202_N) ⟨wflT h flokX3, wcsT h csokX3, wlcT h lcokX3, spokX3 h, List.forall_mem_cons.mpr ⟨q100_met h hh, List.forall_mem_cons.mpr ⟨q125_met h hh, List.forall_mem_cons.mpr ⟨q200_met h hh, List.forall_mem_cons.mpr ⟨q128_met h hh, fun _ h => absurd h List.not_mem_nil⟩⟩⟩⟩, List.forall_mem_cons.mpr ⟨fun M hM => Option.some.inj (show some q100_M = some M from hM) ▸ wlkS (lkX3_39 h) q100_M rfl rfl, List.forall_mem_cons.mpr ⟨fun M hM => Option.some.inj (show some q125_M = some M from hM) ▸ wlkS (lkX3_43 h) q125_M rfl rfl, List.forall_mem_cons.mpr ⟨fun M hM => Option.some.inj (show some q128_M = some M from hM) ▸ wlkS (lkX3_43 h) q128_M rfl rfl, fun _ h => absurd h List.not_mem_nil⟩⟩⟩, List.forall_mem_cons.mpr ⟨fun M hM => Option.some.inj (show some q200_M = some M from hM) ▸ wlkV (lkX3_32 h) q200_M rfl rfl, fun _ h => absurd h List.not_mem_nil⟩, fun _ h => absurd h List.not_mem_nil, fun _ h => absurd h List.not_mem_nil⟩ dkX3_shorten (by decide +kernel) (by rw [h.2.2.1]; exact q202_ok)
/-- NearSpell.FormList.fill -/
def q203_M : rfM := ((⟨"NearSpell$FormList", "fill", "(III)V"⟩, prog_5_method_2_code, 5, none), (2,48), ([.inr (.inl [50]),.inl ((0,387420488,1),none),.inl ((1,6,1),none),.inl ((0,2,1),none)],[]), [(49,0),(50,2),(50,3),(50,4),(50,5)], [(none,[],[((50,2),(0,387420488,1),none),((50,3),(1,6,1),none),((50,4),(0,2,1),none)])])
def q203_P : rfP := (flX3,csX3,lcX3,spX3,[q199_M,q200_M,q202_M],[(28,0)],[(32,1,3),(36,2,3)],([],[]))
def q203_U : rfU := []
set_option maxHeartbeats 8000000 in
def q203_N : List rfB := [(0,([(0,.inr (.inl [50])),(1,.inl ((0,387420488,1),none)),(2,.inl ((1,6,1),none)),(3,.inl ((0,2,1),none))],[],[]),(40,[]),0),
  (25,([(0,.inr (.inl [50])),(1,.inl ((0,387420488,1),none)),(2,.inl ((1,6,1),none)),(3,.inl ((0,2,1),none))],[],[]),(27,[]),0),
  (77,([(0,.inr (.inl [50])),(1,.inl ((0,387420488,1),none)),(2,.inl ((1,6,1),none)),(3,.inl ((0,2,1),none)),(4,.inl (((-2147483648),2147483647,1),none))],[],[((50,2),(0,387420488,1),none),((50,3),(1,6,1),none),((50,4),(0,2,1),none)]),(0,[]),0)]
set_option maxRecDepth 100000 in
theorem q203_ok : rf_chkB q203_P q203_U wLay q203_M ddX3_fill [(53,[0]),(61,[1]),(74,[2])] [] [0,25,77] 600 q203_N = true := by decide +kernel
set_option maxHeartbeats 4000000 in
theorem q203_met {G : rfG} (h : okG G) (hh : wHandOK G) : rf_met G q203_M := rf_methodB h.1 (P := q203_P) (U := q203_U) (N := q203_N) ⟨wflT h flokX3, wcsT h csokX3, wlcT h lcokX3, spokX3 h, List.forall_mem_cons.mpr ⟨q199_met h hh, List.forall_mem_cons.mpr ⟨q200_met h hh, List.forall_mem_cons.mpr ⟨q202_met h hh, fun _ h => absurd h List.not_mem_nil⟩⟩⟩, List.forall_mem_cons.mpr ⟨fun M hM => Option.some.inj (show some q199_M = some M from hM) ▸ wlkS (lkX3_28 h) q199_M rfl rfl, fun _ h => absurd h List.not_mem_nil⟩, List.forall_mem_cons.mpr ⟨fun M hM => Option.some.inj (show some q200_M = some M from hM) ▸ wlkV (lkX3_32 h) q200_M rfl rfl, List.forall_mem_cons.mpr ⟨fun M hM => Option.some.inj (show some q202_M = some M from hM) ▸ wlkV (lkX3_36 h) q202_M rfl rfl, fun _ h => absurd h List.not_mem_nil⟩⟩, fun _ h => absurd h List.not_mem_nil, fun _ h => absurd h List.not_mem_nil⟩ dkX3_fill (by decide +kernel) (by rw [h.2.2.1]; exact q203_ok)
/-- NearSpell.Laid.formsFor -/
def q204_M : rfM := ((⟨"NearSpell$Laid", "formsFor", "(I)LNearSpell$FormList;"⟩, prog_6_method_2_code, 2, (some (.object "NearSpell$FormList"))), (3,72), ([.inr (.inl [53]),.inl ((0,387420488,1),none)],[]), [(49,0),(50,2),(50,3),(50,4),(50,5)], [(some (.inr (.inl [50])),[],[((50,2),(0,387420488,1),none),((50,3),(1,6,1),none),((50,4),(0,2,1),none)])])
def ddX4_formsFor : List (Nat × Instr × Nat) := [(0,.aload_n 0,1),(1,.getfield 26,3),(4,.iload_n 1,1),(5,.aload_n 0,1),(6,.getfield 9,3),(9,.getfield 34,3),(12,.aload_n 0,1),(13,.getfield 9,3),(16,.getfield 40,3),(19,.invokevirtual 43,3),(22,.aload_n 0,1),(23,.getfield 26,3),(26,.areturn,1)]
set_option maxRecDepth 100000 in
theorem dkX4_formsFor : rf_decs prog_6_method_2_code ddX4_formsFor := rf_decs_of (by decide +kernel)
def q204_P : rfP := (flX4,csX4,lcX4,spX4,[q203_M],[],[(43,0,3)],([],[]))
def q204_U : rfU := []
set_option maxHeartbeats 8000000 in
def q204_N : List rfB := [(0,([(0,.inr (.inl [53])),(1,.inl ((0,387420488,1),none))],[],[]),(12,[]),0)]
set_option maxRecDepth 100000 in
theorem q204_ok : rf_chkB q204_P q204_U wLay q204_M ddX4_formsFor [(19,[0])] [] [0] 600 q204_N = true := by decide +kernel
set_option maxHeartbeats 4000000 in
theorem q204_met {G : rfG} (h : okG G) (hh : wHandOK G) : rf_met G q204_M := rf_methodB h.1 (P := q204_P) (U := q204_U) (N := q204_N) ⟨wflT h flokX4, wcsT h csokX4, wlcT h lcokX4, spokX4 h, List.forall_mem_cons.mpr ⟨q203_met h hh, fun _ h => absurd h List.not_mem_nil⟩, fun _ h => absurd h List.not_mem_nil, List.forall_mem_cons.mpr ⟨fun M hM => Option.some.inj (show some q203_M = some M from hM) ▸ wlkV (lkX4_43 h) q203_M rfl rfl, fun _ h => absurd h List.not_mem_nil⟩, fun _ h => absurd h List.not_mem_nil, fun _ h => absurd h List.not_mem_nil⟩ dkX4_formsFor (by decide +kernel) (by rw [h.2.2.1]; exact q204_ok)
/-- NearSpell.Laid.formsOf -/
def q205_M : rfM := ((⟨"NearSpell$Laid", "formsOf", "(I)LNearSpell$FormList;"⟩, prog_6_method_3_code, 2, (some (.object "NearSpell$FormList"))), (3,72), ([.inr (.inl [53]),.inl ((0,0,0),none)],[]), [(21,0),(22,2),(22,3),(22,4),(22,5),(23,0),(24,2),(24,3),(24,4),(24,5),(25,0),(26,2),(26,3),(26,4),(26,5),(27,0),(28,2),(28,3),(28,4),(28,5),(29,0),(30,2),(30,3),(30,4),(30,5),(31,0),(32,2),(32,3),(32,4),(32,5),(33,0),(34,2),(34,3),(34,4),(34,5),(35,0),(36,2),(36,3),(36,4),(36,5),(37,0),(38,2),(38,3),(38,4),(38,5),(39,0),(40,2),(40,3),(40,4),(40,5),(41,0),(42,2),(42,3),(42,4),(42,5),(43,0),(44,2),(44,3),(44,4),(44,5),(45,0),(46,2),(46,3),(46,4),(46,5),(47,0),(48,2),(48,3),(48,4),(48,5)], [(some (.inr (.inl [22,24,26,28,30,32,34,36,38,40,42,44,46,48])),[],[])])
def q205_P : rfP := (flX4,csX4,lcX4,spX4,[q161_M,q156_M],[],[(43,1,3),(51,0,8)],([],[]))
def q205_U : rfU := []
set_option maxHeartbeats 8000000 in
def q205_N : List rfB := [(0,([(0,.inr (.inl [53])),(1,.inl ((0,0,0),none))],[],[]),(24,[]),0)]
set_option maxRecDepth 100000 in
theorem q205_ok : rf_chkB q205_P q205_U wLay q205_M ddX4_formsOf [(27,[0]),(44,[1])] [] [0] 600 q205_N = true := by decide +kernel
set_option maxHeartbeats 4000000 in
theorem q205_met {G : rfG} (h : okG G) (hh : wHandOK G) : rf_met G q205_M := rf_methodB h.1 (P := q205_P) (U := q205_U) (N := q205_N) ⟨wflT h flokX4, wcsT h csokX4, wlcT h lcokX4, spokX4 h, List.forall_mem_cons.mpr ⟨q161_met h hh, List.forall_mem_cons.mpr ⟨q156_met h hh, fun _ h => absurd h List.not_mem_nil⟩⟩, fun _ h => absurd h List.not_mem_nil, List.forall_mem_cons.mpr ⟨fun M hM => Option.some.inj (show some q156_M = some M from hM) ▸ wlkV (lkX4_43 h) q156_M rfl rfl, List.forall_mem_cons.mpr ⟨fun M hM => Option.some.inj (show some q161_M = some M from hM) ▸ wlkV (lkX4_51 h) q161_M rfl rfl, fun _ h => absurd h List.not_mem_nil⟩⟩, fun _ h => absurd h List.not_mem_nil, fun _ h => absurd h List.not_mem_nil⟩ dkX4_formsOf (by decide +kernel) (by rw [h.2.2.1]; exact q205_ok)
/-- NearSpell.FormList.has -/
def q206_M : rfM := ((⟨"NearSpell$FormList", "has", "(I)Z"⟩, prog_5_method_5_code, 3, (some .boolean)), (0,0), ([.inr (.inl [50]),.inl (((-2147483648),2147483647,1),none)],[]), [], [(some (.inl ((1,1,0),none)),[],[((50,1),(1,22,1),none)]),(some (.inl ((0,0,0),none)),[],[])])
def ddX3_has : List (Nat × Instr × Nat) := [(0,.iconst 0,1),(1,.istore_n 2,1),(2,.iload_n 2,1),(3,.aload_n 0,1),(4,.getfield 15,3),(7,.if_icmp .ge 31,3),(10,.aload_n 0,1),(11,.getfield 9,3),(14,.iload_n 2,1),(15,.iaload,1),(16,.iload_n 1,1),(17,.if_icmp .gt 21,3),(20,.aload_n 0,1),(21,.getfield 9,3),(24,.iload_n 2,1),(25,.iaload,1),(26,.iload_n 1,1),(27,.if_icmp .ne 5,3),(30,.iconst 1,1),(31,.ireturn,1),(32,.iinc 2 1,3),(35,.goto (-33),3),(38,.iconst 0,1),(39,.ireturn,1)]
set_option maxRecDepth 100000 in
theorem dkX3_has : rf_decs prog_5_method_5_code ddX3_has := rf_decs_of (by decide +kernel)
def q206_P : rfP := (flX3,csX3,lcX3,spX3,[],[],[],([],[]))
def q206_U : rfU := []
set_option maxHeartbeats 8000000 in
def q206_N : List rfB := [(0,([(0,.inr (.inl [50])),(1,.inl (((-2147483648),2147483647,1),none))],[],[]),(442,[0]),0),
  (2,([(0,.inr (.inl [50])),(1,.inl (((-2147483648),2147483647,1),none)),(2,.inl ((0,22,1),none))],[],[]),(438,[(-19)]),0),
  (38,([(0,.inr (.inl [50])),(1,.inl (((-2147483648),2147483647,1),none)),(2,.inl ((0,22,1),none))],[],[]),(1,[0]),0)]
set_option maxRecDepth 100000 in
theorem q206_ok : rf_chkB q206_P q206_U wLay q206_M ddX3_has [] [.inl 2] [0,2,38] 600 q206_N = true := by decide +kernel
set_option maxHeartbeats 4000000 in
theorem q206_met {G : rfG} (h : okG G) (hh : wHandOK G) : rf_met G q206_M := rf_methodB h.1 (P := q206_P) (U := q206_U) (N := q206_N) ⟨wflT h flokX3, wcsT h csokX3, wlcT h lcokX3, spokX3 h, fun _ h => absurd h List.not_mem_nil, fun _ h => absurd h List.not_mem_nil, fun _ h => absurd h List.not_mem_nil, fun _ h => absurd h List.not_mem_nil, fun _ h => absurd h List.not_mem_nil⟩ dkX3_has (by decide +kernel) (by rw [h.2.2.1]; exact q206_ok)
/-- NearSpell.FormList.shares -/
def q207_M : rfM := ((⟨"NearSpell$FormList", "shares", "(LNearSpell$FormList;)Z"⟩, prog_5_method_6_code, 3, (some .boolean)), (1,22), ([.inr (.inl [22,24,26,28,30,32,34,36,38,40,42,44,46,48]),.inr (.inl [50])],[]), [], [(some (.inl ((1,1,0),none)),[],[((50,1),(1,22,1),none)]),(some (.inl ((0,0,0),none)),[],[])])
def ddX3_shares : List (Nat × Instr × Nat) := [(0,.iconst 0,1),(1,.istore_n 2,1),(2,.iload_n 2,1),(3,.aload_n 0,1),(4,.getfield 15,3),(7,.if_icmp .ge 24,3),(10,.aload_n 1,1),(11,.aload_n 0,1),(12,.getfield 9,3),(15,.iload_n 2,1),(16,.iaload,1),(17,.invokevirtual 46,3),(20,.ifCond .eq 5,3),(23,.iconst 1,1),(24,.ireturn,1),(25,.iinc 2 1,3),(28,.goto (-26),3),(31,.iconst 0,1),(32,.ireturn,1)]
set_option maxRecDepth 100000 in
theorem dkX3_shares : rf_decs prog_5_method_6_code ddX3_shares := rf_decs_of (by decide +kernel)
def q207_P : rfP := (flX3,csX3,lcX3,spX3,[q206_M],[],[(46,0,3)],([],[]))
def q207_U : rfU := []
set_option maxHeartbeats 8000000 in
def q207_N : List rfB := [(0,([(0,.inr (.inl [22,24,26,28,30,32,34,36,38,40,42,44,46,48])),(1,.inr (.inl [50]))],[],[]),(4606,[0]),2000000),
  (2,([(0,.inr (.inl [40])),(1,.inr (.inl [50])),(2,.inl ((0,22,1),none))],[],[]),(3285,[(-14)]),0),
  (2,([(0,.inr (.inl [24])),(1,.inr (.inl [50])),(2,.inl ((0,22,1),none))],[],[]),(653,[(-14)]),0),
  (2,([(0,.inr (.inl [34])),(1,.inr (.inl [50])),(2,.inl ((0,22,1),none))],[],[]),(2298,[(-14)]),0),
  (2,([(0,.inr (.inl [42])),(1,.inr (.inl [50])),(2,.inl ((0,22,1),none))],[],[]),(3614,[(-14)]),0),
  (2,([(0,.inr (.inl [32])),(1,.inr (.inl [50])),(2,.inl ((0,22,1),none))],[],[]),(1969,[(-14)]),0),
  (2,([(0,.inr (.inl [26])),(1,.inr (.inl [50])),(2,.inl ((0,22,1),none))],[],[]),(982,[(-14)]),0),
  (2,([(0,.inr (.inl [44])),(1,.inr (.inl [50])),(2,.inl ((0,22,1),none))],[],[]),(3943,[(-14)]),0),
  (2,([(0,.inr (.inl [22])),(1,.inr (.inl [50])),(2,.inl ((0,22,1),none))],[],[]),(324,[(-14)]),0),
  (2,([(0,.inr (.inl [46])),(1,.inr (.inl [50])),(2,.inl ((0,22,1),none))],[],[]),(4272,[(-14)]),0),
  (2,([(0,.inr (.inl [48])),(1,.inr (.inl [50])),(2,.inl ((0,22,1),none))],[],[]),(4601,[(-14)]),0),
  (2,([(0,.inr (.inl [38])),(1,.inr (.inl [50])),(2,.inl ((0,22,1),none))],[],[]),(2956,[(-14)]),0),
  (2,([(0,.inr (.inl [30])),(1,.inr (.inl [50])),(2,.inl ((0,22,1),none))],[],[]),(1640,[(-14)]),0),
  (2,([(0,.inr (.inl [28])),(1,.inr (.inl [50])),(2,.inl ((0,22,1),none))],[],[]),(1311,[(-14)]),0),
  (2,([(0,.inr (.inl [36])),(1,.inr (.inl [50])),(2,.inl ((0,22,1),none))],[],[]),(2627,[(-14)]),0)]
set_option maxRecDepth 100000 in
theorem q207_ok : rf_chkB q207_P q207_U wLay q207_M ddX3_shares [(17,[0])] [.inl 2] [0,2] 600 q207_N = true := by decide +kernel
set_option maxHeartbeats 4000000 in
theorem q207_met {G : rfG} (h : okG G) (hh : wHandOK G) : rf_met G q207_M := rf_methodB h.1 (P := q207_P) (U := q207_U) (N := q207_N) ⟨wflT h flokX3, wcsT h csokX3, wlcT h lcokX3, spokX3 h, List.forall_mem_cons.mpr ⟨q206_met h hh, fun _ h => absurd h List.not_mem_nil⟩, fun _ h => absurd h List.not_mem_nil, List.forall_mem_cons.mpr ⟨fun M hM => Option.some.inj (show some q206_M = some M from hM) ▸ wlkV (lkX3_46 h) q206_M rfl rfl, fun _ h => absurd h List.not_mem_nil⟩, fun _ h => absurd h List.not_mem_nil, fun _ h => absurd h List.not_mem_nil⟩ dkX3_shares (by decide +kernel) (by rw [h.2.2.1]; exact q207_ok)
/-- NearSpell.Laid.formsOf -/
def q208_M : rfM := ((⟨"NearSpell$Laid", "formsOf", "(I)LNearSpell$FormList;"⟩, prog_6_method_3_code, 2, (some (.object "NearSpell$FormList"))), (3,72), ([.inr (.inl [53]),.inl ((0,1,1),none)],[]), [(21,0),(22,2),(22,3),(22,4),(22,5),(23,0),(24,2),(24,3),(24,4),(24,5),(25,0),(26,2),(26,3),(26,4),(26,5),(27,0),(28,2),(28,3),(28,4),(28,5),(29,0),(30,2),(30,3),(30,4),(30,5),(31,0),(32,2),(32,3),(32,4),(32,5),(33,0),(34,2),(34,3),(34,4),(34,5),(35,0),(36,2),(36,3),(36,4),(36,5),(37,0),(38,2),(38,3),(38,4),(38,5),(39,0),(40,2),(40,3),(40,4),(40,5),(41,0),(42,2),(42,3),(42,4),(42,5),(43,0),(44,2),(44,3),(44,4),(44,5),(45,0),(46,2),(46,3),(46,4),(46,5),(47,0),(48,2),(48,3),(48,4),(48,5)], [(some (.inr (.inl [22,24,26,28,30,32,34,36,38,40,42,44,46,48])),[],[])])
def q208_P : rfP := (flX4,csX4,lcX4,spX4,[q163_M,q156_M],[],[(43,1,3),(51,0,8)],([],[]))
def q208_U : rfU := []
set_option maxHeartbeats 8000000 in
def q208_N : List rfB := [(0,([(0,.inr (.inl [53])),(1,.inl ((0,1,1),none))],[],[]),(24,[]),0)]
set_option maxRecDepth 100000 in
theorem q208_ok : rf_chkB q208_P q208_U wLay q208_M ddX4_formsOf [(27,[0]),(44,[1])] [] [0] 600 q208_N = true := by decide +kernel
set_option maxHeartbeats 4000000 in
theorem q208_met {G : rfG} (h : okG G) (hh : wHandOK G) : rf_met G q208_M := rf_methodB h.1 (P := q208_P) (U := q208_U) (N := q208_N) ⟨wflT h flokX4, wcsT h csokX4, wlcT h lcokX4, spokX4 h, List.forall_mem_cons.mpr ⟨q163_met h hh, List.forall_mem_cons.mpr ⟨q156_met h hh, fun _ h => absurd h List.not_mem_nil⟩⟩, fun _ h => absurd h List.not_mem_nil, List.forall_mem_cons.mpr ⟨fun M hM => Option.some.inj (show some q156_M = some M from hM) ▸ wlkV (lkX4_43 h) q156_M rfl rfl, List.forall_mem_cons.mpr ⟨fun M hM => Option.some.inj (show some q163_M = some M from hM) ▸ wlkV (lkX4_51 h) q163_M rfl rfl, fun _ h => absurd h List.not_mem_nil⟩⟩, fun _ h => absurd h List.not_mem_nil, fun _ h => absurd h List.not_mem_nil⟩ dkX4_formsOf (by decide +kernel) (by rw [h.2.2.1]; exact q208_ok)
/-- NearSpell.Laid.formsOf -/
def q209_M : rfM := ((⟨"NearSpell$Laid", "formsOf", "(I)LNearSpell$FormList;"⟩, prog_6_method_3_code, 2, (some (.object "NearSpell$FormList"))), (3,72), ([.inr (.inl [53]),.inl ((0,2,1),none)],[]), [(21,0),(22,2),(22,3),(22,4),(22,5),(23,0),(24,2),(24,3),(24,4),(24,5),(25,0),(26,2),(26,3),(26,4),(26,5),(27,0),(28,2),(28,3),(28,4),(28,5),(29,0),(30,2),(30,3),(30,4),(30,5),(31,0),(32,2),(32,3),(32,4),(32,5),(33,0),(34,2),(34,3),(34,4),(34,5),(35,0),(36,2),(36,3),(36,4),(36,5),(37,0),(38,2),(38,3),(38,4),(38,5),(39,0),(40,2),(40,3),(40,4),(40,5),(41,0),(42,2),(42,3),(42,4),(42,5),(43,0),(44,2),(44,3),(44,4),(44,5),(45,0),(46,2),(46,3),(46,4),(46,5),(47,0),(48,2),(48,3),(48,4),(48,5)], [(some (.inr (.inl [22,24,26,28,30,32,34,36,38,40,42,44,46,48])),[],[])])
def q209_P : rfP := (flX4,csX4,lcX4,spX4,[q165_M,q156_M],[],[(43,1,3),(51,0,8)],([],[]))
def q209_U : rfU := []
set_option maxHeartbeats 8000000 in
def q209_N : List rfB := [(0,([(0,.inr (.inl [53])),(1,.inl ((0,2,1),none))],[],[]),(24,[]),0)]
set_option maxRecDepth 100000 in
theorem q209_ok : rf_chkB q209_P q209_U wLay q209_M ddX4_formsOf [(27,[0]),(44,[1])] [] [0] 600 q209_N = true := by decide +kernel
set_option maxHeartbeats 4000000 in
theorem q209_met {G : rfG} (h : okG G) (hh : wHandOK G) : rf_met G q209_M := rf_methodB h.1 (P := q209_P) (U := q209_U) (N := q209_N) ⟨wflT h flokX4, wcsT h csokX4, wlcT h lcokX4, spokX4 h, List.forall_mem_cons.mpr ⟨q165_met h hh, List.forall_mem_cons.mpr ⟨q156_met h hh, fun _ h => absurd h List.not_mem_nil⟩⟩, fun _ h => absurd h List.not_mem_nil, List.forall_mem_cons.mpr ⟨fun M hM => Option.some.inj (show some q156_M = some M from hM) ▸ wlkV (lkX4_43 h) q156_M rfl rfl, List.forall_mem_cons.mpr ⟨fun M hM => Option.some.inj (show some q165_M = some M from hM) ▸ wlkV (lkX4_51 h) q165_M rfl rfl, fun _ h => absurd h List.not_mem_nil⟩⟩, fun _ h => absurd h List.not_mem_nil, fun _ h => absurd h List.not_mem_nil⟩ dkX4_formsOf (by decide +kernel) (by rw [h.2.2.1]; exact q209_ok)
