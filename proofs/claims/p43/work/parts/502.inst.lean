/-- NearSpell.FormList.add -/
def q110_M : rfM := ((⟨"NearSpell$FormList", "add", "(I)V"⟩, prog_5_method_4_code, 4, none), (0,0), ([.inr (.inl [22]),.inl (((-2147483648),2147483647,1),none)],[]), [(21,0),(22,2)], [(none,[],[])])
def q110_P : rfP := (flX3,csX3,lcX3,spX3,[],[],[],([],[]))
def q110_U : rfU := [(.inr (22,1),[(0,21),(22,22)])]
set_option maxHeartbeats 8000000 in
def q110_N : List rfB := [(0,([(0,.inr (.inl [22])),(1,.inl (((-2147483648),2147483647,1),none))],[],[]),(992,[0,0]),1000000),
  (5,([(0,.inr (.inl [22])),(1,.inl (((-2147483648),2147483647,1),none)),(2,.inl ((0,21,1),none))],[],[((22,1),(0,21,1),none)]),(394,[13,0]),0),
  (5,([(0,.inr (.inl [22])),(1,.inl (((-2147483648),2147483647,1),none)),(2,.inl ((0,22,1),none))],[],[((22,1),(22,22,1),none)]),(700,[13,0]),0),
  (27,([(0,.inr (.inl [22])),(1,.inl (((-2147483648),2147483647,1),none)),(2,.inl ((0,21,1),none))],[],[((22,1),(0,21,1),none)]),(383,[0,0]),0),
  (27,([(0,.inr (.inl [22])),(1,.inl (((-2147483648),2147483647,1),none)),(2,.inl ((0,22,1),none))],[],[((22,1),(22,22,1),none)]),(689,[0,0]),0),
  (43,([(0,.inr (.inl [22])),(1,.inl (((-2147483648),2147483647,1),none)),(2,.inl ((0,21,1),none))],[],[((22,1),(0,21,1),none)]),(372,[0,0]),0),
  (43,([(0,.inr (.inl [22])),(1,.inl (((-2147483648),2147483647,1),none)),(2,.inl ((0,22,1),none))],[],[((22,1),(22,22,1),none)]),(679,[0,0]),0),
  (55,([(0,.inr (.inl [22])),(1,.inl (((-2147483648),2147483647,1),none)),(2,.inl ((1,21,1),none))],[],[((22,1),(0,21,1),none)]),(373,[0,0]),0),
  (55,([(0,.inr (.inl [22])),(1,.inl (((-2147483648),2147483647,1),none)),(2,.inl ((0,22,1),none))],[],[((22,1),(22,22,1),none)]),(673,[0,0]),0),
  (61,([(0,.inr (.inl [22])),(1,.inl (((-2147483648),2147483647,1),none)),(2,.inl ((0,21,1),none)),(3,.inl ((0,21,1),none))],[],[((22,1),(0,21,1),none)]),(25,[0,16]),0)]
set_option maxRecDepth 100000 in
theorem q110_ok : rf_chkB q110_P q110_U wLay q110_M ddX3_add [] [.inl 2,.inl 3] [0,5,27,43,55,61] 600 q110_N = true := by decide +kernel
set_option maxHeartbeats 4000000 in
theorem q110_met {G : rfG} (h : okG G) (hh : wHandOK G) : rf_met G q110_M := rf_methodB h.1 (P := q110_P) (U := q110_U) (N := q110_N) ⟨wflT h flokX3, wcsT h csokX3, wlcT h lcokX3, spokX3 h, fun _ h => absurd h List.not_mem_nil, fun _ h => absurd h List.not_mem_nil, fun _ h => absurd h List.not_mem_nil, fun _ h => absurd h List.not_mem_nil, fun _ h => absurd h List.not_mem_nil⟩ dkX3_add (by decide +kernel) (by rw [h.2.2.1]; exact q110_ok)
/-- NearSpell.FormList.add -/
def q111_M : rfM := ((⟨"NearSpell$FormList", "add", "(I)V"⟩, prog_5_method_4_code, 4, none), (0,0), ([.inr (.inl [46]),.inl (((-2147483648),2147483647,1),none)],[]), [(45,0),(46,2)], [(none,[],[])])
def q111_P : rfP := (flX3,csX3,lcX3,spX3,[],[],[],([],[]))
def q111_U : rfU := [(.inr (46,1),[(0,21),(22,22)])]
set_option maxHeartbeats 8000000 in
def q111_N : List rfB := [(0,([(0,.inr (.inl [46])),(1,.inl (((-2147483648),2147483647,1),none))],[],[]),(992,[0,0]),1000000),
  (5,([(0,.inr (.inl [46])),(1,.inl (((-2147483648),2147483647,1),none)),(2,.inl ((0,21,1),none))],[],[((46,1),(0,21,1),none)]),(394,[13,0]),0),
  (5,([(0,.inr (.inl [46])),(1,.inl (((-2147483648),2147483647,1),none)),(2,.inl ((0,22,1),none))],[],[((46,1),(22,22,1),none)]),(700,[13,0]),0),
  (27,([(0,.inr (.inl [46])),(1,.inl (((-2147483648),2147483647,1),none)),(2,.inl ((0,21,1),none))],[],[((46,1),(0,21,1),none)]),(383,[0,0]),0),
  (27,([(0,.inr (.inl [46])),(1,.inl (((-2147483648),2147483647,1),none)),(2,.inl ((0,22,1),none))],[],[((46,1),(22,22,1),none)]),(689,[0,0]),0),
  (43,([(0,.inr (.inl [46])),(1,.inl (((-2147483648),2147483647,1),none)),(2,.inl ((0,21,1),none))],[],[((46,1),(0,21,1),none)]),(372,[0,0]),0),
  (43,([(0,.inr (.inl [46])),(1,.inl (((-2147483648),2147483647,1),none)),(2,.inl ((0,22,1),none))],[],[((46,1),(22,22,1),none)]),(679,[0,0]),0),
  (55,([(0,.inr (.inl [46])),(1,.inl (((-2147483648),2147483647,1),none)),(2,.inl ((1,21,1),none))],[],[((46,1),(0,21,1),none)]),(373,[0,0]),0),
  (55,([(0,.inr (.inl [46])),(1,.inl (((-2147483648),2147483647,1),none)),(2,.inl ((0,22,1),none))],[],[((46,1),(22,22,1),none)]),(673,[0,0]),0),
  (61,([(0,.inr (.inl [46])),(1,.inl (((-2147483648),2147483647,1),none)),(2,.inl ((0,21,1),none)),(3,.inl ((0,21,1),none))],[],[((46,1),(0,21,1),none)]),(25,[0,16]),0)]
set_option maxRecDepth 100000 in
theorem q111_ok : rf_chkB q111_P q111_U wLay q111_M ddX3_add [] [.inl 2,.inl 3] [0,5,27,43,55,61] 600 q111_N = true := by decide +kernel
set_option maxHeartbeats 4000000 in
theorem q111_met {G : rfG} (h : okG G) (hh : wHandOK G) : rf_met G q111_M := rf_methodB h.1 (P := q111_P) (U := q111_U) (N := q111_N) ⟨wflT h flokX3, wcsT h csokX3, wlcT h lcokX3, spokX3 h, fun _ h => absurd h List.not_mem_nil, fun _ h => absurd h List.not_mem_nil, fun _ h => absurd h List.not_mem_nil, fun _ h => absurd h List.not_mem_nil, fun _ h => absurd h List.not_mem_nil⟩ dkX3_add (by decide +kernel) (by rw [h.2.2.1]; exact q111_ok)
/-- NearSpell.FormList.add -/
def q112_M : rfM := ((⟨"NearSpell$FormList", "add", "(I)V"⟩, prog_5_method_4_code, 4, none), (0,0), ([.inr (.inl [48]),.inl (((-2147483648),2147483647,1),none)],[]), [(47,0),(48,2)], [(none,[],[])])
def q112_P : rfP := (flX3,csX3,lcX3,spX3,[],[],[],([],[]))
def q112_U : rfU := [(.inr (48,1),[(0,21),(22,22)])]
set_option maxHeartbeats 8000000 in
def q112_N : List rfB := [(0,([(0,.inr (.inl [48])),(1,.inl (((-2147483648),2147483647,1),none))],[],[]),(992,[0,0]),1000000),
  (5,([(0,.inr (.inl [48])),(1,.inl (((-2147483648),2147483647,1),none)),(2,.inl ((0,22,1),none))],[],[((48,1),(22,22,1),none)]),(700,[13,0]),0),
  (5,([(0,.inr (.inl [48])),(1,.inl (((-2147483648),2147483647,1),none)),(2,.inl ((0,21,1),none))],[],[((48,1),(0,21,1),none)]),(394,[13,0]),0),
  (27,([(0,.inr (.inl [48])),(1,.inl (((-2147483648),2147483647,1),none)),(2,.inl ((0,21,1),none))],[],[((48,1),(0,21,1),none)]),(383,[0,0]),0),
  (27,([(0,.inr (.inl [48])),(1,.inl (((-2147483648),2147483647,1),none)),(2,.inl ((0,22,1),none))],[],[((48,1),(22,22,1),none)]),(689,[0,0]),0),
  (43,([(0,.inr (.inl [48])),(1,.inl (((-2147483648),2147483647,1),none)),(2,.inl ((0,21,1),none))],[],[((48,1),(0,21,1),none)]),(372,[0,0]),0),
  (43,([(0,.inr (.inl [48])),(1,.inl (((-2147483648),2147483647,1),none)),(2,.inl ((0,22,1),none))],[],[((48,1),(22,22,1),none)]),(679,[0,0]),0),
  (55,([(0,.inr (.inl [48])),(1,.inl (((-2147483648),2147483647,1),none)),(2,.inl ((1,21,1),none))],[],[((48,1),(0,21,1),none)]),(373,[0,0]),0),
  (55,([(0,.inr (.inl [48])),(1,.inl (((-2147483648),2147483647,1),none)),(2,.inl ((0,22,1),none))],[],[((48,1),(22,22,1),none)]),(673,[0,0]),0),
  (61,([(0,.inr (.inl [48])),(1,.inl (((-2147483648),2147483647,1),none)),(2,.inl ((0,21,1),none)),(3,.inl ((0,21,1),none))],[],[((48,1),(0,21,1),none)]),(25,[0,16]),0)]
set_option maxRecDepth 100000 in
theorem q112_ok : rf_chkB q112_P q112_U wLay q112_M ddX3_add [] [.inl 2,.inl 3] [0,5,27,43,55,61] 600 q112_N = true := by decide +kernel
set_option maxHeartbeats 4000000 in
theorem q112_met {G : rfG} (h : okG G) (hh : wHandOK G) : rf_met G q112_M := rf_methodB h.1 (P := q112_P) (U := q112_U) (N := q112_N) ⟨wflT h flokX3, wcsT h csokX3, wlcT h lcokX3, spokX3 h, fun _ h => absurd h List.not_mem_nil, fun _ h => absurd h List.not_mem_nil, fun _ h => absurd h List.not_mem_nil, fun _ h => absurd h List.not_mem_nil, fun _ h => absurd h List.not_mem_nil⟩ dkX3_add (by decide +kernel) (by rw [h.2.2.1]; exact q112_ok)
/-- NearSpell.FormList.add -/
def q113_M : rfM := ((⟨"NearSpell$FormList", "add", "(I)V"⟩, prog_5_method_4_code, 4, none), (0,0), ([.inr (.inl [38]),.inl (((-2147483648),2147483647,1),none)],[]), [(37,0),(38,2)], [(none,[],[])])
def q113_P : rfP := (flX3,csX3,lcX3,spX3,[],[],[],([],[]))
def q113_U : rfU := [(.inr (38,1),[(0,21),(22,22)])]
set_option maxHeartbeats 8000000 in
def q113_N : List rfB := [(0,([(0,.inr (.inl [38])),(1,.inl (((-2147483648),2147483647,1),none))],[],[]),(992,[0,0]),1000000),
  (5,([(0,.inr (.inl [38])),(1,.inl (((-2147483648),2147483647,1),none)),(2,.inl ((0,21,1),none))],[],[((38,1),(0,21,1),none)]),(394,[13,0]),0),
  (5,([(0,.inr (.inl [38])),(1,.inl (((-2147483648),2147483647,1),none)),(2,.inl ((0,22,1),none))],[],[((38,1),(22,22,1),none)]),(700,[13,0]),0),
  (27,([(0,.inr (.inl [38])),(1,.inl (((-2147483648),2147483647,1),none)),(2,.inl ((0,21,1),none))],[],[((38,1),(0,21,1),none)]),(383,[0,0]),0),
  (27,([(0,.inr (.inl [38])),(1,.inl (((-2147483648),2147483647,1),none)),(2,.inl ((0,22,1),none))],[],[((38,1),(22,22,1),none)]),(689,[0,0]),0),
  (43,([(0,.inr (.inl [38])),(1,.inl (((-2147483648),2147483647,1),none)),(2,.inl ((0,21,1),none))],[],[((38,1),(0,21,1),none)]),(372,[0,0]),0),
  (43,([(0,.inr (.inl [38])),(1,.inl (((-2147483648),2147483647,1),none)),(2,.inl ((0,22,1),none))],[],[((38,1),(22,22,1),none)]),(679,[0,0]),0),
  (55,([(0,.inr (.inl [38])),(1,.inl (((-2147483648),2147483647,1),none)),(2,.inl ((1,21,1),none))],[],[((38,1),(0,21,1),none)]),(373,[0,0]),0),
  (55,([(0,.inr (.inl [38])),(1,.inl (((-2147483648),2147483647,1),none)),(2,.inl ((0,22,1),none))],[],[((38,1),(22,22,1),none)]),(673,[0,0]),0),
  (61,([(0,.inr (.inl [38])),(1,.inl (((-2147483648),2147483647,1),none)),(2,.inl ((0,21,1),none)),(3,.inl ((0,21,1),none))],[],[((38,1),(0,21,1),none)]),(25,[0,16]),0)]
set_option maxRecDepth 100000 in
theorem q113_ok : rf_chkB q113_P q113_U wLay q113_M ddX3_add [] [.inl 2,.inl 3] [0,5,27,43,55,61] 600 q113_N = true := by decide +kernel
set_option maxHeartbeats 4000000 in
theorem q113_met {G : rfG} (h : okG G) (hh : wHandOK G) : rf_met G q113_M := rf_methodB h.1 (P := q113_P) (U := q113_U) (N := q113_N) ⟨wflT h flokX3, wcsT h csokX3, wlcT h lcokX3, spokX3 h, fun _ h => absurd h List.not_mem_nil, fun _ h => absurd h List.not_mem_nil, fun _ h => absurd h List.not_mem_nil, fun _ h => absurd h List.not_mem_nil, fun _ h => absurd h List.not_mem_nil⟩ dkX3_add (by decide +kernel) (by rw [h.2.2.1]; exact q113_ok)
/-- NearSpell.FormList.add -/
def q114_M : rfM := ((⟨"NearSpell$FormList", "add", "(I)V"⟩, prog_5_method_4_code, 4, none), (0,0), ([.inr (.inl [30]),.inl (((-2147483648),2147483647,1),none)],[]), [(29,0),(30,2)], [(none,[],[])])
def q114_P : rfP := (flX3,csX3,lcX3,spX3,[],[],[],([],[]))
def q114_U : rfU := [(.inr (30,1),[(0,21),(22,22)])]
set_option maxHeartbeats 8000000 in
def q114_N : List rfB := [(0,([(0,.inr (.inl [30])),(1,.inl (((-2147483648),2147483647,1),none))],[],[]),(992,[0,0]),1000000),
  (5,([(0,.inr (.inl [30])),(1,.inl (((-2147483648),2147483647,1),none)),(2,.inl ((0,21,1),none))],[],[((30,1),(0,21,1),none)]),(394,[13,0]),0),
  (5,([(0,.inr (.inl [30])),(1,.inl (((-2147483648),2147483647,1),none)),(2,.inl ((0,22,1),none))],[],[((30,1),(22,22,1),none)]),(700,[13,0]),0),
  (27,([(0,.inr (.inl [30])),(1,.inl (((-2147483648),2147483647,1),none)),(2,.inl ((0,21,1),none))],[],[((30,1),(0,21,1),none)]),(383,[0,0]),0),
  (27,([(0,.inr (.inl [30])),(1,.inl (((-2147483648),2147483647,1),none)),(2,.inl ((0,22,1),none))],[],[((30,1),(22,22,1),none)]),(689,[0,0]),0),
  (43,([(0,.inr (.inl [30])),(1,.inl (((-2147483648),2147483647,1),none)),(2,.inl ((0,21,1),none))],[],[((30,1),(0,21,1),none)]),(372,[0,0]),0),
  (43,([(0,.inr (.inl [30])),(1,.inl (((-2147483648),2147483647,1),none)),(2,.inl ((0,22,1),none))],[],[((30,1),(22,22,1),none)]),(679,[0,0]),0),
  (55,([(0,.inr (.inl [30])),(1,.inl (((-2147483648),2147483647,1),none)),(2,.inl ((1,21,1),none))],[],[((30,1),(0,21,1),none)]),(373,[0,0]),0),
  (55,([(0,.inr (.inl [30])),(1,.inl (((-2147483648),2147483647,1),none)),(2,.inl ((0,22,1),none))],[],[((30,1),(22,22,1),none)]),(673,[0,0]),0),
  (61,([(0,.inr (.inl [30])),(1,.inl (((-2147483648),2147483647,1),none)),(2,.inl ((0,21,1),none)),(3,.inl ((0,21,1),none))],[],[((30,1),(0,21,1),none)]),(25,[0,16]),0)]
set_option maxRecDepth 100000 in
theorem q114_ok : rf_chkB q114_P q114_U wLay q114_M ddX3_add [] [.inl 2,.inl 3] [0,5,27,43,55,61] 600 q114_N = true := by decide +kernel
set_option maxHeartbeats 4000000 in
theorem q114_met {G : rfG} (h : okG G) (hh : wHandOK G) : rf_met G q114_M := rf_methodB h.1 (P := q114_P) (U := q114_U) (N := q114_N) ⟨wflT h flokX3, wcsT h csokX3, wlcT h lcokX3, spokX3 h, fun _ h => absurd h List.not_mem_nil, fun _ h => absurd h List.not_mem_nil, fun _ h => absurd h List.not_mem_nil, fun _ h => absurd h List.not_mem_nil, fun _ h => absurd h List.not_mem_nil⟩ dkX3_add (by decide +kernel) (by rw [h.2.2.1]; exact q114_ok)
/-- NearSpell.FormList.add -/
def q115_M : rfM := ((⟨"NearSpell$FormList", "add", "(I)V"⟩, prog_5_method_4_code, 4, none), (0,0), ([.inr (.inl [28]),.inl (((-2147483648),2147483647,1),none)],[]), [(27,0),(28,2)], [(none,[],[])])
def q115_P : rfP := (flX3,csX3,lcX3,spX3,[],[],[],([],[]))
def q115_U : rfU := [(.inr (28,1),[(0,21),(22,22)])]
set_option maxHeartbeats 8000000 in
def q115_N : List rfB := [(0,([(0,.inr (.inl [28])),(1,.inl (((-2147483648),2147483647,1),none))],[],[]),(992,[0,0]),1000000),
  (5,([(0,.inr (.inl [28])),(1,.inl (((-2147483648),2147483647,1),none)),(2,.inl ((0,22,1),none))],[],[((28,1),(22,22,1),none)]),(700,[13,0]),0),
  (5,([(0,.inr (.inl [28])),(1,.inl (((-2147483648),2147483647,1),none)),(2,.inl ((0,21,1),none))],[],[((28,1),(0,21,1),none)]),(394,[13,0]),0),
  (27,([(0,.inr (.inl [28])),(1,.inl (((-2147483648),2147483647,1),none)),(2,.inl ((0,21,1),none))],[],[((28,1),(0,21,1),none)]),(383,[0,0]),0),
  (27,([(0,.inr (.inl [28])),(1,.inl (((-2147483648),2147483647,1),none)),(2,.inl ((0,22,1),none))],[],[((28,1),(22,22,1),none)]),(689,[0,0]),0),
  (43,([(0,.inr (.inl [28])),(1,.inl (((-2147483648),2147483647,1),none)),(2,.inl ((0,21,1),none))],[],[((28,1),(0,21,1),none)]),(372,[0,0]),0),
  (43,([(0,.inr (.inl [28])),(1,.inl (((-2147483648),2147483647,1),none)),(2,.inl ((0,22,1),none))],[],[((28,1),(22,22,1),none)]),(679,[0,0]),0),
  (55,([(0,.inr (.inl [28])),(1,.inl (((-2147483648),2147483647,1),none)),(2,.inl ((1,21,1),none))],[],[((28,1),(0,21,1),none)]),(373,[0,0]),0),
  (55,([(0,.inr (.inl [28])),(1,.inl (((-2147483648),2147483647,1),none)),(2,.inl ((0,22,1),none))],[],[((28,1),(22,22,1),none)]),(673,[0,0]),0),
  (61,([(0,.inr (.inl [28])),(1,.inl (((-2147483648),2147483647,1),none)),(2,.inl ((0,21,1),none)),(3,.inl ((0,21,1),none))],[],[((28,1),(0,21,1),none)]),(25,[0,16]),0)]
set_option maxRecDepth 100000 in
theorem q115_ok : rf_chkB q115_P q115_U wLay q115_M ddX3_add [] [.inl 2,.inl 3] [0,5,27,43,55,61] 600 q115_N = true := by decide +kernel
set_option maxHeartbeats 4000000 in
theorem q115_met {G : rfG} (h : okG G) (hh : wHandOK G) : rf_met G q115_M := rf_methodB h.1 (P := q115_P) (U := q115_U) (N := q115_N) ⟨wflT h flokX3, wcsT h csokX3, wlcT h lcokX3, spokX3 h, fun _ h => absurd h List.not_mem_nil, fun _ h => absurd h List.not_mem_nil, fun _ h => absurd h List.not_mem_nil, fun _ h => absurd h List.not_mem_nil, fun _ h => absurd h List.not_mem_nil⟩ dkX3_add (by decide +kernel) (by rw [h.2.2.1]; exact q115_ok)
/-- NearSpell.FormList.add -/
def q116_M : rfM := ((⟨"NearSpell$FormList", "add", "(I)V"⟩, prog_5_method_4_code, 4, none), (0,0), ([.inr (.inl [36]),.inl (((-2147483648),2147483647,1),none)],[]), [(35,0),(36,2)], [(none,[],[])])
def q116_P : rfP := (flX3,csX3,lcX3,spX3,[],[],[],([],[]))
def q116_U : rfU := [(.inr (36,1),[(0,21),(22,22)])]
set_option maxHeartbeats 8000000 in
def q116_N : List rfB := [(0,([(0,.inr (.inl [36])),(1,.inl (((-2147483648),2147483647,1),none))],[],[]),(992,[0,0]),1000000),
  (5,([(0,.inr (.inl [36])),(1,.inl (((-2147483648),2147483647,1),none)),(2,.inl ((0,22,1),none))],[],[((36,1),(22,22,1),none)]),(700,[13,0]),0),
  (5,([(0,.inr (.inl [36])),(1,.inl (((-2147483648),2147483647,1),none)),(2,.inl ((0,21,1),none))],[],[((36,1),(0,21,1),none)]),(394,[13,0]),0),
  (27,([(0,.inr (.inl [36])),(1,.inl (((-2147483648),2147483647,1),none)),(2,.inl ((0,21,1),none))],[],[((36,1),(0,21,1),none)]),(383,[0,0]),0),
  (27,([(0,.inr (.inl [36])),(1,.inl (((-2147483648),2147483647,1),none)),(2,.inl ((0,22,1),none))],[],[((36,1),(22,22,1),none)]),(689,[0,0]),0),
  (43,([(0,.inr (.inl [36])),(1,.inl (((-2147483648),2147483647,1),none)),(2,.inl ((0,21,1),none))],[],[((36,1),(0,21,1),none)]),(372,[0,0]),0),
  (43,([(0,.inr (.inl [36])),(1,.inl (((-2147483648),2147483647,1),none)),(2,.inl ((0,22,1),none))],[],[((36,1),(22,22,1),none)]),(679,[0,0]),0),
  (55,([(0,.inr (.inl [36])),(1,.inl (((-2147483648),2147483647,1),none)),(2,.inl ((1,21,1),none))],[],[((36,1),(0,21,1),none)]),(373,[0,0]),0),
  (55,([(0,.inr (.inl [36])),(1,.inl (((-2147483648),2147483647,1),none)),(2,.inl ((0,22,1),none))],[],[((36,1),(22,22,1),none)]),(673,[0,0]),0),
  (61,([(0,.inr (.inl [36])),(1,.inl (((-2147483648),2147483647,1),none)),(2,.inl ((0,21,1),none)),(3,.inl ((0,21,1),none))],[],[((36,1),(0,21,1),none)]),(25,[0,16]),0)]
set_option maxRecDepth 100000 in
theorem q116_ok : rf_chkB q116_P q116_U wLay q116_M ddX3_add [] [.inl 2,.inl 3] [0,5,27,43,55,61] 600 q116_N = true := by decide +kernel
set_option maxHeartbeats 4000000 in
theorem q116_met {G : rfG} (h : okG G) (hh : wHandOK G) : rf_met G q116_M := rf_methodB h.1 (P := q116_P) (U := q116_U) (N := q116_N) ⟨wflT h flokX3, wcsT h csokX3, wlcT h lcokX3, spokX3 h, fun _ h => absurd h List.not_mem_nil, fun _ h => absurd h List.not_mem_nil, fun _ h => absurd h List.not_mem_nil, fun _ h => absurd h List.not_mem_nil, fun _ h => absurd h List.not_mem_nil⟩ dkX3_add (by decide +kernel) (by rw [h.2.2.1]; exact q116_ok)
/-- NearSpell.without -/
def q117_M : rfM := ((⟨"NearSpell", "without", "(II)I"⟩, prog_1_method_56_code, 2, (some .int)), (0,0), ([.inl (((-2147483648),2147483647,1),none),.inl ((0,0,0),none)],[]), [], [(some (.inl (((-79536431),79536431,1),none)),[],[])])
def ddX11_without : List (Nat × Instr × Nat) := [(0,.iload_n 1,1),(1,.ifCond .lt 9,3),(4,.iload_n 1,1),(5,.bipush 6,2),(7,.if_icmp .lt 5,3),(10,.iload_n 0,1),(11,.ireturn,1),(12,.iload_n 0,1),(13,.getstatic 360,3),(16,.iload_n 1,1),(17,.iconst 1,1),(18,.iadd,1),(19,.iaload,1),(20,.idiv,1),(21,.getstatic 360,3),(24,.iload_n 1,1),(25,.iaload,1),(26,.imul,1),(27,.iload_n 0,1),(28,.getstatic 360,3),(31,.iload_n 1,1),(32,.iaload,1),(33,.irem,1),(34,.iadd,1),(35,.ireturn,1)]
set_option maxRecDepth 100000 in
theorem dkX11_without : rf_decs prog_1_method_56_code ddX11_without := rf_decs_of (by decide +kernel)
def q117_P : rfP := (flX11,csX11,lcX11,spX11,[],[],[],([],[]))
def q117_U : rfU := []
set_option maxHeartbeats 8000000 in
def q117_N : List rfB := [(0,([(0,.inl (((-2147483648),2147483647,1),none)),(1,.inl ((0,0,0),none))],[],[]),(22,[]),0)]
set_option maxRecDepth 100000 in
theorem q117_ok : rf_chkB q117_P q117_U wLay q117_M ddX11_without [] [] [0] 600 q117_N = true := by decide +kernel
set_option maxHeartbeats 4000000 in
theorem q117_met {G : rfG} (h : okG G) (hh : wHandOK G) : rf_met G q117_M := rf_methodB h.1 (P := q117_P) (U := q117_U) (N := q117_N) ⟨wflT h flokX11, wcsT h csokX11, wlcT h lcokX11, spokX11 h, fun _ h => absurd h List.not_mem_nil, fun _ h => absurd h List.not_mem_nil, fun _ h => absurd h List.not_mem_nil, fun _ h => absurd h List.not_mem_nil, fun _ h => absurd h List.not_mem_nil⟩ dkX11_without (by decide +kernel) (by rw [h.2.2.1]; exact q117_ok)
/-- NearSpell.FormList.add -/
def q118_M : rfM := ((⟨"NearSpell$FormList", "add", "(I)V"⟩, prog_5_method_4_code, 4, none), (0,0), ([.inr (.inl [40]),.inl (((-2147483648),387420488,1),none)],[]), [(39,0),(40,2)], [(none,[],[])])
def q118_P : rfP := (flX3,csX3,lcX3,spX3,[],[],[],([],[]))
def q118_U : rfU := [(.inr (40,1),[(0,21),(22,22)])]
set_option maxHeartbeats 8000000 in
def q118_N : List rfB := [(0,([(0,.inr (.inl [40])),(1,.inl (((-2147483648),387420488,1),none))],[],[]),(992,[0,0]),1000000),
  (5,([(0,.inr (.inl [40])),(1,.inl (((-2147483648),387420488,1),none)),(2,.inl ((0,21,1),none))],[],[((40,1),(0,21,1),none)]),(394,[13,0]),0),
  (5,([(0,.inr (.inl [40])),(1,.inl (((-2147483648),387420488,1),none)),(2,.inl ((0,22,1),none))],[],[((40,1),(22,22,1),none)]),(700,[13,0]),0),
  (27,([(0,.inr (.inl [40])),(1,.inl (((-2147483648),387420488,1),none)),(2,.inl ((0,21,1),none))],[],[((40,1),(0,21,1),none)]),(383,[0,0]),0),
  (27,([(0,.inr (.inl [40])),(1,.inl (((-2147483648),387420488,1),none)),(2,.inl ((0,22,1),none))],[],[((40,1),(22,22,1),none)]),(689,[0,0]),0),
  (43,([(0,.inr (.inl [40])),(1,.inl (((-2147483648),387420488,1),none)),(2,.inl ((0,21,1),none))],[],[((40,1),(0,21,1),none)]),(372,[0,0]),0),
  (43,([(0,.inr (.inl [40])),(1,.inl (((-2147483648),387420488,1),none)),(2,.inl ((0,22,1),none))],[],[((40,1),(22,22,1),none)]),(679,[0,0]),0),
  (55,([(0,.inr (.inl [40])),(1,.inl (((-2147483648),387420488,1),none)),(2,.inl ((1,21,1),none))],[],[((40,1),(0,21,1),none)]),(373,[0,0]),0),
  (55,([(0,.inr (.inl [40])),(1,.inl (((-2147483648),387420488,1),none)),(2,.inl ((0,22,1),none))],[],[((40,1),(22,22,1),none)]),(673,[0,0]),0),
  (61,([(0,.inr (.inl [40])),(1,.inl (((-2147483648),387420488,1),none)),(2,.inl ((0,21,1),none)),(3,.inl ((0,21,1),none))],[],[((40,1),(0,21,1),none)]),(25,[0,16]),0)]
set_option maxRecDepth 100000 in
theorem q118_ok : rf_chkB q118_P q118_U wLay q118_M ddX3_add [] [.inl 2,.inl 3] [0,5,27,43,55,61] 600 q118_N = true := by decide +kernel
set_option maxHeartbeats 4000000 in
theorem q118_met {G : rfG} (h : okG G) (hh : wHandOK G) : rf_met G q118_M := rf_methodB h.1 (P := q118_P) (U := q118_U) (N := q118_N) ⟨wflT h flokX3, wcsT h csokX3, wlcT h lcokX3, spokX3 h, fun _ h => absurd h List.not_mem_nil, fun _ h => absurd h List.not_mem_nil, fun _ h => absurd h List.not_mem_nil, fun _ h => absurd h List.not_mem_nil, fun _ h => absurd h List.not_mem_nil⟩ dkX3_add (by decide +kernel) (by rw [h.2.2.1]; exact q118_ok)
/-- NearSpell.without -/
def q119_M : rfM := ((⟨"NearSpell", "without", "(II)I"⟩, prog_1_method_56_code, 2, (some .int)), (0,0), ([.inl (((-2147483648),387420488,1),none),.inl ((0,0,0),none)],[]), [], [(some (.inl (((-79536431),14348906,1),none)),[],[])])
def q119_P : rfP := (flX11,csX11,lcX11,spX11,[],[],[],([],[]))
def q119_U : rfU := []
set_option maxHeartbeats 8000000 in
def q119_N : List rfB := [(0,([(0,.inl (((-2147483648),387420488,1),none)),(1,.inl ((0,0,0),none))],[],[]),(22,[]),0)]
set_option maxRecDepth 100000 in
theorem q119_ok : rf_chkB q119_P q119_U wLay q119_M ddX11_without [] [] [0] 600 q119_N = true := by decide +kernel
set_option maxHeartbeats 4000000 in
theorem q119_met {G : rfG} (h : okG G) (hh : wHandOK G) : rf_met G q119_M := rf_methodB h.1 (P := q119_P) (U := q119_U) (N := q119_N) ⟨wflT h flokX11, wcsT h csokX11, wlcT h lcokX11, spokX11 h, fun _ h => absurd h List.not_mem_nil, fun _ h => absurd h List.not_mem_nil, fun _ h => absurd h List.not_mem_nil, fun _ h => absurd h List.not_mem_nil, fun _ h => absurd h List.not_mem_nil⟩ dkX11_without (by decide +kernel) (by rw [h.2.2.1]; exact q119_ok)
/-- NearSpell.without -/
def q120_M : rfM := ((⟨"NearSpell", "without", "(II)I"⟩, prog_1_method_56_code, 2, (some .int)), (0,0), ([.inl (((-2147483648),387420488,1),none),.inl ((0,1,1),none)],[]), [], [(some (.inl (((-2147483648),2147483647,1),none)),[],[])])
def q120_P : rfP := (flX11,csX11,lcX11,spX11,[],[],[],([],[]))
def q120_U : rfU := []
set_option maxHeartbeats 8000000 in
def q120_N : List rfB := [(0,([(0,.inl (((-2147483648),387420488,1),none)),(1,.inl ((0,1,1),none))],[],[]),(22,[]),0)]
set_option maxRecDepth 100000 in
theorem q120_ok : rf_chkB q120_P q120_U wLay q120_M ddX11_without [] [] [0] 600 q120_N = true := by decide +kernel
set_option maxHeartbeats 4000000 in
theorem q120_met {G : rfG} (h : okG G) (hh : wHandOK G) : rf_met G q120_M := rf_methodB h.1 (P := q120_P) (U := q120_U) (N := q120_N) ⟨wflT h flokX11, wcsT h csokX11, wlcT h lcokX11, spokX11 h, fun _ h => absurd h List.not_mem_nil, fun _ h => absurd h List.not_mem_nil, fun _ h => absurd h List.not_mem_nil, fun _ h => absurd h List.not_mem_nil, fun _ h => absurd h List.not_mem_nil⟩ dkX11_without (by decide +kernel) (by rw [h.2.2.1]; exact q120_ok)
/-- NearSpell.without -/
def q121_M : rfM := ((⟨"NearSpell", "without", "(II)I"⟩, prog_1_method_56_code, 2, (some .int)), (0,0), ([.inl (((-2147483648),387420488,1),none),.inl ((0,2,1),none)],[]), [], [(some (.inl (((-2147483648),2147483647,1),none)),[],[])])
def q121_P : rfP := (flX11,csX11,lcX11,spX11,[],[],[],([],[]))
def q121_U : rfU := []
set_option maxHeartbeats 8000000 in
def q121_N : List rfB := [(0,([(0,.inl (((-2147483648),387420488,1),none)),(1,.inl ((0,2,1),none))],[],[]),(22,[]),0)]
set_option maxRecDepth 100000 in
theorem q121_ok : rf_chkB q121_P q121_U wLay q121_M ddX11_without [] [] [0] 600 q121_N = true := by decide +kernel
set_option maxHeartbeats 4000000 in
theorem q121_met {G : rfG} (h : okG G) (hh : wHandOK G) : rf_met G q121_M := rf_methodB h.1 (P := q121_P) (U := q121_U) (N := q121_N) ⟨wflT h flokX11, wcsT h csokX11, wlcT h lcokX11, spokX11 h, fun _ h => absurd h List.not_mem_nil, fun _ h => absurd h List.not_mem_nil, fun _ h => absurd h List.not_mem_nil, fun _ h => absurd h List.not_mem_nil, fun _ h => absurd h List.not_mem_nil⟩ dkX11_without (by decide +kernel) (by rw [h.2.2.1]; exact q121_ok)
/-- NearSpell.without -/
def q122_M : rfM := ((⟨"NearSpell", "without", "(II)I"⟩, prog_1_method_56_code, 2, (some .int)), (0,0), ([.inl (((-2147483648),387420488,1),none),.inl ((0,3,1),none)],[]), [], [(some (.inl (((-2147483648),2147483647,1),none)),[],[])])
def q122_P : rfP := (flX11,csX11,lcX11,spX11,[],[],[],([],[]))
def q122_U : rfU := []
set_option maxHeartbeats 8000000 in
def q122_N : List rfB := [(0,([(0,.inl (((-2147483648),387420488,1),none)),(1,.inl ((0,3,1),none))],[],[]),(22,[]),0)]
set_option maxRecDepth 100000 in
theorem q122_ok : rf_chkB q122_P q122_U wLay q122_M ddX11_without [] [] [0] 600 q122_N = true := by decide +kernel
set_option maxHeartbeats 4000000 in
theorem q122_met {G : rfG} (h : okG G) (hh : wHandOK G) : rf_met G q122_M := rf_methodB h.1 (P := q122_P) (U := q122_U) (N := q122_N) ⟨wflT h flokX11, wcsT h csokX11, wlcT h lcokX11, spokX11 h, fun _ h => absurd h List.not_mem_nil, fun _ h => absurd h List.not_mem_nil, fun _ h => absurd h List.not_mem_nil, fun _ h => absurd h List.not_mem_nil, fun _ h => absurd h List.not_mem_nil⟩ dkX11_without (by decide +kernel) (by rw [h.2.2.1]; exact q122_ok)
/-- NearSpell.without -/
def q123_M : rfM := ((⟨"NearSpell", "without", "(II)I"⟩, prog_1_method_56_code, 2, (some .int)), (0,0), ([.inl (((-2147483648),387420488,1),none),.inl ((0,4,1),none)],[]), [], [(some (.inl (((-2147483648),2147483647,1),none)),[],[])])
def q123_P : rfP := (flX11,csX11,lcX11,spX11,[],[],[],([],[]))
def q123_U : rfU := []
set_option maxHeartbeats 8000000 in
def q123_N : List rfB := [(0,([(0,.inl (((-2147483648),387420488,1),none)),(1,.inl ((0,4,1),none))],[],[]),(22,[]),0)]
set_option maxRecDepth 100000 in
theorem q123_ok : rf_chkB q123_P q123_U wLay q123_M ddX11_without [] [] [0] 600 q123_N = true := by decide +kernel
set_option maxHeartbeats 4000000 in
theorem q123_met {G : rfG} (h : okG G) (hh : wHandOK G) : rf_met G q123_M := rf_methodB h.1 (P := q123_P) (U := q123_U) (N := q123_N) ⟨wflT h flokX11, wcsT h csokX11, wlcT h lcokX11, spokX11 h, fun _ h => absurd h List.not_mem_nil, fun _ h => absurd h List.not_mem_nil, fun _ h => absurd h List.not_mem_nil, fun _ h => absurd h List.not_mem_nil, fun _ h => absurd h List.not_mem_nil⟩ dkX11_without (by decide +kernel) (by rw [h.2.2.1]; exact q123_ok)
/-- NearSpell.without -/
def q124_M : rfM := ((⟨"NearSpell", "without", "(II)I"⟩, prog_1_method_56_code, 2, (some .int)), (0,0), ([.inl (((-2147483648),2147483647,1),none),.inl ((0,1,1),none)],[]), [], [(some (.inl (((-2147483648),2147483647,1),none)),[],[])])
def q124_P : rfP := (flX11,csX11,lcX11,spX11,[],[],[],([],[]))
def q124_U : rfU := []
set_option maxHeartbeats 8000000 in
def q124_N : List rfB := [(0,([(0,.inl (((-2147483648),2147483647,1),none)),(1,.inl ((0,1,1),none))],[],[]),(22,[]),0)]
set_option maxRecDepth 100000 in
theorem q124_ok : rf_chkB q124_P q124_U wLay q124_M ddX11_without [] [] [0] 600 q124_N = true := by decide +kernel
set_option maxHeartbeats 4000000 in
theorem q124_met {G : rfG} (h : okG G) (hh : wHandOK G) : rf_met G q124_M := rf_methodB h.1 (P := q124_P) (U := q124_U) (N := q124_N) ⟨wflT h flokX11, wcsT h csokX11, wlcT h lcokX11, spokX11 h, fun _ h => absurd h List.not_mem_nil, fun _ h => absurd h List.not_mem_nil, fun _ h => absurd h List.not_mem_nil, fun _ h => absurd h List.not_mem_nil, fun _ h => absurd h List.not_mem_nil⟩ dkX11_without (by decide +kernel) (by rw [h.2.2.1]; exact q124_ok)
/-- NearSpell.without -/
def q125_M : rfM := ((⟨"NearSpell", "without", "(II)I"⟩, prog_1_method_56_code, 2, (some .int)), (0,0), ([.inl (((-2147483648),2147483647,1),none),.inl ((0,4,1),none)],[]), [], [(some (.inl (((-2147483648),2147483647,1),none)),[],[])])
def q125_P : rfP := (flX11,csX11,lcX11,spX11,[],[],[],([],[]))
def q125_U : rfU := []
set_option maxHeartbeats 8000000 in
def q125_N : List rfB := [(0,([(0,.inl (((-2147483648),2147483647,1),none)),(1,.inl ((0,4,1),none))],[],[]),(22,[]),0)]
set_option maxRecDepth 100000 in
theorem q125_ok : rf_chkB q125_P q125_U wLay q125_M ddX11_without [] [] [0] 600 q125_N = true := by decide +kernel
set_option maxHeartbeats 4000000 in
theorem q125_met {G : rfG} (h : okG G) (hh : wHandOK G) : rf_met G q125_M := rf_methodB h.1 (P := q125_P) (U := q125_U) (N := q125_N) ⟨wflT h flokX11, wcsT h csokX11, wlcT h lcokX11, spokX11 h, fun _ h => absurd h List.not_mem_nil, fun _ h => absurd h List.not_mem_nil, fun _ h => absurd h List.not_mem_nil, fun _ h => absurd h List.not_mem_nil, fun _ h => absurd h List.not_mem_nil⟩ dkX11_without (by decide +kernel) (by rw [h.2.2.1]; exact q125_ok)
/-- NearSpell.without -/
def q126_M : rfM := ((⟨"NearSpell", "without", "(II)I"⟩, prog_1_method_56_code, 2, (some .int)), (0,0), ([.inl (((-2147483648),2147483647,1),none),.inl ((0,2,1),none)],[]), [], [(some (.inl (((-2147483648),2147483647,1),none)),[],[])])
def q126_P : rfP := (flX11,csX11,lcX11,spX11,[],[],[],([],[]))
def q126_U : rfU := []
set_option maxHeartbeats 8000000 in
def q126_N : List rfB := [(0,([(0,.inl (((-2147483648),2147483647,1),none)),(1,.inl ((0,2,1),none))],[],[]),(22,[]),0)]
set_option maxRecDepth 100000 in
theorem q126_ok : rf_chkB q126_P q126_U wLay q126_M ddX11_without [] [] [0] 600 q126_N = true := by decide +kernel
set_option maxHeartbeats 4000000 in
theorem q126_met {G : rfG} (h : okG G) (hh : wHandOK G) : rf_met G q126_M := rf_methodB h.1 (P := q126_P) (U := q126_U) (N := q126_N) ⟨wflT h flokX11, wcsT h csokX11, wlcT h lcokX11, spokX11 h, fun _ h => absurd h List.not_mem_nil, fun _ h => absurd h List.not_mem_nil, fun _ h => absurd h List.not_mem_nil, fun _ h => absurd h List.not_mem_nil, fun _ h => absurd h List.not_mem_nil⟩ dkX11_without (by decide +kernel) (by rw [h.2.2.1]; exact q126_ok)
/-- NearSpell.without -/
def q127_M : rfM := ((⟨"NearSpell", "without", "(II)I"⟩, prog_1_method_56_code, 2, (some .int)), (0,0), ([.inl (((-2147483648),2147483647,1),none),.inl ((0,3,1),none)],[]), [], [(some (.inl (((-2147483648),2147483647,1),none)),[],[])])
def q127_P : rfP := (flX11,csX11,lcX11,spX11,[],[],[],([],[]))
def q127_U : rfU := []
set_option maxHeartbeats 8000000 in
def q127_N : List rfB := [(0,([(0,.inl (((-2147483648),2147483647,1),none)),(1,.inl ((0,3,1),none))],[],[]),(22,[]),0)]
set_option maxRecDepth 100000 in
theorem q127_ok : rf_chkB q127_P q127_U wLay q127_M ddX11_without [] [] [0] 600 q127_N = true := by decide +kernel
set_option maxHeartbeats 4000000 in
theorem q127_met {G : rfG} (h : okG G) (hh : wHandOK G) : rf_met G q127_M := rf_methodB h.1 (P := q127_P) (U := q127_U) (N := q127_N) ⟨wflT h flokX11, wcsT h csokX11, wlcT h lcokX11, spokX11 h, fun _ h => absurd h List.not_mem_nil, fun _ h => absurd h List.not_mem_nil, fun _ h => absurd h List.not_mem_nil, fun _ h => absurd h List.not_mem_nil, fun _ h => absurd h List.not_mem_nil⟩ dkX11_without (by decide +kernel) (by rw [h.2.2.1]; exact q127_ok)
/-- NearSpell.without -/
def q128_M : rfM := ((⟨"NearSpell", "without", "(II)I"⟩, prog_1_method_56_code, 2, (some .int)), (0,0), ([.inl (((-2147483648),2147483647,1),none),.inl ((0,5,1),none)],[]), [], [(some (.inl (((-2147483648),2147483647,1),none)),[],[])])
def q128_P : rfP := (flX11,csX11,lcX11,spX11,[],[],[],([],[]))
def q128_U : rfU := []
set_option maxHeartbeats 8000000 in
def q128_N : List rfB := [(0,([(0,.inl (((-2147483648),2147483647,1),none)),(1,.inl ((0,5,1),none))],[],[]),(22,[]),0)]
set_option maxRecDepth 100000 in
theorem q128_ok : rf_chkB q128_P q128_U wLay q128_M ddX11_without [] [] [0] 600 q128_N = true := by decide +kernel
set_option maxHeartbeats 4000000 in
theorem q128_met {G : rfG} (h : okG G) (hh : wHandOK G) : rf_met G q128_M := rf_methodB h.1 (P := q128_P) (U := q128_U) (N := q128_N) ⟨wflT h flokX11, wcsT h csokX11, wlcT h lcokX11, spokX11 h, fun _ h => absurd h List.not_mem_nil, fun _ h => absurd h List.not_mem_nil, fun _ h => absurd h List.not_mem_nil, fun _ h => absurd h List.not_mem_nil, fun _ h => absurd h List.not_mem_nil⟩ dkX11_without (by decide +kernel) (by rw [h.2.2.1]; exact q128_ok)
/-- NearSpell.FormList.shorten -/
def q129_M : rfM := ((⟨"NearSpell$FormList", "shorten", "(I)V"⟩, prog_5_method_3_code, 6, none), (1,23), ([.inr (.inl [40]),.inl (((-2147483648),2147483647,1),none)],[]), [(39,0),(40,2)], [(none,[],[])])
def ddX3_shorten : List (Nat × Instr × Nat) := [(0,.iload_n 1,1),(1,.invokestatic 39,3),(4,.istore_n 2,1),(5,.iconst 0,1),(6,.istore_n 3,1),(7,.iload_n 3,1),(8,.iload_n 2,1),(9,.if_icmp .ge 58,3),(12,.iload_n 1,1),(13,.iload_n 3,1),(14,.invokestatic 43,3),(17,.istore 4,2),(19,.aload_n 0,1),(20,.iload 4,2),(22,.invokevirtual 32,3),(25,.iconst 0,1),(26,.istore 5,2),(28,.aload_n 0,1),(29,.getfield 25,3),(32,.iconst 1,1),(33,.if_icmp .le 28,3),(36,.iload 5,2),(38,.iload_n 2,1),(39,.iconst 1,1),(40,.isub,1),(41,.if_icmp .ge 20,3),(44,.aload_n 0,1),(45,.iload 4,2),(47,.iload 5,2),(49,.invokestatic 43,3),(52,.invokevirtual 32,3),(55,.iinc 5 1,3),(58,.goto (-30),3),(61,.iinc 3 1,3),(64,.goto (-57),3),(67,.return_,1)]
set_option maxRecDepth 100000 in
theorem dkX3_shorten : rf_decs prog_5_method_3_code ddX3_shorten := rf_decs_of (by decide +kernel)
def q129_P : rfP := (flX3,csX3,lcX3,spX3,[q100_M,q125_M,q103_M,q128_M],[(39,0),(43,1),(43,3)],[(32,2,3)],([],[]))
def q129_U : rfU := []
set_option maxHeartbeats 8000000 in
def q129_N : List rfB := [(0,([(0,.inr (.inl [40])),(1,.inl (((-2147483648),2147483647,1),none))],[],[]),(2852,[0,0]),0),
  (7,([(0,.inr (.inl [40])),(1,.inl (((-2147483648),2147483647,1),none)),(2,.inl ((0,6,1),none)),(3,.inl ((0,12,1),none))],[],[]),(2845,[(-219),0]),0),
  (28,([(0,.inr (.inl [40])),(1,.inl (((-2147483648),2147483647,1),none)),(2,.inl ((1,6,1),none)),(3,.inl ((0,11,1),none)),(4,.inl (((-2147483648),2147483647,1),none)),(5,.inl ((0,11,1),none))],[],[]),(2831,[(-219),(-17)]),0),
  (61,([(0,.inr (.inl [40])),(1,.inl (((-2147483648),2147483647,1),none)),(2,.inl ((1,6,1),none)),(3,.inl ((0,11,1),none)),(4,.inl (((-2147483648),2147483647,1),none)),(5,.inl ((0,11,1),none))],[],[]),(2629,[(-219),0]),0)]
set_option maxRecDepth 100000 in
theorem q129_ok : rf_chkB q129_P q129_U wLay q129_M ddX3_shorten [(1,[0]),(14,[3]),(22,[2]),(49,[1]),(52,[2])] [.inl 3,.inl 5] [0,7,28,61] 600 q129_N = true := by decide +kernel
set_option maxHeartbeats 4000000 in
theorem q129_met {G : rfG} (h : okG G) (hh : wHandOK G) : rf_met G q129_M := rf_methodB h.1 (P := q129_P) (U := q129_U) (N := q129_N) ⟨wflT h flokX3, wcsT h csokX3, wlcT h lcokX3, spokX3 h, List.forall_mem_cons.mpr ⟨q100_met h hh, List.forall_mem_cons.mpr ⟨q125_met h hh, List.forall_mem_cons.mpr ⟨q103_met h hh, List.forall_mem_cons.mpr ⟨q128_met h hh, fun _ h => absurd h List.not_mem_nil⟩⟩⟩⟩, List.forall_mem_cons.mpr ⟨fun M hM => Option.some.inj (show some q100_M = some M from hM) ▸ wlkS (lkX3_39 h) q100_M rfl rfl, List.forall_mem_cons.mpr ⟨fun M hM => Option.some.inj (show some q125_M = some M from hM) ▸ wlkS (lkX3_43 h) q125_M rfl rfl, List.forall_mem_cons.mpr ⟨fun M hM => Option.some.inj (show some q128_M = some M from hM) ▸ wlkS (lkX3_43 h) q128_M rfl rfl, fun _ h => absurd h List.not_mem_nil⟩⟩⟩, List.forall_mem_cons.mpr ⟨fun M hM => Option.some.inj (show some q103_M = some M from hM) ▸ wlkV (lkX3_32 h) q103_M rfl rfl, fun _ h => absurd h List.not_mem_nil⟩, fun _ h => absurd h List.not_mem_nil, fun _ h => absurd h List.not_mem_nil⟩ dkX3_shorten (by decide +kernel) (by rw [h.2.2.1]; exact q129_ok)
/-- NearSpell.FormList.add -/
def q130_M : rfM := ((⟨"NearSpell$FormList", "add", "(I)V"⟩, prog_5_method_4_code, 4, none), (0,0), ([.inr (.inl [24]),.inl (((-2147483648),387420488,1),none)],[]), [(23,0),(24,2)], [(none,[],[])])
def q130_P : rfP := (flX3,csX3,lcX3,spX3,[],[],[],([],[]))
def q130_U : rfU := [(.inr (24,1),[(0,21),(22,22)])]
set_option maxHeartbeats 8000000 in
def q130_N : List rfB := [(0,([(0,.inr (.inl [24])),(1,.inl (((-2147483648),387420488,1),none))],[],[]),(992,[0,0]),1000000),
  (5,([(0,.inr (.inl [24])),(1,.inl (((-2147483648),387420488,1),none)),(2,.inl ((0,21,1),none))],[],[((24,1),(0,21,1),none)]),(394,[13,0]),0),
  (5,([(0,.inr (.inl [24])),(1,.inl (((-2147483648),387420488,1),none)),(2,.inl ((0,22,1),none))],[],[((24,1),(22,22,1),none)]),(700,[13,0]),0),
  (27,([(0,.inr (.inl [24])),(1,.inl (((-2147483648),387420488,1),none)),(2,.inl ((0,21,1),none))],[],[((24,1),(0,21,1),none)]),(383,[0,0]),0),
  (27,([(0,.inr (.inl [24])),(1,.inl (((-2147483648),387420488,1),none)),(2,.inl ((0,22,1),none))],[],[((24,1),(22,22,1),none)]),(689,[0,0]),0),
  (43,([(0,.inr (.inl [24])),(1,.inl (((-2147483648),387420488,1),none)),(2,.inl ((0,21,1),none))],[],[((24,1),(0,21,1),none)]),(372,[0,0]),0),
  (43,([(0,.inr (.inl [24])),(1,.inl (((-2147483648),387420488,1),none)),(2,.inl ((0,22,1),none))],[],[((24,1),(22,22,1),none)]),(679,[0,0]),0),
  (55,([(0,.inr (.inl [24])),(1,.inl (((-2147483648),387420488,1),none)),(2,.inl ((1,21,1),none))],[],[((24,1),(0,21,1),none)]),(373,[0,0]),0),
  (55,([(0,.inr (.inl [24])),(1,.inl (((-2147483648),387420488,1),none)),(2,.inl ((0,22,1),none))],[],[((24,1),(22,22,1),none)]),(673,[0,0]),0),
  (61,([(0,.inr (.inl [24])),(1,.inl (((-2147483648),387420488,1),none)),(2,.inl ((0,21,1),none)),(3,.inl ((0,21,1),none))],[],[((24,1),(0,21,1),none)]),(25,[0,16]),0)]
set_option maxRecDepth 100000 in
theorem q130_ok : rf_chkB q130_P q130_U wLay q130_M ddX3_add [] [.inl 2,.inl 3] [0,5,27,43,55,61] 600 q130_N = true := by decide +kernel
set_option maxHeartbeats 4000000 in
theorem q130_met {G : rfG} (h : okG G) (hh : wHandOK G) : rf_met G q130_M := rf_methodB h.1 (P := q130_P) (U := q130_U) (N := q130_N) ⟨wflT h flokX3, wcsT h csokX3, wlcT h lcokX3, spokX3 h, fun _ h => absurd h List.not_mem_nil, fun _ h => absurd h List.not_mem_nil, fun _ h => absurd h List.not_mem_nil, fun _ h => absurd h List.not_mem_nil, fun _ h => absurd h List.not_mem_nil⟩ dkX3_add (by decide +kernel) (by rw [h.2.2.1]; exact q130_ok)
/-- NearSpell.FormList.shorten -/
def q131_M : rfM := ((⟨"NearSpell$FormList", "shorten", "(I)V"⟩, prog_5_method_3_code, 6, none), (1,23), ([.inr (.inl [24]),.inl (((-2147483648),2147483647,1),none)],[]), [(23,0),(24,2)], [(none,[],[])])
def q131_P : rfP := (flX3,csX3,lcX3,spX3,[q100_M,q125_M,q104_M,q128_M],[(39,0),(43,1),(43,3)],[(32,2,3)],([],[]))
def q131_U : rfU := []
set_option maxHeartbeats 8000000 in
def q131_N : List rfB := [(0,([(0,.inr (.inl [24])),(1,.inl (((-2147483648),2147483647,1),none))],[],[]),(2852,[0,0]),0),
  (7,([(0,.inr (.inl [24])),(1,.inl (((-2147483648),2147483647,1),none)),(2,.inl ((0,6,1),none)),(3,.inl ((0,12,1),none))],[],[]),(2845,[(-219),0]),0),
  (28,([(0,.inr (.inl [24])),(1,.inl (((-2147483648),2147483647,1),none)),(2,.inl ((1,6,1),none)),(3,.inl ((0,11,1),none)),(4,.inl (((-2147483648),2147483647,1),none)),(5,.inl ((0,11,1),none))],[],[]),(2831,[(-219),(-17)]),0),
  (61,([(0,.inr (.inl [24])),(1,.inl (((-2147483648),2147483647,1),none)),(2,.inl ((1,6,1),none)),(3,.inl ((0,11,1),none)),(4,.inl (((-2147483648),2147483647,1),none)),(5,.inl ((0,11,1),none))],[],[]),(2629,[(-219),0]),0)]
set_option maxRecDepth 100000 in
theorem q131_ok : rf_chkB q131_P q131_U wLay q131_M ddX3_shorten [(1,[0]),(14,[3]),(22,[2]),(49,[1]),(52,[2])] [.inl 3,.inl 5] [0,7,28,61] 600 q131_N = true := by decide +kernel
set_option maxHeartbeats 4000000 in
theorem q131_met {G : rfG} (h : okG G) (hh : wHandOK G) : rf_met G q131_M := rf_methodB h.1 (P := q131_P) (U := q131_U) (N := q131_N) ⟨wflT h flokX3, wcsT h csokX3, wlcT h lcokX3, spokX3 h, List.forall_mem_cons.mpr ⟨q100_met h hh, List.forall_mem_cons.mpr ⟨q125_met h hh, List.forall_mem_cons.mpr ⟨q104_met h hh, List.forall_mem_cons.mpr ⟨q128_met h hh, fun _ h => absurd h List.not_mem_nil⟩⟩⟩⟩, List.forall_mem_cons.mpr ⟨fun M hM => Option.some.inj (show some q100_M = some M from hM) ▸ wlkS (lkX3_39 h) q100_M rfl rfl, List.forall_mem_cons.mpr ⟨fun M hM => Option.some.inj (show some q125_M = some M from hM) ▸ wlkS (lkX3_43 h) q125_M rfl rfl, List.forall_mem_cons.mpr ⟨fun M hM => Option.some.inj (show some q128_M = some M from hM) ▸ wlkS (lkX3_43 h) q128_M rfl rfl, fun _ h => absurd h List.not_mem_nil⟩⟩⟩, List.forall_mem_cons.mpr ⟨fun M hM => Option.some.inj (show some q104_M = some M from hM) ▸ wlkV (lkX3_32 h) q104_M rfl rfl, fun _ h => absurd h List.not_mem_nil⟩, fun _ h => absurd h List.not_mem_nil, fun _ h => absurd h List.not_mem_nil⟩ dkX3_shorten (by decide +kernel) (by rw [h.2.2.1]; exact q131_ok)
/-- NearSpell.FormList.add -/
def q132_M : rfM := ((⟨"NearSpell$FormList", "add", "(I)V"⟩, prog_5_method_4_code, 4, none), (0,0), ([.inr (.inl [34]),.inl (((-2147483648),387420488,1),none)],[]), [(33,0),(34,2)], [(none,[],[])])
def q132_P : rfP := (flX3,csX3,lcX3,spX3,[],[],[],([],[]))
def q132_U : rfU := [(.inr (34,1),[(0,21),(22,22)])]
set_option maxHeartbeats 8000000 in
def q132_N : List rfB := [(0,([(0,.inr (.inl [34])),(1,.inl (((-2147483648),387420488,1),none))],[],[]),(992,[0,0]),1000000),
  (5,([(0,.inr (.inl [34])),(1,.inl (((-2147483648),387420488,1),none)),(2,.inl ((0,22,1),none))],[],[((34,1),(22,22,1),none)]),(700,[13,0]),0),
  (5,([(0,.inr (.inl [34])),(1,.inl (((-2147483648),387420488,1),none)),(2,.inl ((0,21,1),none))],[],[((34,1),(0,21,1),none)]),(394,[13,0]),0),
  (27,([(0,.inr (.inl [34])),(1,.inl (((-2147483648),387420488,1),none)),(2,.inl ((0,21,1),none))],[],[((34,1),(0,21,1),none)]),(383,[0,0]),0),
  (27,([(0,.inr (.inl [34])),(1,.inl (((-2147483648),387420488,1),none)),(2,.inl ((0,22,1),none))],[],[((34,1),(22,22,1),none)]),(689,[0,0]),0),
  (43,([(0,.inr (.inl [34])),(1,.inl (((-2147483648),387420488,1),none)),(2,.inl ((0,21,1),none))],[],[((34,1),(0,21,1),none)]),(372,[0,0]),0),
  (43,([(0,.inr (.inl [34])),(1,.inl (((-2147483648),387420488,1),none)),(2,.inl ((0,22,1),none))],[],[((34,1),(22,22,1),none)]),(679,[0,0]),0),
  (55,([(0,.inr (.inl [34])),(1,.inl (((-2147483648),387420488,1),none)),(2,.inl ((1,21,1),none))],[],[((34,1),(0,21,1),none)]),(373,[0,0]),0),
  (55,([(0,.inr (.inl [34])),(1,.inl (((-2147483648),387420488,1),none)),(2,.inl ((0,22,1),none))],[],[((34,1),(22,22,1),none)]),(673,[0,0]),0),
  (61,([(0,.inr (.inl [34])),(1,.inl (((-2147483648),387420488,1),none)),(2,.inl ((0,21,1),none)),(3,.inl ((0,21,1),none))],[],[((34,1),(0,21,1),none)]),(25,[0,16]),0)]
set_option maxRecDepth 100000 in
theorem q132_ok : rf_chkB q132_P q132_U wLay q132_M ddX3_add [] [.inl 2,.inl 3] [0,5,27,43,55,61] 600 q132_N = true := by decide +kernel
set_option maxHeartbeats 4000000 in
theorem q132_met {G : rfG} (h : okG G) (hh : wHandOK G) : rf_met G q132_M := rf_methodB h.1 (P := q132_P) (U := q132_U) (N := q132_N) ⟨wflT h flokX3, wcsT h csokX3, wlcT h lcokX3, spokX3 h, fun _ h => absurd h List.not_mem_nil, fun _ h => absurd h List.not_mem_nil, fun _ h => absurd h List.not_mem_nil, fun _ h => absurd h List.not_mem_nil, fun _ h => absurd h List.not_mem_nil⟩ dkX3_add (by decide +kernel) (by rw [h.2.2.1]; exact q132_ok)
/-- NearSpell.FormList.shorten -/
def q133_M : rfM := ((⟨"NearSpell$FormList", "shorten", "(I)V"⟩, prog_5_method_3_code, 6, none), (1,23), ([.inr (.inl [34]),.inl (((-2147483648),2147483647,1),none)],[]), [(33,0),(34,2)], [(none,[],[])])
def q133_P : rfP := (flX3,csX3,lcX3,spX3,[q100_M,q125_M,q105_M,q128_M],[(39,0),(43,1),(43,3)],[(32,2,3)],([],[]))
def q133_U : rfU := []
set_option maxHeartbeats 8000000 in
def q133_N : List rfB := [(0,([(0,.inr (.inl [34])),(1,.inl (((-2147483648),2147483647,1),none))],[],[]),(2852,[0,0]),0),
  (7,([(0,.inr (.inl [34])),(1,.inl (((-2147483648),2147483647,1),none)),(2,.inl ((0,6,1),none)),(3,.inl ((0,12,1),none))],[],[]),(2845,[(-219),0]),0),
  (28,([(0,.inr (.inl [34])),(1,.inl (((-2147483648),2147483647,1),none)),(2,.inl ((1,6,1),none)),(3,.inl ((0,11,1),none)),(4,.inl (((-2147483648),2147483647,1),none)),(5,.inl ((0,11,1),none))],[],[]),(2831,[(-219),(-17)]),0),
  (61,([(0,.inr (.inl [34])),(1,.inl (((-2147483648),2147483647,1),none)),(2,.inl ((1,6,1),none)),(3,.inl ((0,11,1),none)),(4,.inl (((-2147483648),2147483647,1),none)),(5,.inl ((0,11,1),none))],[],[]),(2629,[(-219),0]),0)]
set_option maxRecDepth 100000 in
theorem q133_ok : rf_chkB q133_P q133_U wLay q133_M ddX3_shorten [(1,[0]),(14,[3]),(22,[2]),(49,[1]),(52,[2])] [.inl 3,.inl 5] [0,7,28,61] 600 q133_N = true := by decide +kernel
set_option maxHeartbeats 4000000 in
theorem q133_met {G : rfG} (h : okG G) (hh : wHandOK G) : rf_met G q133_M := rf_methodB h.1 (P := q133_P) (U := q133_U) (N := q133_N) ⟨wflT h flokX3, wcsT h csokX3, wlcT h lcokX3, spokX3 h, List.forall_mem_cons.mpr ⟨q100_met h hh, List.forall_mem_cons.mpr ⟨q125_met h hh, List.forall_mem_cons.mpr ⟨q105_met h hh, List.forall_mem_cons.mpr ⟨q128_met h hh, fun _ h => absurd h List.not_mem_nil⟩⟩⟩⟩, List.forall_mem_cons.mpr ⟨fun M hM => Option.some.inj (show some q100_M = some M from hM) ▸ wlkS (lkX3_39 h) q100_M rfl rfl, List.forall_mem_cons.mpr ⟨fun M hM => Option.some.inj (show some q125_M = some M from hM) ▸ wlkS (lkX3_43 h) q125_M rfl rfl, List.forall_mem_cons.mpr ⟨fun M hM => Option.some.inj (show some q128_M = some M from hM) ▸ wlkS (lkX3_43 h) q128_M rfl rfl, fun _ h => absurd h List.not_mem_nil⟩⟩⟩, List.forall_mem_cons.mpr ⟨fun M hM => Option.some.inj (show some q105_M = some M from hM) ▸ wlkV (lkX3_32 h) q105_M rfl rfl, fun _ h => absurd h List.not_mem_nil⟩, fun _ h => absurd h List.not_mem_nil, fun _ h => absurd h List.not_mem_nil⟩ dkX3_shorten (by decide +kernel) (by rw [h.2.2.1]; exact q133_ok)
/-- NearSpell.FormList.add -/
def q134_M : rfM := ((⟨"NearSpell$FormList", "add", "(I)V"⟩, prog_5_method_4_code, 4, none), (0,0), ([.inr (.inl [42]),.inl (((-2147483648),387420488,1),none)],[]), [(41,0),(42,2)], [(none,[],[])])
def q134_P : rfP := (flX3,csX3,lcX3,spX3,[],[],[],([],[]))
def q134_U : rfU := [(.inr (42,1),[(0,21),(22,22)])]
set_option maxHeartbeats 8000000 in
def q134_N : List rfB := [(0,([(0,.inr (.inl [42])),(1,.inl (((-2147483648),387420488,1),none))],[],[]),(992,[0,0]),1000000),
  (5,([(0,.inr (.inl [42])),(1,.inl (((-2147483648),387420488,1),none)),(2,.inl ((0,21,1),none))],[],[((42,1),(0,21,1),none)]),(394,[13,0]),0),
  (5,([(0,.inr (.inl [42])),(1,.inl (((-2147483648),387420488,1),none)),(2,.inl ((0,22,1),none))],[],[((42,1),(22,22,1),none)]),(700,[13,0]),0),
  (27,([(0,.inr (.inl [42])),(1,.inl (((-2147483648),387420488,1),none)),(2,.inl ((0,21,1),none))],[],[((42,1),(0,21,1),none)]),(383,[0,0]),0),
  (27,([(0,.inr (.inl [42])),(1,.inl (((-2147483648),387420488,1),none)),(2,.inl ((0,22,1),none))],[],[((42,1),(22,22,1),none)]),(689,[0,0]),0),
  (43,([(0,.inr (.inl [42])),(1,.inl (((-2147483648),387420488,1),none)),(2,.inl ((0,21,1),none))],[],[((42,1),(0,21,1),none)]),(372,[0,0]),0),
  (43,([(0,.inr (.inl [42])),(1,.inl (((-2147483648),387420488,1),none)),(2,.inl ((0,22,1),none))],[],[((42,1),(22,22,1),none)]),(679,[0,0]),0),
  (55,([(0,.inr (.inl [42])),(1,.inl (((-2147483648),387420488,1),none)),(2,.inl ((1,21,1),none))],[],[((42,1),(0,21,1),none)]),(373,[0,0]),0),
  (55,([(0,.inr (.inl [42])),(1,.inl (((-2147483648),387420488,1),none)),(2,.inl ((0,22,1),none))],[],[((42,1),(22,22,1),none)]),(673,[0,0]),0),
  (61,([(0,.inr (.inl [42])),(1,.inl (((-2147483648),387420488,1),none)),(2,.inl ((0,21,1),none)),(3,.inl ((0,21,1),none))],[],[((42,1),(0,21,1),none)]),(25,[0,16]),0)]
set_option maxRecDepth 100000 in
theorem q134_ok : rf_chkB q134_P q134_U wLay q134_M ddX3_add [] [.inl 2,.inl 3] [0,5,27,43,55,61] 600 q134_N = true := by decide +kernel
set_option maxHeartbeats 4000000 in
theorem q134_met {G : rfG} (h : okG G) (hh : wHandOK G) : rf_met G q134_M := rf_methodB h.1 (P := q134_P) (U := q134_U) (N := q134_N) ⟨wflT h flokX3, wcsT h csokX3, wlcT h lcokX3, spokX3 h, fun _ h => absurd h List.not_mem_nil, fun _ h => absurd h List.not_mem_nil, fun _ h => absurd h List.not_mem_nil, fun _ h => absurd h List.not_mem_nil, fun _ h => absurd h List.not_mem_nil⟩ dkX3_add (by decide +kernel) (by rw [h.2.2.1]; exact q134_ok)
/-- NearSpell.FormList.shorten -/
def q135_M : rfM := ((⟨"NearSpell$FormList", "shorten", "(I)V"⟩, prog_5_method_3_code, 6, none), (1,23), ([.inr (.inl [42]),.inl (((-2147483648),2147483647,1),none)],[]), [(41,0),(42,2)], [(none,[],[])])
def q135_P : rfP := (flX3,csX3,lcX3,spX3,[q100_M,q125_M,q106_M,q128_M],[(39,0),(43,1),(43,3)],[(32,2,3)],([],[]))
def q135_U : rfU := []
set_option maxHeartbeats 8000000 in
def q135_N : List rfB := [(0,([(0,.inr (.inl [42])),(1,.inl (((-2147483648),2147483647,1),none))],[],[]),(2852,[0,0]),0),
  (7,([(0,.inr (.inl [42])),(1,.inl (((-2147483648),2147483647,1),none)),(2,.inl ((0,6,1),none)),(3,.inl ((0,12,1),none))],[],[]),(2845,[(-219),0]),0),
  (28,([(0,.inr (.inl [42])),(1,.inl (((-2147483648),2147483647,1),none)),(2,.inl ((1,6,1),none)),(3,.inl ((0,11,1),none)),(4,.inl (((-2147483648),2147483647,1),none)),(5,.inl ((0,11,1),none))],[],[]),(2831,[(-219),(-17)]),0),
  (61,([(0,.inr (.inl [42])),(1,.inl (((-2147483648),2147483647,1),none)),(2,.inl ((1,6,1),none)),(3,.inl ((0,11,1),none)),(4,.inl (((-2147483648),2147483647,1),none)),(5,.inl ((0,11,1),none))],[],[]),(2629,[(-219),0]),0)]
set_option maxRecDepth 100000 in
theorem q135_ok : rf_chkB q135_P q135_U wLay q135_M ddX3_shorten [(1,[0]),(14,[3]),(22,[2]),(49,[1]),(52,[2])] [.inl 3,.inl 5] [0,7,28,61] 600 q135_N = true := by decide +kernel
set_option maxHeartbeats 4000000 in
theorem q135_met {G : rfG} (h : okG G) (hh : wHandOK G) : rf_met G q135_M := rf_methodB h.1 (P := q135_P) (U := q135_U) (N := q135_N) ⟨wflT h flokX3, wcsT h csokX3, wlcT h lcokX3, spokX3 h, List.forall_mem_cons.mpr ⟨q100_met h hh, List.forall_mem_cons.mpr ⟨q125_met h hh, List.forall_mem_cons.mpr ⟨q106_met h hh, List.forall_mem_cons.mpr ⟨q128_met h hh, fun _ h => absurd h List.not_mem_nil⟩⟩⟩⟩, List.forall_mem_cons.mpr ⟨fun M hM => Option.some.inj (show some q100_M = some M from hM) ▸ wlkS (lkX3_39 h) q100_M rfl rfl, List.forall_mem_cons.mpr ⟨fun M hM => Option.some.inj (show some q125_M = some M from hM) ▸ wlkS (lkX3_43 h) q125_M rfl rfl, List.forall_mem_cons.mpr ⟨fun M hM => Option.some.inj (show some q128_M = some M from hM) ▸ wlkS (lkX3_43 h) q128_M rfl rfl, fun _ h => absurd h List.not_mem_nil⟩⟩⟩, List.forall_mem_cons.mpr ⟨fun M hM => Option.some.inj (show some q106_M = some M from hM) ▸ wlkV (lkX3_32 h) q106_M rfl rfl, fun _ h => absurd h List.not_mem_nil⟩, fun _ h => absurd h List.not_mem_nil, fun _ h => absurd h List.not_mem_nil⟩ dkX3_shorten (by decide +kernel) (by rw [h.2.2.1]; exact q135_ok)
/-- NearSpell.FormList.add -/
def q136_M : rfM := ((⟨"NearSpell$FormList", "add", "(I)V"⟩, prog_5_method_4_code, 4, none), (0,0), ([.inr (.inl [32]),.inl (((-2147483648),387420488,1),none)],[]), [(31,0),(32,2)], [(none,[],[])])
def q136_P : rfP := (flX3,csX3,lcX3,spX3,[],[],[],([],[]))
def q136_U : rfU := [(.inr (32,1),[(0,21),(22,22)])]
set_option maxHeartbeats 8000000 in
def q136_N : List rfB := [(0,([(0,.inr (.inl [32])),(1,.inl (((-2147483648),387420488,1),none))],[],[]),(992,[0,0]),1000000),
  (5,([(0,.inr (.inl [32])),(1,.inl (((-2147483648),387420488,1),none)),(2,.inl ((0,22,1),none))],[],[((32,1),(22,22,1),none)]),(700,[13,0]),0),
  (5,([(0,.inr (.inl [32])),(1,.inl (((-2147483648),387420488,1),none)),(2,.inl ((0,21,1),none))],[],[((32,1),(0,21,1),none)]),(394,[13,0]),0),
  (27,([(0,.inr (.inl [32])),(1,.inl (((-2147483648),387420488,1),none)),(2,.inl ((0,21,1),none))],[],[((32,1),(0,21,1),none)]),(383,[0,0]),0),
  (27,([(0,.inr (.inl [32])),(1,.inl (((-2147483648),387420488,1),none)),(2,.inl ((0,22,1),none))],[],[((32,1),(22,22,1),none)]),(689,[0,0]),0),
  (43,([(0,.inr (.inl [32])),(1,.inl (((-2147483648),387420488,1),none)),(2,.inl ((0,21,1),none))],[],[((32,1),(0,21,1),none)]),(372,[0,0]),0),
  (43,([(0,.inr (.inl [32])),(1,.inl (((-2147483648),387420488,1),none)),(2,.inl ((0,22,1),none))],[],[((32,1),(22,22,1),none)]),(679,[0,0]),0),
  (55,([(0,.inr (.inl [32])),(1,.inl (((-2147483648),387420488,1),none)),(2,.inl ((1,21,1),none))],[],[((32,1),(0,21,1),none)]),(373,[0,0]),0),
  (55,([(0,.inr (.inl [32])),(1,.inl (((-2147483648),387420488,1),none)),(2,.inl ((0,22,1),none))],[],[((32,1),(22,22,1),none)]),(673,[0,0]),0),
  (61,([(0,.inr (.inl [32])),(1,.inl (((-2147483648),387420488,1),none)),(2,.inl ((0,21,1),none)),(3,.inl ((0,21,1),none))],[],[((32,1),(0,21,1),none)]),(25,[0,16]),0)]
set_option maxRecDepth 100000 in
theorem q136_ok : rf_chkB q136_P q136_U wLay q136_M ddX3_add [] [.inl 2,.inl 3] [0,5,27,43,55,61] 600 q136_N = true := by decide +kernel
set_option maxHeartbeats 4000000 in
theorem q136_met {G : rfG} (h : okG G) (hh : wHandOK G) : rf_met G q136_M := rf_methodB h.1 (P := q136_P) (U := q136_U) (N := q136_N) ⟨wflT h flokX3, wcsT h csokX3, wlcT h lcokX3, spokX3 h, fun _ h => absurd h List.not_mem_nil, fun _ h => absurd h List.not_mem_nil, fun _ h => absurd h List.not_mem_nil, fun _ h => absurd h List.not_mem_nil, fun _ h => absurd h List.not_mem_nil⟩ dkX3_add (by decide +kernel) (by rw [h.2.2.1]; exact q136_ok)
/-- NearSpell.FormList.shorten -/
def q137_M : rfM := ((⟨"NearSpell$FormList", "shorten", "(I)V"⟩, prog_5_method_3_code, 6, none), (1,23), ([.inr (.inl [32]),.inl (((-2147483648),2147483647,1),none)],[]), [(31,0),(32,2)], [(none,[],[])])
def q137_P : rfP := (flX3,csX3,lcX3,spX3,[q100_M,q125_M,q107_M,q128_M],[(39,0),(43,1),(43,3)],[(32,2,3)],([],[]))
def q137_U : rfU := []
set_option maxHeartbeats 8000000 in
def q137_N : List rfB := [(0,([(0,.inr (.inl [32])),(1,.inl (((-2147483648),2147483647,1),none))],[],[]),(2852,[0,0]),0),
  (7,([(0,.inr (.inl [32])),(1,.inl (((-2147483648),2147483647,1),none)),(2,.inl ((0,6,1),none)),(3,.inl ((0,12,1),none))],[],[]),(2845,[(-219),0]),0),
  (28,([(0,.inr (.inl [32])),(1,.inl (((-2147483648),2147483647,1),none)),(2,.inl ((1,6,1),none)),(3,.inl ((0,11,1),none)),(4,.inl (((-2147483648),2147483647,1),none)),(5,.inl ((0,11,1),none))],[],[]),(2831,[(-219),(-17)]),0),
  (61,([(0,.inr (.inl [32])),(1,.inl (((-2147483648),2147483647,1),none)),(2,.inl ((1,6,1),none)),(3,.inl ((0,11,1),none)),(4,.inl (((-2147483648),2147483647,1),none)),(5,.inl ((0,11,1),none))],[],[]),(2629,[(-219),0]),0)]
set_option maxRecDepth 100000 in
theorem q137_ok : rf_chkB q137_P q137_U wLay q137_M ddX3_shorten [(1,[0]),(14,[3]),(22,[2]),(49,[1]),(52,[2])] [.inl 3,.inl 5] [0,7,28,61] 600 q137_N = true := by decide +kernel
set_option maxHeartbeats 4000000 in
theorem q137_met {G : rfG} (h : okG G) (hh : wHandOK G) : rf_met G q137_M := rf_methodB h.1 (P := q137_P) (U := q137_U) (N := q137_N) ⟨wflT h flokX3, wcsT h csokX3, wlcT h lcokX3, spokX3 h, List.forall_mem_cons.mpr ⟨q100_met h hh, List.forall_mem_cons.mpr ⟨q125_met h hh, List.forall_mem_cons.mpr ⟨q107_met h hh, List.forall_mem_cons.mpr ⟨q128_met h hh, fun _ h => absurd h List.not_mem_nil⟩⟩⟩⟩, List.forall_mem_cons.mpr ⟨fun M hM => Option.some.inj (show some q100_M = some M from hM) ▸ wlkS (lkX3_39 h) q100_M rfl rfl, List.forall_mem_cons.mpr ⟨fun M hM => Option.some.inj (show some q125_M = some M from hM) ▸ wlkS (lkX3_43 h) q125_M rfl rfl, List.forall_mem_cons.mpr ⟨fun M hM => Option.some.inj (show some q128_M = some M from hM) ▸ wlkS (lkX3_43 h) q128_M rfl rfl, fun _ h => absurd h List.not_mem_nil⟩⟩⟩, List.forall_mem_cons.mpr ⟨fun M hM => Option.some.inj (show some q107_M = some M from hM) ▸ wlkV (lkX3_32 h) q107_M rfl rfl, fun _ h => absurd h List.not_mem_nil⟩, fun _ h => absurd h List.not_mem_nil, fun _ h => absurd h List.not_mem_nil⟩ dkX3_shorten (by decide +kernel) (by rw [h.2.2.1]; exact q137_ok)
/-- NearSpell.FormList.add -/
def q138_M : rfM := ((⟨"NearSpell$FormList", "add", "(I)V"⟩, prog_5_method_4_code, 4, none), (0,0), ([.inr (.inl [26]),.inl (((-2147483648),387420488,1),none)],[]), [(25,0),(26,2)], [(none,[],[])])
def q138_P : rfP := (flX3,csX3,lcX3,spX3,[],[],[],([],[]))
def q138_U : rfU := [(.inr (26,1),[(0,21),(22,22)])]
set_option maxHeartbeats 8000000 in
def q138_N : List rfB := [(0,([(0,.inr (.inl [26])),(1,.inl (((-2147483648),387420488,1),none))],[],[]),(992,[0,0]),1000000),
  (5,([(0,.inr (.inl [26])),(1,.inl (((-2147483648),387420488,1),none)),(2,.inl ((0,21,1),none))],[],[((26,1),(0,21,1),none)]),(394,[13,0]),0),
  (5,([(0,.inr (.inl [26])),(1,.inl (((-2147483648),387420488,1),none)),(2,.inl ((0,22,1),none))],[],[((26,1),(22,22,1),none)]),(700,[13,0]),0),
  (27,([(0,.inr (.inl [26])),(1,.inl (((-2147483648),387420488,1),none)),(2,.inl ((0,21,1),none))],[],[((26,1),(0,21,1),none)]),(383,[0,0]),0),
  (27,([(0,.inr (.inl [26])),(1,.inl (((-2147483648),387420488,1),none)),(2,.inl ((0,22,1),none))],[],[((26,1),(22,22,1),none)]),(689,[0,0]),0),
  (43,([(0,.inr (.inl [26])),(1,.inl (((-2147483648),387420488,1),none)),(2,.inl ((0,21,1),none))],[],[((26,1),(0,21,1),none)]),(372,[0,0]),0),
  (43,([(0,.inr (.inl [26])),(1,.inl (((-2147483648),387420488,1),none)),(2,.inl ((0,22,1),none))],[],[((26,1),(22,22,1),none)]),(679,[0,0]),0),
  (55,([(0,.inr (.inl [26])),(1,.inl (((-2147483648),387420488,1),none)),(2,.inl ((1,21,1),none))],[],[((26,1),(0,21,1),none)]),(373,[0,0]),0),
  (55,([(0,.inr (.inl [26])),(1,.inl (((-2147483648),387420488,1),none)),(2,.inl ((0,22,1),none))],[],[((26,1),(22,22,1),none)]),(673,[0,0]),0),
  (61,([(0,.inr (.inl [26])),(1,.inl (((-2147483648),387420488,1),none)),(2,.inl ((0,21,1),none)),(3,.inl ((0,21,1),none))],[],[((26,1),(0,21,1),none)]),(25,[0,16]),0)]
set_option maxRecDepth 100000 in
theorem q138_ok : rf_chkB q138_P q138_U wLay q138_M ddX3_add [] [.inl 2,.inl 3] [0,5,27,43,55,61] 600 q138_N = true := by decide +kernel
set_option maxHeartbeats 4000000 in
theorem q138_met {G : rfG} (h : okG G) (hh : wHandOK G) : rf_met G q138_M := rf_methodB h.1 (P := q138_P) (U := q138_U) (N := q138_N) ⟨wflT h flokX3, wcsT h csokX3, wlcT h lcokX3, spokX3 h, fun _ h => absurd h List.not_mem_nil, fun _ h => absurd h List.not_mem_nil, fun _ h => absurd h List.not_mem_nil, fun _ h => absurd h List.not_mem_nil, fun _ h => absurd h List.not_mem_nil⟩ dkX3_add (by decide +kernel) (by rw [h.2.2.1]; exact q138_ok)
/-- NearSpell.FormList.shorten -/
def q139_M : rfM := ((⟨"NearSpell$FormList", "shorten", "(I)V"⟩, prog_5_method_3_code, 6, none), (1,23), ([.inr (.inl [26]),.inl (((-2147483648),2147483647,1),none)],[]), [(25,0),(26,2)], [(none,[],[])])
def q139_P : rfP := (flX3,csX3,lcX3,spX3,[q100_M,q125_M,q108_M,q128_M],[(39,0),(43,1),(43,3)],[(32,2,3)],([],[]))
def q139_U : rfU := []
set_option maxHeartbeats 8000000 in
def q139_N : List rfB := [(0,([(0,.inr (.inl [26])),(1,.inl (((-2147483648),2147483647,1),none))],[],[]),(2852,[0,0]),0),
  (7,([(0,.inr (.inl [26])),(1,.inl (((-2147483648),2147483647,1),none)),(2,.inl ((0,6,1),none)),(3,.inl ((0,12,1),none))],[],[]),(2845,[(-219),0]),0),
  (28,([(0,.inr (.inl [26])),(1,.inl (((-2147483648),2147483647,1),none)),(2,.inl ((1,6,1),none)),(3,.inl ((0,11,1),none)),(4,.inl (((-2147483648),2147483647,1),none)),(5,.inl ((0,11,1),none))],[],[]),(2831,[(-219),(-17)]),0),
  (61,([(0,.inr (.inl [26])),(1,.inl (((-2147483648),2147483647,1),none)),(2,.inl ((1,6,1),none)),(3,.inl ((0,11,1),none)),(4,.inl (((-2147483648),2147483647,1),none)),(5,.inl ((0,11,1),none))],[],[]),(2629,[(-219),0]),0)]
set_option maxRecDepth 100000 in
theorem q139_ok : rf_chkB q139_P q139_U wLay q139_M ddX3_shorten [(1,[0]),(14,[3]),(22,[2]),(49,[1]),(52,[2])] [.inl 3,.inl 5] [0,7,28,61] 600 q139_N = true := by decide +kernel
set_option maxHeartbeats 4000000 in
theorem q139_met {G : rfG} (h : okG G) (hh : wHandOK G) : rf_met G q139_M := rf_methodB h.1 (P := q139_P) (U := q139_U) (N := q139_N) ⟨wflT h flokX3, wcsT h csokX3, wlcT h lcokX3, spokX3 h, List.forall_mem_cons.mpr ⟨q100_met h hh, List.forall_mem_cons.mpr ⟨q125_met h hh, List.forall_mem_cons.mpr ⟨q108_met h hh, List.forall_mem_cons.mpr ⟨q128_met h hh, fun _ h => absurd h List.not_mem_nil⟩⟩⟩⟩, List.forall_mem_cons.mpr ⟨fun M hM => Option.some.inj (show some q100_M = some M from hM) ▸ wlkS (lkX3_39 h) q100_M rfl rfl, List.forall_mem_cons.mpr ⟨fun M hM => Option.some.inj (show some q125_M = some M from hM) ▸ wlkS (lkX3_43 h) q125_M rfl rfl, List.forall_mem_cons.mpr ⟨fun M hM => Option.some.inj (show some q128_M = some M from hM) ▸ wlkS (lkX3_43 h) q128_M rfl rfl, fun _ h => absurd h List.not_mem_nil⟩⟩⟩, List.forall_mem_cons.mpr ⟨fun M hM => Option.some.inj (show some q108_M = some M from hM) ▸ wlkV (lkX3_32 h) q108_M rfl rfl, fun _ h => absurd h List.not_mem_nil⟩, fun _ h => absurd h List.not_mem_nil, fun _ h => absurd h List.not_mem_nil⟩ dkX3_shorten (by decide +kernel) (by rw [h.2.2.1]; exact q139_ok)
/-- NearSpell.FormList.add -/
def q140_M : rfM := ((⟨"NearSpell$FormList", "add", "(I)V"⟩, prog_5_method_4_code, 4, none), (0,0), ([.inr (.inl [44]),.inl (((-2147483648),387420488,1),none)],[]), [(43,0),(44,2)], [(none,[],[])])
def q140_P : rfP := (flX3,csX3,lcX3,spX3,[],[],[],([],[]))
def q140_U : rfU := [(.inr (44,1),[(0,21),(22,22)])]
set_option maxHeartbeats 8000000 in
def q140_N : List rfB := [(0,([(0,.inr (.inl [44])),(1,.inl (((-2147483648),387420488,1),none))],[],[]),(992,[0,0]),1000000),
  (5,([(0,.inr (.inl [44])),(1,.inl (((-2147483648),387420488,1),none)),(2,.inl ((0,21,1),none))],[],[((44,1),(0,21,1),none)]),(394,[13,0]),0),
  (5,([(0,.inr (.inl [44])),(1,.inl (((-2147483648),387420488,1),none)),(2,.inl ((0,22,1),none))],[],[((44,1),(22,22,1),none)]),(700,[13,0]),0),
  (27,([(0,.inr (.inl [44])),(1,.inl (((-2147483648),387420488,1),none)),(2,.inl ((0,21,1),none))],[],[((44,1),(0,21,1),none)]),(383,[0,0]),0),
  (27,([(0,.inr (.inl [44])),(1,.inl (((-2147483648),387420488,1),none)),(2,.inl ((0,22,1),none))],[],[((44,1),(22,22,1),none)]),(689,[0,0]),0),
  (43,([(0,.inr (.inl [44])),(1,.inl (((-2147483648),387420488,1),none)),(2,.inl ((0,21,1),none))],[],[((44,1),(0,21,1),none)]),(372,[0,0]),0),
  (43,([(0,.inr (.inl [44])),(1,.inl (((-2147483648),387420488,1),none)),(2,.inl ((0,22,1),none))],[],[((44,1),(22,22,1),none)]),(679,[0,0]),0),
  (55,([(0,.inr (.inl [44])),(1,.inl (((-2147483648),387420488,1),none)),(2,.inl ((1,21,1),none))],[],[((44,1),(0,21,1),none)]),(373,[0,0]),0),
  (55,([(0,.inr (.inl [44])),(1,.inl (((-2147483648),387420488,1),none)),(2,.inl ((0,22,1),none))],[],[((44,1),(22,22,1),none)]),(673,[0,0]),0),
  (61,([(0,.inr (.inl [44])),(1,.inl (((-2147483648),387420488,1),none)),(2,.inl ((0,21,1),none)),(3,.inl ((0,21,1),none))],[],[((44,1),(0,21,1),none)]),(25,[0,16]),0)]
set_option maxRecDepth 100000 in
theorem q140_ok : rf_chkB q140_P q140_U wLay q140_M ddX3_add [] [.inl 2,.inl 3] [0,5,27,43,55,61] 600 q140_N = true := by decide +kernel
set_option maxHeartbeats 4000000 in
theorem q140_met {G : rfG} (h : okG G) (hh : wHandOK G) : rf_met G q140_M := rf_methodB h.1 (P := q140_P) (U := q140_U) (N := q140_N) ⟨wflT h flokX3, wcsT h csokX3, wlcT h lcokX3, spokX3 h, fun _ h => absurd h List.not_mem_nil, fun _ h => absurd h List.not_mem_nil, fun _ h => absurd h List.not_mem_nil, fun _ h => absurd h List.not_mem_nil, fun _ h => absurd h List.not_mem_nil⟩ dkX3_add (by decide +kernel) (by rw [h.2.2.1]; exact q140_ok)
/-- NearSpell.FormList.shorten -/
def q141_M : rfM := ((⟨"NearSpell$FormList", "shorten", "(I)V"⟩, prog_5_method_3_code, 6, none), (1,23), ([.inr (.inl [44]),.inl (((-2147483648),2147483647,1),none)],[]), [(43,0),(44,2)], [(none,[],[])])
def q141_P : rfP := (flX3,csX3,lcX3,spX3,[q100_M,q125_M,q109_M,q128_M],[(39,0),(43,1),(43,3)],[(32,2,3)],([],[]))
def q141_U : rfU := []
set_option maxHeartbeats 8000000 in
def q141_N : List rfB := [(0,([(0,.inr (.inl [44])),(1,.inl (((-2147483648),2147483647,1),none))],[],[]),(2852,[0,0]),0),
  (7,([(0,.inr (.inl [44])),(1,.inl (((-2147483648),2147483647,1),none)),(2,.inl ((0,6,1),none)),(3,.inl ((0,12,1),none))],[],[]),(2845,[(-219),0]),0),
  (28,([(0,.inr (.inl [44])),(1,.inl (((-2147483648),2147483647,1),none)),(2,.inl ((1,6,1),none)),(3,.inl ((0,11,1),none)),(4,.inl (((-2147483648),2147483647,1),none)),(5,.inl ((0,11,1),none))],[],[]),(2831,[(-219),(-17)]),0),
  (61,([(0,.inr (.inl [44])),(1,.inl (((-2147483648),2147483647,1),none)),(2,.inl ((1,6,1),none)),(3,.inl ((0,11,1),none)),(4,.inl (((-2147483648),2147483647,1),none)),(5,.inl ((0,11,1),none))],[],[]),(2629,[(-219),0]),0)]
set_option maxRecDepth 100000 in
theorem q141_ok : rf_chkB q141_P q141_U wLay q141_M ddX3_shorten [(1,[0]),(14,[3]),(22,[2]),(49,[1]),(52,[2])] [.inl 3,.inl 5] [0,7,28,61] 600 q141_N = true := by decide +kernel
set_option maxHeartbeats 4000000 in
theorem q141_met {G : rfG} (h : okG G) (hh : wHandOK G) : rf_met G q141_M := rf_methodB h.1 (P := q141_P) (U := q141_U) (N := q141_N) ⟨wflT h flokX3, wcsT h csokX3, wlcT h lcokX3, spokX3 h, List.forall_mem_cons.mpr ⟨q100_met h hh, List.forall_mem_cons.mpr ⟨q125_met h hh, List.forall_mem_cons.mpr ⟨q109_met h hh, List.forall_mem_cons.mpr ⟨q128_met h hh, fun _ h => absurd h List.not_mem_nil⟩⟩⟩⟩, List.forall_mem_cons.mpr ⟨fun M hM => Option.some.inj (show some q100_M = some M from hM) ▸ wlkS (lkX3_39 h) q100_M rfl rfl, List.forall_mem_cons.mpr ⟨fun M hM => Option.some.inj (show some q125_M = some M from hM) ▸ wlkS (lkX3_43 h) q125_M rfl rfl, List.forall_mem_cons.mpr ⟨fun M hM => Option.some.inj (show some q128_M = some M from hM) ▸ wlkS (lkX3_43 h) q128_M rfl rfl, fun _ h => absurd h List.not_mem_nil⟩⟩⟩, List.forall_mem_cons.mpr ⟨fun M hM => Option.some.inj (show some q109_M = some M from hM) ▸ wlkV (lkX3_32 h) q109_M rfl rfl, fun _ h => absurd h List.not_mem_nil⟩, fun _ h => absurd h List.not_mem_nil, fun _ h => absurd h List.not_mem_nil⟩ dkX3_shorten (by decide +kernel) (by rw [h.2.2.1]; exact q141_ok)
/-- NearSpell.FormList.add -/
def q142_M : rfM := ((⟨"NearSpell$FormList", "add", "(I)V"⟩, prog_5_method_4_code, 4, none), (0,0), ([.inr (.inl [22]),.inl (((-2147483648),387420488,1),none)],[]), [(21,0),(22,2)], [(none,[],[])])
def q142_P : rfP := (flX3,csX3,lcX3,spX3,[],[],[],([],[]))
def q142_U : rfU := [(.inr (22,1),[(0,21),(22,22)])]
set_option maxHeartbeats 8000000 in
def q142_N : List rfB := [(0,([(0,.inr (.inl [22])),(1,.inl (((-2147483648),387420488,1),none))],[],[]),(992,[0,0]),1000000),
  (5,([(0,.inr (.inl [22])),(1,.inl (((-2147483648),387420488,1),none)),(2,.inl ((0,21,1),none))],[],[((22,1),(0,21,1),none)]),(394,[13,0]),0),
  (5,([(0,.inr (.inl [22])),(1,.inl (((-2147483648),387420488,1),none)),(2,.inl ((0,22,1),none))],[],[((22,1),(22,22,1),none)]),(700,[13,0]),0),
  (27,([(0,.inr (.inl [22])),(1,.inl (((-2147483648),387420488,1),none)),(2,.inl ((0,21,1),none))],[],[((22,1),(0,21,1),none)]),(383,[0,0]),0),
  (27,([(0,.inr (.inl [22])),(1,.inl (((-2147483648),387420488,1),none)),(2,.inl ((0,22,1),none))],[],[((22,1),(22,22,1),none)]),(689,[0,0]),0),
  (43,([(0,.inr (.inl [22])),(1,.inl (((-2147483648),387420488,1),none)),(2,.inl ((0,21,1),none))],[],[((22,1),(0,21,1),none)]),(372,[0,0]),0),
  (43,([(0,.inr (.inl [22])),(1,.inl (((-2147483648),387420488,1),none)),(2,.inl ((0,22,1),none))],[],[((22,1),(22,22,1),none)]),(679,[0,0]),0),
  (55,([(0,.inr (.inl [22])),(1,.inl (((-2147483648),387420488,1),none)),(2,.inl ((1,21,1),none))],[],[((22,1),(0,21,1),none)]),(373,[0,0]),0),
  (55,([(0,.inr (.inl [22])),(1,.inl (((-2147483648),387420488,1),none)),(2,.inl ((0,22,1),none))],[],[((22,1),(22,22,1),none)]),(673,[0,0]),0),
  (61,([(0,.inr (.inl [22])),(1,.inl (((-2147483648),387420488,1),none)),(2,.inl ((0,21,1),none)),(3,.inl ((0,21,1),none))],[],[((22,1),(0,21,1),none)]),(25,[0,16]),0)]
set_option maxRecDepth 100000 in
theorem q142_ok : rf_chkB q142_P q142_U wLay q142_M ddX3_add [] [.inl 2,.inl 3] [0,5,27,43,55,61] 600 q142_N = true := by decide +kernel
set_option maxHeartbeats 4000000 in
theorem q142_met {G : rfG} (h : okG G) (hh : wHandOK G) : rf_met G q142_M := rf_methodB h.1 (P := q142_P) (U := q142_U) (N := q142_N) ⟨wflT h flokX3, wcsT h csokX3, wlcT h lcokX3, spokX3 h, fun _ h => absurd h List.not_mem_nil, fun _ h => absurd h List.not_mem_nil, fun _ h => absurd h List.not_mem_nil, fun _ h => absurd h List.not_mem_nil, fun _ h => absurd h List.not_mem_nil⟩ dkX3_add (by decide +kernel) (by rw [h.2.2.1]; exact q142_ok)
/-- NearSpell.FormList.shorten -/
def q143_M : rfM := ((⟨"NearSpell$FormList", "shorten", "(I)V"⟩, prog_5_method_3_code, 6, none), (1,23), ([.inr (.inl [22]),.inl (((-2147483648),2147483647,1),none)],[]), [(21,0),(22,2)], [(none,[],[])])
def q143_P : rfP := (flX3,csX3,lcX3,spX3,[q100_M,q125_M,q110_M,q128_M],[(39,0),(43,1),(43,3)],[(32,2,3)],([],[]))
def q143_U : rfU := []
set_option maxHeartbeats 8000000 in
def q143_N : List rfB := [(0,([(0,.inr (.inl [22])),(1,.inl (((-2147483648),2147483647,1),none))],[],[]),(2852,[0,0]),0),
  (7,([(0,.inr (.inl [22])),(1,.inl (((-2147483648),2147483647,1),none)),(2,.inl ((0,6,1),none)),(3,.inl ((0,12,1),none))],[],[]),(2845,[(-219),0]),0),
  (28,([(0,.inr (.inl [22])),(1,.inl (((-2147483648),2147483647,1),none)),(2,.inl ((1,6,1),none)),(3,.inl ((0,11,1),none)),(4,.inl (((-2147483648),2147483647,1),none)),(5,.inl ((0,11,1),none))],[],[]),(2831,[(-219),(-17)]),0),
  (61,([(0,.inr (.inl [22])),(1,.inl (((-2147483648),2147483647,1),none)),(2,.inl ((1,6,1),none)),(3,.inl ((0,11,1),none)),(4,.inl (((-2147483648),2147483647,1),none)),(5,.inl ((0,11,1),none))],[],[]),(2629,[(-219),0]),0)]
set_option maxRecDepth 100000 in
theorem q143_ok : rf_chkB q143_P q143_U wLay q143_M ddX3_shorten [(1,[0]),(14,[3]),(22,[2]),(49,[1]),(52,[2])] [.inl 3,.inl 5] [0,7,28,61] 600 q143_N = true := by decide +kernel
set_option maxHeartbeats 4000000 in
theorem q143_met {G : rfG} (h : okG G) (hh : wHandOK G) : rf_met G q143_M := rf_methodB h.1 (P := q143_P) (U := q143_U) (N := q143_N) ⟨wflT h flokX3, wcsT h csokX3, wlcT h lcokX3, spokX3 h, List.forall_mem_cons.mpr ⟨q100_met h hh, List.forall_mem_cons.mpr ⟨q125_met h hh, List.forall_mem_cons.mpr ⟨q110_met h hh, List.forall_mem_cons.mpr ⟨q128_met h hh, fun _ h => absurd h List.not_mem_nil⟩⟩⟩⟩, List.forall_mem_cons.mpr ⟨fun M hM => Option.some.inj (show some q100_M = some M from hM) ▸ wlkS (lkX3_39 h) q100_M rfl rfl, List.forall_mem_cons.mpr ⟨fun M hM => Option.some.inj (show some q125_M = some M from hM) ▸ wlkS (lkX3_43 h) q125_M rfl rfl, List.forall_mem_cons.mpr ⟨fun M hM => Option.some.inj (show some q128_M = some M from hM) ▸ wlkS (lkX3_43 h) q128_M rfl rfl, fun _ h => absurd h List.not_mem_nil⟩⟩⟩, List.forall_mem_cons.mpr ⟨fun M hM => Option.some.inj (show some q110_M = some M from hM) ▸ wlkV (lkX3_32 h) q110_M rfl rfl, fun _ h => absurd h List.not_mem_nil⟩, fun _ h => absurd h List.not_mem_nil, fun _ h => absurd h List.not_mem_nil⟩ dkX3_shorten (by decide +kernel) (by rw [h.2.2.1]; exact q143_ok)
/-- NearSpell.FormList.add -/
def q144_M : rfM := ((⟨"NearSpell$FormList", "add", "(I)V"⟩, prog_5_method_4_code, 4, none), (0,0), ([.inr (.inl [46]),.inl (((-2147483648),387420488,1),none)],[]), [(45,0),(46,2)], [(none,[],[])])
def q144_P : rfP := (flX3,csX3,lcX3,spX3,[],[],[],([],[]))
def q144_U : rfU := [(.inr (46,1),[(0,21),(22,22)])]
set_option maxHeartbeats 8000000 in
def q144_N : List rfB := [(0,([(0,.inr (.inl [46])),(1,.inl (((-2147483648),387420488,1),none))],[],[]),(992,[0,0]),1000000),
  (5,([(0,.inr (.inl [46])),(1,.inl (((-2147483648),387420488,1),none)),(2,.inl ((0,21,1),none))],[],[((46,1),(0,21,1),none)]),(394,[13,0]),0),
  (5,([(0,.inr (.inl [46])),(1,.inl (((-2147483648),387420488,1),none)),(2,.inl ((0,22,1),none))],[],[((46,1),(22,22,1),none)]),(700,[13,0]),0),
  (27,([(0,.inr (.inl [46])),(1,.inl (((-2147483648),387420488,1),none)),(2,.inl ((0,21,1),none))],[],[((46,1),(0,21,1),none)]),(383,[0,0]),0),
  (27,([(0,.inr (.inl [46])),(1,.inl (((-2147483648),387420488,1),none)),(2,.inl ((0,22,1),none))],[],[((46,1),(22,22,1),none)]),(689,[0,0]),0),
  (43,([(0,.inr (.inl [46])),(1,.inl (((-2147483648),387420488,1),none)),(2,.inl ((0,21,1),none))],[],[((46,1),(0,21,1),none)]),(372,[0,0]),0),
  (43,([(0,.inr (.inl [46])),(1,.inl (((-2147483648),387420488,1),none)),(2,.inl ((0,22,1),none))],[],[((46,1),(22,22,1),none)]),(679,[0,0]),0),
  (55,([(0,.inr (.inl [46])),(1,.inl (((-2147483648),387420488,1),none)),(2,.inl ((1,21,1),none))],[],[((46,1),(0,21,1),none)]),(373,[0,0]),0),
  (55,([(0,.inr (.inl [46])),(1,.inl (((-2147483648),387420488,1),none)),(2,.inl ((0,22,1),none))],[],[((46,1),(22,22,1),none)]),(673,[0,0]),0),
  (61,([(0,.inr (.inl [46])),(1,.inl (((-2147483648),387420488,1),none)),(2,.inl ((0,21,1),none)),(3,.inl ((0,21,1),none))],[],[((46,1),(0,21,1),none)]),(25,[0,16]),0)]
set_option maxRecDepth 100000 in
theorem q144_ok : rf_chkB q144_P q144_U wLay q144_M ddX3_add [] [.inl 2,.inl 3] [0,5,27,43,55,61] 600 q144_N = true := by decide +kernel
set_option maxHeartbeats 4000000 in
theorem q144_met {G : rfG} (h : okG G) (hh : wHandOK G) : rf_met G q144_M := rf_methodB h.1 (P := q144_P) (U := q144_U) (N := q144_N) ⟨wflT h flokX3, wcsT h csokX3, wlcT h lcokX3, spokX3 h, fun _ h => absurd h List.not_mem_nil, fun _ h => absurd h List.not_mem_nil, fun _ h => absurd h List.not_mem_nil, fun _ h => absurd h List.not_mem_nil, fun _ h => absurd h List.not_mem_nil⟩ dkX3_add (by decide +kernel) (by rw [h.2.2.1]; exact q144_ok)
/-- NearSpell.FormList.shorten -/
def q145_M : rfM := ((⟨"NearSpell$FormList", "shorten", "(I)V"⟩, prog_5_method_3_code, 6, none), (1,23), ([.inr (.inl [46]),.inl (((-2147483648),2147483647,1),none)],[]), [(45,0),(46,2)], [(none,[],[])])
def q145_P : rfP := (flX3,csX3,lcX3,spX3,[q100_M,q125_M,q111_M,q128_M],[(39,0),(43,1),(43,3)],[(32,2,3)],([],[]))
def q145_U : rfU := []
set_option maxHeartbeats 8000000 in
def q145_N : List rfB := [(0,([(0,.inr (.inl [46])),(1,.inl (((-2147483648),2147483647,1),none))],[],[]),(2852,[0,0]),0),
  (7,([(0,.inr (.inl [46])),(1,.inl (((-2147483648),2147483647,1),none)),(2,.inl ((0,6,1),none)),(3,.inl ((0,12,1),none))],[],[]),(2845,[(-219),0]),0),
  (28,([(0,.inr (.inl [46])),(1,.inl (((-2147483648),2147483647,1),none)),(2,.inl ((1,6,1),none)),(3,.inl ((0,11,1),none)),(4,.inl (((-2147483648),2147483647,1),none)),(5,.inl ((0,11,1),none))],[],[]),(2831,[(-219),(-17)]),0),
  (61,([(0,.inr (.inl [46])),(1,.inl (((-2147483648),2147483647,1),none)),(2,.inl ((1,6,1),none)),(3,.inl ((0,11,1),none)),(4,.inl (((-2147483648),2147483647,1),none)),(5,.inl ((0,11,1),none))],[],[]),(2629,[(-219),0]),0)]
set_option maxRecDepth 100000 in
theorem q145_ok : rf_chkB q145_P q145_U wLay q145_M ddX3_shorten [(1,[0]),(14,[3]),(22,[2]),(49,[1]),(52,[2])] [.inl 3,.inl 5] [0,7,28,61] 600 q145_N = true := by decide +kernel
set_option maxHeartbeats 4000000 in
theorem q145_met {G : rfG} (h : okG G) (hh : wHandOK G) : rf_met G q145_M := rf_methodB h.1 (P := q145_P) (U := q145_U) (N := q145_N) ⟨wflT h flokX3, wcsT h csokX3, wlcT h lcokX3, spokX3 h, List.forall_mem_cons.mpr ⟨q100_met h hh, List.forall_mem_cons.mpr ⟨q125_met h hh, List.forall_mem_cons.mpr ⟨q111_met h hh, List.forall_mem_cons.mpr ⟨q128_met h hh, fun _ h => absurd h List.not_mem_nil⟩⟩⟩⟩, List.forall_mem_cons.mpr ⟨fun M hM => Option.some.inj (show some q100_M = some M from hM) ▸ wlkS (lkX3_39 h) q100_M rfl rfl, List.forall_mem_cons.mpr ⟨fun M hM => Option.some.inj (show some q125_M = some M from hM) ▸ wlkS (lkX3_43 h) q125_M rfl rfl, List.forall_mem_cons.mpr ⟨fun M hM => Option.some.inj (show some q128_M = some M from hM) ▸ wlkS (lkX3_43 h) q128_M rfl rfl, fun _ h => absurd h List.not_mem_nil⟩⟩⟩, List.forall_mem_cons.mpr ⟨fun M hM => Option.some.inj (show some q111_M = some M from hM) ▸ wlkV (lkX3_32 h) q111_M rfl rfl, fun _ h => absurd h List.not_mem_nil⟩, fun _ h => absurd h List.not_mem_nil, fun _ h => absurd h List.not_mem_nil⟩ dkX3_shorten (by decide +kernel) (by rw [h.2.2.1]; exact q145_ok)
/-- NearSpell.FormList.add -/
def q146_M : rfM := ((⟨"NearSpell$FormList", "add", "(I)V"⟩, prog_5_method_4_code, 4, none), (0,0), ([.inr (.inl [48]),.inl (((-2147483648),387420488,1),none)],[]), [(47,0),(48,2)], [(none,[],[])])
def q146_P : rfP := (flX3,csX3,lcX3,spX3,[],[],[],([],[]))
def q146_U : rfU := [(.inr (48,1),[(0,21),(22,22)])]
set_option maxHeartbeats 8000000 in
def q146_N : List rfB := [(0,([(0,.inr (.inl [48])),(1,.inl (((-2147483648),387420488,1),none))],[],[]),(992,[0,0]),1000000),
  (5,([(0,.inr (.inl [48])),(1,.inl (((-2147483648),387420488,1),none)),(2,.inl ((0,22,1),none))],[],[((48,1),(22,22,1),none)]),(700,[13,0]),0),
  (5,([(0,.inr (.inl [48])),(1,.inl (((-2147483648),387420488,1),none)),(2,.inl ((0,21,1),none))],[],[((48,1),(0,21,1),none)]),(394,[13,0]),0),
  (27,([(0,.inr (.inl [48])),(1,.inl (((-2147483648),387420488,1),none)),(2,.inl ((0,21,1),none))],[],[((48,1),(0,21,1),none)]),(383,[0,0]),0),
  (27,([(0,.inr (.inl [48])),(1,.inl (((-2147483648),387420488,1),none)),(2,.inl ((0,22,1),none))],[],[((48,1),(22,22,1),none)]),(689,[0,0]),0),
  (43,([(0,.inr (.inl [48])),(1,.inl (((-2147483648),387420488,1),none)),(2,.inl ((0,21,1),none))],[],[((48,1),(0,21,1),none)]),(372,[0,0]),0),
  (43,([(0,.inr (.inl [48])),(1,.inl (((-2147483648),387420488,1),none)),(2,.inl ((0,22,1),none))],[],[((48,1),(22,22,1),none)]),(679,[0,0]),0),
  (55,([(0,.inr (.inl [48])),(1,.inl (((-2147483648),387420488,1),none)),(2,.inl ((1,21,1),none))],[],[((48,1),(0,21,1),none)]),(373,[0,0]),0),
  (55,([(0,.inr (.inl [48])),(1,.inl (((-2147483648),387420488,1),none)),(2,.inl ((0,22,1),none))],[],[((48,1),(22,22,1),none)]),(673,[0,0]),0),
  (61,([(0,.inr (.inl [48])),(1,.inl (((-2147483648),387420488,1),none)),(2,.inl ((0,21,1),none)),(3,.inl ((0,21,1),none))],[],[((48,1),(0,21,1),none)]),(25,[0,16]),0)]
set_option maxRecDepth 100000 in
theorem q146_ok : rf_chkB q146_P q146_U wLay q146_M ddX3_add [] [.inl 2,.inl 3] [0,5,27,43,55,61] 600 q146_N = true := by decide +kernel
set_option maxHeartbeats 4000000 in
theorem q146_met {G : rfG} (h : okG G) (hh : wHandOK G) : rf_met G q146_M := rf_methodB h.1 (P := q146_P) (U := q146_U) (N := q146_N) ⟨wflT h flokX3, wcsT h csokX3, wlcT h lcokX3, spokX3 h, fun _ h => absurd h List.not_mem_nil, fun _ h => absurd h List.not_mem_nil, fun _ h => absurd h List.not_mem_nil, fun _ h => absurd h List.not_mem_nil, fun _ h => absurd h List.not_mem_nil⟩ dkX3_add (by decide +kernel) (by rw [h.2.2.1]; exact q146_ok)
/-- NearSpell.FormList.shorten -/
def q147_M : rfM := ((⟨"NearSpell$FormList", "shorten", "(I)V"⟩, prog_5_method_3_code, 6, none), (1,23), ([.inr (.inl [48]),.inl (((-2147483648),2147483647,1),none)],[]), [(47,0),(48,2)], [(none,[],[])])
def q147_P : rfP := (flX3,csX3,lcX3,spX3,[q100_M,q125_M,q112_M,q128_M],[(39,0),(43,1),(43,3)],[(32,2,3)],([],[]))
def q147_U : rfU := []
set_option maxHeartbeats 8000000 in
def q147_N : List rfB := [(0,([(0,.inr (.inl [48])),(1,.inl (((-2147483648),2147483647,1),none))],[],[]),(2852,[0,0]),0),
  (7,([(0,.inr (.inl [48])),(1,.inl (((-2147483648),2147483647,1),none)),(2,.inl ((0,6,1),none)),(3,.inl ((0,12,1),none))],[],[]),(2845,[(-219),0]),0),
  (28,([(0,.inr (.inl [48])),(1,.inl (((-2147483648),2147483647,1),none)),(2,.inl ((1,6,1),none)),(3,.inl ((0,11,1),none)),(4,.inl (((-2147483648),2147483647,1),none)),(5,.inl ((0,11,1),none))],[],[]),(2831,[(-219),(-17)]),0),
  (61,([(0,.inr (.inl [48])),(1,.inl (((-2147483648),2147483647,1),none)),(2,.inl ((1,6,1),none)),(3,.inl ((0,11,1),none)),(4,.inl (((-2147483648),2147483647,1),none)),(5,.inl ((0,11,1),none))],[],[]),(2629,[(-219),0]),0)]
set_option maxRecDepth 100000 in
theorem q147_ok : rf_chkB q147_P q147_U wLay q147_M ddX3_shorten [(1,[0]),(14,[3]),(22,[2]),(49,[1]),(52,[2])] [.inl 3,.inl 5] [0,7,28,61] 600 q147_N = true := by decide +kernel
set_option maxHeartbeats 4000000 in
theorem q147_met {G : rfG} (h : okG G) (hh : wHandOK G) : rf_met G q147_M := rf_methodB h.1 (P := q147_P) (U := q147_U) (N := q147_N) ⟨wflT h flokX3, wcsT h csokX3, wlcT h lcokX3, spokX3 h, List.forall_mem_cons.mpr ⟨q100_met h hh, List.forall_mem_cons.mpr ⟨q125_met h hh, List.forall_mem_cons.mpr ⟨q112_met h hh, List.forall_mem_cons.mpr ⟨q128_met h hh, fun _ h => absurd h List.not_mem_nil⟩⟩⟩⟩, List.forall_mem_cons.mpr ⟨fun M hM => Option.some.inj (show some q100_M = some M from hM) ▸ wlkS (lkX3_39 h) q100_M rfl rfl, List.forall_mem_cons.mpr ⟨fun M hM => Option.some.inj (show some q125_M = some M from hM) ▸ wlkS (lkX3_43 h) q125_M rfl rfl, List.forall_mem_cons.mpr ⟨fun M hM => Option.some.inj (show some q128_M = some M from hM) ▸ wlkS (lkX3_43 h) q128_M rfl rfl, fun _ h => absurd h List.not_mem_nil⟩⟩⟩, List.forall_mem_cons.mpr ⟨fun M hM => Option.some.inj (show some q112_M = some M from hM) ▸ wlkV (lkX3_32 h) q112_M rfl rfl, fun _ h => absurd h List.not_mem_nil⟩, fun _ h => absurd h List.not_mem_nil, fun _ h => absurd h List.not_mem_nil⟩ dkX3_shorten (by decide +kernel) (by rw [h.2.2.1]; exact q147_ok)
/-- NearSpell.FormList.add -/
def q148_M : rfM := ((⟨"NearSpell$FormList", "add", "(I)V"⟩, prog_5_method_4_code, 4, none), (0,0), ([.inr (.inl [38]),.inl (((-2147483648),387420488,1),none)],[]), [(37,0),(38,2)], [(none,[],[])])
def q148_P : rfP := (flX3,csX3,lcX3,spX3,[],[],[],([],[]))
def q148_U : rfU := [(.inr (38,1),[(0,21),(22,22)])]
set_option maxHeartbeats 8000000 in
def q148_N : List rfB := [(0,([(0,.inr (.inl [38])),(1,.inl (((-2147483648),387420488,1),none))],[],[]),(992,[0,0]),1000000),
  (5,([(0,.inr (.inl [38])),(1,.inl (((-2147483648),387420488,1),none)),(2,.inl ((0,21,1),none))],[],[((38,1),(0,21,1),none)]),(394,[13,0]),0),
  (5,([(0,.inr (.inl [38])),(1,.inl (((-2147483648),387420488,1),none)),(2,.inl ((0,22,1),none))],[],[((38,1),(22,22,1),none)]),(700,[13,0]),0),
  (27,([(0,.inr (.inl [38])),(1,.inl (((-2147483648),387420488,1),none)),(2,.inl ((0,21,1),none))],[],[((38,1),(0,21,1),none)]),(383,[0,0]),0),
  (27,([(0,.inr (.inl [38])),(1,.inl (((-2147483648),387420488,1),none)),(2,.inl ((0,22,1),none))],[],[((38,1),(22,22,1),none)]),(689,[0,0]),0),
  (43,([(0,.inr (.inl [38])),(1,.inl (((-2147483648),387420488,1),none)),(2,.inl ((0,21,1),none))],[],[((38,1),(0,21,1),none)]),(372,[0,0]),0),
  (43,([(0,.inr (.inl [38])),(1,.inl (((-2147483648),387420488,1),none)),(2,.inl ((0,22,1),none))],[],[((38,1),(22,22,1),none)]),(679,[0,0]),0),
  (55,([(0,.inr (.inl [38])),(1,.inl (((-2147483648),387420488,1),none)),(2,.inl ((1,21,1),none))],[],[((38,1),(0,21,1),none)]),(373,[0,0]),0),
  (55,([(0,.inr (.inl [38])),(1,.inl (((-2147483648),387420488,1),none)),(2,.inl ((0,22,1),none))],[],[((38,1),(22,22,1),none)]),(673,[0,0]),0),
  (61,([(0,.inr (.inl [38])),(1,.inl (((-2147483648),387420488,1),none)),(2,.inl ((0,21,1),none)),(3,.inl ((0,21,1),none))],[],[((38,1),(0,21,1),none)]),(25,[0,16]),0)]
set_option maxRecDepth 100000 in
theorem q148_ok : rf_chkB q148_P q148_U wLay q148_M ddX3_add [] [.inl 2,.inl 3] [0,5,27,43,55,61] 600 q148_N = true := by decide +kernel
set_option maxHeartbeats 4000000 in
theorem q148_met {G : rfG} (h : okG G) (hh : wHandOK G) : rf_met G q148_M := rf_methodB h.1 (P := q148_P) (U := q148_U) (N := q148_N) ⟨wflT h flokX3, wcsT h csokX3, wlcT h lcokX3, spokX3 h, fun _ h => absurd h List.not_mem_nil, fun _ h => absurd h List.not_mem_nil, fun _ h => absurd h List.not_mem_nil, fun _ h => absurd h List.not_mem_nil, fun _ h => absurd h List.not_mem_nil⟩ dkX3_add (by decide +kernel) (by rw [h.2.2.1]; exact q148_ok)
/-- NearSpell.FormList.shorten -/
def q149_M : rfM := ((⟨"NearSpell$FormList", "shorten", "(I)V"⟩, prog_5_method_3_code, 6, none), (1,23), ([.inr (.inl [38]),.inl (((-2147483648),2147483647,1),none)],[]), [(37,0),(38,2)], [(none,[],[])])
def q149_P : rfP := (flX3,csX3,lcX3,spX3,[q100_M,q125_M,q113_M,q128_M],[(39,0),(43,1),(43,3)],[(32,2,3)],([],[]))
def q149_U : rfU := []
set_option maxHeartbeats 8000000 in
def q149_N : List rfB := [(0,([(0,.inr (.inl [38])),(1,.inl (((-2147483648),2147483647,1),none))],[],[]),(2852,[0,0]),0),
  (7,([(0,.inr (.inl [38])),(1,.inl (((-2147483648),2147483647,1),none)),(2,.inl ((0,6,1),none)),(3,.inl ((0,12,1),none))],[],[]),(2845,[(-219),0]),0),
  (28,([(0,.inr (.inl [38])),(1,.inl (((-2147483648),2147483647,1),none)),(2,.inl ((1,6,1),none)),(3,.inl ((0,11,1),none)),(4,.inl (((-2147483648),2147483647,1),none)),(5,.inl ((0,11,1),none))],[],[]),(2831,[(-219),(-17)]),0),
  (61,([(0,.inr (.inl [38])),(1,.inl (((-2147483648),2147483647,1),none)),(2,.inl ((1,6,1),none)),(3,.inl ((0,11,1),none)),(4,.inl (((-2147483648),2147483647,1),none)),(5,.inl ((0,11,1),none))],[],[]),(2629,[(-219),0]),0)]
set_option maxRecDepth 100000 in
theorem q149_ok : rf_chkB q149_P q149_U wLay q149_M ddX3_shorten [(1,[0]),(14,[3]),(22,[2]),(49,[1]),(52,[2])] [.inl 3,.inl 5] [0,7,28,61] 600 q149_N = true := by decide +kernel
set_option maxHeartbeats 4000000 in
theorem q149_met {G : rfG} (h : okG G) (hh : wHandOK G) : rf_met G q149_M := rf_methodB h.1 (P := q149_P) (U := q149_U) (N := q149_N) ⟨wflT h flokX3, wcsT h csokX3, wlcT h lcokX3, spokX3 h, List.forall_mem_cons.mpr ⟨q100_met h hh, List.forall_mem_cons.mpr ⟨q125_met h hh, List.forall_mem_cons.mpr ⟨q113_met h hh, List.forall_mem_cons.mpr ⟨q128_met h hh, fun _ h => absurd h List.not_mem_nil⟩⟩⟩⟩, List.forall_mem_cons.mpr ⟨fun M hM => Option.some.inj (show some q100_M = some M from hM) ▸ wlkS (lkX3_39 h) q100_M rfl rfl, List.forall_mem_cons.mpr ⟨fun M hM => Option.some.inj (show some q125_M = some M from hM) ▸ wlkS (lkX3_43 h) q125_M rfl rfl, List.forall_mem_cons.mpr ⟨fun M hM => Option.some.inj (show some q128_M = some M from hM) ▸ wlkS (lkX3_43 h) q128_M rfl rfl, fun _ h => absurd h List.not_mem_nil⟩⟩⟩, List.forall_mem_cons.mpr ⟨fun M hM => Option.some.inj (show some q113_M = some M from hM) ▸ wlkV (lkX3_32 h) q113_M rfl rfl, fun _ h => absurd h List.not_mem_nil⟩, fun _ h => absurd h List.not_mem_nil, fun _ h => absurd h List.not_mem_nil⟩ dkX3_shorten (by decide +kernel) (by rw [h.2.2.1]; exact q149_ok)
/-- NearSpell.FormList.add -/
def q150_M : rfM := ((⟨"NearSpell$FormList", "add", "(I)V"⟩, prog_5_method_4_code, 4, none), (0,0), ([.inr (.inl [30]),.inl (((-2147483648),387420488,1),none)],[]), [(29,0),(30,2)], [(none,[],[])])
def q150_P : rfP := (flX3,csX3,lcX3,spX3,[],[],[],([],[]))
def q150_U : rfU := [(.inr (30,1),[(0,21),(22,22)])]
set_option maxHeartbeats 8000000 in
def q150_N : List rfB := [(0,([(0,.inr (.inl [30])),(1,.inl (((-2147483648),387420488,1),none))],[],[]),(992,[0,0]),1000000),
  (5,([(0,.inr (.inl [30])),(1,.inl (((-2147483648),387420488,1),none)),(2,.inl ((0,21,1),none))],[],[((30,1),(0,21,1),none)]),(394,[13,0]),0),
  (5,([(0,.inr (.inl [30])),(1,.inl (((-2147483648),387420488,1),none)),(2,.inl ((0,22,1),none))],[],[((30,1),(22,22,1),none)]),(700,[13,0]),0),
  (27,([(0,.inr (.inl [30])),(1,.inl (((-2147483648),387420488,1),none)),(2,.inl ((0,21,1),none))],[],[((30,1),(0,21,1),none)]),(383,[0,0]),0),
  (27,([(0,.inr (.inl [30])),(1,.inl (((-2147483648),387420488,1),none)),(2,.inl ((0,22,1),none))],[],[((30,1),(22,22,1),none)]),(689,[0,0]),0),
  (43,([(0,.inr (.inl [30])),(1,.inl (((-2147483648),387420488,1),none)),(2,.inl ((0,21,1),none))],[],[((30,1),(0,21,1),none)]),(372,[0,0]),0),
  (43,([(0,.inr (.inl [30])),(1,.inl (((-2147483648),387420488,1),none)),(2,.inl ((0,22,1),none))],[],[((30,1),(22,22,1),none)]),(679,[0,0]),0),
  (55,([(0,.inr (.inl [30])),(1,.inl (((-2147483648),387420488,1),none)),(2,.inl ((1,21,1),none))],[],[((30,1),(0,21,1),none)]),(373,[0,0]),0),
  (55,([(0,.inr (.inl [30])),(1,.inl (((-2147483648),387420488,1),none)),(2,.inl ((0,22,1),none))],[],[((30,1),(22,22,1),none)]),(673,[0,0]),0),
  (61,([(0,.inr (.inl [30])),(1,.inl (((-2147483648),387420488,1),none)),(2,.inl ((0,21,1),none)),(3,.inl ((0,21,1),none))],[],[((30,1),(0,21,1),none)]),(25,[0,16]),0)]
set_option maxRecDepth 100000 in
theorem q150_ok : rf_chkB q150_P q150_U wLay q150_M ddX3_add [] [.inl 2,.inl 3] [0,5,27,43,55,61] 600 q150_N = true := by decide +kernel
set_option maxHeartbeats 4000000 in
theorem q150_met {G : rfG} (h : okG G) (hh : wHandOK G) : rf_met G q150_M := rf_methodB h.1 (P := q150_P) (U := q150_U) (N := q150_N) ⟨wflT h flokX3, wcsT h csokX3, wlcT h lcokX3, spokX3 h, fun _ h => absurd h List.not_mem_nil, fun _ h => absurd h List.not_mem_nil, fun _ h => absurd h List.not_mem_nil, fun _ h => absurd h List.not_mem_nil, fun _ h => absurd h List.not_mem_nil⟩ dkX3_add (by decide +kernel) (by rw [h.2.2.1]; exact q150_ok)
/-- NearSpell.FormList.shorten -/
def q151_M : rfM := ((⟨"NearSpell$FormList", "shorten", "(I)V"⟩, prog_5_method_3_code, 6, none), (1,23), ([.inr (.inl [30]),.inl (((-2147483648),2147483647,1),none)],[]), [(29,0),(30,2)], [(none,[],[])])
def q151_P : rfP := (flX3,csX3,lcX3,spX3,[q100_M,q125_M,q114_M,q128_M],[(39,0),(43,1),(43,3)],[(32,2,3)],([],[]))
def q151_U : rfU := []
set_option maxHeartbeats 8000000 in
def q151_N : List rfB := [(0,([(0,.inr (.inl [30])),(1,.inl (((-2147483648),2147483647,1),none))],[],[]),(2852,[0,0]),0),
  (7,([(0,.inr (.inl [30])),(1,.inl (((-2147483648),2147483647,1),none)),(2,.inl ((0,6,1),none)),(3,.inl ((0,12,1),none))],[],[]),(2845,[(-219),0]),0),
  (28,([(0,.inr (.inl [30])),(1,.inl (((-2147483648),2147483647,1),none)),(2,.inl ((1,6,1),none)),(3,.inl ((0,11,1),none)),(4,.inl (((-2147483648),2147483647,1),none)),(5,.inl ((0,11,1),none))],[],[]),(2831,[(-219),(-17)]),0),
  (61,([(0,.inr (.inl [30])),(1,.inl (((-2147483648),2147483647,1),none)),(2,.inl ((1,6,1),none)),(3,.inl ((0,11,1),none)),(4,.inl (((-2147483648),2147483647,1),none)),(5,.inl ((0,11,1),none))],[],[]),(2629,[(-219),0]),0)]
set_option maxRecDepth 100000 in
theorem q151_ok : rf_chkB q151_P q151_U wLay q151_M ddX3_shorten [(1,[0]),(14,[3]),(22,[2]),(49,[1]),(52,[2])] [.inl 3,.inl 5] [0,7,28,61] 600 q151_N = true := by decide +kernel
set_option maxHeartbeats 4000000 in
theorem q151_met {G : rfG} (h : okG G) (hh : wHandOK G) : rf_met G q151_M := rf_methodB h.1 (P := q151_P) (U := q151_U) (N := q151_N) ⟨wflT h flokX3, wcsT h csokX3, wlcT h lcokX3, spokX3 h, List.forall_mem_cons.mpr ⟨q100_met h hh, List.forall_mem_cons.mpr ⟨q125_met h hh, List.forall_mem_cons.mpr ⟨q114_met h hh, List.forall_mem_cons.mpr ⟨q128_met h hh, fun _ h => absurd h List.not_mem_nil⟩⟩⟩⟩, List.forall_mem_cons.mpr ⟨fun M hM => Option.some.inj (show some q100_M = some M from hM) ▸ wlkS (lkX3_39 h) q100_M rfl rfl, List.forall_mem_cons.mpr ⟨fun M hM => Option.some.inj (show some q125_M = some M from hM) ▸ wlkS (lkX3_43 h) q125_M rfl rfl, List.forall_mem_cons.mpr ⟨fun M hM => Option.some.inj (show some q128_M = some M from hM) ▸ wlkS (lkX3_43 h) q128_M rfl rfl, fun _ h => absurd h List.not_mem_nil⟩⟩⟩, List.forall_mem_cons.mpr ⟨fun M hM => Option.some.inj (show some q114_M = some M from hM) ▸ wlkV (lkX3_32 h) q114_M rfl rfl, fun _ h => absurd h List.not_mem_nil⟩, fun _ h => absurd h List.not_mem_nil, fun _ h => absurd h List.not_mem_nil⟩ dkX3_shorten (by decide +kernel) (by rw [h.2.2.1]; exact q151_ok)
/-- NearSpell.FormList.add -/
def q152_M : rfM := ((⟨"NearSpell$FormList", "add", "(I)V"⟩, prog_5_method_4_code, 4, none), (0,0), ([.inr (.inl [28]),.inl (((-2147483648),387420488,1),none)],[]), [(27,0),(28,2)], [(none,[],[])])
def q152_P : rfP := (flX3,csX3,lcX3,spX3,[],[],[],([],[]))
def q152_U : rfU := [(.inr (28,1),[(0,21),(22,22)])]
set_option maxHeartbeats 8000000 in
def q152_N : List rfB := [(0,([(0,.inr (.inl [28])),(1,.inl (((-2147483648),387420488,1),none))],[],[]),(992,[0,0]),1000000),
  (5,([(0,.inr (.inl [28])),(1,.inl (((-2147483648),387420488,1),none)),(2,.inl ((0,22,1),none))],[],[((28,1),(22,22,1),none)]),(700,[13,0]),0),
  (5,([(0,.inr (.inl [28])),(1,.inl (((-2147483648),387420488,1),none)),(2,.inl ((0,21,1),none))],[],[((28,1),(0,21,1),none)]),(394,[13,0]),0),
  (27,([(0,.inr (.inl [28])),(1,.inl (((-2147483648),387420488,1),none)),(2,.inl ((0,21,1),none))],[],[((28,1),(0,21,1),none)]),(383,[0,0]),0),
  (27,([(0,.inr (.inl [28])),(1,.inl (((-2147483648),387420488,1),none)),(2,.inl ((0,22,1),none))],[],[((28,1),(22,22,1),none)]),(689,[0,0]),0),
  (43,([(0,.inr (.inl [28])),(1,.inl (((-2147483648),387420488,1),none)),(2,.inl ((0,21,1),none))],[],[((28,1),(0,21,1),none)]),(372,[0,0]),0),
  (43,([(0,.inr (.inl [28])),(1,.inl (((-2147483648),387420488,1),none)),(2,.inl ((0,22,1),none))],[],[((28,1),(22,22,1),none)]),(679,[0,0]),0),
  (55,([(0,.inr (.inl [28])),(1,.inl (((-2147483648),387420488,1),none)),(2,.inl ((1,21,1),none))],[],[((28,1),(0,21,1),none)]),(373,[0,0]),0),
  (55,([(0,.inr (.inl [28])),(1,.inl (((-2147483648),387420488,1),none)),(2,.inl ((0,22,1),none))],[],[((28,1),(22,22,1),none)]),(673,[0,0]),0),
  (61,([(0,.inr (.inl [28])),(1,.inl (((-2147483648),387420488,1),none)),(2,.inl ((0,21,1),none)),(3,.inl ((0,21,1),none))],[],[((28,1),(0,21,1),none)]),(25,[0,16]),0)]
set_option maxRecDepth 100000 in
theorem q152_ok : rf_chkB q152_P q152_U wLay q152_M ddX3_add [] [.inl 2,.inl 3] [0,5,27,43,55,61] 600 q152_N = true := by decide +kernel
set_option maxHeartbeats 4000000 in
theorem q152_met {G : rfG} (h : okG G) (hh : wHandOK G) : rf_met G q152_M := rf_methodB h.1 (P := q152_P) (U := q152_U) (N := q152_N) ⟨wflT h flokX3, wcsT h csokX3, wlcT h lcokX3, spokX3 h, fun _ h => absurd h List.not_mem_nil, fun _ h => absurd h List.not_mem_nil, fun _ h => absurd h List.not_mem_nil, fun _ h => absurd h List.not_mem_nil, fun _ h => absurd h List.not_mem_nil⟩ dkX3_add (by decide +kernel) (by rw [h.2.2.1]; exact q152_ok)
/-- NearSpell.FormList.shorten -/
def q153_M : rfM := ((⟨"NearSpell$FormList", "shorten", "(I)V"⟩, prog_5_method_3_code, 6, none), (1,23), ([.inr (.inl [28]),.inl (((-2147483648),2147483647,1),none)],[]), [(27,0),(28,2)], [(none,[],[])])
def q153_P : rfP := (flX3,csX3,lcX3,spX3,[q100_M,q125_M,q115_M,q128_M],[(39,0),(43,1),(43,3)],[(32,2,3)],([],[]))
def q153_U : rfU := []
set_option maxHeartbeats 8000000 in
def q153_N : List rfB := [(0,([(0,.inr (.inl [28])),(1,.inl (((-2147483648),2147483647,1),none))],[],[]),(2852,[0,0]),0),
  (7,([(0,.inr (.inl [28])),(1,.inl (((-2147483648),2147483647,1),none)),(2,.inl ((0,6,1),none)),(3,.inl ((0,12,1),none))],[],[]),(2845,[(-219),0]),0),
  (28,([(0,.inr (.inl [28])),(1,.inl (((-2147483648),2147483647,1),none)),(2,.inl ((1,6,1),none)),(3,.inl ((0,11,1),none)),(4,.inl (((-2147483648),2147483647,1),none)),(5,.inl ((0,11,1),none))],[],[]),(2831,[(-219),(-17)]),0),
  (61,([(0,.inr (.inl [28])),(1,.inl (((-2147483648),2147483647,1),none)),(2,.inl ((1,6,1),none)),(3,.inl ((0,11,1),none)),(4,.inl (((-2147483648),2147483647,1),none)),(5,.inl ((0,11,1),none))],[],[]),(2629,[(-219),0]),0)]
set_option maxRecDepth 100000 in
theorem q153_ok : rf_chkB q153_P q153_U wLay q153_M ddX3_shorten [(1,[0]),(14,[3]),(22,[2]),(49,[1]),(52,[2])] [.inl 3,.inl 5] [0,7,28,61] 600 q153_N = true := by decide +kernel
set_option maxHeartbeats 4000000 in
theorem q153_met {G : rfG} (h : okG G) (hh : wHandOK G) : rf_met G q153_M := rf_methodB h.1 (P := q153_P) (U := q153_U) (N := q153_N) ⟨wflT h flokX3, wcsT h csokX3, wlcT h lcokX3, spokX3 h, List.forall_mem_cons.mpr ⟨q100_met h hh, List.forall_mem_cons.mpr ⟨q125_met h hh, List.forall_mem_cons.mpr ⟨q115_met h hh, List.forall_mem_cons.mpr ⟨q128_met h hh, fun _ h => absurd h List.not_mem_nil⟩⟩⟩⟩, List.forall_mem_cons.mpr ⟨fun M hM => Option.some.inj (show some q100_M = some M from hM) ▸ wlkS (lkX3_39 h) q100_M rfl rfl, List.forall_mem_cons.mpr ⟨fun M hM => Option.some.inj (show some q125_M = some M from hM) ▸ wlkS (lkX3_43 h) q125_M rfl rfl, List.forall_mem_cons.mpr ⟨fun M hM => Option.some.inj (show some q128_M = some M from hM) ▸ wlkS (lkX3_43 h) q128_M rfl rfl, fun _ h => absurd h List.not_mem_nil⟩⟩⟩, List.forall_mem_cons.mpr ⟨fun M hM => Option.some.inj (show some q115_M = some M from hM) ▸ wlkV (lkX3_32 h) q115_M rfl rfl, fun _ h => absurd h List.not_mem_nil⟩, fun _ h => absurd h List.not_mem_nil, fun _ h => absurd h List.not_mem_nil⟩ dkX3_shorten (by decide +kernel) (by rw [h.2.2.1]; exact q153_ok)
/-- NearSpell.FormList.add -/
def q154_M : rfM := ((⟨"NearSpell$FormList", "add", "(I)V"⟩, prog_5_method_4_code, 4, none), (0,0), ([.inr (.inl [36]),.inl (((-2147483648),387420488,1),none)],[]), [(35,0),(36,2)], [(none,[],[])])
def q154_P : rfP := (flX3,csX3,lcX3,spX3,[],[],[],([],[]))
def q154_U : rfU := [(.inr (36,1),[(0,21),(22,22)])]
set_option maxHeartbeats 8000000 in
def q154_N : List rfB := [(0,([(0,.inr (.inl [36])),(1,.inl (((-2147483648),387420488,1),none))],[],[]),(992,[0,0]),1000000),
  (5,([(0,.inr (.inl [36])),(1,.inl (((-2147483648),387420488,1),none)),(2,.inl ((0,22,1),none))],[],[((36,1),(22,22,1),none)]),(700,[13,0]),0),
  (5,([(0,.inr (.inl [36])),(1,.inl (((-2147483648),387420488,1),none)),(2,.inl ((0,21,1),none))],[],[((36,1),(0,21,1),none)]),(394,[13,0]),0),
  (27,([(0,.inr (.inl [36])),(1,.inl (((-2147483648),387420488,1),none)),(2,.inl ((0,21,1),none))],[],[((36,1),(0,21,1),none)]),(383,[0,0]),0),
  (27,([(0,.inr (.inl [36])),(1,.inl (((-2147483648),387420488,1),none)),(2,.inl ((0,22,1),none))],[],[((36,1),(22,22,1),none)]),(689,[0,0]),0),
  (43,([(0,.inr (.inl [36])),(1,.inl (((-2147483648),387420488,1),none)),(2,.inl ((0,21,1),none))],[],[((36,1),(0,21,1),none)]),(372,[0,0]),0),
  (43,([(0,.inr (.inl [36])),(1,.inl (((-2147483648),387420488,1),none)),(2,.inl ((0,22,1),none))],[],[((36,1),(22,22,1),none)]),(679,[0,0]),0),
  (55,([(0,.inr (.inl [36])),(1,.inl (((-2147483648),387420488,1),none)),(2,.inl ((1,21,1),none))],[],[((36,1),(0,21,1),none)]),(373,[0,0]),0),
  (55,([(0,.inr (.inl [36])),(1,.inl (((-2147483648),387420488,1),none)),(2,.inl ((0,22,1),none))],[],[((36,1),(22,22,1),none)]),(673,[0,0]),0),
  (61,([(0,.inr (.inl [36])),(1,.inl (((-2147483648),387420488,1),none)),(2,.inl ((0,21,1),none)),(3,.inl ((0,21,1),none))],[],[((36,1),(0,21,1),none)]),(25,[0,16]),0)]
set_option maxRecDepth 100000 in
theorem q154_ok : rf_chkB q154_P q154_U wLay q154_M ddX3_add [] [.inl 2,.inl 3] [0,5,27,43,55,61] 600 q154_N = true := by decide +kernel
set_option maxHeartbeats 4000000 in
theorem q154_met {G : rfG} (h : okG G) (hh : wHandOK G) : rf_met G q154_M := rf_methodB h.1 (P := q154_P) (U := q154_U) (N := q154_N) ⟨wflT h flokX3, wcsT h csokX3, wlcT h lcokX3, spokX3 h, fun _ h => absurd h List.not_mem_nil, fun _ h => absurd h List.not_mem_nil, fun _ h => absurd h List.not_mem_nil, fun _ h => absurd h List.not_mem_nil, fun _ h => absurd h List.not_mem_nil⟩ dkX3_add (by decide +kernel) (by rw [h.2.2.1]; exact q154_ok)
/-- NearSpell.FormList.shorten -/
def q155_M : rfM := ((⟨"NearSpell$FormList", "shorten", "(I)V"⟩, prog_5_method_3_code, 6, none), (1,23), ([.inr (.inl [36]),.inl (((-2147483648),2147483647,1),none)],[]), [(35,0),(36,2)], [(none,[],[])])
def q155_P : rfP := (flX3,csX3,lcX3,spX3,[q100_M,q125_M,q116_M,q128_M],[(39,0),(43,1),(43,3)],[(32,2,3)],([],[]))
def q155_U : rfU := []
set_option maxHeartbeats 8000000 in
def q155_N : List rfB := [(0,([(0,.inr (.inl [36])),(1,.inl (((-2147483648),2147483647,1),none))],[],[]),(2852,[0,0]),0),
  (7,([(0,.inr (.inl [36])),(1,.inl (((-2147483648),2147483647,1),none)),(2,.inl ((0,6,1),none)),(3,.inl ((0,12,1),none))],[],[]),(2845,[(-219),0]),0),
  (28,([(0,.inr (.inl [36])),(1,.inl (((-2147483648),2147483647,1),none)),(2,.inl ((1,6,1),none)),(3,.inl ((0,11,1),none)),(4,.inl (((-2147483648),2147483647,1),none)),(5,.inl ((0,11,1),none))],[],[]),(2831,[(-219),(-17)]),0),
  (61,([(0,.inr (.inl [36])),(1,.inl (((-2147483648),2147483647,1),none)),(2,.inl ((1,6,1),none)),(3,.inl ((0,11,1),none)),(4,.inl (((-2147483648),2147483647,1),none)),(5,.inl ((0,11,1),none))],[],[]),(2629,[(-219),0]),0)]
set_option maxRecDepth 100000 in
theorem q155_ok : rf_chkB q155_P q155_U wLay q155_M ddX3_shorten [(1,[0]),(14,[3]),(22,[2]),(49,[1]),(52,[2])] [.inl 3,.inl 5] [0,7,28,61] 600 q155_N = true := by decide +kernel
set_option maxHeartbeats 4000000 in
theorem q155_met {G : rfG} (h : okG G) (hh : wHandOK G) : rf_met G q155_M := rf_methodB h.1 (P := q155_P) (U := q155_U) (N := q155_N) ⟨wflT h flokX3, wcsT h csokX3, wlcT h lcokX3, spokX3 h, List.forall_mem_cons.mpr ⟨q100_met h hh, List.forall_mem_cons.mpr ⟨q125_met h hh, List.forall_mem_cons.mpr ⟨q116_met h hh, List.forall_mem_cons.mpr ⟨q128_met h hh, fun _ h => absurd h List.not_mem_nil⟩⟩⟩⟩, List.forall_mem_cons.mpr ⟨fun M hM => Option.some.inj (show some q100_M = some M from hM) ▸ wlkS (lkX3_39 h) q100_M rfl rfl, List.forall_mem_cons.mpr ⟨fun M hM => Option.some.inj (show some q125_M = some M from hM) ▸ wlkS (lkX3_43 h) q125_M rfl rfl, List.forall_mem_cons.mpr ⟨fun M hM => Option.some.inj (show some q128_M = some M from hM) ▸ wlkS (lkX3_43 h) q128_M rfl rfl, fun _ h => absurd h List.not_mem_nil⟩⟩⟩, List.forall_mem_cons.mpr ⟨fun M hM => Option.some.inj (show some q116_M = some M from hM) ▸ wlkV (lkX3_32 h) q116_M rfl rfl, fun _ h => absurd h List.not_mem_nil⟩, fun _ h => absurd h List.not_mem_nil, fun _ h => absurd h List.not_mem_nil⟩ dkX3_shorten (by decide +kernel) (by rw [h.2.2.1]; exact q155_ok)
/-- NearSpell.FormList.fill -/
def q156_M : rfM := ((⟨"NearSpell$FormList", "fill", "(III)V"⟩, prog_5_method_2_code, 5, none), (2,48), ([.inr (.inl [22,24,26,28,30,32,34,36,38,40,42,44,46,48]),.inl (((-2147483648),2147483647,1),none),.inl ((1,6,1),none),.inl ((0,2,1),none)],[]), [(21,0),(22,2),(22,3),(22,4),(22,5),(23,0),(24,2),(24,3),(24,4),(24,5),(25,0),(26,2),(26,3),(26,4),(26,5),(27,0),(28,2),(28,3),(28,4),(28,5),(29,0),(30,2),(30,3),(30,4),(30,5),(31,0),(32,2),(32,3),(32,4),(32,5),(33,0),(34,2),(34,3),(34,4),(34,5),(35,0),(36,2),(36,3),(36,4),(36,5),(37,0),(38,2),(38,3),(38,4),(38,5),(39,0),(40,2),(40,3),(40,4),(40,5),(41,0),(42,2),(42,3),(42,4),(42,5),(43,0),(44,2),(44,3),(44,4),(44,5),(45,0),(46,2),(46,3),(46,4),(46,5),(47,0),(48,2),(48,3),(48,4),(48,5)], [(none,[],[])])
def ddX3_fill : List (Nat × Instr × Nat) := [(0,.aload_n 0,1),(1,.getfield 19,3),(4,.iload_n 1,1),(5,.if_icmp .ne 20,3),(8,.aload_n 0,1),(9,.getfield 22,3),(12,.iload_n 2,1),(13,.if_icmp .ne 12,3),(16,.aload_n 0,1),(17,.getfield 25,3),(20,.iload_n 3,1),(21,.if_icmp .ne 4,3),(24,.return_,1),(25,.aload_n 0,1),(26,.iload_n 1,1),(27,.putfield 19,3),(30,.aload_n 0,1),(31,.iload_n 2,1),(32,.putfield 22,3),(35,.aload_n 0,1),(36,.iload_n 3,1),(37,.putfield 25,3),(40,.aload_n 0,1),(41,.iconst 0,1),(42,.putfield 15,3),(45,.aload_n 0,1),(46,.getfield 19,3),(49,.aload_n 0,1),(50,.getfield 22,3),(53,.invokestatic 28,3),(56,.istore 4,2),(58,.aload_n 0,1),(59,.iload 4,2),(61,.invokevirtual 32,3),(64,.aload_n 0,1),(65,.getfield 25,3),(68,.ifCond .le 9,3),(71,.aload_n 0,1),(72,.iload 4,2),(74,.invokevirtual 36,3),(77,.return_,1)]
set_option maxRecDepth 100000 in
theorem dkX3_fill : rf_decs prog_5_method_2_code ddX3_fill := rf_decs_of (by decide +kernel)
def q156_P : rfP := (flX3,csX3,lcX3,spX3,[q102_M,q103_M,q104_M,q105_M,q106_M,q107_M,q108_M,q109_M,q110_M,q111_M,q112_M,q113_M,q114_M,q115_M,q116_M,q129_M,q131_M,q133_M,q135_M,q137_M,q139_M,q141_M,q143_M,q145_M,q147_M,q149_M,q151_M,q153_M,q155_M],[(28,0)],[(32,1,3),(32,2,3),(32,3,3),(32,4,3),(32,5,3),(32,6,3),(32,7,3),(32,8,3),(32,9,3),(32,10,3),(32,11,3),(32,12,3),(32,13,3),(32,14,3),(36,15,3),(36,16,3),(36,17,3),(36,18,3),(36,19,3),(36,20,3),(36,21,3),(36,22,3),(36,23,3),(36,24,3),(36,25,3),(36,26,3),(36,27,3),(36,28,3)],([],[]))
def q156_U : rfU := []
set_option maxHeartbeats 8000000 in
def q156_N : List rfB := [(0,([(0,.inr (.inl [22,24,26,28,30,32,34,36,38,40,42,44,46,48])),(1,.inl (((-2147483648),2147483647,1),none)),(2,.inl ((1,6,1),none)),(3,.inl ((0,2,1),none))],[],[]),(574,[]),2000000),
  (25,([(0,.inr (.inl [40])),(1,.inl (((-2147483648),2147483647,1),none)),(2,.inl ((1,6,1),none)),(3,.inl ((0,2,1),none))],[],[]),(396,[]),0),
  (25,([(0,.inr (.inl [24])),(1,.inl (((-2147483648),2147483647,1),none)),(2,.inl ((1,6,1),none)),(3,.inl ((0,2,1),none))],[],[]),(68,[]),0),
  (25,([(0,.inr (.inl [34])),(1,.inl (((-2147483648),2147483647,1),none)),(2,.inl ((1,6,1),none)),(3,.inl ((0,2,1),none))],[],[]),(273,[]),0),
  (25,([(0,.inr (.inl [42])),(1,.inl (((-2147483648),2147483647,1),none)),(2,.inl ((1,6,1),none)),(3,.inl ((0,2,1),none))],[],[]),(437,[]),0),
  (25,([(0,.inr (.inl [32])),(1,.inl (((-2147483648),2147483647,1),none)),(2,.inl ((1,6,1),none)),(3,.inl ((0,2,1),none))],[],[]),(232,[]),0),
  (25,([(0,.inr (.inl [26])),(1,.inl (((-2147483648),2147483647,1),none)),(2,.inl ((1,6,1),none)),(3,.inl ((0,2,1),none))],[],[]),(109,[]),0),
  (25,([(0,.inr (.inl [44])),(1,.inl (((-2147483648),2147483647,1),none)),(2,.inl ((1,6,1),none)),(3,.inl ((0,2,1),none))],[],[]),(478,[]),0),
  (25,([(0,.inr (.inl [22])),(1,.inl (((-2147483648),2147483647,1),none)),(2,.inl ((1,6,1),none)),(3,.inl ((0,2,1),none))],[],[]),(27,[]),0),
  (25,([(0,.inr (.inl [46])),(1,.inl (((-2147483648),2147483647,1),none)),(2,.inl ((1,6,1),none)),(3,.inl ((0,2,1),none))],[],[]),(519,[]),0),
  (25,([(0,.inr (.inl [48])),(1,.inl (((-2147483648),2147483647,1),none)),(2,.inl ((1,6,1),none)),(3,.inl ((0,2,1),none))],[],[]),(560,[]),0),
  (25,([(0,.inr (.inl [38])),(1,.inl (((-2147483648),2147483647,1),none)),(2,.inl ((1,6,1),none)),(3,.inl ((0,2,1),none))],[],[]),(355,[]),0),
  (25,([(0,.inr (.inl [30])),(1,.inl (((-2147483648),2147483647,1),none)),(2,.inl ((1,6,1),none)),(3,.inl ((0,2,1),none))],[],[]),(191,[]),0),
  (25,([(0,.inr (.inl [28])),(1,.inl (((-2147483648),2147483647,1),none)),(2,.inl ((1,6,1),none)),(3,.inl ((0,2,1),none))],[],[]),(150,[]),0),
  (25,([(0,.inr (.inl [36])),(1,.inl (((-2147483648),2147483647,1),none)),(2,.inl ((1,6,1),none)),(3,.inl ((0,2,1),none))],[],[]),(314,[]),0),
  (77,([(0,.inr (.inl [40])),(1,.inl (((-2147483648),2147483647,1),none)),(2,.inl ((1,6,1),none)),(3,.inl ((0,2,1),none)),(4,.inl (((-2147483648),2147483647,1),none))],[],[((40,3),(1,6,1),none),((40,4),(0,2,1),none)]),(369,[]),0),
  (77,([(0,.inr (.inl [24])),(1,.inl (((-2147483648),2147483647,1),none)),(2,.inl ((1,6,1),none)),(3,.inl ((0,2,1),none)),(4,.inl (((-2147483648),2147483647,1),none))],[],[((24,3),(1,6,1),none),((24,4),(0,2,1),none)]),(41,[]),0),
  (77,([(0,.inr (.inl [34])),(1,.inl (((-2147483648),2147483647,1),none)),(2,.inl ((1,6,1),none)),(3,.inl ((0,2,1),none)),(4,.inl (((-2147483648),2147483647,1),none))],[],[((34,3),(1,6,1),none),((34,4),(0,2,1),none)]),(246,[]),0),
  (77,([(0,.inr (.inl [42])),(1,.inl (((-2147483648),2147483647,1),none)),(2,.inl ((1,6,1),none)),(3,.inl ((0,2,1),none)),(4,.inl (((-2147483648),2147483647,1),none))],[],[((42,3),(1,6,1),none),((42,4),(0,2,1),none)]),(410,[]),0),
  (77,([(0,.inr (.inl [32])),(1,.inl (((-2147483648),2147483647,1),none)),(2,.inl ((1,6,1),none)),(3,.inl ((0,2,1),none)),(4,.inl (((-2147483648),2147483647,1),none))],[],[((32,3),(1,6,1),none),((32,4),(0,2,1),none)]),(205,[]),0),
  (77,([(0,.inr (.inl [26])),(1,.inl (((-2147483648),2147483647,1),none)),(2,.inl ((1,6,1),none)),(3,.inl ((0,2,1),none)),(4,.inl (((-2147483648),2147483647,1),none))],[],[((26,3),(1,6,1),none),((26,4),(0,2,1),none)]),(82,[]),0),
  (77,([(0,.inr (.inl [44])),(1,.inl (((-2147483648),2147483647,1),none)),(2,.inl ((1,6,1),none)),(3,.inl ((0,2,1),none)),(4,.inl (((-2147483648),2147483647,1),none))],[],[((44,3),(1,6,1),none),((44,4),(0,2,1),none)]),(451,[]),0),
  (77,([(0,.inr (.inl [22])),(1,.inl (((-2147483648),2147483647,1),none)),(2,.inl ((1,6,1),none)),(3,.inl ((0,2,1),none)),(4,.inl (((-2147483648),2147483647,1),none))],[],[((22,3),(1,6,1),none),((22,4),(0,2,1),none)]),(0,[]),0),
  (77,([(0,.inr (.inl [46])),(1,.inl (((-2147483648),2147483647,1),none)),(2,.inl ((1,6,1),none)),(3,.inl ((0,2,1),none)),(4,.inl (((-2147483648),2147483647,1),none))],[],[((46,3),(1,6,1),none),((46,4),(0,2,1),none)]),(492,[]),0),
  (77,([(0,.inr (.inl [48])),(1,.inl (((-2147483648),2147483647,1),none)),(2,.inl ((1,6,1),none)),(3,.inl ((0,2,1),none)),(4,.inl (((-2147483648),2147483647,1),none))],[],[((48,3),(1,6,1),none),((48,4),(0,2,1),none)]),(533,[]),0),
  (77,([(0,.inr (.inl [38])),(1,.inl (((-2147483648),2147483647,1),none)),(2,.inl ((1,6,1),none)),(3,.inl ((0,2,1),none)),(4,.inl (((-2147483648),2147483647,1),none))],[],[((38,3),(1,6,1),none),((38,4),(0,2,1),none)]),(328,[]),0),
  (77,([(0,.inr (.inl [30])),(1,.inl (((-2147483648),2147483647,1),none)),(2,.inl ((1,6,1),none)),(3,.inl ((0,2,1),none)),(4,.inl (((-2147483648),2147483647,1),none))],[],[((30,3),(1,6,1),none),((30,4),(0,2,1),none)]),(164,[]),0),
  (77,([(0,.inr (.inl [28])),(1,.inl (((-2147483648),2147483647,1),none)),(2,.inl ((1,6,1),none)),(3,.inl ((0,2,1),none)),(4,.inl (((-2147483648),2147483647,1),none))],[],[((28,3),(1,6,1),none),((28,4),(0,2,1),none)]),(123,[]),0),
  (77,([(0,.inr (.inl [36])),(1,.inl (((-2147483648),2147483647,1),none)),(2,.inl ((1,6,1),none)),(3,.inl ((0,2,1),none)),(4,.inl (((-2147483648),2147483647,1),none))],[],[((36,3),(1,6,1),none),((36,4),(0,2,1),none)]),(287,[]),0)]
set_option maxRecDepth 100000 in
theorem q156_ok : rf_chkB q156_P q156_U wLay q156_M ddX3_fill [(53,[0]),(61,[1,2,3,4,5,6,7,8,9,10,11,12,13,14]),(74,[15,16,17,18,19,20,21,22,23,24,25,26,27,28])] [] [0,25,77] 600 q156_N = true := by decide +kernel
set_option maxHeartbeats 4000000 in
theorem q156_met {G : rfG} (h : okG G) (hh : wHandOK G) : rf_met G q156_M := rf_methodB h.1 (P := q156_P) (U := q156_U) (N := q156_N) ⟨wflT h flokX3, wcsT h csokX3, wlcT h lcokX3, spokX3 h, List.forall_mem_cons.mpr ⟨q102_met h hh, List.forall_mem_cons.mpr ⟨q103_met h hh, List.forall_mem_cons.mpr ⟨q104_met h hh, List.forall_mem_cons.mpr ⟨q105_met h hh, List.forall_mem_cons.mpr ⟨q106_met h hh, List.forall_mem_cons.mpr ⟨q107_met h hh, List.forall_mem_cons.mpr ⟨q108_met h hh, List.forall_mem_cons.mpr ⟨q109_met h hh, List.forall_mem_cons.mpr ⟨q110_met h hh, List.forall_mem_cons.mpr ⟨q111_met h hh, List.forall_mem_cons.mpr ⟨q112_met h hh, List.forall_mem_cons.mpr ⟨q113_met h hh, List.forall_mem_cons.mpr ⟨q114_met h hh, List.forall_mem_cons.mpr ⟨q115_met h hh, List.forall_mem_cons.mpr ⟨q116_met h hh, List.forall_mem_cons.mpr ⟨q129_met h hh, List.forall_mem_cons.mpr ⟨q131_met h hh, List.forall_mem_cons.mpr ⟨q133_met h hh, List.forall_mem_cons.mpr ⟨q135_met h hh, List.forall_mem_cons.mpr ⟨q137_met h hh, List.forall_mem_cons.mpr ⟨q139_met h hh, List.forall_mem_cons.mpr ⟨q141_met h hh, List.forall_mem_cons.mpr ⟨q143_met h hh, List.forall_mem_cons.mpr ⟨q145_met h hh, List.forall_mem_cons.mpr ⟨q147_met h hh, List.forall_mem_cons.mpr ⟨q149_met h hh, List.forall_mem_cons.mpr ⟨q151_met h hh, List.forall_mem_cons.mpr ⟨q153_met h hh, List.forall_mem_cons.mpr ⟨q155_met h hh, fun _ h => absurd h List.not_mem_nil⟩⟩⟩⟩⟩⟩⟩⟩⟩⟩⟩⟩⟩⟩⟩⟩⟩⟩⟩⟩⟩⟩⟩⟩⟩⟩⟩⟩⟩, List.forall_mem_cons.mpr ⟨fun M hM => Option.some.inj (show some q102_M = some M from hM) ▸ wlkS (lkX3_28 h) q102_M rfl rfl, fun _ h => absurd h List.not_mem_nil⟩, List.forall_mem_cons.mpr ⟨fun M hM => Option.some.inj (show some q103_M = some M from hM) ▸ wlkV (lkX3_32 h) q103_M rfl rfl, List.forall_mem_cons.mpr ⟨fun M hM => Option.some.inj (show some q104_M = some M from hM) ▸ wlkV (lkX3_32 h) q104_M rfl rfl, List.forall_mem_cons.mpr ⟨fun M hM => Option.some.inj (show some q105_M = some M from hM) ▸ wlkV (lkX3_32 h) q105_M rfl rfl, List.forall_mem_cons.mpr ⟨fun M hM => Option.some.inj (show some q106_M = some M from hM) ▸ wlkV (lkX3_32 h) q106_M rfl rfl, List.forall_mem_cons.mpr ⟨fun M hM => Option.some.inj (show some q107_M = some M from hM) ▸ wlkV (lkX3_32 h) q107_M rfl rfl, List.forall_mem_cons.mpr ⟨fun M hM => Option.some.inj (show some q108_M = some M from hM) ▸ wlkV (lkX3_32 h) q108_M rfl rfl, List.forall_mem_cons.mpr ⟨fun M hM => Option.some.inj (show some q109_M = some M from hM) ▸ wlkV (lkX3_32 h) q109_M rfl rfl, List.forall_mem_cons.mpr ⟨fun M hM => Option.some.inj (show some q110_M = some M from hM) ▸ wlkV (lkX3_32 h) q110_M rfl rfl, List.forall_mem_cons.mpr ⟨fun M hM => Option.some.inj (show some q111_M = some M from hM) ▸ wlkV (lkX3_32 h) q111_M rfl rfl, List.forall_mem_cons.mpr ⟨fun M hM => Option.some.inj (show some q112_M = some M from hM) ▸ wlkV (lkX3_32 h) q112_M rfl rfl, List.forall_mem_cons.mpr ⟨fun M hM => Option.some.inj (show some q113_M = some M from hM) ▸ wlkV (lkX3_32 h) q113_M rfl rfl, List.forall_mem_cons.mpr ⟨fun M hM => Option.some.inj (show some q114_M = some M from hM) ▸ wlkV (lkX3_32 h) q114_M rfl rfl, List.forall_mem_cons.mpr ⟨fun M hM => Option.some.inj (show some q115_M = some M from hM) ▸ wlkV (lkX3_32 h) q115_M rfl rfl, List.forall_mem_cons.mpr ⟨fun M hM => Option.some.inj (show some q116_M = some M from hM) ▸ wlkV (lkX3_32 h) q116_M rfl rfl, List.forall_mem_cons.mpr ⟨fun M hM => Option.some.inj (show some q129_M = some M from hM) ▸ wlkV (lkX3_36 h) q129_M rfl rfl, List.forall_mem_cons.mpr ⟨fun M hM => Option.some.inj (show some q131_M = some M from hM) ▸ wlkV (lkX3_36 h) q131_M rfl rfl, List.forall_mem_cons.mpr ⟨fun M hM => Option.some.inj (show some q133_M = some M from hM) ▸ wlkV (lkX3_36 h) q133_M rfl rfl, List.forall_mem_cons.mpr ⟨fun M hM => Option.some.inj (show some q135_M = some M from hM) ▸ wlkV (lkX3_36 h) q135_M rfl rfl, List.forall_mem_cons.mpr ⟨fun M hM => Option.some.inj (show some q137_M = some M from hM) ▸ wlkV (lkX3_36 h) q137_M rfl rfl, List.forall_mem_cons.mpr ⟨fun M hM => Option.some.inj (show some q139_M = some M from hM) ▸ wlkV (lkX3_36 h) q139_M rfl rfl, List.forall_mem_cons.mpr ⟨fun M hM => Option.some.inj (show some q141_M = some M from hM) ▸ wlkV (lkX3_36 h) q141_M rfl rfl, List.forall_mem_cons.mpr ⟨fun M hM => Option.some.inj (show some q143_M = some M from hM) ▸ wlkV (lkX3_36 h) q143_M rfl rfl, List.forall_mem_cons.mpr ⟨fun M hM => Option.some.inj (show some q145_M = some M from hM) ▸ wlkV (lkX3_36 h) q145_M rfl rfl, List.forall_mem_cons.mpr ⟨fun M hM => Option.some.inj (show some q147_M = some M from hM) ▸ wlkV (lkX3_36 h) q147_M rfl rfl, List.forall_mem_cons.mpr ⟨fun M hM => Option.some.inj (show some q149_M = some M from hM) ▸ wlkV (lkX3_36 h) q149_M rfl rfl, List.forall_mem_cons.mpr ⟨fun M hM => Option.some.inj (show some q151_M = some M from hM) ▸ wlkV (lkX3_36 h) q151_M rfl rfl, List.forall_mem_cons.mpr ⟨fun M hM => Option.some.inj (show some q153_M = some M from hM) ▸ wlkV (lkX3_36 h) q153_M rfl rfl, List.forall_mem_cons.mpr ⟨fun M hM => Option.some.inj (show some q155_M = some M from hM) ▸ wlkV (lkX3_36 h) q155_M rfl rfl, fun _ h => absurd h List.not_mem_nil⟩⟩⟩⟩⟩⟩⟩⟩⟩⟩⟩⟩⟩⟩⟩⟩⟩⟩⟩⟩⟩⟩⟩⟩⟩⟩⟩⟩, fun _ h => absurd h List.not_mem_nil, fun _ h => absurd h List.not_mem_nil⟩ dkX3_fill (by decide +kernel) (by rw [h.2.2.1]; exact q156_ok)
/-- NearSpell.Laid.formsOf -/
def q157_M : rfM := ((⟨"NearSpell$Laid", "formsOf", "(I)LNearSpell$FormList;"⟩, prog_6_method_3_code, 2, (some (.object "NearSpell$FormList"))), (3,72), ([.inr (.inl [53]),.inl ((0,13,1),none)],[]), [(21,0),(22,2),(22,3),(22,4),(22,5),(23,0),(24,2),(24,3),(24,4),(24,5),(25,0),(26,2),(26,3),(26,4),(26,5),(27,0),(28,2),(28,3),(28,4),(28,5),(29,0),(30,2),(30,3),(30,4),(30,5),(31,0),(32,2),(32,3),(32,4),(32,5),(33,0),(34,2),(34,3),(34,4),(34,5),(35,0),(36,2),(36,3),(36,4),(36,5),(37,0),(38,2),(38,3),(38,4),(38,5),(39,0),(40,2),(40,3),(40,4),(40,5),(41,0),(42,2),(42,3),(42,4),(42,5),(43,0),(44,2),(44,3),(44,4),(44,5),(45,0),(46,2),(46,3),(46,4),(46,5),(47,0),(48,2),(48,3),(48,4),(48,5)], [(some (.inr (.inl [22,24,26,28,30,32,34,36,38,40,42,44,46,48])),[],[])])
def ddX4_formsOf : List (Nat × Instr × Nat) := [(0,.iload_n 1,1),(1,.ifCond .lt 9,3),(4,.iload_n 1,1),(5,.bipush 14,2),(7,.if_icmp .lt 9,3),(10,.aload_n 0,1),(11,.iconst 0,1),(12,.invokevirtual 47,3),(15,.areturn,1),(16,.aload_n 0,1),(17,.getfield 21,3),(20,.iload_n 1,1),(21,.aaload,1),(22,.aload_n 0,1),(23,.getfield 15,3),(26,.iload_n 1,1),(27,.invokevirtual 51,3),(30,.aload_n 0,1),(31,.getfield 9,3),(34,.getfield 34,3),(37,.aload_n 0,1),(38,.getfield 9,3),(41,.getfield 40,3),(44,.invokevirtual 43,3),(47,.aload_n 0,1),(48,.getfield 21,3),(51,.iload_n 1,1),(52,.aaload,1),(53,.areturn,1)]
set_option maxRecDepth 100000 in
theorem dkX4_formsOf : rf_decs prog_6_method_3_code ddX4_formsOf := rf_decs_of (by decide +kernel)
def q157_P : rfP := (flX4,csX4,lcX4,spX4,[q99_M,q156_M],[],[(43,1,3),(51,0,8)],([],[]))
def q157_U : rfU := []
set_option maxHeartbeats 8000000 in
def q157_N : List rfB := [(0,([(0,.inr (.inl [53])),(1,.inl ((0,13,1),none))],[],[]),(24,[]),0)]
set_option maxRecDepth 100000 in
theorem q157_ok : rf_chkB q157_P q157_U wLay q157_M ddX4_formsOf [(27,[0]),(44,[1])] [] [0] 600 q157_N = true := by decide +kernel
set_option maxHeartbeats 4000000 in
theorem q157_met {G : rfG} (h : okG G) (hh : wHandOK G) : rf_met G q157_M := rf_methodB h.1 (P := q157_P) (U := q157_U) (N := q157_N) ⟨wflT h flokX4, wcsT h csokX4, wlcT h lcokX4, spokX4 h, List.forall_mem_cons.mpr ⟨q99_met h hh, List.forall_mem_cons.mpr ⟨q156_met h hh, fun _ h => absurd h List.not_mem_nil⟩⟩, fun _ h => absurd h List.not_mem_nil, List.forall_mem_cons.mpr ⟨fun M hM => Option.some.inj (show some q156_M = some M from hM) ▸ wlkV (lkX4_43 h) q156_M rfl rfl, List.forall_mem_cons.mpr ⟨fun M hM => Option.some.inj (show some q99_M = some M from hM) ▸ wlkV (lkX4_51 h) q99_M rfl rfl, fun _ h => absurd h List.not_mem_nil⟩⟩, fun _ h => absurd h List.not_mem_nil, fun _ h => absurd h List.not_mem_nil⟩ dkX4_formsOf (by decide +kernel) (by rw [h.2.2.1]; exact q157_ok)
/-- NearSpell.entry -/
def q158_M : rfM := ((⟨"NearSpell", "entry", "(II)I"⟩, prog_1_method_6_code, 3, (some .int)), (4,93), ([.inr (.inl [70]),.inl (((-2147483648),2147483647,1),none),.inl (((-2147483648),2147483647,1),none)],[]), [(21,0),(22,2),(22,3),(22,4),(22,5),(23,0),(24,2),(24,3),(24,4),(24,5),(25,0),(26,2),(26,3),(26,4),(26,5),(27,0),(28,2),(28,3),(28,4),(28,5),(29,0),(30,2),(30,3),(30,4),(30,5),(31,0),(32,2),(32,3),(32,4),(32,5),(33,0),(34,2),(34,3),(34,4),(34,5),(35,0),(36,2),(36,3),(36,4),(36,5),(37,0),(38,2),(38,3),(38,4),(38,5),(39,0),(40,2),(40,3),(40,4),(40,5),(41,0),(42,2),(42,3),(42,4),(42,5),(43,0),(44,2),(44,3),(44,4),(44,5),(45,0),(46,2),(46,3),(46,4),(46,5),(47,0),(48,2),(48,3),(48,4),(48,5)], [(some (.inl (((-2147483648),2147483647,1),none)),[],[])])
def ddX11_entry : List (Nat × Instr × Nat) := [(0,.aload_n 0,1),(1,.getfield 35,3),(4,.iload_n 1,1),(5,.invokevirtual 141,3),(8,.ifCond .ne 5,3),(11,.iconst (-1),1),(12,.ireturn,1),(13,.iload_n 2,1),(14,.tableswitch 72 0 3 #[30, 39, 51, 60],30),(44,.aload_n 0,1),(45,.getfield 35,3),(48,.iload_n 1,1),(49,.invokevirtual 144,3),(52,.ireturn,1),(53,.aload_n 0,1),(54,.getfield 35,3),(57,.iload_n 1,1),(58,.invokevirtual 144,3),(61,.invokestatic 148,3),(64,.ireturn,1),(65,.aload_n 0,1),(66,.getfield 35,3),(69,.iload_n 1,1),(70,.invokevirtual 151,3),(73,.ireturn,1),(74,.aload_n 0,1),(75,.getfield 58,3),(78,.iload_n 1,1),(79,.invokevirtual 154,3),(82,.getfield 158,3),(85,.ireturn,1),(86,.iconst (-1),1),(87,.ireturn,1)]
set_option maxRecDepth 100000 in
theorem dkX11_entry : rf_decs prog_1_method_6_code ddX11_entry := rf_decs_of (by decide +kernel)
def q158_P : rfP := (flX11,csX11,lcX11,spX11,[q98_M,q99_M,q100_M,q101_M,q157_M],[(148,2)],[(141,0,8),(144,1,8),(151,3,8),(154,4,4)],([],[]))
def q158_U : rfU := []
set_option maxHeartbeats 8000000 in
def q158_N : List rfB := [(0,([(0,.inr (.inl [70])),(1,.inl (((-2147483648),2147483647,1),none)),(2,.inl (((-2147483648),2147483647,1),none))],[],[]),(33,[]),0)]
set_option maxRecDepth 100000 in
theorem q158_ok : rf_chkB q158_P q158_U wLay q158_M ddX11_entry [(5,[0]),(49,[1]),(58,[1]),(61,[2]),(70,[3]),(79,[4])] [] [0] 600 q158_N = true := by decide +kernel
set_option maxHeartbeats 4000000 in
theorem q158_met {G : rfG} (h : okG G) (hh : wHandOK G) : rf_met G q158_M := rf_methodB h.1 (P := q158_P) (U := q158_U) (N := q158_N) ⟨wflT h flokX11, wcsT h csokX11, wlcT h lcokX11, spokX11 h, List.forall_mem_cons.mpr ⟨q98_met h hh, List.forall_mem_cons.mpr ⟨q99_met h hh, List.forall_mem_cons.mpr ⟨q100_met h hh, List.forall_mem_cons.mpr ⟨q101_met h hh, List.forall_mem_cons.mpr ⟨q157_met h hh, fun _ h => absurd h List.not_mem_nil⟩⟩⟩⟩⟩, List.forall_mem_cons.mpr ⟨fun M hM => Option.some.inj (show some q100_M = some M from hM) ▸ wlkS (lkX11_148 h) q100_M rfl rfl, fun _ h => absurd h List.not_mem_nil⟩, List.forall_mem_cons.mpr ⟨fun M hM => Option.some.inj (show some q98_M = some M from hM) ▸ wlkV (lkX11_141 h) q98_M rfl rfl, List.forall_mem_cons.mpr ⟨fun M hM => Option.some.inj (show some q99_M = some M from hM) ▸ wlkV (lkX11_144 h) q99_M rfl rfl, List.forall_mem_cons.mpr ⟨fun M hM => Option.some.inj (show some q101_M = some M from hM) ▸ wlkV (lkX11_151 h) q101_M rfl rfl, List.forall_mem_cons.mpr ⟨fun M hM => Option.some.inj (show some q157_M = some M from hM) ▸ wlkV (lkX11_154 h) q157_M rfl rfl, fun _ h => absurd h List.not_mem_nil⟩⟩⟩⟩, fun _ h => absurd h List.not_mem_nil, fun _ h => absurd h List.not_mem_nil⟩ dkX11_entry (by decide +kernel) (by rw [h.2.2.1]; exact q158_ok)
/-- NearSpell.canBe -/
def q159_M : rfM := ((⟨"NearSpell", "canBe", "(I)Z"⟩, prog_1_method_52_code, 3, (some .boolean)), (0,0), ([.inl (((-2147483648),2147483647,1),none)],[]), [], [(some (.inl ((0,0,0),none)),[],[]),(some (.inl ((1,1,0),none)),[(0,0,387420488)],[])])
def ddX11_canBe : List (Nat × Instr × Nat) := [(0,.iload_n 0,1),(1,.ifCond .lt 13,3),(4,.iload_n 0,1),(5,.getstatic 360,3),(8,.bipush 6,2),(10,.iaload,1),(11,.if_icmp .lt 5,3),(14,.iconst 0,1),(15,.ireturn,1),(16,.iload_n 0,1),(17,.istore_n 1,1),(18,.iconst 0,1),(19,.istore_n 2,1),(20,.iload_n 2,1),(21,.bipush 6,2),(23,.if_icmp .ge 27,3),(26,.iload_n 1,1),(27,.ifCond .eq 23,3),(30,.iload_n 1,1),(31,.bipush 27,2),(33,.irem,1),(34,.ifCond .ne 5,3),(37,.iconst 0,1),(38,.ireturn,1),(39,.iload_n 1,1),(40,.bipush 27,2),(42,.idiv,1),(43,.istore_n 1,1),(44,.iinc 2 1,3),(47,.goto (-27),3),(50,.iconst 1,1),(51,.ireturn,1)]
set_option maxRecDepth 100000 in
theorem dkX11_canBe : rf_decs prog_1_method_52_code ddX11_canBe := rf_decs_of (by decide +kernel)
def q159_P : rfP := (flX11,csX11,lcX11,spX11,[],[],[],([],[]))
def q159_U : rfU := []
set_option maxHeartbeats 8000000 in
def q159_N : List rfB := [(0,([(0,.inl (((-2147483648),2147483647,1),none))],[],[]),(6198727840,[0]),0),
  (14,([(0,.inl (((-2147483648),2147483647,1),none))],[],[]),(1,[0]),0),
  (20,([(0,.inl ((0,387420488,1),none)),(1,.inl ((0,387420488,1),none)),(2,.inl ((0,6,1),none))],[],[]),(18,[16]),0),
  (50,([(0,.inl ((0,387420488,1),none)),(1,.inl ((0,387420488,1),none)),(2,.inl ((0,6,1),none))],[],[]),(3,[0]),0)]
set_option maxRecDepth 100000 in
theorem q159_ok : rf_chkB q159_P q159_U wLay q159_M ddX11_canBe [] [.inl 1] [0,14,20,50] 600 q159_N = true := by decide +kernel
set_option maxHeartbeats 4000000 in
theorem q159_met {G : rfG} (h : okG G) (hh : wHandOK G) : rf_met G q159_M := rf_methodB h.1 (P := q159_P) (U := q159_U) (N := q159_N) ⟨wflT h flokX11, wcsT h csokX11, wlcT h lcokX11, spokX11 h, fun _ h => absurd h List.not_mem_nil, fun _ h => absurd h List.not_mem_nil, fun _ h => absurd h List.not_mem_nil, fun _ h => absurd h List.not_mem_nil, fun _ h => absurd h List.not_mem_nil⟩ dkX11_canBe (by decide +kernel) (by rw [h.2.2.1]; exact q159_ok)
