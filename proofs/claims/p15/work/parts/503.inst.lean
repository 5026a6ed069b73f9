/-- NearSpell.FormList.shorten -/
def q150_M : rfM := ((⟨"NearSpell$FormList", "shorten", "(I)V"⟩, prog_5_method_3_code, 6, none), (1,23), ([.inr (.inl [26]),.inl (((-2147483648),2147483647,1),none)],[]), [(25,0),(26,2)], [(none,[],[])])
def q150_P : rfP := (flX3,csX3,lcX3,spX3,[q111_M,q136_M,q119_M,q139_M],[(39,0),(43,1),(43,3)],[(32,2,3)],([],[]))
def q150_U : rfU := []
set_option maxHeartbeats 8000000 in
def q150_N : List rfB := [(0,([(0,.inr (.inl [26])),(1,.inl (((-2147483648),2147483647,1),none))],[],[]),(2852,[0,0]),0),
  (7,([(0,.inr (.inl [26])),(1,.inl (((-2147483648),2147483647,1),none)),(2,.inl ((0,6,1),none)),(3,.inl ((0,12,1),none))],[],[]),(2845,[(-219),0]),0),
  (28,([(0,.inr (.inl [26])),(1,.inl (((-2147483648),2147483647,1),none)),(2,.inl ((1,6,1),none)),(3,.inl ((0,11,1),none)),(4,.inl (((-2147483648),2147483647,1),none)),(5,.inl ((0,11,1),none))],[],[]),(2831,[(-219),(-17)]),0),
  (61,([(0,.inr (.inl [26])),(1,.inl (((-2147483648),2147483647,1),none)),(2,.inl ((1,6,1),none)),(3,.inl ((0,11,1),none)),(4,.inl (((-2147483648),2147483647,1),none)),(5,.inl ((0,11,1),none))],[],[]),(2629,[(-219),0]),0)]
set_option maxRecDepth 100000 in
theorem q150_ok : rf_chkB q150_P q150_U wLay q150_M ddX3_shorten [(1,[0]),(14,[3]),(22,[2]),(49,[1]),(52,[2])] [.inl 3,.inl 5] [0,7,28,61] 600 q150_N = true := by decide +kernel
set_option maxHeartbeats 4000000 in
theorem q150_met {G : rfG} (h : okG G) : rf_met G q150_M := rf_methodB h.1 (P := q150_P) (U := q150_U) (N := q150_N) ⟨wflT h flokX3, wcsT h csokX3, wlcT h lcokX3, spokX3 h, List.forall_mem_cons.mpr ⟨q111_met h, List.forall_mem_cons.mpr ⟨q136_met h, List.forall_mem_cons.mpr ⟨q119_met h, List.forall_mem_cons.mpr ⟨q139_met h, fun _ h => absurd h List.not_mem_nil⟩⟩⟩⟩, List.forall_mem_cons.mpr ⟨fun M hM => Option.some.inj (show some q111_M = some M from hM) ▸ wlkS (lkX3_39 h) q111_M rfl rfl, List.forall_mem_cons.mpr ⟨fun M hM => Option.some.inj (show some q136_M = some M from hM) ▸ wlkS (lkX3_43 h) q136_M rfl rfl, List.forall_mem_cons.mpr ⟨fun M hM => Option.some.inj (show some q139_M = some M from hM) ▸ wlkS (lkX3_43 h) q139_M rfl rfl, fun _ h => absurd h List.not_mem_nil⟩⟩⟩, List.forall_mem_cons.mpr ⟨fun M hM => Option.some.inj (show some q119_M = some M from hM) ▸ wlkV (lkX3_32 h) q119_M rfl rfl, fun _ h => absurd h List.not_mem_nil⟩, fun _ h => absurd h List.not_mem_nil, fun _ h => absurd h List.not_mem_nil⟩ dkX3_shorten (by decide +kernel) (by rw [h.2.2.1]; exact q150_ok)
/-- NearSpell.FormList.add -/
def q151_M : rfM := ((⟨"NearSpell$FormList", "add", "(I)V"⟩, prog_5_method_4_code, 4, none), (0,0), ([.inr (.inl [44]),.inl (((-2147483648),387420488,1),none)],[]), [(43,0),(44,2)], [(none,[],[])])
def q151_P : rfP := (flX3,csX3,lcX3,spX3,[],[],[],([],[]))
def q151_U : rfU := [(.inr (44,1),[(0,21),(22,22)])]
set_option maxHeartbeats 8000000 in
def q151_N : List rfB := [(0,([(0,.inr (.inl [44])),(1,.inl (((-2147483648),387420488,1),none))],[],[]),(992,[0,0]),1000000),
  (5,([(0,.inr (.inl [44])),(1,.inl (((-2147483648),387420488,1),none)),(2,.inl ((0,21,1),none))],[],[((44,1),(0,21,1),none)]),(394,[13,0]),0),
  (5,([(0,.inr (.inl [44])),(1,.inl (((-2147483648),387420488,1),none)),(2,.inl ((0,22,1),none))],[],[((44,1),(22,22,1),none)]),(700,[13,0]),0),
  (27,([(0,.inr (.inl [44])),(1,.inl (((-2147483648),387420488,1),none)),(2,.inl ((0,21,1),none))],[],[((44,1),(0,21,1),none)]),(383,[0,0]),0),
  (27,([(0,.inr (.inl [44])),(1,.inl (((-2147483648),387420488,1),none)),(2,.inl ((0,22,1),none))],[],[((44,1),(22,22,1),none)]),(689,[0,0]),0),
  (43,([(0,.inr (.inl [44])),(1,.inl (((-2147483648),387420488,1),none)),(2,.inl ((0,21,1),none))],[],[((44,1),(0,21,1),none)]),(372,[0,0]),0),
  (43,([(0,.inr (.inl [44])),(1,.inl (((-2147483648),387420488,1),none)),(2,.inl ((0,22,1),none))],[],[((44,1),(22,22,1),none)]),(679,[0,0]),0),
  (55,([(0,.inr (.inl [44])),(1,.inl (((-2147483648),387420488,1),none)),(2,.inl ((1,21,1),none))],[],[((44,1),(0,21,1),none)]),(373,[0,0]),0),
  (55,([(0,.inr (.inl [44])),(1,.inl (((-2147483648),387420488,1),none)),(2,.inl ((0,22,1),none))],[],[((44,1),(22,22,1),none)]),(673,[0,0]),0),
  (61,([(0,.inr (.inl [44])),(1,.inl (((-2147483648),387420488,1),none)),(2,.inl ((0,21,1),none)),(3,.inl ((0,21,1),none))],[],[((44,1),(0,21,1),none)]),(25,[0,16]),0)]
set_option maxRecDepth 100000 in
theorem q151_ok : rf_chkB q151_P q151_U wLay q151_M ddX3_add [] [.inl 2,.inl 3] [0,5,27,43,55,61] 600 q151_N = true := by decide +kernel
set_option maxHeartbeats 4000000 in
theorem q151_met {G : rfG} (h : okG G) : rf_met G q151_M := rf_methodB h.1 (P := q151_P) (U := q151_U) (N := q151_N) ⟨wflT h flokX3, wcsT h csokX3, wlcT h lcokX3, spokX3 h, fun _ h => absurd h List.not_mem_nil, fun _ h => absurd h List.not_mem_nil, fun _ h => absurd h List.not_mem_nil, fun _ h => absurd h List.not_mem_nil, fun _ h => absurd h List.not_mem_nil⟩ dkX3_add (by decide +kernel) (by rw [h.2.2.1]; exact q151_ok)
/-- NearSpell.FormList.shorten -/
def q152_M : rfM := ((⟨"NearSpell$FormList", "shorten", "(I)V"⟩, prog_5_method_3_code, 6, none), (1,23), ([.inr (.inl [44]),.inl (((-2147483648),2147483647,1),none)],[]), [(43,0),(44,2)], [(none,[],[])])
def q152_P : rfP := (flX3,csX3,lcX3,spX3,[q111_M,q136_M,q120_M,q139_M],[(39,0),(43,1),(43,3)],[(32,2,3)],([],[]))
def q152_U : rfU := []
set_option maxHeartbeats 8000000 in
def q152_N : List rfB := [(0,([(0,.inr (.inl [44])),(1,.inl (((-2147483648),2147483647,1),none))],[],[]),(2852,[0,0]),0),
  (7,([(0,.inr (.inl [44])),(1,.inl (((-2147483648),2147483647,1),none)),(2,.inl ((0,6,1),none)),(3,.inl ((0,12,1),none))],[],[]),(2845,[(-219),0]),0),
  (28,([(0,.inr (.inl [44])),(1,.inl (((-2147483648),2147483647,1),none)),(2,.inl ((1,6,1),none)),(3,.inl ((0,11,1),none)),(4,.inl (((-2147483648),2147483647,1),none)),(5,.inl ((0,11,1),none))],[],[]),(2831,[(-219),(-17)]),0),
  (61,([(0,.inr (.inl [44])),(1,.inl (((-2147483648),2147483647,1),none)),(2,.inl ((1,6,1),none)),(3,.inl ((0,11,1),none)),(4,.inl (((-2147483648),2147483647,1),none)),(5,.inl ((0,11,1),none))],[],[]),(2629,[(-219),0]),0)]
set_option maxRecDepth 100000 in
theorem q152_ok : rf_chkB q152_P q152_U wLay q152_M ddX3_shorten [(1,[0]),(14,[3]),(22,[2]),(49,[1]),(52,[2])] [.inl 3,.inl 5] [0,7,28,61] 600 q152_N = true := by decide +kernel
set_option maxHeartbeats 4000000 in
theorem q152_met {G : rfG} (h : okG G) : rf_met G q152_M := rf_methodB h.1 (P := q152_P) (U := q152_U) (N := q152_N) ⟨wflT h flokX3, wcsT h csokX3, wlcT h lcokX3, spokX3 h, List.forall_mem_cons.mpr ⟨q111_met h, List.forall_mem_cons.mpr ⟨q136_met h, List.forall_mem_cons.mpr ⟨q120_met h, List.forall_mem_cons.mpr ⟨q139_met h, fun _ h => absurd h List.not_mem_nil⟩⟩⟩⟩, List.forall_mem_cons.mpr ⟨fun M hM => Option.some.inj (show some q111_M = some M from hM) ▸ wlkS (lkX3_39 h) q111_M rfl rfl, List.forall_mem_cons.mpr ⟨fun M hM => Option.some.inj (show some q136_M = some M from hM) ▸ wlkS (lkX3_43 h) q136_M rfl rfl, List.forall_mem_cons.mpr ⟨fun M hM => Option.some.inj (show some q139_M = some M from hM) ▸ wlkS (lkX3_43 h) q139_M rfl rfl, fun _ h => absurd h List.not_mem_nil⟩⟩⟩, List.forall_mem_cons.mpr ⟨fun M hM => Option.some.inj (show some q120_M = some M from hM) ▸ wlkV (lkX3_32 h) q120_M rfl rfl, fun _ h => absurd h List.not_mem_nil⟩, fun _ h => absurd h List.not_mem_nil, fun _ h => absurd h List.not_mem_nil⟩ dkX3_shorten (by decide +kernel) (by rw [h.2.2.1]; exact q152_ok)
/-- NearSpell.FormList.add -/
def q153_M : rfM := ((⟨"NearSpell$FormList", "add", "(I)V"⟩, prog_5_method_4_code, 4, none), (0,0), ([.inr (.inl [22]),.inl (((-2147483648),387420488,1),none)],[]), [(21,0),(22,2)], [(none,[],[])])
def q153_P : rfP := (flX3,csX3,lcX3,spX3,[],[],[],([],[]))
def q153_U : rfU := [(.inr (22,1),[(0,21),(22,22)])]
set_option maxHeartbeats 8000000 in
def q153_N : List rfB := [(0,([(0,.inr (.inl [22])),(1,.inl (((-2147483648),387420488,1),none))],[],[]),(992,[0,0]),1000000),
  (5,([(0,.inr (.inl [22])),(1,.inl (((-2147483648),387420488,1),none)),(2,.inl ((0,21,1),none))],[],[((22,1),(0,21,1),none)]),(394,[13,0]),0),
  (5,([(0,.inr (.inl [22])),(1,.inl (((-2147483648),387420488,1),none)),(2,.inl ((0,22,1),none))],[],[((22,1),(22,22,1),none)]),(700,[13,0]),0),
  (27,([(0,.inr (.inl [22])),(1,.inl (((-2147483648),387420488,1),none)),(2,.inl ((0,21,1),none))],[],[((22,1),(0,21,1),none)]),(383,[0,0]),0),
  (27,([(0,.inr (.inl [22])),(1,.inl (((-2147483648),387420488,1),none)),(2,.inl ((0,22,1),none))],[],[((22,1),(22,22,1),none)]),(689,[0,0]),0),
  (43,([(0,.inr (.inl [22])),(1,.inl (((-2147483648),387420488,1),none)),(2,.inl ((0,21,1),none))],[],[((22,1),(0,21,1),none)]),(372,[0,0]),0),
  (43,([(0,.inr (.inl [22])),(1,.inl (((-2147483648),387420488,1),none)),(2,.inl ((0,22,1),none))],[],[((22,1),(22,22,1),none)]),(679,[0,0]),0),
  (55,([(0,.inr (.inl [22])),(1,.inl (((-2147483648),387420488,1),none)),(2,.inl ((1,21,1),none))],[],[((22,1),(0,21,1),none)]),(373,[0,0]),0),
  (55,([(0,.inr (.inl [22])),(1,.inl (((-2147483648),387420488,1),none)),(2,.inl ((0,22,1),none))],[],[((22,1),(22,22,1),none)]),(673,[0,0]),0),
  (61,([(0,.inr (.inl [22])),(1,.inl (((-2147483648),387420488,1),none)),(2,.inl ((0,21,1),none)),(3,.inl ((0,21,1),none))],[],[((22,1),(0,21,1),none)]),(25,[0,16]),0)]
set_option maxRecDepth 100000 in
theorem q153_ok : rf_chkB q153_P q153_U wLay q153_M ddX3_add [] [.inl 2,.inl 3] [0,5,27,43,55,61] 600 q153_N = true := by decide +kernel
set_option maxHeartbeats 4000000 in
theorem q153_met {G : rfG} (h : okG G) : rf_met G q153_M := rf_methodB h.1 (P := q153_P) (U := q153_U) (N := q153_N) ⟨wflT h flokX3, wcsT h csokX3, wlcT h lcokX3, spokX3 h, fun _ h => absurd h List.not_mem_nil, fun _ h => absurd h List.not_mem_nil, fun _ h => absurd h List.not_mem_nil, fun _ h => absurd h List.not_mem_nil, fun _ h => absurd h List.not_mem_nil⟩ dkX3_add (by decide +kernel) (by rw [h.2.2.1]; exact q153_ok)
/-- NearSpell.FormList.shorten -/
def q154_M : rfM := ((⟨"NearSpell$FormList", "shorten", "(I)V"⟩, prog_5_method_3_code, 6, none), (1,23), ([.inr (.inl [22]),.inl (((-2147483648),2147483647,1),none)],[]), [(21,0),(22,2)], [(none,[],[])])
def q154_P : rfP := (flX3,csX3,lcX3,spX3,[q111_M,q136_M,q121_M,q139_M],[(39,0),(43,1),(43,3)],[(32,2,3)],([],[]))
def q154_U : rfU := []
set_option maxHeartbeats 8000000 in
def q154_N : List rfB := [(0,([(0,.inr (.inl [22])),(1,.inl (((-2147483648),2147483647,1),none))],[],[]),(2852,[0,0]),0),
  (7,([(0,.inr (.inl [22])),(1,.inl (((-2147483648),2147483647,1),none)),(2,.inl ((0,6,1),none)),(3,.inl ((0,12,1),none))],[],[]),(2845,[(-219),0]),0),
  (28,([(0,.inr (.inl [22])),(1,.inl (((-2147483648),2147483647,1),none)),(2,.inl ((1,6,1),none)),(3,.inl ((0,11,1),none)),(4,.inl (((-2147483648),2147483647,1),none)),(5,.inl ((0,11,1),none))],[],[]),(2831,[(-219),(-17)]),0),
  (61,([(0,.inr (.inl [22])),(1,.inl (((-2147483648),2147483647,1),none)),(2,.inl ((1,6,1),none)),(3,.inl ((0,11,1),none)),(4,.inl (((-2147483648),2147483647,1),none)),(5,.inl ((0,11,1),none))],[],[]),(2629,[(-219),0]),0)]
set_option maxRecDepth 100000 in
theorem q154_ok : rf_chkB q154_P q154_U wLay q154_M ddX3_shorten [(1,[0]),(14,[3]),(22,[2]),(49,[1]),(52,[2])] [.inl 3,.inl 5] [0,7,28,61] 600 q154_N = true := by decide +kernel
set_option maxHeartbeats 4000000 in
theorem q154_met {G : rfG} (h : okG G) : rf_met G q154_M := rf_methodB h.1 (P := q154_P) (U := q154_U) (N := q154_N) ⟨wflT h flokX3, wcsT h csokX3, wlcT h lcokX3, spokX3 h, List.forall_mem_cons.mpr ⟨q111_met h, List.forall_mem_cons.mpr ⟨q136_met h, List.forall_mem_cons.mpr ⟨q121_met h, List.forall_mem_cons.mpr ⟨q139_met h, fun _ h => absurd h List.not_mem_nil⟩⟩⟩⟩, List.forall_mem_cons.mpr ⟨fun M hM => Option.some.inj (show some q111_M = some M from hM) ▸ wlkS (lkX3_39 h) q111_M rfl rfl, List.forall_mem_cons.mpr ⟨fun M hM => Option.some.inj (show some q136_M = some M from hM) ▸ wlkS (lkX3_43 h) q136_M rfl rfl, List.forall_mem_cons.mpr ⟨fun M hM => Option.some.inj (show some q139_M = some M from hM) ▸ wlkS (lkX3_43 h) q139_M rfl rfl, fun _ h => absurd h List.not_mem_nil⟩⟩⟩, List.forall_mem_cons.mpr ⟨fun M hM => Option.some.inj (show some q121_M = some M from hM) ▸ wlkV (lkX3_32 h) q121_M rfl rfl, fun _ h => absurd h List.not_mem_nil⟩, fun _ h => absurd h List.not_mem_nil, fun _ h => absurd h List.not_mem_nil⟩ dkX3_shorten (by decide +kernel) (by rw [h.2.2.1]; exact q154_ok)
/-- NearSpell.FormList.add -/
def q155_M : rfM := ((⟨"NearSpell$FormList", "add", "(I)V"⟩, prog_5_method_4_code, 4, none), (0,0), ([.inr (.inl [46]),.inl (((-2147483648),387420488,1),none)],[]), [(45,0),(46,2)], [(none,[],[])])
def q155_P : rfP := (flX3,csX3,lcX3,spX3,[],[],[],([],[]))
def q155_U : rfU := [(.inr (46,1),[(0,21),(22,22)])]
set_option maxHeartbeats 8000000 in
def q155_N : List rfB := [(0,([(0,.inr (.inl [46])),(1,.inl (((-2147483648),387420488,1),none))],[],[]),(992,[0,0]),1000000),
  (5,([(0,.inr (.inl [46])),(1,.inl (((-2147483648),387420488,1),none)),(2,.inl ((0,21,1),none))],[],[((46,1),(0,21,1),none)]),(394,[13,0]),0),
  (5,([(0,.inr (.inl [46])),(1,.inl (((-2147483648),387420488,1),none)),(2,.inl ((0,22,1),none))],[],[((46,1),(22,22,1),none)]),(700,[13,0]),0),
  (27,([(0,.inr (.inl [46])),(1,.inl (((-2147483648),387420488,1),none)),(2,.inl ((0,21,1),none))],[],[((46,1),(0,21,1),none)]),(383,[0,0]),0),
  (27,([(0,.inr (.inl [46])),(1,.inl (((-2147483648),387420488,1),none)),(2,.inl ((0,22,1),none))],[],[((46,1),(22,22,1),none)]),(689,[0,0]),0),
  (43,([(0,.inr (.inl [46])),(1,.inl (((-2147483648),387420488,1),none)),(2,.inl ((0,21,1),none))],[],[((46,1),(0,21,1),none)]),(372,[0,0]),0),
  (43,([(0,.inr (.inl [46])),(1,.inl (((-2147483648),387420488,1),none)),(2,.inl ((0,22,1),none))],[],[((46,1),(22,22,1),none)]),(679,[0,0]),0),
  (55,([(0,.inr (.inl [46])),(1,.inl (((-2147483648),387420488,1),none)),(2,.inl ((1,21,1),none))],[],[((46,1),(0,21,1),none)]),(373,[0,0]),0),
  (55,([(0,.inr (.inl [46])),(1,.inl (((-2147483648),387420488,1),none)),(2,.inl ((0,22,1),none))],[],[((46,1),(22,22,1),none)]),(673,[0,0]),0),
  (61,([(0,.inr (.inl [46])),(1,.inl (((-2147483648),387420488,1),none)),(2,.inl ((0,21,1),none)),(3,.inl ((0,21,1),none))],[],[((46,1),(0,21,1),none)]),(25,[0,16]),0)]
set_option maxRecDepth 100000 in
theorem q155_ok : rf_chkB q155_P q155_U wLay q155_M ddX3_add [] [.inl 2,.inl 3] [0,5,27,43,55,61] 600 q155_N = true := by decide +kernel
set_option maxHeartbeats 4000000 in
theorem q155_met {G : rfG} (h : okG G) : rf_met G q155_M := rf_methodB h.1 (P := q155_P) (U := q155_U) (N := q155_N) ⟨wflT h flokX3, wcsT h csokX3, wlcT h lcokX3, spokX3 h, fun _ h => absurd h List.not_mem_nil, fun _ h => absurd h List.not_mem_nil, fun _ h => absurd h List.not_mem_nil, fun _ h => absurd h List.not_mem_nil, fun _ h => absurd h List.not_mem_nil⟩ dkX3_add (by decide +kernel) (by rw [h.2.2.1]; exact q155_ok)
/-- NearSpell.FormList.shorten -/
def q156_M : rfM := ((⟨"NearSpell$FormList", "shorten", "(I)V"⟩, prog_5_method_3_code, 6, none), (1,23), ([.inr (.inl [46]),.inl (((-2147483648),2147483647,1),none)],[]), [(45,0),(46,2)], [(none,[],[])])
def q156_P : rfP := (flX3,csX3,lcX3,spX3,[q111_M,q136_M,q122_M,q139_M],[(39,0),(43,1),(43,3)],[(32,2,3)],([],[]))
def q156_U : rfU := []
set_option maxHeartbeats 8000000 in
def q156_N : List rfB := [(0,([(0,.inr (.inl [46])),(1,.inl (((-2147483648),2147483647,1),none))],[],[]),(2852,[0,0]),0),
  (7,([(0,.inr (.inl [46])),(1,.inl (((-2147483648),2147483647,1),none)),(2,.inl ((0,6,1),none)),(3,.inl ((0,12,1),none))],[],[]),(2845,[(-219),0]),0),
  (28,([(0,.inr (.inl [46])),(1,.inl (((-2147483648),2147483647,1),none)),(2,.inl ((1,6,1),none)),(3,.inl ((0,11,1),none)),(4,.inl (((-2147483648),2147483647,1),none)),(5,.inl ((0,11,1),none))],[],[]),(2831,[(-219),(-17)]),0),
  (61,([(0,.inr (.inl [46])),(1,.inl (((-2147483648),2147483647,1),none)),(2,.inl ((1,6,1),none)),(3,.inl ((0,11,1),none)),(4,.inl (((-2147483648),2147483647,1),none)),(5,.inl ((0,11,1),none))],[],[]),(2629,[(-219),0]),0)]
set_option maxRecDepth 100000 in
theorem q156_ok : rf_chkB q156_P q156_U wLay q156_M ddX3_shorten [(1,[0]),(14,[3]),(22,[2]),(49,[1]),(52,[2])] [.inl 3,.inl 5] [0,7,28,61] 600 q156_N = true := by decide +kernel
set_option maxHeartbeats 4000000 in
theorem q156_met {G : rfG} (h : okG G) : rf_met G q156_M := rf_methodB h.1 (P := q156_P) (U := q156_U) (N := q156_N) ⟨wflT h flokX3, wcsT h csokX3, wlcT h lcokX3, spokX3 h, List.forall_mem_cons.mpr ⟨q111_met h, List.forall_mem_cons.mpr ⟨q136_met h, List.forall_mem_cons.mpr ⟨q122_met h, List.forall_mem_cons.mpr ⟨q139_met h, fun _ h => absurd h List.not_mem_nil⟩⟩⟩⟩, List.forall_mem_cons.mpr ⟨fun M hM => Option.some.inj (show some q111_M = some M from hM) ▸ wlkS (lkX3_39 h) q111_M rfl rfl, List.forall_mem_cons.mpr ⟨fun M hM => Option.some.inj (show some q136_M = some M from hM) ▸ wlkS (lkX3_43 h) q136_M rfl rfl, List.forall_mem_cons.mpr ⟨fun M hM => Option.some.inj (show some q139_M = some M from hM) ▸ wlkS (lkX3_43 h) q139_M rfl rfl, fun _ h => absurd h List.not_mem_nil⟩⟩⟩, List.forall_mem_cons.mpr ⟨fun M hM => Option.some.inj (show some q122_M = some M from hM) ▸ wlkV (lkX3_32 h) q122_M rfl rfl, fun _ h => absurd h List.not_mem_nil⟩, fun _ h => absurd h List.not_mem_nil, fun _ h => absurd h List.not_mem_nil⟩ dkX3_shorten (by decide +kernel) (by rw [h.2.2.1]; exact q156_ok)
/-- NearSpell.FormList.add -/
def q157_M : rfM := ((⟨"NearSpell$FormList", "add", "(I)V"⟩, prog_5_method_4_code, 4, none), (0,0), ([.inr (.inl [48]),.inl (((-2147483648),387420488,1),none)],[]), [(47,0),(48,2)], [(none,[],[])])
def q157_P : rfP := (flX3,csX3,lcX3,spX3,[],[],[],([],[]))
def q157_U : rfU := [(.inr (48,1),[(0,21),(22,22)])]
set_option maxHeartbeats 8000000 in
def q157_N : List rfB := [(0,([(0,.inr (.inl [48])),(1,.inl (((-2147483648),387420488,1),none))],[],[]),(992,[0,0]),1000000),
  (5,([(0,.inr (.inl [48])),(1,.inl (((-2147483648),387420488,1),none)),(2,.inl ((0,22,1),none))],[],[((48,1),(22,22,1),none)]),(700,[13,0]),0),
  (5,([(0,.inr (.inl [48])),(1,.inl (((-2147483648),387420488,1),none)),(2,.inl ((0,21,1),none))],[],[((48,1),(0,21,1),none)]),(394,[13,0]),0),
  (27,([(0,.inr (.inl [48])),(1,.inl (((-2147483648),387420488,1),none)),(2,.inl ((0,21,1),none))],[],[((48,1),(0,21,1),none)]),(383,[0,0]),0),
  (27,([(0,.inr (.inl [48])),(1,.inl (((-2147483648),387420488,1),none)),(2,.inl ((0,22,1),none))],[],[((48,1),(22,22,1),none)]),(689,[0,0]),0),
  (43,([(0,.inr (.inl [48])),(1,.inl (((-2147483648),387420488,1),none)),(2,.inl ((0,21,1),none))],[],[((48,1),(0,21,1),none)]),(372,[0,0]),0),
  (43,([(0,.inr (.inl [48])),(1,.inl (((-2147483648),387420488,1),none)),(2,.inl ((0,22,1),none))],[],[((48,1),(22,22,1),none)]),(679,[0,0]),0),
  (55,([(0,.inr (.inl [48])),(1,.inl (((-2147483648),387420488,1),none)),(2,.inl ((1,21,1),none))],[],[((48,1),(0,21,1),none)]),(373,[0,0]),0),
  (55,([(0,.inr (.inl [48])),(1,.inl (((-2147483648),387420488,1),none)),(2,.inl ((0,22,1),none))],[],[((48,1),(22,22,1),none)]),(673,[0,0]),0),
  (61,([(0,.inr (.inl [48])),(1,.inl (((-2147483648),387420488,1),none)),(2,.inl ((0,21,1),none)),(3,.inl ((0,21,1),none))],[],[((48,1),(0,21,1),none)]),(25,[0,16]),0)]
set_option maxRecDepth 100000 in
theorem q157_ok : rf_chkB q157_P q157_U wLay q157_M ddX3_add [] [.inl 2,.inl 3] [0,5,27,43,55,61] 600 q157_N = true := by decide +kernel
set_option maxHeartbeats 4000000 in
theorem q157_met {G : rfG} (h : okG G) : rf_met G q157_M := rf_methodB h.1 (P := q157_P) (U := q157_U) (N := q157_N) ⟨wflT h flokX3, wcsT h csokX3, wlcT h lcokX3, spokX3 h, fun _ h => absurd h List.not_mem_nil, fun _ h => absurd h List.not_mem_nil, fun _ h => absurd h List.not_mem_nil, fun _ h => absurd h List.not_mem_nil, fun _ h => absurd h List.not_mem_nil⟩ dkX3_add (by decide +kernel) (by rw [h.2.2.1]; exact q157_ok)
/-- NearSpell.FormList.shorten -/
def q158_M : rfM := ((⟨"NearSpell$FormList", "shorten", "(I)V"⟩, prog_5_method_3_code, 6, none), (1,23), ([.inr (.inl [48]),.inl (((-2147483648),2147483647,1),none)],[]), [(47,0),(48,2)], [(none,[],[])])
def q158_P : rfP := (flX3,csX3,lcX3,spX3,[q111_M,q136_M,q123_M,q139_M],[(39,0),(43,1),(43,3)],[(32,2,3)],([],[]))
def q158_U : rfU := []
set_option maxHeartbeats 8000000 in
def q158_N : List rfB := [(0,([(0,.inr (.inl [48])),(1,.inl (((-2147483648),2147483647,1),none))],[],[]),(2852,[0,0]),0),
  (7,([(0,.inr (.inl [48])),(1,.inl (((-2147483648),2147483647,1),none)),(2,.inl ((0,6,1),none)),(3,.inl ((0,12,1),none))],[],[]),(2845,[(-219),0]),0),
  (28,([(0,.inr (.inl [48])),(1,.inl (((-2147483648),2147483647,1),none)),(2,.inl ((1,6,1),none)),(3,.inl ((0,11,1),none)),(4,.inl (((-2147483648),2147483647,1),none)),(5,.inl ((0,11,1),none))],[],[]),(2831,[(-219),(-17)]),0),
  (61,([(0,.inr (.inl [48])),(1,.inl (((-2147483648),2147483647,1),none)),(2,.inl ((1,6,1),none)),(3,.inl ((0,11,1),none)),(4,.inl (((-2147483648),2147483647,1),none)),(5,.inl ((0,11,1),none))],[],[]),(2629,[(-219),0]),0)]
set_option maxRecDepth 100000 in
theorem q158_ok : rf_chkB q158_P q158_U wLay q158_M ddX3_shorten [(1,[0]),(14,[3]),(22,[2]),(49,[1]),(52,[2])] [.inl 3,.inl 5] [0,7,28,61] 600 q158_N = true := by decide +kernel
set_option maxHeartbeats 4000000 in
theorem q158_met {G : rfG} (h : okG G) : rf_met G q158_M := rf_methodB h.1 (P := q158_P) (U := q158_U) (N := q158_N) ⟨wflT h flokX3, wcsT h csokX3, wlcT h lcokX3, spokX3 h, List.forall_mem_cons.mpr ⟨q111_met h, List.forall_mem_cons.mpr ⟨q136_met h, List.forall_mem_cons.mpr ⟨q123_met h, List.forall_mem_cons.mpr ⟨q139_met h, fun _ h => absurd h List.not_mem_nil⟩⟩⟩⟩, List.forall_mem_cons.mpr ⟨fun M hM => Option.some.inj (show some q111_M = some M from hM) ▸ wlkS (lkX3_39 h) q111_M rfl rfl, List.forall_mem_cons.mpr ⟨fun M hM => Option.some.inj (show some q136_M = some M from hM) ▸ wlkS (lkX3_43 h) q136_M rfl rfl, List.forall_mem_cons.mpr ⟨fun M hM => Option.some.inj (show some q139_M = some M from hM) ▸ wlkS (lkX3_43 h) q139_M rfl rfl, fun _ h => absurd h List.not_mem_nil⟩⟩⟩, List.forall_mem_cons.mpr ⟨fun M hM => Option.some.inj (show some q123_M = some M from hM) ▸ wlkV (lkX3_32 h) q123_M rfl rfl, fun _ h => absurd h List.not_mem_nil⟩, fun _ h => absurd h List.not_mem_nil, fun _ h => absurd h List.not_mem_nil⟩ dkX3_shorten (by decide +kernel) (by rw [h.2.2.1]; exact q158_ok)
/-- NearSpell.FormList.add -/
def q159_M : rfM := ((⟨"NearSpell$FormList", "add", "(I)V"⟩, prog_5_method_4_code, 4, none), (0,0), ([.inr (.inl [38]),.inl (((-2147483648),387420488,1),none)],[]), [(37,0),(38,2)], [(none,[],[])])
def q159_P : rfP := (flX3,csX3,lcX3,spX3,[],[],[],([],[]))
def q159_U : rfU := [(.inr (38,1),[(0,21),(22,22)])]
set_option maxHeartbeats 8000000 in
def q159_N : List rfB := [(0,([(0,.inr (.inl [38])),(1,.inl (((-2147483648),387420488,1),none))],[],[]),(992,[0,0]),1000000),
  (5,([(0,.inr (.inl [38])),(1,.inl (((-2147483648),387420488,1),none)),(2,.inl ((0,21,1),none))],[],[((38,1),(0,21,1),none)]),(394,[13,0]),0),
  (5,([(0,.inr (.inl [38])),(1,.inl (((-2147483648),387420488,1),none)),(2,.inl ((0,22,1),none))],[],[((38,1),(22,22,1),none)]),(700,[13,0]),0),
  (27,([(0,.inr (.inl [38])),(1,.inl (((-2147483648),387420488,1),none)),(2,.inl ((0,21,1),none))],[],[((38,1),(0,21,1),none)]),(383,[0,0]),0),
  (27,([(0,.inr (.inl [38])),(1,.inl (((-2147483648),387420488,1),none)),(2,.inl ((0,22,1),none))],[],[((38,1),(22,22,1),none)]),(689,[0,0]),0),
  (43,([(0,.inr (.inl [38])),(1,.inl (((-2147483648),387420488,1),none)),(2,.inl ((0,21,1),none))],[],[((38,1),(0,21,1),none)]),(372,[0,0]),0),
  (43,([(0,.inr (.inl [38])),(1,.inl (((-2147483648),387420488,1),none)),(2,.inl ((0,22,1),none))],[],[((38,1),(22,22,1),none)]),(679,[0,0]),0),
  (55,([(0,.inr (.inl [38])),(1,.inl (((-2147483648),387420488,1),none)),(2,.inl ((1,21,1),none))],[],[((38,1),(0,21,1),none)]),(373,[0,0]),0),
  (55,([(0,.inr (.inl [38])),(1,.inl (((-2147483648),387420488,1),none)),(2,.inl ((0,22,1),none))],[],[((38,1),(22,22,1),none)]),(673,[0,0]),0),
  (61,([(0,.inr (.inl [38])),(1,.inl (((-2147483648),387420488,1),none)),(2,.inl ((0,21,1),none)),(3,.inl ((0,21,1),none))],[],[((38,1),(0,21,1),none)]),(25,[0,16]),0)]
set_option maxRecDepth 100000 in
theorem q159_ok : rf_chkB q159_P q159_U wLay q159_M ddX3_add [] [.inl 2,.inl 3] [0,5,27,43,55,61] 600 q159_N = true := by decide +kernel
set_option maxHeartbeats 4000000 in
theorem q159_met {G : rfG} (h : okG G) : rf_met G q159_M := rf_methodB h.1 (P := q159_P) (U := q159_U) (N := q159_N) ⟨wflT h flokX3, wcsT h csokX3, wlcT h lcokX3, spokX3 h, fun _ h => absurd h List.not_mem_nil, fun _ h => absurd h List.not_mem_nil, fun _ h => absurd h List.not_mem_nil, fun _ h => absurd h List.not_mem_nil, fun _ h => absurd h List.not_mem_nil⟩ dkX3_add (by decide +kernel) (by rw [h.2.2.1]; exact q159_ok)
/-- NearSpell.FormList.shorten -/
def q160_M : rfM := ((⟨"NearSpell$FormList", "shorten", "(I)V"⟩, prog_5_method_3_code, 6, none), (1,23), ([.inr (.inl [38]),.inl (((-2147483648),2147483647,1),none)],[]), [(37,0),(38,2)], [(none,[],[])])
def q160_P : rfP := (flX3,csX3,lcX3,spX3,[q111_M,q136_M,q124_M,q139_M],[(39,0),(43,1),(43,3)],[(32,2,3)],([],[]))
def q160_U : rfU := []
set_option maxHeartbeats 8000000 in
def q160_N : List rfB := [(0,([(0,.inr (.inl [38])),(1,.inl (((-2147483648),2147483647,1),none))],[],[]),(2852,[0,0]),0),
  (7,([(0,.inr (.inl [38])),(1,.inl (((-2147483648),2147483647,1),none)),(2,.inl ((0,6,1),none)),(3,.inl ((0,12,1),none))],[],[]),(2845,[(-219),0]),0),
  (28,([(0,.inr (.inl [38])),(1,.inl (((-2147483648),2147483647,1),none)),(2,.inl ((1,6,1),none)),(3,.inl ((0,11,1),none)),(4,.inl (((-2147483648),2147483647,1),none)),(5,.inl ((0,11,1),none))],[],[]),(2831,[(-219),(-17)]),0),
  (61,([(0,.inr (.inl [38])),(1,.inl (((-2147483648),2147483647,1),none)),(2,.inl ((1,6,1),none)),(3,.inl ((0,11,1),none)),(4,.inl (((-2147483648),2147483647,1),none)),(5,.inl ((0,11,1),none))],[],[]),(2629,[(-219),0]),0)]
set_option maxRecDepth 100000 in
theorem q160_ok : rf_chkB q160_P q160_U wLay q160_M ddX3_shorten [(1,[0]),(14,[3]),(22,[2]),(49,[1]),(52,[2])] [.inl 3,.inl 5] [0,7,28,61] 600 q160_N = true := by decide +kernel
set_option maxHeartbeats 4000000 in
theorem q160_met {G : rfG} (h : okG G) : rf_met G q160_M := rf_methodB h.1 (P := q160_P) (U := q160_U) (N := q160_N) ⟨wflT h flokX3, wcsT h csokX3, wlcT h lcokX3, spokX3 h, List.forall_mem_cons.mpr ⟨q111_met h, List.forall_mem_cons.mpr ⟨q136_met h, List.forall_mem_cons.mpr ⟨q124_met h, List.forall_mem_cons.mpr ⟨q139_met h, fun _ h => absurd h List.not_mem_nil⟩⟩⟩⟩, List.forall_mem_cons.mpr ⟨fun M hM => Option.some.inj (show some q111_M = some M from hM) ▸ wlkS (lkX3_39 h) q111_M rfl rfl, List.forall_mem_cons.mpr ⟨fun M hM => Option.some.inj (show some q136_M = some M from hM) ▸ wlkS (lkX3_43 h) q136_M rfl rfl, List.forall_mem_cons.mpr ⟨fun M hM => Option.some.inj (show some q139_M = some M from hM) ▸ wlkS (lkX3_43 h) q139_M rfl rfl, fun _ h => absurd h List.not_mem_nil⟩⟩⟩, List.forall_mem_cons.mpr ⟨fun M hM => Option.some.inj (show some q124_M = some M from hM) ▸ wlkV (lkX3_32 h) q124_M rfl rfl, fun _ h => absurd h List.not_mem_nil⟩, fun _ h => absurd h List.not_mem_nil, fun _ h => absurd h List.not_mem_nil⟩ dkX3_shorten (by decide +kernel) (by rw [h.2.2.1]; exact q160_ok)
/-- NearSpell.FormList.add -/
def q161_M : rfM := ((⟨"NearSpell$FormList", "add", "(I)V"⟩, prog_5_method_4_code, 4, none), (0,0), ([.inr (.inl [30]),.inl (((-2147483648),387420488,1),none)],[]), [(29,0),(30,2)], [(none,[],[])])
def q161_P : rfP := (flX3,csX3,lcX3,spX3,[],[],[],([],[]))
def q161_U : rfU := [(.inr (30,1),[(0,21),(22,22)])]
set_option maxHeartbeats 8000000 in
def q161_N : List rfB := [(0,([(0,.inr (.inl [30])),(1,.inl (((-2147483648),387420488,1),none))],[],[]),(992,[0,0]),1000000),
  (5,([(0,.inr (.inl [30])),(1,.inl (((-2147483648),387420488,1),none)),(2,.inl ((0,21,1),none))],[],[((30,1),(0,21,1),none)]),(394,[13,0]),0),
  (5,([(0,.inr (.inl [30])),(1,.inl (((-2147483648),387420488,1),none)),(2,.inl ((0,22,1),none))],[],[((30,1),(22,22,1),none)]),(700,[13,0]),0),
  (27,([(0,.inr (.inl [30])),(1,.inl (((-2147483648),387420488,1),none)),(2,.inl ((0,21,1),none))],[],[((30,1),(0,21,1),none)]),(383,[0,0]),0),
  (27,([(0,.inr (.inl [30])),(1,.inl (((-2147483648),387420488,1),none)),(2,.inl ((0,22,1),none))],[],[((30,1),(22,22,1),none)]),(689,[0,0]),0),
  (43,([(0,.inr (.inl [30])),(1,.inl (((-2147483648),387420488,1),none)),(2,.inl ((0,21,1),none))],[],[((30,1),(0,21,1),none)]),(372,[0,0]),0),
  (43,([(0,.inr (.inl [30])),(1,.inl (((-2147483648),387420488,1),none)),(2,.inl ((0,22,1),none))],[],[((30,1),(22,22,1),none)]),(679,[0,0]),0),
  (55,([(0,.inr (.inl [30])),(1,.inl (((-2147483648),387420488,1),none)),(2,.inl ((1,21,1),none))],[],[((30,1),(0,21,1),none)]),(373,[0,0]),0),
  (55,([(0,.inr (.inl [30])),(1,.inl (((-2147483648),387420488,1),none)),(2,.inl ((0,22,1),none))],[],[((30,1),(22,22,1),none)]),(673,[0,0]),0),
  (61,([(0,.inr (.inl [30])),(1,.inl (((-2147483648),387420488,1),none)),(2,.inl ((0,21,1),none)),(3,.inl ((0,21,1),none))],[],[((30,1),(0,21,1),none)]),(25,[0,16]),0)]
set_option maxRecDepth 100000 in
theorem q161_ok : rf_chkB q161_P q161_U wLay q161_M ddX3_add [] [.inl 2,.inl 3] [0,5,27,43,55,61] 600 q161_N = true := by decide +kernel
set_option maxHeartbeats 4000000 in
theorem q161_met {G : rfG} (h : okG G) : rf_met G q161_M := rf_methodB h.1 (P := q161_P) (U := q161_U) (N := q161_N) ⟨wflT h flokX3, wcsT h csokX3, wlcT h lcokX3, spokX3 h, fun _ h => absurd h List.not_mem_nil, fun _ h => absurd h List.not_mem_nil, fun _ h => absurd h List.not_mem_nil, fun _ h => absurd h List.not_mem_nil, fun _ h => absurd h List.not_mem_nil⟩ dkX3_add (by decide +kernel) (by rw [h.2.2.1]; exact q161_ok)
/-- NearSpell.FormList.shorten -/
def q162_M : rfM := ((⟨"NearSpell$FormList", "shorten", "(I)V"⟩, prog_5_method_3_code, 6, none), (1,23), ([.inr (.inl [30]),.inl (((-2147483648),2147483647,1),none)],[]), [(29,0),(30,2)], [(none,[],[])])
def q162_P : rfP := (flX3,csX3,lcX3,spX3,[q111_M,q136_M,q125_M,q139_M],[(39,0),(43,1),(43,3)],[(32,2,3)],([],[]))
def q162_U : rfU := []
set_option maxHeartbeats 8000000 in
def q162_N : List rfB := [(0,([(0,.inr (.inl [30])),(1,.inl (((-2147483648),2147483647,1),none))],[],[]),(2852,[0,0]),0),
  (7,([(0,.inr (.inl [30])),(1,.inl (((-2147483648),2147483647,1),none)),(2,.inl ((0,6,1),none)),(3,.inl ((0,12,1),none))],[],[]),(2845,[(-219),0]),0),
  (28,([(0,.inr (.inl [30])),(1,.inl (((-2147483648),2147483647,1),none)),(2,.inl ((1,6,1),none)),(3,.inl ((0,11,1),none)),(4,.inl (((-2147483648),2147483647,1),none)),(5,.inl ((0,11,1),none))],[],[]),(2831,[(-219),(-17)]),0),
  (61,([(0,.inr (.inl [30])),(1,.inl (((-2147483648),2147483647,1),none)),(2,.inl ((1,6,1),none)),(3,.inl ((0,11,1),none)),(4,.inl (((-2147483648),2147483647,1),none)),(5,.inl ((0,11,1),none))],[],[]),(2629,[(-219),0]),0)]
set_option maxRecDepth 100000 in
theorem q162_ok : rf_chkB q162_P q162_U wLay q162_M ddX3_shorten [(1,[0]),(14,[3]),(22,[2]),(49,[1]),(52,[2])] [.inl 3,.inl 5] [0,7,28,61] 600 q162_N = true := by decide +kernel
set_option maxHeartbeats 4000000 in
theorem q162_met {G : rfG} (h : okG G) : rf_met G q162_M := rf_methodB h.1 (P := q162_P) (U := q162_U) (N := q162_N) ⟨wflT h flokX3, wcsT h csokX3, wlcT h lcokX3, spokX3 h, List.forall_mem_cons.mpr ⟨q111_met h, List.forall_mem_cons.mpr ⟨q136_met h, List.forall_mem_cons.mpr ⟨q125_met h, List.forall_mem_cons.mpr ⟨q139_met h, fun _ h => absurd h List.not_mem_nil⟩⟩⟩⟩, List.forall_mem_cons.mpr ⟨fun M hM => Option.some.inj (show some q111_M = some M from hM) ▸ wlkS (lkX3_39 h) q111_M rfl rfl, List.forall_mem_cons.mpr ⟨fun M hM => Option.some.inj (show some q136_M = some M from hM) ▸ wlkS (lkX3_43 h) q136_M rfl rfl, List.forall_mem_cons.mpr ⟨fun M hM => Option.some.inj (show some q139_M = some M from hM) ▸ wlkS (lkX3_43 h) q139_M rfl rfl, fun _ h => absurd h List.not_mem_nil⟩⟩⟩, List.forall_mem_cons.mpr ⟨fun M hM => Option.some.inj (show some q125_M = some M from hM) ▸ wlkV (lkX3_32 h) q125_M rfl rfl, fun _ h => absurd h List.not_mem_nil⟩, fun _ h => absurd h List.not_mem_nil, fun _ h => absurd h List.not_mem_nil⟩ dkX3_shorten (by decide +kernel) (by rw [h.2.2.1]; exact q162_ok)
/-- NearSpell.FormList.add -/
def q163_M : rfM := ((⟨"NearSpell$FormList", "add", "(I)V"⟩, prog_5_method_4_code, 4, none), (0,0), ([.inr (.inl [28]),.inl (((-2147483648),387420488,1),none)],[]), [(27,0),(28,2)], [(none,[],[])])
def q163_P : rfP := (flX3,csX3,lcX3,spX3,[],[],[],([],[]))
def q163_U : rfU := [(.inr (28,1),[(0,21),(22,22)])]
set_option maxHeartbeats 8000000 in
def q163_N : List rfB := [(0,([(0,.inr (.inl [28])),(1,.inl (((-2147483648),387420488,1),none))],[],[]),(992,[0,0]),1000000),
  (5,([(0,.inr (.inl [28])),(1,.inl (((-2147483648),387420488,1),none)),(2,.inl ((0,22,1),none))],[],[((28,1),(22,22,1),none)]),(700,[13,0]),0),
  (5,([(0,.inr (.inl [28])),(1,.inl (((-2147483648),387420488,1),none)),(2,.inl ((0,21,1),none))],[],[((28,1),(0,21,1),none)]),(394,[13,0]),0),
  (27,([(0,.inr (.inl [28])),(1,.inl (((-2147483648),387420488,1),none)),(2,.inl ((0,21,1),none))],[],[((28,1),(0,21,1),none)]),(383,[0,0]),0),
  (27,([(0,.inr (.inl [28])),(1,.inl (((-2147483648),387420488,1),none)),(2,.inl ((0,22,1),none))],[],[((28,1),(22,22,1),none)]),(689,[0,0]),0),
  (43,([(0,.inr (.inl [28])),(1,.inl (((-2147483648),387420488,1),none)),(2,.inl ((0,21,1),none))],[],[((28,1),(0,21,1),none)]),(372,[0,0]),0),
  (43,([(0,.inr (.inl [28])),(1,.inl (((-2147483648),387420488,1),none)),(2,.inl ((0,22,1),none))],[],[((28,1),(22,22,1),none)]),(679,[0,0]),0),
  (55,([(0,.inr (.inl [28])),(1,.inl (((-2147483648),387420488,1),none)),(2,.inl ((1,21,1),none))],[],[((28,1),(0,21,1),none)]),(373,[0,0]),0),
  (55,([(0,.inr (.inl [28])),(1,.inl (((-2147483648),387420488,1),none)),(2,.inl ((0,22,1),none))],[],[((28,1),(22,22,1),none)]),(673,[0,0]),0),
  (61,([(0,.inr (.inl [28])),(1,.inl (((-2147483648),387420488,1),none)),(2,.inl ((0,21,1),none)),(3,.inl ((0,21,1),none))],[],[((28,1),(0,21,1),none)]),(25,[0,16]),0)]
set_option maxRecDepth 100000 in
theorem q163_ok : rf_chkB q163_P q163_U wLay q163_M ddX3_add [] [.inl 2,.inl 3] [0,5,27,43,55,61] 600 q163_N = true := by decide +kernel
set_option maxHeartbeats 4000000 in
theorem q163_met {G : rfG} (h : okG G) : rf_met G q163_M := rf_methodB h.1 (P := q163_P) (U := q163_U) (N := q163_N) ⟨wflT h flokX3, wcsT h csokX3, wlcT h lcokX3, spokX3 h, fun _ h => absurd h List.not_mem_nil, fun _ h => absurd h List.not_mem_nil, fun _ h => absurd h List.not_mem_nil, fun _ h => absurd h List.not_mem_nil, fun _ h => absurd h List.not_mem_nil⟩ dkX3_add (by decide +kernel) (by rw [h.2.2.1]; exact q163_ok)
/-- NearSpell.FormList.shorten -/
def q164_M : rfM := ((⟨"NearSpell$FormList", "shorten", "(I)V"⟩, prog_5_method_3_code, 6, none), (1,23), ([.inr (.inl [28]),.inl (((-2147483648),2147483647,1),none)],[]), [(27,0),(28,2)], [(none,[],[])])
def q164_P : rfP := (flX3,csX3,lcX3,spX3,[q111_M,q136_M,q126_M,q139_M],[(39,0),(43,1),(43,3)],[(32,2,3)],([],[]))
def q164_U : rfU := []
set_option maxHeartbeats 8000000 in
def q164_N : List rfB := [(0,([(0,.inr (.inl [28])),(1,.inl (((-2147483648),2147483647,1),none))],[],[]),(2852,[0,0]),0),
  (7,([(0,.inr (.inl [28])),(1,.inl (((-2147483648),2147483647,1),none)),(2,.inl ((0,6,1),none)),(3,.inl ((0,12,1),none))],[],[]),(2845,[(-219),0]),0),
  (28,([(0,.inr (.inl [28])),(1,.inl (((-2147483648),2147483647,1),none)),(2,.inl ((1,6,1),none)),(3,.inl ((0,11,1),none)),(4,.inl (((-2147483648),2147483647,1),none)),(5,.inl ((0,11,1),none))],[],[]),(2831,[(-219),(-17)]),0),
  (61,([(0,.inr (.inl [28])),(1,.inl (((-2147483648),2147483647,1),none)),(2,.inl ((1,6,1),none)),(3,.inl ((0,11,1),none)),(4,.inl (((-2147483648),2147483647,1),none)),(5,.inl ((0,11,1),none))],[],[]),(2629,[(-219),0]),0)]
set_option maxRecDepth 100000 in
theorem q164_ok : rf_chkB q164_P q164_U wLay q164_M ddX3_shorten [(1,[0]),(14,[3]),(22,[2]),(49,[1]),(52,[2])] [.inl 3,.inl 5] [0,7,28,61] 600 q164_N = true := by decide +kernel
set_option maxHeartbeats 4000000 in
theorem q164_met {G : rfG} (h : okG G) : rf_met G q164_M := rf_methodB h.1 (P := q164_P) (U := q164_U) (N := q164_N) ⟨wflT h flokX3, wcsT h csokX3, wlcT h lcokX3, spokX3 h, List.forall_mem_cons.mpr ⟨q111_met h, List.forall_mem_cons.mpr ⟨q136_met h, List.forall_mem_cons.mpr ⟨q126_met h, List.forall_mem_cons.mpr ⟨q139_met h, fun _ h => absurd h List.not_mem_nil⟩⟩⟩⟩, List.forall_mem_cons.mpr ⟨fun M hM => Option.some.inj (show some q111_M = some M from hM) ▸ wlkS (lkX3_39 h) q111_M rfl rfl, List.forall_mem_cons.mpr ⟨fun M hM => Option.some.inj (show some q136_M = some M from hM) ▸ wlkS (lkX3_43 h) q136_M rfl rfl, List.forall_mem_cons.mpr ⟨fun M hM => Option.some.inj (show some q139_M = some M from hM) ▸ wlkS (lkX3_43 h) q139_M rfl rfl, fun _ h => absurd h List.not_mem_nil⟩⟩⟩, List.forall_mem_cons.mpr ⟨fun M hM => Option.some.inj (show some q126_M = some M from hM) ▸ wlkV (lkX3_32 h) q126_M rfl rfl, fun _ h => absurd h List.not_mem_nil⟩, fun _ h => absurd h List.not_mem_nil, fun _ h => absurd h List.not_mem_nil⟩ dkX3_shorten (by decide +kernel) (by rw [h.2.2.1]; exact q164_ok)
/-- NearSpell.FormList.add -/
def q165_M : rfM := ((⟨"NearSpell$FormList", "add", "(I)V"⟩, prog_5_method_4_code, 4, none), (0,0), ([.inr (.inl [36]),.inl (((-2147483648),387420488,1),none)],[]), [(35,0),(36,2)], [(none,[],[])])
def q165_P : rfP := (flX3,csX3,lcX3,spX3,[],[],[],([],[]))
def q165_U : rfU := [(.inr (36,1),[(0,21),(22,22)])]
set_option maxHeartbeats 8000000 in
def q165_N : List rfB := [(0,([(0,.inr (.inl [36])),(1,.inl (((-2147483648),387420488,1),none))],[],[]),(992,[0,0]),1000000),
  (5,([(0,.inr (.inl [36])),(1,.inl (((-2147483648),387420488,1),none)),(2,.inl ((0,22,1),none))],[],[((36,1),(22,22,1),none)]),(700,[13,0]),0),
  (5,([(0,.inr (.inl [36])),(1,.inl (((-2147483648),387420488,1),none)),(2,.inl ((0,21,1),none))],[],[((36,1),(0,21,1),none)]),(394,[13,0]),0),
  (27,([(0,.inr (.inl [36])),(1,.inl (((-2147483648),387420488,1),none)),(2,.inl ((0,21,1),none))],[],[((36,1),(0,21,1),none)]),(383,[0,0]),0),
  (27,([(0,.inr (.inl [36])),(1,.inl (((-2147483648),387420488,1),none)),(2,.inl ((0,22,1),none))],[],[((36,1),(22,22,1),none)]),(689,[0,0]),0),
  (43,([(0,.inr (.inl [36])),(1,.inl (((-2147483648),387420488,1),none)),(2,.inl ((0,21,1),none))],[],[((36,1),(0,21,1),none)]),(372,[0,0]),0),
  (43,([(0,.inr (.inl [36])),(1,.inl (((-2147483648),387420488,1),none)),(2,.inl ((0,22,1),none))],[],[((36,1),(22,22,1),none)]),(679,[0,0]),0),
  (55,([(0,.inr (.inl [36])),(1,.inl (((-2147483648),387420488,1),none)),(2,.inl ((1,21,1),none))],[],[((36,1),(0,21,1),none)]),(373,[0,0]),0),
  (55,([(0,.inr (.inl [36])),(1,.inl (((-2147483648),387420488,1),none)),(2,.inl ((0,22,1),none))],[],[((36,1),(22,22,1),none)]),(673,[0,0]),0),
  (61,([(0,.inr (.inl [36])),(1,.inl (((-2147483648),387420488,1),none)),(2,.inl ((0,21,1),none)),(3,.inl ((0,21,1),none))],[],[((36,1),(0,21,1),none)]),(25,[0,16]),0)]
set_option maxRecDepth 100000 in
theorem q165_ok : rf_chkB q165_P q165_U wLay q165_M ddX3_add [] [.inl 2,.inl 3] [0,5,27,43,55,61] 600 q165_N = true := by decide +kernel
set_option maxHeartbeats 4000000 in
theorem q165_met {G : rfG} (h : okG G) : rf_met G q165_M := rf_methodB h.1 (P := q165_P) (U := q165_U) (N := q165_N) ⟨wflT h flokX3, wcsT h csokX3, wlcT h lcokX3, spokX3 h, fun _ h => absurd h List.not_mem_nil, fun _ h => absurd h List.not_mem_nil, fun _ h => absurd h List.not_mem_nil, fun _ h => absurd h List.not_mem_nil, fun _ h => absurd h List.not_mem_nil⟩ dkX3_add (by decide +kernel) (by rw [h.2.2.1]; exact q165_ok)
/-- NearSpell.FormList.shorten -/
def q166_M : rfM := ((⟨"NearSpell$FormList", "shorten", "(I)V"⟩, prog_5_method_3_code, 6, none), (1,23), ([.inr (.inl [36]),.inl (((-2147483648),2147483647,1),none)],[]), [(35,0),(36,2)], [(none,[],[])])
def q166_P : rfP := (flX3,csX3,lcX3,spX3,[q111_M,q136_M,q127_M,q139_M],[(39,0),(43,1),(43,3)],[(32,2,3)],([],[]))
def q166_U : rfU := []
set_option maxHeartbeats 8000000 in
def q166_N : List rfB := [(0,([(0,.inr (.inl [36])),(1,.inl (((-2147483648),2147483647,1),none))],[],[]),(2852,[0,0]),0),
  (7,([(0,.inr (.inl [36])),(1,.inl (((-2147483648),2147483647,1),none)),(2,.inl ((0,6,1),none)),(3,.inl ((0,12,1),none))],[],[]),(2845,[(-219),0]),0),
  (28,([(0,.inr (.inl [36])),(1,.inl (((-2147483648),2147483647,1),none)),(2,.inl ((1,6,1),none)),(3,.inl ((0,11,1),none)),(4,.inl (((-2147483648),2147483647,1),none)),(5,.inl ((0,11,1),none))],[],[]),(2831,[(-219),(-17)]),0),
  (61,([(0,.inr (.inl [36])),(1,.inl (((-2147483648),2147483647,1),none)),(2,.inl ((1,6,1),none)),(3,.inl ((0,11,1),none)),(4,.inl (((-2147483648),2147483647,1),none)),(5,.inl ((0,11,1),none))],[],[]),(2629,[(-219),0]),0)]
set_option maxRecDepth 100000 in
theorem q166_ok : rf_chkB q166_P q166_U wLay q166_M ddX3_shorten [(1,[0]),(14,[3]),(22,[2]),(49,[1]),(52,[2])] [.inl 3,.inl 5] [0,7,28,61] 600 q166_N = true := by decide +kernel
set_option maxHeartbeats 4000000 in
theorem q166_met {G : rfG} (h : okG G) : rf_met G q166_M := rf_methodB h.1 (P := q166_P) (U := q166_U) (N := q166_N) ⟨wflT h flokX3, wcsT h csokX3, wlcT h lcokX3, spokX3 h, List.forall_mem_cons.mpr ⟨q111_met h, List.forall_mem_cons.mpr ⟨q136_met h, List.forall_mem_cons.mpr ⟨q127_met h, List.forall_mem_cons.mpr ⟨q139_met h, fun _ h => absurd h List.not_mem_nil⟩⟩⟩⟩, List.forall_mem_cons.mpr ⟨fun M hM => Option.some.inj (show some q111_M = some M from hM) ▸ wlkS (lkX3_39 h) q111_M rfl rfl, List.forall_mem_cons.mpr ⟨fun M hM => Option.some.inj (show some q136_M = some M from hM) ▸ wlkS (lkX3_43 h) q136_M rfl rfl, List.forall_mem_cons.mpr ⟨fun M hM => Option.some.inj (show some q139_M = some M from hM) ▸ wlkS (lkX3_43 h) q139_M rfl rfl, fun _ h => absurd h List.not_mem_nil⟩⟩⟩, List.forall_mem_cons.mpr ⟨fun M hM => Option.some.inj (show some q127_M = some M from hM) ▸ wlkV (lkX3_32 h) q127_M rfl rfl, fun _ h => absurd h List.not_mem_nil⟩, fun _ h => absurd h List.not_mem_nil, fun _ h => absurd h List.not_mem_nil⟩ dkX3_shorten (by decide +kernel) (by rw [h.2.2.1]; exact q166_ok)
/-- NearSpell.FormList.fill -/
def q167_M : rfM := ((⟨"NearSpell$FormList", "fill", "(III)V"⟩, prog_5_method_2_code, 5, none), (2,48), ([.inr (.inl [22,24,26,28,30,32,34,36,38,40,42,44,46,48]),.inl (((-2147483648),2147483647,1),none),.inl ((1,6,1),none),.inl ((0,2,1),none)],[]), [(21,0),(22,2),(22,3),(22,4),(22,5),(23,0),(24,2),(24,3),(24,4),(24,5),(25,0),(26,2),(26,3),(26,4),(26,5),(27,0),(28,2),(28,3),(28,4),(28,5),(29,0),(30,2),(30,3),(30,4),(30,5),(31,0),(32,2),(32,3),(32,4),(32,5),(33,0),(34,2),(34,3),(34,4),(34,5),(35,0),(36,2),(36,3),(36,4),(36,5),(37,0),(38,2),(38,3),(38,4),(38,5),(39,0),(40,2),(40,3),(40,4),(40,5),(41,0),(42,2),(42,3),(42,4),(42,5),(43,0),(44,2),(44,3),(44,4),(44,5),(45,0),(46,2),(46,3),(46,4),(46,5),(47,0),(48,2),(48,3),(48,4),(48,5)], [(none,[],[])])
def ddX3_fill : List (Nat × Instr × Nat) := [(0,.aload_n 0,1),(1,.getfield 19,3),(4,.iload_n 1,1),(5,.if_icmp .ne 20,3),(8,.aload_n 0,1),(9,.getfield 22,3),(12,.iload_n 2,1),(13,.if_icmp .ne 12,3),(16,.aload_n 0,1),(17,.getfield 25,3),(20,.iload_n 3,1),(21,.if_icmp .ne 4,3),(24,.return_,1),(25,.aload_n 0,1),(26,.iload_n 1,1),(27,.putfield 19,3),(30,.aload_n 0,1),(31,.iload_n 2,1),(32,.putfield 22,3),(35,.aload_n 0,1),(36,.iload_n 3,1),(37,.putfield 25,3),(40,.aload_n 0,1),(41,.iconst 0,1),(42,.putfield 15,3),(45,.aload_n 0,1),(46,.getfield 19,3),(49,.aload_n 0,1),(50,.getfield 22,3),(53,.invokestatic 28,3),(56,.istore 4,2),(58,.aload_n 0,1),(59,.iload 4,2),(61,.invokevirtual 32,3),(64,.aload_n 0,1),(65,.getfield 25,3),(68,.ifCond .le 9,3),(71,.aload_n 0,1),(72,.iload 4,2),(74,.invokevirtual 36,3),(77,.return_,1)]
set_option maxRecDepth 100000 in
theorem dkX3_fill : rf_decs prog_5_method_2_code ddX3_fill := rf_decs_of (by decide +kernel)
def q167_P : rfP := (flX3,csX3,lcX3,spX3,[q113_M,q114_M,q115_M,q116_M,q117_M,q118_M,q119_M,q120_M,q121_M,q122_M,q123_M,q124_M,q125_M,q126_M,q127_M,q140_M,q142_M,q144_M,q146_M,q148_M,q150_M,q152_M,q154_M,q156_M,q158_M,q160_M,q162_M,q164_M,q166_M],[(28,0)],[(32,1,3),(32,2,3),(32,3,3),(32,4,3),(32,5,3),(32,6,3),(32,7,3),(32,8,3),(32,9,3),(32,10,3),(32,11,3),(32,12,3),(32,13,3),(32,14,3),(36,15,3),(36,16,3),(36,17,3),(36,18,3),(36,19,3),(36,20,3),(36,21,3),(36,22,3),(36,23,3),(36,24,3),(36,25,3),(36,26,3),(36,27,3),(36,28,3)],([],[]))
def q167_U : rfU := []
set_option maxHeartbeats 8000000 in
def q167_N : List rfB := [(0,([(0,.inr (.inl [22,24,26,28,30,32,34,36,38,40,42,44,46,48])),(1,.inl (((-2147483648),2147483647,1),none)),(2,.inl ((1,6,1),none)),(3,.inl ((0,2,1),none))],[],[]),(574,[]),2000000),
  (25,([(0,.inr (.inl [40])),(1,.inl (((-2147483648),2147483647,1),none)),(2,.inl ((1,6,1),none)),(3,.inl ((0,2,1),none))],[],[]),(396,[]),0),
  (25,([(0,.inr (.inl [24])),(1,.inl (((-2147483648),2147483647,1),none)),(2,.inl ((1,6,1),none)),(3,.inl ((0,2,1),none))],[],[]),(68,[]),0),
  (25,([(0,.inr (.inl [34])),(1,.inl (((-2147483648),2147483647,1),none)),(2,.inl ((1,6,1),none)),(3,.inl ((0,2,1),none))],[],[]),(273,[]),0),
  (25,([(0,.inr (.inl [42])),(1,.inl (((-2147483648),2147483647,1),none)),(2,.inl ((1,6,1),none)),(3,.inl ((0,2,1),none))],[],[]),(437,[]),0),
  (25,([(0,.inr (.inl [32])),(1,.inl (((-2147483648),2147483647,1),none)),(2,.inl ((1,6,1),none)),(3,.inl ((0,2,1),none))],[],[]),(232,[]),0),
  (25,([(0,.inr (.inl [26])),(1,.inl (((-2147483648),2147483647,1),none)),(2,.inl ((1,6,1),none)),(3,.inl ((0,2,1),none))],[],[]),(109,[]),0),
  (25,([(0,.inr (.inl [44])),(1,.inl (((-2147483648),2147483647,1),none)),(2,.inl ((1,6,1),none)),(3,.inl ((0,2,1),none))],[],[]),(478,[]),0),
  (25,([(0,.inr (.inl [22])),(1,.inl (((-2147483648),2147483647,1),none)),(2,.inl ((1,6,1),none)),(3,.inl ((0,2,1),none))],[],[]),(27,[]),0),
  (25,([(0,.inr (.inl [46])),(1,.inl (((-2147483648),2147483647,1),none)),(2,.inl ((1,6,1),none)),(3,.inl ((0,2,1),none))],[],[]),(519,[]),0),
  (25,([(0,.inr (.inl [48])),(1,.inl (((-2147483648),2147483647,1),none)),(2,.inl ((1,6,1),none)),(3,.inl ((0,2,1),none))],[],[]),(560,[]),0),
  (25,([(0,.inr (.inl [38])),(1,.inl (((-2147483648),2147483647,1),none)),(2,.inl ((1,6,1),none)),(3,.inl ((0,2,1),none))],[],[]),(355,[]),0),
  (25,([(0,.inr (.inl [30])),(1,.inl (((-2147483648),2147483647,1),none)),(2,.inl ((1,6,1),none)),(3,.inl ((0,2,1),none))],[],[]),(191,[]),0),
  (25,([(0,.inr (.inl [28])),(1,.inl (((-2147483648),2147483647,1),none)),(2,.inl ((1,6,1),none)),(3,.inl ((0,2,1),none))],[],[]),(150,[]),0),
  (25,([(0,.inr (.inl [36])),(1,.inl (((-2147483648),2147483647,1),none)),(2,.inl ((1,6,1),none)),(3,.inl ((0,2,1),none))],[],[]),(314,[]),0),
  (77,([(0,.inr (.inl [40])),(1,.inl (((-2147483648),2147483647,1),none)),(2,.inl ((1,6,1),none)),(3,.inl ((0,2,1),none)),(4,.inl (((-2147483648),2147483647,1),none))],[],[((40,3),(1,6,1),none),((40,4),(0,2,1),none)]),(369,[]),0),
  (77,([(0,.inr (.inl [24])),(1,.inl (((-2147483648),2147483647,1),none)),(2,.inl ((1,6,1),none)),(3,.inl ((0,2,1),none)),(4,.inl (((-2147483648),2147483647,1),none))],[],[((24,3),(1,6,1),none),((24,4),(0,2,1),none)]),(41,[]),0),
  (77,([(0,.inr (.inl [34])),(1,.inl (((-2147483648),2147483647,1),none)),(2,.inl ((1,6,1),none)),(3,.inl ((0,2,1),none)),(4,.inl (((-2147483648),2147483647,1),none))],[],[((34,3),(1,6,1),none),((34,4),(0,2,1),none)]),(246,[]),0),
  (77,([(0,.inr (.inl [42])),(1,.inl (((-2147483648),2147483647,1),none)),(2,.inl ((1,6,1),none)),(3,.inl ((0,2,1),none)),(4,.inl (((-2147483648),2147483647,1),none))],[],[((42,3),(1,6,1),none),((42,4),(0,2,1),none)]),(410,[]),0),
  (77,([(0,.inr (.inl [32])),(1,.inl (((-2147483648),2147483647,1),none)),(2,.inl ((1,6,1),none)),(3,.inl ((0,2,1),none)),(4,.inl (((-2147483648),2147483647,1),none))],[],[((32,3),(1,6,1),none),((32,4),(0,2,1),none)]),(205,[]),0),
  (77,([(0,.inr (.inl [26])),(1,.inl (((-2147483648),2147483647,1),none)),(2,.inl ((1,6,1),none)),(3,.inl ((0,2,1),none)),(4,.inl (((-2147483648),2147483647,1),none))],[],[((26,3),(1,6,1),none),((26,4),(0,2,1),none)]),(82,[]),0),
  (77,([(0,.inr (.inl [44])),(1,.inl (((-2147483648),2147483647,1),none)),(2,.inl ((1,6,1),none)),(3,.inl ((0,2,1),none)),(4,.inl (((-2147483648),2147483647,1),none))],[],[((44,3),(1,6,1),none),((44,4),(0,2,1),none)]),(451,[]),0),
  (77,([(0,.inr (.inl [22])),(1,.inl (((-2147483648),2147483647,1),none)),(2,.inl ((1,6,1),none)),(3,.inl ((0,2,1),none)),(4,.inl (((-2147483648),2147483647,1),none))],[],[((22,3),(1,6,1),none),((22,4),(0,2,1),none)]),(0,[]),0),
  (77,([(0,.inr (.inl [46])),(1,.inl (((-2147483648),2147483647,1),none)),(2,.inl ((1,6,1),none)),(3,.inl ((0,2,1),none)),(4,.inl (((-2147483648),2147483647,1),none))],[],[((46,3),(1,6,1),none),((46,4),(0,2,1),none)]),(492,[]),0),
  (77,([(0,.inr (.inl [48])),(1,.inl (((-2147483648),2147483647,1),none)),(2,.inl ((1,6,1),none)),(3,.inl ((0,2,1),none)),(4,.inl (((-2147483648),2147483647,1),none))],[],[((48,3),(1,6,1),none),((48,4),(0,2,1),none)]),(533,[]),0),
  (77,([(0,.inr (.inl [38])),(1,.inl (((-2147483648),2147483647,1),none)),(2,.inl ((1,6,1),none)),(3,.inl ((0,2,1),none)),(4,.inl (((-2147483648),2147483647,1),none))],[],[((38,3),(1,6,1),none),((38,4),(0,2,1),none)]),(328,[]),0),
  (77,([(0,.inr (.inl [30])),(1,.inl (((-2147483648),2147483647,1),none)),(2,.inl ((1,6,1),none)),(3,.inl ((0,2,1),none)),(4,.inl (((-2147483648),2147483647,1),none))],[],[((30,3),(1,6,1),none),((30,4),(0,2,1),none)]),(164,[]),0),
  (77,([(0,.inr (.inl [28])),(1,.inl (((-2147483648),2147483647,1),none)),(2,.inl ((1,6,1),none)),(3,.inl ((0,2,1),none)),(4,.inl (((-2147483648),2147483647,1),none))],[],[((28,3),(1,6,1),none),((28,4),(0,2,1),none)]),(123,[]),0),
  (77,([(0,.inr (.inl [36])),(1,.inl (((-2147483648),2147483647,1),none)),(2,.inl ((1,6,1),none)),(3,.inl ((0,2,1),none)),(4,.inl (((-2147483648),2147483647,1),none))],[],[((36,3),(1,6,1),none),((36,4),(0,2,1),none)]),(287,[]),0)]
set_option maxRecDepth 100000 in
theorem q167_ok : rf_chkB q167_P q167_U wLay q167_M ddX3_fill [(53,[0]),(61,[1,2,3,4,5,6,7,8,9,10,11,12,13,14]),(74,[15,16,17,18,19,20,21,22,23,24,25,26,27,28])] [] [0,25,77] 600 q167_N = true := by decide +kernel
set_option maxHeartbeats 4000000 in
theorem q167_met {G : rfG} (h : okG G) : rf_met G q167_M := rf_methodB h.1 (P := q167_P) (U := q167_U) (N := q167_N) ⟨wflT h flokX3, wcsT h csokX3, wlcT h lcokX3, spokX3 h, List.forall_mem_cons.mpr ⟨q113_met h, List.forall_mem_cons.mpr ⟨q114_met h, List.forall_mem_cons.mpr ⟨q115_met h, List.forall_mem_cons.mpr ⟨q116_met h, List.forall_mem_cons.mpr ⟨q117_met h, List.forall_mem_cons.mpr ⟨q118_met h, List.forall_mem_cons.mpr ⟨q119_met h, List.forall_mem_cons.mpr ⟨q120_met h, List.forall_mem_cons.mpr ⟨q121_met h, List.forall_mem_cons.mpr ⟨q122_met h, List.forall_mem_cons.mpr ⟨q123_met h, List.forall_mem_cons.mpr ⟨q124_met h, List.forall_mem_cons.mpr ⟨q125_met h, List.forall_mem_cons.mpr ⟨q126_met h, List.forall_mem_cons.mpr ⟨q127_met h, List.forall_mem_cons.mpr ⟨q140_met h, List.forall_mem_cons.mpr ⟨q142_met h, List.forall_mem_cons.mpr ⟨q144_met h, List.forall_mem_cons.mpr ⟨q146_met h, List.forall_mem_cons.mpr ⟨q148_met h, List.forall_mem_cons.mpr ⟨q150_met h, List.forall_mem_cons.mpr ⟨q152_met h, List.forall_mem_cons.mpr ⟨q154_met h, List.forall_mem_cons.mpr ⟨q156_met h, List.forall_mem_cons.mpr ⟨q158_met h, List.forall_mem_cons.mpr ⟨q160_met h, List.forall_mem_cons.mpr ⟨q162_met h, List.forall_mem_cons.mpr ⟨q164_met h, List.forall_mem_cons.mpr ⟨q166_met h, fun _ h => absurd h List.not_mem_nil⟩⟩⟩⟩⟩⟩⟩⟩⟩⟩⟩⟩⟩⟩⟩⟩⟩⟩⟩⟩⟩⟩⟩⟩⟩⟩⟩⟩⟩, List.forall_mem_cons.mpr ⟨fun M hM => Option.some.inj (show some q113_M = some M from hM) ▸ wlkS (lkX3_28 h) q113_M rfl rfl, fun _ h => absurd h List.not_mem_nil⟩, List.forall_mem_cons.mpr ⟨fun M hM => Option.some.inj (show some q114_M = some M from hM) ▸ wlkV (lkX3_32 h) q114_M rfl rfl, List.forall_mem_cons.mpr ⟨fun M hM => Option.some.inj (show some q115_M = some M from hM) ▸ wlkV (lkX3_32 h) q115_M rfl rfl, List.forall_mem_cons.mpr ⟨fun M hM => Option.some.inj (show some q116_M = some M from hM) ▸ wlkV (lkX3_32 h) q116_M rfl rfl, List.forall_mem_cons.mpr ⟨fun M hM => Option.some.inj (show some q117_M = some M from hM) ▸ wlkV (lkX3_32 h) q117_M rfl rfl, List.forall_mem_cons.mpr ⟨fun M hM => Option.some.inj (show some q118_M = some M from hM) ▸ wlkV (lkX3_32 h) q118_M rfl rfl, List.forall_mem_cons.mpr ⟨fun M hM => Option.some.inj (show some q119_M = some M from hM) ▸ wlkV (lkX3_32 h) q119_M rfl rfl, List.forall_mem_cons.mpr ⟨fun M hM => Option.some.inj (show some q120_M = some M from hM) ▸ wlkV (lkX3_32 h) q120_M rfl rfl, List.forall_mem_cons.mpr ⟨fun M hM => Option.some.inj (show some q121_M = some M from hM) ▸ wlkV (lkX3_32 h) q121_M rfl rfl, List.forall_mem_cons.mpr ⟨fun M hM => Option.some.inj (show some q122_M = some M from hM) ▸ wlkV (lkX3_32 h) q122_M rfl rfl, List.forall_mem_cons.mpr ⟨fun M hM => Option.some.inj (show some q123_M = some M from hM) ▸ wlkV (lkX3_32 h) q123_M rfl rfl, List.forall_mem_cons.mpr ⟨fun M hM => Option.some.inj (show some q124_M = some M from hM) ▸ wlkV (lkX3_32 h) q124_M rfl rfl, List.forall_mem_cons.mpr ⟨fun M hM => Option.some.inj (show some q125_M = some M from hM) ▸ wlkV (lkX3_32 h) q125_M rfl rfl, List.forall_mem_cons.mpr ⟨fun M hM => Option.some.inj (show some q126_M = some M from hM) ▸ wlkV (lkX3_32 h) q126_M rfl rfl, List.forall_mem_cons.mpr ⟨fun M hM => Option.some.inj (show some q127_M = some M from hM) ▸ wlkV (lkX3_32 h) q127_M rfl rfl, List.forall_mem_cons.mpr ⟨fun M hM => Option.some.inj (show some q140_M = some M from hM) ▸ wlkV (lkX3_36 h) q140_M rfl rfl, List.forall_mem_cons.mpr ⟨fun M hM => Option.some.inj (show some q142_M = some M from hM) ▸ wlkV (lkX3_36 h) q142_M rfl rfl, List.forall_mem_cons.mpr ⟨fun M hM => Option.some.inj (show some q144_M = some M from hM) ▸ wlkV (lkX3_36 h) q144_M rfl rfl, List.forall_mem_cons.mpr ⟨fun M hM => Option.some.inj (show some q146_M = some M from hM) ▸ wlkV (lkX3_36 h) q146_M rfl rfl, List.forall_mem_cons.mpr ⟨fun M hM => Option.some.inj (show some q148_M = some M from hM) ▸ wlkV (lkX3_36 h) q148_M rfl rfl, List.forall_mem_cons.mpr ⟨fun M hM => Option.some.inj (show some q150_M = some M from hM) ▸ wlkV (lkX3_36 h) q150_M rfl rfl, List.forall_mem_cons.mpr ⟨fun M hM => Option.some.inj (show some q152_M = some M from hM) ▸ wlkV (lkX3_36 h) q152_M rfl rfl, List.forall_mem_cons.mpr ⟨fun M hM => Option.some.inj (show some q154_M = some M from hM) ▸ wlkV (lkX3_36 h) q154_M rfl rfl, List.forall_mem_cons.mpr ⟨fun M hM => Option.some.inj (show some q156_M = some M from hM) ▸ wlkV (lkX3_36 h) q156_M rfl rfl, List.forall_mem_cons.mpr ⟨fun M hM => Option.some.inj (show some q158_M = some M from hM) ▸ wlkV (lkX3_36 h) q158_M rfl rfl, List.forall_mem_cons.mpr ⟨fun M hM => Option.some.inj (show some q160_M = some M from hM) ▸ wlkV (lkX3_36 h) q160_M rfl rfl, List.forall_mem_cons.mpr ⟨fun M hM => Option.some.inj (show some q162_M = some M from hM) ▸ wlkV (lkX3_36 h) q162_M rfl rfl, List.forall_mem_cons.mpr ⟨fun M hM => Option.some.inj (show some q164_M = some M from hM) ▸ wlkV (lkX3_36 h) q164_M rfl rfl, List.forall_mem_cons.mpr ⟨fun M hM => Option.some.inj (show some q166_M = some M from hM) ▸ wlkV (lkX3_36 h) q166_M rfl rfl, fun _ h => absurd h List.not_mem_nil⟩⟩⟩⟩⟩⟩⟩⟩⟩⟩⟩⟩⟩⟩⟩⟩⟩⟩⟩⟩⟩⟩⟩⟩⟩⟩⟩⟩, fun _ h => absurd h List.not_mem_nil, fun _ h => absurd h List.not_mem_nil⟩ dkX3_fill (by decide +kernel) (by rw [h.2.2.1]; exact q167_ok)
/-- NearSpell.Laid.formsOf -/
def q168_M : rfM := ((⟨"NearSpell$Laid", "formsOf", "(I)LNearSpell$FormList;"⟩, prog_6_method_3_code, 2, (some (.object "NearSpell$FormList"))), (3,72), ([.inr (.inl [53]),.inl ((0,13,1),none)],[]), [(21,0),(22,2),(22,3),(22,4),(22,5),(23,0),(24,2),(24,3),(24,4),(24,5),(25,0),(26,2),(26,3),(26,4),(26,5),(27,0),(28,2),(28,3),(28,4),(28,5),(29,0),(30,2),(30,3),(30,4),(30,5),(31,0),(32,2),(32,3),(32,4),(32,5),(33,0),(34,2),(34,3),(34,4),(34,5),(35,0),(36,2),(36,3),(36,4),(36,5),(37,0),(38,2),(38,3),(38,4),(38,5),(39,0),(40,2),(40,3),(40,4),(40,5),(41,0),(42,2),(42,3),(42,4),(42,5),(43,0),(44,2),(44,3),(44,4),(44,5),(45,0),(46,2),(46,3),(46,4),(46,5),(47,0),(48,2),(48,3),(48,4),(48,5)], [(some (.inr (.inl [22,24,26,28,30,32,34,36,38,40,42,44,46,48])),[],[])])
def ddX4_formsOf : List (Nat × Instr × Nat) := [(0,.iload_n 1,1),(1,.ifCond .lt 9,3),(4,.iload_n 1,1),(5,.bipush 14,2),(7,.if_icmp .lt 9,3),(10,.aload_n 0,1),(11,.iconst 0,1),(12,.invokevirtual 47,3),(15,.areturn,1),(16,.aload_n 0,1),(17,.getfield 21,3),(20,.iload_n 1,1),(21,.aaload,1),(22,.aload_n 0,1),(23,.getfield 15,3),(26,.iload_n 1,1),(27,.invokevirtual 51,3),(30,.aload_n 0,1),(31,.getfield 9,3),(34,.getfield 34,3),(37,.aload_n 0,1),(38,.getfield 9,3),(41,.getfield 40,3),(44,.invokevirtual 43,3),(47,.aload_n 0,1),(48,.getfield 21,3),(51,.iload_n 1,1),(52,.aaload,1),(53,.areturn,1)]
set_option maxRecDepth 100000 in
theorem dkX4_formsOf : rf_decs prog_6_method_3_code ddX4_formsOf := rf_decs_of (by decide +kernel)
def q168_P : rfP := (flX4,csX4,lcX4,spX4,[q110_M,q167_M],[],[(43,1,3),(51,0,8)],([],[]))
def q168_U : rfU := []
set_option maxHeartbeats 8000000 in
def q168_N : List rfB := [(0,([(0,.inr (.inl [53])),(1,.inl ((0,13,1),none))],[],[]),(24,[]),0)]
set_option maxRecDepth 100000 in
theorem q168_ok : rf_chkB q168_P q168_U wLay q168_M ddX4_formsOf [(27,[0]),(44,[1])] [] [0] 600 q168_N = true := by decide +kernel
set_option maxHeartbeats 4000000 in
theorem q168_met {G : rfG} (h : okG G) : rf_met G q168_M := rf_methodB h.1 (P := q168_P) (U := q168_U) (N := q168_N) ⟨wflT h flokX4, wcsT h csokX4, wlcT h lcokX4, spokX4 h, List.forall_mem_cons.mpr ⟨q110_met h, List.forall_mem_cons.mpr ⟨q167_met h, fun _ h => absurd h List.not_mem_nil⟩⟩, fun _ h => absurd h List.not_mem_nil, List.forall_mem_cons.mpr ⟨fun M hM => Option.some.inj (show some q167_M = some M from hM) ▸ wlkV (lkX4_43 h) q167_M rfl rfl, List.forall_mem_cons.mpr ⟨fun M hM => Option.some.inj (show some q110_M = some M from hM) ▸ wlkV (lkX4_51 h) q110_M rfl rfl, fun _ h => absurd h List.not_mem_nil⟩⟩, fun _ h => absurd h List.not_mem_nil, fun _ h => absurd h List.not_mem_nil⟩ dkX4_formsOf (by decide +kernel) (by rw [h.2.2.1]; exact q168_ok)
/-- NearSpell.entry -/
def q169_M : rfM := ((⟨"NearSpell", "entry", "(II)I"⟩, prog_1_method_6_code, 3, (some .int)), (4,93), ([.inr (.inl [70]),.inl (((-2147483648),2147483647,1),none),.inl (((-2147483648),2147483647,1),none)],[]), [(21,0),(22,2),(22,3),(22,4),(22,5),(23,0),(24,2),(24,3),(24,4),(24,5),(25,0),(26,2),(26,3),(26,4),(26,5),(27,0),(28,2),(28,3),(28,4),(28,5),(29,0),(30,2),(30,3),(30,4),(30,5),(31,0),(32,2),(32,3),(32,4),(32,5),(33,0),(34,2),(34,3),(34,4),(34,5),(35,0),(36,2),(36,3),(36,4),(36,5),(37,0),(38,2),(38,3),(38,4),(38,5),(39,0),(40,2),(40,3),(40,4),(40,5),(41,0),(42,2),(42,3),(42,4),(42,5),(43,0),(44,2),(44,3),(44,4),(44,5),(45,0),(46,2),(46,3),(46,4),(46,5),(47,0),(48,2),(48,3),(48,4),(48,5)], [(some (.inl (((-2147483648),2147483647,1),none)),[],[])])
def ddX11_entry : List (Nat × Instr × Nat) := [(0,.aload_n 0,1),(1,.getfield 35,3),(4,.iload_n 1,1),(5,.invokevirtual 141,3),(8,.ifCond .ne 5,3),(11,.iconst (-1),1),(12,.ireturn,1),(13,.iload_n 2,1),(14,.tableswitch 72 0 3 #[30, 39, 51, 60],30),(44,.aload_n 0,1),(45,.getfield 35,3),(48,.iload_n 1,1),(49,.invokevirtual 144,3),(52,.ireturn,1),(53,.aload_n 0,1),(54,.getfield 35,3),(57,.iload_n 1,1),(58,.invokevirtual 144,3),(61,.invokestatic 148,3),(64,.ireturn,1),(65,.aload_n 0,1),(66,.getfield 35,3),(69,.iload_n 1,1),(70,.invokevirtual 151,3),(73,.ireturn,1),(74,.aload_n 0,1),(75,.getfield 58,3),(78,.iload_n 1,1),(79,.invokevirtual 154,3),(82,.getfield 158,3),(85,.ireturn,1),(86,.iconst (-1),1),(87,.ireturn,1)]
set_option maxRecDepth 100000 in
theorem dkX11_entry : rf_decs prog_1_method_6_code ddX11_entry := rf_decs_of (by decide +kernel)
def q169_P : rfP := (flX11,csX11,lcX11,spX11,[q109_M,q110_M,q111_M,q112_M,q168_M],[(148,2)],[(141,0,8),(144,1,8),(151,3,8),(154,4,4)],([],[]))
def q169_U : rfU := []
set_option maxHeartbeats 8000000 in
def q169_N : List rfB := [(0,([(0,.inr (.inl [70])),(1,.inl (((-2147483648),2147483647,1),none)),(2,.inl (((-2147483648),2147483647,1),none))],[],[]),(33,[]),0)]
set_option maxRecDepth 100000 in
theorem q169_ok : rf_chkB q169_P q169_U wLay q169_M ddX11_entry [(5,[0]),(49,[1]),(58,[1]),(61,[2]),(70,[3]),(79,[4])] [] [0] 600 q169_N = true := by decide +kernel
set_option maxHeartbeats 4000000 in
theorem q169_met {G : rfG} (h : okG G) : rf_met G q169_M := rf_methodB h.1 (P := q169_P) (U := q169_U) (N := q169_N) ⟨wflT h flokX11, wcsT h csokX11, wlcT h lcokX11, spokX11 h, List.forall_mem_cons.mpr ⟨q109_met h, List.forall_mem_cons.mpr ⟨q110_met h, List.forall_mem_cons.mpr ⟨q111_met h, List.forall_mem_cons.mpr ⟨q112_met h, List.forall_mem_cons.mpr ⟨q168_met h, fun _ h => absurd h List.not_mem_nil⟩⟩⟩⟩⟩, List.forall_mem_cons.mpr ⟨fun M hM => Option.some.inj (show some q111_M = some M from hM) ▸ wlkS (lkX11_148 h) q111_M rfl rfl, fun _ h => absurd h List.not_mem_nil⟩, List.forall_mem_cons.mpr ⟨fun M hM => Option.some.inj (show some q109_M = some M from hM) ▸ wlkV (lkX11_141 h) q109_M rfl rfl, List.forall_mem_cons.mpr ⟨fun M hM => Option.some.inj (show some q110_M = some M from hM) ▸ wlkV (lkX11_144 h) q110_M rfl rfl, List.forall_mem_cons.mpr ⟨fun M hM => Option.some.inj (show some q112_M = some M from hM) ▸ wlkV (lkX11_151 h) q112_M rfl rfl, List.forall_mem_cons.mpr ⟨fun M hM => Option.some.inj (show some q168_M = some M from hM) ▸ wlkV (lkX11_154 h) q168_M rfl rfl, fun _ h => absurd h List.not_mem_nil⟩⟩⟩⟩, fun _ h => absurd h List.not_mem_nil, fun _ h => absurd h List.not_mem_nil⟩ dkX11_entry (by decide +kernel) (by rw [h.2.2.1]; exact q169_ok)
/-- NearSpell.canBe -/
def q170_M : rfM := ((⟨"NearSpell", "canBe", "(I)Z"⟩, prog_1_method_52_code, 3, (some .boolean)), (0,0), ([.inl (((-2147483648),2147483647,1),none)],[]), [], [(some (.inl ((0,0,0),none)),[],[]),(some (.inl ((1,1,0),none)),[(0,0,387420488)],[])])
def ddX11_canBe : List (Nat × Instr × Nat) := [(0,.iload_n 0,1),(1,.ifCond .lt 13,3),(4,.iload_n 0,1),(5,.getstatic 360,3),(8,.bipush 6,2),(10,.iaload,1),(11,.if_icmp .lt 5,3),(14,.iconst 0,1),(15,.ireturn,1),(16,.iload_n 0,1),(17,.istore_n 1,1),(18,.iconst 0,1),(19,.istore_n 2,1),(20,.iload_n 2,1),(21,.bipush 6,2),(23,.if_icmp .ge 27,3),(26,.iload_n 1,1),(27,.ifCond .eq 23,3),(30,.iload_n 1,1),(31,.bipush 27,2),(33,.irem,1),(34,.ifCond .ne 5,3),(37,.iconst 0,1),(38,.ireturn,1),(39,.iload_n 1,1),(40,.bipush 27,2),(42,.idiv,1),(43,.istore_n 1,1),(44,.iinc 2 1,3),(47,.goto (-27),3),(50,.iconst 1,1),(51,.ireturn,1)]
set_option maxRecDepth 100000 in
theorem dkX11_canBe : rf_decs prog_1_method_52_code ddX11_canBe := rf_decs_of (by decide +kernel)
def q170_P : rfP := (flX11,csX11,lcX11,spX11,[],[],[],([],[]))
def q170_U : rfU := []
set_option maxHeartbeats 8000000 in
def q170_N : List rfB := [(0,([(0,.inl (((-2147483648),2147483647,1),none))],[],[]),(6198727840,[0]),0),
  (14,([(0,.inl (((-2147483648),2147483647,1),none))],[],[]),(1,[0]),0),
  (20,([(0,.inl ((0,387420488,1),none)),(1,.inl ((0,387420488,1),none)),(2,.inl ((0,6,1),none))],[],[]),(18,[16]),0),
  (50,([(0,.inl ((0,387420488,1),none)),(1,.inl ((0,387420488,1),none)),(2,.inl ((0,6,1),none))],[],[]),(3,[0]),0)]
set_option maxRecDepth 100000 in
theorem q170_ok : rf_chkB q170_P q170_U wLay q170_M ddX11_canBe [] [.inl 1] [0,14,20,50] 600 q170_N = true := by decide +kernel
set_option maxHeartbeats 4000000 in
theorem q170_met {G : rfG} (h : okG G) : rf_met G q170_M := rf_methodB h.1 (P := q170_P) (U := q170_U) (N := q170_N) ⟨wflT h flokX11, wcsT h csokX11, wlcT h lcokX11, spokX11 h, fun _ h => absurd h List.not_mem_nil, fun _ h => absurd h List.not_mem_nil, fun _ h => absurd h List.not_mem_nil, fun _ h => absurd h List.not_mem_nil, fun _ h => absurd h List.not_mem_nil⟩ dkX11_canBe (by decide +kernel) (by rw [h.2.2.1]; exact q170_ok)
/-- NearSpell.State.isEntry -/
def q171_M : rfM := ((⟨"NearSpell$State", "isEntry", "(I)Z"⟩, prog_10_method_6_code, 2, (some .boolean)), (0,0), ([.inr (.inl [13]),.inl ((0,0,0),none)],[]), [], [(some (.inl ((1,1,0),none)),[],[((12,34),(1,14,1),none)]),(some (.inl ((0,0,0),none)),[],[])])
def q171_P : rfP := (flX8,csX8,lcX8,spX8,[],[],[],([],[]))
def q171_U : rfU := []
set_option maxHeartbeats 8000000 in
def q171_N : List rfB := [(0,([(0,.inr (.inl [13])),(1,.inl ((0,0,0),none))],[],[]),(20,[]),0),
  (32,([(0,.inr (.inl [13])),(1,.inl ((0,0,0),none))],[],[]),(1,[]),0)]
set_option maxRecDepth 100000 in
theorem q171_ok : rf_chkB q171_P q171_U wLay q171_M ddX8_isEntry [] [] [0,32] 600 q171_N = true := by decide +kernel
set_option maxHeartbeats 4000000 in
theorem q171_met {G : rfG} (h : okG G) : rf_met G q171_M := rf_methodB h.1 (P := q171_P) (U := q171_U) (N := q171_N) ⟨wflT h flokX8, wcsT h csokX8, wlcT h lcokX8, spokX8 h, fun _ h => absurd h List.not_mem_nil, fun _ h => absurd h List.not_mem_nil, fun _ h => absurd h List.not_mem_nil, fun _ h => absurd h List.not_mem_nil, fun _ h => absurd h List.not_mem_nil⟩ dkX8_isEntry (by decide +kernel) (by rw [h.2.2.1]; exact q171_ok)
/-- NearSpell.State.spellingOf -/
def q172_M : rfM := ((⟨"NearSpell$State", "spellingOf", "(I)I"⟩, prog_10_method_7_code, 2, (some .int)), (0,0), ([.inr (.inl [13]),.inl ((0,0,0),none)],[]), [], [(some (.inl (((-2147483648),2147483647,1),none)),[],[])])
def q172_P : rfP := (flX8,csX8,lcX8,spX8,[],[],[],([],[]))
def q172_U : rfU := []
set_option maxHeartbeats 8000000 in
def q172_N : List rfB := [(0,([(0,.inr (.inl [13])),(1,.inl ((0,0,0),none))],[],[]),(12,[]),0)]
set_option maxRecDepth 100000 in
theorem q172_ok : rf_chkB q172_P q172_U wLay q172_M ddX8_spellingOf [] [] [0] 600 q172_N = true := by decide +kernel
set_option maxHeartbeats 4000000 in
theorem q172_met {G : rfG} (h : okG G) : rf_met G q172_M := rf_methodB h.1 (P := q172_P) (U := q172_U) (N := q172_N) ⟨wflT h flokX8, wcsT h csokX8, wlcT h lcokX8, spokX8 h, fun _ h => absurd h List.not_mem_nil, fun _ h => absurd h List.not_mem_nil, fun _ h => absurd h List.not_mem_nil, fun _ h => absurd h List.not_mem_nil, fun _ h => absurd h List.not_mem_nil⟩ dkX8_spellingOf (by decide +kernel) (by rw [h.2.2.1]; exact q172_ok)
/-- NearSpell.State.isEntry -/
def q173_M : rfM := ((⟨"NearSpell$State", "isEntry", "(I)Z"⟩, prog_10_method_6_code, 2, (some .boolean)), (0,0), ([.inr (.inl [13]),.inl ((0,1,1),none)],[]), [], [(some (.inl ((1,1,0),none)),[],[((12,34),(1,14,1),none)]),(some (.inl ((0,0,0),none)),[],[])])
def q173_P : rfP := (flX8,csX8,lcX8,spX8,[],[],[],([],[]))
def q173_U : rfU := []
set_option maxHeartbeats 8000000 in
def q173_N : List rfB := [(0,([(0,.inr (.inl [13])),(1,.inl ((0,1,1),none))],[],[]),(20,[]),0),
  (32,([(0,.inr (.inl [13])),(1,.inl ((0,1,1),none))],[],[]),(1,[]),0)]
set_option maxRecDepth 100000 in
theorem q173_ok : rf_chkB q173_P q173_U wLay q173_M ddX8_isEntry [] [] [0,32] 600 q173_N = true := by decide +kernel
set_option maxHeartbeats 4000000 in
theorem q173_met {G : rfG} (h : okG G) : rf_met G q173_M := rf_methodB h.1 (P := q173_P) (U := q173_U) (N := q173_N) ⟨wflT h flokX8, wcsT h csokX8, wlcT h lcokX8, spokX8 h, fun _ h => absurd h List.not_mem_nil, fun _ h => absurd h List.not_mem_nil, fun _ h => absurd h List.not_mem_nil, fun _ h => absurd h List.not_mem_nil, fun _ h => absurd h List.not_mem_nil⟩ dkX8_isEntry (by decide +kernel) (by rw [h.2.2.1]; exact q173_ok)
/-- NearSpell.State.spellingOf -/
def q174_M : rfM := ((⟨"NearSpell$State", "spellingOf", "(I)I"⟩, prog_10_method_7_code, 2, (some .int)), (0,0), ([.inr (.inl [13]),.inl ((0,1,1),none)],[]), [], [(some (.inl (((-2147483648),2147483647,1),none)),[],[])])
def q174_P : rfP := (flX8,csX8,lcX8,spX8,[],[],[],([],[]))
def q174_U : rfU := []
set_option maxHeartbeats 8000000 in
def q174_N : List rfB := [(0,([(0,.inr (.inl [13])),(1,.inl ((0,1,1),none))],[],[]),(12,[]),0)]
set_option maxRecDepth 100000 in
theorem q174_ok : rf_chkB q174_P q174_U wLay q174_M ddX8_spellingOf [] [] [0] 600 q174_N = true := by decide +kernel
set_option maxHeartbeats 4000000 in
theorem q174_met {G : rfG} (h : okG G) : rf_met G q174_M := rf_methodB h.1 (P := q174_P) (U := q174_U) (N := q174_N) ⟨wflT h flokX8, wcsT h csokX8, wlcT h lcokX8, spokX8 h, fun _ h => absurd h List.not_mem_nil, fun _ h => absurd h List.not_mem_nil, fun _ h => absurd h List.not_mem_nil, fun _ h => absurd h List.not_mem_nil, fun _ h => absurd h List.not_mem_nil⟩ dkX8_spellingOf (by decide +kernel) (by rw [h.2.2.1]; exact q174_ok)
/-- NearSpell.State.isEntry -/
def q175_M : rfM := ((⟨"NearSpell$State", "isEntry", "(I)Z"⟩, prog_10_method_6_code, 2, (some .boolean)), (0,0), ([.inr (.inl [13]),.inl ((0,2,1),none)],[]), [], [(some (.inl ((1,1,0),none)),[],[((12,34),(1,14,1),none)]),(some (.inl ((0,0,0),none)),[],[])])
def q175_P : rfP := (flX8,csX8,lcX8,spX8,[],[],[],([],[]))
def q175_U : rfU := []
set_option maxHeartbeats 8000000 in
def q175_N : List rfB := [(0,([(0,.inr (.inl [13])),(1,.inl ((0,2,1),none))],[],[]),(20,[]),0),
  (32,([(0,.inr (.inl [13])),(1,.inl ((0,2,1),none))],[],[]),(1,[]),0)]
set_option maxRecDepth 100000 in
theorem q175_ok : rf_chkB q175_P q175_U wLay q175_M ddX8_isEntry [] [] [0,32] 600 q175_N = true := by decide +kernel
set_option maxHeartbeats 4000000 in
theorem q175_met {G : rfG} (h : okG G) : rf_met G q175_M := rf_methodB h.1 (P := q175_P) (U := q175_U) (N := q175_N) ⟨wflT h flokX8, wcsT h csokX8, wlcT h lcokX8, spokX8 h, fun _ h => absurd h List.not_mem_nil, fun _ h => absurd h List.not_mem_nil, fun _ h => absurd h List.not_mem_nil, fun _ h => absurd h List.not_mem_nil, fun _ h => absurd h List.not_mem_nil⟩ dkX8_isEntry (by decide +kernel) (by rw [h.2.2.1]; exact q175_ok)
/-- NearSpell.State.spellingOf -/
def q176_M : rfM := ((⟨"NearSpell$State", "spellingOf", "(I)I"⟩, prog_10_method_7_code, 2, (some .int)), (0,0), ([.inr (.inl [13]),.inl ((0,2,1),none)],[]), [], [(some (.inl (((-2147483648),2147483647,1),none)),[],[])])
def q176_P : rfP := (flX8,csX8,lcX8,spX8,[],[],[],([],[]))
def q176_U : rfU := []
set_option maxHeartbeats 8000000 in
def q176_N : List rfB := [(0,([(0,.inr (.inl [13])),(1,.inl ((0,2,1),none))],[],[]),(12,[]),0)]
set_option maxRecDepth 100000 in
theorem q176_ok : rf_chkB q176_P q176_U wLay q176_M ddX8_spellingOf [] [] [0] 600 q176_N = true := by decide +kernel
set_option maxHeartbeats 4000000 in
theorem q176_met {G : rfG} (h : okG G) : rf_met G q176_M := rf_methodB h.1 (P := q176_P) (U := q176_U) (N := q176_N) ⟨wflT h flokX8, wcsT h csokX8, wlcT h lcokX8, spokX8 h, fun _ h => absurd h List.not_mem_nil, fun _ h => absurd h List.not_mem_nil, fun _ h => absurd h List.not_mem_nil, fun _ h => absurd h List.not_mem_nil, fun _ h => absurd h List.not_mem_nil⟩ dkX8_spellingOf (by decide +kernel) (by rw [h.2.2.1]; exact q176_ok)
/-- NearSpell.State.isEntry -/
def q177_M : rfM := ((⟨"NearSpell$State", "isEntry", "(I)Z"⟩, prog_10_method_6_code, 2, (some .boolean)), (0,0), ([.inr (.inl [13]),.inl ((0,3,1),none)],[]), [], [(some (.inl ((1,1,0),none)),[],[((12,34),(1,14,1),none)]),(some (.inl ((0,0,0),none)),[],[])])
def q177_P : rfP := (flX8,csX8,lcX8,spX8,[],[],[],([],[]))
def q177_U : rfU := []
set_option maxHeartbeats 8000000 in
def q177_N : List rfB := [(0,([(0,.inr (.inl [13])),(1,.inl ((0,3,1),none))],[],[]),(20,[]),0),
  (32,([(0,.inr (.inl [13])),(1,.inl ((0,3,1),none))],[],[]),(1,[]),0)]
set_option maxRecDepth 100000 in
theorem q177_ok : rf_chkB q177_P q177_U wLay q177_M ddX8_isEntry [] [] [0,32] 600 q177_N = true := by decide +kernel
set_option maxHeartbeats 4000000 in
theorem q177_met {G : rfG} (h : okG G) : rf_met G q177_M := rf_methodB h.1 (P := q177_P) (U := q177_U) (N := q177_N) ⟨wflT h flokX8, wcsT h csokX8, wlcT h lcokX8, spokX8 h, fun _ h => absurd h List.not_mem_nil, fun _ h => absurd h List.not_mem_nil, fun _ h => absurd h List.not_mem_nil, fun _ h => absurd h List.not_mem_nil, fun _ h => absurd h List.not_mem_nil⟩ dkX8_isEntry (by decide +kernel) (by rw [h.2.2.1]; exact q177_ok)
/-- NearSpell.State.spellingOf -/
def q178_M : rfM := ((⟨"NearSpell$State", "spellingOf", "(I)I"⟩, prog_10_method_7_code, 2, (some .int)), (0,0), ([.inr (.inl [13]),.inl ((0,3,1),none)],[]), [], [(some (.inl (((-2147483648),2147483647,1),none)),[],[])])
def q178_P : rfP := (flX8,csX8,lcX8,spX8,[],[],[],([],[]))
def q178_U : rfU := []
set_option maxHeartbeats 8000000 in
def q178_N : List rfB := [(0,([(0,.inr (.inl [13])),(1,.inl ((0,3,1),none))],[],[]),(12,[]),0)]
set_option maxRecDepth 100000 in
theorem q178_ok : rf_chkB q178_P q178_U wLay q178_M ddX8_spellingOf [] [] [0] 600 q178_N = true := by decide +kernel
set_option maxHeartbeats 4000000 in
theorem q178_met {G : rfG} (h : okG G) : rf_met G q178_M := rf_methodB h.1 (P := q178_P) (U := q178_U) (N := q178_N) ⟨wflT h flokX8, wcsT h csokX8, wlcT h lcokX8, spokX8 h, fun _ h => absurd h List.not_mem_nil, fun _ h => absurd h List.not_mem_nil, fun _ h => absurd h List.not_mem_nil, fun _ h => absurd h List.not_mem_nil, fun _ h => absurd h List.not_mem_nil⟩ dkX8_spellingOf (by decide +kernel) (by rw [h.2.2.1]; exact q178_ok)
/-- NearSpell.State.isEntry -/
def q179_M : rfM := ((⟨"NearSpell$State", "isEntry", "(I)Z"⟩, prog_10_method_6_code, 2, (some .boolean)), (0,0), ([.inr (.inl [13]),.inl ((0,6,1),none)],[]), [], [(some (.inl ((1,1,0),none)),[],[((12,34),(1,14,1),none)]),(some (.inl ((0,0,0),none)),[],[])])
def q179_P : rfP := (flX8,csX8,lcX8,spX8,[],[],[],([],[]))
def q179_U : rfU := []
set_option maxHeartbeats 8000000 in
def q179_N : List rfB := [(0,([(0,.inr (.inl [13])),(1,.inl ((0,6,1),none))],[],[]),(20,[]),0),
  (32,([(0,.inr (.inl [13])),(1,.inl ((0,6,1),none))],[],[]),(1,[]),0)]
set_option maxRecDepth 100000 in
theorem q179_ok : rf_chkB q179_P q179_U wLay q179_M ddX8_isEntry [] [] [0,32] 600 q179_N = true := by decide +kernel
set_option maxHeartbeats 4000000 in
theorem q179_met {G : rfG} (h : okG G) : rf_met G q179_M := rf_methodB h.1 (P := q179_P) (U := q179_U) (N := q179_N) ⟨wflT h flokX8, wcsT h csokX8, wlcT h lcokX8, spokX8 h, fun _ h => absurd h List.not_mem_nil, fun _ h => absurd h List.not_mem_nil, fun _ h => absurd h List.not_mem_nil, fun _ h => absurd h List.not_mem_nil, fun _ h => absurd h List.not_mem_nil⟩ dkX8_isEntry (by decide +kernel) (by rw [h.2.2.1]; exact q179_ok)
/-- NearSpell.State.spellingOf -/
def q180_M : rfM := ((⟨"NearSpell$State", "spellingOf", "(I)I"⟩, prog_10_method_7_code, 2, (some .int)), (0,0), ([.inr (.inl [13]),.inl ((0,6,1),none)],[]), [], [(some (.inl (((-2147483648),2147483647,1),none)),[],[])])
def q180_P : rfP := (flX8,csX8,lcX8,spX8,[],[],[],([],[]))
def q180_U : rfU := []
set_option maxHeartbeats 8000000 in
def q180_N : List rfB := [(0,([(0,.inr (.inl [13])),(1,.inl ((0,6,1),none))],[],[]),(12,[]),0)]
set_option maxRecDepth 100000 in
theorem q180_ok : rf_chkB q180_P q180_U wLay q180_M ddX8_spellingOf [] [] [0] 600 q180_N = true := by decide +kernel
set_option maxHeartbeats 4000000 in
theorem q180_met {G : rfG} (h : okG G) : rf_met G q180_M := rf_methodB h.1 (P := q180_P) (U := q180_U) (N := q180_N) ⟨wflT h flokX8, wcsT h csokX8, wlcT h lcokX8, spokX8 h, fun _ h => absurd h List.not_mem_nil, fun _ h => absurd h List.not_mem_nil, fun _ h => absurd h List.not_mem_nil, fun _ h => absurd h List.not_mem_nil, fun _ h => absurd h List.not_mem_nil⟩ dkX8_spellingOf (by decide +kernel) (by rw [h.2.2.1]; exact q180_ok)
/-- NearSpell.State.isEntry -/
def q181_M : rfM := ((⟨"NearSpell$State", "isEntry", "(I)Z"⟩, prog_10_method_6_code, 2, (some .boolean)), (0,0), ([.inr (.inl [13]),.inl ((0,9,1),none)],[]), [], [(some (.inl ((1,1,0),none)),[],[((12,34),(1,14,1),none)]),(some (.inl ((0,0,0),none)),[],[])])
def q181_P : rfP := (flX8,csX8,lcX8,spX8,[],[],[],([],[]))
def q181_U : rfU := []
set_option maxHeartbeats 8000000 in
def q181_N : List rfB := [(0,([(0,.inr (.inl [13])),(1,.inl ((0,9,1),none))],[],[]),(20,[]),0),
  (32,([(0,.inr (.inl [13])),(1,.inl ((0,9,1),none))],[],[]),(1,[]),0)]
set_option maxRecDepth 100000 in
theorem q181_ok : rf_chkB q181_P q181_U wLay q181_M ddX8_isEntry [] [] [0,32] 600 q181_N = true := by decide +kernel
set_option maxHeartbeats 4000000 in
theorem q181_met {G : rfG} (h : okG G) : rf_met G q181_M := rf_methodB h.1 (P := q181_P) (U := q181_U) (N := q181_N) ⟨wflT h flokX8, wcsT h csokX8, wlcT h lcokX8, spokX8 h, fun _ h => absurd h List.not_mem_nil, fun _ h => absurd h List.not_mem_nil, fun _ h => absurd h List.not_mem_nil, fun _ h => absurd h List.not_mem_nil, fun _ h => absurd h List.not_mem_nil⟩ dkX8_isEntry (by decide +kernel) (by rw [h.2.2.1]; exact q181_ok)
/-- NearSpell.State.spellingOf -/
def q182_M : rfM := ((⟨"NearSpell$State", "spellingOf", "(I)I"⟩, prog_10_method_7_code, 2, (some .int)), (0,0), ([.inr (.inl [13]),.inl ((0,9,1),none)],[]), [], [(some (.inl (((-2147483648),2147483647,1),none)),[],[])])
def q182_P : rfP := (flX8,csX8,lcX8,spX8,[],[],[],([],[]))
def q182_U : rfU := []
set_option maxHeartbeats 8000000 in
def q182_N : List rfB := [(0,([(0,.inr (.inl [13])),(1,.inl ((0,9,1),none))],[],[]),(12,[]),0)]
set_option maxRecDepth 100000 in
theorem q182_ok : rf_chkB q182_P q182_U wLay q182_M ddX8_spellingOf [] [] [0] 600 q182_N = true := by decide +kernel
set_option maxHeartbeats 4000000 in
theorem q182_met {G : rfG} (h : okG G) : rf_met G q182_M := rf_methodB h.1 (P := q182_P) (U := q182_U) (N := q182_N) ⟨wflT h flokX8, wcsT h csokX8, wlcT h lcokX8, spokX8 h, fun _ h => absurd h List.not_mem_nil, fun _ h => absurd h List.not_mem_nil, fun _ h => absurd h List.not_mem_nil, fun _ h => absurd h List.not_mem_nil, fun _ h => absurd h List.not_mem_nil⟩ dkX8_spellingOf (by decide +kernel) (by rw [h.2.2.1]; exact q182_ok)
/-- NearSpell.State.isEntry -/
def q183_M : rfM := ((⟨"NearSpell$State", "isEntry", "(I)Z"⟩, prog_10_method_6_code, 2, (some .boolean)), (0,0), ([.inr (.inl [13]),.inl ((0,12,1),none)],[]), [], [(some (.inl ((1,1,0),none)),[],[((12,34),(1,14,1),none)]),(some (.inl ((0,0,0),none)),[],[])])
def q183_P : rfP := (flX8,csX8,lcX8,spX8,[],[],[],([],[]))
def q183_U : rfU := []
set_option maxHeartbeats 8000000 in
def q183_N : List rfB := [(0,([(0,.inr (.inl [13])),(1,.inl ((0,12,1),none))],[],[]),(20,[]),0),
  (32,([(0,.inr (.inl [13])),(1,.inl ((0,12,1),none))],[],[]),(1,[]),0)]
set_option maxRecDepth 100000 in
theorem q183_ok : rf_chkB q183_P q183_U wLay q183_M ddX8_isEntry [] [] [0,32] 600 q183_N = true := by decide +kernel
set_option maxHeartbeats 4000000 in
theorem q183_met {G : rfG} (h : okG G) : rf_met G q183_M := rf_methodB h.1 (P := q183_P) (U := q183_U) (N := q183_N) ⟨wflT h flokX8, wcsT h csokX8, wlcT h lcokX8, spokX8 h, fun _ h => absurd h List.not_mem_nil, fun _ h => absurd h List.not_mem_nil, fun _ h => absurd h List.not_mem_nil, fun _ h => absurd h List.not_mem_nil, fun _ h => absurd h List.not_mem_nil⟩ dkX8_isEntry (by decide +kernel) (by rw [h.2.2.1]; exact q183_ok)
/-- NearSpell.State.spellingOf -/
def q184_M : rfM := ((⟨"NearSpell$State", "spellingOf", "(I)I"⟩, prog_10_method_7_code, 2, (some .int)), (0,0), ([.inr (.inl [13]),.inl ((0,12,1),none)],[]), [], [(some (.inl (((-2147483648),2147483647,1),none)),[],[])])
def q184_P : rfP := (flX8,csX8,lcX8,spX8,[],[],[],([],[]))
def q184_U : rfU := []
set_option maxHeartbeats 8000000 in
def q184_N : List rfB := [(0,([(0,.inr (.inl [13])),(1,.inl ((0,12,1),none))],[],[]),(12,[]),0)]
set_option maxRecDepth 100000 in
theorem q184_ok : rf_chkB q184_P q184_U wLay q184_M ddX8_spellingOf [] [] [0] 600 q184_N = true := by decide +kernel
set_option maxHeartbeats 4000000 in
theorem q184_met {G : rfG} (h : okG G) : rf_met G q184_M := rf_methodB h.1 (P := q184_P) (U := q184_U) (N := q184_N) ⟨wflT h flokX8, wcsT h csokX8, wlcT h lcokX8, spokX8 h, fun _ h => absurd h List.not_mem_nil, fun _ h => absurd h List.not_mem_nil, fun _ h => absurd h List.not_mem_nil, fun _ h => absurd h List.not_mem_nil, fun _ h => absurd h List.not_mem_nil⟩ dkX8_spellingOf (by decide +kernel) (by rw [h.2.2.1]; exact q184_ok)
/-- NearSpell.State.isEntry -/
def q185_M : rfM := ((⟨"NearSpell$State", "isEntry", "(I)Z"⟩, prog_10_method_6_code, 2, (some .boolean)), (0,0), ([.inr (.inl [13]),.inl ((0,13,1),none)],[]), [], [(some (.inl ((1,1,0),none)),[],[((12,34),(1,14,1),none)]),(some (.inl ((0,0,0),none)),[],[])])
def q185_P : rfP := (flX8,csX8,lcX8,spX8,[],[],[],([],[]))
def q185_U : rfU := []
set_option maxHeartbeats 8000000 in
def q185_N : List rfB := [(0,([(0,.inr (.inl [13])),(1,.inl ((0,13,1),none))],[],[]),(20,[]),0),
  (32,([(0,.inr (.inl [13])),(1,.inl ((0,13,1),none))],[],[]),(1,[]),0)]
set_option maxRecDepth 100000 in
theorem q185_ok : rf_chkB q185_P q185_U wLay q185_M ddX8_isEntry [] [] [0,32] 600 q185_N = true := by decide +kernel
set_option maxHeartbeats 4000000 in
theorem q185_met {G : rfG} (h : okG G) : rf_met G q185_M := rf_methodB h.1 (P := q185_P) (U := q185_U) (N := q185_N) ⟨wflT h flokX8, wcsT h csokX8, wlcT h lcokX8, spokX8 h, fun _ h => absurd h List.not_mem_nil, fun _ h => absurd h List.not_mem_nil, fun _ h => absurd h List.not_mem_nil, fun _ h => absurd h List.not_mem_nil, fun _ h => absurd h List.not_mem_nil⟩ dkX8_isEntry (by decide +kernel) (by rw [h.2.2.1]; exact q185_ok)
/-- NearSpell.State.numberOf -/
def q186_M : rfM := ((⟨"NearSpell$State", "numberOf", "(I)I"⟩, prog_10_method_11_code, 3, (some .int)), (1,21), ([.inr (.inl [13]),.inl ((0,387420488,1),none)],[]), [], [(some (.inl (((-1),13,1),none)),[],[])])
def ddX8_numberOf : List (Nat × Instr × Nat) := [(0,.iconst 0,1),(1,.istore_n 2,1),(2,.iload_n 2,1),(3,.aload_n 0,1),(4,.getfield 11,3),(7,.bipush 34,2),(9,.iaload,1),(10,.if_icmp .ge 28,3),(13,.aload_n 0,1),(14,.iload_n 2,1),(15,.invokevirtual 34,3),(18,.ifCond .eq 14,3),(21,.aload_n 0,1),(22,.iload_n 2,1),(23,.invokevirtual 38,3),(26,.iload_n 1,1),(27,.if_icmp .ne 5,3),(30,.iload_n 2,1),(31,.ireturn,1),(32,.iinc 2 1,3),(35,.goto (-33),3),(38,.iconst (-1),1),(39,.ireturn,1)]
set_option maxRecDepth 100000 in
theorem dkX8_numberOf : rf_decs prog_10_method_11_code ddX8_numberOf := rf_decs_of (by decide +kernel)
def q186_P : rfP := (flX8,csX8,lcX8,spX8,[q185_M,q110_M],[],[(34,0,8),(38,1,8)],([],[]))
def q186_U : rfU := []
set_option maxHeartbeats 8000000 in
def q186_N : List rfB := [(0,([(0,.inr (.inl [13])),(1,.inl ((0,387420488,1),none))],[],[]),(290,[0]),0),
  (2,([(0,.inr (.inl [13])),(1,.inl ((0,387420488,1),none)),(2,.inl ((0,14,1),none))],[],[]),(286,[(-19)]),0),
  (32,([(0,.inr (.inl [13])),(1,.inl ((0,387420488,1),none)),(2,.inl ((0,13,1),none))],[],[((12,34),(1,14,1),none)]),(270,[(-19)]),0)]
set_option maxRecDepth 100000 in
theorem q186_ok : rf_chkB q186_P q186_U wLay q186_M ddX8_numberOf [(15,[0]),(23,[1])] [.inl 2] [0,2,32] 600 q186_N = true := by decide +kernel
set_option maxHeartbeats 4000000 in
theorem q186_met {G : rfG} (h : okG G) : rf_met G q186_M := rf_methodB h.1 (P := q186_P) (U := q186_U) (N := q186_N) ⟨wflT h flokX8, wcsT h csokX8, wlcT h lcokX8, spokX8 h, List.forall_mem_cons.mpr ⟨q185_met h, List.forall_mem_cons.mpr ⟨q110_met h, fun _ h => absurd h List.not_mem_nil⟩⟩, fun _ h => absurd h List.not_mem_nil, List.forall_mem_cons.mpr ⟨fun M hM => Option.some.inj (show some q185_M = some M from hM) ▸ wlkV (lkX8_34 h) q185_M rfl rfl, List.forall_mem_cons.mpr ⟨fun M hM => Option.some.inj (show some q110_M = some M from hM) ▸ wlkV (lkX8_38 h) q110_M rfl rfl, fun _ h => absurd h List.not_mem_nil⟩⟩, fun _ h => absurd h List.not_mem_nil, fun _ h => absurd h List.not_mem_nil⟩ dkX8_numberOf (by decide +kernel) (by rw [h.2.2.1]; exact q186_ok)
/-- NearSpell.State.given -/
def q187_M : rfM := ((⟨"NearSpell$State", "given", "()I"⟩, prog_10_method_3_code, 1, (some .int)), (0,0), ([.inr (.inl [13])],[]), [], [(some (.inl ((0,14,1),none)),[],[])])
def ddX8_given : List (Nat × Instr × Nat) := [(0,.aload_n 0,1),(1,.getfield 11,3),(4,.bipush 34,2),(6,.iaload,1),(7,.ireturn,1)]
set_option maxRecDepth 100000 in
theorem dkX8_given : rf_decs prog_10_method_3_code ddX8_given := rf_decs_of (by decide +kernel)
def q187_P : rfP := (flX8,csX8,lcX8,spX8,[],[],[],([],[]))
def q187_U : rfU := []
set_option maxHeartbeats 8000000 in
def q187_N : List rfB := [(0,([(0,.inr (.inl [13]))],[],[]),(4,[]),0)]
set_option maxRecDepth 100000 in
theorem q187_ok : rf_chkB q187_P q187_U wLay q187_M ddX8_given [] [] [0] 600 q187_N = true := by decide +kernel
set_option maxHeartbeats 4000000 in
theorem q187_met {G : rfG} (h : okG G) : rf_met G q187_M := rf_methodB h.1 (P := q187_P) (U := q187_U) (N := q187_N) ⟨wflT h flokX8, wcsT h csokX8, wlcT h lcokX8, spokX8 h, fun _ h => absurd h List.not_mem_nil, fun _ h => absurd h List.not_mem_nil, fun _ h => absurd h List.not_mem_nil, fun _ h => absurd h List.not_mem_nil, fun _ h => absurd h List.not_mem_nil⟩ dkX8_given (by decide +kernel) (by rw [h.2.2.1]; exact q187_ok)
/-- NearSpell.State.addEntry -/
def q188_M : rfM := ((⟨"NearSpell$State", "addEntry", "(II)I"⟩, prog_10_method_12_code, 4, (some .int)), (0,0), ([.inr (.inl [13]),.inl ((0,387420488,1),none),.inl ((0,999,1),none)],[]), [(12,0)], [(some (.inl (((-1),13,1),none)),[],[((12,34),(1,14,1),none)])])
def q188_P : rfP := (flX8,csX8,lcX8,spX8,[],[],[],([],[]))
def q188_U : rfU := []
set_option maxHeartbeats 8000000 in
def q188_N : List rfB := [(0,([(0,.inr (.inl [13])),(1,.inl ((0,387420488,1),none)),(2,.inl ((0,999,1),none))],[],[]),(33,[]),0)]
set_option maxRecDepth 100000 in
theorem q188_ok : rf_chkB q188_P q188_U wLay q188_M ddX8_addEntry [] [] [0] 600 q188_N = true := by decide +kernel
set_option maxHeartbeats 4000000 in
theorem q188_met {G : rfG} (h : okG G) : rf_met G q188_M := rf_methodB h.1 (P := q188_P) (U := q188_U) (N := q188_N) ⟨wflT h flokX8, wcsT h csokX8, wlcT h lcokX8, spokX8 h, fun _ h => absurd h List.not_mem_nil, fun _ h => absurd h List.not_mem_nil, fun _ h => absurd h List.not_mem_nil, fun _ h => absurd h List.not_mem_nil, fun _ h => absurd h List.not_mem_nil⟩ dkX8_addEntry (by decide +kernel) (by rw [h.2.2.1]; exact q188_ok)
/-- NearSpell.Archive.keepAct -/
def q189_M : rfM := ((⟨"NearSpell$Archive", "keepAct", "(LNearSpell$State;)V"⟩, prog_2_method_3_code, 2, none), (2,41), ([.inr (.inl [16]),.inr (.inl [13])],[]), [(14,0),(16,4),(16,5),(16,6)], [(none,[],[((16,4),(1,40,1),none),((16,5),(0,0,0),none)])])
def ddX0_keepAct : List (Nat × Instr × Nat) := [(0,.aload_n 0,1),(1,.iconst 0,1),(2,.putfield 30,3),(5,.aload_n 0,1),(6,.getfield 27,3),(9,.bipush 40,2),(11,.if_icmp .ge 16,3),(14,.aload_n 0,1),(15,.dup,1),(16,.getfield 27,3),(19,.iconst 1,1),(20,.iadd,1),(21,.putfield 27,3),(24,.goto 16,3),(27,.aload_n 0,1),(28,.aload_n 0,1),(29,.getfield 24,3),(32,.iconst 1,1),(33,.iadd,1),(34,.bipush 41,2),(36,.irem,1),(37,.putfield 24,3),(40,.aload_n 0,1),(41,.aload_n 1,1),(42,.invokevirtual 33,3),(45,.return_,1)]
set_option maxRecDepth 100000 in
theorem dkX0_keepAct : rf_decs prog_2_method_3_code ddX0_keepAct := rf_decs_of (by decide +kernel)
def q189_P : rfP := (flX0,csX0,lcX0,spX0,[q103_M],[],[(33,0,0)],([],[]))
def q189_U : rfU := []
set_option maxHeartbeats 8000000 in
def q189_N : List rfB := [(0,([(0,.inr (.inl [16])),(1,.inr (.inl [13]))],[],[]),(25,[]),0),
  (40,([(0,.inr (.inl [16])),(1,.inr (.inl [13]))],[],[((16,4),(1,40,1),none),((16,5),(0,0,0),none)]),(3,[]),0)]
set_option maxRecDepth 100000 in
theorem q189_ok : rf_chkB q189_P q189_U wLay q189_M ddX0_keepAct [(42,[0])] [] [0,40] 600 q189_N = true := by decide +kernel
set_option maxHeartbeats 4000000 in
theorem q189_met {G : rfG} (h : okG G) : rf_met G q189_M := rf_methodB h.1 (P := q189_P) (U := q189_U) (N := q189_N) ⟨wflT h flokX0, wcsT h csokX0, wlcT h lcokX0, spokX0 h, List.forall_mem_cons.mpr ⟨q103_met h, fun _ h => absurd h List.not_mem_nil⟩, fun _ h => absurd h List.not_mem_nil, List.forall_mem_cons.mpr ⟨fun M hM => Option.some.inj (show some q103_M = some M from hM) ▸ wlkV (lkX0_33 h) q103_M rfl rfl, fun _ h => absurd h List.not_mem_nil⟩, fun _ h => absurd h List.not_mem_nil, fun _ h => absurd h List.not_mem_nil⟩ dkX0_keepAct (by decide +kernel) (by rw [h.2.2.1]; exact q189_ok)
/-- NearSpell.learn -/
def q190_M : rfM := ((⟨"NearSpell", "learn", "(II)I"⟩, prog_1_method_7_code, 4, (some .int)), (3,62), ([.inr (.inl [70]),.inl (((-2147483648),2147483647,1),none),.inl (((-2147483648),2147483647,1),none)],[]), [(12,0),(14,0),(16,4),(16,5),(16,6)], [(some (.inl (((-1),13,1),none)),[],[])])
def ddX11_learn : List (Nat × Instr × Nat) := [(0,.iload_n 1,1),(1,.invokestatic 163,3),(4,.ifCond .eq 14,3),(7,.iload_n 2,1),(8,.ifCond .lt 10,3),(11,.iload_n 2,1),(12,.sipush 999,3),(15,.if_icmp .le 5,3),(18,.iconst (-1),1),(19,.ireturn,1),(20,.aload_n 0,1),(21,.getfield 35,3),(24,.iload_n 1,1),(25,.invokevirtual 166,3),(28,.iconst (-1),1),(29,.if_icmp .ne 15,3),(32,.aload_n 0,1),(33,.getfield 35,3),(36,.invokevirtual 169,3),(39,.bipush 14,2),(41,.if_icmp .lt 5,3),(44,.iconst (-1),1),(45,.ireturn,1),(46,.aload_n 0,1),(47,.getfield 35,3),(50,.iload_n 1,1),(51,.iload_n 2,1),(52,.invokevirtual 173,3),(55,.istore_n 3,1),(56,.aload_n 0,1),(57,.getfield 42,3),(60,.aload_n 0,1),(61,.getfield 35,3),(64,.invokevirtual 177,3),(67,.iload_n 3,1),(68,.ireturn,1)]
set_option maxRecDepth 100000 in
theorem dkX11_learn : rf_decs prog_1_method_7_code ddX11_learn := rf_decs_of (by decide +kernel)
def q190_P : rfP := (flX11,csX11,lcX11,spX11,[q170_M,q186_M,q187_M,q188_M,q189_M],[(163,0)],[(166,1,8),(169,2,8),(173,3,8),(177,4,0)],([],[]))
def q190_U : rfU := []
set_option maxHeartbeats 8000000 in
def q190_N : List rfB := [(0,([(0,.inr (.inl [70])),(1,.inl (((-2147483648),2147483647,1),none)),(2,.inl (((-2147483648),2147483647,1),none))],[],[]),(36,[]),0),
  (18,([(0,.inr (.inl [70])),(1,.inl (((-2147483648),2147483647,1),none)),(2,.inl (((-2147483648),2147483647,1),none))],[],[]),(1,[]),0),
  (44,([(0,.inr (.inl [70])),(1,.inl ((0,387420488,1),none)),(2,.inl ((0,999,1),none))],[],[]),(4,[]),0)]
set_option maxRecDepth 100000 in
theorem q190_ok : rf_chkB q190_P q190_U wLay q190_M ddX11_learn [(1,[0]),(25,[1]),(36,[2]),(52,[3]),(64,[4])] [] [0,18,44] 600 q190_N = true := by decide +kernel
set_option maxHeartbeats 4000000 in
theorem q190_met {G : rfG} (h : okG G) : rf_met G q190_M := rf_methodB h.1 (P := q190_P) (U := q190_U) (N := q190_N) ⟨wflT h flokX11, wcsT h csokX11, wlcT h lcokX11, spokX11 h, List.forall_mem_cons.mpr ⟨q170_met h, List.forall_mem_cons.mpr ⟨q186_met h, List.forall_mem_cons.mpr ⟨q187_met h, List.forall_mem_cons.mpr ⟨q188_met h, List.forall_mem_cons.mpr ⟨q189_met h, fun _ h => absurd h List.not_mem_nil⟩⟩⟩⟩⟩, List.forall_mem_cons.mpr ⟨fun M hM => Option.some.inj (show some q170_M = some M from hM) ▸ wlkS (lkX11_163 h) q170_M rfl rfl, fun _ h => absurd h List.not_mem_nil⟩, List.forall_mem_cons.mpr ⟨fun M hM => Option.some.inj (show some q186_M = some M from hM) ▸ wlkV (lkX11_166 h) q186_M rfl rfl, List.forall_mem_cons.mpr ⟨fun M hM => Option.some.inj (show some q187_M = some M from hM) ▸ wlkV (lkX11_169 h) q187_M rfl rfl, List.forall_mem_cons.mpr ⟨fun M hM => Option.some.inj (show some q188_M = some M from hM) ▸ wlkV (lkX11_173 h) q188_M rfl rfl, List.forall_mem_cons.mpr ⟨fun M hM => Option.some.inj (show some q189_M = some M from hM) ▸ wlkV (lkX11_177 h) q189_M rfl rfl, fun _ h => absurd h List.not_mem_nil⟩⟩⟩⟩, fun _ h => absurd h List.not_mem_nil, fun _ h => absurd h List.not_mem_nil⟩ dkX11_learn (by decide +kernel) (by rw [h.2.2.1]; exact q190_ok)
/-- NearSpell.State.dropEntry -/
def q191_M : rfM := ((⟨"NearSpell$State", "dropEntry", "(I)V"⟩, prog_10_method_13_code, 2, none), (1,21), ([.inr (.inl [13]),.inl ((0,13,1),none)],[]), [(12,0)], [(none,[],[])])
def ddX8_dropEntry : List (Nat × Instr × Nat) := [(0,.aload_n 0,1),(1,.iload_n 1,1),(2,.invokevirtual 34,3),(5,.ifCond .eq 13,3),(8,.aload_n 0,1),(9,.getfield 11,3),(12,.bipush 14,2),(14,.iload_n 1,1),(15,.iadd,1),(16,.iconst (-1),1),(17,.iastore,1),(18,.return_,1)]
set_option maxRecDepth 100000 in
theorem dkX8_dropEntry : rf_decs prog_10_method_13_code ddX8_dropEntry := rf_decs_of (by decide +kernel)
def q191_P : rfP := (flX8,csX8,lcX8,spX8,[q185_M],[],[(34,0,8)],([],[]))
def q191_U : rfU := []
set_option maxHeartbeats 8000000 in
def q191_N : List rfB := [(0,([(0,.inr (.inl [13])),(1,.inl ((0,13,1),none))],[],[]),(12,[]),0),
  (18,([(0,.inr (.inl [13])),(1,.inl ((0,13,1),none))],[],[]),(0,[]),0)]
set_option maxRecDepth 100000 in
theorem q191_ok : rf_chkB q191_P q191_U wLay q191_M ddX8_dropEntry [(2,[0])] [] [0,18] 600 q191_N = true := by decide +kernel
set_option maxHeartbeats 4000000 in
theorem q191_met {G : rfG} (h : okG G) : rf_met G q191_M := rf_methodB h.1 (P := q191_P) (U := q191_U) (N := q191_N) ⟨wflT h flokX8, wcsT h csokX8, wlcT h lcokX8, spokX8 h, List.forall_mem_cons.mpr ⟨q185_met h, fun _ h => absurd h List.not_mem_nil⟩, fun _ h => absurd h List.not_mem_nil, List.forall_mem_cons.mpr ⟨fun M hM => Option.some.inj (show some q185_M = some M from hM) ▸ wlkV (lkX8_34 h) q185_M rfl rfl, fun _ h => absurd h List.not_mem_nil⟩, fun _ h => absurd h List.not_mem_nil, fun _ h => absurd h List.not_mem_nil⟩ dkX8_dropEntry (by decide +kernel) (by rw [h.2.2.1]; exact q191_ok)
/-- NearSpell.State.entries -/
def q192_M : rfM := ((⟨"NearSpell$State", "entries", "()I"⟩, prog_10_method_10_code, 3, (some .int)), (1,21), ([.inr (.inl [13])],[]), [], [(some (.inl (((-2147483648),2147483647,1),none)),[],[])])
def ddX8_entries : List (Nat × Instr × Nat) := [(0,.iconst 0,1),(1,.istore_n 1,1),(2,.iconst 0,1),(3,.istore_n 2,1),(4,.iload_n 2,1),(5,.aload_n 0,1),(6,.getfield 11,3),(9,.bipush 34,2),(11,.iaload,1),(12,.if_icmp .ge 20,3),(15,.aload_n 0,1),(16,.iload_n 2,1),(17,.invokevirtual 34,3),(20,.ifCond .eq 6,3),(23,.iinc 1 1,3),(26,.iinc 2 1,3),(29,.goto (-25),3),(32,.iload_n 1,1),(33,.ireturn,1)]
set_option maxRecDepth 100000 in
theorem dkX8_entries : rf_decs prog_10_method_10_code ddX8_entries := rf_decs_of (by decide +kernel)
def q192_P : rfP := (flX8,csX8,lcX8,spX8,[q185_M],[],[(34,0,8)],([],[]))
def q192_U : rfU := []
set_option maxHeartbeats 8000000 in
def q192_N : List rfB := [(0,([(0,.inr (.inl [13]))],[],[]),(230,[0]),0),
  (4,([(0,.inr (.inl [13])),(1,.inl (((-2147483648),2147483647,1),none)),(2,.inl ((0,14,1),none))],[],[]),(224,[(-15)]),0),
  (26,([(0,.inr (.inl [13])),(1,.inl (((-2147483648),2147483647,1),none)),(2,.inl ((0,13,1),none))],[],[((12,34),(1,14,1),none)]),(212,[(-15)]),0)]
set_option maxRecDepth 100000 in
theorem q192_ok : rf_chkB q192_P q192_U wLay q192_M ddX8_entries [(17,[0])] [.inl 2] [0,4,26] 600 q192_N = true := by decide +kernel
set_option maxHeartbeats 4000000 in
theorem q192_met {G : rfG} (h : okG G) : rf_met G q192_M := rf_methodB h.1 (P := q192_P) (U := q192_U) (N := q192_N) ⟨wflT h flokX8, wcsT h csokX8, wlcT h lcokX8, spokX8 h, List.forall_mem_cons.mpr ⟨q185_met h, fun _ h => absurd h List.not_mem_nil⟩, fun _ h => absurd h List.not_mem_nil, List.forall_mem_cons.mpr ⟨fun M hM => Option.some.inj (show some q185_M = some M from hM) ▸ wlkV (lkX8_34 h) q185_M rfl rfl, fun _ h => absurd h List.not_mem_nil⟩, fun _ h => absurd h List.not_mem_nil, fun _ h => absurd h List.not_mem_nil⟩ dkX8_entries (by decide +kernel) (by rw [h.2.2.1]; exact q192_ok)
/-- NearSpell.forget -/
def q193_M : rfM := ((⟨"NearSpell", "forget", "(I)I"⟩, prog_1_method_8_code, 2, (some .int)), (3,62), ([.inr (.inl [70]),.inl (((-2147483648),2147483647,1),none)],[]), [(12,0),(14,0),(16,4),(16,5),(16,6)], [(some (.inl (((-2147483648),2147483647,1),none)),[],[])])
def ddX11_forget : List (Nat × Instr × Nat) := [(0,.aload_n 0,1),(1,.getfield 35,3),(4,.iload_n 1,1),(5,.invokevirtual 141,3),(8,.ifCond .ne 5,3),(11,.iconst (-1),1),(12,.ireturn,1),(13,.aload_n 0,1),(14,.getfield 35,3),(17,.iload_n 1,1),(18,.invokevirtual 180,3),(21,.aload_n 0,1),(22,.getfield 42,3),(25,.aload_n 0,1),(26,.getfield 35,3),(29,.invokevirtual 177,3),(32,.aload_n 0,1),(33,.getfield 35,3),(36,.invokevirtual 183,3),(39,.ireturn,1)]
set_option maxRecDepth 100000 in
theorem dkX11_forget : rf_decs prog_1_method_8_code ddX11_forget := rf_decs_of (by decide +kernel)
def q193_P : rfP := (flX11,csX11,lcX11,spX11,[q109_M,q191_M,q189_M,q192_M],[],[(141,0,8),(177,2,0),(180,1,8),(183,3,8)],([],[]))
def q193_U : rfU := []
set_option maxHeartbeats 8000000 in
def q193_N : List rfB := [(0,([(0,.inr (.inl [70])),(1,.inl (((-2147483648),2147483647,1),none))],[],[]),(20,[]),0)]
set_option maxRecDepth 100000 in
theorem q193_ok : rf_chkB q193_P q193_U wLay q193_M ddX11_forget [(5,[0]),(18,[1]),(29,[2]),(36,[3])] [] [0] 600 q193_N = true := by decide +kernel
set_option maxHeartbeats 4000000 in
theorem q193_met {G : rfG} (h : okG G) : rf_met G q193_M := rf_methodB h.1 (P := q193_P) (U := q193_U) (N := q193_N) ⟨wflT h flokX11, wcsT h csokX11, wlcT h lcokX11, spokX11 h, List.forall_mem_cons.mpr ⟨q109_met h, List.forall_mem_cons.mpr ⟨q191_met h, List.forall_mem_cons.mpr ⟨q189_met h, List.forall_mem_cons.mpr ⟨q192_met h, fun _ h => absurd h List.not_mem_nil⟩⟩⟩⟩, fun _ h => absurd h List.not_mem_nil, List.forall_mem_cons.mpr ⟨fun M hM => Option.some.inj (show some q109_M = some M from hM) ▸ wlkV (lkX11_141 h) q109_M rfl rfl, List.forall_mem_cons.mpr ⟨fun M hM => Option.some.inj (show some q189_M = some M from hM) ▸ wlkV (lkX11_177 h) q189_M rfl rfl, List.forall_mem_cons.mpr ⟨fun M hM => Option.some.inj (show some q191_M = some M from hM) ▸ wlkV (lkX11_180 h) q191_M rfl rfl, List.forall_mem_cons.mpr ⟨fun M hM => Option.some.inj (show some q192_M = some M from hM) ▸ wlkV (lkX11_183 h) q192_M rfl rfl, fun _ h => absurd h List.not_mem_nil⟩⟩⟩⟩, fun _ h => absurd h List.not_mem_nil, fun _ h => absurd h List.not_mem_nil⟩ dkX11_forget (by decide +kernel) (by rw [h.2.2.1]; exact q193_ok)
/-- NearSpell.State.useOnce -/
def q194_M : rfM := ((⟨"NearSpell$State", "useOnce", "(I)V"⟩, prog_10_method_14_code, 2, none), (1,21), ([.inr (.inl [13]),.inl ((0,13,1),none)],[]), [(12,0)], [(none,[],[])])
def ddX8_useOnce : List (Nat × Instr × Nat) := [(0,.aload_n 0,1),(1,.iload_n 1,1),(2,.invokevirtual 34,3),(5,.ifCond .eq 16,3),(8,.aload_n 0,1),(9,.getfield 11,3),(12,.bipush 14,2),(14,.iload_n 1,1),(15,.iadd,1),(16,.dup2,1),(17,.iaload,1),(18,.iconst 1,1),(19,.iadd,1),(20,.iastore,1),(21,.return_,1)]
set_option maxRecDepth 100000 in
theorem dkX8_useOnce : rf_decs prog_10_method_14_code ddX8_useOnce := rf_decs_of (by decide +kernel)
def q194_P : rfP := (flX8,csX8,lcX8,spX8,[q185_M],[],[(34,0,8)],([],[]))
def q194_U : rfU := []
set_option maxHeartbeats 8000000 in
def q194_N : List rfB := [(0,([(0,.inr (.inl [13])),(1,.inl ((0,13,1),none))],[],[]),(15,[]),0),
  (21,([(0,.inr (.inl [13])),(1,.inl ((0,13,1),none))],[],[]),(0,[]),0)]
set_option maxRecDepth 100000 in
theorem q194_ok : rf_chkB q194_P q194_U wLay q194_M ddX8_useOnce [(2,[0])] [] [0,21] 600 q194_N = true := by decide +kernel
set_option maxHeartbeats 4000000 in
theorem q194_met {G : rfG} (h : okG G) : rf_met G q194_M := rf_methodB h.1 (P := q194_P) (U := q194_U) (N := q194_N) ⟨wflT h flokX8, wcsT h csokX8, wlcT h lcokX8, spokX8 h, List.forall_mem_cons.mpr ⟨q185_met h, fun _ h => absurd h List.not_mem_nil⟩, fun _ h => absurd h List.not_mem_nil, List.forall_mem_cons.mpr ⟨fun M hM => Option.some.inj (show some q185_M = some M from hM) ▸ wlkV (lkX8_34 h) q185_M rfl rfl, fun _ h => absurd h List.not_mem_nil⟩, fun _ h => absurd h List.not_mem_nil, fun _ h => absurd h List.not_mem_nil⟩ dkX8_useOnce (by decide +kernel) (by rw [h.2.2.1]; exact q194_ok)
/-- NearSpell.use -/
def q195_M : rfM := ((⟨"NearSpell", "use", "(I)I"⟩, prog_1_method_9_code, 2, (some .int)), (3,62), ([.inr (.inl [70]),.inl (((-2147483648),2147483647,1),none)],[]), [(12,0),(14,0),(16,4),(16,5),(16,6)], [(some (.inl (((-2147483648),2147483647,1),none)),[],[])])
def ddX11_use : List (Nat × Instr × Nat) := [(0,.aload_n 0,1),(1,.getfield 35,3),(4,.iload_n 1,1),(5,.invokevirtual 141,3),(8,.ifCond .eq 17,3),(11,.aload_n 0,1),(12,.getfield 35,3),(15,.iload_n 1,1),(16,.invokevirtual 151,3),(19,.sipush 999,3),(22,.if_icmp .lt 5,3),(25,.iconst (-1),1),(26,.ireturn,1),(27,.aload_n 0,1),(28,.getfield 35,3),(31,.iload_n 1,1),(32,.invokevirtual 186,3),(35,.aload_n 0,1),(36,.getfield 42,3),(39,.aload_n 0,1),(40,.getfield 35,3),(43,.invokevirtual 177,3),(46,.aload_n 0,1),(47,.getfield 35,3),(50,.iload_n 1,1),(51,.invokevirtual 151,3),(54,.ireturn,1)]
set_option maxRecDepth 100000 in
theorem dkX11_use : rf_decs prog_1_method_9_code ddX11_use := rf_decs_of (by decide +kernel)
def q195_P : rfP := (flX11,csX11,lcX11,spX11,[q109_M,q112_M,q194_M,q189_M],[],[(141,0,8),(151,1,8),(177,3,0),(186,2,8)],([],[]))
def q195_U : rfU := []
set_option maxHeartbeats 8000000 in
def q195_N : List rfB := [(0,([(0,.inr (.inl [70])),(1,.inl (((-2147483648),2147483647,1),none))],[],[]),(27,[]),0),
  (25,([(0,.inr (.inl [70])),(1,.inl (((-2147483648),2147483647,1),none))],[],[]),(15,[]),0)]
set_option maxRecDepth 100000 in
theorem q195_ok : rf_chkB q195_P q195_U wLay q195_M ddX11_use [(5,[0]),(16,[1]),(32,[2]),(43,[3]),(51,[1])] [] [0,25] 600 q195_N = true := by decide +kernel
set_option maxHeartbeats 4000000 in
theorem q195_met {G : rfG} (h : okG G) : rf_met G q195_M := rf_methodB h.1 (P := q195_P) (U := q195_U) (N := q195_N) ⟨wflT h flokX11, wcsT h csokX11, wlcT h lcokX11, spokX11 h, List.forall_mem_cons.mpr ⟨q109_met h, List.forall_mem_cons.mpr ⟨q112_met h, List.forall_mem_cons.mpr ⟨q194_met h, List.forall_mem_cons.mpr ⟨q189_met h, fun _ h => absurd h List.not_mem_nil⟩⟩⟩⟩, fun _ h => absurd h List.not_mem_nil, List.forall_mem_cons.mpr ⟨fun M hM => Option.some.inj (show some q109_M = some M from hM) ▸ wlkV (lkX11_141 h) q109_M rfl rfl, List.forall_mem_cons.mpr ⟨fun M hM => Option.some.inj (show some q112_M = some M from hM) ▸ wlkV (lkX11_151 h) q112_M rfl rfl, List.forall_mem_cons.mpr ⟨fun M hM => Option.some.inj (show some q189_M = some M from hM) ▸ wlkV (lkX11_177 h) q189_M rfl rfl, List.forall_mem_cons.mpr ⟨fun M hM => Option.some.inj (show some q194_M = some M from hM) ▸ wlkV (lkX11_186 h) q194_M rfl rfl, fun _ h => absurd h List.not_mem_nil⟩⟩⟩⟩, fun _ h => absurd h List.not_mem_nil, fun _ h => absurd h List.not_mem_nil⟩ dkX11_use (by decide +kernel) (by rw [h.2.2.1]; exact q195_ok)
/-- NearSpell.State.phraseSize -/
def q196_M : rfM := ((⟨"NearSpell$State", "phraseSize", "()I"⟩, prog_10_method_4_code, 1, (some .int)), (0,0), ([.inr (.inl [13])],[]), [], [(some (.inl ((0,6,1),none)),[],[])])
def ddX8_phraseSize : List (Nat × Instr × Nat) := [(0,.aload_n 0,1),(1,.getfield 11,3),(4,.bipush 35,2),(6,.iaload,1),(7,.ireturn,1)]
set_option maxRecDepth 100000 in
theorem dkX8_phraseSize : rf_decs prog_10_method_4_code ddX8_phraseSize := rf_decs_of (by decide +kernel)
def q196_P : rfP := (flX8,csX8,lcX8,spX8,[],[],[],([],[]))
def q196_U : rfU := []
set_option maxHeartbeats 8000000 in
def q196_N : List rfB := [(0,([(0,.inr (.inl [13]))],[],[]),(4,[]),0)]
set_option maxRecDepth 100000 in
theorem q196_ok : rf_chkB q196_P q196_U wLay q196_M ddX8_phraseSize [] [] [0] 600 q196_N = true := by decide +kernel
set_option maxHeartbeats 4000000 in
theorem q196_met {G : rfG} (h : okG G) : rf_met G q196_M := rf_methodB h.1 (P := q196_P) (U := q196_U) (N := q196_N) ⟨wflT h flokX8, wcsT h csokX8, wlcT h lcokX8, spokX8 h, fun _ h => absurd h List.not_mem_nil, fun _ h => absurd h List.not_mem_nil, fun _ h => absurd h List.not_mem_nil, fun _ h => absurd h List.not_mem_nil, fun _ h => absurd h List.not_mem_nil⟩ dkX8_phraseSize (by decide +kernel) (by rw [h.2.2.1]; exact q196_ok)
/-- NearSpell.State.addTyped -/
def q197_M : rfM := ((⟨"NearSpell$State", "addTyped", "(II)I"⟩, prog_10_method_15_code, 4, (some .int)), (0,0), ([.inr (.inl [13]),.inl ((0,387420488,1),none),.inl ((0,100,1),none)],[]), [(12,0)], [(some (.inl ((0,387420488,1),none)),[],[((12,35),(1,6,1),none),((12,36),((-999),999,1),none)])])
def ddX8_addTyped : List (Nat × Instr × Nat) := [(0,.aload_n 0,1),(1,.getfield 11,3),(4,.bipush 36,2),(6,.aload_n 0,1),(7,.getfield 11,3),(10,.bipush 36,2),(12,.iaload,1),(13,.sipush 137,3),(16,.imul,1),(17,.bipush 71,2),(19,.iadd,1),(20,.sipush 1000,3),(23,.irem,1),(24,.iastore,1),(25,.aload_n 0,1),(26,.getfield 11,3),(29,.bipush 36,2),(31,.iaload,1),(32,.bipush 100,2),(34,.irem,1),(35,.iload_n 2,1),(36,.if_icmp .ge 10,3),(39,.iload_n 1,1),(40,.bipush 27,2),(42,.idiv,1),(43,.goto 4,3),(46,.iload_n 1,1),(47,.istore_n 3,1),(48,.aload_n 0,1),(49,.getfield 11,3),(52,.bipush 35,2),(54,.iaload,1),(55,.bipush 6,2),(57,.if_icmp .ge 30,3),(60,.aload_n 0,1),(61,.getfield 11,3),(64,.bipush 28,2),(66,.aload_n 0,1),(67,.getfield 11,3),(70,.bipush 35,2),(72,.iaload,1),(73,.iadd,1),(74,.iload_n 3,1),(75,.iastore,1),(76,.aload_n 0,1),(77,.getfield 11,3),(80,.bipush 35,2),(82,.dup2,1),(83,.iaload,1),(84,.iconst 1,1),(85,.iadd,1),(86,.iastore,1),(87,.iload_n 3,1),(88,.ireturn,1)]
set_option maxRecDepth 100000 in
theorem dkX8_addTyped : rf_decs prog_10_method_15_code ddX8_addTyped := rf_decs_of (by decide +kernel)
def q197_P : rfP := (flX8,csX8,lcX8,spX8,[],[],[],([],[]))
def q197_U : rfU := []
set_option maxHeartbeats 8000000 in
def q197_N : List rfB := [(0,([(0,.inr (.inl [13])),(1,.inl ((0,387420488,1),none)),(2,.inl ((0,100,1),none))],[],[]),(53,[]),0),
  (47,([(0,.inr (.inl [13])),(1,.inl ((0,387420488,1),none)),(2,.inl ((0,100,1),none))],[.inl ((0,387420488,1),none)],[((12,36),((-999),999,1),none)]),(26,[]),0),
  (87,([(0,.inr (.inl [13])),(1,.inl ((0,387420488,1),none)),(2,.inl ((0,100,1),none)),(3,.inl ((0,387420488,1),none))],[],[((12,35),(1,6,1),none),((12,36),((-999),999,1),none)]),(1,[]),0)]
set_option maxRecDepth 100000 in
theorem q197_ok : rf_chkB q197_P q197_U wLay q197_M ddX8_addTyped [] [] [0,47,87] 600 q197_N = true := by decide +kernel
set_option maxHeartbeats 4000000 in
theorem q197_met {G : rfG} (h : okG G) : rf_met G q197_M := rf_methodB h.1 (P := q197_P) (U := q197_U) (N := q197_N) ⟨wflT h flokX8, wcsT h csokX8, wlcT h lcokX8, spokX8 h, fun _ h => absurd h List.not_mem_nil, fun _ h => absurd h List.not_mem_nil, fun _ h => absurd h List.not_mem_nil, fun _ h => absurd h List.not_mem_nil, fun _ h => absurd h List.not_mem_nil⟩ dkX8_addTyped (by decide +kernel) (by rw [h.2.2.1]; exact q197_ok)
/-- NearSpell.lengthOf -/
def q198_M : rfM := ((⟨"NearSpell", "lengthOf", "(I)I"⟩, prog_1_method_53_code, 2, (some .int)), (0,0), ([.inl ((0,387420488,1),none)],[]), [], [(some (.inl ((0,6,1),none)),[],[])])
def q198_P : rfP := (flX11,csX11,lcX11,spX11,[],[],[],([],[]))
def q198_U : rfU := []
set_option maxHeartbeats 8000000 in
def q198_N : List rfB := [(0,([(0,.inl ((0,387420488,1),none))],[],[]),(80,[0]),0),
  (2,([(0,.inl ((0,387420488,1),none)),(1,.inl ((0,6,1),none))],[],[]),(76,[(-11)]),0),
  (23,([(0,.inl ((0,387420488,1),none)),(1,.inl ((0,6,1),none))],[],[]),(1,[0]),0)]
set_option maxRecDepth 100000 in
theorem q198_ok : rf_chkB q198_P q198_U wLay q198_M ddX11_lengthOf [] [.inl 1] [0,2,23] 600 q198_N = true := by decide +kernel
set_option maxHeartbeats 4000000 in
theorem q198_met {G : rfG} (h : okG G) : rf_met G q198_M := rf_methodB h.1 (P := q198_P) (U := q198_U) (N := q198_N) ⟨wflT h flokX11, wcsT h csokX11, wlcT h lcokX11, spokX11 h, fun _ h => absurd h List.not_mem_nil, fun _ h => absurd h List.not_mem_nil, fun _ h => absurd h List.not_mem_nil, fun _ h => absurd h List.not_mem_nil, fun _ h => absurd h List.not_mem_nil⟩ dkX11_lengthOf (by decide +kernel) (by rw [h.2.2.1]; exact q198_ok)
/-- NearSpell.Ruler.putLetters -/
def q199_M : rfM := ((⟨"NearSpell$Ruler", "putLetters", "(I[II)I"⟩, prog_9_method_8_code, 6, (some .int)), (1,21), ([.inl ((0,387420488,1),none),.inr (.inl [17]),.inl ((0,0,0),none)],[]), [(17,0)], [(some (.inl ((0,6,1),none)),[],[])])
def ddX7_putLetters : List (Nat × Instr × Nat) := [(0,.iload_n 2,1),(1,.iload_n 0,1),(2,.invokestatic 55,3),(5,.iadd,1),(6,.istore_n 3,1),(7,.iload_n 3,1),(8,.aload_n 1,1),(9,.arraylength,1),(10,.if_icmp .le 5,3),(13,.iload_n 2,1),(14,.ireturn,1),(15,.iload_n 0,1),(16,.istore 4,2),(18,.iload_n 3,1),(19,.iconst 1,1),(20,.isub,1),(21,.istore 5,2),(23,.iload 5,2),(25,.iload_n 2,1),(26,.if_icmp .lt 25,3),(29,.aload_n 1,1),(30,.iload 5,2),(32,.iload 4,2),(34,.bipush 27,2),(36,.irem,1),(37,.iastore,1),(38,.iload 4,2),(40,.bipush 27,2),(42,.idiv,1),(43,.istore 4,2),(45,.iinc 5 (-1),3),(48,.goto (-25),3),(51,.iload_n 3,1),(52,.ireturn,1)]
set_option maxRecDepth 100000 in
theorem dkX7_putLetters : rf_decs prog_9_method_8_code ddX7_putLetters := rf_decs_of (by decide +kernel)
def q199_P : rfP := (flX7,csX7,lcX7,spX7,[q198_M],[(55,0)],[],([],[]))
def q199_U : rfU := []
set_option maxHeartbeats 8000000 in
def q199_N : List rfB := [(0,([(0,.inl ((0,387420488,1),none)),(1,.inr (.inl [17])),(2,.inl ((0,0,0),none))],[],[]),(128,[0]),0),
  (23,([(0,.inl ((0,387420488,1),none)),(1,.inr (.inl [17])),(2,.inl ((0,0,0),none)),(3,.inl ((0,6,1),none)),(4,.inl ((0,387420488,1),none)),(5,.inl (((-1),5,1),none))],[],[]),(31,[16]),0)]
set_option maxRecDepth 100000 in
theorem q199_ok : rf_chkB q199_P q199_U wLay q199_M ddX7_putLetters [(2,[0])] [.inl 5] [0,23] 600 q199_N = true := by decide +kernel
set_option maxHeartbeats 4000000 in
theorem q199_met {G : rfG} (h : okG G) : rf_met G q199_M := rf_methodB h.1 (P := q199_P) (U := q199_U) (N := q199_N) ⟨wflT h flokX7, wcsT h csokX7, wlcT h lcokX7, spokX7 h, List.forall_mem_cons.mpr ⟨q198_met h, fun _ h => absurd h List.not_mem_nil⟩, List.forall_mem_cons.mpr ⟨fun M hM => Option.some.inj (show some q198_M = some M from hM) ▸ wlkS (lkX7_55 h) q198_M rfl rfl, fun _ h => absurd h List.not_mem_nil⟩, fun _ h => absurd h List.not_mem_nil, fun _ h => absurd h List.not_mem_nil, fun _ h => absurd h List.not_mem_nil⟩ dkX7_putLetters (by decide +kernel) (by rw [h.2.2.1]; exact q199_ok)
