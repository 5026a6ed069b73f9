/-- NearSpell.Web.stepOn -/
def q500_M : rfM := ((⟨"NearSpell$Web", "stepOn", "(I)I"⟩, prog_11_method_8_code, 4, (some .int)), (1,22), ([.inr (.inl [61]),.inl (((-2147483648),2147483647,1),none)],[]), [], [(some (.inl (((-2147483648),2147483647,1),none)),[],[])])
def q500_P : rfP := (flX9,csX9,lcX9,spX9,[q493_M],[],[(50,0,9)],([],[]))
def q500_U : rfU := []
set_option maxHeartbeats 8000000 in
def q500_N : List rfB := [(0,([(0,.inr (.inl [61])),(1,.inl (((-2147483648),2147483647,1),none))],[],[]),(290,[0]),0),
  (4,([(0,.inr (.inl [61])),(1,.inl (((-2147483648),2147483647,1),none)),(2,.inl (((-2147483648),2147483647,1),none)),(3,.inl ((0,14,1),none))],[],[]),(284,[(-19)]),0),
  (28,([(0,.inr (.inl [61])),(1,.inl (((-2147483648),2147483647,1),none)),(2,.inl (((-2147483648),2147483647,1),none)),(3,.inl ((0,13,1),none))],[],[]),(268,[(-19)]),0)]
set_option maxRecDepth 100000 in
theorem q500_ok : rf_chkB q500_P q500_U wLay q500_M ddX9_stepOn [(13,[0])] [.inl 3] [0,4,28] 600 q500_N = true := by decide +kernel
set_option maxHeartbeats 4000000 in
theorem q500_met {G : rfG} (h : okG G) : rf_met G q500_M := rf_methodB h.1 (P := q500_P) (U := q500_U) (N := q500_N) ⟨wflT h flokX9, wcsT h csokX9, wlcT h lcokX9, spokX9 h, List.forall_mem_cons.mpr ⟨q493_met h, fun _ h => absurd h List.not_mem_nil⟩, fun _ h => absurd h List.not_mem_nil, List.forall_mem_cons.mpr ⟨fun M hM => Option.some.inj (show some q493_M = some M from hM) ▸ wlkV (lkX9_50 h) q493_M rfl rfl, fun _ h => absurd h List.not_mem_nil⟩, fun _ h => absurd h List.not_mem_nil, fun _ h => absurd h List.not_mem_nil⟩ dkX9_stepOn (by decide +kernel) (by rw [h.2.2.1]; exact q500_ok)
/-- NearSpell.Web.hangingTo -/
def q501_M : rfM := ((⟨"NearSpell$Web", "hangingTo", "(I)I"⟩, prog_11_method_7_code, 4, (some .int)), (2,45), ([.inr (.inl [61]),.inl ((1,1,0),none)],[]), [], [(some (.inl (((-2147483648),2147483647,1),none)),[],[])])
def ddX9_hangingTo : List (Nat × Instr × Nat) := [(0,.iload_n 1,1),(1,.istore_n 2,1),(2,.iconst 0,1),(3,.istore_n 3,1),(4,.iload_n 3,1),(5,.bipush 14,2),(7,.if_icmp .ge 15,3),(10,.aload_n 0,1),(11,.iload_n 2,1),(12,.invokevirtual 66,3),(15,.istore_n 2,1),(16,.iinc 3 1,3),(19,.goto (-15),3),(22,.iload_n 2,1),(23,.ireturn,1)]
set_option maxRecDepth 100000 in
theorem dkX9_hangingTo : rf_decs prog_11_method_7_code ddX9_hangingTo := rf_decs_of (by decide +kernel)
def q501_P : rfP := (flX9,csX9,lcX9,spX9,[q500_M],[],[(66,0,9)],([],[]))
def q501_U : rfU := []
set_option maxHeartbeats 8000000 in
def q501_N : List rfB := [(0,([(0,.inr (.inl [61])),(1,.inl ((1,1,0),none))],[],[]),(155,[0]),0),
  (4,([(0,.inr (.inl [61])),(1,.inl ((1,1,0),none)),(2,.inl (((-2147483648),2147483647,1),none)),(3,.inl ((0,14,1),none))],[],[]),(149,[(-10)]),0)]
set_option maxRecDepth 100000 in
theorem q501_ok : rf_chkB q501_P q501_U wLay q501_M ddX9_hangingTo [(12,[0])] [.inl 3] [0,4] 600 q501_N = true := by decide +kernel
set_option maxHeartbeats 4000000 in
theorem q501_met {G : rfG} (h : okG G) : rf_met G q501_M := rf_methodB h.1 (P := q501_P) (U := q501_U) (N := q501_N) ⟨wflT h flokX9, wcsT h csokX9, wlcT h lcokX9, spokX9 h, List.forall_mem_cons.mpr ⟨q500_met h, fun _ h => absurd h List.not_mem_nil⟩, fun _ h => absurd h List.not_mem_nil, List.forall_mem_cons.mpr ⟨fun M hM => Option.some.inj (show some q500_M = some M from hM) ▸ wlkV (lkX9_66 h) q500_M rfl rfl, fun _ h => absurd h List.not_mem_nil⟩, fun _ h => absurd h List.not_mem_nil, fun _ h => absurd h List.not_mem_nil⟩ dkX9_hangingTo (by decide +kernel) (by rw [h.2.2.1]; exact q501_ok)
/-- NearSpell.Web.stepOn -/
def q502_M : rfM := ((⟨"NearSpell$Web", "stepOn", "(I)I"⟩, prog_11_method_8_code, 4, (some .int)), (1,22), ([.inr (.inl [61]),.inl ((1,2,1),none)],[]), [], [(some (.inl (((-2147483648),2147483647,1),none)),[],[])])
def q502_P : rfP := (flX9,csX9,lcX9,spX9,[q493_M],[],[(50,0,9)],([],[]))
def q502_U : rfU := []
set_option maxHeartbeats 8000000 in
def q502_N : List rfB := [(0,([(0,.inr (.inl [61])),(1,.inl ((1,2,1),none))],[],[]),(290,[0]),0),
  (4,([(0,.inr (.inl [61])),(1,.inl ((1,2,1),none)),(2,.inl (((-2147483648),2147483647,1),none)),(3,.inl ((0,14,1),none))],[],[]),(284,[(-19)]),0),
  (28,([(0,.inr (.inl [61])),(1,.inl ((1,2,1),none)),(2,.inl (((-2147483648),2147483647,1),none)),(3,.inl ((0,13,1),none))],[],[]),(268,[(-19)]),0)]
set_option maxRecDepth 100000 in
theorem q502_ok : rf_chkB q502_P q502_U wLay q502_M ddX9_stepOn [(13,[0])] [.inl 3] [0,4,28] 600 q502_N = true := by decide +kernel
set_option maxHeartbeats 4000000 in
theorem q502_met {G : rfG} (h : okG G) : rf_met G q502_M := rf_methodB h.1 (P := q502_P) (U := q502_U) (N := q502_N) ⟨wflT h flokX9, wcsT h csokX9, wlcT h lcokX9, spokX9 h, List.forall_mem_cons.mpr ⟨q493_met h, fun _ h => absurd h List.not_mem_nil⟩, fun _ h => absurd h List.not_mem_nil, List.forall_mem_cons.mpr ⟨fun M hM => Option.some.inj (show some q493_M = some M from hM) ▸ wlkV (lkX9_50 h) q493_M rfl rfl, fun _ h => absurd h List.not_mem_nil⟩, fun _ h => absurd h List.not_mem_nil, fun _ h => absurd h List.not_mem_nil⟩ dkX9_stepOn (by decide +kernel) (by rw [h.2.2.1]; exact q502_ok)
/-- NearSpell.Web.hangingTo -/
def q503_M : rfM := ((⟨"NearSpell$Web", "hangingTo", "(I)I"⟩, prog_11_method_7_code, 4, (some .int)), (2,45), ([.inr (.inl [61]),.inl ((1,2,1),none)],[]), [], [(some (.inl (((-2147483648),2147483647,1),none)),[],[])])
def q503_P : rfP := (flX9,csX9,lcX9,spX9,[q500_M],[],[(66,0,9)],([],[]))
def q503_U : rfU := []
set_option maxHeartbeats 8000000 in
def q503_N : List rfB := [(0,([(0,.inr (.inl [61])),(1,.inl ((1,2,1),none))],[],[]),(155,[0]),0),
  (4,([(0,.inr (.inl [61])),(1,.inl ((1,2,1),none)),(2,.inl (((-2147483648),2147483647,1),none)),(3,.inl ((0,14,1),none))],[],[]),(149,[(-10)]),0)]
set_option maxRecDepth 100000 in
theorem q503_ok : rf_chkB q503_P q503_U wLay q503_M ddX9_hangingTo [(12,[0])] [.inl 3] [0,4] 600 q503_N = true := by decide +kernel
set_option maxHeartbeats 4000000 in
theorem q503_met {G : rfG} (h : okG G) : rf_met G q503_M := rf_methodB h.1 (P := q503_P) (U := q503_U) (N := q503_N) ⟨wflT h flokX9, wcsT h csokX9, wlcT h lcokX9, spokX9 h, List.forall_mem_cons.mpr ⟨q500_met h, fun _ h => absurd h List.not_mem_nil⟩, fun _ h => absurd h List.not_mem_nil, List.forall_mem_cons.mpr ⟨fun M hM => Option.some.inj (show some q500_M = some M from hM) ▸ wlkV (lkX9_66 h) q500_M rfl rfl, fun _ h => absurd h List.not_mem_nil⟩, fun _ h => absurd h List.not_mem_nil, fun _ h => absurd h List.not_mem_nil⟩ dkX9_hangingTo (by decide +kernel) (by rw [h.2.2.1]; exact q503_ok)
/-- NearSpell.Web.stepOn -/
def q504_M : rfM := ((⟨"NearSpell$Web", "stepOn", "(I)I"⟩, prog_11_method_8_code, 4, (some .int)), (1,22), ([.inr (.inl [61]),.inl ((1,4,1),none)],[]), [], [(some (.inl (((-2147483648),2147483647,1),none)),[],[])])
def q504_P : rfP := (flX9,csX9,lcX9,spX9,[q493_M],[],[(50,0,9)],([],[]))
def q504_U : rfU := []
set_option maxHeartbeats 8000000 in
def q504_N : List rfB := [(0,([(0,.inr (.inl [61])),(1,.inl ((1,4,1),none))],[],[]),(290,[0]),0),
  (4,([(0,.inr (.inl [61])),(1,.inl ((1,4,1),none)),(2,.inl (((-2147483648),2147483647,1),none)),(3,.inl ((0,14,1),none))],[],[]),(284,[(-19)]),0),
  (28,([(0,.inr (.inl [61])),(1,.inl ((1,4,1),none)),(2,.inl (((-2147483648),2147483647,1),none)),(3,.inl ((0,13,1),none))],[],[]),(268,[(-19)]),0)]
set_option maxRecDepth 100000 in
theorem q504_ok : rf_chkB q504_P q504_U wLay q504_M ddX9_stepOn [(13,[0])] [.inl 3] [0,4,28] 600 q504_N = true := by decide +kernel
set_option maxHeartbeats 4000000 in
theorem q504_met {G : rfG} (h : okG G) : rf_met G q504_M := rf_methodB h.1 (P := q504_P) (U := q504_U) (N := q504_N) ⟨wflT h flokX9, wcsT h csokX9, wlcT h lcokX9, spokX9 h, List.forall_mem_cons.mpr ⟨q493_met h, fun _ h => absurd h List.not_mem_nil⟩, fun _ h => absurd h List.not_mem_nil, List.forall_mem_cons.mpr ⟨fun M hM => Option.some.inj (show some q493_M = some M from hM) ▸ wlkV (lkX9_50 h) q493_M rfl rfl, fun _ h => absurd h List.not_mem_nil⟩, fun _ h => absurd h List.not_mem_nil, fun _ h => absurd h List.not_mem_nil⟩ dkX9_stepOn (by decide +kernel) (by rw [h.2.2.1]; exact q504_ok)
/-- NearSpell.Web.hangingTo -/
def q505_M : rfM := ((⟨"NearSpell$Web", "hangingTo", "(I)I"⟩, prog_11_method_7_code, 4, (some .int)), (2,45), ([.inr (.inl [61]),.inl ((1,4,1),none)],[]), [], [(some (.inl (((-2147483648),2147483647,1),none)),[],[])])
def q505_P : rfP := (flX9,csX9,lcX9,spX9,[q500_M],[],[(66,0,9)],([],[]))
def q505_U : rfU := []
set_option maxHeartbeats 8000000 in
def q505_N : List rfB := [(0,([(0,.inr (.inl [61])),(1,.inl ((1,4,1),none))],[],[]),(155,[0]),0),
  (4,([(0,.inr (.inl [61])),(1,.inl ((1,4,1),none)),(2,.inl (((-2147483648),2147483647,1),none)),(3,.inl ((0,14,1),none))],[],[]),(149,[(-10)]),0)]
set_option maxRecDepth 100000 in
theorem q505_ok : rf_chkB q505_P q505_U wLay q505_M ddX9_hangingTo [(12,[0])] [.inl 3] [0,4] 600 q505_N = true := by decide +kernel
set_option maxHeartbeats 4000000 in
theorem q505_met {G : rfG} (h : okG G) : rf_met G q505_M := rf_methodB h.1 (P := q505_P) (U := q505_U) (N := q505_N) ⟨wflT h flokX9, wcsT h csokX9, wlcT h lcokX9, spokX9 h, List.forall_mem_cons.mpr ⟨q500_met h, fun _ h => absurd h List.not_mem_nil⟩, fun _ h => absurd h List.not_mem_nil, List.forall_mem_cons.mpr ⟨fun M hM => Option.some.inj (show some q500_M = some M from hM) ▸ wlkV (lkX9_66 h) q500_M rfl rfl, fun _ h => absurd h List.not_mem_nil⟩, fun _ h => absurd h List.not_mem_nil, fun _ h => absurd h List.not_mem_nil⟩ dkX9_hangingTo (by decide +kernel) (by rw [h.2.2.1]; exact q505_ok)
/-- NearSpell.Web.stepOn -/
def q506_M : rfM := ((⟨"NearSpell$Web", "stepOn", "(I)I"⟩, prog_11_method_8_code, 4, (some .int)), (1,22), ([.inr (.inl [61]),.inl ((1,9,1),none)],[]), [], [(some (.inl (((-2147483648),2147483647,1),none)),[],[])])
def q506_P : rfP := (flX9,csX9,lcX9,spX9,[q493_M],[],[(50,0,9)],([],[]))
def q506_U : rfU := []
set_option maxHeartbeats 8000000 in
def q506_N : List rfB := [(0,([(0,.inr (.inl [61])),(1,.inl ((1,9,1),none))],[],[]),(290,[0]),0),
  (4,([(0,.inr (.inl [61])),(1,.inl ((1,9,1),none)),(2,.inl (((-2147483648),2147483647,1),none)),(3,.inl ((0,14,1),none))],[],[]),(284,[(-19)]),0),
  (28,([(0,.inr (.inl [61])),(1,.inl ((1,9,1),none)),(2,.inl (((-2147483648),2147483647,1),none)),(3,.inl ((0,13,1),none))],[],[]),(268,[(-19)]),0)]
set_option maxRecDepth 100000 in
theorem q506_ok : rf_chkB q506_P q506_U wLay q506_M ddX9_stepOn [(13,[0])] [.inl 3] [0,4,28] 600 q506_N = true := by decide +kernel
set_option maxHeartbeats 4000000 in
theorem q506_met {G : rfG} (h : okG G) : rf_met G q506_M := rf_methodB h.1 (P := q506_P) (U := q506_U) (N := q506_N) ⟨wflT h flokX9, wcsT h csokX9, wlcT h lcokX9, spokX9 h, List.forall_mem_cons.mpr ⟨q493_met h, fun _ h => absurd h List.not_mem_nil⟩, fun _ h => absurd h List.not_mem_nil, List.forall_mem_cons.mpr ⟨fun M hM => Option.some.inj (show some q493_M = some M from hM) ▸ wlkV (lkX9_50 h) q493_M rfl rfl, fun _ h => absurd h List.not_mem_nil⟩, fun _ h => absurd h List.not_mem_nil, fun _ h => absurd h List.not_mem_nil⟩ dkX9_stepOn (by decide +kernel) (by rw [h.2.2.1]; exact q506_ok)
/-- NearSpell.Web.hangingTo -/
def q507_M : rfM := ((⟨"NearSpell$Web", "hangingTo", "(I)I"⟩, prog_11_method_7_code, 4, (some .int)), (2,45), ([.inr (.inl [61]),.inl ((1,9,1),none)],[]), [], [(some (.inl (((-2147483648),2147483647,1),none)),[],[])])
def q507_P : rfP := (flX9,csX9,lcX9,spX9,[q500_M],[],[(66,0,9)],([],[]))
def q507_U : rfU := []
set_option maxHeartbeats 8000000 in
def q507_N : List rfB := [(0,([(0,.inr (.inl [61])),(1,.inl ((1,9,1),none))],[],[]),(155,[0]),0),
  (4,([(0,.inr (.inl [61])),(1,.inl ((1,9,1),none)),(2,.inl (((-2147483648),2147483647,1),none)),(3,.inl ((0,14,1),none))],[],[]),(149,[(-10)]),0)]
set_option maxRecDepth 100000 in
theorem q507_ok : rf_chkB q507_P q507_U wLay q507_M ddX9_hangingTo [(12,[0])] [.inl 3] [0,4] 600 q507_N = true := by decide +kernel
set_option maxHeartbeats 4000000 in
theorem q507_met {G : rfG} (h : okG G) : rf_met G q507_M := rf_methodB h.1 (P := q507_P) (U := q507_U) (N := q507_N) ⟨wflT h flokX9, wcsT h csokX9, wlcT h lcokX9, spokX9 h, List.forall_mem_cons.mpr ⟨q500_met h, fun _ h => absurd h List.not_mem_nil⟩, fun _ h => absurd h List.not_mem_nil, List.forall_mem_cons.mpr ⟨fun M hM => Option.some.inj (show some q500_M = some M from hM) ▸ wlkV (lkX9_66 h) q500_M rfl rfl, fun _ h => absurd h List.not_mem_nil⟩, fun _ h => absurd h List.not_mem_nil, fun _ h => absurd h List.not_mem_nil⟩ dkX9_hangingTo (by decide +kernel) (by rw [h.2.2.1]; exact q507_ok)
/-- NearSpell.Web.stepOn -/
def q508_M : rfM := ((⟨"NearSpell$Web", "stepOn", "(I)I"⟩, prog_11_method_8_code, 4, (some .int)), (1,22), ([.inr (.inl [61]),.inl ((1,9999,1),none)],[]), [], [(some (.inl (((-2147483648),2147483647,1),none)),[],[])])
def q508_P : rfP := (flX9,csX9,lcX9,spX9,[q493_M],[],[(50,0,9)],([],[]))
def q508_U : rfU := []
set_option maxHeartbeats 8000000 in
def q508_N : List rfB := [(0,([(0,.inr (.inl [61])),(1,.inl ((1,9999,1),none))],[],[]),(290,[0]),0),
  (4,([(0,.inr (.inl [61])),(1,.inl ((1,9999,1),none)),(2,.inl (((-2147483648),2147483647,1),none)),(3,.inl ((0,14,1),none))],[],[]),(284,[(-19)]),0),
  (28,([(0,.inr (.inl [61])),(1,.inl ((1,9999,1),none)),(2,.inl (((-2147483648),2147483647,1),none)),(3,.inl ((0,13,1),none))],[],[]),(268,[(-19)]),0)]
set_option maxRecDepth 100000 in
theorem q508_ok : rf_chkB q508_P q508_U wLay q508_M ddX9_stepOn [(13,[0])] [.inl 3] [0,4,28] 600 q508_N = true := by decide +kernel
set_option maxHeartbeats 4000000 in
theorem q508_met {G : rfG} (h : okG G) : rf_met G q508_M := rf_methodB h.1 (P := q508_P) (U := q508_U) (N := q508_N) ⟨wflT h flokX9, wcsT h csokX9, wlcT h lcokX9, spokX9 h, List.forall_mem_cons.mpr ⟨q493_met h, fun _ h => absurd h List.not_mem_nil⟩, fun _ h => absurd h List.not_mem_nil, List.forall_mem_cons.mpr ⟨fun M hM => Option.some.inj (show some q493_M = some M from hM) ▸ wlkV (lkX9_50 h) q493_M rfl rfl, fun _ h => absurd h List.not_mem_nil⟩, fun _ h => absurd h List.not_mem_nil, fun _ h => absurd h List.not_mem_nil⟩ dkX9_stepOn (by decide +kernel) (by rw [h.2.2.1]; exact q508_ok)
/-- NearSpell.Web.hangingTo -/
def q509_M : rfM := ((⟨"NearSpell$Web", "hangingTo", "(I)I"⟩, prog_11_method_7_code, 4, (some .int)), (2,45), ([.inr (.inl [61]),.inl ((1,9999,1),none)],[]), [], [(some (.inl (((-2147483648),2147483647,1),none)),[],[])])
def q509_P : rfP := (flX9,csX9,lcX9,spX9,[q500_M],[],[(66,0,9)],([],[]))
def q509_U : rfU := []
set_option maxHeartbeats 8000000 in
def q509_N : List rfB := [(0,([(0,.inr (.inl [61])),(1,.inl ((1,9999,1),none))],[],[]),(155,[0]),0),
  (4,([(0,.inr (.inl [61])),(1,.inl ((1,9999,1),none)),(2,.inl (((-2147483648),2147483647,1),none)),(3,.inl ((0,14,1),none))],[],[]),(149,[(-10)]),0)]
set_option maxRecDepth 100000 in
theorem q509_ok : rf_chkB q509_P q509_U wLay q509_M ddX9_hangingTo [(12,[0])] [.inl 3] [0,4] 600 q509_N = true := by decide +kernel
set_option maxHeartbeats 4000000 in
theorem q509_met {G : rfG} (h : okG G) : rf_met G q509_M := rf_methodB h.1 (P := q509_P) (U := q509_U) (N := q509_N) ⟨wflT h flokX9, wcsT h csokX9, wlcT h lcokX9, spokX9 h, List.forall_mem_cons.mpr ⟨q500_met h, fun _ h => absurd h List.not_mem_nil⟩, fun _ h => absurd h List.not_mem_nil, List.forall_mem_cons.mpr ⟨fun M hM => Option.some.inj (show some q500_M = some M from hM) ▸ wlkV (lkX9_66 h) q500_M rfl rfl, fun _ h => absurd h List.not_mem_nil⟩, fun _ h => absurd h List.not_mem_nil, fun _ h => absurd h List.not_mem_nil⟩ dkX9_hangingTo (by decide +kernel) (by rw [h.2.2.1]; exact q509_ok)
/-- NearSpell.Web.countGroups -/
def q510_M : rfM := ((⟨"NearSpell$Web", "countGroups", "(I)I"⟩, prog_11_method_6_code, 5, (some .int)), (6,138), ([.inr (.inl [61]),.inl ((0,6,1),none)],[]), [(17,0),(18,0),(19,0),(20,4),(20,5),(59,0),(60,0),(61,5)], [(some (.inl (((-2147483648),2147483647,1),none)),[],[((61,4),(0,16383,1),none)])])
def ddX9_countGroups : List (Nat × Instr × Nat) := [(0,.aload_n 0,1),(1,.iload_n 1,1),(2,.invokevirtual 60,3),(5,.aload_n 0,1),(6,.getfield 26,3),(9,.istore_n 2,1),(10,.iconst 0,1),(11,.istore_n 3,1),(12,.iconst 0,1),(13,.istore 4,2),(15,.iload 4,2),(17,.bipush 14,2),(19,.if_icmp .ge 35,3),(22,.aload_n 0,1),(23,.iload_n 2,1),(24,.iload 4,2),(26,.invokevirtual 50,3),(29,.ifCond .eq 19,3),(32,.iload_n 2,1),(33,.aload_n 0,1),(34,.iconst 1,1),(35,.iload 4,2),(37,.ishl,1),(38,.invokevirtual 63,3),(41,.iconst (-1),1),(42,.ixor,1),(43,.iand,1),(44,.istore_n 2,1),(45,.iinc 3 1,3),(48,.iinc 4 1,3),(51,.goto (-36),3),(54,.iload_n 3,1),(55,.ireturn,1)]
set_option maxRecDepth 100000 in
theorem dkX9_countGroups : rf_decs prog_11_method_6_code ddX9_countGroups := rf_decs_of (by decide +kernel)
def q510_P : rfP := (flX9,csX9,lcX9,spX9,[q498_M,q493_M,q509_M],[],[(50,1,9),(60,0,9),(63,2,9)],([],[]))
def q510_U : rfU := []
set_option maxHeartbeats 8000000 in
def q510_N : List rfB := [(0,([(0,.inr (.inl [61])),(1,.inl ((0,6,1),none))],[],[]),(356,[0]),0),
  (15,([(0,.inr (.inl [61])),(1,.inl ((0,6,1),none)),(2,.inl ((0,16383,1),none)),(3,.inl (((-2147483648),2147483647,1),none)),(4,.inl ((0,14,1),none))],[],[((61,4),(0,16383,1),none)]),(344,[(-23)]),0),
  (48,([(0,.inr (.inl [61])),(1,.inl ((0,6,1),none)),(2,.inl ((0,16383,1),none)),(3,.inl (((-2147483648),2147483647,1),none)),(4,.inl ((0,13,1),none))],[],[((61,4),(0,16383,1),none)]),(324,[(-23)]),0)]
set_option maxRecDepth 100000 in
theorem q510_ok : rf_chkB q510_P q510_U wLay q510_M ddX9_countGroups [(2,[0]),(26,[1]),(38,[2])] [.inl 4] [0,15,48] 600 q510_N = true := by decide +kernel
set_option maxHeartbeats 4000000 in
theorem q510_met {G : rfG} (h : okG G) : rf_met G q510_M := rf_methodB h.1 (P := q510_P) (U := q510_U) (N := q510_N) ⟨wflT h flokX9, wcsT h csokX9, wlcT h lcokX9, spokX9 h, List.forall_mem_cons.mpr ⟨q498_met h, List.forall_mem_cons.mpr ⟨q493_met h, List.forall_mem_cons.mpr ⟨q509_met h, fun _ h => absurd h List.not_mem_nil⟩⟩⟩, fun _ h => absurd h List.not_mem_nil, List.forall_mem_cons.mpr ⟨fun M hM => Option.some.inj (show some q493_M = some M from hM) ▸ wlkV (lkX9_50 h) q493_M rfl rfl, List.forall_mem_cons.mpr ⟨fun M hM => Option.some.inj (show some q498_M = some M from hM) ▸ wlkV (lkX9_60 h) q498_M rfl rfl, List.forall_mem_cons.mpr ⟨fun M hM => Option.some.inj (show some q509_M = some M from hM) ▸ wlkV (lkX9_63 h) q509_M rfl rfl, fun _ h => absurd h List.not_mem_nil⟩⟩⟩, fun _ h => absurd h List.not_mem_nil, fun _ h => absurd h List.not_mem_nil⟩ dkX9_countGroups (by decide +kernel) (by rw [h.2.2.1]; exact q510_ok)
/-- NearSpell.groups -/
def q511_M : rfM := ((⟨"NearSpell", "groups", "(I)I"⟩, prog_1_method_27_code, 2, (some .int)), (7,162), ([.inr (.inl [70]),.inl (((-2147483648),2147483647,1),none)],[]), [(17,0),(18,0),(19,0),(20,4),(20,5),(59,0),(60,0),(61,5)], [(some (.inl (((-2147483648),2147483647,1),none)),[],[])])
def ddX11_groups : List (Nat × Instr × Nat) := [(0,.iload_n 1,1),(1,.invokestatic 232,3),(4,.ifCond .eq 14,3),(7,.aload_n 0,1),(8,.getfield 83,3),(11,.iload_n 1,1),(12,.invokevirtual 270,3),(15,.goto 4,3),(18,.iconst (-1),1),(19,.ireturn,1)]
set_option maxRecDepth 100000 in
theorem dkX11_groups : rf_decs prog_1_method_27_code ddX11_groups := rf_decs_of (by decide +kernel)
def q511_P : rfP := (flX11,csX11,lcX11,spX11,[q437_M,q510_M],[(232,0)],[(270,1,9)],([],[]))
def q511_U : rfU := []
set_option maxHeartbeats 8000000 in
def q511_N : List rfB := [(0,([(0,.inr (.inl [70])),(1,.inl (((-2147483648),2147483647,1),none))],[],[]),(11,[]),0)]
set_option maxRecDepth 100000 in
theorem q511_ok : rf_chkB q511_P q511_U wLay q511_M ddX11_groups [(1,[0]),(12,[1])] [] [0] 600 q511_N = true := by decide +kernel
set_option maxHeartbeats 4000000 in
theorem q511_met {G : rfG} (h : okG G) : rf_met G q511_M := rf_methodB h.1 (P := q511_P) (U := q511_U) (N := q511_N) ⟨wflT h flokX11, wcsT h csokX11, wlcT h lcokX11, spokX11 h, List.forall_mem_cons.mpr ⟨q437_met h, List.forall_mem_cons.mpr ⟨q510_met h, fun _ h => absurd h List.not_mem_nil⟩⟩, List.forall_mem_cons.mpr ⟨fun M hM => Option.some.inj (show some q437_M = some M from hM) ▸ wlkS (lkX11_232 h) q437_M rfl rfl, fun _ h => absurd h List.not_mem_nil⟩, List.forall_mem_cons.mpr ⟨fun M hM => Option.some.inj (show some q510_M = some M from hM) ▸ wlkV (lkX11_270 h) q510_M rfl rfl, fun _ h => absurd h List.not_mem_nil⟩, fun _ h => absurd h List.not_mem_nil, fun _ h => absurd h List.not_mem_nil⟩ dkX11_groups (by decide +kernel) (by rw [h.2.2.1]; exact q511_ok)
/-- NearSpell.Web.mostOf -/
def q512_M : rfM := ((⟨"NearSpell$Web", "mostOf", "(II)I"⟩, prog_11_method_14_code, 5, (some .int)), (0,0), ([.inr (.inl [61]),.inl (((-2147483648),2147483647,1),none),.inl (((-1),(-1),0),none)],[]), [], [(some (.inl ((0,0,0),none)),[],[])])
def ddX9_mostOf : List (Nat × Instr × Nat) := [(0,.iload_n 2,1),(1,.ifCond .lt 9,3),(4,.iload_n 2,1),(5,.bipush 14,2),(7,.if_icmp .lt 5,3),(10,.iconst 0,1),(11,.ireturn,1),(12,.aload_n 0,1),(13,.iload_n 1,1),(14,.iload_n 2,1),(15,.invokevirtual 50,3),(18,.ifCond .ne 12,3),(21,.aload_n 0,1),(22,.iload_n 1,1),(23,.iload_n 2,1),(24,.iconst 1,1),(25,.isub,1),(26,.invokevirtual 72,3),(29,.ireturn,1),(30,.iload_n 1,1),(31,.iconst 1,1),(32,.iload_n 2,1),(33,.ishl,1),(34,.iconst (-1),1),(35,.ixor,1),(36,.iand,1),(37,.istore_n 3,1),(38,.iconst 1,1),(39,.aload_n 0,1),(40,.iload_n 3,1),(41,.aload_n 0,1),(42,.getfield 23,3),(45,.iload_n 2,1),(46,.iaload,1),(47,.iconst (-1),1),(48,.ixor,1),(49,.iand,1),(50,.iload_n 2,1),(51,.iconst 1,1),(52,.isub,1),(53,.invokevirtual 72,3),(56,.iadd,1),(57,.istore 4,2),(59,.iload_n 3,1),(60,.aload_n 0,1),(61,.getfield 23,3),(64,.iload_n 2,1),(65,.iaload,1),(66,.iand,1),(67,.invokestatic 76,3),(70,.iconst 2,1),(71,.if_icmp .ge 6,3),(74,.iload 4,2),(76,.ireturn,1),(77,.iload 4,2),(79,.aload_n 0,1),(80,.iload_n 3,1),(81,.iload_n 2,1),(82,.iconst 1,1),(83,.isub,1),(84,.invokevirtual 72,3),(87,.invokestatic 81,3),(90,.ireturn,1)]
set_option maxRecDepth 100000 in
theorem dkX9_mostOf : rf_decs prog_11_method_14_code ddX9_mostOf := rf_decs_of (by decide +kernel)
def q512_P : rfP := (flX9,csX9,lcX9,spX9,[],[],[],([],[]))
def q512_U : rfU := []
set_option maxHeartbeats 8000000 in
def q512_N : List rfB := [(0,([(0,.inr (.inl [61])),(1,.inl (((-2147483648),2147483647,1),none)),(2,.inl (((-1),(-1),0),none))],[],[]),(3,[]),0)]
set_option maxRecDepth 100000 in
theorem q512_ok : rf_chkB q512_P q512_U wLay q512_M ddX9_mostOf [] [] [0] 600 q512_N = true := by decide +kernel
set_option maxHeartbeats 4000000 in
theorem q512_met {G : rfG} (h : okG G) : rf_met G q512_M := rf_methodB h.1 (P := q512_P) (U := q512_U) (N := q512_N) ⟨wflT h flokX9, wcsT h csokX9, wlcT h lcokX9, spokX9 h, fun _ h => absurd h List.not_mem_nil, fun _ h => absurd h List.not_mem_nil, fun _ h => absurd h List.not_mem_nil, fun _ h => absurd h List.not_mem_nil, fun _ h => absurd h List.not_mem_nil⟩ dkX9_mostOf (by decide +kernel) (by rw [h.2.2.1]; exact q512_ok)
/-- java/lang/Integer.bitCount -/
def q513_M : rfM := ((⟨"java/lang/Integer", "bitCount", "(I)I"⟩, prog_16_method_49_code, 1, (some .int)), (0,0), ([.inl (((-2147483648),2147483647,1),none)],[]), [], [(some (.inl ((0,63,1),none)),[],[])])
def ddJ6_bitCount_0f7a4 : List (Nat × Instr × Nat) := [(0,.iload_n 0,1),(1,.iload_n 0,1),(2,.iconst 1,1),(3,.iushr,1),(4,.ldc_w 265,3),(7,.iand,1),(8,.isub,1),(9,.istore_n 0,1),(10,.iload_n 0,1),(11,.ldc_w 266,3),(14,.iand,1),(15,.iload_n 0,1),(16,.iconst 2,1),(17,.iushr,1),(18,.ldc_w 266,3),(21,.iand,1),(22,.iadd,1),(23,.istore_n 0,1),(24,.iload_n 0,1),(25,.iload_n 0,1),(26,.iconst 4,1),(27,.iushr,1),(28,.iadd,1),(29,.ldc_w 267,3),(32,.iand,1),(33,.istore_n 0,1),(34,.iload_n 0,1),(35,.iload_n 0,1),(36,.bipush 8,2),(38,.iushr,1),(39,.iadd,1),(40,.istore_n 0,1),(41,.iload_n 0,1),(42,.iload_n 0,1),(43,.bipush 16,2),(45,.iushr,1),(46,.iadd,1),(47,.istore_n 0,1),(48,.iload_n 0,1),(49,.bipush 63,2),(51,.iand,1),(52,.ireturn,1)]
set_option maxRecDepth 100000 in
theorem dkJ6_bitCount_0f7a4 : rf_decs prog_16_method_49_code ddJ6_bitCount_0f7a4 := rf_decs_of (by decide +kernel)
def q513_P : rfP := (flJ6,csJ6,lcJ6,spJ6,[],[],[],([],[]))
def q513_U : rfU := []
set_option maxHeartbeats 8000000 in
def q513_N : List rfB := [(0,([(0,.inl (((-2147483648),2147483647,1),none))],[],[]),(41,[]),0)]
set_option maxRecDepth 100000 in
theorem q513_ok : rf_chkB q513_P q513_U wLay q513_M ddJ6_bitCount_0f7a4 [] [] [0] 600 q513_N = true := by decide +kernel
set_option maxHeartbeats 4000000 in
theorem q513_met {G : rfG} (h : okG G) : rf_met G q513_M := rf_methodB h.1 (P := q513_P) (U := q513_U) (N := q513_N) ⟨wflT h flokJ6, wcsT h csokJ6, wlcT h lcokJ6, spokJ6 h, fun _ h => absurd h List.not_mem_nil, fun _ h => absurd h List.not_mem_nil, fun _ h => absurd h List.not_mem_nil, fun _ h => absurd h List.not_mem_nil, fun _ h => absurd h List.not_mem_nil⟩ dkJ6_bitCount_0f7a4 (by decide +kernel) (by rw [h.2.2.1]; exact q513_ok)
/-- NearSpell.Web.mostOf -/
def q514_M : rfM := ((⟨"NearSpell$Web", "mostOf", "(II)I"⟩, prog_11_method_14_code, 5, (some .int)), (1,24), ([.inr (.inl [61]),.inl (((-2147483648),2147483647,1),none),.inl ((0,0,0),none)],[]), [], [(some (.inl ((0,1,1),none)),[],[])])
def q514_P : rfP := (flX9,csX9,lcX9,spX9,[q493_M,q512_M,q513_M],[(76,2)],[(50,0,9),(72,1,9)],([],[(81,0)]))
def q514_U : rfU := []
set_option maxHeartbeats 8000000 in
def q514_N : List rfB := [(0,([(0,.inr (.inl [61])),(1,.inl (((-2147483648),2147483647,1),none)),(2,.inl ((0,0,0),none))],[],[]),(61,[]),0)]
set_option maxRecDepth 100000 in
theorem q514_ok : rf_chkB q514_P q514_U wLay q514_M ddX9_mostOf [(15,[0]),(26,[1]),(53,[1]),(67,[2]),(84,[1])] [] [0] 600 q514_N = true := by decide +kernel
set_option maxHeartbeats 4000000 in
theorem q514_met {G : rfG} (h : okG G) : rf_met G q514_M := rf_methodB h.1 (P := q514_P) (U := q514_U) (N := q514_N) ⟨wflT h flokX9, wcsT h csokX9, wlcT h lcokX9, spokX9 h, List.forall_mem_cons.mpr ⟨q493_met h, List.forall_mem_cons.mpr ⟨q512_met h, List.forall_mem_cons.mpr ⟨q513_met h, fun _ h => absurd h List.not_mem_nil⟩⟩⟩, List.forall_mem_cons.mpr ⟨fun M hM => Option.some.inj (show some q513_M = some M from hM) ▸ wlkS (lkX9_76 h) q513_M rfl rfl, fun _ h => absurd h List.not_mem_nil⟩, List.forall_mem_cons.mpr ⟨fun M hM => Option.some.inj (show some q493_M = some M from hM) ▸ wlkV (lkX9_50 h) q493_M rfl rfl, List.forall_mem_cons.mpr ⟨fun M hM => Option.some.inj (show some q512_M = some M from hM) ▸ wlkV (lkX9_72 h) q512_M rfl rfl, fun _ h => absurd h List.not_mem_nil⟩⟩, fun _ h => absurd h List.not_mem_nil, List.forall_mem_cons.mpr ⟨⟨wmT h (wm130), fun _ => ⟨wmT h (wm1202), wmT h (wm652), wmT h (wm653)⟩, fun h => absurd h (by decide), fun h => absurd h (by decide)⟩, fun _ h => absurd h List.not_mem_nil⟩⟩ dkX9_mostOf (by decide +kernel) (by rw [h.2.2.1]; exact q514_ok)
/-- NearSpell.Web.mostOf -/
def q515_M : rfM := ((⟨"NearSpell$Web", "mostOf", "(II)I"⟩, prog_11_method_14_code, 5, (some .int)), (2,48), ([.inr (.inl [61]),.inl (((-2147483648),2147483647,1),none),.inl ((1,1,0),none)],[]), [], [(some (.inl ((0,2,1),none)),[],[])])
def q515_P : rfP := (flX9,csX9,lcX9,spX9,[q493_M,q514_M,q513_M],[(76,2)],[(50,0,9),(72,1,9)],([],[(81,0)]))
def q515_U : rfU := []
set_option maxHeartbeats 8000000 in
def q515_N : List rfB := [(0,([(0,.inr (.inl [61])),(1,.inl (((-2147483648),2147483647,1),none)),(2,.inl ((1,1,0),none))],[],[]),(61,[]),0)]
set_option maxRecDepth 100000 in
theorem q515_ok : rf_chkB q515_P q515_U wLay q515_M ddX9_mostOf [(15,[0]),(26,[1]),(53,[1]),(67,[2]),(84,[1])] [] [0] 600 q515_N = true := by decide +kernel
set_option maxHeartbeats 4000000 in
theorem q515_met {G : rfG} (h : okG G) : rf_met G q515_M := rf_methodB h.1 (P := q515_P) (U := q515_U) (N := q515_N) ⟨wflT h flokX9, wcsT h csokX9, wlcT h lcokX9, spokX9 h, List.forall_mem_cons.mpr ⟨q493_met h, List.forall_mem_cons.mpr ⟨q514_met h, List.forall_mem_cons.mpr ⟨q513_met h, fun _ h => absurd h List.not_mem_nil⟩⟩⟩, List.forall_mem_cons.mpr ⟨fun M hM => Option.some.inj (show some q513_M = some M from hM) ▸ wlkS (lkX9_76 h) q513_M rfl rfl, fun _ h => absurd h List.not_mem_nil⟩, List.forall_mem_cons.mpr ⟨fun M hM => Option.some.inj (show some q493_M = some M from hM) ▸ wlkV (lkX9_50 h) q493_M rfl rfl, List.forall_mem_cons.mpr ⟨fun M hM => Option.some.inj (show some q514_M = some M from hM) ▸ wlkV (lkX9_72 h) q514_M rfl rfl, fun _ h => absurd h List.not_mem_nil⟩⟩, fun _ h => absurd h List.not_mem_nil, List.forall_mem_cons.mpr ⟨⟨wmT h (wm130), fun _ => ⟨wmT h (wm1202), wmT h (wm652), wmT h (wm653)⟩, fun h => absurd h (by decide), fun h => absurd h (by decide)⟩, fun _ h => absurd h List.not_mem_nil⟩⟩ dkX9_mostOf (by decide +kernel) (by rw [h.2.2.1]; exact q515_ok)
/-- NearSpell.Web.mostOf -/
def q516_M : rfM := ((⟨"NearSpell$Web", "mostOf", "(II)I"⟩, prog_11_method_14_code, 5, (some .int)), (3,72), ([.inr (.inl [61]),.inl (((-2147483648),2147483647,1),none),.inl ((2,2,0),none)],[]), [], [(some (.inl ((0,3,1),none)),[],[])])
def q516_P : rfP := (flX9,csX9,lcX9,spX9,[q493_M,q515_M,q513_M],[(76,2)],[(50,0,9),(72,1,9)],([],[(81,0)]))
def q516_U : rfU := []
set_option maxHeartbeats 8000000 in
def q516_N : List rfB := [(0,([(0,.inr (.inl [61])),(1,.inl (((-2147483648),2147483647,1),none)),(2,.inl ((2,2,0),none))],[],[]),(61,[]),0)]
set_option maxRecDepth 100000 in
theorem q516_ok : rf_chkB q516_P q516_U wLay q516_M ddX9_mostOf [(15,[0]),(26,[1]),(53,[1]),(67,[2]),(84,[1])] [] [0] 600 q516_N = true := by decide +kernel
set_option maxHeartbeats 4000000 in
theorem q516_met {G : rfG} (h : okG G) : rf_met G q516_M := rf_methodB h.1 (P := q516_P) (U := q516_U) (N := q516_N) ⟨wflT h flokX9, wcsT h csokX9, wlcT h lcokX9, spokX9 h, List.forall_mem_cons.mpr ⟨q493_met h, List.forall_mem_cons.mpr ⟨q515_met h, List.forall_mem_cons.mpr ⟨q513_met h, fun _ h => absurd h List.not_mem_nil⟩⟩⟩, List.forall_mem_cons.mpr ⟨fun M hM => Option.some.inj (show some q513_M = some M from hM) ▸ wlkS (lkX9_76 h) q513_M rfl rfl, fun _ h => absurd h List.not_mem_nil⟩, List.forall_mem_cons.mpr ⟨fun M hM => Option.some.inj (show some q493_M = some M from hM) ▸ wlkV (lkX9_50 h) q493_M rfl rfl, List.forall_mem_cons.mpr ⟨fun M hM => Option.some.inj (show some q515_M = some M from hM) ▸ wlkV (lkX9_72 h) q515_M rfl rfl, fun _ h => absurd h List.not_mem_nil⟩⟩, fun _ h => absurd h List.not_mem_nil, List.forall_mem_cons.mpr ⟨⟨wmT h (wm130), fun _ => ⟨wmT h (wm1202), wmT h (wm652), wmT h (wm653)⟩, fun h => absurd h (by decide), fun h => absurd h (by decide)⟩, fun _ h => absurd h List.not_mem_nil⟩⟩ dkX9_mostOf (by decide +kernel) (by rw [h.2.2.1]; exact q516_ok)
/-- NearSpell.Web.mostOf -/
def q517_M : rfM := ((⟨"NearSpell$Web", "mostOf", "(II)I"⟩, prog_11_method_14_code, 5, (some .int)), (4,96), ([.inr (.inl [61]),.inl (((-2147483648),2147483647,1),none),.inl ((3,3,0),none)],[]), [], [(some (.inl ((0,4,1),none)),[],[])])
def q517_P : rfP := (flX9,csX9,lcX9,spX9,[q493_M,q516_M,q513_M],[(76,2)],[(50,0,9),(72,1,9)],([],[(81,0)]))
def q517_U : rfU := []
set_option maxHeartbeats 8000000 in
def q517_N : List rfB := [(0,([(0,.inr (.inl [61])),(1,.inl (((-2147483648),2147483647,1),none)),(2,.inl ((3,3,0),none))],[],[]),(61,[]),0)]
set_option maxRecDepth 100000 in
theorem q517_ok : rf_chkB q517_P q517_U wLay q517_M ddX9_mostOf [(15,[0]),(26,[1]),(53,[1]),(67,[2]),(84,[1])] [] [0] 600 q517_N = true := by decide +kernel
set_option maxHeartbeats 4000000 in
theorem q517_met {G : rfG} (h : okG G) : rf_met G q517_M := rf_methodB h.1 (P := q517_P) (U := q517_U) (N := q517_N) ⟨wflT h flokX9, wcsT h csokX9, wlcT h lcokX9, spokX9 h, List.forall_mem_cons.mpr ⟨q493_met h, List.forall_mem_cons.mpr ⟨q516_met h, List.forall_mem_cons.mpr ⟨q513_met h, fun _ h => absurd h List.not_mem_nil⟩⟩⟩, List.forall_mem_cons.mpr ⟨fun M hM => Option.some.inj (show some q513_M = some M from hM) ▸ wlkS (lkX9_76 h) q513_M rfl rfl, fun _ h => absurd h List.not_mem_nil⟩, List.forall_mem_cons.mpr ⟨fun M hM => Option.some.inj (show some q493_M = some M from hM) ▸ wlkV (lkX9_50 h) q493_M rfl rfl, List.forall_mem_cons.mpr ⟨fun M hM => Option.some.inj (show some q516_M = some M from hM) ▸ wlkV (lkX9_72 h) q516_M rfl rfl, fun _ h => absurd h List.not_mem_nil⟩⟩, fun _ h => absurd h List.not_mem_nil, List.forall_mem_cons.mpr ⟨⟨wmT h (wm130), fun _ => ⟨wmT h (wm1202), wmT h (wm652), wmT h (wm653)⟩, fun h => absurd h (by decide), fun h => absurd h (by decide)⟩, fun _ h => absurd h List.not_mem_nil⟩⟩ dkX9_mostOf (by decide +kernel) (by rw [h.2.2.1]; exact q517_ok)
/-- NearSpell.Web.mostOf -/
def q518_M : rfM := ((⟨"NearSpell$Web", "mostOf", "(II)I"⟩, prog_11_method_14_code, 5, (some .int)), (5,120), ([.inr (.inl [61]),.inl (((-2147483648),2147483647,1),none),.inl ((4,4,0),none)],[]), [], [(some (.inl ((0,5,1),none)),[],[])])
def q518_P : rfP := (flX9,csX9,lcX9,spX9,[q493_M,q517_M,q513_M],[(76,2)],[(50,0,9),(72,1,9)],([],[(81,0)]))
def q518_U : rfU := []
set_option maxHeartbeats 8000000 in
def q518_N : List rfB := [(0,([(0,.inr (.inl [61])),(1,.inl (((-2147483648),2147483647,1),none)),(2,.inl ((4,4,0),none))],[],[]),(61,[]),0)]
set_option maxRecDepth 100000 in
theorem q518_ok : rf_chkB q518_P q518_U wLay q518_M ddX9_mostOf [(15,[0]),(26,[1]),(53,[1]),(67,[2]),(84,[1])] [] [0] 600 q518_N = true := by decide +kernel
set_option maxHeartbeats 4000000 in
theorem q518_met {G : rfG} (h : okG G) : rf_met G q518_M := rf_methodB h.1 (P := q518_P) (U := q518_U) (N := q518_N) ⟨wflT h flokX9, wcsT h csokX9, wlcT h lcokX9, spokX9 h, List.forall_mem_cons.mpr ⟨q493_met h, List.forall_mem_cons.mpr ⟨q517_met h, List.forall_mem_cons.mpr ⟨q513_met h, fun _ h => absurd h List.not_mem_nil⟩⟩⟩, List.forall_mem_cons.mpr ⟨fun M hM => Option.some.inj (show some q513_M = some M from hM) ▸ wlkS (lkX9_76 h) q513_M rfl rfl, fun _ h => absurd h List.not_mem_nil⟩, List.forall_mem_cons.mpr ⟨fun M hM => Option.some.inj (show some q493_M = some M from hM) ▸ wlkV (lkX9_50 h) q493_M rfl rfl, List.forall_mem_cons.mpr ⟨fun M hM => Option.some.inj (show some q517_M = some M from hM) ▸ wlkV (lkX9_72 h) q517_M rfl rfl, fun _ h => absurd h List.not_mem_nil⟩⟩, fun _ h => absurd h List.not_mem_nil, List.forall_mem_cons.mpr ⟨⟨wmT h (wm130), fun _ => ⟨wmT h (wm1202), wmT h (wm652), wmT h (wm653)⟩, fun h => absurd h (by decide), fun h => absurd h (by decide)⟩, fun _ h => absurd h List.not_mem_nil⟩⟩ dkX9_mostOf (by decide +kernel) (by rw [h.2.2.1]; exact q518_ok)
/-- NearSpell.Web.mostOf -/
def q519_M : rfM := ((⟨"NearSpell$Web", "mostOf", "(II)I"⟩, prog_11_method_14_code, 5, (some .int)), (6,144), ([.inr (.inl [61]),.inl (((-2147483648),2147483647,1),none),.inl ((5,5,0),none)],[]), [], [(some (.inl ((0,6,1),none)),[],[])])
def q519_P : rfP := (flX9,csX9,lcX9,spX9,[q493_M,q518_M,q513_M],[(76,2)],[(50,0,9),(72,1,9)],([],[(81,0)]))
def q519_U : rfU := []
set_option maxHeartbeats 8000000 in
def q519_N : List rfB := [(0,([(0,.inr (.inl [61])),(1,.inl (((-2147483648),2147483647,1),none)),(2,.inl ((5,5,0),none))],[],[]),(61,[]),0)]
set_option maxRecDepth 100000 in
theorem q519_ok : rf_chkB q519_P q519_U wLay q519_M ddX9_mostOf [(15,[0]),(26,[1]),(53,[1]),(67,[2]),(84,[1])] [] [0] 600 q519_N = true := by decide +kernel
set_option maxHeartbeats 4000000 in
theorem q519_met {G : rfG} (h : okG G) : rf_met G q519_M := rf_methodB h.1 (P := q519_P) (U := q519_U) (N := q519_N) ⟨wflT h flokX9, wcsT h csokX9, wlcT h lcokX9, spokX9 h, List.forall_mem_cons.mpr ⟨q493_met h, List.forall_mem_cons.mpr ⟨q518_met h, List.forall_mem_cons.mpr ⟨q513_met h, fun _ h => absurd h List.not_mem_nil⟩⟩⟩, List.forall_mem_cons.mpr ⟨fun M hM => Option.some.inj (show some q513_M = some M from hM) ▸ wlkS (lkX9_76 h) q513_M rfl rfl, fun _ h => absurd h List.not_mem_nil⟩, List.forall_mem_cons.mpr ⟨fun M hM => Option.some.inj (show some q493_M = some M from hM) ▸ wlkV (lkX9_50 h) q493_M rfl rfl, List.forall_mem_cons.mpr ⟨fun M hM => Option.some.inj (show some q518_M = some M from hM) ▸ wlkV (lkX9_72 h) q518_M rfl rfl, fun _ h => absurd h List.not_mem_nil⟩⟩, fun _ h => absurd h List.not_mem_nil, List.forall_mem_cons.mpr ⟨⟨wmT h (wm130), fun _ => ⟨wmT h (wm1202), wmT h (wm652), wmT h (wm653)⟩, fun h => absurd h (by decide), fun h => absurd h (by decide)⟩, fun _ h => absurd h List.not_mem_nil⟩⟩ dkX9_mostOf (by decide +kernel) (by rw [h.2.2.1]; exact q519_ok)
/-- NearSpell.Web.mostOf -/
def q520_M : rfM := ((⟨"NearSpell$Web", "mostOf", "(II)I"⟩, prog_11_method_14_code, 5, (some .int)), (7,168), ([.inr (.inl [61]),.inl (((-2147483648),2147483647,1),none),.inl ((6,6,0),none)],[]), [], [(some (.inl ((0,7,1),none)),[],[])])
def q520_P : rfP := (flX9,csX9,lcX9,spX9,[q493_M,q519_M,q513_M],[(76,2)],[(50,0,9),(72,1,9)],([],[(81,0)]))
def q520_U : rfU := []
set_option maxHeartbeats 8000000 in
def q520_N : List rfB := [(0,([(0,.inr (.inl [61])),(1,.inl (((-2147483648),2147483647,1),none)),(2,.inl ((6,6,0),none))],[],[]),(61,[]),0)]
set_option maxRecDepth 100000 in
theorem q520_ok : rf_chkB q520_P q520_U wLay q520_M ddX9_mostOf [(15,[0]),(26,[1]),(53,[1]),(67,[2]),(84,[1])] [] [0] 600 q520_N = true := by decide +kernel
set_option maxHeartbeats 4000000 in
theorem q520_met {G : rfG} (h : okG G) : rf_met G q520_M := rf_methodB h.1 (P := q520_P) (U := q520_U) (N := q520_N) ⟨wflT h flokX9, wcsT h csokX9, wlcT h lcokX9, spokX9 h, List.forall_mem_cons.mpr ⟨q493_met h, List.forall_mem_cons.mpr ⟨q519_met h, List.forall_mem_cons.mpr ⟨q513_met h, fun _ h => absurd h List.not_mem_nil⟩⟩⟩, List.forall_mem_cons.mpr ⟨fun M hM => Option.some.inj (show some q513_M = some M from hM) ▸ wlkS (lkX9_76 h) q513_M rfl rfl, fun _ h => absurd h List.not_mem_nil⟩, List.forall_mem_cons.mpr ⟨fun M hM => Option.some.inj (show some q493_M = some M from hM) ▸ wlkV (lkX9_50 h) q493_M rfl rfl, List.forall_mem_cons.mpr ⟨fun M hM => Option.some.inj (show some q519_M = some M from hM) ▸ wlkV (lkX9_72 h) q519_M rfl rfl, fun _ h => absurd h List.not_mem_nil⟩⟩, fun _ h => absurd h List.not_mem_nil, List.forall_mem_cons.mpr ⟨⟨wmT h (wm130), fun _ => ⟨wmT h (wm1202), wmT h (wm652), wmT h (wm653)⟩, fun h => absurd h (by decide), fun h => absurd h (by decide)⟩, fun _ h => absurd h List.not_mem_nil⟩⟩ dkX9_mostOf (by decide +kernel) (by rw [h.2.2.1]; exact q520_ok)
/-- NearSpell.Web.mostOf -/
def q521_M : rfM := ((⟨"NearSpell$Web", "mostOf", "(II)I"⟩, prog_11_method_14_code, 5, (some .int)), (8,192), ([.inr (.inl [61]),.inl (((-2147483648),2147483647,1),none),.inl ((7,7,0),none)],[]), [], [(some (.inl ((0,8,1),none)),[],[])])
def q521_P : rfP := (flX9,csX9,lcX9,spX9,[q493_M,q520_M,q513_M],[(76,2)],[(50,0,9),(72,1,9)],([],[(81,0)]))
def q521_U : rfU := []
set_option maxHeartbeats 8000000 in
def q521_N : List rfB := [(0,([(0,.inr (.inl [61])),(1,.inl (((-2147483648),2147483647,1),none)),(2,.inl ((7,7,0),none))],[],[]),(61,[]),0)]
set_option maxRecDepth 100000 in
theorem q521_ok : rf_chkB q521_P q521_U wLay q521_M ddX9_mostOf [(15,[0]),(26,[1]),(53,[1]),(67,[2]),(84,[1])] [] [0] 600 q521_N = true := by decide +kernel
set_option maxHeartbeats 4000000 in
theorem q521_met {G : rfG} (h : okG G) : rf_met G q521_M := rf_methodB h.1 (P := q521_P) (U := q521_U) (N := q521_N) ⟨wflT h flokX9, wcsT h csokX9, wlcT h lcokX9, spokX9 h, List.forall_mem_cons.mpr ⟨q493_met h, List.forall_mem_cons.mpr ⟨q520_met h, List.forall_mem_cons.mpr ⟨q513_met h, fun _ h => absurd h List.not_mem_nil⟩⟩⟩, List.forall_mem_cons.mpr ⟨fun M hM => Option.some.inj (show some q513_M = some M from hM) ▸ wlkS (lkX9_76 h) q513_M rfl rfl, fun _ h => absurd h List.not_mem_nil⟩, List.forall_mem_cons.mpr ⟨fun M hM => Option.some.inj (show some q493_M = some M from hM) ▸ wlkV (lkX9_50 h) q493_M rfl rfl, List.forall_mem_cons.mpr ⟨fun M hM => Option.some.inj (show some q520_M = some M from hM) ▸ wlkV (lkX9_72 h) q520_M rfl rfl, fun _ h => absurd h List.not_mem_nil⟩⟩, fun _ h => absurd h List.not_mem_nil, List.forall_mem_cons.mpr ⟨⟨wmT h (wm130), fun _ => ⟨wmT h (wm1202), wmT h (wm652), wmT h (wm653)⟩, fun h => absurd h (by decide), fun h => absurd h (by decide)⟩, fun _ h => absurd h List.not_mem_nil⟩⟩ dkX9_mostOf (by decide +kernel) (by rw [h.2.2.1]; exact q521_ok)
/-- NearSpell.Web.mostOf -/
def q522_M : rfM := ((⟨"NearSpell$Web", "mostOf", "(II)I"⟩, prog_11_method_14_code, 5, (some .int)), (9,216), ([.inr (.inl [61]),.inl (((-2147483648),2147483647,1),none),.inl ((8,8,0),none)],[]), [], [(some (.inl ((0,9,1),none)),[],[])])
def q522_P : rfP := (flX9,csX9,lcX9,spX9,[q493_M,q521_M,q513_M],[(76,2)],[(50,0,9),(72,1,9)],([],[(81,0)]))
def q522_U : rfU := []
set_option maxHeartbeats 8000000 in
def q522_N : List rfB := [(0,([(0,.inr (.inl [61])),(1,.inl (((-2147483648),2147483647,1),none)),(2,.inl ((8,8,0),none))],[],[]),(61,[]),0)]
set_option maxRecDepth 100000 in
theorem q522_ok : rf_chkB q522_P q522_U wLay q522_M ddX9_mostOf [(15,[0]),(26,[1]),(53,[1]),(67,[2]),(84,[1])] [] [0] 600 q522_N = true := by decide +kernel
set_option maxHeartbeats 4000000 in
theorem q522_met {G : rfG} (h : okG G) : rf_met G q522_M := rf_methodB h.1 (P := q522_P) (U := q522_U) (N := q522_N) ⟨wflT h flokX9, wcsT h csokX9, wlcT h lcokX9, spokX9 h, List.forall_mem_cons.mpr ⟨q493_met h, List.forall_mem_cons.mpr ⟨q521_met h, List.forall_mem_cons.mpr ⟨q513_met h, fun _ h => absurd h List.not_mem_nil⟩⟩⟩, List.forall_mem_cons.mpr ⟨fun M hM => Option.some.inj (show some q513_M = some M from hM) ▸ wlkS (lkX9_76 h) q513_M rfl rfl, fun _ h => absurd h List.not_mem_nil⟩, List.forall_mem_cons.mpr ⟨fun M hM => Option.some.inj (show some q493_M = some M from hM) ▸ wlkV (lkX9_50 h) q493_M rfl rfl, List.forall_mem_cons.mpr ⟨fun M hM => Option.some.inj (show some q521_M = some M from hM) ▸ wlkV (lkX9_72 h) q521_M rfl rfl, fun _ h => absurd h List.not_mem_nil⟩⟩, fun _ h => absurd h List.not_mem_nil, List.forall_mem_cons.mpr ⟨⟨wmT h (wm130), fun _ => ⟨wmT h (wm1202), wmT h (wm652), wmT h (wm653)⟩, fun h => absurd h (by decide), fun h => absurd h (by decide)⟩, fun _ h => absurd h List.not_mem_nil⟩⟩ dkX9_mostOf (by decide +kernel) (by rw [h.2.2.1]; exact q522_ok)
/-- NearSpell.Web.mostOf -/
def q523_M : rfM := ((⟨"NearSpell$Web", "mostOf", "(II)I"⟩, prog_11_method_14_code, 5, (some .int)), (10,240), ([.inr (.inl [61]),.inl (((-2147483648),2147483647,1),none),.inl ((9,9,0),none)],[]), [], [(some (.inl ((0,10,1),none)),[],[])])
def q523_P : rfP := (flX9,csX9,lcX9,spX9,[q493_M,q522_M,q513_M],[(76,2)],[(50,0,9),(72,1,9)],([],[(81,0)]))
def q523_U : rfU := []
set_option maxHeartbeats 8000000 in
def q523_N : List rfB := [(0,([(0,.inr (.inl [61])),(1,.inl (((-2147483648),2147483647,1),none)),(2,.inl ((9,9,0),none))],[],[]),(61,[]),0)]
set_option maxRecDepth 100000 in
theorem q523_ok : rf_chkB q523_P q523_U wLay q523_M ddX9_mostOf [(15,[0]),(26,[1]),(53,[1]),(67,[2]),(84,[1])] [] [0] 600 q523_N = true := by decide +kernel
set_option maxHeartbeats 4000000 in
theorem q523_met {G : rfG} (h : okG G) : rf_met G q523_M := rf_methodB h.1 (P := q523_P) (U := q523_U) (N := q523_N) ⟨wflT h flokX9, wcsT h csokX9, wlcT h lcokX9, spokX9 h, List.forall_mem_cons.mpr ⟨q493_met h, List.forall_mem_cons.mpr ⟨q522_met h, List.forall_mem_cons.mpr ⟨q513_met h, fun _ h => absurd h List.not_mem_nil⟩⟩⟩, List.forall_mem_cons.mpr ⟨fun M hM => Option.some.inj (show some q513_M = some M from hM) ▸ wlkS (lkX9_76 h) q513_M rfl rfl, fun _ h => absurd h List.not_mem_nil⟩, List.forall_mem_cons.mpr ⟨fun M hM => Option.some.inj (show some q493_M = some M from hM) ▸ wlkV (lkX9_50 h) q493_M rfl rfl, List.forall_mem_cons.mpr ⟨fun M hM => Option.some.inj (show some q522_M = some M from hM) ▸ wlkV (lkX9_72 h) q522_M rfl rfl, fun _ h => absurd h List.not_mem_nil⟩⟩, fun _ h => absurd h List.not_mem_nil, List.forall_mem_cons.mpr ⟨⟨wmT h (wm130), fun _ => ⟨wmT h (wm1202), wmT h (wm652), wmT h (wm653)⟩, fun h => absurd h (by decide), fun h => absurd h (by decide)⟩, fun _ h => absurd h List.not_mem_nil⟩⟩ dkX9_mostOf (by decide +kernel) (by rw [h.2.2.1]; exact q523_ok)
/-- NearSpell.Web.mostOf -/
def q524_M : rfM := ((⟨"NearSpell$Web", "mostOf", "(II)I"⟩, prog_11_method_14_code, 5, (some .int)), (11,264), ([.inr (.inl [61]),.inl (((-2147483648),2147483647,1),none),.inl ((10,10,0),none)],[]), [], [(some (.inl ((0,11,1),none)),[],[])])
def q524_P : rfP := (flX9,csX9,lcX9,spX9,[q493_M,q523_M,q513_M],[(76,2)],[(50,0,9),(72,1,9)],([],[(81,0)]))
def q524_U : rfU := []
set_option maxHeartbeats 8000000 in
def q524_N : List rfB := [(0,([(0,.inr (.inl [61])),(1,.inl (((-2147483648),2147483647,1),none)),(2,.inl ((10,10,0),none))],[],[]),(61,[]),0)]
set_option maxRecDepth 100000 in
theorem q524_ok : rf_chkB q524_P q524_U wLay q524_M ddX9_mostOf [(15,[0]),(26,[1]),(53,[1]),(67,[2]),(84,[1])] [] [0] 600 q524_N = true := by decide +kernel
set_option maxHeartbeats 4000000 in
theorem q524_met {G : rfG} (h : okG G) : rf_met G q524_M := rf_methodB h.1 (P := q524_P) (U := q524_U) (N := q524_N) ⟨wflT h flokX9, wcsT h csokX9, wlcT h lcokX9, spokX9 h, List.forall_mem_cons.mpr ⟨q493_met h, List.forall_mem_cons.mpr ⟨q523_met h, List.forall_mem_cons.mpr ⟨q513_met h, fun _ h => absurd h List.not_mem_nil⟩⟩⟩, List.forall_mem_cons.mpr ⟨fun M hM => Option.some.inj (show some q513_M = some M from hM) ▸ wlkS (lkX9_76 h) q513_M rfl rfl, fun _ h => absurd h List.not_mem_nil⟩, List.forall_mem_cons.mpr ⟨fun M hM => Option.some.inj (show some q493_M = some M from hM) ▸ wlkV (lkX9_50 h) q493_M rfl rfl, List.forall_mem_cons.mpr ⟨fun M hM => Option.some.inj (show some q523_M = some M from hM) ▸ wlkV (lkX9_72 h) q523_M rfl rfl, fun _ h => absurd h List.not_mem_nil⟩⟩, fun _ h => absurd h List.not_mem_nil, List.forall_mem_cons.mpr ⟨⟨wmT h (wm130), fun _ => ⟨wmT h (wm1202), wmT h (wm652), wmT h (wm653)⟩, fun h => absurd h (by decide), fun h => absurd h (by decide)⟩, fun _ h => absurd h List.not_mem_nil⟩⟩ dkX9_mostOf (by decide +kernel) (by rw [h.2.2.1]; exact q524_ok)
/-- NearSpell.Web.mostOf -/
def q525_M : rfM := ((⟨"NearSpell$Web", "mostOf", "(II)I"⟩, prog_11_method_14_code, 5, (some .int)), (12,288), ([.inr (.inl [61]),.inl (((-2147483648),2147483647,1),none),.inl ((11,11,0),none)],[]), [], [(some (.inl ((0,12,1),none)),[],[])])
def q525_P : rfP := (flX9,csX9,lcX9,spX9,[q493_M,q524_M,q513_M],[(76,2)],[(50,0,9),(72,1,9)],([],[(81,0)]))
def q525_U : rfU := []
set_option maxHeartbeats 8000000 in
def q525_N : List rfB := [(0,([(0,.inr (.inl [61])),(1,.inl (((-2147483648),2147483647,1),none)),(2,.inl ((11,11,0),none))],[],[]),(61,[]),0)]
set_option maxRecDepth 100000 in
theorem q525_ok : rf_chkB q525_P q525_U wLay q525_M ddX9_mostOf [(15,[0]),(26,[1]),(53,[1]),(67,[2]),(84,[1])] [] [0] 600 q525_N = true := by decide +kernel
set_option maxHeartbeats 4000000 in
theorem q525_met {G : rfG} (h : okG G) : rf_met G q525_M := rf_methodB h.1 (P := q525_P) (U := q525_U) (N := q525_N) ⟨wflT h flokX9, wcsT h csokX9, wlcT h lcokX9, spokX9 h, List.forall_mem_cons.mpr ⟨q493_met h, List.forall_mem_cons.mpr ⟨q524_met h, List.forall_mem_cons.mpr ⟨q513_met h, fun _ h => absurd h List.not_mem_nil⟩⟩⟩, List.forall_mem_cons.mpr ⟨fun M hM => Option.some.inj (show some q513_M = some M from hM) ▸ wlkS (lkX9_76 h) q513_M rfl rfl, fun _ h => absurd h List.not_mem_nil⟩, List.forall_mem_cons.mpr ⟨fun M hM => Option.some.inj (show some q493_M = some M from hM) ▸ wlkV (lkX9_50 h) q493_M rfl rfl, List.forall_mem_cons.mpr ⟨fun M hM => Option.some.inj (show some q524_M = some M from hM) ▸ wlkV (lkX9_72 h) q524_M rfl rfl, fun _ h => absurd h List.not_mem_nil⟩⟩, fun _ h => absurd h List.not_mem_nil, List.forall_mem_cons.mpr ⟨⟨wmT h (wm130), fun _ => ⟨wmT h (wm1202), wmT h (wm652), wmT h (wm653)⟩, fun h => absurd h (by decide), fun h => absurd h (by decide)⟩, fun _ h => absurd h List.not_mem_nil⟩⟩ dkX9_mostOf (by decide +kernel) (by rw [h.2.2.1]; exact q525_ok)
/-- NearSpell.Web.mostOf -/
def q526_M : rfM := ((⟨"NearSpell$Web", "mostOf", "(II)I"⟩, prog_11_method_14_code, 5, (some .int)), (13,312), ([.inr (.inl [61]),.inl (((-2147483648),2147483647,1),none),.inl ((12,12,0),none)],[]), [], [(some (.inl ((0,13,1),none)),[],[])])
def q526_P : rfP := (flX9,csX9,lcX9,spX9,[q493_M,q525_M,q513_M],[(76,2)],[(50,0,9),(72,1,9)],([],[(81,0)]))
def q526_U : rfU := []
set_option maxHeartbeats 8000000 in
def q526_N : List rfB := [(0,([(0,.inr (.inl [61])),(1,.inl (((-2147483648),2147483647,1),none)),(2,.inl ((12,12,0),none))],[],[]),(61,[]),0)]
set_option maxRecDepth 100000 in
theorem q526_ok : rf_chkB q526_P q526_U wLay q526_M ddX9_mostOf [(15,[0]),(26,[1]),(53,[1]),(67,[2]),(84,[1])] [] [0] 600 q526_N = true := by decide +kernel
set_option maxHeartbeats 4000000 in
theorem q526_met {G : rfG} (h : okG G) : rf_met G q526_M := rf_methodB h.1 (P := q526_P) (U := q526_U) (N := q526_N) ⟨wflT h flokX9, wcsT h csokX9, wlcT h lcokX9, spokX9 h, List.forall_mem_cons.mpr ⟨q493_met h, List.forall_mem_cons.mpr ⟨q525_met h, List.forall_mem_cons.mpr ⟨q513_met h, fun _ h => absurd h List.not_mem_nil⟩⟩⟩, List.forall_mem_cons.mpr ⟨fun M hM => Option.some.inj (show some q513_M = some M from hM) ▸ wlkS (lkX9_76 h) q513_M rfl rfl, fun _ h => absurd h List.not_mem_nil⟩, List.forall_mem_cons.mpr ⟨fun M hM => Option.some.inj (show some q493_M = some M from hM) ▸ wlkV (lkX9_50 h) q493_M rfl rfl, List.forall_mem_cons.mpr ⟨fun M hM => Option.some.inj (show some q525_M = some M from hM) ▸ wlkV (lkX9_72 h) q525_M rfl rfl, fun _ h => absurd h List.not_mem_nil⟩⟩, fun _ h => absurd h List.not_mem_nil, List.forall_mem_cons.mpr ⟨⟨wmT h (wm130), fun _ => ⟨wmT h (wm1202), wmT h (wm652), wmT h (wm653)⟩, fun h => absurd h (by decide), fun h => absurd h (by decide)⟩, fun _ h => absurd h List.not_mem_nil⟩⟩ dkX9_mostOf (by decide +kernel) (by rw [h.2.2.1]; exact q526_ok)
/-- NearSpell.Web.mostOf -/
def q527_M : rfM := ((⟨"NearSpell$Web", "mostOf", "(II)I"⟩, prog_11_method_14_code, 5, (some .int)), (14,336), ([.inr (.inl [61]),.inl (((-2147483648),2147483647,1),none),.inl ((13,13,0),none)],[]), [], [(some (.inl ((0,14,1),none)),[],[])])
def q527_P : rfP := (flX9,csX9,lcX9,spX9,[q493_M,q526_M,q513_M],[(76,2)],[(50,0,9),(72,1,9)],([],[(81,0)]))
def q527_U : rfU := []
set_option maxHeartbeats 8000000 in
def q527_N : List rfB := [(0,([(0,.inr (.inl [61])),(1,.inl (((-2147483648),2147483647,1),none)),(2,.inl ((13,13,0),none))],[],[]),(61,[]),0)]
set_option maxRecDepth 100000 in
theorem q527_ok : rf_chkB q527_P q527_U wLay q527_M ddX9_mostOf [(15,[0]),(26,[1]),(53,[1]),(67,[2]),(84,[1])] [] [0] 600 q527_N = true := by decide +kernel
set_option maxHeartbeats 4000000 in
theorem q527_met {G : rfG} (h : okG G) : rf_met G q527_M := rf_methodB h.1 (P := q527_P) (U := q527_U) (N := q527_N) ⟨wflT h flokX9, wcsT h csokX9, wlcT h lcokX9, spokX9 h, List.forall_mem_cons.mpr ⟨q493_met h, List.forall_mem_cons.mpr ⟨q526_met h, List.forall_mem_cons.mpr ⟨q513_met h, fun _ h => absurd h List.not_mem_nil⟩⟩⟩, List.forall_mem_cons.mpr ⟨fun M hM => Option.some.inj (show some q513_M = some M from hM) ▸ wlkS (lkX9_76 h) q513_M rfl rfl, fun _ h => absurd h List.not_mem_nil⟩, List.forall_mem_cons.mpr ⟨fun M hM => Option.some.inj (show some q493_M = some M from hM) ▸ wlkV (lkX9_50 h) q493_M rfl rfl, List.forall_mem_cons.mpr ⟨fun M hM => Option.some.inj (show some q526_M = some M from hM) ▸ wlkV (lkX9_72 h) q526_M rfl rfl, fun _ h => absurd h List.not_mem_nil⟩⟩, fun _ h => absurd h List.not_mem_nil, List.forall_mem_cons.mpr ⟨⟨wmT h (wm130), fun _ => ⟨wmT h (wm1202), wmT h (wm652), wmT h (wm653)⟩, fun h => absurd h (by decide), fun h => absurd h (by decide)⟩, fun _ h => absurd h List.not_mem_nil⟩⟩ dkX9_mostOf (by decide +kernel) (by rw [h.2.2.1]; exact q527_ok)
/-- NearSpell.Web.mostOf -/
def q528_M : rfM := ((⟨"NearSpell$Web", "mostOf", "(II)I"⟩, prog_11_method_14_code, 5, (some .int)), (1,24), ([.inr (.inl [61]),.inl (((-2147483648),2147483647,1),none),.inl (((-1),0,1),none)],[]), [], [(some (.inl ((0,1,1),none)),[],[])])
def q528_P : rfP := (flX9,csX9,lcX9,spX9,[q493_M,q512_M,q513_M],[(76,2)],[(50,0,9),(72,1,9)],([],[(81,0)]))
def q528_U : rfU := []
set_option maxHeartbeats 8000000 in
def q528_N : List rfB := [(0,([(0,.inr (.inl [61])),(1,.inl (((-2147483648),2147483647,1),none)),(2,.inl (((-1),0,1),none))],[],[]),(63,[]),0)]
set_option maxRecDepth 100000 in
theorem q528_ok : rf_chkB q528_P q528_U wLay q528_M ddX9_mostOf [(15,[0]),(26,[1]),(53,[1]),(67,[2]),(84,[1])] [] [0] 600 q528_N = true := by decide +kernel
set_option maxHeartbeats 4000000 in
theorem q528_met {G : rfG} (h : okG G) : rf_met G q528_M := rf_methodB h.1 (P := q528_P) (U := q528_U) (N := q528_N) ⟨wflT h flokX9, wcsT h csokX9, wlcT h lcokX9, spokX9 h, List.forall_mem_cons.mpr ⟨q493_met h, List.forall_mem_cons.mpr ⟨q512_met h, List.forall_mem_cons.mpr ⟨q513_met h, fun _ h => absurd h List.not_mem_nil⟩⟩⟩, List.forall_mem_cons.mpr ⟨fun M hM => Option.some.inj (show some q513_M = some M from hM) ▸ wlkS (lkX9_76 h) q513_M rfl rfl, fun _ h => absurd h List.not_mem_nil⟩, List.forall_mem_cons.mpr ⟨fun M hM => Option.some.inj (show some q493_M = some M from hM) ▸ wlkV (lkX9_50 h) q493_M rfl rfl, List.forall_mem_cons.mpr ⟨fun M hM => Option.some.inj (show some q512_M = some M from hM) ▸ wlkV (lkX9_72 h) q512_M rfl rfl, fun _ h => absurd h List.not_mem_nil⟩⟩, fun _ h => absurd h List.not_mem_nil, List.forall_mem_cons.mpr ⟨⟨wmT h (wm130), fun _ => ⟨wmT h (wm1202), wmT h (wm652), wmT h (wm653)⟩, fun h => absurd h (by decide), fun h => absurd h (by decide)⟩, fun _ h => absurd h List.not_mem_nil⟩⟩ dkX9_mostOf (by decide +kernel) (by rw [h.2.2.1]; exact q528_ok)
/-- NearSpell.Web.mostOf -/
def q529_M : rfM := ((⟨"NearSpell$Web", "mostOf", "(II)I"⟩, prog_11_method_14_code, 5, (some .int)), (2,48), ([.inr (.inl [61]),.inl (((-2147483648),2147483647,1),none),.inl ((0,1,1),none)],[]), [], [(some (.inl ((0,2,1),none)),[],[])])
def q529_P : rfP := (flX9,csX9,lcX9,spX9,[q493_M,q528_M,q513_M],[(76,2)],[(50,0,9),(72,1,9)],([],[(81,0)]))
def q529_U : rfU := []
set_option maxHeartbeats 8000000 in
def q529_N : List rfB := [(0,([(0,.inr (.inl [61])),(1,.inl (((-2147483648),2147483647,1),none)),(2,.inl ((0,1,1),none))],[],[]),(61,[]),0)]
set_option maxRecDepth 100000 in
theorem q529_ok : rf_chkB q529_P q529_U wLay q529_M ddX9_mostOf [(15,[0]),(26,[1]),(53,[1]),(67,[2]),(84,[1])] [] [0] 600 q529_N = true := by decide +kernel
set_option maxHeartbeats 4000000 in
theorem q529_met {G : rfG} (h : okG G) : rf_met G q529_M := rf_methodB h.1 (P := q529_P) (U := q529_U) (N := q529_N) ⟨wflT h flokX9, wcsT h csokX9, wlcT h lcokX9, spokX9 h, List.forall_mem_cons.mpr ⟨q493_met h, List.forall_mem_cons.mpr ⟨q528_met h, List.forall_mem_cons.mpr ⟨q513_met h, fun _ h => absurd h List.not_mem_nil⟩⟩⟩, List.forall_mem_cons.mpr ⟨fun M hM => Option.some.inj (show some q513_M = some M from hM) ▸ wlkS (lkX9_76 h) q513_M rfl rfl, fun _ h => absurd h List.not_mem_nil⟩, List.forall_mem_cons.mpr ⟨fun M hM => Option.some.inj (show some q493_M = some M from hM) ▸ wlkV (lkX9_50 h) q493_M rfl rfl, List.forall_mem_cons.mpr ⟨fun M hM => Option.some.inj (show some q528_M = some M from hM) ▸ wlkV (lkX9_72 h) q528_M rfl rfl, fun _ h => absurd h List.not_mem_nil⟩⟩, fun _ h => absurd h List.not_mem_nil, List.forall_mem_cons.mpr ⟨⟨wmT h (wm130), fun _ => ⟨wmT h (wm1202), wmT h (wm652), wmT h (wm653)⟩, fun h => absurd h (by decide), fun h => absurd h (by decide)⟩, fun _ h => absurd h List.not_mem_nil⟩⟩ dkX9_mostOf (by decide +kernel) (by rw [h.2.2.1]; exact q529_ok)
/-- NearSpell.Web.mostOf -/
def q530_M : rfM := ((⟨"NearSpell$Web", "mostOf", "(II)I"⟩, prog_11_method_14_code, 5, (some .int)), (3,72), ([.inr (.inl [61]),.inl (((-2147483648),2147483647,1),none),.inl ((1,2,1),none)],[]), [], [(some (.inl ((0,3,1),none)),[],[])])
def q530_P : rfP := (flX9,csX9,lcX9,spX9,[q493_M,q529_M,q513_M],[(76,2)],[(50,0,9),(72,1,9)],([],[(81,0)]))
def q530_U : rfU := []
set_option maxHeartbeats 8000000 in
def q530_N : List rfB := [(0,([(0,.inr (.inl [61])),(1,.inl (((-2147483648),2147483647,1),none)),(2,.inl ((1,2,1),none))],[],[]),(61,[]),0)]
set_option maxRecDepth 100000 in
theorem q530_ok : rf_chkB q530_P q530_U wLay q530_M ddX9_mostOf [(15,[0]),(26,[1]),(53,[1]),(67,[2]),(84,[1])] [] [0] 600 q530_N = true := by decide +kernel
set_option maxHeartbeats 4000000 in
theorem q530_met {G : rfG} (h : okG G) : rf_met G q530_M := rf_methodB h.1 (P := q530_P) (U := q530_U) (N := q530_N) ⟨wflT h flokX9, wcsT h csokX9, wlcT h lcokX9, spokX9 h, List.forall_mem_cons.mpr ⟨q493_met h, List.forall_mem_cons.mpr ⟨q529_met h, List.forall_mem_cons.mpr ⟨q513_met h, fun _ h => absurd h List.not_mem_nil⟩⟩⟩, List.forall_mem_cons.mpr ⟨fun M hM => Option.some.inj (show some q513_M = some M from hM) ▸ wlkS (lkX9_76 h) q513_M rfl rfl, fun _ h => absurd h List.not_mem_nil⟩, List.forall_mem_cons.mpr ⟨fun M hM => Option.some.inj (show some q493_M = some M from hM) ▸ wlkV (lkX9_50 h) q493_M rfl rfl, List.forall_mem_cons.mpr ⟨fun M hM => Option.some.inj (show some q529_M = some M from hM) ▸ wlkV (lkX9_72 h) q529_M rfl rfl, fun _ h => absurd h List.not_mem_nil⟩⟩, fun _ h => absurd h List.not_mem_nil, List.forall_mem_cons.mpr ⟨⟨wmT h (wm130), fun _ => ⟨wmT h (wm1202), wmT h (wm652), wmT h (wm653)⟩, fun h => absurd h (by decide), fun h => absurd h (by decide)⟩, fun _ h => absurd h List.not_mem_nil⟩⟩ dkX9_mostOf (by decide +kernel) (by rw [h.2.2.1]; exact q530_ok)
/-- NearSpell.Web.mostOf -/
def q531_M : rfM := ((⟨"NearSpell$Web", "mostOf", "(II)I"⟩, prog_11_method_14_code, 5, (some .int)), (4,96), ([.inr (.inl [61]),.inl (((-2147483648),2147483647,1),none),.inl ((2,3,1),none)],[]), [], [(some (.inl ((0,4,1),none)),[],[])])
def q531_P : rfP := (flX9,csX9,lcX9,spX9,[q493_M,q530_M,q513_M],[(76,2)],[(50,0,9),(72,1,9)],([],[(81,0)]))
def q531_U : rfU := []
set_option maxHeartbeats 8000000 in
def q531_N : List rfB := [(0,([(0,.inr (.inl [61])),(1,.inl (((-2147483648),2147483647,1),none)),(2,.inl ((2,3,1),none))],[],[]),(61,[]),0)]
set_option maxRecDepth 100000 in
theorem q531_ok : rf_chkB q531_P q531_U wLay q531_M ddX9_mostOf [(15,[0]),(26,[1]),(53,[1]),(67,[2]),(84,[1])] [] [0] 600 q531_N = true := by decide +kernel
set_option maxHeartbeats 4000000 in
theorem q531_met {G : rfG} (h : okG G) : rf_met G q531_M := rf_methodB h.1 (P := q531_P) (U := q531_U) (N := q531_N) ⟨wflT h flokX9, wcsT h csokX9, wlcT h lcokX9, spokX9 h, List.forall_mem_cons.mpr ⟨q493_met h, List.forall_mem_cons.mpr ⟨q530_met h, List.forall_mem_cons.mpr ⟨q513_met h, fun _ h => absurd h List.not_mem_nil⟩⟩⟩, List.forall_mem_cons.mpr ⟨fun M hM => Option.some.inj (show some q513_M = some M from hM) ▸ wlkS (lkX9_76 h) q513_M rfl rfl, fun _ h => absurd h List.not_mem_nil⟩, List.forall_mem_cons.mpr ⟨fun M hM => Option.some.inj (show some q493_M = some M from hM) ▸ wlkV (lkX9_50 h) q493_M rfl rfl, List.forall_mem_cons.mpr ⟨fun M hM => Option.some.inj (show some q530_M = some M from hM) ▸ wlkV (lkX9_72 h) q530_M rfl rfl, fun _ h => absurd h List.not_mem_nil⟩⟩, fun _ h => absurd h List.not_mem_nil, List.forall_mem_cons.mpr ⟨⟨wmT h (wm130), fun _ => ⟨wmT h (wm1202), wmT h (wm652), wmT h (wm653)⟩, fun h => absurd h (by decide), fun h => absurd h (by decide)⟩, fun _ h => absurd h List.not_mem_nil⟩⟩ dkX9_mostOf (by decide +kernel) (by rw [h.2.2.1]; exact q531_ok)
/-- NearSpell.Web.mostOf -/
def q532_M : rfM := ((⟨"NearSpell$Web", "mostOf", "(II)I"⟩, prog_11_method_14_code, 5, (some .int)), (5,120), ([.inr (.inl [61]),.inl (((-2147483648),2147483647,1),none),.inl ((3,4,1),none)],[]), [], [(some (.inl ((0,5,1),none)),[],[])])
def q532_P : rfP := (flX9,csX9,lcX9,spX9,[q493_M,q531_M,q513_M],[(76,2)],[(50,0,9),(72,1,9)],([],[(81,0)]))
def q532_U : rfU := []
set_option maxHeartbeats 8000000 in
def q532_N : List rfB := [(0,([(0,.inr (.inl [61])),(1,.inl (((-2147483648),2147483647,1),none)),(2,.inl ((3,4,1),none))],[],[]),(61,[]),0)]
set_option maxRecDepth 100000 in
theorem q532_ok : rf_chkB q532_P q532_U wLay q532_M ddX9_mostOf [(15,[0]),(26,[1]),(53,[1]),(67,[2]),(84,[1])] [] [0] 600 q532_N = true := by decide +kernel
set_option maxHeartbeats 4000000 in
theorem q532_met {G : rfG} (h : okG G) : rf_met G q532_M := rf_methodB h.1 (P := q532_P) (U := q532_U) (N := q532_N) ⟨wflT h flokX9, wcsT h csokX9, wlcT h lcokX9, spokX9 h, List.forall_mem_cons.mpr ⟨q493_met h, List.forall_mem_cons.mpr ⟨q531_met h, List.forall_mem_cons.mpr ⟨q513_met h, fun _ h => absurd h List.not_mem_nil⟩⟩⟩, List.forall_mem_cons.mpr ⟨fun M hM => Option.some.inj (show some q513_M = some M from hM) ▸ wlkS (lkX9_76 h) q513_M rfl rfl, fun _ h => absurd h List.not_mem_nil⟩, List.forall_mem_cons.mpr ⟨fun M hM => Option.some.inj (show some q493_M = some M from hM) ▸ wlkV (lkX9_50 h) q493_M rfl rfl, List.forall_mem_cons.mpr ⟨fun M hM => Option.some.inj (show some q531_M = some M from hM) ▸ wlkV (lkX9_72 h) q531_M rfl rfl, fun _ h => absurd h List.not_mem_nil⟩⟩, fun _ h => absurd h List.not_mem_nil, List.forall_mem_cons.mpr ⟨⟨wmT h (wm130), fun _ => ⟨wmT h (wm1202), wmT h (wm652), wmT h (wm653)⟩, fun h => absurd h (by decide), fun h => absurd h (by decide)⟩, fun _ h => absurd h List.not_mem_nil⟩⟩ dkX9_mostOf (by decide +kernel) (by rw [h.2.2.1]; exact q532_ok)
/-- NearSpell.Web.mostOf -/
def q533_M : rfM := ((⟨"NearSpell$Web", "mostOf", "(II)I"⟩, prog_11_method_14_code, 5, (some .int)), (6,144), ([.inr (.inl [61]),.inl (((-2147483648),2147483647,1),none),.inl ((4,5,1),none)],[]), [], [(some (.inl ((0,6,1),none)),[],[])])
def q533_P : rfP := (flX9,csX9,lcX9,spX9,[q493_M,q532_M,q513_M],[(76,2)],[(50,0,9),(72,1,9)],([],[(81,0)]))
def q533_U : rfU := []
set_option maxHeartbeats 8000000 in
def q533_N : List rfB := [(0,([(0,.inr (.inl [61])),(1,.inl (((-2147483648),2147483647,1),none)),(2,.inl ((4,5,1),none))],[],[]),(61,[]),0)]
set_option maxRecDepth 100000 in
theorem q533_ok : rf_chkB q533_P q533_U wLay q533_M ddX9_mostOf [(15,[0]),(26,[1]),(53,[1]),(67,[2]),(84,[1])] [] [0] 600 q533_N = true := by decide +kernel
set_option maxHeartbeats 4000000 in
theorem q533_met {G : rfG} (h : okG G) : rf_met G q533_M := rf_methodB h.1 (P := q533_P) (U := q533_U) (N := q533_N) ⟨wflT h flokX9, wcsT h csokX9, wlcT h lcokX9, spokX9 h, List.forall_mem_cons.mpr ⟨q493_met h, List.forall_mem_cons.mpr ⟨q532_met h, List.forall_mem_cons.mpr ⟨q513_met h, fun _ h => absurd h List.not_mem_nil⟩⟩⟩, List.forall_mem_cons.mpr ⟨fun M hM => Option.some.inj (show some q513_M = some M from hM) ▸ wlkS (lkX9_76 h) q513_M rfl rfl, fun _ h => absurd h List.not_mem_nil⟩, List.forall_mem_cons.mpr ⟨fun M hM => Option.some.inj (show some q493_M = some M from hM) ▸ wlkV (lkX9_50 h) q493_M rfl rfl, List.forall_mem_cons.mpr ⟨fun M hM => Option.some.inj (show some q532_M = some M from hM) ▸ wlkV (lkX9_72 h) q532_M rfl rfl, fun _ h => absurd h List.not_mem_nil⟩⟩, fun _ h => absurd h List.not_mem_nil, List.forall_mem_cons.mpr ⟨⟨wmT h (wm130), fun _ => ⟨wmT h (wm1202), wmT h (wm652), wmT h (wm653)⟩, fun h => absurd h (by decide), fun h => absurd h (by decide)⟩, fun _ h => absurd h List.not_mem_nil⟩⟩ dkX9_mostOf (by decide +kernel) (by rw [h.2.2.1]; exact q533_ok)
/-- NearSpell.Web.mostOf -/
def q534_M : rfM := ((⟨"NearSpell$Web", "mostOf", "(II)I"⟩, prog_11_method_14_code, 5, (some .int)), (7,168), ([.inr (.inl [61]),.inl (((-2147483648),2147483647,1),none),.inl ((5,6,1),none)],[]), [], [(some (.inl ((0,7,1),none)),[],[])])
def q534_P : rfP := (flX9,csX9,lcX9,spX9,[q493_M,q533_M,q513_M],[(76,2)],[(50,0,9),(72,1,9)],([],[(81,0)]))
def q534_U : rfU := []
set_option maxHeartbeats 8000000 in
def q534_N : List rfB := [(0,([(0,.inr (.inl [61])),(1,.inl (((-2147483648),2147483647,1),none)),(2,.inl ((5,6,1),none))],[],[]),(61,[]),0)]
set_option maxRecDepth 100000 in
theorem q534_ok : rf_chkB q534_P q534_U wLay q534_M ddX9_mostOf [(15,[0]),(26,[1]),(53,[1]),(67,[2]),(84,[1])] [] [0] 600 q534_N = true := by decide +kernel
set_option maxHeartbeats 4000000 in
theorem q534_met {G : rfG} (h : okG G) : rf_met G q534_M := rf_methodB h.1 (P := q534_P) (U := q534_U) (N := q534_N) ⟨wflT h flokX9, wcsT h csokX9, wlcT h lcokX9, spokX9 h, List.forall_mem_cons.mpr ⟨q493_met h, List.forall_mem_cons.mpr ⟨q533_met h, List.forall_mem_cons.mpr ⟨q513_met h, fun _ h => absurd h List.not_mem_nil⟩⟩⟩, List.forall_mem_cons.mpr ⟨fun M hM => Option.some.inj (show some q513_M = some M from hM) ▸ wlkS (lkX9_76 h) q513_M rfl rfl, fun _ h => absurd h List.not_mem_nil⟩, List.forall_mem_cons.mpr ⟨fun M hM => Option.some.inj (show some q493_M = some M from hM) ▸ wlkV (lkX9_50 h) q493_M rfl rfl, List.forall_mem_cons.mpr ⟨fun M hM => Option.some.inj (show some q533_M = some M from hM) ▸ wlkV (lkX9_72 h) q533_M rfl rfl, fun _ h => absurd h List.not_mem_nil⟩⟩, fun _ h => absurd h List.not_mem_nil, List.forall_mem_cons.mpr ⟨⟨wmT h (wm130), fun _ => ⟨wmT h (wm1202), wmT h (wm652), wmT h (wm653)⟩, fun h => absurd h (by decide), fun h => absurd h (by decide)⟩, fun _ h => absurd h List.not_mem_nil⟩⟩ dkX9_mostOf (by decide +kernel) (by rw [h.2.2.1]; exact q534_ok)
/-- NearSpell.Web.mostOf -/
def q535_M : rfM := ((⟨"NearSpell$Web", "mostOf", "(II)I"⟩, prog_11_method_14_code, 5, (some .int)), (8,192), ([.inr (.inl [61]),.inl (((-2147483648),2147483647,1),none),.inl ((6,7,1),none)],[]), [], [(some (.inl ((0,8,1),none)),[],[])])
def q535_P : rfP := (flX9,csX9,lcX9,spX9,[q493_M,q534_M,q513_M],[(76,2)],[(50,0,9),(72,1,9)],([],[(81,0)]))
def q535_U : rfU := []
set_option maxHeartbeats 8000000 in
def q535_N : List rfB := [(0,([(0,.inr (.inl [61])),(1,.inl (((-2147483648),2147483647,1),none)),(2,.inl ((6,7,1),none))],[],[]),(61,[]),0)]
set_option maxRecDepth 100000 in
theorem q535_ok : rf_chkB q535_P q535_U wLay q535_M ddX9_mostOf [(15,[0]),(26,[1]),(53,[1]),(67,[2]),(84,[1])] [] [0] 600 q535_N = true := by decide +kernel
set_option maxHeartbeats 4000000 in
theorem q535_met {G : rfG} (h : okG G) : rf_met G q535_M := rf_methodB h.1 (P := q535_P) (U := q535_U) (N := q535_N) ⟨wflT h flokX9, wcsT h csokX9, wlcT h lcokX9, spokX9 h, List.forall_mem_cons.mpr ⟨q493_met h, List.forall_mem_cons.mpr ⟨q534_met h, List.forall_mem_cons.mpr ⟨q513_met h, fun _ h => absurd h List.not_mem_nil⟩⟩⟩, List.forall_mem_cons.mpr ⟨fun M hM => Option.some.inj (show some q513_M = some M from hM) ▸ wlkS (lkX9_76 h) q513_M rfl rfl, fun _ h => absurd h List.not_mem_nil⟩, List.forall_mem_cons.mpr ⟨fun M hM => Option.some.inj (show some q493_M = some M from hM) ▸ wlkV (lkX9_50 h) q493_M rfl rfl, List.forall_mem_cons.mpr ⟨fun M hM => Option.some.inj (show some q534_M = some M from hM) ▸ wlkV (lkX9_72 h) q534_M rfl rfl, fun _ h => absurd h List.not_mem_nil⟩⟩, fun _ h => absurd h List.not_mem_nil, List.forall_mem_cons.mpr ⟨⟨wmT h (wm130), fun _ => ⟨wmT h (wm1202), wmT h (wm652), wmT h (wm653)⟩, fun h => absurd h (by decide), fun h => absurd h (by decide)⟩, fun _ h => absurd h List.not_mem_nil⟩⟩ dkX9_mostOf (by decide +kernel) (by rw [h.2.2.1]; exact q535_ok)
/-- NearSpell.Web.mostOf -/
def q536_M : rfM := ((⟨"NearSpell$Web", "mostOf", "(II)I"⟩, prog_11_method_14_code, 5, (some .int)), (9,216), ([.inr (.inl [61]),.inl (((-2147483648),2147483647,1),none),.inl ((7,8,1),none)],[]), [], [(some (.inl ((0,9,1),none)),[],[])])
def q536_P : rfP := (flX9,csX9,lcX9,spX9,[q493_M,q535_M,q513_M],[(76,2)],[(50,0,9),(72,1,9)],([],[(81,0)]))
def q536_U : rfU := []
set_option maxHeartbeats 8000000 in
def q536_N : List rfB := [(0,([(0,.inr (.inl [61])),(1,.inl (((-2147483648),2147483647,1),none)),(2,.inl ((7,8,1),none))],[],[]),(61,[]),0)]
set_option maxRecDepth 100000 in
theorem q536_ok : rf_chkB q536_P q536_U wLay q536_M ddX9_mostOf [(15,[0]),(26,[1]),(53,[1]),(67,[2]),(84,[1])] [] [0] 600 q536_N = true := by decide +kernel
set_option maxHeartbeats 4000000 in
theorem q536_met {G : rfG} (h : okG G) : rf_met G q536_M := rf_methodB h.1 (P := q536_P) (U := q536_U) (N := q536_N) ⟨wflT h flokX9, wcsT h csokX9, wlcT h lcokX9, spokX9 h, List.forall_mem_cons.mpr ⟨q493_met h, List.forall_mem_cons.mpr ⟨q535_met h, List.forall_mem_cons.mpr ⟨q513_met h, fun _ h => absurd h List.not_mem_nil⟩⟩⟩, List.forall_mem_cons.mpr ⟨fun M hM => Option.some.inj (show some q513_M = some M from hM) ▸ wlkS (lkX9_76 h) q513_M rfl rfl, fun _ h => absurd h List.not_mem_nil⟩, List.forall_mem_cons.mpr ⟨fun M hM => Option.some.inj (show some q493_M = some M from hM) ▸ wlkV (lkX9_50 h) q493_M rfl rfl, List.forall_mem_cons.mpr ⟨fun M hM => Option.some.inj (show some q535_M = some M from hM) ▸ wlkV (lkX9_72 h) q535_M rfl rfl, fun _ h => absurd h List.not_mem_nil⟩⟩, fun _ h => absurd h List.not_mem_nil, List.forall_mem_cons.mpr ⟨⟨wmT h (wm130), fun _ => ⟨wmT h (wm1202), wmT h (wm652), wmT h (wm653)⟩, fun h => absurd h (by decide), fun h => absurd h (by decide)⟩, fun _ h => absurd h List.not_mem_nil⟩⟩ dkX9_mostOf (by decide +kernel) (by rw [h.2.2.1]; exact q536_ok)
/-- NearSpell.Web.mostOf -/
def q537_M : rfM := ((⟨"NearSpell$Web", "mostOf", "(II)I"⟩, prog_11_method_14_code, 5, (some .int)), (10,240), ([.inr (.inl [61]),.inl (((-2147483648),2147483647,1),none),.inl ((8,9,1),none)],[]), [], [(some (.inl ((0,10,1),none)),[],[])])
def q537_P : rfP := (flX9,csX9,lcX9,spX9,[q493_M,q536_M,q513_M],[(76,2)],[(50,0,9),(72,1,9)],([],[(81,0)]))
def q537_U : rfU := []
set_option maxHeartbeats 8000000 in
def q537_N : List rfB := [(0,([(0,.inr (.inl [61])),(1,.inl (((-2147483648),2147483647,1),none)),(2,.inl ((8,9,1),none))],[],[]),(61,[]),0)]
set_option maxRecDepth 100000 in
theorem q537_ok : rf_chkB q537_P q537_U wLay q537_M ddX9_mostOf [(15,[0]),(26,[1]),(53,[1]),(67,[2]),(84,[1])] [] [0] 600 q537_N = true := by decide +kernel
set_option maxHeartbeats 4000000 in
theorem q537_met {G : rfG} (h : okG G) : rf_met G q537_M := rf_methodB h.1 (P := q537_P) (U := q537_U) (N := q537_N) ⟨wflT h flokX9, wcsT h csokX9, wlcT h lcokX9, spokX9 h, List.forall_mem_cons.mpr ⟨q493_met h, List.forall_mem_cons.mpr ⟨q536_met h, List.forall_mem_cons.mpr ⟨q513_met h, fun _ h => absurd h List.not_mem_nil⟩⟩⟩, List.forall_mem_cons.mpr ⟨fun M hM => Option.some.inj (show some q513_M = some M from hM) ▸ wlkS (lkX9_76 h) q513_M rfl rfl, fun _ h => absurd h List.not_mem_nil⟩, List.forall_mem_cons.mpr ⟨fun M hM => Option.some.inj (show some q493_M = some M from hM) ▸ wlkV (lkX9_50 h) q493_M rfl rfl, List.forall_mem_cons.mpr ⟨fun M hM => Option.some.inj (show some q536_M = some M from hM) ▸ wlkV (lkX9_72 h) q536_M rfl rfl, fun _ h => absurd h List.not_mem_nil⟩⟩, fun _ h => absurd h List.not_mem_nil, List.forall_mem_cons.mpr ⟨⟨wmT h (wm130), fun _ => ⟨wmT h (wm1202), wmT h (wm652), wmT h (wm653)⟩, fun h => absurd h (by decide), fun h => absurd h (by decide)⟩, fun _ h => absurd h List.not_mem_nil⟩⟩ dkX9_mostOf (by decide +kernel) (by rw [h.2.2.1]; exact q537_ok)
/-- NearSpell.Web.mostOf -/
def q538_M : rfM := ((⟨"NearSpell$Web", "mostOf", "(II)I"⟩, prog_11_method_14_code, 5, (some .int)), (11,264), ([.inr (.inl [61]),.inl (((-2147483648),2147483647,1),none),.inl ((9,10,1),none)],[]), [], [(some (.inl ((0,11,1),none)),[],[])])
def q538_P : rfP := (flX9,csX9,lcX9,spX9,[q493_M,q537_M,q513_M],[(76,2)],[(50,0,9),(72,1,9)],([],[(81,0)]))
def q538_U : rfU := []
set_option maxHeartbeats 8000000 in
def q538_N : List rfB := [(0,([(0,.inr (.inl [61])),(1,.inl (((-2147483648),2147483647,1),none)),(2,.inl ((9,10,1),none))],[],[]),(61,[]),0)]
set_option maxRecDepth 100000 in
theorem q538_ok : rf_chkB q538_P q538_U wLay q538_M ddX9_mostOf [(15,[0]),(26,[1]),(53,[1]),(67,[2]),(84,[1])] [] [0] 600 q538_N = true := by decide +kernel
set_option maxHeartbeats 4000000 in
theorem q538_met {G : rfG} (h : okG G) : rf_met G q538_M := rf_methodB h.1 (P := q538_P) (U := q538_U) (N := q538_N) ⟨wflT h flokX9, wcsT h csokX9, wlcT h lcokX9, spokX9 h, List.forall_mem_cons.mpr ⟨q493_met h, List.forall_mem_cons.mpr ⟨q537_met h, List.forall_mem_cons.mpr ⟨q513_met h, fun _ h => absurd h List.not_mem_nil⟩⟩⟩, List.forall_mem_cons.mpr ⟨fun M hM => Option.some.inj (show some q513_M = some M from hM) ▸ wlkS (lkX9_76 h) q513_M rfl rfl, fun _ h => absurd h List.not_mem_nil⟩, List.forall_mem_cons.mpr ⟨fun M hM => Option.some.inj (show some q493_M = some M from hM) ▸ wlkV (lkX9_50 h) q493_M rfl rfl, List.forall_mem_cons.mpr ⟨fun M hM => Option.some.inj (show some q537_M = some M from hM) ▸ wlkV (lkX9_72 h) q537_M rfl rfl, fun _ h => absurd h List.not_mem_nil⟩⟩, fun _ h => absurd h List.not_mem_nil, List.forall_mem_cons.mpr ⟨⟨wmT h (wm130), fun _ => ⟨wmT h (wm1202), wmT h (wm652), wmT h (wm653)⟩, fun h => absurd h (by decide), fun h => absurd h (by decide)⟩, fun _ h => absurd h List.not_mem_nil⟩⟩ dkX9_mostOf (by decide +kernel) (by rw [h.2.2.1]; exact q538_ok)
/-- NearSpell.Web.mostOf -/
def q539_M : rfM := ((⟨"NearSpell$Web", "mostOf", "(II)I"⟩, prog_11_method_14_code, 5, (some .int)), (12,288), ([.inr (.inl [61]),.inl (((-2147483648),2147483647,1),none),.inl ((10,11,1),none)],[]), [], [(some (.inl ((0,12,1),none)),[],[])])
def q539_P : rfP := (flX9,csX9,lcX9,spX9,[q493_M,q538_M,q513_M],[(76,2)],[(50,0,9),(72,1,9)],([],[(81,0)]))
def q539_U : rfU := []
set_option maxHeartbeats 8000000 in
def q539_N : List rfB := [(0,([(0,.inr (.inl [61])),(1,.inl (((-2147483648),2147483647,1),none)),(2,.inl ((10,11,1),none))],[],[]),(61,[]),0)]
set_option maxRecDepth 100000 in
theorem q539_ok : rf_chkB q539_P q539_U wLay q539_M ddX9_mostOf [(15,[0]),(26,[1]),(53,[1]),(67,[2]),(84,[1])] [] [0] 600 q539_N = true := by decide +kernel
set_option maxHeartbeats 4000000 in
theorem q539_met {G : rfG} (h : okG G) : rf_met G q539_M := rf_methodB h.1 (P := q539_P) (U := q539_U) (N := q539_N) ⟨wflT h flokX9, wcsT h csokX9, wlcT h lcokX9, spokX9 h, List.forall_mem_cons.mpr ⟨q493_met h, List.forall_mem_cons.mpr ⟨q538_met h, List.forall_mem_cons.mpr ⟨q513_met h, fun _ h => absurd h List.not_mem_nil⟩⟩⟩, List.forall_mem_cons.mpr ⟨fun M hM => Option.some.inj (show some q513_M = some M from hM) ▸ wlkS (lkX9_76 h) q513_M rfl rfl, fun _ h => absurd h List.not_mem_nil⟩, List.forall_mem_cons.mpr ⟨fun M hM => Option.some.inj (show some q493_M = some M from hM) ▸ wlkV (lkX9_50 h) q493_M rfl rfl, List.forall_mem_cons.mpr ⟨fun M hM => Option.some.inj (show some q538_M = some M from hM) ▸ wlkV (lkX9_72 h) q538_M rfl rfl, fun _ h => absurd h List.not_mem_nil⟩⟩, fun _ h => absurd h List.not_mem_nil, List.forall_mem_cons.mpr ⟨⟨wmT h (wm130), fun _ => ⟨wmT h (wm1202), wmT h (wm652), wmT h (wm653)⟩, fun h => absurd h (by decide), fun h => absurd h (by decide)⟩, fun _ h => absurd h List.not_mem_nil⟩⟩ dkX9_mostOf (by decide +kernel) (by rw [h.2.2.1]; exact q539_ok)
/-- NearSpell.Web.mostOf -/
def q540_M : rfM := ((⟨"NearSpell$Web", "mostOf", "(II)I"⟩, prog_11_method_14_code, 5, (some .int)), (13,312), ([.inr (.inl [61]),.inl (((-2147483648),2147483647,1),none),.inl ((11,12,1),none)],[]), [], [(some (.inl ((0,13,1),none)),[],[])])
def q540_P : rfP := (flX9,csX9,lcX9,spX9,[q493_M,q539_M,q513_M],[(76,2)],[(50,0,9),(72,1,9)],([],[(81,0)]))
def q540_U : rfU := []
set_option maxHeartbeats 8000000 in
def q540_N : List rfB := [(0,([(0,.inr (.inl [61])),(1,.inl (((-2147483648),2147483647,1),none)),(2,.inl ((11,12,1),none))],[],[]),(61,[]),0)]
set_option maxRecDepth 100000 in
theorem q540_ok : rf_chkB q540_P q540_U wLay q540_M ddX9_mostOf [(15,[0]),(26,[1]),(53,[1]),(67,[2]),(84,[1])] [] [0] 600 q540_N = true := by decide +kernel
set_option maxHeartbeats 4000000 in
theorem q540_met {G : rfG} (h : okG G) : rf_met G q540_M := rf_methodB h.1 (P := q540_P) (U := q540_U) (N := q540_N) ⟨wflT h flokX9, wcsT h csokX9, wlcT h lcokX9, spokX9 h, List.forall_mem_cons.mpr ⟨q493_met h, List.forall_mem_cons.mpr ⟨q539_met h, List.forall_mem_cons.mpr ⟨q513_met h, fun _ h => absurd h List.not_mem_nil⟩⟩⟩, List.forall_mem_cons.mpr ⟨fun M hM => Option.some.inj (show some q513_M = some M from hM) ▸ wlkS (lkX9_76 h) q513_M rfl rfl, fun _ h => absurd h List.not_mem_nil⟩, List.forall_mem_cons.mpr ⟨fun M hM => Option.some.inj (show some q493_M = some M from hM) ▸ wlkV (lkX9_50 h) q493_M rfl rfl, List.forall_mem_cons.mpr ⟨fun M hM => Option.some.inj (show some q539_M = some M from hM) ▸ wlkV (lkX9_72 h) q539_M rfl rfl, fun _ h => absurd h List.not_mem_nil⟩⟩, fun _ h => absurd h List.not_mem_nil, List.forall_mem_cons.mpr ⟨⟨wmT h (wm130), fun _ => ⟨wmT h (wm1202), wmT h (wm652), wmT h (wm653)⟩, fun h => absurd h (by decide), fun h => absurd h (by decide)⟩, fun _ h => absurd h List.not_mem_nil⟩⟩ dkX9_mostOf (by decide +kernel) (by rw [h.2.2.1]; exact q540_ok)
/-- NearSpell.Web.mostOf -/
def q541_M : rfM := ((⟨"NearSpell$Web", "mostOf", "(II)I"⟩, prog_11_method_14_code, 5, (some .int)), (2,48), ([.inr (.inl [61]),.inl (((-2147483648),2147483647,1),none),.inl (((-1),1,1),none)],[]), [], [(some (.inl ((0,2,1),none)),[],[])])
def q541_P : rfP := (flX9,csX9,lcX9,spX9,[q493_M,q528_M,q513_M],[(76,2)],[(50,0,9),(72,1,9)],([],[(81,0)]))
def q541_U : rfU := []
set_option maxHeartbeats 8000000 in
def q541_N : List rfB := [(0,([(0,.inr (.inl [61])),(1,.inl (((-2147483648),2147483647,1),none)),(2,.inl (((-1),1,1),none))],[],[]),(63,[]),0)]
set_option maxRecDepth 100000 in
theorem q541_ok : rf_chkB q541_P q541_U wLay q541_M ddX9_mostOf [(15,[0]),(26,[1]),(53,[1]),(67,[2]),(84,[1])] [] [0] 600 q541_N = true := by decide +kernel
set_option maxHeartbeats 4000000 in
theorem q541_met {G : rfG} (h : okG G) : rf_met G q541_M := rf_methodB h.1 (P := q541_P) (U := q541_U) (N := q541_N) ⟨wflT h flokX9, wcsT h csokX9, wlcT h lcokX9, spokX9 h, List.forall_mem_cons.mpr ⟨q493_met h, List.forall_mem_cons.mpr ⟨q528_met h, List.forall_mem_cons.mpr ⟨q513_met h, fun _ h => absurd h List.not_mem_nil⟩⟩⟩, List.forall_mem_cons.mpr ⟨fun M hM => Option.some.inj (show some q513_M = some M from hM) ▸ wlkS (lkX9_76 h) q513_M rfl rfl, fun _ h => absurd h List.not_mem_nil⟩, List.forall_mem_cons.mpr ⟨fun M hM => Option.some.inj (show some q493_M = some M from hM) ▸ wlkV (lkX9_50 h) q493_M rfl rfl, List.forall_mem_cons.mpr ⟨fun M hM => Option.some.inj (show some q528_M = some M from hM) ▸ wlkV (lkX9_72 h) q528_M rfl rfl, fun _ h => absurd h List.not_mem_nil⟩⟩, fun _ h => absurd h List.not_mem_nil, List.forall_mem_cons.mpr ⟨⟨wmT h (wm130), fun _ => ⟨wmT h (wm1202), wmT h (wm652), wmT h (wm653)⟩, fun h => absurd h (by decide), fun h => absurd h (by decide)⟩, fun _ h => absurd h List.not_mem_nil⟩⟩ dkX9_mostOf (by decide +kernel) (by rw [h.2.2.1]; exact q541_ok)
/-- NearSpell.Web.mostOf -/
def q542_M : rfM := ((⟨"NearSpell$Web", "mostOf", "(II)I"⟩, prog_11_method_14_code, 5, (some .int)), (3,72), ([.inr (.inl [61]),.inl (((-2147483648),2147483647,1),none),.inl ((0,2,1),none)],[]), [], [(some (.inl ((0,3,1),none)),[],[])])
def q542_P : rfP := (flX9,csX9,lcX9,spX9,[q493_M,q541_M,q513_M],[(76,2)],[(50,0,9),(72,1,9)],([],[(81,0)]))
def q542_U : rfU := []
set_option maxHeartbeats 8000000 in
def q542_N : List rfB := [(0,([(0,.inr (.inl [61])),(1,.inl (((-2147483648),2147483647,1),none)),(2,.inl ((0,2,1),none))],[],[]),(61,[]),0)]
set_option maxRecDepth 100000 in
theorem q542_ok : rf_chkB q542_P q542_U wLay q542_M ddX9_mostOf [(15,[0]),(26,[1]),(53,[1]),(67,[2]),(84,[1])] [] [0] 600 q542_N = true := by decide +kernel
set_option maxHeartbeats 4000000 in
theorem q542_met {G : rfG} (h : okG G) : rf_met G q542_M := rf_methodB h.1 (P := q542_P) (U := q542_U) (N := q542_N) ⟨wflT h flokX9, wcsT h csokX9, wlcT h lcokX9, spokX9 h, List.forall_mem_cons.mpr ⟨q493_met h, List.forall_mem_cons.mpr ⟨q541_met h, List.forall_mem_cons.mpr ⟨q513_met h, fun _ h => absurd h List.not_mem_nil⟩⟩⟩, List.forall_mem_cons.mpr ⟨fun M hM => Option.some.inj (show some q513_M = some M from hM) ▸ wlkS (lkX9_76 h) q513_M rfl rfl, fun _ h => absurd h List.not_mem_nil⟩, List.forall_mem_cons.mpr ⟨fun M hM => Option.some.inj (show some q493_M = some M from hM) ▸ wlkV (lkX9_50 h) q493_M rfl rfl, List.forall_mem_cons.mpr ⟨fun M hM => Option.some.inj (show some q541_M = some M from hM) ▸ wlkV (lkX9_72 h) q541_M rfl rfl, fun _ h => absurd h List.not_mem_nil⟩⟩, fun _ h => absurd h List.not_mem_nil, List.forall_mem_cons.mpr ⟨⟨wmT h (wm130), fun _ => ⟨wmT h (wm1202), wmT h (wm652), wmT h (wm653)⟩, fun h => absurd h (by decide), fun h => absurd h (by decide)⟩, fun _ h => absurd h List.not_mem_nil⟩⟩ dkX9_mostOf (by decide +kernel) (by rw [h.2.2.1]; exact q542_ok)
/-- NearSpell.Web.mostOf -/
def q543_M : rfM := ((⟨"NearSpell$Web", "mostOf", "(II)I"⟩, prog_11_method_14_code, 5, (some .int)), (4,96), ([.inr (.inl [61]),.inl (((-2147483648),2147483647,1),none),.inl ((1,3,1),none)],[]), [], [(some (.inl ((0,4,1),none)),[],[])])
def q543_P : rfP := (flX9,csX9,lcX9,spX9,[q493_M,q542_M,q513_M],[(76,2)],[(50,0,9),(72,1,9)],([],[(81,0)]))
def q543_U : rfU := []
set_option maxHeartbeats 8000000 in
def q543_N : List rfB := [(0,([(0,.inr (.inl [61])),(1,.inl (((-2147483648),2147483647,1),none)),(2,.inl ((1,3,1),none))],[],[]),(61,[]),0)]
set_option maxRecDepth 100000 in
theorem q543_ok : rf_chkB q543_P q543_U wLay q543_M ddX9_mostOf [(15,[0]),(26,[1]),(53,[1]),(67,[2]),(84,[1])] [] [0] 600 q543_N = true := by decide +kernel
set_option maxHeartbeats 4000000 in
theorem q543_met {G : rfG} (h : okG G) : rf_met G q543_M := rf_methodB h.1 (P := q543_P) (U := q543_U) (N := q543_N) ⟨wflT h flokX9, wcsT h csokX9, wlcT h lcokX9, spokX9 h, List.forall_mem_cons.mpr ⟨q493_met h, List.forall_mem_cons.mpr ⟨q542_met h, List.forall_mem_cons.mpr ⟨q513_met h, fun _ h => absurd h List.not_mem_nil⟩⟩⟩, List.forall_mem_cons.mpr ⟨fun M hM => Option.some.inj (show some q513_M = some M from hM) ▸ wlkS (lkX9_76 h) q513_M rfl rfl, fun _ h => absurd h List.not_mem_nil⟩, List.forall_mem_cons.mpr ⟨fun M hM => Option.some.inj (show some q493_M = some M from hM) ▸ wlkV (lkX9_50 h) q493_M rfl rfl, List.forall_mem_cons.mpr ⟨fun M hM => Option.some.inj (show some q542_M = some M from hM) ▸ wlkV (lkX9_72 h) q542_M rfl rfl, fun _ h => absurd h List.not_mem_nil⟩⟩, fun _ h => absurd h List.not_mem_nil, List.forall_mem_cons.mpr ⟨⟨wmT h (wm130), fun _ => ⟨wmT h (wm1202), wmT h (wm652), wmT h (wm653)⟩, fun h => absurd h (by decide), fun h => absurd h (by decide)⟩, fun _ h => absurd h List.not_mem_nil⟩⟩ dkX9_mostOf (by decide +kernel) (by rw [h.2.2.1]; exact q543_ok)
/-- NearSpell.Web.mostOf -/
def q544_M : rfM := ((⟨"NearSpell$Web", "mostOf", "(II)I"⟩, prog_11_method_14_code, 5, (some .int)), (5,120), ([.inr (.inl [61]),.inl (((-2147483648),2147483647,1),none),.inl ((2,4,1),none)],[]), [], [(some (.inl ((0,5,1),none)),[],[])])
def q544_P : rfP := (flX9,csX9,lcX9,spX9,[q493_M,q543_M,q513_M],[(76,2)],[(50,0,9),(72,1,9)],([],[(81,0)]))
def q544_U : rfU := []
set_option maxHeartbeats 8000000 in
def q544_N : List rfB := [(0,([(0,.inr (.inl [61])),(1,.inl (((-2147483648),2147483647,1),none)),(2,.inl ((2,4,1),none))],[],[]),(61,[]),0)]
set_option maxRecDepth 100000 in
theorem q544_ok : rf_chkB q544_P q544_U wLay q544_M ddX9_mostOf [(15,[0]),(26,[1]),(53,[1]),(67,[2]),(84,[1])] [] [0] 600 q544_N = true := by decide +kernel
set_option maxHeartbeats 4000000 in
theorem q544_met {G : rfG} (h : okG G) : rf_met G q544_M := rf_methodB h.1 (P := q544_P) (U := q544_U) (N := q544_N) ⟨wflT h flokX9, wcsT h csokX9, wlcT h lcokX9, spokX9 h, List.forall_mem_cons.mpr ⟨q493_met h, List.forall_mem_cons.mpr ⟨q543_met h, List.forall_mem_cons.mpr ⟨q513_met h, fun _ h => absurd h List.not_mem_nil⟩⟩⟩, List.forall_mem_cons.mpr ⟨fun M hM => Option.some.inj (show some q513_M = some M from hM) ▸ wlkS (lkX9_76 h) q513_M rfl rfl, fun _ h => absurd h List.not_mem_nil⟩, List.forall_mem_cons.mpr ⟨fun M hM => Option.some.inj (show some q493_M = some M from hM) ▸ wlkV (lkX9_50 h) q493_M rfl rfl, List.forall_mem_cons.mpr ⟨fun M hM => Option.some.inj (show some q543_M = some M from hM) ▸ wlkV (lkX9_72 h) q543_M rfl rfl, fun _ h => absurd h List.not_mem_nil⟩⟩, fun _ h => absurd h List.not_mem_nil, List.forall_mem_cons.mpr ⟨⟨wmT h (wm130), fun _ => ⟨wmT h (wm1202), wmT h (wm652), wmT h (wm653)⟩, fun h => absurd h (by decide), fun h => absurd h (by decide)⟩, fun _ h => absurd h List.not_mem_nil⟩⟩ dkX9_mostOf (by decide +kernel) (by rw [h.2.2.1]; exact q544_ok)
/-- NearSpell.Web.mostOf -/
def q545_M : rfM := ((⟨"NearSpell$Web", "mostOf", "(II)I"⟩, prog_11_method_14_code, 5, (some .int)), (6,144), ([.inr (.inl [61]),.inl (((-2147483648),2147483647,1),none),.inl ((3,5,1),none)],[]), [], [(some (.inl ((0,6,1),none)),[],[])])
def q545_P : rfP := (flX9,csX9,lcX9,spX9,[q493_M,q544_M,q513_M],[(76,2)],[(50,0,9),(72,1,9)],([],[(81,0)]))
def q545_U : rfU := []
set_option maxHeartbeats 8000000 in
def q545_N : List rfB := [(0,([(0,.inr (.inl [61])),(1,.inl (((-2147483648),2147483647,1),none)),(2,.inl ((3,5,1),none))],[],[]),(61,[]),0)]
set_option maxRecDepth 100000 in
theorem q545_ok : rf_chkB q545_P q545_U wLay q545_M ddX9_mostOf [(15,[0]),(26,[1]),(53,[1]),(67,[2]),(84,[1])] [] [0] 600 q545_N = true := by decide +kernel
set_option maxHeartbeats 4000000 in
theorem q545_met {G : rfG} (h : okG G) : rf_met G q545_M := rf_methodB h.1 (P := q545_P) (U := q545_U) (N := q545_N) ⟨wflT h flokX9, wcsT h csokX9, wlcT h lcokX9, spokX9 h, List.forall_mem_cons.mpr ⟨q493_met h, List.forall_mem_cons.mpr ⟨q544_met h, List.forall_mem_cons.mpr ⟨q513_met h, fun _ h => absurd h List.not_mem_nil⟩⟩⟩, List.forall_mem_cons.mpr ⟨fun M hM => Option.some.inj (show some q513_M = some M from hM) ▸ wlkS (lkX9_76 h) q513_M rfl rfl, fun _ h => absurd h List.not_mem_nil⟩, List.forall_mem_cons.mpr ⟨fun M hM => Option.some.inj (show some q493_M = some M from hM) ▸ wlkV (lkX9_50 h) q493_M rfl rfl, List.forall_mem_cons.mpr ⟨fun M hM => Option.some.inj (show some q544_M = some M from hM) ▸ wlkV (lkX9_72 h) q544_M rfl rfl, fun _ h => absurd h List.not_mem_nil⟩⟩, fun _ h => absurd h List.not_mem_nil, List.forall_mem_cons.mpr ⟨⟨wmT h (wm130), fun _ => ⟨wmT h (wm1202), wmT h (wm652), wmT h (wm653)⟩, fun h => absurd h (by decide), fun h => absurd h (by decide)⟩, fun _ h => absurd h List.not_mem_nil⟩⟩ dkX9_mostOf (by decide +kernel) (by rw [h.2.2.1]; exact q545_ok)
/-- NearSpell.Web.mostOf -/
def q546_M : rfM := ((⟨"NearSpell$Web", "mostOf", "(II)I"⟩, prog_11_method_14_code, 5, (some .int)), (7,168), ([.inr (.inl [61]),.inl (((-2147483648),2147483647,1),none),.inl ((4,6,1),none)],[]), [], [(some (.inl ((0,7,1),none)),[],[])])
def q546_P : rfP := (flX9,csX9,lcX9,spX9,[q493_M,q545_M,q513_M],[(76,2)],[(50,0,9),(72,1,9)],([],[(81,0)]))
def q546_U : rfU := []
set_option maxHeartbeats 8000000 in
def q546_N : List rfB := [(0,([(0,.inr (.inl [61])),(1,.inl (((-2147483648),2147483647,1),none)),(2,.inl ((4,6,1),none))],[],[]),(61,[]),0)]
set_option maxRecDepth 100000 in
theorem q546_ok : rf_chkB q546_P q546_U wLay q546_M ddX9_mostOf [(15,[0]),(26,[1]),(53,[1]),(67,[2]),(84,[1])] [] [0] 600 q546_N = true := by decide +kernel
set_option maxHeartbeats 4000000 in
theorem q546_met {G : rfG} (h : okG G) : rf_met G q546_M := rf_methodB h.1 (P := q546_P) (U := q546_U) (N := q546_N) ⟨wflT h flokX9, wcsT h csokX9, wlcT h lcokX9, spokX9 h, List.forall_mem_cons.mpr ⟨q493_met h, List.forall_mem_cons.mpr ⟨q545_met h, List.forall_mem_cons.mpr ⟨q513_met h, fun _ h => absurd h List.not_mem_nil⟩⟩⟩, List.forall_mem_cons.mpr ⟨fun M hM => Option.some.inj (show some q513_M = some M from hM) ▸ wlkS (lkX9_76 h) q513_M rfl rfl, fun _ h => absurd h List.not_mem_nil⟩, List.forall_mem_cons.mpr ⟨fun M hM => Option.some.inj (show some q493_M = some M from hM) ▸ wlkV (lkX9_50 h) q493_M rfl rfl, List.forall_mem_cons.mpr ⟨fun M hM => Option.some.inj (show some q545_M = some M from hM) ▸ wlkV (lkX9_72 h) q545_M rfl rfl, fun _ h => absurd h List.not_mem_nil⟩⟩, fun _ h => absurd h List.not_mem_nil, List.forall_mem_cons.mpr ⟨⟨wmT h (wm130), fun _ => ⟨wmT h (wm1202), wmT h (wm652), wmT h (wm653)⟩, fun h => absurd h (by decide), fun h => absurd h (by decide)⟩, fun _ h => absurd h List.not_mem_nil⟩⟩ dkX9_mostOf (by decide +kernel) (by rw [h.2.2.1]; exact q546_ok)
/-- NearSpell.Web.mostOf -/
def q547_M : rfM := ((⟨"NearSpell$Web", "mostOf", "(II)I"⟩, prog_11_method_14_code, 5, (some .int)), (8,192), ([.inr (.inl [61]),.inl (((-2147483648),2147483647,1),none),.inl ((5,7,1),none)],[]), [], [(some (.inl ((0,8,1),none)),[],[])])
def q547_P : rfP := (flX9,csX9,lcX9,spX9,[q493_M,q546_M,q513_M],[(76,2)],[(50,0,9),(72,1,9)],([],[(81,0)]))
def q547_U : rfU := []
set_option maxHeartbeats 8000000 in
def q547_N : List rfB := [(0,([(0,.inr (.inl [61])),(1,.inl (((-2147483648),2147483647,1),none)),(2,.inl ((5,7,1),none))],[],[]),(61,[]),0)]
set_option maxRecDepth 100000 in
theorem q547_ok : rf_chkB q547_P q547_U wLay q547_M ddX9_mostOf [(15,[0]),(26,[1]),(53,[1]),(67,[2]),(84,[1])] [] [0] 600 q547_N = true := by decide +kernel
set_option maxHeartbeats 4000000 in
theorem q547_met {G : rfG} (h : okG G) : rf_met G q547_M := rf_methodB h.1 (P := q547_P) (U := q547_U) (N := q547_N) ⟨wflT h flokX9, wcsT h csokX9, wlcT h lcokX9, spokX9 h, List.forall_mem_cons.mpr ⟨q493_met h, List.forall_mem_cons.mpr ⟨q546_met h, List.forall_mem_cons.mpr ⟨q513_met h, fun _ h => absurd h List.not_mem_nil⟩⟩⟩, List.forall_mem_cons.mpr ⟨fun M hM => Option.some.inj (show some q513_M = some M from hM) ▸ wlkS (lkX9_76 h) q513_M rfl rfl, fun _ h => absurd h List.not_mem_nil⟩, List.forall_mem_cons.mpr ⟨fun M hM => Option.some.inj (show some q493_M = some M from hM) ▸ wlkV (lkX9_50 h) q493_M rfl rfl, List.forall_mem_cons.mpr ⟨fun M hM => Option.some.inj (show some q546_M = some M from hM) ▸ wlkV (lkX9_72 h) q546_M rfl rfl, fun _ h => absurd h List.not_mem_nil⟩⟩, fun _ h => absurd h List.not_mem_nil, List.forall_mem_cons.mpr ⟨⟨wmT h (wm130), fun _ => ⟨wmT h (wm1202), wmT h (wm652), wmT h (wm653)⟩, fun h => absurd h (by decide), fun h => absurd h (by decide)⟩, fun _ h => absurd h List.not_mem_nil⟩⟩ dkX9_mostOf (by decide +kernel) (by rw [h.2.2.1]; exact q547_ok)
/-- NearSpell.Web.mostOf -/
def q548_M : rfM := ((⟨"NearSpell$Web", "mostOf", "(II)I"⟩, prog_11_method_14_code, 5, (some .int)), (9,216), ([.inr (.inl [61]),.inl (((-2147483648),2147483647,1),none),.inl ((6,8,1),none)],[]), [], [(some (.inl ((0,9,1),none)),[],[])])
def q548_P : rfP := (flX9,csX9,lcX9,spX9,[q493_M,q547_M,q513_M],[(76,2)],[(50,0,9),(72,1,9)],([],[(81,0)]))
def q548_U : rfU := []
set_option maxHeartbeats 8000000 in
def q548_N : List rfB := [(0,([(0,.inr (.inl [61])),(1,.inl (((-2147483648),2147483647,1),none)),(2,.inl ((6,8,1),none))],[],[]),(61,[]),0)]
set_option maxRecDepth 100000 in
theorem q548_ok : rf_chkB q548_P q548_U wLay q548_M ddX9_mostOf [(15,[0]),(26,[1]),(53,[1]),(67,[2]),(84,[1])] [] [0] 600 q548_N = true := by decide +kernel
set_option maxHeartbeats 4000000 in
theorem q548_met {G : rfG} (h : okG G) : rf_met G q548_M := rf_methodB h.1 (P := q548_P) (U := q548_U) (N := q548_N) ⟨wflT h flokX9, wcsT h csokX9, wlcT h lcokX9, spokX9 h, List.forall_mem_cons.mpr ⟨q493_met h, List.forall_mem_cons.mpr ⟨q547_met h, List.forall_mem_cons.mpr ⟨q513_met h, fun _ h => absurd h List.not_mem_nil⟩⟩⟩, List.forall_mem_cons.mpr ⟨fun M hM => Option.some.inj (show some q513_M = some M from hM) ▸ wlkS (lkX9_76 h) q513_M rfl rfl, fun _ h => absurd h List.not_mem_nil⟩, List.forall_mem_cons.mpr ⟨fun M hM => Option.some.inj (show some q493_M = some M from hM) ▸ wlkV (lkX9_50 h) q493_M rfl rfl, List.forall_mem_cons.mpr ⟨fun M hM => Option.some.inj (show some q547_M = some M from hM) ▸ wlkV (lkX9_72 h) q547_M rfl rfl, fun _ h => absurd h List.not_mem_nil⟩⟩, fun _ h => absurd h List.not_mem_nil, List.forall_mem_cons.mpr ⟨⟨wmT h (wm130), fun _ => ⟨wmT h (wm1202), wmT h (wm652), wmT h (wm653)⟩, fun h => absurd h (by decide), fun h => absurd h (by decide)⟩, fun _ h => absurd h List.not_mem_nil⟩⟩ dkX9_mostOf (by decide +kernel) (by rw [h.2.2.1]; exact q548_ok)
/-- NearSpell.Web.mostOf -/
def q549_M : rfM := ((⟨"NearSpell$Web", "mostOf", "(II)I"⟩, prog_11_method_14_code, 5, (some .int)), (10,240), ([.inr (.inl [61]),.inl (((-2147483648),2147483647,1),none),.inl ((7,9,1),none)],[]), [], [(some (.inl ((0,10,1),none)),[],[])])
def q549_P : rfP := (flX9,csX9,lcX9,spX9,[q493_M,q548_M,q513_M],[(76,2)],[(50,0,9),(72,1,9)],([],[(81,0)]))
def q549_U : rfU := []
set_option maxHeartbeats 8000000 in
def q549_N : List rfB := [(0,([(0,.inr (.inl [61])),(1,.inl (((-2147483648),2147483647,1),none)),(2,.inl ((7,9,1),none))],[],[]),(61,[]),0)]
set_option maxRecDepth 100000 in
theorem q549_ok : rf_chkB q549_P q549_U wLay q549_M ddX9_mostOf [(15,[0]),(26,[1]),(53,[1]),(67,[2]),(84,[1])] [] [0] 600 q549_N = true := by decide +kernel
set_option maxHeartbeats 4000000 in
theorem q549_met {G : rfG} (h : okG G) : rf_met G q549_M := rf_methodB h.1 (P := q549_P) (U := q549_U) (N := q549_N) ⟨wflT h flokX9, wcsT h csokX9, wlcT h lcokX9, spokX9 h, List.forall_mem_cons.mpr ⟨q493_met h, List.forall_mem_cons.mpr ⟨q548_met h, List.forall_mem_cons.mpr ⟨q513_met h, fun _ h => absurd h List.not_mem_nil⟩⟩⟩, List.forall_mem_cons.mpr ⟨fun M hM => Option.some.inj (show some q513_M = some M from hM) ▸ wlkS (lkX9_76 h) q513_M rfl rfl, fun _ h => absurd h List.not_mem_nil⟩, List.forall_mem_cons.mpr ⟨fun M hM => Option.some.inj (show some q493_M = some M from hM) ▸ wlkV (lkX9_50 h) q493_M rfl rfl, List.forall_mem_cons.mpr ⟨fun M hM => Option.some.inj (show some q548_M = some M from hM) ▸ wlkV (lkX9_72 h) q548_M rfl rfl, fun _ h => absurd h List.not_mem_nil⟩⟩, fun _ h => absurd h List.not_mem_nil, List.forall_mem_cons.mpr ⟨⟨wmT h (wm130), fun _ => ⟨wmT h (wm1202), wmT h (wm652), wmT h (wm653)⟩, fun h => absurd h (by decide), fun h => absurd h (by decide)⟩, fun _ h => absurd h List.not_mem_nil⟩⟩ dkX9_mostOf (by decide +kernel) (by rw [h.2.2.1]; exact q549_ok)
