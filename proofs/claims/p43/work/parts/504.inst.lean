/-- NearSpell.Laid.formsOf -/
def q210_M : rfM := ((⟨"NearSpell$Laid", "formsOf", "(I)LNearSpell$FormList;"⟩, prog_6_method_3_code, 2, (some (.object "NearSpell$FormList"))), (3,72), ([.inr (.inl [53]),.inl ((0,3,1),none)],[]), [(21,0),(22,2),(22,3),(22,4),(22,5),(23,0),(24,2),(24,3),(24,4),(24,5),(25,0),(26,2),(26,3),(26,4),(26,5),(27,0),(28,2),(28,3),(28,4),(28,5),(29,0),(30,2),(30,3),(30,4),(30,5),(31,0),(32,2),(32,3),(32,4),(32,5),(33,0),(34,2),(34,3),(34,4),(34,5),(35,0),(36,2),(36,3),(36,4),(36,5),(37,0),(38,2),(38,3),(38,4),(38,5),(39,0),(40,2),(40,3),(40,4),(40,5),(41,0),(42,2),(42,3),(42,4),(42,5),(43,0),(44,2),(44,3),(44,4),(44,5),(45,0),(46,2),(46,3),(46,4),(46,5),(47,0),(48,2),(48,3),(48,4),(48,5)], [(some (.inr (.inl [22,24,26,28,30,32,34,36,38,40,42,44,46,48])),[],[])])
def q210_P : rfP := (flX4,csX4,lcX4,spX4,[q167_M,q156_M],[],[(43,1,3),(51,0,8)],([],[]))
def q210_U : rfU := []
set_option maxHeartbeats 8000000 in
def q210_N : List rfB := [(0,([(0,.inr (.inl [53])),(1,.inl ((0,3,1),none))],[],[]),(24,[]),0)]
set_option maxRecDepth 100000 in
theorem q210_ok : rf_chkB q210_P q210_U wLay q210_M ddX4_formsOf [(27,[0]),(44,[1])] [] [0] 600 q210_N = true := by decide +kernel
set_option maxHeartbeats 4000000 in
theorem q210_met {G : rfG} (h : okG G) (hh : wHandOK G) : rf_met G q210_M := rf_methodB h.1 (P := q210_P) (U := q210_U) (N := q210_N) ⟨wflT h flokX4, wcsT h csokX4, wlcT h lcokX4, spokX4 h, List.forall_mem_cons.mpr ⟨q167_met h hh, List.forall_mem_cons.mpr ⟨q156_met h hh, fun _ h => absurd h List.not_mem_nil⟩⟩, fun _ h => absurd h List.not_mem_nil, List.forall_mem_cons.mpr ⟨fun M hM => Option.some.inj (show some q156_M = some M from hM) ▸ wlkV (lkX4_43 h) q156_M rfl rfl, List.forall_mem_cons.mpr ⟨fun M hM => Option.some.inj (show some q167_M = some M from hM) ▸ wlkV (lkX4_51 h) q167_M rfl rfl, fun _ h => absurd h List.not_mem_nil⟩⟩, fun _ h => absurd h List.not_mem_nil, fun _ h => absurd h List.not_mem_nil⟩ dkX4_formsOf (by decide +kernel) (by rw [h.2.2.1]; exact q210_ok)
/-- NearSpell.Laid.formsOf -/
def q211_M : rfM := ((⟨"NearSpell$Laid", "formsOf", "(I)LNearSpell$FormList;"⟩, prog_6_method_3_code, 2, (some (.object "NearSpell$FormList"))), (3,72), ([.inr (.inl [53]),.inl ((0,12,1),none)],[]), [(21,0),(22,2),(22,3),(22,4),(22,5),(23,0),(24,2),(24,3),(24,4),(24,5),(25,0),(26,2),(26,3),(26,4),(26,5),(27,0),(28,2),(28,3),(28,4),(28,5),(29,0),(30,2),(30,3),(30,4),(30,5),(31,0),(32,2),(32,3),(32,4),(32,5),(33,0),(34,2),(34,3),(34,4),(34,5),(35,0),(36,2),(36,3),(36,4),(36,5),(37,0),(38,2),(38,3),(38,4),(38,5),(39,0),(40,2),(40,3),(40,4),(40,5),(41,0),(42,2),(42,3),(42,4),(42,5),(43,0),(44,2),(44,3),(44,4),(44,5),(45,0),(46,2),(46,3),(46,4),(46,5),(47,0),(48,2),(48,3),(48,4),(48,5)], [(some (.inr (.inl [22,24,26,28,30,32,34,36,38,40,42,44,46,48])),[],[])])
def q211_P : rfP := (flX4,csX4,lcX4,spX4,[q173_M,q156_M],[],[(43,1,3),(51,0,8)],([],[]))
def q211_U : rfU := []
set_option maxHeartbeats 8000000 in
def q211_N : List rfB := [(0,([(0,.inr (.inl [53])),(1,.inl ((0,12,1),none))],[],[]),(24,[]),0)]
set_option maxRecDepth 100000 in
theorem q211_ok : rf_chkB q211_P q211_U wLay q211_M ddX4_formsOf [(27,[0]),(44,[1])] [] [0] 600 q211_N = true := by decide +kernel
set_option maxHeartbeats 4000000 in
theorem q211_met {G : rfG} (h : okG G) (hh : wHandOK G) : rf_met G q211_M := rf_methodB h.1 (P := q211_P) (U := q211_U) (N := q211_N) ⟨wflT h flokX4, wcsT h csokX4, wlcT h lcokX4, spokX4 h, List.forall_mem_cons.mpr ⟨q173_met h hh, List.forall_mem_cons.mpr ⟨q156_met h hh, fun _ h => absurd h List.not_mem_nil⟩⟩, fun _ h => absurd h List.not_mem_nil, List.forall_mem_cons.mpr ⟨fun M hM => Option.some.inj (show some q156_M = some M from hM) ▸ wlkV (lkX4_43 h) q156_M rfl rfl, List.forall_mem_cons.mpr ⟨fun M hM => Option.some.inj (show some q173_M = some M from hM) ▸ wlkV (lkX4_51 h) q173_M rfl rfl, fun _ h => absurd h List.not_mem_nil⟩⟩, fun _ h => absurd h List.not_mem_nil, fun _ h => absurd h List.not_mem_nil⟩ dkX4_formsOf (by decide +kernel) (by rw [h.2.2.1]; exact q211_ok)
/-- NearSpell.Finder.trulyMetBy -/
def q212_M : rfM := ((⟨"NearSpell$Finder", "trulyMetBy", "(I)I"⟩, prog_4_method_3_code, 5, (some .int)), (4,93), ([.inr (.inl [55]),.inl ((0,387420488,1),none)],[]), [(21,0),(22,2),(22,3),(22,4),(22,5),(23,0),(24,2),(24,3),(24,4),(24,5),(25,0),(26,2),(26,3),(26,4),(26,5),(27,0),(28,2),(28,3),(28,4),(28,5),(29,0),(30,2),(30,3),(30,4),(30,5),(31,0),(32,2),(32,3),(32,4),(32,5),(33,0),(34,2),(34,3),(34,4),(34,5),(35,0),(36,2),(36,3),(36,4),(36,5),(37,0),(38,2),(38,3),(38,4),(38,5),(39,0),(40,2),(40,3),(40,4),(40,5),(41,0),(42,2),(42,3),(42,4),(42,5),(43,0),(44,2),(44,3),(44,4),(44,5),(45,0),(46,2),(46,3),(46,4),(46,5),(47,0),(48,2),(48,3),(48,4),(48,5),(49,0),(50,2),(50,3),(50,4),(50,5)], [(some (.inl ((0,2147483647,1),none)),[],[((50,2),(0,387420488,1),none),((50,3),(1,6,1),none),((50,4),(0,2,1),none)])])
def ddX2_trulyMetBy : List (Nat × Instr × Nat) := [(0,.aload_n 0,1),(1,.getfield 19,3),(4,.iload_n 1,1),(5,.invokevirtual 31,3),(8,.astore_n 2,1),(9,.iconst 0,1),(10,.istore_n 3,1),(11,.iconst 0,1),(12,.istore 4,2),(14,.iload 4,2),(16,.aload_n 0,1),(17,.getfield 15,3),(20,.invokevirtual 43,3),(23,.if_icmp .ge 44,3),(26,.aload_n 0,1),(27,.getfield 15,3),(30,.iload 4,2),(32,.invokevirtual 49,3),(35,.ifCond .eq 26,3),(38,.aload_n 0,1),(39,.getfield 19,3),(42,.iload 4,2),(44,.invokevirtual 53,3),(47,.aload_n 2,1),(48,.invokevirtual 56,3),(51,.ifCond .eq 10,3),(54,.iload_n 3,1),(55,.iconst 1,1),(56,.iload 4,2),(58,.ishl,1),(59,.ior,1),(60,.istore_n 3,1),(61,.iinc 4 1,3),(64,.goto (-50),3),(67,.iload_n 3,1),(68,.ireturn,1)]
set_option maxRecDepth 100000 in
theorem dkX2_trulyMetBy : rf_decs prog_4_method_3_code ddX2_trulyMetBy := rf_decs_of (by decide +kernel)
def q212_P : rfP := (flX2,csX2,lcX2,spX2,[q204_M,q176_M,q174_M,q157_M,q207_M],[],[(31,0,4),(43,1,8),(49,2,8),(53,3,4),(56,4,3)],([],[]))
def q212_U : rfU := []
set_option maxHeartbeats 8000000 in
def q212_N : List rfB := [(0,([(0,.inr (.inl [55])),(1,.inl ((0,387420488,1),none))],[],[]),(430,[0]),0),
  (14,([(0,.inr (.inl [55])),(1,.inl ((0,387420488,1),none)),(2,.inr (.inl [50])),(3,.inl ((0,2147483647,1),none)),(4,.inl ((0,14,1),none))],[],[((50,2),(0,387420488,1),none),((50,3),(1,6,1),none),((50,4),(0,2,1),none)]),(419,[(-28)]),0),
  (61,([(0,.inr (.inl [55])),(1,.inl ((0,387420488,1),none)),(2,.inr (.inl [50])),(3,.inl ((0,2147483647,1),none)),(4,.inl ((0,13,1),none))],[],[((50,2),(0,387420488,1),none),((50,3),(1,6,1),none),((50,4),(0,2,1),none)]),(394,[(-28)]),0)]
set_option maxRecDepth 100000 in
theorem q212_ok : rf_chkB q212_P q212_U wLay q212_M ddX2_trulyMetBy [(5,[0]),(20,[1]),(32,[2]),(44,[3]),(48,[4])] [.inl 4] [0,14,61] 600 q212_N = true := by decide +kernel
set_option maxHeartbeats 4000000 in
theorem q212_met {G : rfG} (h : okG G) (hh : wHandOK G) : rf_met G q212_M := rf_methodB h.1 (P := q212_P) (U := q212_U) (N := q212_N) ⟨wflT h flokX2, wcsT h csokX2, wlcT h lcokX2, spokX2 h, List.forall_mem_cons.mpr ⟨q204_met h hh, List.forall_mem_cons.mpr ⟨q176_met h hh, List.forall_mem_cons.mpr ⟨q174_met h hh, List.forall_mem_cons.mpr ⟨q157_met h hh, List.forall_mem_cons.mpr ⟨q207_met h hh, fun _ h => absurd h List.not_mem_nil⟩⟩⟩⟩⟩, fun _ h => absurd h List.not_mem_nil, List.forall_mem_cons.mpr ⟨fun M hM => Option.some.inj (show some q204_M = some M from hM) ▸ wlkV (lkX2_31 h) q204_M rfl rfl, List.forall_mem_cons.mpr ⟨fun M hM => Option.some.inj (show some q176_M = some M from hM) ▸ wlkV (lkX2_43 h) q176_M rfl rfl, List.forall_mem_cons.mpr ⟨fun M hM => Option.some.inj (show some q174_M = some M from hM) ▸ wlkV (lkX2_49 h) q174_M rfl rfl, List.forall_mem_cons.mpr ⟨fun M hM => Option.some.inj (show some q157_M = some M from hM) ▸ wlkV (lkX2_53 h) q157_M rfl rfl, List.forall_mem_cons.mpr ⟨fun M hM => Option.some.inj (show some q207_M = some M from hM) ▸ wlkV (lkX2_56 h) q207_M rfl rfl, fun _ h => absurd h List.not_mem_nil⟩⟩⟩⟩⟩, fun _ h => absurd h List.not_mem_nil, fun _ h => absurd h List.not_mem_nil⟩ dkX2_trulyMetBy (by decide +kernel) (by rw [h.2.2.1]; exact q212_ok)
/-- NearSpell.State.usesOf -/
def q213_M : rfM := ((⟨"NearSpell$State", "usesOf", "(I)I"⟩, prog_10_method_8_code, 2, (some .int)), (0,0), ([.inr (.inl [13]),.inl ((0,1,1),none)],[]), [], [(some (.inl (((-2147483648),2147483647,1),none)),[],[])])
def q213_P : rfP := (flX8,csX8,lcX8,spX8,[],[],[],([],[]))
def q213_U : rfU := []
set_option maxHeartbeats 8000000 in
def q213_N : List rfB := [(0,([(0,.inr (.inl [13])),(1,.inl ((0,1,1),none))],[],[]),(12,[]),0)]
set_option maxRecDepth 100000 in
theorem q213_ok : rf_chkB q213_P q213_U wLay q213_M ddX8_usesOf [] [] [0] 600 q213_N = true := by decide +kernel
set_option maxHeartbeats 4000000 in
theorem q213_met {G : rfG} (h : okG G) (hh : wHandOK G) : rf_met G q213_M := rf_methodB h.1 (P := q213_P) (U := q213_U) (N := q213_N) ⟨wflT h flokX8, wcsT h csokX8, wlcT h lcokX8, spokX8 h, fun _ h => absurd h List.not_mem_nil, fun _ h => absurd h List.not_mem_nil, fun _ h => absurd h List.not_mem_nil, fun _ h => absurd h List.not_mem_nil, fun _ h => absurd h List.not_mem_nil⟩ dkX8_usesOf (by decide +kernel) (by rw [h.2.2.1]; exact q213_ok)
/-- NearSpell.State.usesOf -/
def q214_M : rfM := ((⟨"NearSpell$State", "usesOf", "(I)I"⟩, prog_10_method_8_code, 2, (some .int)), (0,0), ([.inr (.inl [13]),.inl ((0,0,0),none)],[]), [], [(some (.inl (((-2147483648),2147483647,1),none)),[],[])])
def q214_P : rfP := (flX8,csX8,lcX8,spX8,[],[],[],([],[]))
def q214_U : rfU := []
set_option maxHeartbeats 8000000 in
def q214_N : List rfB := [(0,([(0,.inr (.inl [13])),(1,.inl ((0,0,0),none))],[],[]),(12,[]),0)]
set_option maxRecDepth 100000 in
theorem q214_ok : rf_chkB q214_P q214_U wLay q214_M ddX8_usesOf [] [] [0] 600 q214_N = true := by decide +kernel
set_option maxHeartbeats 4000000 in
theorem q214_met {G : rfG} (h : okG G) (hh : wHandOK G) : rf_met G q214_M := rf_methodB h.1 (P := q214_P) (U := q214_U) (N := q214_N) ⟨wflT h flokX8, wcsT h csokX8, wlcT h lcokX8, spokX8 h, fun _ h => absurd h List.not_mem_nil, fun _ h => absurd h List.not_mem_nil, fun _ h => absurd h List.not_mem_nil, fun _ h => absurd h List.not_mem_nil, fun _ h => absurd h List.not_mem_nil⟩ dkX8_usesOf (by decide +kernel) (by rw [h.2.2.1]; exact q214_ok)
/-- NearSpell.Finder.comesAhead -/
def q215_M : rfM := ((⟨"NearSpell$Finder", "comesAhead", "(II)Z"⟩, prog_4_method_8_code, 3, (some .boolean)), (1,21), ([.inr (.inl [55]),.inl ((0,1,1),none),.inl ((0,0,0),none)],[]), [], [(some (.inl ((1,1,0),none)),[],[]),(some (.inl ((0,0,0),none)),[],[])])
def ddX2_comesAhead : List (Nat × Instr × Nat) := [(0,.aload_n 0,1),(1,.getfield 27,3),(4,.iload_n 1,1),(5,.iaload,1),(6,.aload_n 0,1),(7,.getfield 27,3),(10,.iload_n 2,1),(11,.iaload,1),(12,.if_icmp .eq 24,3),(15,.aload_n 0,1),(16,.getfield 27,3),(19,.iload_n 1,1),(20,.iaload,1),(21,.aload_n 0,1),(22,.getfield 27,3),(25,.iload_n 2,1),(26,.iaload,1),(27,.if_icmp .ge 7,3),(30,.iconst 1,1),(31,.goto 4,3),(34,.iconst 0,1),(35,.ireturn,1),(36,.aload_n 0,1),(37,.getfield 15,3),(40,.iload_n 1,1),(41,.invokevirtual 87,3),(44,.aload_n 0,1),(45,.getfield 15,3),(48,.iload_n 2,1),(49,.invokevirtual 87,3),(52,.if_icmp .le 7,3),(55,.iconst 1,1),(56,.goto 4,3),(59,.iconst 0,1),(60,.ireturn,1)]
set_option maxRecDepth 100000 in
theorem dkX2_comesAhead : rf_decs prog_4_method_8_code ddX2_comesAhead := rf_decs_of (by decide +kernel)
def q215_P : rfP := (flX2,csX2,lcX2,spX2,[q213_M,q214_M],[],[(87,0,8),(87,1,8)],([],[]))
def q215_U : rfU := []
set_option maxHeartbeats 8000000 in
def q215_N : List rfB := [(0,([(0,.inr (.inl [55])),(1,.inl ((0,1,1),none)),(2,.inl ((0,0,0),none))],[],[]),(36,[]),0)]
set_option maxRecDepth 100000 in
theorem q215_ok : rf_chkB q215_P q215_U wLay q215_M ddX2_comesAhead [(41,[0]),(49,[1])] [] [0] 600 q215_N = true := by decide +kernel
set_option maxHeartbeats 4000000 in
theorem q215_met {G : rfG} (h : okG G) (hh : wHandOK G) : rf_met G q215_M := rf_methodB h.1 (P := q215_P) (U := q215_U) (N := q215_N) ⟨wflT h flokX2, wcsT h csokX2, wlcT h lcokX2, spokX2 h, List.forall_mem_cons.mpr ⟨q213_met h hh, List.forall_mem_cons.mpr ⟨q214_met h hh, fun _ h => absurd h List.not_mem_nil⟩⟩, fun _ h => absurd h List.not_mem_nil, List.forall_mem_cons.mpr ⟨fun M hM => Option.some.inj (show some q213_M = some M from hM) ▸ wlkV (lkX2_87 h) q213_M rfl rfl, List.forall_mem_cons.mpr ⟨fun M hM => Option.some.inj (show some q214_M = some M from hM) ▸ wlkV (lkX2_87 h) q214_M rfl rfl, fun _ h => absurd h List.not_mem_nil⟩⟩, fun _ h => absurd h List.not_mem_nil, fun _ h => absurd h List.not_mem_nil⟩ dkX2_comesAhead (by decide +kernel) (by rw [h.2.2.1]; exact q215_ok)
/-- NearSpell.State.usesOf -/
def q216_M : rfM := ((⟨"NearSpell$State", "usesOf", "(I)I"⟩, prog_10_method_8_code, 2, (some .int)), (0,0), ([.inr (.inl [13]),.inl ((0,2,1),none)],[]), [], [(some (.inl (((-2147483648),2147483647,1),none)),[],[])])
def q216_P : rfP := (flX8,csX8,lcX8,spX8,[],[],[],([],[]))
def q216_U : rfU := []
set_option maxHeartbeats 8000000 in
def q216_N : List rfB := [(0,([(0,.inr (.inl [13])),(1,.inl ((0,2,1),none))],[],[]),(12,[]),0)]
set_option maxRecDepth 100000 in
theorem q216_ok : rf_chkB q216_P q216_U wLay q216_M ddX8_usesOf [] [] [0] 600 q216_N = true := by decide +kernel
set_option maxHeartbeats 4000000 in
theorem q216_met {G : rfG} (h : okG G) (hh : wHandOK G) : rf_met G q216_M := rf_methodB h.1 (P := q216_P) (U := q216_U) (N := q216_N) ⟨wflT h flokX8, wcsT h csokX8, wlcT h lcokX8, spokX8 h, fun _ h => absurd h List.not_mem_nil, fun _ h => absurd h List.not_mem_nil, fun _ h => absurd h List.not_mem_nil, fun _ h => absurd h List.not_mem_nil, fun _ h => absurd h List.not_mem_nil⟩ dkX8_usesOf (by decide +kernel) (by rw [h.2.2.1]; exact q216_ok)
/-- NearSpell.Finder.comesAhead -/
def q217_M : rfM := ((⟨"NearSpell$Finder", "comesAhead", "(II)Z"⟩, prog_4_method_8_code, 3, (some .boolean)), (1,21), ([.inr (.inl [55]),.inl ((0,2,1),none),.inl ((0,1,1),none)],[]), [], [(some (.inl ((1,1,0),none)),[],[]),(some (.inl ((0,0,0),none)),[],[])])
def q217_P : rfP := (flX2,csX2,lcX2,spX2,[q216_M,q213_M],[],[(87,0,8),(87,1,8)],([],[]))
def q217_U : rfU := []
set_option maxHeartbeats 8000000 in
def q217_N : List rfB := [(0,([(0,.inr (.inl [55])),(1,.inl ((0,2,1),none)),(2,.inl ((0,1,1),none))],[],[]),(36,[]),0)]
set_option maxRecDepth 100000 in
theorem q217_ok : rf_chkB q217_P q217_U wLay q217_M ddX2_comesAhead [(41,[0]),(49,[1])] [] [0] 600 q217_N = true := by decide +kernel
set_option maxHeartbeats 4000000 in
theorem q217_met {G : rfG} (h : okG G) (hh : wHandOK G) : rf_met G q217_M := rf_methodB h.1 (P := q217_P) (U := q217_U) (N := q217_N) ⟨wflT h flokX2, wcsT h csokX2, wlcT h lcokX2, spokX2 h, List.forall_mem_cons.mpr ⟨q216_met h hh, List.forall_mem_cons.mpr ⟨q213_met h hh, fun _ h => absurd h List.not_mem_nil⟩⟩, fun _ h => absurd h List.not_mem_nil, List.forall_mem_cons.mpr ⟨fun M hM => Option.some.inj (show some q216_M = some M from hM) ▸ wlkV (lkX2_87 h) q216_M rfl rfl, List.forall_mem_cons.mpr ⟨fun M hM => Option.some.inj (show some q213_M = some M from hM) ▸ wlkV (lkX2_87 h) q213_M rfl rfl, fun _ h => absurd h List.not_mem_nil⟩⟩, fun _ h => absurd h List.not_mem_nil, fun _ h => absurd h List.not_mem_nil⟩ dkX2_comesAhead (by decide +kernel) (by rw [h.2.2.1]; exact q217_ok)
/-- NearSpell.State.usesOf -/
def q218_M : rfM := ((⟨"NearSpell$State", "usesOf", "(I)I"⟩, prog_10_method_8_code, 2, (some .int)), (0,0), ([.inr (.inl [13]),.inl ((0,3,1),none)],[]), [], [(some (.inl (((-2147483648),2147483647,1),none)),[],[])])
def q218_P : rfP := (flX8,csX8,lcX8,spX8,[],[],[],([],[]))
def q218_U : rfU := []
set_option maxHeartbeats 8000000 in
def q218_N : List rfB := [(0,([(0,.inr (.inl [13])),(1,.inl ((0,3,1),none))],[],[]),(12,[]),0)]
set_option maxRecDepth 100000 in
theorem q218_ok : rf_chkB q218_P q218_U wLay q218_M ddX8_usesOf [] [] [0] 600 q218_N = true := by decide +kernel
set_option maxHeartbeats 4000000 in
theorem q218_met {G : rfG} (h : okG G) (hh : wHandOK G) : rf_met G q218_M := rf_methodB h.1 (P := q218_P) (U := q218_U) (N := q218_N) ⟨wflT h flokX8, wcsT h csokX8, wlcT h lcokX8, spokX8 h, fun _ h => absurd h List.not_mem_nil, fun _ h => absurd h List.not_mem_nil, fun _ h => absurd h List.not_mem_nil, fun _ h => absurd h List.not_mem_nil, fun _ h => absurd h List.not_mem_nil⟩ dkX8_usesOf (by decide +kernel) (by rw [h.2.2.1]; exact q218_ok)
/-- NearSpell.Finder.comesAhead -/
def q219_M : rfM := ((⟨"NearSpell$Finder", "comesAhead", "(II)Z"⟩, prog_4_method_8_code, 3, (some .boolean)), (1,21), ([.inr (.inl [55]),.inl ((0,3,1),none),.inl ((0,2,1),none)],[]), [], [(some (.inl ((1,1,0),none)),[],[]),(some (.inl ((0,0,0),none)),[],[])])
def q219_P : rfP := (flX2,csX2,lcX2,spX2,[q218_M,q216_M],[],[(87,0,8),(87,1,8)],([],[]))
def q219_U : rfU := []
set_option maxHeartbeats 8000000 in
def q219_N : List rfB := [(0,([(0,.inr (.inl [55])),(1,.inl ((0,3,1),none)),(2,.inl ((0,2,1),none))],[],[]),(36,[]),0)]
set_option maxRecDepth 100000 in
theorem q219_ok : rf_chkB q219_P q219_U wLay q219_M ddX2_comesAhead [(41,[0]),(49,[1])] [] [0] 600 q219_N = true := by decide +kernel
set_option maxHeartbeats 4000000 in
theorem q219_met {G : rfG} (h : okG G) (hh : wHandOK G) : rf_met G q219_M := rf_methodB h.1 (P := q219_P) (U := q219_U) (N := q219_N) ⟨wflT h flokX2, wcsT h csokX2, wlcT h lcokX2, spokX2 h, List.forall_mem_cons.mpr ⟨q218_met h hh, List.forall_mem_cons.mpr ⟨q216_met h hh, fun _ h => absurd h List.not_mem_nil⟩⟩, fun _ h => absurd h List.not_mem_nil, List.forall_mem_cons.mpr ⟨fun M hM => Option.some.inj (show some q218_M = some M from hM) ▸ wlkV (lkX2_87 h) q218_M rfl rfl, List.forall_mem_cons.mpr ⟨fun M hM => Option.some.inj (show some q216_M = some M from hM) ▸ wlkV (lkX2_87 h) q216_M rfl rfl, fun _ h => absurd h List.not_mem_nil⟩⟩, fun _ h => absurd h List.not_mem_nil, fun _ h => absurd h List.not_mem_nil⟩ dkX2_comesAhead (by decide +kernel) (by rw [h.2.2.1]; exact q219_ok)
/-- NearSpell.State.usesOf -/
def q220_M : rfM := ((⟨"NearSpell$State", "usesOf", "(I)I"⟩, prog_10_method_8_code, 2, (some .int)), (0,0), ([.inr (.inl [13]),.inl ((0,12,1),none)],[]), [], [(some (.inl (((-2147483648),2147483647,1),none)),[],[])])
def q220_P : rfP := (flX8,csX8,lcX8,spX8,[],[],[],([],[]))
def q220_U : rfU := []
set_option maxHeartbeats 8000000 in
def q220_N : List rfB := [(0,([(0,.inr (.inl [13])),(1,.inl ((0,12,1),none))],[],[]),(12,[]),0)]
set_option maxRecDepth 100000 in
theorem q220_ok : rf_chkB q220_P q220_U wLay q220_M ddX8_usesOf [] [] [0] 600 q220_N = true := by decide +kernel
set_option maxHeartbeats 4000000 in
theorem q220_met {G : rfG} (h : okG G) (hh : wHandOK G) : rf_met G q220_M := rf_methodB h.1 (P := q220_P) (U := q220_U) (N := q220_N) ⟨wflT h flokX8, wcsT h csokX8, wlcT h lcokX8, spokX8 h, fun _ h => absurd h List.not_mem_nil, fun _ h => absurd h List.not_mem_nil, fun _ h => absurd h List.not_mem_nil, fun _ h => absurd h List.not_mem_nil, fun _ h => absurd h List.not_mem_nil⟩ dkX8_usesOf (by decide +kernel) (by rw [h.2.2.1]; exact q220_ok)
/-- NearSpell.Finder.comesAhead -/
def q221_M : rfM := ((⟨"NearSpell$Finder", "comesAhead", "(II)Z"⟩, prog_4_method_8_code, 3, (some .boolean)), (1,21), ([.inr (.inl [55]),.inl ((0,12,1),none),.inl ((0,12,1),none)],[]), [], [(some (.inl ((1,1,0),none)),[],[]),(some (.inl ((0,0,0),none)),[],[])])
def q221_P : rfP := (flX2,csX2,lcX2,spX2,[q220_M],[],[(87,0,8)],([],[]))
def q221_U : rfU := []
set_option maxHeartbeats 8000000 in
def q221_N : List rfB := [(0,([(0,.inr (.inl [55])),(1,.inl ((0,12,1),none)),(2,.inl ((0,12,1),none))],[],[]),(36,[]),0)]
set_option maxRecDepth 100000 in
theorem q221_ok : rf_chkB q221_P q221_U wLay q221_M ddX2_comesAhead [(41,[0]),(49,[0])] [] [0] 600 q221_N = true := by decide +kernel
set_option maxHeartbeats 4000000 in
theorem q221_met {G : rfG} (h : okG G) (hh : wHandOK G) : rf_met G q221_M := rf_methodB h.1 (P := q221_P) (U := q221_U) (N := q221_N) ⟨wflT h flokX2, wcsT h csokX2, wlcT h lcokX2, spokX2 h, List.forall_mem_cons.mpr ⟨q220_met h hh, fun _ h => absurd h List.not_mem_nil⟩, fun _ h => absurd h List.not_mem_nil, List.forall_mem_cons.mpr ⟨fun M hM => Option.some.inj (show some q220_M = some M from hM) ▸ wlkV (lkX2_87 h) q220_M rfl rfl, fun _ h => absurd h List.not_mem_nil⟩, fun _ h => absurd h List.not_mem_nil, fun _ h => absurd h List.not_mem_nil⟩ dkX2_comesAhead (by decide +kernel) (by rw [h.2.2.1]; exact q221_ok)
/-- NearSpell.Finder.comesAhead -/
def q222_M : rfM := ((⟨"NearSpell$Finder", "comesAhead", "(II)Z"⟩, prog_4_method_8_code, 3, (some .boolean)), (1,21), ([.inr (.inl [55]),.inl ((0,13,1),none),.inl ((0,12,1),none)],[]), [], [(some (.inl ((1,1,0),none)),[],[]),(some (.inl ((0,0,0),none)),[],[])])
def q222_P : rfP := (flX2,csX2,lcX2,spX2,[q101_M,q220_M],[],[(87,0,8),(87,1,8)],([],[]))
def q222_U : rfU := []
set_option maxHeartbeats 8000000 in
def q222_N : List rfB := [(0,([(0,.inr (.inl [55])),(1,.inl ((0,13,1),none)),(2,.inl ((0,12,1),none))],[],[]),(36,[]),0)]
set_option maxRecDepth 100000 in
theorem q222_ok : rf_chkB q222_P q222_U wLay q222_M ddX2_comesAhead [(41,[0]),(49,[1])] [] [0] 600 q222_N = true := by decide +kernel
set_option maxHeartbeats 4000000 in
theorem q222_met {G : rfG} (h : okG G) (hh : wHandOK G) : rf_met G q222_M := rf_methodB h.1 (P := q222_P) (U := q222_U) (N := q222_N) ⟨wflT h flokX2, wcsT h csokX2, wlcT h lcokX2, spokX2 h, List.forall_mem_cons.mpr ⟨q101_met h hh, List.forall_mem_cons.mpr ⟨q220_met h hh, fun _ h => absurd h List.not_mem_nil⟩⟩, fun _ h => absurd h List.not_mem_nil, List.forall_mem_cons.mpr ⟨fun M hM => Option.some.inj (show some q101_M = some M from hM) ▸ wlkV (lkX2_87 h) q101_M rfl rfl, List.forall_mem_cons.mpr ⟨fun M hM => Option.some.inj (show some q220_M = some M from hM) ▸ wlkV (lkX2_87 h) q220_M rfl rfl, fun _ h => absurd h List.not_mem_nil⟩⟩, fun _ h => absurd h List.not_mem_nil, fun _ h => absurd h List.not_mem_nil⟩ dkX2_comesAhead (by decide +kernel) (by rw [h.2.2.1]; exact q222_ok)
/-- NearSpell.Finder.comesAhead -/
def q223_M : rfM := ((⟨"NearSpell$Finder", "comesAhead", "(II)Z"⟩, prog_4_method_8_code, 3, (some .boolean)), (1,21), ([.inr (.inl [55]),.inl ((0,13,1),none),.inl ((0,13,1),none)],[]), [], [(some (.inl ((1,1,0),none)),[],[]),(some (.inl ((0,0,0),none)),[],[])])
def q223_P : rfP := (flX2,csX2,lcX2,spX2,[q101_M],[],[(87,0,8)],([],[]))
def q223_U : rfU := []
set_option maxHeartbeats 8000000 in
def q223_N : List rfB := [(0,([(0,.inr (.inl [55])),(1,.inl ((0,13,1),none)),(2,.inl ((0,13,1),none))],[],[]),(36,[]),0)]
set_option maxRecDepth 100000 in
theorem q223_ok : rf_chkB q223_P q223_U wLay q223_M ddX2_comesAhead [(41,[0]),(49,[0])] [] [0] 600 q223_N = true := by decide +kernel
set_option maxHeartbeats 4000000 in
theorem q223_met {G : rfG} (h : okG G) (hh : wHandOK G) : rf_met G q223_M := rf_methodB h.1 (P := q223_P) (U := q223_U) (N := q223_N) ⟨wflT h flokX2, wcsT h csokX2, wlcT h lcokX2, spokX2 h, List.forall_mem_cons.mpr ⟨q101_met h hh, fun _ h => absurd h List.not_mem_nil⟩, fun _ h => absurd h List.not_mem_nil, List.forall_mem_cons.mpr ⟨fun M hM => Option.some.inj (show some q101_M = some M from hM) ▸ wlkV (lkX2_87 h) q101_M rfl rfl, fun _ h => absurd h List.not_mem_nil⟩, fun _ h => absurd h List.not_mem_nil, fun _ h => absurd h List.not_mem_nil⟩ dkX2_comesAhead (by decide +kernel) (by rw [h.2.2.1]; exact q223_ok)
/-- NearSpell.Finder.firstOf -/
def q224_M : rfM := ((⟨"NearSpell$Finder", "firstOf", "(I)I"⟩, prog_4_method_7_code, 4, (some .int)), (2,43), ([.inr (.inl [55]),.inl ((0,2147483647,1),none)],[]), [], [(some (.inl (((-1),13,1),none)),[],[])])
def ddX2_firstOf : List (Nat × Instr × Nat) := [(0,.iconst (-1),1),(1,.istore_n 2,1),(2,.iconst 0,1),(3,.istore_n 3,1),(4,.iload_n 3,1),(5,.bipush 14,2),(7,.if_icmp .ge 33,3),(10,.iload_n 1,1),(11,.iload_n 3,1),(12,.ishr,1),(13,.iconst 1,1),(14,.iand,1),(15,.ifCond .eq 19,3),(18,.iload_n 2,1),(19,.iconst (-1),1),(20,.if_icmp .eq 12,3),(23,.aload_n 0,1),(24,.iload_n 3,1),(25,.iload_n 2,1),(26,.invokevirtual 83,3),(29,.ifCond .eq 5,3),(32,.iload_n 3,1),(33,.istore_n 2,1),(34,.iinc 3 1,3),(37,.goto (-33),3),(40,.iload_n 2,1),(41,.ireturn,1)]
set_option maxRecDepth 100000 in
theorem dkX2_firstOf : rf_decs prog_4_method_7_code ddX2_firstOf := rf_decs_of (by decide +kernel)
def q224_P : rfP := (flX2,csX2,lcX2,spX2,[q223_M],[],[(83,0,2)],([],[]))
def q224_U : rfU := []
set_option maxHeartbeats 8000000 in
def q224_N : List rfB := [(0,([(0,.inr (.inl [55])),(1,.inl ((0,2147483647,1),none))],[],[]),(350,[0]),0),
  (4,([(0,.inr (.inl [55])),(1,.inl ((0,2147483647,1),none)),(2,.inl (((-1),13,1),none)),(3,.inl ((0,14,1),none))],[],[]),(344,[(-23)]),0),
  (34,([(0,.inr (.inl [55])),(1,.inl ((0,2147483647,1),none)),(2,.inl (((-1),13,1),none)),(3,.inl ((0,13,1),none))],[],[]),(324,[(-23)]),0),
  (32,([(0,.inr (.inl [55])),(1,.inl ((0,2147483647,1),none)),(2,.inl (((-1),13,1),none)),(3,.inl ((0,13,1),none))],[],[]),(327,[(-23)]),0)]
set_option maxRecDepth 100000 in
theorem q224_ok : rf_chkB q224_P q224_U wLay q224_M ddX2_firstOf [(26,[0])] [.inl 3] [0,4,32,34] 600 q224_N = true := by decide +kernel
set_option maxHeartbeats 4000000 in
theorem q224_met {G : rfG} (h : okG G) (hh : wHandOK G) : rf_met G q224_M := rf_methodB h.1 (P := q224_P) (U := q224_U) (N := q224_N) ⟨wflT h flokX2, wcsT h csokX2, wlcT h lcokX2, spokX2 h, List.forall_mem_cons.mpr ⟨q223_met h hh, fun _ h => absurd h List.not_mem_nil⟩, fun _ h => absurd h List.not_mem_nil, List.forall_mem_cons.mpr ⟨fun M hM => Option.some.inj (show some q223_M = some M from hM) ▸ wlkV (lkX2_83 h) q223_M rfl rfl, fun _ h => absurd h List.not_mem_nil⟩, fun _ h => absurd h List.not_mem_nil, fun _ h => absurd h List.not_mem_nil⟩ dkX2_firstOf (by decide +kernel) (by rw [h.2.2.1]; exact q224_ok)
/-- NearSpell.Finder.nearestTo -/
def q225_M : rfM := ((⟨"NearSpell$Finder", "nearestTo", "(I)I"⟩, prog_4_method_5_code, 3, (some .int)), (5,117), ([.inr (.inl [55]),.inl ((0,387420488,1),none)],[]), [(17,0),(18,0),(19,0),(20,4),(20,5),(21,0),(22,2),(22,3),(22,4),(22,5),(23,0),(24,2),(24,3),(24,4),(24,5),(25,0),(26,2),(26,3),(26,4),(26,5),(27,0),(28,2),(28,3),(28,4),(28,5),(29,0),(30,2),(30,3),(30,4),(30,5),(31,0),(32,2),(32,3),(32,4),(32,5),(33,0),(34,2),(34,3),(34,4),(34,5),(35,0),(36,2),(36,3),(36,4),(36,5),(37,0),(38,2),(38,3),(38,4),(38,5),(39,0),(40,2),(40,3),(40,4),(40,5),(41,0),(42,2),(42,3),(42,4),(42,5),(43,0),(44,2),(44,3),(44,4),(44,5),(45,0),(46,2),(46,3),(46,4),(46,5),(47,0),(48,2),(48,3),(48,4),(48,5),(49,0),(50,2),(50,3),(50,4),(50,5),(54,0)], [(some (.inl (((-1),13,1),none)),[],[((20,3),(0,6,1),none),((20,4),(0,6,1),none),((50,2),(0,387420488,1),none),((50,3),(1,6,1),none),((50,4),(0,2,1),none)])])
def ddX2_nearestTo : List (Nat × Instr × Nat) := [(0,.aload_n 0,1),(1,.iload_n 1,1),(2,.bipush 6,2),(4,.invokevirtual 73,3),(7,.aload_n 0,1),(8,.iload_n 1,1),(9,.invokevirtual 77,3),(12,.iand,1),(13,.istore_n 2,1),(14,.aload_n 0,1),(15,.iload_n 2,1),(16,.invokevirtual 80,3),(19,.ireturn,1)]
set_option maxRecDepth 100000 in
theorem dkX2_nearestTo : rf_decs prog_4_method_5_code ddX2_nearestTo := rf_decs_of (by decide +kernel)
def q225_P : rfP := (flX2,csX2,lcX2,spX2,[q198_M,q212_M,q224_M],[],[(73,0,2),(77,1,2),(80,2,2)],([],[]))
def q225_U : rfU := []
set_option maxHeartbeats 8000000 in
def q225_N : List rfB := [(0,([(0,.inr (.inl [55])),(1,.inl ((0,387420488,1),none))],[],[]),(12,[]),0)]
set_option maxRecDepth 100000 in
theorem q225_ok : rf_chkB q225_P q225_U wLay q225_M ddX2_nearestTo [(4,[0]),(9,[1]),(16,[2])] [] [0] 600 q225_N = true := by decide +kernel
set_option maxHeartbeats 4000000 in
theorem q225_met {G : rfG} (h : okG G) (hh : wHandOK G) : rf_met G q225_M := rf_methodB h.1 (P := q225_P) (U := q225_U) (N := q225_N) ⟨wflT h flokX2, wcsT h csokX2, wlcT h lcokX2, spokX2 h, List.forall_mem_cons.mpr ⟨q198_met h hh, List.forall_mem_cons.mpr ⟨q212_met h hh, List.forall_mem_cons.mpr ⟨q224_met h hh, fun _ h => absurd h List.not_mem_nil⟩⟩⟩, fun _ h => absurd h List.not_mem_nil, List.forall_mem_cons.mpr ⟨fun M hM => Option.some.inj (show some q198_M = some M from hM) ▸ wlkV (lkX2_73 h) q198_M rfl rfl, List.forall_mem_cons.mpr ⟨fun M hM => Option.some.inj (show some q212_M = some M from hM) ▸ wlkV (lkX2_77 h) q212_M rfl rfl, List.forall_mem_cons.mpr ⟨fun M hM => Option.some.inj (show some q224_M = some M from hM) ▸ wlkV (lkX2_80 h) q224_M rfl rfl, fun _ h => absurd h List.not_mem_nil⟩⟩⟩, fun _ h => absurd h List.not_mem_nil, fun _ h => absurd h List.not_mem_nil⟩ dkX2_nearestTo (by decide +kernel) (by rw [h.2.2.1]; exact q225_ok)
/-- NearSpell.type -/
def q226_M : rfM := ((⟨"NearSpell", "type", "(I)I"⟩, prog_1_method_10_code, 3, (some .int)), (6,139), ([.inr (.inl [70]),.inl (((-2147483648),2147483647,1),none)],[]), [(12,0),(14,0),(16,4),(16,5),(16,6),(17,0),(18,0),(19,0),(20,4),(20,5),(21,0),(22,2),(22,3),(22,4),(22,5),(23,0),(24,2),(24,3),(24,4),(24,5),(25,0),(26,2),(26,3),(26,4),(26,5),(27,0),(28,2),(28,3),(28,4),(28,5),(29,0),(30,2),(30,3),(30,4),(30,5),(31,0),(32,2),(32,3),(32,4),(32,5),(33,0),(34,2),(34,3),(34,4),(34,5),(35,0),(36,2),(36,3),(36,4),(36,5),(37,0),(38,2),(38,3),(38,4),(38,5),(39,0),(40,2),(40,3),(40,4),(40,5),(41,0),(42,2),(42,3),(42,4),(42,5),(43,0),(44,2),(44,3),(44,4),(44,5),(45,0),(46,2),(46,3),(46,4),(46,5),(47,0),(48,2),(48,3),(48,4),(48,5),(49,0),(50,2),(50,3),(50,4),(50,5),(54,0)], [(some (.inl (((-2),13,1),none)),[],[])])
def ddX11_type : List (Nat × Instr × Nat) := [(0,.iload_n 1,1),(1,.invokestatic 163,3),(4,.ifCond .eq 15,3),(7,.aload_n 0,1),(8,.getfield 35,3),(11,.invokevirtual 189,3),(14,.bipush 6,2),(16,.if_icmp .lt 6,3),(19,.bipush (-2),2),(21,.ireturn,1),(22,.aload_n 0,1),(23,.getfield 35,3),(26,.iload_n 1,1),(27,.aload_n 0,1),(28,.getfield 16,3),(31,.getfield 192,3),(34,.invokevirtual 195,3),(37,.istore_n 2,1),(38,.aload_n 0,1),(39,.getfield 42,3),(42,.aload_n 0,1),(43,.getfield 35,3),(46,.invokevirtual 177,3),(49,.aload_n 0,1),(50,.getfield 67,3),(53,.iload_n 2,1),(54,.invokevirtual 198,3),(57,.ireturn,1)]
set_option maxRecDepth 100000 in
theorem dkX11_type : rf_decs prog_1_method_10_code ddX11_type := rf_decs_of (by decide +kernel)
def q226_P : rfP := (flX11,csX11,lcX11,spX11,[q159_M,q185_M,q186_M,q178_M,q225_M],[(163,0)],[(177,3,0),(189,1,8),(195,2,8),(198,4,2)],([],[]))
def q226_U : rfU := []
set_option maxHeartbeats 8000000 in
def q226_N : List rfB := [(0,([(0,.inr (.inl [70])),(1,.inl (((-2147483648),2147483647,1),none))],[],[]),(28,[]),0),
  (19,([(0,.inr (.inl [70])),(1,.inl (((-2147483648),2147483647,1),none))],[],[]),(1,[]),0)]
set_option maxRecDepth 100000 in
theorem q226_ok : rf_chkB q226_P q226_U wLay q226_M ddX11_type [(1,[0]),(11,[1]),(34,[2]),(46,[3]),(54,[4])] [] [0,19] 600 q226_N = true := by decide +kernel
set_option maxHeartbeats 4000000 in
theorem q226_met {G : rfG} (h : okG G) (hh : wHandOK G) : rf_met G q226_M := rf_methodB h.1 (P := q226_P) (U := q226_U) (N := q226_N) ⟨wflT h flokX11, wcsT h csokX11, wlcT h lcokX11, spokX11 h, List.forall_mem_cons.mpr ⟨q159_met h hh, List.forall_mem_cons.mpr ⟨q185_met h hh, List.forall_mem_cons.mpr ⟨q186_met h hh, List.forall_mem_cons.mpr ⟨q178_met h hh, List.forall_mem_cons.mpr ⟨q225_met h hh, fun _ h => absurd h List.not_mem_nil⟩⟩⟩⟩⟩, List.forall_mem_cons.mpr ⟨fun M hM => Option.some.inj (show some q159_M = some M from hM) ▸ wlkS (lkX11_163 h) q159_M rfl rfl, fun _ h => absurd h List.not_mem_nil⟩, List.forall_mem_cons.mpr ⟨fun M hM => Option.some.inj (show some q178_M = some M from hM) ▸ wlkV (lkX11_177 h) q178_M rfl rfl, List.forall_mem_cons.mpr ⟨fun M hM => Option.some.inj (show some q185_M = some M from hM) ▸ wlkV (lkX11_189 h) q185_M rfl rfl, List.forall_mem_cons.mpr ⟨fun M hM => Option.some.inj (show some q186_M = some M from hM) ▸ wlkV (lkX11_195 h) q186_M rfl rfl, List.forall_mem_cons.mpr ⟨fun M hM => Option.some.inj (show some q225_M = some M from hM) ▸ wlkV (lkX11_198 h) q225_M rfl rfl, fun _ h => absurd h List.not_mem_nil⟩⟩⟩⟩, fun _ h => absurd h List.not_mem_nil, fun _ h => absurd h List.not_mem_nil⟩ dkX11_type (by decide +kernel) (by rw [h.2.2.1]; exact q226_ok)
/-- NearSpell.State.dropPhrase -/
def q227_M : rfM := ((⟨"NearSpell$State", "dropPhrase", "()V"⟩, prog_10_method_16_code, 1, none), (0,0), ([.inr (.inl [13])],[]), [(12,0)], [(none,[],[((12,35),(0,0,0),none)])])
def ddX8_dropPhrase : List (Nat × Instr × Nat) := [(0,.aload_n 0,1),(1,.getfield 11,3),(4,.bipush 35,2),(6,.iconst 0,1),(7,.iastore,1),(8,.return_,1)]
set_option maxRecDepth 100000 in
theorem dkX8_dropPhrase : rf_decs prog_10_method_16_code ddX8_dropPhrase := rf_decs_of (by decide +kernel)
def q227_P : rfP := (flX8,csX8,lcX8,spX8,[],[],[],([],[]))
def q227_U : rfU := []
set_option maxHeartbeats 8000000 in
def q227_N : List rfB := [(0,([(0,.inr (.inl [13]))],[],[]),(5,[]),0)]
set_option maxRecDepth 100000 in
theorem q227_ok : rf_chkB q227_P q227_U wLay q227_M ddX8_dropPhrase [] [] [0] 600 q227_N = true := by decide +kernel
set_option maxHeartbeats 4000000 in
theorem q227_met {G : rfG} (h : okG G) (hh : wHandOK G) : rf_met G q227_M := rf_methodB h.1 (P := q227_P) (U := q227_U) (N := q227_N) ⟨wflT h flokX8, wcsT h csokX8, wlcT h lcokX8, spokX8 h, fun _ h => absurd h List.not_mem_nil, fun _ h => absurd h List.not_mem_nil, fun _ h => absurd h List.not_mem_nil, fun _ h => absurd h List.not_mem_nil, fun _ h => absurd h List.not_mem_nil⟩ dkX8_dropPhrase (by decide +kernel) (by rw [h.2.2.1]; exact q227_ok)
/-- NearSpell.wipe -/
def q228_M : rfM := ((⟨"NearSpell", "wipe", "()I"⟩, prog_1_method_11_code, 2, (some .int)), (3,62), ([.inr (.inl [70])],[]), [(12,0),(14,0),(16,4),(16,5),(16,6)], [(some (.inl (((-1),6,1),none)),[],[])])
def ddX11_wipe : List (Nat × Instr × Nat) := [(0,.aload_n 0,1),(1,.getfield 35,3),(4,.invokevirtual 189,3),(7,.istore_n 1,1),(8,.iload_n 1,1),(9,.ifCond .ne 5,3),(12,.iconst (-1),1),(13,.ireturn,1),(14,.aload_n 0,1),(15,.getfield 35,3),(18,.invokevirtual 201,3),(21,.aload_n 0,1),(22,.getfield 42,3),(25,.aload_n 0,1),(26,.getfield 35,3),(29,.invokevirtual 177,3),(32,.iload_n 1,1),(33,.ireturn,1)]
set_option maxRecDepth 100000 in
theorem dkX11_wipe : rf_decs prog_1_method_11_code ddX11_wipe := rf_decs_of (by decide +kernel)
def q228_P : rfP := (flX11,csX11,lcX11,spX11,[q185_M,q227_M,q178_M],[],[(177,2,0),(189,0,8),(201,1,8)],([],[]))
def q228_U : rfU := []
set_option maxHeartbeats 8000000 in
def q228_N : List rfB := [(0,([(0,.inr (.inl [70]))],[],[]),(17,[]),0)]
set_option maxRecDepth 100000 in
theorem q228_ok : rf_chkB q228_P q228_U wLay q228_M ddX11_wipe [(4,[0]),(18,[1]),(29,[2])] [] [0] 600 q228_N = true := by decide +kernel
set_option maxHeartbeats 4000000 in
theorem q228_met {G : rfG} (h : okG G) (hh : wHandOK G) : rf_met G q228_M := rf_methodB h.1 (P := q228_P) (U := q228_U) (N := q228_N) ⟨wflT h flokX11, wcsT h csokX11, wlcT h lcokX11, spokX11 h, List.forall_mem_cons.mpr ⟨q185_met h hh, List.forall_mem_cons.mpr ⟨q227_met h hh, List.forall_mem_cons.mpr ⟨q178_met h hh, fun _ h => absurd h List.not_mem_nil⟩⟩⟩, fun _ h => absurd h List.not_mem_nil, List.forall_mem_cons.mpr ⟨fun M hM => Option.some.inj (show some q178_M = some M from hM) ▸ wlkV (lkX11_177 h) q178_M rfl rfl, List.forall_mem_cons.mpr ⟨fun M hM => Option.some.inj (show some q185_M = some M from hM) ▸ wlkV (lkX11_189 h) q185_M rfl rfl, List.forall_mem_cons.mpr ⟨fun M hM => Option.some.inj (show some q227_M = some M from hM) ▸ wlkV (lkX11_201 h) q227_M rfl rfl, fun _ h => absurd h List.not_mem_nil⟩⟩⟩, fun _ h => absurd h List.not_mem_nil, fun _ h => absurd h List.not_mem_nil⟩ dkX11_wipe (by decide +kernel) (by rw [h.2.2.1]; exact q228_ok)
/-- NearSpell.undo -/
def q230_M : rfM := ((⟨"NearSpell", "undo", "()Z"⟩, prog_1_method_12_code, 1, (some .boolean)), (21,2021), ([.inr (.inl [70])],[]), [(12,0),(16,5),(16,6)], [(some (.inl ((1,1,0),none)),[],[]),(some (.inl ((0,0,0),none)),[],[])])
def ddX11_undo : List (Nat × Instr × Nat) := [(0,.aload_n 0,1),(1,.getfield 42,3),(4,.aload_n 0,1),(5,.getfield 35,3),(8,.invokevirtual 204,3),(11,.ireturn,1)]
set_option maxRecDepth 100000 in
theorem dkX11_undo : rf_decs prog_1_method_12_code ddX11_undo := rf_decs_of (by decide +kernel)
def q230_P : rfP := (flX11,csX11,lcX11,spX11,[q229_M],[],[(204,0,0)],([],[]))
def q230_U : rfU := []
set_option maxHeartbeats 8000000 in
def q230_N : List rfB := [(0,([(0,.inr (.inl [70]))],[],[]),(6,[]),0)]
set_option maxRecDepth 100000 in
theorem q230_ok : rf_chkB q230_P q230_U wLay q230_M ddX11_undo [(8,[0])] [] [0] 600 q230_N = true := by decide +kernel
set_option maxHeartbeats 4000000 in
theorem q230_met {G : rfG} (h : okG G) (hh : wHandOK G) : rf_met G q230_M := rf_methodB h.1 (P := q230_P) (U := q230_U) (N := q230_N) ⟨wflT h flokX11, wcsT h csokX11, wlcT h lcokX11, spokX11 h, List.forall_mem_cons.mpr ⟨q229_met h hh, fun _ h => absurd h List.not_mem_nil⟩, fun _ h => absurd h List.not_mem_nil, List.forall_mem_cons.mpr ⟨fun M hM => Option.some.inj (show some q229_M = some M from hM) ▸ wlkV (lkX11_204 h) q229_M rfl rfl, fun _ h => absurd h List.not_mem_nil⟩, fun _ h => absurd h List.not_mem_nil, fun _ h => absurd h List.not_mem_nil⟩ dkX11_undo (by decide +kernel) (by rw [h.2.2.1]; exact q230_ok)
/-- NearSpell.redo -/
def q232_M : rfM := ((⟨"NearSpell", "redo", "()Z"⟩, prog_1_method_13_code, 1, (some .boolean)), (21,2021), ([.inr (.inl [70])],[]), [(12,0),(16,5),(16,6)], [(some (.inl ((1,1,0),none)),[],[]),(some (.inl ((0,0,0),none)),[],[])])
def ddX11_redo : List (Nat × Instr × Nat) := [(0,.aload_n 0,1),(1,.getfield 42,3),(4,.aload_n 0,1),(5,.getfield 35,3),(8,.invokevirtual 208,3),(11,.ireturn,1)]
set_option maxRecDepth 100000 in
theorem dkX11_redo : rf_decs prog_1_method_13_code ddX11_redo := rf_decs_of (by decide +kernel)
def q232_P : rfP := (flX11,csX11,lcX11,spX11,[q231_M],[],[(208,0,0)],([],[]))
def q232_U : rfU := []
set_option maxHeartbeats 8000000 in
def q232_N : List rfB := [(0,([(0,.inr (.inl [70]))],[],[]),(6,[]),0)]
set_option maxRecDepth 100000 in
theorem q232_ok : rf_chkB q232_P q232_U wLay q232_M ddX11_redo [(8,[0])] [] [0] 600 q232_N = true := by decide +kernel
set_option maxHeartbeats 4000000 in
theorem q232_met {G : rfG} (h : okG G) (hh : wHandOK G) : rf_met G q232_M := rf_methodB h.1 (P := q232_P) (U := q232_U) (N := q232_N) ⟨wflT h flokX11, wcsT h csokX11, wlcT h lcokX11, spokX11 h, List.forall_mem_cons.mpr ⟨q231_met h hh, fun _ h => absurd h List.not_mem_nil⟩, fun _ h => absurd h List.not_mem_nil, List.forall_mem_cons.mpr ⟨fun M hM => Option.some.inj (show some q231_M = some M from hM) ▸ wlkV (lkX11_208 h) q231_M rfl rfl, fun _ h => absurd h List.not_mem_nil⟩, fun _ h => absurd h List.not_mem_nil, fun _ h => absurd h List.not_mem_nil⟩ dkX11_redo (by decide +kernel) (by rw [h.2.2.1]; exact q232_ok)
/-- NearSpell.State.typedAt -/
def q233_M : rfM := ((⟨"NearSpell$State", "typedAt", "(I)I"⟩, prog_10_method_9_code, 2, (some .int)), (0,0), ([.inr (.inl [13]),.inl ((0,5,1),none)],[]), [], [(some (.inl (((-2147483648),2147483647,1),none)),[],[])])
def ddX8_typedAt : List (Nat × Instr × Nat) := [(0,.iload_n 1,1),(1,.ifCond .lt 21,3),(4,.iload_n 1,1),(5,.bipush 6,2),(7,.if_icmp .ge 15,3),(10,.aload_n 0,1),(11,.getfield 11,3),(14,.bipush 28,2),(16,.iload_n 1,1),(17,.iadd,1),(18,.iaload,1),(19,.goto 4,3),(22,.iconst 0,1),(23,.ireturn,1)]
set_option maxRecDepth 100000 in
theorem dkX8_typedAt : rf_decs prog_10_method_9_code ddX8_typedAt := rf_decs_of (by decide +kernel)
def q233_P : rfP := (flX8,csX8,lcX8,spX8,[],[],[],([],[]))
def q233_U : rfU := []
set_option maxHeartbeats 8000000 in
def q233_N : List rfB := [(0,([(0,.inr (.inl [13])),(1,.inl ((0,5,1),none))],[],[]),(12,[]),0)]
set_option maxRecDepth 100000 in
theorem q233_ok : rf_chkB q233_P q233_U wLay q233_M ddX8_typedAt [] [] [0] 600 q233_N = true := by decide +kernel
set_option maxHeartbeats 4000000 in
theorem q233_met {G : rfG} (h : okG G) (hh : wHandOK G) : rf_met G q233_M := rf_methodB h.1 (P := q233_P) (U := q233_U) (N := q233_N) ⟨wflT h flokX8, wcsT h csokX8, wlcT h lcokX8, spokX8 h, fun _ h => absurd h List.not_mem_nil, fun _ h => absurd h List.not_mem_nil, fun _ h => absurd h List.not_mem_nil, fun _ h => absurd h List.not_mem_nil, fun _ h => absurd h List.not_mem_nil⟩ dkX8_typedAt (by decide +kernel) (by rw [h.2.2.1]; exact q233_ok)
/-- NearSpell.typed -/
def q234_M : rfM := ((⟨"NearSpell", "typed", "(I)I"⟩, prog_1_method_14_code, 2, (some .int)), (1,21), ([.inr (.inl [70]),.inl (((-2147483648),2147483647,1),none)],[]), [], [(some (.inl (((-2147483648),2147483647,1),none)),[],[])])
def ddX11_typed : List (Nat × Instr × Nat) := [(0,.iload_n 1,1),(1,.ifCond .lt 25,3),(4,.iload_n 1,1),(5,.aload_n 0,1),(6,.getfield 35,3),(9,.invokevirtual 189,3),(12,.if_icmp .ge 14,3),(15,.aload_n 0,1),(16,.getfield 35,3),(19,.iload_n 1,1),(20,.invokevirtual 211,3),(23,.goto 4,3),(26,.iconst (-1),1),(27,.ireturn,1)]
set_option maxRecDepth 100000 in
theorem dkX11_typed : rf_decs prog_1_method_14_code ddX11_typed := rf_decs_of (by decide +kernel)
def q234_P : rfP := (flX11,csX11,lcX11,spX11,[q185_M,q233_M],[],[(189,0,8),(211,1,8)],([],[]))
def q234_U : rfU := []
set_option maxHeartbeats 8000000 in
def q234_N : List rfB := [(0,([(0,.inr (.inl [70])),(1,.inl (((-2147483648),2147483647,1),none))],[],[]),(14,[]),0),
  (26,([(0,.inr (.inl [70])),(1,.inl (((-2147483648),2147483647,1),none))],[],[]),(1,[]),0)]
set_option maxRecDepth 100000 in
theorem q234_ok : rf_chkB q234_P q234_U wLay q234_M ddX11_typed [(9,[0]),(20,[1])] [] [0,26] 600 q234_N = true := by decide +kernel
set_option maxHeartbeats 4000000 in
theorem q234_met {G : rfG} (h : okG G) (hh : wHandOK G) : rf_met G q234_M := rf_methodB h.1 (P := q234_P) (U := q234_U) (N := q234_N) ⟨wflT h flokX11, wcsT h csokX11, wlcT h lcokX11, spokX11 h, List.forall_mem_cons.mpr ⟨q185_met h hh, List.forall_mem_cons.mpr ⟨q233_met h hh, fun _ h => absurd h List.not_mem_nil⟩⟩, fun _ h => absurd h List.not_mem_nil, List.forall_mem_cons.mpr ⟨fun M hM => Option.some.inj (show some q185_M = some M from hM) ▸ wlkV (lkX11_189 h) q185_M rfl rfl, List.forall_mem_cons.mpr ⟨fun M hM => Option.some.inj (show some q233_M = some M from hM) ▸ wlkV (lkX11_211 h) q233_M rfl rfl, fun _ h => absurd h List.not_mem_nil⟩⟩, fun _ h => absurd h List.not_mem_nil, fun _ h => absurd h List.not_mem_nil⟩ dkX11_typed (by decide +kernel) (by rw [h.2.2.1]; exact q234_ok)
/-- NearSpell.Ruler.putLetters -/
def q235_M : rfM := ((⟨"NearSpell$Ruler", "putLetters", "(I[II)I"⟩, prog_9_method_8_code, 6, (some .int)), (1,21), ([.inl ((0,387420488,1),none),.inr (.inl [18]),.inl ((0,0,0),none)],[]), [(18,0)], [(some (.inl ((0,6,1),none)),[],[])])
def q235_P : rfP := (flX7,csX7,lcX7,spX7,[q187_M],[(55,0)],[],([],[]))
def q235_U : rfU := []
set_option maxHeartbeats 8000000 in
def q235_N : List rfB := [(0,([(0,.inl ((0,387420488,1),none)),(1,.inr (.inl [18])),(2,.inl ((0,0,0),none))],[],[]),(128,[0]),0),
  (23,([(0,.inl ((0,387420488,1),none)),(1,.inr (.inl [18])),(2,.inl ((0,0,0),none)),(3,.inl ((0,6,1),none)),(4,.inl ((0,387420488,1),none)),(5,.inl (((-1),5,1),none))],[],[]),(31,[16]),0)]
set_option maxRecDepth 100000 in
theorem q235_ok : rf_chkB q235_P q235_U wLay q235_M ddX7_putLetters [(2,[0])] [.inl 5] [0,23] 600 q235_N = true := by decide +kernel
set_option maxHeartbeats 4000000 in
theorem q235_met {G : rfG} (h : okG G) (hh : wHandOK G) : rf_met G q235_M := rf_methodB h.1 (P := q235_P) (U := q235_U) (N := q235_N) ⟨wflT h flokX7, wcsT h csokX7, wlcT h lcokX7, spokX7 h, List.forall_mem_cons.mpr ⟨q187_met h hh, fun _ h => absurd h List.not_mem_nil⟩, List.forall_mem_cons.mpr ⟨fun M hM => Option.some.inj (show some q187_M = some M from hM) ▸ wlkS (lkX7_55 h) q187_M rfl rfl, fun _ h => absurd h List.not_mem_nil⟩, fun _ h => absurd h List.not_mem_nil, fun _ h => absurd h List.not_mem_nil, fun _ h => absurd h List.not_mem_nil⟩ dkX7_putLetters (by decide +kernel) (by rw [h.2.2.1]; exact q235_ok)
/-- NearSpell.Ruler.toLonger -/
def q236_M : rfM := ((⟨"NearSpell$Ruler", "toLonger", "(II)I"⟩, prog_9_method_7_code, 5, (some .int)), (2,46), ([.inr (.inl [20]),.inl ((0,0,0),none),.inl ((0,387420488,1),none)],[]), [(18,0),(19,0),(20,5)], [(some (.inl (((-2147483648),2147483647,1),none)),[],[((20,4),(0,6,1),none)])])
def q236_P : rfP := (flX7,csX7,lcX7,spX7,[q235_M,q195_M],[(36,0)],[(52,1,7)],([],[(44,1),(49,0)]))
def q236_U : rfU := []
set_option maxHeartbeats 8000000 in
def q236_N : List rfB := [(0,([(0,.inr (.inl [20])),(1,.inl ((0,0,0),none)),(2,.inl ((0,387420488,1),none))],[],[]),(138,[0]),0),
  (31,([(0,.inr (.inl [20])),(1,.inl ((0,0,0),none)),(2,.inl ((0,387420488,1),none)),(3,.inl ((0,0,1),none)),(4,.inl ((1,11,1),none))],[],[((20,4),(0,6,1),none)]),(128,[(-10)]),0)]
set_option maxRecDepth 100000 in
theorem q236_ok : rf_chkB q236_P q236_U wLay q236_M ddX7_toLonger [(20,[0]),(43,[1])] [.inl 4] [0,31] 600 q236_N = true := by decide +kernel
set_option maxHeartbeats 4000000 in
theorem q236_met {G : rfG} (h : okG G) (hh : wHandOK G) : rf_met G q236_M := rf_methodB h.1 (P := q236_P) (U := q236_U) (N := q236_N) ⟨wflT h flokX7, wcsT h csokX7, wlcT h lcokX7, spokX7 h, List.forall_mem_cons.mpr ⟨q235_met h hh, List.forall_mem_cons.mpr ⟨q195_met h hh, fun _ h => absurd h List.not_mem_nil⟩⟩, List.forall_mem_cons.mpr ⟨fun M hM => Option.some.inj (show some q235_M = some M from hM) ▸ wlkS (lkX7_36 h) q235_M rfl rfl, fun _ h => absurd h List.not_mem_nil⟩, List.forall_mem_cons.mpr ⟨fun M hM => Option.some.inj (show some q195_M = some M from hM) ▸ wlkV (lkX7_52 h) q195_M rfl rfl, fun _ h => absurd h List.not_mem_nil⟩, fun _ h => absurd h List.not_mem_nil, List.forall_mem_cons.mpr ⟨⟨wmT h (wmem (i := 130) (by decide +kernel) (by decide +kernel)), fun h => absurd h (by decide), fun _ => ⟨wmT h (wmem (i := 919) (by decide +kernel) (by decide +kernel)), wmT h (wmem (i := 557) (by decide +kernel) (by decide +kernel)), wmT h (wmem (i := 558) (by decide +kernel) (by decide +kernel))⟩, fun h => absurd h (by decide)⟩, List.forall_mem_cons.mpr ⟨⟨wmT h (wmem (i := 130) (by decide +kernel) (by decide +kernel)), fun _ => ⟨wmT h (wmem (i := 920) (by decide +kernel) (by decide +kernel)), wmT h (wmem (i := 652) (by decide +kernel) (by decide +kernel)), wmT h (wmem (i := 653) (by decide +kernel) (by decide +kernel))⟩, fun h => absurd h (by decide), fun h => absurd h (by decide)⟩, fun _ h => absurd h List.not_mem_nil⟩⟩⟩ dkX7_toLonger (by decide +kernel) (by rw [h.2.2.1]; exact q236_ok)
/-- NearSpell.Ruler.to -/
def q237_M : rfM := ((⟨"NearSpell$Ruler", "to", "(I)I"⟩, prog_9_method_5_code, 2, (some .int)), (3,70), ([.inr (.inl [20]),.inl ((0,387420488,1),none)],[]), [(18,0),(19,0),(20,5)], [(some (.inl (((-2147483648),2147483647,1),none)),[],[((20,4),(0,6,1),none)])])
def q237_P : rfP := (flX7,csX7,lcX7,spX7,[q236_M],[],[(40,0,7)],([],[]))
def q237_U : rfU := []
set_option maxHeartbeats 8000000 in
def q237_N : List rfB := [(0,([(0,.inr (.inl [20])),(1,.inl ((0,387420488,1),none))],[],[]),(4,[]),0)]
set_option maxRecDepth 100000 in
theorem q237_ok : rf_chkB q237_P q237_U wLay q237_M ddX7_to [(3,[0])] [] [0] 600 q237_N = true := by decide +kernel
set_option maxHeartbeats 4000000 in
theorem q237_met {G : rfG} (h : okG G) (hh : wHandOK G) : rf_met G q237_M := rf_methodB h.1 (P := q237_P) (U := q237_U) (N := q237_N) ⟨wflT h flokX7, wcsT h csokX7, wlcT h lcokX7, spokX7 h, List.forall_mem_cons.mpr ⟨q236_met h hh, fun _ h => absurd h List.not_mem_nil⟩, fun _ h => absurd h List.not_mem_nil, List.forall_mem_cons.mpr ⟨fun M hM => Option.some.inj (show some q236_M = some M from hM) ▸ wlkV (lkX7_40 h) q236_M rfl rfl, fun _ h => absurd h List.not_mem_nil⟩, fun _ h => absurd h List.not_mem_nil, fun _ h => absurd h List.not_mem_nil⟩ dkX7_to (by decide +kernel) (by rw [h.2.2.1]; exact q237_ok)
/-- NearSpell.Ruler.between -/
def q238_M : rfM := ((⟨"NearSpell$Ruler", "between", "(II)I"⟩, prog_9_method_2_code, 3, (some .int)), (4,91), ([.inr (.inl [20]),.inl ((0,387420488,1),none),.inl ((0,387420488,1),none)],[]), [(17,0),(18,0),(19,0),(20,4),(20,5)], [(some (.inl (((-2147483648),2147483647,1),none)),[],[((20,3),(0,6,1),none),((20,4),(0,6,1),none)])])
def ddX7_between : List (Nat × Instr × Nat) := [(0,.aload_n 0,1),(1,.iload_n 1,1),(2,.invokevirtual 28,3),(5,.aload_n 0,1),(6,.iload_n 2,1),(7,.invokevirtual 32,3),(10,.ireturn,1)]
set_option maxRecDepth 100000 in
theorem dkX7_between : rf_decs prog_9_method_2_code ddX7_between := rf_decs_of (by decide +kernel)
def q238_P : rfP := (flX7,csX7,lcX7,spX7,[q189_M,q237_M],[],[(28,0,7),(32,1,7)],([],[]))
def q238_U : rfU := []
set_option maxHeartbeats 8000000 in
def q238_N : List rfB := [(0,([(0,.inr (.inl [20])),(1,.inl ((0,387420488,1),none)),(2,.inl ((0,387420488,1),none))],[],[]),(6,[]),0)]
set_option maxRecDepth 100000 in
theorem q238_ok : rf_chkB q238_P q238_U wLay q238_M ddX7_between [(2,[0]),(7,[1])] [] [0] 600 q238_N = true := by decide +kernel
set_option maxHeartbeats 4000000 in
theorem q238_met {G : rfG} (h : okG G) (hh : wHandOK G) : rf_met G q238_M := rf_methodB h.1 (P := q238_P) (U := q238_U) (N := q238_N) ⟨wflT h flokX7, wcsT h csokX7, wlcT h lcokX7, spokX7 h, List.forall_mem_cons.mpr ⟨q189_met h hh, List.forall_mem_cons.mpr ⟨q237_met h hh, fun _ h => absurd h List.not_mem_nil⟩⟩, fun _ h => absurd h List.not_mem_nil, List.forall_mem_cons.mpr ⟨fun M hM => Option.some.inj (show some q189_M = some M from hM) ▸ wlkV (lkX7_28 h) q189_M rfl rfl, List.forall_mem_cons.mpr ⟨fun M hM => Option.some.inj (show some q237_M = some M from hM) ▸ wlkV (lkX7_32 h) q237_M rfl rfl, fun _ h => absurd h List.not_mem_nil⟩⟩, fun _ h => absurd h List.not_mem_nil, fun _ h => absurd h List.not_mem_nil⟩ dkX7_between (by decide +kernel) (by rw [h.2.2.1]; exact q238_ok)
/-- NearSpell.distance -/
def q239_M : rfM := ((⟨"NearSpell", "distance", "(II)I"⟩, prog_1_method_15_code, 3, (some .int)), (5,113), ([.inr (.inl [70]),.inl (((-2147483648),2147483647,1),none),.inl (((-2147483648),2147483647,1),none)],[]), [(17,0),(18,0),(19,0),(20,4),(20,5)], [(some (.inl (((-2147483648),2147483647,1),none)),[],[])])
def ddX11_distance : List (Nat × Instr × Nat) := [(0,.iload_n 1,1),(1,.invokestatic 163,3),(4,.ifCond .eq 10,3),(7,.iload_n 2,1),(8,.invokestatic 163,3),(11,.ifCond .ne 5,3),(14,.iconst (-1),1),(15,.ireturn,1),(16,.aload_n 0,1),(17,.getfield 49,3),(20,.iload_n 1,1),(21,.iload_n 2,1),(22,.invokevirtual 214,3),(25,.ireturn,1)]
set_option maxRecDepth 100000 in
theorem dkX11_distance : rf_decs prog_1_method_15_code ddX11_distance := rf_decs_of (by decide +kernel)
def q239_P : rfP := (flX11,csX11,lcX11,spX11,[q159_M,q238_M],[(163,0)],[(214,1,7)],([],[]))
def q239_U : rfU := []
set_option maxHeartbeats 8000000 in
def q239_N : List rfB := [(0,([(0,.inr (.inl [70])),(1,.inl (((-2147483648),2147483647,1),none)),(2,.inl (((-2147483648),2147483647,1),none))],[],[]),(15,[]),0),
  (14,([(0,.inr (.inl [70])),(1,.inl (((-2147483648),2147483647,1),none)),(2,.inl (((-2147483648),2147483647,1),none))],[],[]),(1,[]),0)]
set_option maxRecDepth 100000 in
theorem q239_ok : rf_chkB q239_P q239_U wLay q239_M ddX11_distance [(1,[0]),(8,[0]),(22,[1])] [] [0,14] 600 q239_N = true := by decide +kernel
set_option maxHeartbeats 4000000 in
theorem q239_met {G : rfG} (h : okG G) (hh : wHandOK G) : rf_met G q239_M := rf_methodB h.1 (P := q239_P) (U := q239_U) (N := q239_N) ⟨wflT h flokX11, wcsT h csokX11, wlcT h lcokX11, spokX11 h, List.forall_mem_cons.mpr ⟨q159_met h hh, List.forall_mem_cons.mpr ⟨q238_met h hh, fun _ h => absurd h List.not_mem_nil⟩⟩, List.forall_mem_cons.mpr ⟨fun M hM => Option.some.inj (show some q159_M = some M from hM) ▸ wlkS (lkX11_163 h) q159_M rfl rfl, fun _ h => absurd h List.not_mem_nil⟩, List.forall_mem_cons.mpr ⟨fun M hM => Option.some.inj (show some q238_M = some M from hM) ▸ wlkV (lkX11_214 h) q238_M rfl rfl, fun _ h => absurd h List.not_mem_nil⟩, fun _ h => absurd h List.not_mem_nil, fun _ h => absurd h List.not_mem_nil⟩ dkX11_distance (by decide +kernel) (by rw [h.2.2.1]; exact q239_ok)
/-- NearSpell.forms -/
def q240_M : rfM := ((⟨"NearSpell", "forms", "(I)I"⟩, prog_1_method_16_code, 4, (some .int)), (4,93), ([.inr (.inl [70]),.inl (((-2147483648),2147483647,1),none)],[]), [(49,0),(50,2),(50,3),(50,4),(50,5),(69,0),(70,15)], [(some (.inl (((-1),22,1),none)),[],[])])
def ddX11_forms : List (Nat × Instr × Nat) := [(0,.aload_n 0,1),(1,.iconst 0,1),(2,.putfield 104,3),(5,.iload_n 1,1),(6,.invokestatic 163,3),(9,.ifCond .ne 5,3),(12,.iconst (-1),1),(13,.ireturn,1),(14,.aload_n 0,1),(15,.getfield 58,3),(18,.iload_n 1,1),(19,.invokevirtual 217,3),(22,.astore_n 2,1),(23,.iconst 0,1),(24,.istore_n 3,1),(25,.iload_n 3,1),(26,.aload_n 2,1),(27,.getfield 158,3),(30,.if_icmp .ge 30,3),(33,.iload_n 3,1),(34,.aload_n 0,1),(35,.getfield 96,3),(38,.arraylength,1),(39,.if_icmp .ge 21,3),(42,.aload_n 0,1),(43,.getfield 96,3),(46,.iload_n 3,1),(47,.aload_n 2,1),(48,.getfield 220,3),(51,.iload_n 3,1),(52,.iaload,1),(53,.iastore,1),(54,.iinc 3 1,3),(57,.goto (-32),3),(60,.aload_n 0,1),(61,.aload_n 2,1),(62,.getfield 158,3),(65,.putfield 104,3),(68,.aload_n 0,1),(69,.getfield 104,3),(72,.ireturn,1)]
set_option maxRecDepth 100000 in
theorem dkX11_forms : rf_decs prog_1_method_16_code ddX11_forms := rf_decs_of (by decide +kernel)
def q240_P : rfP := (flX11,csX11,lcX11,spX11,[q159_M,q204_M],[(163,0)],[(217,1,4)],([],[]))
def q240_U : rfU := []
set_option maxHeartbeats 8000000 in
def q240_N : List rfB := [(0,([(0,.inr (.inl [70])),(1,.inl (((-2147483648),2147483647,1),none))],[],[]),(482,[0]),0),
  (25,([(0,.inr (.inl [70])),(1,.inl ((0,387420488,1),none)),(2,.inr (.inl [50])),(3,.inl ((0,22,1),none))],[],[((50,2),(0,387420488,1),none),((50,3),(1,6,1),none),((50,4),(0,2,1),none),((70,14),(0,0,0),none)]),(467,[(-20)]),0)]
set_option maxRecDepth 100000 in
theorem q240_ok : rf_chkB q240_P q240_U wLay q240_M ddX11_forms [(6,[0]),(19,[1])] [.inl 3] [0,25] 600 q240_N = true := by decide +kernel
set_option maxHeartbeats 4000000 in
theorem q240_met {G : rfG} (h : okG G) (hh : wHandOK G) : rf_met G q240_M := rf_methodB h.1 (P := q240_P) (U := q240_U) (N := q240_N) ⟨wflT h flokX11, wcsT h csokX11, wlcT h lcokX11, spokX11 h, List.forall_mem_cons.mpr ⟨q159_met h hh, List.forall_mem_cons.mpr ⟨q204_met h hh, fun _ h => absurd h List.not_mem_nil⟩⟩, List.forall_mem_cons.mpr ⟨fun M hM => Option.some.inj (show some q159_M = some M from hM) ▸ wlkS (lkX11_163 h) q159_M rfl rfl, fun _ h => absurd h List.not_mem_nil⟩, List.forall_mem_cons.mpr ⟨fun M hM => Option.some.inj (show some q204_M = some M from hM) ▸ wlkV (lkX11_217 h) q204_M rfl rfl, fun _ h => absurd h List.not_mem_nil⟩, fun _ h => absurd h List.not_mem_nil, fun _ h => absurd h List.not_mem_nil⟩ dkX11_forms (by decide +kernel) (by rw [h.2.2.1]; exact q240_ok)
/-- NearSpell.totalOf -/
def q241_M : rfM := ((⟨"NearSpell", "totalOf", "(I)I"⟩, prog_1_method_54_code, 4, (some .int)), (0,0), ([.inl ((0,387420488,1),none)],[]), [], [(some (.inl (((-2147483648),2147483647,1),none)),[],[])])
def ddX11_totalOf : List (Nat × Instr × Nat) := [(0,.iconst 0,1),(1,.istore_n 1,1),(2,.iload_n 0,1),(3,.istore_n 2,1),(4,.iconst 0,1),(5,.istore_n 3,1),(6,.iload_n 3,1),(7,.bipush 6,2),(9,.if_icmp .ge 25,3),(12,.iload_n 2,1),(13,.ifCond .eq 21,3),(16,.iload_n 1,1),(17,.iload_n 2,1),(18,.bipush 27,2),(20,.irem,1),(21,.iadd,1),(22,.istore_n 1,1),(23,.iload_n 2,1),(24,.bipush 27,2),(26,.idiv,1),(27,.istore_n 2,1),(28,.iinc 3 1,3),(31,.goto (-25),3),(34,.iload_n 1,1),(35,.ireturn,1)]
set_option maxRecDepth 100000 in
theorem dkX11_totalOf : rf_decs prog_1_method_54_code ddX11_totalOf := rf_decs_of (by decide +kernel)
def q241_P : rfP := (flX11,csX11,lcX11,spX11,[],[],[],([],[]))
def q241_U : rfU := []
set_option maxHeartbeats 8000000 in
def q241_N : List rfB := [(0,([(0,.inl ((0,387420488,1),none))],[],[]),(6973568809,[0]),0),
  (6,([(0,.inl ((0,387420488,1),none)),(1,.inl (((-2147483648),2147483647,1),none)),(2,.inl ((0,387420488,1),none)),(3,.inl ((0,6,1),none))],[],[]),(16,[18]),0),
  (34,([(0,.inl ((0,387420488,1),none)),(1,.inl (((-2147483648),2147483647,1),none)),(2,.inl ((0,387420488,1),none)),(3,.inl ((0,6,1),none))],[],[]),(1,[0]),0)]
set_option maxRecDepth 100000 in
theorem q241_ok : rf_chkB q241_P q241_U wLay q241_M ddX11_totalOf [] [.inl 2] [0,6,34] 600 q241_N = true := by decide +kernel
set_option maxHeartbeats 4000000 in
theorem q241_met {G : rfG} (h : okG G) (hh : wHandOK G) : rf_met G q241_M := rf_methodB h.1 (P := q241_P) (U := q241_U) (N := q241_N) ⟨wflT h flokX11, wcsT h csokX11, wlcT h lcokX11, spokX11 h, fun _ h => absurd h List.not_mem_nil, fun _ h => absurd h List.not_mem_nil, fun _ h => absurd h List.not_mem_nil, fun _ h => absurd h List.not_mem_nil, fun _ h => absurd h List.not_mem_nil⟩ dkX11_totalOf (by decide +kernel) (by rw [h.2.2.1]; exact q241_ok)
/-- NearSpell.beginningOf -/
def q242_M : rfM := ((⟨"NearSpell", "beginningOf", "(II)I"⟩, prog_1_method_55_code, 3, (some .int)), (1,21), ([.inl ((0,387420488,1),none),.inl ((1,1,0),none)],[]), [], [(some (.inl (((-2147483648),2147483647,1),none)),[],[])])
def q242_P : rfP := (flX11,csX11,lcX11,spX11,[q187_M],[(148,0)],[],([],[]))
def q242_U : rfU := []
set_option maxHeartbeats 8000000 in
def q242_N : List rfB := [(0,([(0,.inl ((0,387420488,1),none)),(1,.inl ((1,1,0),none))],[],[]),(17,[]),0),
  (28,([(0,.inl ((0,387420488,1),none)),(1,.inl ((1,1,0),none)),(2,.inl (((-1),5,1),none))],[.inl (((-2147483648),2147483647,1),none)],[]),(0,[]),0)]
set_option maxRecDepth 100000 in
theorem q242_ok : rf_chkB q242_P q242_U wLay q242_M ddX11_beginningOf [(1,[0])] [] [0,28] 600 q242_N = true := by decide +kernel
set_option maxHeartbeats 4000000 in
theorem q242_met {G : rfG} (h : okG G) (hh : wHandOK G) : rf_met G q242_M := rf_methodB h.1 (P := q242_P) (U := q242_U) (N := q242_N) ⟨wflT h flokX11, wcsT h csokX11, wlcT h lcokX11, spokX11 h, List.forall_mem_cons.mpr ⟨q187_met h hh, fun _ h => absurd h List.not_mem_nil⟩, List.forall_mem_cons.mpr ⟨fun M hM => Option.some.inj (show some q187_M = some M from hM) ▸ wlkS (lkX11_148 h) q187_M rfl rfl, fun _ h => absurd h List.not_mem_nil⟩, fun _ h => absurd h List.not_mem_nil, fun _ h => absurd h List.not_mem_nil, fun _ h => absurd h List.not_mem_nil⟩ dkX11_beginningOf (by decide +kernel) (by rw [h.2.2.1]; exact q242_ok)
/-- NearSpell.Book.push -/
def q243_M : rfM := ((⟨"NearSpell$Book", "push", "(I)V"⟩, prog_3_method_9_code, 2, none), (0,0), ([.inr (.inl [5]),.inl ((0,2147483647,1),none)],[]), [(4,0),(5,13)], [(none,[],[((5,12),(1,32,1),none)])])
def ddX1_push : List (Nat × Instr × Nat) := [(0,.aload_n 0,1),(1,.getfield 52,3),(4,.ifCond .lt 32,3),(7,.aload_n 0,1),(8,.getfield 52,3),(11,.bipush 32,2),(13,.if_icmp .ge 23,3),(16,.aload_n 0,1),(17,.getfield 21,3),(20,.aload_n 0,1),(21,.getfield 52,3),(24,.iload_n 1,1),(25,.iastore,1),(26,.aload_n 0,1),(27,.dup,1),(28,.getfield 52,3),(31,.iconst 1,1),(32,.iadd,1),(33,.putfield 52,3),(36,.return_,1)]
set_option maxRecDepth 100000 in
theorem dkX1_push : rf_decs prog_3_method_9_code ddX1_push := rf_decs_of (by decide +kernel)
def q243_P : rfP := (flX1,csX1,lcX1,spX1,[],[],[],([],[]))
def q243_U : rfU := []
set_option maxHeartbeats 8000000 in
def q243_N : List rfB := [(0,([(0,.inr (.inl [5])),(1,.inl ((0,2147483647,1),none))],[],[]),(19,[]),0),
  (36,([(0,.inr (.inl [5])),(1,.inl ((0,2147483647,1),none))],[],[((5,12),(1,32,1),none)]),(0,[]),0)]
set_option maxRecDepth 100000 in
theorem q243_ok : rf_chkB q243_P q243_U wLay q243_M ddX1_push [] [] [0,36] 600 q243_N = true := by decide +kernel
set_option maxHeartbeats 4000000 in
theorem q243_met {G : rfG} (h : okG G) (hh : wHandOK G) : rf_met G q243_M := rf_methodB h.1 (P := q243_P) (U := q243_U) (N := q243_N) ⟨wflT h flokX1, wcsT h csokX1, wlcT h lcokX1, spokX1 h, fun _ h => absurd h List.not_mem_nil, fun _ h => absurd h List.not_mem_nil, fun _ h => absurd h List.not_mem_nil, fun _ h => absurd h List.not_mem_nil, fun _ h => absurd h List.not_mem_nil⟩ dkX1_push (by decide +kernel) (by rw [h.2.2.1]; exact q243_ok)
/-- NearSpell.Book.push -/
def q244_M : rfM := ((⟨"NearSpell$Book", "push", "(I)V"⟩, prog_3_method_9_code, 2, none), (0,0), ([.inr (.inl [5]),.inl (((-2147483648),2147483647,1),none)],[]), [(4,0),(5,13)], [(none,[],[((5,12),(1,32,1),none)])])
def q244_P : rfP := (flX1,csX1,lcX1,spX1,[],[],[],([],[]))
def q244_U : rfU := []
set_option maxHeartbeats 8000000 in
def q244_N : List rfB := [(0,([(0,.inr (.inl [5])),(1,.inl (((-2147483648),2147483647,1),none))],[],[]),(19,[]),0),
  (36,([(0,.inr (.inl [5])),(1,.inl (((-2147483648),2147483647,1),none))],[],[((5,12),(1,32,1),none)]),(0,[]),0)]
set_option maxRecDepth 100000 in
theorem q244_ok : rf_chkB q244_P q244_U wLay q244_M ddX1_push [] [] [0,36] 600 q244_N = true := by decide +kernel
set_option maxHeartbeats 4000000 in
theorem q244_met {G : rfG} (h : okG G) (hh : wHandOK G) : rf_met G q244_M := rf_methodB h.1 (P := q244_P) (U := q244_U) (N := q244_N) ⟨wflT h flokX1, wcsT h csokX1, wlcT h lcokX1, spokX1 h, fun _ h => absurd h List.not_mem_nil, fun _ h => absurd h List.not_mem_nil, fun _ h => absurd h List.not_mem_nil, fun _ h => absurd h List.not_mem_nil, fun _ h => absurd h List.not_mem_nil⟩ dkX1_push (by decide +kernel) (by rw [h.2.2.1]; exact q244_ok)
/-- NearSpell.Book.push -/
def q245_M : rfM := ((⟨"NearSpell$Book", "push", "(I)V"⟩, prog_3_method_9_code, 2, none), (0,0), ([.inr (.inl [5]),.inl ((0,6,1),none)],[]), [(4,0),(5,13)], [(none,[],[((5,12),(1,32,1),none)])])
def q245_P : rfP := (flX1,csX1,lcX1,spX1,[],[],[],([],[]))
def q245_U : rfU := []
set_option maxHeartbeats 8000000 in
def q245_N : List rfB := [(0,([(0,.inr (.inl [5])),(1,.inl ((0,6,1),none))],[],[]),(19,[]),0),
  (36,([(0,.inr (.inl [5])),(1,.inl ((0,6,1),none))],[],[((5,12),(1,32,1),none)]),(0,[]),0)]
set_option maxRecDepth 100000 in
theorem q245_ok : rf_chkB q245_P q245_U wLay q245_M ddX1_push [] [] [0,36] 600 q245_N = true := by decide +kernel
set_option maxHeartbeats 4000000 in
theorem q245_met {G : rfG} (h : okG G) (hh : wHandOK G) : rf_met G q245_M := rf_methodB h.1 (P := q245_P) (U := q245_U) (N := q245_N) ⟨wflT h flokX1, wcsT h csokX1, wlcT h lcokX1, spokX1 h, fun _ h => absurd h List.not_mem_nil, fun _ h => absurd h List.not_mem_nil, fun _ h => absurd h List.not_mem_nil, fun _ h => absurd h List.not_mem_nil, fun _ h => absurd h List.not_mem_nil⟩ dkX1_push (by decide +kernel) (by rw [h.2.2.1]; exact q245_ok)
/-- NearSpell.Book.push -/
def q246_M : rfM := ((⟨"NearSpell$Book", "push", "(I)V"⟩, prog_3_method_9_code, 2, none), (0,0), ([.inr (.inl [5]),.inl ((0,26,1),none)],[]), [(4,0),(5,13)], [(none,[],[((5,12),(1,32,1),none)])])
def q246_P : rfP := (flX1,csX1,lcX1,spX1,[],[],[],([],[]))
def q246_U : rfU := []
set_option maxHeartbeats 8000000 in
def q246_N : List rfB := [(0,([(0,.inr (.inl [5])),(1,.inl ((0,26,1),none))],[],[]),(19,[]),0),
  (36,([(0,.inr (.inl [5])),(1,.inl ((0,26,1),none))],[],[((5,12),(1,32,1),none)]),(0,[]),0)]
set_option maxRecDepth 100000 in
theorem q246_ok : rf_chkB q246_P q246_U wLay q246_M ddX1_push [] [] [0,36] 600 q246_N = true := by decide +kernel
set_option maxHeartbeats 4000000 in
theorem q246_met {G : rfG} (h : okG G) (hh : wHandOK G) : rf_met G q246_M := rf_methodB h.1 (P := q246_P) (U := q246_U) (N := q246_N) ⟨wflT h flokX1, wcsT h csokX1, wlcT h lcokX1, spokX1 h, fun _ h => absurd h List.not_mem_nil, fun _ h => absurd h List.not_mem_nil, fun _ h => absurd h List.not_mem_nil, fun _ h => absurd h List.not_mem_nil, fun _ h => absurd h List.not_mem_nil⟩ dkX1_push (by decide +kernel) (by rw [h.2.2.1]; exact q246_ok)
/-- NearSpell.Book.pop -/
def q247_M : rfM := ((⟨"NearSpell$Book", "pop", "()I"⟩, prog_3_method_10_code, 1, (some .int)), (0,0), ([.inr (.inl [5])],[]), [(5,13)], [(some (.inl (((-2147483648),2147483647,1),none)),[],[((5,12),(0,31,1),none)])])
def ddX1_pop : List (Nat × Instr × Nat) := [(0,.aload_n 0,1),(1,.getfield 52,3),(4,.ifCond .le 12,3),(7,.aload_n 0,1),(8,.getfield 52,3),(11,.bipush 32,2),(13,.if_icmp .le 5,3),(16,.iconst 0,1),(17,.ireturn,1),(18,.aload_n 0,1),(19,.dup,1),(20,.getfield 52,3),(23,.iconst 1,1),(24,.isub,1),(25,.putfield 52,3),(28,.aload_n 0,1),(29,.getfield 21,3),(32,.aload_n 0,1),(33,.getfield 52,3),(36,.iaload,1),(37,.ireturn,1)]
set_option maxRecDepth 100000 in
theorem dkX1_pop : rf_decs prog_3_method_10_code ddX1_pop := rf_decs_of (by decide +kernel)
def q247_P : rfP := (flX1,csX1,lcX1,spX1,[],[],[],([],[]))
def q247_U : rfU := []
set_option maxHeartbeats 8000000 in
def q247_N : List rfB := [(0,([(0,.inr (.inl [5]))],[],[]),(20,[]),0)]
set_option maxRecDepth 100000 in
theorem q247_ok : rf_chkB q247_P q247_U wLay q247_M ddX1_pop [] [] [0] 600 q247_N = true := by decide +kernel
set_option maxHeartbeats 4000000 in
theorem q247_met {G : rfG} (h : okG G) (hh : wHandOK G) : rf_met G q247_M := rf_methodB h.1 (P := q247_P) (U := q247_U) (N := q247_N) ⟨wflT h flokX1, wcsT h csokX1, wlcT h lcokX1, spokX1 h, fun _ h => absurd h List.not_mem_nil, fun _ h => absurd h List.not_mem_nil, fun _ h => absurd h List.not_mem_nil, fun _ h => absurd h List.not_mem_nil, fun _ h => absurd h List.not_mem_nil⟩ dkX1_pop (by decide +kernel) (by rw [h.2.2.1]; exact q247_ok)
/-- NearSpell.Book.truth -/
def q248_M : rfM := ((⟨"NearSpell$Book", "truth", "(Z)I"⟩, prog_3_method_11_code, 1, (some .int)), (0,0), ([.inl ((1,1,0),none)],[]), [], [(some (.inl ((1,1,0),none)),[],[])])
def ddX1_truth : List (Nat × Instr × Nat) := [(0,.iload_n 0,1),(1,.ifCond .eq 7,3),(4,.iconst 1,1),(5,.goto 4,3),(8,.iconst 0,1),(9,.ireturn,1)]
set_option maxRecDepth 100000 in
theorem dkX1_truth : rf_decs prog_3_method_11_code ddX1_truth := rf_decs_of (by decide +kernel)
def q248_P : rfP := (flX1,csX1,lcX1,spX1,[],[],[],([],[]))
def q248_U : rfU := []
set_option maxHeartbeats 8000000 in
def q248_N : List rfB := [(0,([(0,.inl ((1,1,0),none))],[],[]),(4,[]),0)]
set_option maxRecDepth 100000 in
theorem q248_ok : rf_chkB q248_P q248_U wLay q248_M ddX1_truth [] [] [0] 600 q248_N = true := by decide +kernel
set_option maxHeartbeats 4000000 in
theorem q248_met {G : rfG} (h : okG G) (hh : wHandOK G) : rf_met G q248_M := rf_methodB h.1 (P := q248_P) (U := q248_U) (N := q248_N) ⟨wflT h flokX1, wcsT h csokX1, wlcT h lcokX1, spokX1 h, fun _ h => absurd h List.not_mem_nil, fun _ h => absurd h List.not_mem_nil, fun _ h => absurd h List.not_mem_nil, fun _ h => absurd h List.not_mem_nil, fun _ h => absurd h List.not_mem_nil⟩ dkX1_truth (by decide +kernel) (by rw [h.2.2.1]; exact q248_ok)
/-- NearSpell.Book.truth -/
def q249_M : rfM := ((⟨"NearSpell$Book", "truth", "(Z)I"⟩, prog_3_method_11_code, 1, (some .int)), (0,0), ([.inl ((0,0,0),none)],[]), [], [(some (.inl ((0,0,0),none)),[],[])])
def q249_P : rfP := (flX1,csX1,lcX1,spX1,[],[],[],([],[]))
def q249_U : rfU := []
set_option maxHeartbeats 8000000 in
def q249_N : List rfB := [(0,([(0,.inl ((0,0,0),none))],[],[]),(3,[]),0)]
set_option maxRecDepth 100000 in
theorem q249_ok : rf_chkB q249_P q249_U wLay q249_M ddX1_truth [] [] [0] 600 q249_N = true := by decide +kernel
set_option maxHeartbeats 4000000 in
theorem q249_met {G : rfG} (h : okG G) (hh : wHandOK G) : rf_met G q249_M := rf_methodB h.1 (P := q249_P) (U := q249_U) (N := q249_N) ⟨wflT h flokX1, wcsT h csokX1, wlcT h lcokX1, spokX1 h, fun _ h => absurd h List.not_mem_nil, fun _ h => absurd h List.not_mem_nil, fun _ h => absurd h List.not_mem_nil, fun _ h => absurd h List.not_mem_nil, fun _ h => absurd h List.not_mem_nil⟩ dkX1_truth (by decide +kernel) (by rw [h.2.2.1]; exact q249_ok)
/-- NearSpell.Book.push -/
def q250_M : rfM := ((⟨"NearSpell$Book", "push", "(I)V"⟩, prog_3_method_9_code, 2, none), (0,0), ([.inr (.inl [5]),.inl ((1,1,0),none)],[]), [(4,0),(5,13)], [(none,[],[((5,12),(1,32,1),none)])])
def q250_P : rfP := (flX1,csX1,lcX1,spX1,[],[],[],([],[]))
def q250_U : rfU := []
set_option maxHeartbeats 8000000 in
def q250_N : List rfB := [(0,([(0,.inr (.inl [5])),(1,.inl ((1,1,0),none))],[],[]),(19,[]),0),
  (36,([(0,.inr (.inl [5])),(1,.inl ((1,1,0),none))],[],[((5,12),(1,32,1),none)]),(0,[]),0)]
set_option maxRecDepth 100000 in
theorem q250_ok : rf_chkB q250_P q250_U wLay q250_M ddX1_push [] [] [0,36] 600 q250_N = true := by decide +kernel
set_option maxHeartbeats 4000000 in
theorem q250_met {G : rfG} (h : okG G) (hh : wHandOK G) : rf_met G q250_M := rf_methodB h.1 (P := q250_P) (U := q250_U) (N := q250_N) ⟨wflT h flokX1, wcsT h csokX1, wlcT h lcokX1, spokX1 h, fun _ h => absurd h List.not_mem_nil, fun _ h => absurd h List.not_mem_nil, fun _ h => absurd h List.not_mem_nil, fun _ h => absurd h List.not_mem_nil, fun _ h => absurd h List.not_mem_nil⟩ dkX1_push (by decide +kernel) (by rw [h.2.2.1]; exact q250_ok)
/-- NearSpell.Book.push -/
def q251_M : rfM := ((⟨"NearSpell$Book", "push", "(I)V"⟩, prog_3_method_9_code, 2, none), (0,0), ([.inr (.inl [5]),.inl ((0,0,0),none)],[]), [(4,0),(5,13)], [(none,[],[((5,12),(1,32,1),none)])])
def q251_P : rfP := (flX1,csX1,lcX1,spX1,[],[],[],([],[]))
def q251_U : rfU := []
set_option maxHeartbeats 8000000 in
def q251_N : List rfB := [(0,([(0,.inr (.inl [5])),(1,.inl ((0,0,0),none))],[],[]),(19,[]),0),
  (36,([(0,.inr (.inl [5])),(1,.inl ((0,0,0),none))],[],[((5,12),(1,32,1),none)]),(0,[]),0)]
set_option maxRecDepth 100000 in
theorem q251_ok : rf_chkB q251_P q251_U wLay q251_M ddX1_push [] [] [0,36] 600 q251_N = true := by decide +kernel
set_option maxHeartbeats 4000000 in
theorem q251_met {G : rfG} (h : okG G) (hh : wHandOK G) : rf_met G q251_M := rf_methodB h.1 (P := q251_P) (U := q251_U) (N := q251_N) ⟨wflT h flokX1, wcsT h csokX1, wlcT h lcokX1, spokX1 h, fun _ h => absurd h List.not_mem_nil, fun _ h => absurd h List.not_mem_nil, fun _ h => absurd h List.not_mem_nil, fun _ h => absurd h List.not_mem_nil, fun _ h => absurd h List.not_mem_nil⟩ dkX1_push (by decide +kernel) (by rw [h.2.2.1]; exact q251_ok)
/-- NearSpell.Book.combine -/
def q252_M : rfM := ((⟨"NearSpell$Book", "combine", "(III)I"⟩, prog_3_method_12_code, 3, (some .int)), (1,20), ([.inl (((-2147483648),2147483647,1),none),.inl (((-2147483648),2147483647,1),none),.inl (((-2147483648),2147483647,1),none)],[]), [], [(some (.inl (((-2147483648),2147483647,1),none)),[],[])])
def ddX1_combine : List (Nat × Instr × Nat) := [(0,.iload_n 0,1),(1,.lookupswitch 203 #[(7, 186), (8, 169), (37, 115), (42, 99), (43, 91), (45, 95), (47, 103), (60, 127), (61, 155), (62, 141)],91),(92,.iload_n 1,1),(93,.iload_n 2,1),(94,.iadd,1),(95,.ireturn,1),(96,.iload_n 1,1),(97,.iload_n 2,1),(98,.isub,1),(99,.ireturn,1),(100,.iload_n 1,1),(101,.iload_n 2,1),(102,.imul,1),(103,.ireturn,1),(104,.iload_n 2,1),(105,.ifCond .ne 7,3),(108,.iconst 0,1),(109,.goto 6,3),(112,.iload_n 1,1),(113,.iload_n 2,1),(114,.idiv,1),(115,.ireturn,1),(116,.iload_n 2,1),(117,.ifCond .ne 7,3),(120,.iconst 0,1),(121,.goto 6,3),(124,.iload_n 1,1),(125,.iload_n 2,1),(126,.irem,1),(127,.ireturn,1),(128,.iload_n 1,1),(129,.iload_n 2,1),(130,.if_icmp .ge 7,3),(133,.iconst 1,1),(134,.goto 4,3),(137,.iconst 0,1),(138,.invokestatic 85,3),(141,.ireturn,1),(142,.iload_n 1,1),(143,.iload_n 2,1),(144,.if_icmp .le 7,3),(147,.iconst 1,1),(148,.goto 4,3),(151,.iconst 0,1),(152,.invokestatic 85,3),(155,.ireturn,1),(156,.iload_n 1,1),(157,.iload_n 2,1),(158,.if_icmp .ne 7,3),(161,.iconst 1,1),(162,.goto 4,3),(165,.iconst 0,1),(166,.invokestatic 85,3),(169,.ireturn,1),(170,.iload_n 1,1),(171,.ifCond .eq 11,3),(174,.iload_n 2,1),(175,.ifCond .eq 7,3),(178,.iconst 1,1),(179,.goto 4,3),(182,.iconst 0,1),(183,.invokestatic 85,3),(186,.ireturn,1),(187,.iload_n 1,1),(188,.ifCond .ne 7,3),(191,.iload_n 2,1),(192,.ifCond .eq 7,3),(195,.iconst 1,1),(196,.goto 4,3),(199,.iconst 0,1),(200,.invokestatic 85,3),(203,.ireturn,1),(204,.iconst 0,1),(205,.ireturn,1)]
set_option maxRecDepth 100000 in
theorem dkX1_combine : rf_decs prog_3_method_12_code ddX1_combine := rf_decs_of (by decide +kernel)
def q252_P : rfP := (flX1,csX1,lcX1,spX1,[q248_M,q249_M],[(85,0),(85,1)],[],([],[]))
def q252_U : rfU := [(.inl 2,[((-2147483648),(-1)),(0,0),(1,2147483647)])]
set_option maxHeartbeats 8000000 in
def q252_N : List rfB := [(0,([(0,.inl (((-2147483648),2147483647,1),none)),(1,.inl (((-2147483648),2147483647,1),none)),(2,.inl (((-2147483648),2147483647,1),none))],[],[]),(228,[]),1000000),
  (182,([(0,.inl ((8,8,1),none)),(1,.inl ((0,0,1),none)),(2,.inl ((1,2147483647,1),none))],[],[]),(163,[]),0),
  (182,([(0,.inl ((8,8,1),none)),(1,.inl (((-2147483648),2147483647,1),none)),(2,.inl ((0,0,1),none))],[],[]),(92,[]),0),
  (182,([(0,.inl ((8,8,1),none)),(1,.inl ((0,0,1),none)),(2,.inl (((-2147483648),(-1),1),none))],[],[]),(12,[]),0),
  (195,([(0,.inl ((7,7,1),none)),(1,.inl (((-2147483648),2147483647,1),none)),(2,.inl ((1,2147483647,1),none))],[],[]),(156,[]),0),
  (195,([(0,.inl ((7,7,1),none)),(1,.inl (((-2147483648),2147483647,1),none)),(2,.inl ((0,0,1),none))],[],[]),(82,[]),0),
  (195,([(0,.inl ((7,7,1),none)),(1,.inl (((-2147483648),2147483647,1),none)),(2,.inl (((-2147483648),(-1),1),none))],[],[]),(5,[]),0)]
set_option maxRecDepth 100000 in
theorem q252_ok : rf_chkB q252_P q252_U wLay q252_M ddX1_combine [(138,[0,1]),(152,[0,1]),(166,[0,1]),(183,[0,1]),(200,[0,1])] [] [0,182,195] 600 q252_N = true := by decide +kernel
set_option maxHeartbeats 4000000 in
theorem q252_met {G : rfG} (h : okG G) (hh : wHandOK G) : rf_met G q252_M := rf_methodB h.1 (P := q252_P) (U := q252_U) (N := q252_N) ⟨wflT h flokX1, wcsT h csokX1, wlcT h lcokX1, spokX1 h, List.forall_mem_cons.mpr ⟨q248_met h hh, List.forall_mem_cons.mpr ⟨q249_met h hh, fun _ h => absurd h List.not_mem_nil⟩⟩, List.forall_mem_cons.mpr ⟨fun M hM => Option.some.inj (show some q248_M = some M from hM) ▸ wlkS (lkX1_85 h) q248_M rfl rfl, List.forall_mem_cons.mpr ⟨fun M hM => Option.some.inj (show some q249_M = some M from hM) ▸ wlkS (lkX1_85 h) q249_M rfl rfl, fun _ h => absurd h List.not_mem_nil⟩⟩, fun _ h => absurd h List.not_mem_nil, fun _ h => absurd h List.not_mem_nil, fun _ h => absurd h List.not_mem_nil⟩ dkX1_combine (by decide +kernel) (by rw [h.2.2.1]; exact q252_ok)
/-- NearSpell.Book.work -/
def q253_M : rfM := ((⟨"NearSpell$Book", "work", "(I)I"⟩, prog_3_method_8_code, 9, (some .int)), (2,43), ([.inr (.inl [5]),.inl ((0,387420488,1),none)],[]), [(4,0),(5,13)], [(some (.inl (((-2147483648),2147483647,1),none)),[],[((5,12),(0,31,1),none)])])
def ddX1_work : List (Nat × Instr × Nat) := [(0,.iload_n 1,1),(1,.invokestatic 61,3),(4,.istore_n 2,1),(5,.iload_n 1,1),(6,.invokestatic 65,3),(9,.istore_n 3,1),(10,.iload_n 1,1),(11,.iconst 1,1),(12,.invokestatic 71,3),(15,.istore 4,2),(17,.iload_n 1,1),(18,.bipush 27,2),(20,.irem,1),(21,.istore 5,2),(23,.aload_n 0,1),(24,.iconst 0,1),(25,.putfield 52,3),(28,.iconst 0,1),(29,.istore 6,2),(31,.iload 6,2),(33,.aload_n 0,1),(34,.getfield 49,3),(37,.if_icmp .ge 145,3),(40,.aload_n 0,1),(41,.getfield 18,3),(44,.iload 6,2),(46,.iaload,1),(47,.istore 7,2),(49,.iload 7,2),(51,.ifCond .lt 12,3),(54,.aload_n 0,1),(55,.iload 7,2),(57,.invokevirtual 75,3),(60,.goto 116,3),(63,.iload 7,2),(65,.bipush (-10),2),(67,.if_icmp .ne 11,3),(70,.aload_n 0,1),(71,.iload_n 2,1),(72,.invokevirtual 75,3),(75,.goto 101,3),(78,.iload 7,2),(80,.bipush (-11),2),(82,.if_icmp .ne 11,3),(85,.aload_n 0,1),(86,.iload_n 3,1),(87,.invokevirtual 75,3),(90,.goto 86,3),(93,.iload 7,2),(95,.bipush (-12),2),(97,.if_icmp .ne 12,3),(100,.aload_n 0,1),(101,.iload 4,2),(103,.invokevirtual 75,3),(106,.goto 70,3),(109,.iload 7,2),(111,.bipush (-13),2),(113,.if_icmp .ne 12,3),(116,.aload_n 0,1),(117,.iload 5,2),(119,.invokevirtual 75,3),(122,.goto 54,3),(125,.iload 7,2),(127,.bipush (-9),2),(129,.if_icmp .ne 25,3),(132,.aload_n 0,1),(133,.aload_n 0,1),(134,.invokevirtual 81,3),(137,.ifCond .ne 7,3),(140,.iconst 1,1),(141,.goto 4,3),(144,.iconst 0,1),(145,.invokestatic 85,3),(148,.invokevirtual 75,3),(151,.goto 25,3),(154,.aload_n 0,1),(155,.invokevirtual 81,3),(158,.istore 8,2),(160,.aload_n 0,1),(161,.iload 7,2),(163,.ineg,1),(164,.aload_n 0,1),(165,.invokevirtual 81,3),(168,.iload 8,2),(170,.invokestatic 89,3),(173,.invokevirtual 75,3),(176,.iinc 6 1,3),(179,.goto (-148),3),(182,.aload_n 0,1),(183,.invokevirtual 81,3),(186,.ireturn,1)]
set_option maxRecDepth 100000 in
theorem dkX1_work : rf_decs prog_3_method_8_code ddX1_work := rf_decs_of (by decide +kernel)
def q253_P : rfP := (flX1,csX1,lcX1,spX1,[q241_M,q187_M,q242_M,q243_M,q244_M,q245_M,q246_M,q247_M,q248_M,q249_M,q250_M,q251_M,q252_M],[(61,0),(65,1),(71,2),(85,8),(85,9),(89,12)],[(75,3,1),(75,4,1),(75,5,1),(75,6,1),(75,10,1),(75,11,1),(81,7,1)],([],[]))
def q253_U : rfU := []
set_option maxHeartbeats 8000000 in
def q253_N : List rfB := [(0,([(0,.inr (.inl [5])),(1,.inl ((0,387420488,1),none))],[],[]),(21693,[0]),0),
  (31,([(0,.inr (.inl [5])),(1,.inl ((0,387420488,1),none)),(2,.inl (((-2147483648),2147483647,1),none)),(3,.inl ((0,6,1),none)),(4,.inl (((-2147483648),2147483647,1),none)),(5,.inl ((0,26,1),none)),(6,.inl ((0,300,1),none))],[],[]),(21672,[(-72)]),0),
  (176,([(0,.inr (.inl [5])),(1,.inl ((0,387420488,1),none)),(2,.inl (((-2147483648),2147483647,1),none)),(3,.inl ((0,6,1),none)),(4,.inl (((-2147483648),2147483647,1),none)),(5,.inl ((0,26,1),none)),(6,.inl ((0,299,1),none)),(7,.inl (((-2147483648),2147483647,1),none))],[],[((5,11),(1,300,1),none),((5,12),(1,32,1),none)]),(21603,[(-72)]),0),
  (151,([(0,.inr (.inl [5])),(1,.inl ((0,387420488,1),none)),(2,.inl (((-2147483648),2147483647,1),none)),(3,.inl ((0,6,1),none)),(4,.inl (((-2147483648),2147483647,1),none)),(5,.inl ((0,26,1),none)),(6,.inl ((0,299,1),none)),(7,.inl (((-9),(-9),1),none))],[],[((5,11),(1,300,1),none),((5,12),(1,32,1),none)]),(21624,[(-72)]),0)]
set_option maxRecDepth 100000 in
theorem q253_ok : rf_chkB q253_P q253_U wLay q253_M ddX1_work [(1,[0]),(6,[1]),(12,[2]),(57,[3]),(72,[4]),(87,[5]),(103,[4]),(119,[6]),(134,[7]),(145,[8,9]),(148,[10,11]),(155,[7]),(165,[7]),(170,[12]),(173,[4]),(183,[7])] [.inl 6] [0,31,151,176] 600 q253_N = true := by decide +kernel
set_option maxHeartbeats 4000000 in
theorem q253_met {G : rfG} (h : okG G) (hh : wHandOK G) : rf_met G q253_M := rf_methodB h.1 (P := q253_P) (U := q253_U) (N := q253_N) ⟨wflT h flokX1, wcsT h csokX1, wlcT h lcokX1, spokX1 h, List.forall_mem_cons.mpr ⟨q241_met h hh, List.forall_mem_cons.mpr ⟨q187_met h hh, List.forall_mem_cons.mpr ⟨q242_met h hh, List.forall_mem_cons.mpr ⟨q243_met h hh, List.forall_mem_cons.mpr ⟨q244_met h hh, List.forall_mem_cons.mpr ⟨q245_met h hh, List.forall_mem_cons.mpr ⟨q246_met h hh, List.forall_mem_cons.mpr ⟨q247_met h hh, List.forall_mem_cons.mpr ⟨q248_met h hh, List.forall_mem_cons.mpr ⟨q249_met h hh, List.forall_mem_cons.mpr ⟨q250_met h hh, List.forall_mem_cons.mpr ⟨q251_met h hh, List.forall_mem_cons.mpr ⟨q252_met h hh, fun _ h => absurd h List.not_mem_nil⟩⟩⟩⟩⟩⟩⟩⟩⟩⟩⟩⟩⟩, List.forall_mem_cons.mpr ⟨fun M hM => Option.some.inj (show some q241_M = some M from hM) ▸ wlkS (lkX1_61 h) q241_M rfl rfl, List.forall_mem_cons.mpr ⟨fun M hM => Option.some.inj (show some q187_M = some M from hM) ▸ wlkS (lkX1_65 h) q187_M rfl rfl, List.forall_mem_cons.mpr ⟨fun M hM => Option.some.inj (show some q242_M = some M from hM) ▸ wlkS (lkX1_71 h) q242_M rfl rfl, List.forall_mem_cons.mpr ⟨fun M hM => Option.some.inj (show some q248_M = some M from hM) ▸ wlkS (lkX1_85 h) q248_M rfl rfl, List.forall_mem_cons.mpr ⟨fun M hM => Option.some.inj (show some q249_M = some M from hM) ▸ wlkS (lkX1_85 h) q249_M rfl rfl, List.forall_mem_cons.mpr ⟨fun M hM => Option.some.inj (show some q252_M = some M from hM) ▸ wlkS (lkX1_89 h) q252_M rfl rfl, fun _ h => absurd h List.not_mem_nil⟩⟩⟩⟩⟩⟩, List.forall_mem_cons.mpr ⟨fun M hM => Option.some.inj (show some q243_M = some M from hM) ▸ wlkV (lkX1_75 h) q243_M rfl rfl, List.forall_mem_cons.mpr ⟨fun M hM => Option.some.inj (show some q244_M = some M from hM) ▸ wlkV (lkX1_75 h) q244_M rfl rfl, List.forall_mem_cons.mpr ⟨fun M hM => Option.some.inj (show some q245_M = some M from hM) ▸ wlkV (lkX1_75 h) q245_M rfl rfl, List.forall_mem_cons.mpr ⟨fun M hM => Option.some.inj (show some q246_M = some M from hM) ▸ wlkV (lkX1_75 h) q246_M rfl rfl, List.forall_mem_cons.mpr ⟨fun M hM => Option.some.inj (show some q250_M = some M from hM) ▸ wlkV (lkX1_75 h) q250_M rfl rfl, List.forall_mem_cons.mpr ⟨fun M hM => Option.some.inj (show some q251_M = some M from hM) ▸ wlkV (lkX1_75 h) q251_M rfl rfl, List.forall_mem_cons.mpr ⟨fun M hM => Option.some.inj (show some q247_M = some M from hM) ▸ wlkV (lkX1_81 h) q247_M rfl rfl, fun _ h => absurd h List.not_mem_nil⟩⟩⟩⟩⟩⟩⟩, fun _ h => absurd h List.not_mem_nil, fun _ h => absurd h List.not_mem_nil⟩ dkX1_work (by decide +kernel) (by rw [h.2.2.1]; exact q253_ok)
/-- NearSpell.Book.bucketOf -/
def q254_M : rfM := ((⟨"NearSpell$Book", "bucketOf", "(I)I"⟩, prog_3_method_7_code, 4, (some .int)), (3,71), ([.inr (.inl [5]),.inl ((0,387420488,1),none)],[]), [(4,0),(5,13)], [(some (.inl ((0,30,1),none)),[],[])])
def ddX1_bucketOf : List (Nat × Instr × Nat) := [(0,.aload_n 0,1),(1,.getfield 49,3),(4,.ifCond .ne 18,3),(7,.iload_n 1,1),(8,.invokestatic 61,3),(11,.bipush 7,2),(13,.imul,1),(14,.iload_n 1,1),(15,.invokestatic 65,3),(18,.iadd,1),(19,.goto 8,3),(22,.aload_n 0,1),(23,.iload_n 1,1),(24,.invokevirtual 68,3),(27,.istore_n 2,1),(28,.aload_n 0,1),(29,.getfield 37,3),(32,.ifCond .gt 5,3),(35,.iconst 0,1),(36,.ireturn,1),(37,.iload_n 2,1),(38,.aload_n 0,1),(39,.getfield 37,3),(42,.irem,1),(43,.istore_n 3,1),(44,.iload_n 3,1),(45,.ifCond .ge 12,3),(48,.iload_n 3,1),(49,.aload_n 0,1),(50,.getfield 37,3),(53,.iadd,1),(54,.goto 4,3),(57,.iload_n 3,1),(58,.ireturn,1)]
set_option maxRecDepth 100000 in
theorem dkX1_bucketOf : rf_decs prog_3_method_7_code ddX1_bucketOf := rf_decs_of (by decide +kernel)
def q254_P : rfP := (flX1,csX1,lcX1,spX1,[q241_M,q187_M,q253_M],[(61,0),(65,1)],[(68,2,1)],([],[]))
def q254_U : rfU := [(.inr (5,7),[(1,1),(2,2),(3,3),(4,4),(5,5),(6,6),(7,7),(8,8),(9,9),(10,10),(11,11),(12,12),(13,13),(14,14),(15,15),(16,16),(17,17),(18,18),(19,19),(20,20),(21,21),(22,22),(23,23),(24,24),(25,25),(26,26),(27,27),(28,28),(29,29),(30,30),(31,31)])]
set_option maxHeartbeats 8000000 in
def q254_N : List rfB := [(0,([(0,.inr (.inl [5])),(1,.inl ((0,387420488,1),none))],[],[]),(988,[]),1000000),
  (27,([(0,.inr (.inl [5])),(1,.inl ((0,387420488,1),none))],[.inl (((-2147483648),2147483647,1),none)],[((5,7),(19,19,1),none)]),(589,[]),0),
  (27,([(0,.inr (.inl [5])),(1,.inl ((0,387420488,1),none))],[.inl (((-2147483648),2147483647,1),none)],[((5,7),(30,30,1),none)]),(941,[]),0),
  (27,([(0,.inr (.inl [5])),(1,.inl ((0,387420488,1),none))],[.inl (((-2147483648),2147483647,1),none)],[((5,7),(5,5,1),none)]),(141,[]),0),
  (27,([(0,.inr (.inl [5])),(1,.inl ((0,387420488,1),none))],[.inl (((-2147483648),2147483647,1),none)],[((5,7),(25,25,1),none)]),(781,[]),0),
  (27,([(0,.inr (.inl [5])),(1,.inl ((0,387420488,1),none))],[.inl (((-2147483648),2147483647,1),none)],[((5,7),(24,24,1),none)]),(749,[]),0),
  (27,([(0,.inr (.inl [5])),(1,.inl ((0,387420488,1),none))],[.inl (((-2147483648),2147483647,1),none)],[((5,7),(20,20,1),none)]),(621,[]),0),
  (27,([(0,.inr (.inl [5])),(1,.inl ((0,387420488,1),none))],[.inl (((-2147483648),2147483647,1),none)],[((5,7),(26,26,1),none)]),(813,[]),0),
  (27,([(0,.inr (.inl [5])),(1,.inl ((0,387420488,1),none))],[.inl (((-2147483648),2147483647,1),none)],[((5,7),(15,15,1),none)]),(461,[]),0),
  (27,([(0,.inr (.inl [5])),(1,.inl ((0,387420488,1),none))],[.inl (((-2147483648),2147483647,1),none)],[((5,7),(1,1,1),none)]),(12,[]),0),
  (27,([(0,.inr (.inl [5])),(1,.inl ((0,387420488,1),none))],[.inl (((-2147483648),2147483647,1),none)],[((5,7),(21,21,1),none)]),(653,[]),0),
  (27,([(0,.inr (.inl [5])),(1,.inl ((0,387420488,1),none))],[.inl (((-2147483648),2147483647,1),none)],[((5,7),(16,16,1),none)]),(493,[]),0),
  (27,([(0,.inr (.inl [5])),(1,.inl ((0,387420488,1),none))],[.inl (((-2147483648),2147483647,1),none)],[((5,7),(22,22,1),none)]),(685,[]),0),
  (27,([(0,.inr (.inl [5])),(1,.inl ((0,387420488,1),none))],[.inl (((-2147483648),2147483647,1),none)],[((5,7),(11,11,1),none)]),(333,[]),0),
  (27,([(0,.inr (.inl [5])),(1,.inl ((0,387420488,1),none))],[.inl (((-2147483648),2147483647,1),none)],[((5,7),(31,31,1),none)]),(973,[]),0),
  (27,([(0,.inr (.inl [5])),(1,.inl ((0,387420488,1),none))],[.inl (((-2147483648),2147483647,1),none)],[((5,7),(6,6,1),none)]),(173,[]),0),
  (27,([(0,.inr (.inl [5])),(1,.inl ((0,387420488,1),none))],[.inl (((-2147483648),2147483647,1),none)],[((5,7),(17,17,1),none)]),(525,[]),0),
  (27,([(0,.inr (.inl [5])),(1,.inl ((0,387420488,1),none))],[.inl (((-2147483648),2147483647,1),none)],[((5,7),(12,12,1),none)]),(365,[]),0),
  (27,([(0,.inr (.inl [5])),(1,.inl ((0,387420488,1),none))],[.inl (((-2147483648),2147483647,1),none)],[((5,7),(18,18,1),none)]),(557,[]),0),
  (27,([(0,.inr (.inl [5])),(1,.inl ((0,387420488,1),none))],[.inl (((-2147483648),2147483647,1),none)],[((5,7),(7,7,1),none)]),(205,[]),0),
  (27,([(0,.inr (.inl [5])),(1,.inl ((0,387420488,1),none))],[.inl (((-2147483648),2147483647,1),none)],[((5,7),(13,13,1),none)]),(397,[]),0),
  (27,([(0,.inr (.inl [5])),(1,.inl ((0,387420488,1),none))],[.inl (((-2147483648),2147483647,1),none)],[((5,7),(27,27,1),none)]),(845,[]),0),
  (27,([(0,.inr (.inl [5])),(1,.inl ((0,387420488,1),none))],[.inl (((-2147483648),2147483647,1),none)],[((5,7),(2,2,1),none)]),(45,[]),0),
  (27,([(0,.inr (.inl [5])),(1,.inl ((0,387420488,1),none))],[.inl (((-2147483648),2147483647,1),none)],[((5,7),(8,8,1),none)]),(237,[]),0),
  (27,([(0,.inr (.inl [5])),(1,.inl ((0,387420488,1),none))],[.inl (((-2147483648),2147483647,1),none)],[((5,7),(28,28,1),none)]),(877,[]),0),
  (27,([(0,.inr (.inl [5])),(1,.inl ((0,387420488,1),none))],[.inl (((-2147483648),2147483647,1),none)],[((5,7),(3,3,1),none)]),(77,[]),0),
  (27,([(0,.inr (.inl [5])),(1,.inl ((0,387420488,1),none))],[.inl (((-2147483648),2147483647,1),none)],[((5,7),(14,14,1),none)]),(429,[]),0),
  (27,([(0,.inr (.inl [5])),(1,.inl ((0,387420488,1),none))],[.inl (((-2147483648),2147483647,1),none)],[((5,7),(23,23,1),none)]),(717,[]),0),
  (27,([(0,.inr (.inl [5])),(1,.inl ((0,387420488,1),none))],[.inl (((-2147483648),2147483647,1),none)],[((5,7),(9,9,1),none)]),(269,[]),0),
  (27,([(0,.inr (.inl [5])),(1,.inl ((0,387420488,1),none))],[.inl (((-2147483648),2147483647,1),none)],[((5,7),(29,29,1),none)]),(909,[]),0),
  (27,([(0,.inr (.inl [5])),(1,.inl ((0,387420488,1),none))],[.inl (((-2147483648),2147483647,1),none)],[((5,7),(4,4,1),none)]),(109,[]),0),
  (27,([(0,.inr (.inl [5])),(1,.inl ((0,387420488,1),none))],[.inl (((-2147483648),2147483647,1),none)],[((5,7),(10,10,1),none)]),(301,[]),0),
  (58,([(0,.inr (.inl [5])),(1,.inl ((0,387420488,1),none)),(2,.inl (((-2147483648),2147483647,1),none)),(3,.inl (((-18),18,1),none))],[.inl ((0,18,1),none)],[((5,7),(19,19,1),none)]),(572,[]),0),
  (58,([(0,.inr (.inl [5])),(1,.inl ((0,387420488,1),none)),(2,.inl (((-2147483648),2147483647,1),none)),(3,.inl (((-29),29,1),none))],[.inl ((0,29,1),none)],[((5,7),(30,30,1),none)]),(924,[]),0),
  (58,([(0,.inr (.inl [5])),(1,.inl ((0,387420488,1),none)),(2,.inl (((-2147483648),2147483647,1),none)),(3,.inl (((-4),4,1),none))],[.inl ((0,4,1),none)],[((5,7),(5,5,1),none)]),(124,[]),0),
  (58,([(0,.inr (.inl [5])),(1,.inl ((0,387420488,1),none)),(2,.inl (((-2147483648),2147483647,1),none)),(3,.inl (((-24),24,1),none))],[.inl ((0,24,1),none)],[((5,7),(25,25,1),none)]),(764,[]),0),
  (58,([(0,.inr (.inl [5])),(1,.inl ((0,387420488,1),none)),(2,.inl (((-2147483648),2147483647,1),none)),(3,.inl (((-23),23,1),none))],[.inl ((0,23,1),none)],[((5,7),(24,24,1),none)]),(732,[]),0),
  (58,([(0,.inr (.inl [5])),(1,.inl ((0,387420488,1),none)),(2,.inl (((-2147483648),2147483647,1),none)),(3,.inl (((-19),19,1),none))],[.inl ((0,19,1),none)],[((5,7),(20,20,1),none)]),(604,[]),0),
  (58,([(0,.inr (.inl [5])),(1,.inl ((0,387420488,1),none)),(2,.inl (((-2147483648),2147483647,1),none)),(3,.inl (((-25),25,1),none))],[.inl ((0,25,1),none)],[((5,7),(26,26,1),none)]),(796,[]),0),
  (58,([(0,.inr (.inl [5])),(1,.inl ((0,387420488,1),none)),(2,.inl (((-2147483648),2147483647,1),none)),(3,.inl (((-14),14,1),none))],[.inl ((0,14,1),none)],[((5,7),(15,15,1),none)]),(444,[]),0),
  (58,([(0,.inr (.inl [5])),(1,.inl ((0,387420488,1),none)),(2,.inl (((-2147483648),2147483647,1),none)),(3,.inl (((-20),20,1),none))],[.inl ((0,20,1),none)],[((5,7),(21,21,1),none)]),(636,[]),0),
  (58,([(0,.inr (.inl [5])),(1,.inl ((0,387420488,1),none)),(2,.inl (((-2147483648),2147483647,1),none)),(3,.inl (((-15),15,1),none))],[.inl ((0,15,1),none)],[((5,7),(16,16,1),none)]),(476,[]),0),
  (58,([(0,.inr (.inl [5])),(1,.inl ((0,387420488,1),none)),(2,.inl (((-2147483648),2147483647,1),none)),(3,.inl (((-21),21,1),none))],[.inl ((0,21,1),none)],[((5,7),(22,22,1),none)]),(668,[]),0),
  (58,([(0,.inr (.inl [5])),(1,.inl ((0,387420488,1),none)),(2,.inl (((-2147483648),2147483647,1),none)),(3,.inl (((-10),10,1),none))],[.inl ((0,10,1),none)],[((5,7),(11,11,1),none)]),(316,[]),0),
  (58,([(0,.inr (.inl [5])),(1,.inl ((0,387420488,1),none)),(2,.inl (((-2147483648),2147483647,1),none)),(3,.inl (((-30),30,1),none))],[.inl ((0,30,1),none)],[((5,7),(31,31,1),none)]),(956,[]),0),
  (58,([(0,.inr (.inl [5])),(1,.inl ((0,387420488,1),none)),(2,.inl (((-2147483648),2147483647,1),none)),(3,.inl (((-5),5,1),none))],[.inl ((0,5,1),none)],[((5,7),(6,6,1),none)]),(156,[]),0),
  (58,([(0,.inr (.inl [5])),(1,.inl ((0,387420488,1),none)),(2,.inl (((-2147483648),2147483647,1),none)),(3,.inl (((-16),16,1),none))],[.inl ((0,16,1),none)],[((5,7),(17,17,1),none)]),(508,[]),0),
  (58,([(0,.inr (.inl [5])),(1,.inl ((0,387420488,1),none)),(2,.inl (((-2147483648),2147483647,1),none)),(3,.inl (((-11),11,1),none))],[.inl ((0,11,1),none)],[((5,7),(12,12,1),none)]),(348,[]),0),
  (58,([(0,.inr (.inl [5])),(1,.inl ((0,387420488,1),none)),(2,.inl (((-2147483648),2147483647,1),none)),(3,.inl (((-17),17,1),none))],[.inl ((0,17,1),none)],[((5,7),(18,18,1),none)]),(540,[]),0),
  (58,([(0,.inr (.inl [5])),(1,.inl ((0,387420488,1),none)),(2,.inl (((-2147483648),2147483647,1),none)),(3,.inl (((-6),6,1),none))],[.inl ((0,6,1),none)],[((5,7),(7,7,1),none)]),(188,[]),0),
  (58,([(0,.inr (.inl [5])),(1,.inl ((0,387420488,1),none)),(2,.inl (((-2147483648),2147483647,1),none)),(3,.inl (((-12),12,1),none))],[.inl ((0,12,1),none)],[((5,7),(13,13,1),none)]),(380,[]),0),
  (58,([(0,.inr (.inl [5])),(1,.inl ((0,387420488,1),none)),(2,.inl (((-2147483648),2147483647,1),none)),(3,.inl (((-26),26,1),none))],[.inl ((0,26,1),none)],[((5,7),(27,27,1),none)]),(828,[]),0),
  (58,([(0,.inr (.inl [5])),(1,.inl ((0,387420488,1),none)),(2,.inl (((-2147483648),2147483647,1),none)),(3,.inl (((-1),(-1),1),none))],[.inl ((1,1,1),some (.inl 3,some 2))],[((5,7),(2,2,1),none)]),(29,[]),0),
  (58,([(0,.inr (.inl [5])),(1,.inl ((0,387420488,1),none)),(2,.inl (((-2147483648),2147483647,1),none)),(3,.inl (((-7),7,1),none))],[.inl ((0,7,1),none)],[((5,7),(8,8,1),none)]),(220,[]),0),
  (58,([(0,.inr (.inl [5])),(1,.inl ((0,387420488,1),none)),(2,.inl (((-2147483648),2147483647,1),none)),(3,.inl (((-27),27,1),none))],[.inl ((0,27,1),none)],[((5,7),(28,28,1),none)]),(860,[]),0),
  (58,([(0,.inr (.inl [5])),(1,.inl ((0,387420488,1),none)),(2,.inl (((-2147483648),2147483647,1),none)),(3,.inl (((-2),2,1),none))],[.inl ((0,2,1),none)],[((5,7),(3,3,1),none)]),(60,[]),0),
  (58,([(0,.inr (.inl [5])),(1,.inl ((0,387420488,1),none)),(2,.inl (((-2147483648),2147483647,1),none)),(3,.inl (((-13),13,1),none))],[.inl ((0,13,1),none)],[((5,7),(14,14,1),none)]),(412,[]),0),
  (58,([(0,.inr (.inl [5])),(1,.inl ((0,387420488,1),none)),(2,.inl (((-2147483648),2147483647,1),none)),(3,.inl (((-22),22,1),none))],[.inl ((0,22,1),none)],[((5,7),(23,23,1),none)]),(700,[]),0),
  (58,([(0,.inr (.inl [5])),(1,.inl ((0,387420488,1),none)),(2,.inl (((-2147483648),2147483647,1),none)),(3,.inl (((-8),8,1),none))],[.inl ((0,8,1),none)],[((5,7),(9,9,1),none)]),(252,[]),0),
  (58,([(0,.inr (.inl [5])),(1,.inl ((0,387420488,1),none)),(2,.inl (((-2147483648),2147483647,1),none)),(3,.inl (((-28),28,1),none))],[.inl ((0,28,1),none)],[((5,7),(29,29,1),none)]),(892,[]),0),
  (58,([(0,.inr (.inl [5])),(1,.inl ((0,387420488,1),none)),(2,.inl (((-2147483648),2147483647,1),none)),(3,.inl (((-3),3,1),none))],[.inl ((0,3,1),none)],[((5,7),(4,4,1),none)]),(92,[]),0),
  (58,([(0,.inr (.inl [5])),(1,.inl ((0,387420488,1),none)),(2,.inl (((-2147483648),2147483647,1),none)),(3,.inl (((-9),9,1),none))],[.inl ((0,9,1),none)],[((5,7),(10,10,1),none)]),(284,[]),0),
  (58,([(0,.inr (.inl [5])),(1,.inl ((0,387420488,1),none)),(2,.inl (((-2147483648),2147483647,1),none)),(3,.inl ((0,0,1),none))],[.inl ((0,0,1),some (.inl 3,some 0))],[((5,7),(1,1,1),none)]),(0,[]),0),
  (58,([(0,.inr (.inl [5])),(1,.inl ((0,387420488,1),none)),(2,.inl (((-2147483648),2147483647,1),none)),(3,.inl ((0,1,1),none))],[.inl ((0,1,1),some (.inl 3,some 0))],[((5,7),(2,2,1),none)]),(27,[]),0)]
set_option maxRecDepth 100000 in
theorem q254_ok : rf_chkB q254_P q254_U wLay q254_M ddX1_bucketOf [(8,[0]),(15,[1]),(24,[2])] [] [0,27,58] 600 q254_N = true := by decide +kernel
set_option maxHeartbeats 4000000 in
theorem q254_met {G : rfG} (h : okG G) (hh : wHandOK G) : rf_met G q254_M := rf_methodB h.1 (P := q254_P) (U := q254_U) (N := q254_N) ⟨wflT h flokX1, wcsT h csokX1, wlcT h lcokX1, spokX1 h, List.forall_mem_cons.mpr ⟨q241_met h hh, List.forall_mem_cons.mpr ⟨q187_met h hh, List.forall_mem_cons.mpr ⟨q253_met h hh, fun _ h => absurd h List.not_mem_nil⟩⟩⟩, List.forall_mem_cons.mpr ⟨fun M hM => Option.some.inj (show some q241_M = some M from hM) ▸ wlkS (lkX1_61 h) q241_M rfl rfl, List.forall_mem_cons.mpr ⟨fun M hM => Option.some.inj (show some q187_M = some M from hM) ▸ wlkS (lkX1_65 h) q187_M rfl rfl, fun _ h => absurd h List.not_mem_nil⟩⟩, List.forall_mem_cons.mpr ⟨fun M hM => Option.some.inj (show some q253_M = some M from hM) ▸ wlkV (lkX1_68 h) q253_M rfl rfl, fun _ h => absurd h List.not_mem_nil⟩, fun _ h => absurd h List.not_mem_nil, fun _ h => absurd h List.not_mem_nil⟩ dkX1_bucketOf (by decide +kernel) (by rw [h.2.2.1]; exact q254_ok)
/-- NearSpell.bucket -/
def q255_M : rfM := ((⟨"NearSpell", "bucket", "(I)I"⟩, prog_1_method_17_code, 2, (some .int)), (4,94), ([.inr (.inl [70]),.inl (((-2147483648),2147483647,1),none)],[]), [(4,0),(5,13)], [(some (.inl (((-1),30,1),none)),[],[])])
def ddX11_bucket : List (Nat × Instr × Nat) := [(0,.iload_n 1,1),(1,.invokestatic 163,3),(4,.ifCond .eq 14,3),(7,.aload_n 0,1),(8,.getfield 16,3),(11,.iload_n 1,1),(12,.invokevirtual 223,3),(15,.goto 4,3),(18,.iconst (-1),1),(19,.ireturn,1)]
set_option maxRecDepth 100000 in
theorem dkX11_bucket : rf_decs prog_1_method_17_code ddX11_bucket := rf_decs_of (by decide +kernel)
def q255_P : rfP := (flX11,csX11,lcX11,spX11,[q159_M,q254_M],[(163,0)],[(223,1,1)],([],[]))
def q255_U : rfU := []
set_option maxHeartbeats 8000000 in
def q255_N : List rfB := [(0,([(0,.inr (.inl [70])),(1,.inl (((-2147483648),2147483647,1),none))],[],[]),(11,[]),0)]
set_option maxRecDepth 100000 in
theorem q255_ok : rf_chkB q255_P q255_U wLay q255_M ddX11_bucket [(1,[0]),(12,[1])] [] [0] 600 q255_N = true := by decide +kernel
set_option maxHeartbeats 4000000 in
theorem q255_met {G : rfG} (h : okG G) (hh : wHandOK G) : rf_met G q255_M := rf_methodB h.1 (P := q255_P) (U := q255_U) (N := q255_N) ⟨wflT h flokX11, wcsT h csokX11, wlcT h lcokX11, spokX11 h, List.forall_mem_cons.mpr ⟨q159_met h hh, List.forall_mem_cons.mpr ⟨q254_met h hh, fun _ h => absurd h List.not_mem_nil⟩⟩, List.forall_mem_cons.mpr ⟨fun M hM => Option.some.inj (show some q159_M = some M from hM) ▸ wlkS (lkX11_163 h) q159_M rfl rfl, fun _ h => absurd h List.not_mem_nil⟩, List.forall_mem_cons.mpr ⟨fun M hM => Option.some.inj (show some q254_M = some M from hM) ▸ wlkV (lkX11_223 h) q254_M rfl rfl, fun _ h => absurd h List.not_mem_nil⟩, fun _ h => absurd h List.not_mem_nil, fun _ h => absurd h List.not_mem_nil⟩ dkX11_bucket (by decide +kernel) (by rw [h.2.2.1]; exact q255_ok)
/-- NearSpell.totalOf -/
def q256_M : rfM := ((⟨"NearSpell", "totalOf", "(I)I"⟩, prog_1_method_54_code, 4, (some .int)), (0,0), ([.inl (((-2147483648),2147483647,1),none)],[]), [], [(some (.inl (((-2147483648),2147483647,1),none)),[],[])])
def q256_P : rfP := (flX11,csX11,lcX11,spX11,[],[],[],([],[]))
def q256_U : rfU := []
set_option maxHeartbeats 8000000 in
def q256_N : List rfB := [(0,([(0,.inl (((-2147483648),2147483647,1),none))],[],[]),(133,[0]),0),
  (6,([(0,.inl (((-2147483648),2147483647,1),none)),(1,.inl (((-2147483648),2147483647,1),none)),(2,.inl (((-2147483648),2147483647,1),none)),(3,.inl ((0,6,1),none))],[],[]),(125,[(-18)]),0),
  (34,([(0,.inl (((-2147483648),2147483647,1),none)),(1,.inl (((-2147483648),2147483647,1),none)),(2,.inl (((-2147483648),2147483647,1),none)),(3,.inl ((0,6,1),none))],[],[]),(1,[0]),0)]
set_option maxRecDepth 100000 in
theorem q256_ok : rf_chkB q256_P q256_U wLay q256_M ddX11_totalOf [] [.inl 3] [0,6,34] 600 q256_N = true := by decide +kernel
set_option maxHeartbeats 4000000 in
theorem q256_met {G : rfG} (h : okG G) (hh : wHandOK G) : rf_met G q256_M := rf_methodB h.1 (P := q256_P) (U := q256_U) (N := q256_N) ⟨wflT h flokX11, wcsT h csokX11, wlcT h lcokX11, spokX11 h, fun _ h => absurd h List.not_mem_nil, fun _ h => absurd h List.not_mem_nil, fun _ h => absurd h List.not_mem_nil, fun _ h => absurd h List.not_mem_nil, fun _ h => absurd h List.not_mem_nil⟩ dkX11_totalOf (by decide +kernel) (by rw [h.2.2.1]; exact q256_ok)
/-- NearSpell.beginningOf -/
def q257_M : rfM := ((⟨"NearSpell", "beginningOf", "(II)I"⟩, prog_1_method_55_code, 3, (some .int)), (1,21), ([.inl (((-2147483648),2147483647,1),none),.inl ((1,1,0),none)],[]), [], [(some (.inl (((-2147483648),2147483647,1),none)),[],[])])
def q257_P : rfP := (flX11,csX11,lcX11,spX11,[q100_M],[(148,0)],[],([],[]))
def q257_U : rfU := []
set_option maxHeartbeats 8000000 in
def q257_N : List rfB := [(0,([(0,.inl (((-2147483648),2147483647,1),none)),(1,.inl ((1,1,0),none))],[],[]),(17,[]),0),
  (28,([(0,.inl (((-2147483648),2147483647,1),none)),(1,.inl ((1,1,0),none)),(2,.inl (((-1),5,1),none))],[.inl (((-2147483648),2147483647,1),none)],[]),(0,[]),0)]
set_option maxRecDepth 100000 in
theorem q257_ok : rf_chkB q257_P q257_U wLay q257_M ddX11_beginningOf [(1,[0])] [] [0,28] 600 q257_N = true := by decide +kernel
set_option maxHeartbeats 4000000 in
theorem q257_met {G : rfG} (h : okG G) (hh : wHandOK G) : rf_met G q257_M := rf_methodB h.1 (P := q257_P) (U := q257_U) (N := q257_N) ⟨wflT h flokX11, wcsT h csokX11, wlcT h lcokX11, spokX11 h, List.forall_mem_cons.mpr ⟨q100_met h hh, fun _ h => absurd h List.not_mem_nil⟩, List.forall_mem_cons.mpr ⟨fun M hM => Option.some.inj (show some q100_M = some M from hM) ▸ wlkS (lkX11_148 h) q100_M rfl rfl, fun _ h => absurd h List.not_mem_nil⟩, fun _ h => absurd h List.not_mem_nil, fun _ h => absurd h List.not_mem_nil, fun _ h => absurd h List.not_mem_nil⟩ dkX11_beginningOf (by decide +kernel) (by rw [h.2.2.1]; exact q257_ok)
/-- NearSpell.Book.push -/
def q258_M : rfM := ((⟨"NearSpell$Book", "push", "(I)V"⟩, prog_3_method_9_code, 2, none), (0,0), ([.inr (.inl [5]),.inl (((-2147483648),26,1),none)],[]), [(4,0),(5,13)], [(none,[],[((5,12),(1,32,1),none)])])
def q258_P : rfP := (flX1,csX1,lcX1,spX1,[],[],[],([],[]))
def q258_U : rfU := []
set_option maxHeartbeats 8000000 in
def q258_N : List rfB := [(0,([(0,.inr (.inl [5])),(1,.inl (((-2147483648),26,1),none))],[],[]),(19,[]),0),
  (36,([(0,.inr (.inl [5])),(1,.inl (((-2147483648),26,1),none))],[],[((5,12),(1,32,1),none)]),(0,[]),0)]
set_option maxRecDepth 100000 in
theorem q258_ok : rf_chkB q258_P q258_U wLay q258_M ddX1_push [] [] [0,36] 600 q258_N = true := by decide +kernel
set_option maxHeartbeats 4000000 in
theorem q258_met {G : rfG} (h : okG G) (hh : wHandOK G) : rf_met G q258_M := rf_methodB h.1 (P := q258_P) (U := q258_U) (N := q258_N) ⟨wflT h flokX1, wcsT h csokX1, wlcT h lcokX1, spokX1 h, fun _ h => absurd h List.not_mem_nil, fun _ h => absurd h List.not_mem_nil, fun _ h => absurd h List.not_mem_nil, fun _ h => absurd h List.not_mem_nil, fun _ h => absurd h List.not_mem_nil⟩ dkX1_push (by decide +kernel) (by rw [h.2.2.1]; exact q258_ok)
/-- NearSpell.Book.work -/
def q259_M : rfM := ((⟨"NearSpell$Book", "work", "(I)I"⟩, prog_3_method_8_code, 9, (some .int)), (2,43), ([.inr (.inl [5]),.inl (((-2147483648),2147483647,1),none)],[]), [(4,0),(5,13)], [(some (.inl (((-2147483648),2147483647,1),none)),[],[((5,12),(0,31,1),none)])])
def q259_P : rfP := (flX1,csX1,lcX1,spX1,[q256_M,q100_M,q257_M,q243_M,q244_M,q245_M,q258_M,q247_M,q248_M,q249_M,q250_M,q251_M,q252_M],[(61,0),(65,1),(71,2),(85,8),(85,9),(89,12)],[(75,3,1),(75,4,1),(75,5,1),(75,6,1),(75,10,1),(75,11,1),(81,7,1)],([],[]))
def q259_U : rfU := []
set_option maxHeartbeats 8000000 in
def q259_N : List rfB := [(0,([(0,.inr (.inl [5])),(1,.inl (((-2147483648),2147483647,1),none))],[],[]),(21693,[0]),0),
  (31,([(0,.inr (.inl [5])),(1,.inl (((-2147483648),2147483647,1),none)),(2,.inl (((-2147483648),2147483647,1),none)),(3,.inl ((0,6,1),none)),(4,.inl (((-2147483648),2147483647,1),none)),(5,.inl (((-26),26,1),none)),(6,.inl ((0,300,1),none))],[],[]),(21672,[(-72)]),0),
  (176,([(0,.inr (.inl [5])),(1,.inl (((-2147483648),2147483647,1),none)),(2,.inl (((-2147483648),2147483647,1),none)),(3,.inl ((0,6,1),none)),(4,.inl (((-2147483648),2147483647,1),none)),(5,.inl (((-26),26,1),none)),(6,.inl ((0,299,1),none)),(7,.inl (((-2147483648),2147483647,1),none))],[],[((5,11),(1,300,1),none),((5,12),(1,32,1),none)]),(21603,[(-72)]),0),
  (151,([(0,.inr (.inl [5])),(1,.inl (((-2147483648),2147483647,1),none)),(2,.inl (((-2147483648),2147483647,1),none)),(3,.inl ((0,6,1),none)),(4,.inl (((-2147483648),2147483647,1),none)),(5,.inl (((-26),26,1),none)),(6,.inl ((0,299,1),none)),(7,.inl (((-9),(-9),1),none))],[],[((5,11),(1,300,1),none),((5,12),(1,32,1),none)]),(21624,[(-72)]),0)]
set_option maxRecDepth 100000 in
theorem q259_ok : rf_chkB q259_P q259_U wLay q259_M ddX1_work [(1,[0]),(6,[1]),(12,[2]),(57,[3]),(72,[4]),(87,[5]),(103,[4]),(119,[6]),(134,[7]),(145,[8,9]),(148,[10,11]),(155,[7]),(165,[7]),(170,[12]),(173,[4]),(183,[7])] [.inl 6] [0,31,151,176] 600 q259_N = true := by decide +kernel
set_option maxHeartbeats 4000000 in
theorem q259_met {G : rfG} (h : okG G) (hh : wHandOK G) : rf_met G q259_M := rf_methodB h.1 (P := q259_P) (U := q259_U) (N := q259_N) ⟨wflT h flokX1, wcsT h csokX1, wlcT h lcokX1, spokX1 h, List.forall_mem_cons.mpr ⟨q256_met h hh, List.forall_mem_cons.mpr ⟨q100_met h hh, List.forall_mem_cons.mpr ⟨q257_met h hh, List.forall_mem_cons.mpr ⟨q243_met h hh, List.forall_mem_cons.mpr ⟨q244_met h hh, List.forall_mem_cons.mpr ⟨q245_met h hh, List.forall_mem_cons.mpr ⟨q258_met h hh, List.forall_mem_cons.mpr ⟨q247_met h hh, List.forall_mem_cons.mpr ⟨q248_met h hh, List.forall_mem_cons.mpr ⟨q249_met h hh, List.forall_mem_cons.mpr ⟨q250_met h hh, List.forall_mem_cons.mpr ⟨q251_met h hh, List.forall_mem_cons.mpr ⟨q252_met h hh, fun _ h => absurd h List.not_mem_nil⟩⟩⟩⟩⟩⟩⟩⟩⟩⟩⟩⟩⟩, List.forall_mem_cons.mpr ⟨fun M hM => Option.some.inj (show some q256_M = some M from hM) ▸ wlkS (lkX1_61 h) q256_M rfl rfl, List.forall_mem_cons.mpr ⟨fun M hM => Option.some.inj (show some q100_M = some M from hM) ▸ wlkS (lkX1_65 h) q100_M rfl rfl, List.forall_mem_cons.mpr ⟨fun M hM => Option.some.inj (show some q257_M = some M from hM) ▸ wlkS (lkX1_71 h) q257_M rfl rfl, List.forall_mem_cons.mpr ⟨fun M hM => Option.some.inj (show some q248_M = some M from hM) ▸ wlkS (lkX1_85 h) q248_M rfl rfl, List.forall_mem_cons.mpr ⟨fun M hM => Option.some.inj (show some q249_M = some M from hM) ▸ wlkS (lkX1_85 h) q249_M rfl rfl, List.forall_mem_cons.mpr ⟨fun M hM => Option.some.inj (show some q252_M = some M from hM) ▸ wlkS (lkX1_89 h) q252_M rfl rfl, fun _ h => absurd h List.not_mem_nil⟩⟩⟩⟩⟩⟩, List.forall_mem_cons.mpr ⟨fun M hM => Option.some.inj (show some q243_M = some M from hM) ▸ wlkV (lkX1_75 h) q243_M rfl rfl, List.forall_mem_cons.mpr ⟨fun M hM => Option.some.inj (show some q244_M = some M from hM) ▸ wlkV (lkX1_75 h) q244_M rfl rfl, List.forall_mem_cons.mpr ⟨fun M hM => Option.some.inj (show some q245_M = some M from hM) ▸ wlkV (lkX1_75 h) q245_M rfl rfl, List.forall_mem_cons.mpr ⟨fun M hM => Option.some.inj (show some q258_M = some M from hM) ▸ wlkV (lkX1_75 h) q258_M rfl rfl, List.forall_mem_cons.mpr ⟨fun M hM => Option.some.inj (show some q250_M = some M from hM) ▸ wlkV (lkX1_75 h) q250_M rfl rfl, List.forall_mem_cons.mpr ⟨fun M hM => Option.some.inj (show some q251_M = some M from hM) ▸ wlkV (lkX1_75 h) q251_M rfl rfl, List.forall_mem_cons.mpr ⟨fun M hM => Option.some.inj (show some q247_M = some M from hM) ▸ wlkV (lkX1_81 h) q247_M rfl rfl, fun _ h => absurd h List.not_mem_nil⟩⟩⟩⟩⟩⟩⟩, fun _ h => absurd h List.not_mem_nil, fun _ h => absurd h List.not_mem_nil⟩ dkX1_work (by decide +kernel) (by rw [h.2.2.1]; exact q259_ok)
/-- NearSpell.Book.bucketOf -/
def q260_M : rfM := ((⟨"NearSpell$Book", "bucketOf", "(I)I"⟩, prog_3_method_7_code, 4, (some .int)), (3,71), ([.inr (.inl [5]),.inl (((-2147483648),2147483647,1),none)],[]), [(4,0),(5,13)], [(some (.inl ((0,30,1),none)),[],[])])
def q260_P : rfP := (flX1,csX1,lcX1,spX1,[q256_M,q100_M,q259_M],[(61,0),(65,1)],[(68,2,1)],([],[]))
def q260_U : rfU := [(.inr (5,7),[(1,1),(2,2),(3,3),(4,4),(5,5),(6,6),(7,7),(8,8),(9,9),(10,10),(11,11),(12,12),(13,13),(14,14),(15,15),(16,16),(17,17),(18,18),(19,19),(20,20),(21,21),(22,22),(23,23),(24,24),(25,25),(26,26),(27,27),(28,28),(29,29),(30,30),(31,31)])]
set_option maxHeartbeats 8000000 in
def q260_N : List rfB := [(0,([(0,.inr (.inl [5])),(1,.inl (((-2147483648),2147483647,1),none))],[],[]),(988,[]),1000000),
  (27,([(0,.inr (.inl [5])),(1,.inl (((-2147483648),2147483647,1),none))],[.inl (((-2147483648),2147483647,1),none)],[((5,7),(19,19,1),none)]),(589,[]),0),
  (27,([(0,.inr (.inl [5])),(1,.inl (((-2147483648),2147483647,1),none))],[.inl (((-2147483648),2147483647,1),none)],[((5,7),(30,30,1),none)]),(941,[]),0),
  (27,([(0,.inr (.inl [5])),(1,.inl (((-2147483648),2147483647,1),none))],[.inl (((-2147483648),2147483647,1),none)],[((5,7),(5,5,1),none)]),(141,[]),0),
  (27,([(0,.inr (.inl [5])),(1,.inl (((-2147483648),2147483647,1),none))],[.inl (((-2147483648),2147483647,1),none)],[((5,7),(25,25,1),none)]),(781,[]),0),
  (27,([(0,.inr (.inl [5])),(1,.inl (((-2147483648),2147483647,1),none))],[.inl (((-2147483648),2147483647,1),none)],[((5,7),(24,24,1),none)]),(749,[]),0),
  (27,([(0,.inr (.inl [5])),(1,.inl (((-2147483648),2147483647,1),none))],[.inl (((-2147483648),2147483647,1),none)],[((5,7),(20,20,1),none)]),(621,[]),0),
  (27,([(0,.inr (.inl [5])),(1,.inl (((-2147483648),2147483647,1),none))],[.inl (((-2147483648),2147483647,1),none)],[((5,7),(26,26,1),none)]),(813,[]),0),
  (27,([(0,.inr (.inl [5])),(1,.inl (((-2147483648),2147483647,1),none))],[.inl (((-2147483648),2147483647,1),none)],[((5,7),(15,15,1),none)]),(461,[]),0),
  (27,([(0,.inr (.inl [5])),(1,.inl (((-2147483648),2147483647,1),none))],[.inl (((-2147483648),2147483647,1),none)],[((5,7),(1,1,1),none)]),(12,[]),0),
  (27,([(0,.inr (.inl [5])),(1,.inl (((-2147483648),2147483647,1),none))],[.inl (((-2147483648),2147483647,1),none)],[((5,7),(21,21,1),none)]),(653,[]),0),
  (27,([(0,.inr (.inl [5])),(1,.inl (((-2147483648),2147483647,1),none))],[.inl (((-2147483648),2147483647,1),none)],[((5,7),(16,16,1),none)]),(493,[]),0),
  (27,([(0,.inr (.inl [5])),(1,.inl (((-2147483648),2147483647,1),none))],[.inl (((-2147483648),2147483647,1),none)],[((5,7),(22,22,1),none)]),(685,[]),0),
  (27,([(0,.inr (.inl [5])),(1,.inl (((-2147483648),2147483647,1),none))],[.inl (((-2147483648),2147483647,1),none)],[((5,7),(11,11,1),none)]),(333,[]),0),
  (27,([(0,.inr (.inl [5])),(1,.inl (((-2147483648),2147483647,1),none))],[.inl (((-2147483648),2147483647,1),none)],[((5,7),(31,31,1),none)]),(973,[]),0),
  (27,([(0,.inr (.inl [5])),(1,.inl (((-2147483648),2147483647,1),none))],[.inl (((-2147483648),2147483647,1),none)],[((5,7),(6,6,1),none)]),(173,[]),0),
  (27,([(0,.inr (.inl [5])),(1,.inl (((-2147483648),2147483647,1),none))],[.inl (((-2147483648),2147483647,1),none)],[((5,7),(17,17,1),none)]),(525,[]),0),
  (27,([(0,.inr (.inl [5])),(1,.inl (((-2147483648),2147483647,1),none))],[.inl (((-2147483648),2147483647,1),none)],[((5,7),(12,12,1),none)]),(365,[]),0),
  (27,([(0,.inr (.inl [5])),(1,.inl (((-2147483648),2147483647,1),none))],[.inl (((-2147483648),2147483647,1),none)],[((5,7),(18,18,1),none)]),(557,[]),0),
  (27,([(0,.inr (.inl [5])),(1,.inl (((-2147483648),2147483647,1),none))],[.inl (((-2147483648),2147483647,1),none)],[((5,7),(7,7,1),none)]),(205,[]),0),
  (27,([(0,.inr (.inl [5])),(1,.inl (((-2147483648),2147483647,1),none))],[.inl (((-2147483648),2147483647,1),none)],[((5,7),(13,13,1),none)]),(397,[]),0),
  (27,([(0,.inr (.inl [5])),(1,.inl (((-2147483648),2147483647,1),none))],[.inl (((-2147483648),2147483647,1),none)],[((5,7),(27,27,1),none)]),(845,[]),0),
  (27,([(0,.inr (.inl [5])),(1,.inl (((-2147483648),2147483647,1),none))],[.inl (((-2147483648),2147483647,1),none)],[((5,7),(2,2,1),none)]),(45,[]),0),
  (27,([(0,.inr (.inl [5])),(1,.inl (((-2147483648),2147483647,1),none))],[.inl (((-2147483648),2147483647,1),none)],[((5,7),(8,8,1),none)]),(237,[]),0),
  (27,([(0,.inr (.inl [5])),(1,.inl (((-2147483648),2147483647,1),none))],[.inl (((-2147483648),2147483647,1),none)],[((5,7),(28,28,1),none)]),(877,[]),0),
  (27,([(0,.inr (.inl [5])),(1,.inl (((-2147483648),2147483647,1),none))],[.inl (((-2147483648),2147483647,1),none)],[((5,7),(3,3,1),none)]),(77,[]),0),
  (27,([(0,.inr (.inl [5])),(1,.inl (((-2147483648),2147483647,1),none))],[.inl (((-2147483648),2147483647,1),none)],[((5,7),(14,14,1),none)]),(429,[]),0),
  (27,([(0,.inr (.inl [5])),(1,.inl (((-2147483648),2147483647,1),none))],[.inl (((-2147483648),2147483647,1),none)],[((5,7),(23,23,1),none)]),(717,[]),0),
  (27,([(0,.inr (.inl [5])),(1,.inl (((-2147483648),2147483647,1),none))],[.inl (((-2147483648),2147483647,1),none)],[((5,7),(9,9,1),none)]),(269,[]),0),
  (27,([(0,.inr (.inl [5])),(1,.inl (((-2147483648),2147483647,1),none))],[.inl (((-2147483648),2147483647,1),none)],[((5,7),(29,29,1),none)]),(909,[]),0),
  (27,([(0,.inr (.inl [5])),(1,.inl (((-2147483648),2147483647,1),none))],[.inl (((-2147483648),2147483647,1),none)],[((5,7),(4,4,1),none)]),(109,[]),0),
  (27,([(0,.inr (.inl [5])),(1,.inl (((-2147483648),2147483647,1),none))],[.inl (((-2147483648),2147483647,1),none)],[((5,7),(10,10,1),none)]),(301,[]),0),
  (58,([(0,.inr (.inl [5])),(1,.inl (((-2147483648),2147483647,1),none)),(2,.inl (((-2147483648),2147483647,1),none)),(3,.inl (((-18),18,1),none))],[.inl ((0,18,1),none)],[((5,7),(19,19,1),none)]),(572,[]),0),
  (58,([(0,.inr (.inl [5])),(1,.inl (((-2147483648),2147483647,1),none)),(2,.inl (((-2147483648),2147483647,1),none)),(3,.inl (((-29),29,1),none))],[.inl ((0,29,1),none)],[((5,7),(30,30,1),none)]),(924,[]),0),
  (58,([(0,.inr (.inl [5])),(1,.inl (((-2147483648),2147483647,1),none)),(2,.inl (((-2147483648),2147483647,1),none)),(3,.inl (((-4),4,1),none))],[.inl ((0,4,1),none)],[((5,7),(5,5,1),none)]),(124,[]),0),
  (58,([(0,.inr (.inl [5])),(1,.inl (((-2147483648),2147483647,1),none)),(2,.inl (((-2147483648),2147483647,1),none)),(3,.inl (((-24),24,1),none))],[.inl ((0,24,1),none)],[((5,7),(25,25,1),none)]),(764,[]),0),
  (58,([(0,.inr (.inl [5])),(1,.inl (((-2147483648),2147483647,1),none)),(2,.inl (((-2147483648),2147483647,1),none)),(3,.inl (((-23),23,1),none))],[.inl ((0,23,1),none)],[((5,7),(24,24,1),none)]),(732,[]),0),
  (58,([(0,.inr (.inl [5])),(1,.inl (((-2147483648),2147483647,1),none)),(2,.inl (((-2147483648),2147483647,1),none)),(3,.inl (((-19),19,1),none))],[.inl ((0,19,1),none)],[((5,7),(20,20,1),none)]),(604,[]),0),
  (58,([(0,.inr (.inl [5])),(1,.inl (((-2147483648),2147483647,1),none)),(2,.inl (((-2147483648),2147483647,1),none)),(3,.inl (((-25),25,1),none))],[.inl ((0,25,1),none)],[((5,7),(26,26,1),none)]),(796,[]),0),
  (58,([(0,.inr (.inl [5])),(1,.inl (((-2147483648),2147483647,1),none)),(2,.inl (((-2147483648),2147483647,1),none)),(3,.inl (((-14),14,1),none))],[.inl ((0,14,1),none)],[((5,7),(15,15,1),none)]),(444,[]),0),
  (58,([(0,.inr (.inl [5])),(1,.inl (((-2147483648),2147483647,1),none)),(2,.inl (((-2147483648),2147483647,1),none)),(3,.inl (((-20),20,1),none))],[.inl ((0,20,1),none)],[((5,7),(21,21,1),none)]),(636,[]),0),
  (58,([(0,.inr (.inl [5])),(1,.inl (((-2147483648),2147483647,1),none)),(2,.inl (((-2147483648),2147483647,1),none)),(3,.inl (((-15),15,1),none))],[.inl ((0,15,1),none)],[((5,7),(16,16,1),none)]),(476,[]),0),
  (58,([(0,.inr (.inl [5])),(1,.inl (((-2147483648),2147483647,1),none)),(2,.inl (((-2147483648),2147483647,1),none)),(3,.inl (((-21),21,1),none))],[.inl ((0,21,1),none)],[((5,7),(22,22,1),none)]),(668,[]),0),
  (58,([(0,.inr (.inl [5])),(1,.inl (((-2147483648),2147483647,1),none)),(2,.inl (((-2147483648),2147483647,1),none)),(3,.inl (((-10),10,1),none))],[.inl ((0,10,1),none)],[((5,7),(11,11,1),none)]),(316,[]),0),
  (58,([(0,.inr (.inl [5])),(1,.inl (((-2147483648),2147483647,1),none)),(2,.inl (((-2147483648),2147483647,1),none)),(3,.inl (((-30),30,1),none))],[.inl ((0,30,1),none)],[((5,7),(31,31,1),none)]),(956,[]),0),
  (58,([(0,.inr (.inl [5])),(1,.inl (((-2147483648),2147483647,1),none)),(2,.inl (((-2147483648),2147483647,1),none)),(3,.inl (((-5),5,1),none))],[.inl ((0,5,1),none)],[((5,7),(6,6,1),none)]),(156,[]),0),
  (58,([(0,.inr (.inl [5])),(1,.inl (((-2147483648),2147483647,1),none)),(2,.inl (((-2147483648),2147483647,1),none)),(3,.inl (((-16),16,1),none))],[.inl ((0,16,1),none)],[((5,7),(17,17,1),none)]),(508,[]),0),
  (58,([(0,.inr (.inl [5])),(1,.inl (((-2147483648),2147483647,1),none)),(2,.inl (((-2147483648),2147483647,1),none)),(3,.inl (((-11),11,1),none))],[.inl ((0,11,1),none)],[((5,7),(12,12,1),none)]),(348,[]),0),
  (58,([(0,.inr (.inl [5])),(1,.inl (((-2147483648),2147483647,1),none)),(2,.inl (((-2147483648),2147483647,1),none)),(3,.inl (((-17),17,1),none))],[.inl ((0,17,1),none)],[((5,7),(18,18,1),none)]),(540,[]),0),
  (58,([(0,.inr (.inl [5])),(1,.inl (((-2147483648),2147483647,1),none)),(2,.inl (((-2147483648),2147483647,1),none)),(3,.inl (((-6),6,1),none))],[.inl ((0,6,1),none)],[((5,7),(7,7,1),none)]),(188,[]),0),
  (58,([(0,.inr (.inl [5])),(1,.inl (((-2147483648),2147483647,1),none)),(2,.inl (((-2147483648),2147483647,1),none)),(3,.inl (((-12),12,1),none))],[.inl ((0,12,1),none)],[((5,7),(13,13,1),none)]),(380,[]),0),
  (58,([(0,.inr (.inl [5])),(1,.inl (((-2147483648),2147483647,1),none)),(2,.inl (((-2147483648),2147483647,1),none)),(3,.inl (((-26),26,1),none))],[.inl ((0,26,1),none)],[((5,7),(27,27,1),none)]),(828,[]),0),
  (58,([(0,.inr (.inl [5])),(1,.inl (((-2147483648),2147483647,1),none)),(2,.inl (((-2147483648),2147483647,1),none)),(3,.inl (((-1),(-1),1),none))],[.inl ((1,1,1),some (.inl 3,some 2))],[((5,7),(2,2,1),none)]),(29,[]),0),
  (58,([(0,.inr (.inl [5])),(1,.inl (((-2147483648),2147483647,1),none)),(2,.inl (((-2147483648),2147483647,1),none)),(3,.inl (((-7),7,1),none))],[.inl ((0,7,1),none)],[((5,7),(8,8,1),none)]),(220,[]),0),
  (58,([(0,.inr (.inl [5])),(1,.inl (((-2147483648),2147483647,1),none)),(2,.inl (((-2147483648),2147483647,1),none)),(3,.inl (((-27),27,1),none))],[.inl ((0,27,1),none)],[((5,7),(28,28,1),none)]),(860,[]),0),
  (58,([(0,.inr (.inl [5])),(1,.inl (((-2147483648),2147483647,1),none)),(2,.inl (((-2147483648),2147483647,1),none)),(3,.inl (((-2),2,1),none))],[.inl ((0,2,1),none)],[((5,7),(3,3,1),none)]),(60,[]),0),
  (58,([(0,.inr (.inl [5])),(1,.inl (((-2147483648),2147483647,1),none)),(2,.inl (((-2147483648),2147483647,1),none)),(3,.inl (((-13),13,1),none))],[.inl ((0,13,1),none)],[((5,7),(14,14,1),none)]),(412,[]),0),
  (58,([(0,.inr (.inl [5])),(1,.inl (((-2147483648),2147483647,1),none)),(2,.inl (((-2147483648),2147483647,1),none)),(3,.inl (((-22),22,1),none))],[.inl ((0,22,1),none)],[((5,7),(23,23,1),none)]),(700,[]),0),
  (58,([(0,.inr (.inl [5])),(1,.inl (((-2147483648),2147483647,1),none)),(2,.inl (((-2147483648),2147483647,1),none)),(3,.inl (((-8),8,1),none))],[.inl ((0,8,1),none)],[((5,7),(9,9,1),none)]),(252,[]),0),
  (58,([(0,.inr (.inl [5])),(1,.inl (((-2147483648),2147483647,1),none)),(2,.inl (((-2147483648),2147483647,1),none)),(3,.inl (((-28),28,1),none))],[.inl ((0,28,1),none)],[((5,7),(29,29,1),none)]),(892,[]),0),
  (58,([(0,.inr (.inl [5])),(1,.inl (((-2147483648),2147483647,1),none)),(2,.inl (((-2147483648),2147483647,1),none)),(3,.inl (((-3),3,1),none))],[.inl ((0,3,1),none)],[((5,7),(4,4,1),none)]),(92,[]),0),
  (58,([(0,.inr (.inl [5])),(1,.inl (((-2147483648),2147483647,1),none)),(2,.inl (((-2147483648),2147483647,1),none)),(3,.inl (((-9),9,1),none))],[.inl ((0,9,1),none)],[((5,7),(10,10,1),none)]),(284,[]),0),
  (58,([(0,.inr (.inl [5])),(1,.inl (((-2147483648),2147483647,1),none)),(2,.inl (((-2147483648),2147483647,1),none)),(3,.inl ((0,0,1),none))],[.inl ((0,0,1),some (.inl 3,some 0))],[((5,7),(1,1,1),none)]),(0,[]),0),
  (58,([(0,.inr (.inl [5])),(1,.inl (((-2147483648),2147483647,1),none)),(2,.inl (((-2147483648),2147483647,1),none)),(3,.inl ((0,1,1),none))],[.inl ((0,1,1),some (.inl 3,some 0))],[((5,7),(2,2,1),none)]),(27,[]),0)]
set_option maxRecDepth 100000 in
theorem q260_ok : rf_chkB q260_P q260_U wLay q260_M ddX1_bucketOf [(8,[0]),(15,[1]),(24,[2])] [] [0,27,58] 600 q260_N = true := by decide +kernel
set_option maxHeartbeats 4000000 in
theorem q260_met {G : rfG} (h : okG G) (hh : wHandOK G) : rf_met G q260_M := rf_methodB h.1 (P := q260_P) (U := q260_U) (N := q260_N) ⟨wflT h flokX1, wcsT h csokX1, wlcT h lcokX1, spokX1 h, List.forall_mem_cons.mpr ⟨q256_met h hh, List.forall_mem_cons.mpr ⟨q100_met h hh, List.forall_mem_cons.mpr ⟨q259_met h hh, fun _ h => absurd h List.not_mem_nil⟩⟩⟩, List.forall_mem_cons.mpr ⟨fun M hM => Option.some.inj (show some q256_M = some M from hM) ▸ wlkS (lkX1_61 h) q256_M rfl rfl, List.forall_mem_cons.mpr ⟨fun M hM => Option.some.inj (show some q100_M = some M from hM) ▸ wlkS (lkX1_65 h) q100_M rfl rfl, fun _ h => absurd h List.not_mem_nil⟩⟩, List.forall_mem_cons.mpr ⟨fun M hM => Option.some.inj (show some q259_M = some M from hM) ▸ wlkV (lkX1_68 h) q259_M rfl rfl, fun _ h => absurd h List.not_mem_nil⟩, fun _ h => absurd h List.not_mem_nil, fun _ h => absurd h List.not_mem_nil⟩ dkX1_bucketOf (by decide +kernel) (by rw [h.2.2.1]; exact q260_ok)
/-- NearSpell.FormList.bucketBits -/
def q261_M : rfM := ((⟨"NearSpell$FormList", "bucketBits", "(LNearSpell$Book;)I"⟩, prog_5_method_7_code, 4, (some .int)), (4,94), ([.inr (.inl [50]),.inr (.inl [5])],[]), [(4,0),(5,13)], [(some (.inl ((0,2147483647,1),none)),[],[])])
def ddX3_bucketBits : List (Nat × Instr × Nat) := [(0,.iconst 0,1),(1,.istore_n 2,1),(2,.iconst 0,1),(3,.istore_n 3,1),(4,.iload_n 3,1),(5,.aload_n 0,1),(6,.getfield 15,3),(9,.if_icmp .ge 24,3),(12,.iload_n 2,1),(13,.iconst 1,1),(14,.aload_n 1,1),(15,.aload_n 0,1),(16,.getfield 9,3),(19,.iload_n 3,1),(20,.iaload,1),(21,.invokevirtual 50,3),(24,.ishl,1),(25,.ior,1),(26,.istore_n 2,1),(27,.iinc 3 1,3),(30,.goto (-26),3),(33,.iload_n 2,1),(34,.ireturn,1)]
set_option maxRecDepth 100000 in
theorem dkX3_bucketBits : rf_decs prog_5_method_7_code ddX3_bucketBits := rf_decs_of (by decide +kernel)
def q261_P : rfP := (flX3,csX3,lcX3,spX3,[q260_M],[],[(50,0,1)],([],[]))
def q261_U : rfU := []
set_option maxHeartbeats 8000000 in
def q261_N : List rfB := [(0,([(0,.inr (.inl [50])),(1,.inr (.inl [5]))],[],[]),(419,[0]),0),
  (4,([(0,.inr (.inl [50])),(1,.inr (.inl [5])),(2,.inl ((0,2147483647,1),none)),(3,.inl ((0,22,1),none))],[],[]),(413,[(-18)]),0)]
set_option maxRecDepth 100000 in
theorem q261_ok : rf_chkB q261_P q261_U wLay q261_M ddX3_bucketBits [(21,[0])] [.inl 3] [0,4] 600 q261_N = true := by decide +kernel
set_option maxHeartbeats 4000000 in
theorem q261_met {G : rfG} (h : okG G) (hh : wHandOK G) : rf_met G q261_M := rf_methodB h.1 (P := q261_P) (U := q261_U) (N := q261_N) ⟨wflT h flokX3, wcsT h csokX3, wlcT h lcokX3, spokX3 h, List.forall_mem_cons.mpr ⟨q260_met h hh, fun _ h => absurd h List.not_mem_nil⟩, fun _ h => absurd h List.not_mem_nil, List.forall_mem_cons.mpr ⟨fun M hM => Option.some.inj (show some q260_M = some M from hM) ▸ wlkV (lkX3_50 h) q260_M rfl rfl, fun _ h => absurd h List.not_mem_nil⟩, fun _ h => absurd h List.not_mem_nil, fun _ h => absurd h List.not_mem_nil⟩ dkX3_bucketBits (by decide +kernel) (by rw [h.2.2.1]; exact q261_ok)
