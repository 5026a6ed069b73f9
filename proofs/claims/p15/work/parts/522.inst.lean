/-- NearSpellModel.store -/
def q1113_M : rfM := ((⟨"NearSpellModel", "store", "()I"⟩, prog_14_method_100_code, 1, (some .int)), (5,117), ([.inr (.inl [114])],[((114,28),(0,0,0),none),((998,0),(1,1,0),none)]), [(91,0),(92,0),(93,0),(114,40)], [(some (.inl (((-2147483648),2147483647,1),none)),[],[])])
def ddX12_store : List (Nat × Instr × Nat) := [(0,.aload_n 0,1),(1,.aload_n 0,1),(2,.invokevirtual 372,3),(5,.invokevirtual 375,3),(8,.ireturn,1)]
set_option maxRecDepth 100000 in
theorem dkX12_store : rf_decs prog_14_method_100_code ddX12_store := rf_decs_of (by decide +kernel)
def q1113_P : rfP := (flX12,csX12,lcX12,spX12,[q790_M,q850_M],[],[(372,0,12),(375,1,12)],([],[]))
def q1113_U : rfU := []
set_option maxHeartbeats 8000000 in
def q1113_N : List rfB := [(0,([(0,.inr (.inl [114]))],[],[((114,28),(0,0,0),some ((114,28),0,0)),((998,0),(1,1,0),some ((998,0),0,0))]),(4,[]),0)]
set_option maxRecDepth 100000 in
theorem q1113_ok : rf_chkB q1113_P q1113_U wLay q1113_M ddX12_store [(2,[0]),(5,[1])] [] [0] 600 q1113_N = true := by decide +kernel
set_option maxHeartbeats 4000000 in
theorem q1113_met {G : rfG} (h : okG G) : rf_met G q1113_M := rf_methodB h.1 (P := q1113_P) (U := q1113_U) (N := q1113_N) ⟨wflT h flokX12, wcsT h csokX12, wlcT h lcokX12, spokX12 h, List.forall_mem_cons.mpr ⟨q790_met h, List.forall_mem_cons.mpr ⟨q850_met h, fun _ h => absurd h List.not_mem_nil⟩⟩, fun _ h => absurd h List.not_mem_nil, List.forall_mem_cons.mpr ⟨fun M hM => Option.some.inj (show some q790_M = some M from hM) ▸ wlkV (lkX12_372 h) q790_M rfl rfl, List.forall_mem_cons.mpr ⟨fun M hM => Option.some.inj (show some q850_M = some M from hM) ▸ wlkV (lkX12_375 h) q850_M rfl rfl, fun _ h => absurd h List.not_mem_nil⟩⟩, fun _ h => absurd h List.not_mem_nil, fun _ h => absurd h List.not_mem_nil⟩ dkX12_store (by decide +kernel) (by rw [h.2.2.1]; exact q1113_ok)
/-- NearSpellModel.store -/
def q1114_M : rfM := ((⟨"NearSpellModel", "store", "()I"⟩, prog_14_method_100_code, 1, (some .int)), (5,117), ([.inr (.inl [114])],[((77,1),(1,31,1),none),((114,28),(1,1,0),none),((998,0),(1,1,0),none)]), [(91,0),(92,0),(93,0),(114,40)], [(some (.inl (((-2147483648),2147483647,1),none)),[],[])])
def q1114_P : rfP := (flX12,csX12,lcX12,spX12,[q806_M,q873_M],[],[(372,0,12),(375,1,12)],([],[]))
def q1114_U : rfU := []
set_option maxHeartbeats 8000000 in
def q1114_N : List rfB := [(0,([(0,.inr (.inl [114]))],[],[((77,1),(1,31,1),some ((77,1),0,0)),((114,28),(1,1,0),some ((114,28),0,0)),((998,0),(1,1,0),some ((998,0),0,0))]),(4,[]),0)]
set_option maxRecDepth 100000 in
theorem q1114_ok : rf_chkB q1114_P q1114_U wLay q1114_M ddX12_store [(2,[0]),(5,[1])] [] [0] 600 q1114_N = true := by decide +kernel
set_option maxHeartbeats 4000000 in
theorem q1114_met {G : rfG} (h : okG G) : rf_met G q1114_M := rf_methodB h.1 (P := q1114_P) (U := q1114_U) (N := q1114_N) ⟨wflT h flokX12, wcsT h csokX12, wlcT h lcokX12, spokX12 h, List.forall_mem_cons.mpr ⟨q806_met h, List.forall_mem_cons.mpr ⟨q873_met h, fun _ h => absurd h List.not_mem_nil⟩⟩, fun _ h => absurd h List.not_mem_nil, List.forall_mem_cons.mpr ⟨fun M hM => Option.some.inj (show some q806_M = some M from hM) ▸ wlkV (lkX12_372 h) q806_M rfl rfl, List.forall_mem_cons.mpr ⟨fun M hM => Option.some.inj (show some q873_M = some M from hM) ▸ wlkV (lkX12_375 h) q873_M rfl rfl, fun _ h => absurd h List.not_mem_nil⟩⟩, fun _ h => absurd h List.not_mem_nil, fun _ h => absurd h List.not_mem_nil⟩ dkX12_store (by decide +kernel) (by rw [h.2.2.1]; exact q1114_ok)
/-- NearSpellModel.isElsewhere -/
def q1115_M : rfM := ((⟨"NearSpellModel", "isElsewhere", "(III)Z"⟩, prog_14_method_102_code, 5, (some .boolean)), (0,0), ([.inr (.inl [114]),.inl (((-2147483648),2147483647,1),none),.inl ((0,0,0),none),.inl ((0,0,0),none)],[]), [], [(some (.inl ((0,0,0),none)),[],[])])
def ddX12_isElsewhere : List (Nat × Instr × Nat) := [(0,.iload_n 2,1),(1,.istore 4,2),(3,.iload 4,2),(5,.iload_n 3,1),(6,.if_icmp .ge 21,3),(9,.aload_n 0,1),(10,.iload 4,2),(12,.iload_n 1,1),(13,.invokevirtual 381,3),(16,.ifCond .eq 5,3),(19,.iconst 1,1),(20,.ireturn,1),(21,.iinc 4 1,3),(24,.goto (-21),3),(27,.iconst 0,1),(28,.ireturn,1)]
set_option maxRecDepth 100000 in
theorem dkX12_isElsewhere : rf_decs prog_14_method_102_code ddX12_isElsewhere := rf_decs_of (by decide +kernel)
def q1115_P : rfP := (flX12,csX12,lcX12,spX12,[],[],[],([],[]))
def q1115_U : rfU := []
set_option maxHeartbeats 8000000 in
def q1115_N : List rfB := [(0,([(0,.inr (.inl [114])),(1,.inl (((-2147483648),2147483647,1),none)),(2,.inl ((0,0,0),none)),(3,.inl ((0,0,0),none))],[],[]),(6,[]),0)]
set_option maxRecDepth 100000 in
theorem q1115_ok : rf_chkB q1115_P q1115_U wLay q1115_M ddX12_isElsewhere [] [] [0] 600 q1115_N = true := by decide +kernel
set_option maxHeartbeats 4000000 in
theorem q1115_met {G : rfG} (h : okG G) : rf_met G q1115_M := rf_methodB h.1 (P := q1115_P) (U := q1115_U) (N := q1115_N) ⟨wflT h flokX12, wcsT h csokX12, wlcT h lcokX12, spokX12 h, fun _ h => absurd h List.not_mem_nil, fun _ h => absurd h List.not_mem_nil, fun _ h => absurd h List.not_mem_nil, fun _ h => absurd h List.not_mem_nil, fun _ h => absurd h List.not_mem_nil⟩ dkX12_isElsewhere (by decide +kernel) (by rw [h.2.2.1]; exact q1115_ok)
/-- NearSpellModel.isElsewhere -/
def q1116_M : rfM := ((⟨"NearSpellModel", "isElsewhere", "(III)Z"⟩, prog_14_method_102_code, 5, (some .boolean)), (1,23), ([.inr (.inl [114]),.inl (((-2147483648),2147483647,1),none),.inl ((0,0,0),none),.inl ((0,1,1),none)],[]), [], [(some (.inl ((1,1,0),none)),[(3,1,1)],[((93,0),(1,64,1),none)]),(some (.inl ((0,0,0),none)),[],[])])
def q1116_P : rfP := (flX12,csX12,lcX12,spX12,[q855_M],[],[(381,0,12)],([],[]))
def q1116_U : rfU := []
set_option maxHeartbeats 8000000 in
def q1116_N : List rfB := [(0,([(0,.inr (.inl [114])),(1,.inl (((-2147483648),2147483647,1),none)),(2,.inl ((0,0,0),none)),(3,.inl ((0,1,1),none))],[],[]),(28,[0]),0),
  (3,([(0,.inr (.inl [114])),(1,.inl (((-2147483648),2147483647,1),none)),(2,.inl ((0,0,0),none)),(3,.inl ((0,1,1),none)),(4,.inl ((0,1,1),none))],[],[]),(24,[(-11)]),0)]
set_option maxRecDepth 100000 in
theorem q1116_ok : rf_chkB q1116_P q1116_U wLay q1116_M ddX12_isElsewhere [(13,[0])] [.inl 4] [0,3] 600 q1116_N = true := by decide +kernel
set_option maxHeartbeats 4000000 in
theorem q1116_met {G : rfG} (h : okG G) : rf_met G q1116_M := rf_methodB h.1 (P := q1116_P) (U := q1116_U) (N := q1116_N) ⟨wflT h flokX12, wcsT h csokX12, wlcT h lcokX12, spokX12 h, List.forall_mem_cons.mpr ⟨q855_met h, fun _ h => absurd h List.not_mem_nil⟩, fun _ h => absurd h List.not_mem_nil, List.forall_mem_cons.mpr ⟨fun M hM => Option.some.inj (show some q855_M = some M from hM) ▸ wlkV (lkX12_381 h) q855_M rfl rfl, fun _ h => absurd h List.not_mem_nil⟩, fun _ h => absurd h List.not_mem_nil, fun _ h => absurd h List.not_mem_nil⟩ dkX12_isElsewhere (by decide +kernel) (by rw [h.2.2.1]; exact q1116_ok)
/-- NearSpellModel.isElsewhere -/
def q1117_M : rfM := ((⟨"NearSpellModel", "isElsewhere", "(III)Z"⟩, prog_14_method_102_code, 5, (some .boolean)), (1,23), ([.inr (.inl [114]),.inl (((-2147483648),2147483647,1),none),.inl ((0,0,0),none),.inl ((0,2,1),none)],[]), [], [(some (.inl ((1,1,0),none)),[(3,1,2)],[]),(some (.inl ((0,0,0),none)),[],[])])
def q1117_P : rfP := (flX12,csX12,lcX12,spX12,[q856_M],[],[(381,0,12)],([],[]))
def q1117_U : rfU := []
set_option maxHeartbeats 8000000 in
def q1117_N : List rfB := [(0,([(0,.inr (.inl [114])),(1,.inl (((-2147483648),2147483647,1),none)),(2,.inl ((0,0,0),none)),(3,.inl ((0,2,1),none))],[],[]),(39,[0]),0),
  (3,([(0,.inr (.inl [114])),(1,.inl (((-2147483648),2147483647,1),none)),(2,.inl ((0,0,0),none)),(3,.inl ((0,2,1),none)),(4,.inl ((0,2,1),none))],[],[]),(35,[(-11)]),0)]
set_option maxRecDepth 100000 in
theorem q1117_ok : rf_chkB q1117_P q1117_U wLay q1117_M ddX12_isElsewhere [(13,[0])] [.inl 4] [0,3] 600 q1117_N = true := by decide +kernel
set_option maxHeartbeats 4000000 in
theorem q1117_met {G : rfG} (h : okG G) : rf_met G q1117_M := rf_methodB h.1 (P := q1117_P) (U := q1117_U) (N := q1117_N) ⟨wflT h flokX12, wcsT h csokX12, wlcT h lcokX12, spokX12 h, List.forall_mem_cons.mpr ⟨q856_met h, fun _ h => absurd h List.not_mem_nil⟩, fun _ h => absurd h List.not_mem_nil, List.forall_mem_cons.mpr ⟨fun M hM => Option.some.inj (show some q856_M = some M from hM) ▸ wlkV (lkX12_381 h) q856_M rfl rfl, fun _ h => absurd h List.not_mem_nil⟩, fun _ h => absurd h List.not_mem_nil, fun _ h => absurd h List.not_mem_nil⟩ dkX12_isElsewhere (by decide +kernel) (by rw [h.2.2.1]; exact q1117_ok)
/-- NearSpellModel.hasForm -/
def q1118_M : rfM := ((⟨"NearSpellModel", "hasForm", "(II)Z"⟩, prog_14_method_53_code, 4, (some .boolean)), (0,0), ([.inr (.inl [114]),.inl ((0,3,1),none),.inl (((-2147483648),2147483647,1),none)],[]), [], [(some (.inl ((1,1,0),none)),[],[]),(some (.inl ((0,0,0),none)),[],[])])
def q1118_P : rfP := (flX12,csX12,lcX12,spX12,[],[],[],([],[]))
def q1118_U : rfU := []
set_option maxHeartbeats 8000000 in
def q1118_N : List rfB := [(0,([(0,.inr (.inl [114])),(1,.inl ((0,3,1),none)),(2,.inl (((-2147483648),2147483647,1),none))],[],[]),(1240,[0]),0),
  (2,([(0,.inr (.inl [114])),(1,.inl ((0,3,1),none)),(2,.inl (((-2147483648),2147483647,1),none)),(3,.inl ((0,64,1),none))],[],[]),(1236,[(-19)]),0)]
set_option maxRecDepth 100000 in
theorem q1118_ok : rf_chkB q1118_P q1118_U wLay q1118_M ddX12_hasForm [] [.inl 3] [0,2] 600 q1118_N = true := by decide +kernel
set_option maxHeartbeats 4000000 in
theorem q1118_met {G : rfG} (h : okG G) : rf_met G q1118_M := rf_methodB h.1 (P := q1118_P) (U := q1118_U) (N := q1118_N) ⟨wflT h flokX12, wcsT h csokX12, wlcT h lcokX12, spokX12 h, fun _ h => absurd h List.not_mem_nil, fun _ h => absurd h List.not_mem_nil, fun _ h => absurd h List.not_mem_nil, fun _ h => absurd h List.not_mem_nil, fun _ h => absurd h List.not_mem_nil⟩ dkX12_hasForm (by decide +kernel) (by rw [h.2.2.1]; exact q1118_ok)
/-- NearSpellModel.isElsewhere -/
def q1119_M : rfM := ((⟨"NearSpellModel", "isElsewhere", "(III)Z"⟩, prog_14_method_102_code, 5, (some .boolean)), (1,23), ([.inr (.inl [114]),.inl (((-2147483648),2147483647,1),none),.inl ((0,0,0),none),.inl ((0,12,1),none)],[]), [], [(some (.inl ((1,1,0),none)),[(3,1,12)],[]),(some (.inl ((0,0,0),none)),[],[])])
def q1119_P : rfP := (flX12,csX12,lcX12,spX12,[q858_M],[],[(381,0,12)],([],[]))
def q1119_U : rfU := []
set_option maxHeartbeats 8000000 in
def q1119_N : List rfB := [(0,([(0,.inr (.inl [114])),(1,.inl (((-2147483648),2147483647,1),none)),(2,.inl ((0,0,0),none)),(3,.inl ((0,12,1),none))],[],[]),(149,[0]),0),
  (3,([(0,.inr (.inl [114])),(1,.inl (((-2147483648),2147483647,1),none)),(2,.inl ((0,0,0),none)),(3,.inl ((0,12,1),none)),(4,.inl ((0,12,1),none))],[],[]),(145,[(-11)]),0)]
set_option maxRecDepth 100000 in
theorem q1119_ok : rf_chkB q1119_P q1119_U wLay q1119_M ddX12_isElsewhere [(13,[0])] [.inl 4] [0,3] 600 q1119_N = true := by decide +kernel
set_option maxHeartbeats 4000000 in
theorem q1119_met {G : rfG} (h : okG G) : rf_met G q1119_M := rf_methodB h.1 (P := q1119_P) (U := q1119_U) (N := q1119_N) ⟨wflT h flokX12, wcsT h csokX12, wlcT h lcokX12, spokX12 h, List.forall_mem_cons.mpr ⟨q858_met h, fun _ h => absurd h List.not_mem_nil⟩, fun _ h => absurd h List.not_mem_nil, List.forall_mem_cons.mpr ⟨fun M hM => Option.some.inj (show some q858_M = some M from hM) ▸ wlkV (lkX12_381 h) q858_M rfl rfl, fun _ h => absurd h List.not_mem_nil⟩, fun _ h => absurd h List.not_mem_nil, fun _ h => absurd h List.not_mem_nil⟩ dkX12_isElsewhere (by decide +kernel) (by rw [h.2.2.1]; exact q1119_ok)
/-- NearSpellModel.isElsewhere -/
def q1120_M : rfM := ((⟨"NearSpellModel", "isElsewhere", "(III)Z"⟩, prog_14_method_102_code, 5, (some .boolean)), (1,23), ([.inr (.inl [114]),.inl (((-2147483648),2147483647,1),none),.inl ((0,0,0),none),.inl ((0,13,1),none)],[]), [], [(some (.inl ((1,1,0),none)),[(3,1,13)],[]),(some (.inl ((0,0,0),none)),[],[])])
def q1120_P : rfP := (flX12,csX12,lcX12,spX12,[q858_M],[],[(381,0,12)],([],[]))
def q1120_U : rfU := []
set_option maxHeartbeats 8000000 in
def q1120_N : List rfB := [(0,([(0,.inr (.inl [114])),(1,.inl (((-2147483648),2147483647,1),none)),(2,.inl ((0,0,0),none)),(3,.inl ((0,13,1),none))],[],[]),(160,[0]),0),
  (3,([(0,.inr (.inl [114])),(1,.inl (((-2147483648),2147483647,1),none)),(2,.inl ((0,0,0),none)),(3,.inl ((0,13,1),none)),(4,.inl ((0,13,1),none))],[],[]),(156,[(-11)]),0)]
set_option maxRecDepth 100000 in
theorem q1120_ok : rf_chkB q1120_P q1120_U wLay q1120_M ddX12_isElsewhere [(13,[0])] [.inl 4] [0,3] 600 q1120_N = true := by decide +kernel
set_option maxHeartbeats 4000000 in
theorem q1120_met {G : rfG} (h : okG G) : rf_met G q1120_M := rf_methodB h.1 (P := q1120_P) (U := q1120_U) (N := q1120_N) ⟨wflT h flokX12, wcsT h csokX12, wlcT h lcokX12, spokX12 h, List.forall_mem_cons.mpr ⟨q858_met h, fun _ h => absurd h List.not_mem_nil⟩, fun _ h => absurd h List.not_mem_nil, List.forall_mem_cons.mpr ⟨fun M hM => Option.some.inj (show some q858_M = some M from hM) ▸ wlkV (lkX12_381 h) q858_M rfl rfl, fun _ h => absurd h List.not_mem_nil⟩, fun _ h => absurd h List.not_mem_nil, fun _ h => absurd h List.not_mem_nil⟩ dkX12_isElsewhere (by decide +kernel) (by rw [h.2.2.1]; exact q1120_ok)
/-- NearSpellModel.clashes -/
def q1121_M : rfM := ((⟨"NearSpellModel", "clashes", "()I"⟩, prog_14_method_103_code, 7, (some .int)), (22,2045), ([.inr (.inl [114])],[((114,28),(0,0,0),none),((998,0),(1,1,0),none)]), [(89,0),(91,0),(92,0),(93,0),(104,0),(114,35),(114,40)], [(some (.inl (((-2147483648),2147483647,1),none)),[],[])])
def ddX12_clashes : List (Nat × Instr × Nat) := [(0,.aload_n 0,1),(1,.aload_n 0,1),(2,.invokevirtual 372,3),(5,.invokevirtual 375,3),(8,.istore_n 1,1),(9,.iconst 0,1),(10,.istore_n 2,1),(11,.iload_n 2,1),(12,.bipush 31,2),(14,.if_icmp .ge 16,3),(17,.aload_n 0,1),(18,.getfield 114,3),(21,.iload_n 2,1),(22,.iconst 0,1),(23,.iastore,1),(24,.iinc 2 1,3),(27,.goto (-16),3),(30,.iconst 0,1),(31,.istore_n 2,1),(32,.iconst 0,1),(33,.istore_n 3,1),(34,.iload_n 3,1),(35,.bipush 14,2),(37,.if_icmp .ge 90,3),(40,.iload_n 1,1),(41,.ifCond .le 86,3),(44,.iconst 0,1),(45,.istore 4,2),(47,.iload 4,2),(49,.aload_n 0,1),(50,.getfield 81,3),(53,.iload_n 3,1),(54,.iaload,1),(55,.if_icmp .ge 66,3),(58,.aload_n 0,1),(59,.getfield 78,3),(62,.bipush 64,2),(64,.iload_n 3,1),(65,.imul,1),(66,.iload 4,2),(68,.iadd,1),(69,.iaload,1),(70,.istore 5,2),(72,.aload_n 0,1),(73,.iload 5,2),(75,.iconst 0,1),(76,.iload_n 3,1),(77,.invokevirtual 465,3),(80,.ifCond .eq 6,3),(83,.goto 32,3),(86,.aload_n 0,1),(87,.iload 5,2),(89,.invokevirtual 369,3),(92,.istore 6,2),(94,.iload_n 2,1),(95,.aload_n 0,1),(96,.getfield 114,3),(99,.iload 6,2),(101,.iaload,1),(102,.iadd,1),(103,.istore_n 2,1),(104,.aload_n 0,1),(105,.getfield 114,3),(108,.iload 6,2),(110,.dup2,1),(111,.iaload,1),(112,.iconst 1,1),(113,.iadd,1),(114,.iastore,1),(115,.iinc 4 1,3),(118,.goto (-71),3),(121,.iinc 3 1,3),(124,.goto (-90),3),(127,.iload_n 2,1),(128,.ireturn,1)]
set_option maxRecDepth 100000 in
theorem dkX12_clashes : rf_decs prog_14_method_103_code ddX12_clashes := rf_decs_of (by decide +kernel)
def q1121_P : rfP := (flX12,csX12,lcX12,spX12,[q790_M,q850_M,q1120_M,q854_M],[],[(369,3,12),(372,0,12),(375,1,12),(465,2,12)],([],[]))
def q1121_U : rfU := []
set_option maxHeartbeats 8000000 in
def q1121_N : List rfB := [(0,([(0,.inr (.inl [114]))],[],[((114,28),(0,0,0),some ((114,28),0,0)),((998,0),(1,1,0),some ((998,0),0,0))]),(44389,[0,0,0]),0),
  (11,([(0,.inr (.inl [114])),(1,.inl (((-2147483648),2147483647,1),none)),(2,.inl ((0,31,1),none))],[],[((114,28),(0,0,0),some ((114,28),0,0)),((998,0),(1,1,0),some ((998,0),0,0))]),(44380,[(-11),0,0]),0),
  (34,([(0,.inr (.inl [114])),(1,.inl (((-2147483648),2147483647,1),none)),(2,.inl (((-2147483648),2147483647,1),none)),(3,.inl ((0,14,1),none))],[],[((114,28),(0,0,0),some ((114,28),0,0)),((998,0),(1,1,0),some ((998,0),0,0))]),(44024,[0,(-2935),0]),0),
  (47,([(0,.inr (.inl [114])),(1,.inl ((1,2147483647,1),none)),(2,.inl (((-2147483648),2147483647,1),none)),(3,.inl ((0,13,1),none)),(4,.inl ((0,64,1),none))],[],[((114,28),(0,0,0),some ((114,28),0,0)),((998,0),(1,1,0),some ((998,0),0,0))]),(44015,[0,(-2935),(-45)]),0),
  (127,([(0,.inr (.inl [114])),(1,.inl (((-2147483648),2147483647,1),none)),(2,.inl (((-2147483648),2147483647,1),none)),(3,.inl ((0,14,1),none))],[],[((114,28),(0,0,0),some ((114,28),0,0)),((998,0),(1,1,0),some ((998,0),0,0))]),(1,[0,0,0]),0),
  (115,([(0,.inr (.inl [114])),(1,.inl ((1,2147483647,1),none)),(2,.inl (((-2147483648),2147483647,1),none)),(3,.inl ((0,13,1),none)),(4,.inl ((0,63,1),none)),(5,.inl (((-2147483648),2147483647,1),none))],[],[((114,28),(0,0,0),some ((114,28),0,0)),((998,0),(1,1,0),some ((998,0),0,0))]),(43973,[0,(-2935),(-45)]),0)]
set_option maxRecDepth 100000 in
theorem q1121_ok : rf_chkB q1121_P q1121_U wLay q1121_M ddX12_clashes [(2,[0]),(5,[1]),(77,[2]),(89,[3])] [.inl 2,.inl 3,.inl 4] [0,11,34,47,115,127] 600 q1121_N = true := by decide +kernel
set_option maxHeartbeats 4000000 in
theorem q1121_met {G : rfG} (h : okG G) (hh : w1OK G) : rf_met G q1121_M := rf_methodB h.1 (P := q1121_P) (U := q1121_U) (N := q1121_N) ⟨wflT h flokX12, wcsT h csokX12, wlcT h lcokX12, spokX12 h, List.forall_mem_cons.mpr ⟨q790_met h, List.forall_mem_cons.mpr ⟨q850_met h, List.forall_mem_cons.mpr ⟨q1120_met h, List.forall_mem_cons.mpr ⟨q854_met h hh, fun _ h => absurd h List.not_mem_nil⟩⟩⟩⟩, fun _ h => absurd h List.not_mem_nil, List.forall_mem_cons.mpr ⟨fun M hM => Option.some.inj (show some q854_M = some M from hM) ▸ wlkV (lkX12_369 h) q854_M rfl rfl, List.forall_mem_cons.mpr ⟨fun M hM => Option.some.inj (show some q790_M = some M from hM) ▸ wlkV (lkX12_372 h) q790_M rfl rfl, List.forall_mem_cons.mpr ⟨fun M hM => Option.some.inj (show some q850_M = some M from hM) ▸ wlkV (lkX12_375 h) q850_M rfl rfl, List.forall_mem_cons.mpr ⟨fun M hM => Option.some.inj (show some q1120_M = some M from hM) ▸ wlkV (lkX12_465 h) q1120_M rfl rfl, fun _ h => absurd h List.not_mem_nil⟩⟩⟩⟩, fun _ h => absurd h List.not_mem_nil, fun _ h => absurd h List.not_mem_nil⟩ dkX12_clashes (by decide +kernel) (by rw [h.2.2.1]; exact q1121_ok)
/-- NearSpellModel.clashes -/
def q1122_M : rfM := ((⟨"NearSpellModel", "clashes", "()I"⟩, prog_14_method_103_code, 7, (some .int)), (22,2045), ([.inr (.inl [114])],[((77,1),(1,31,1),none),((114,28),(1,1,0),none),((998,0),(1,1,0),none)]), [(89,0),(91,0),(92,0),(93,0),(104,0),(114,35),(114,40)], [(some (.inl (((-2147483648),2147483647,1),none)),[],[])])
def q1122_P : rfP := (flX12,csX12,lcX12,spX12,[q806_M,q873_M,q1120_M,q874_M],[],[(369,3,12),(372,0,12),(375,1,12),(465,2,12)],([],[]))
def q1122_U : rfU := []
set_option maxHeartbeats 8000000 in
def q1122_N : List rfB := [(0,([(0,.inr (.inl [114]))],[],[((77,1),(1,31,1),some ((77,1),0,0)),((114,28),(1,1,0),some ((114,28),0,0)),((998,0),(1,1,0),some ((998,0),0,0))]),(44389,[0,0,0]),0),
  (11,([(0,.inr (.inl [114])),(1,.inl (((-2147483648),2147483647,1),none)),(2,.inl ((0,31,1),none))],[],[((77,1),(1,31,1),some ((77,1),0,0)),((114,28),(1,1,0),some ((114,28),0,0)),((998,0),(1,1,0),some ((998,0),0,0))]),(44380,[(-11),0,0]),0),
  (34,([(0,.inr (.inl [114])),(1,.inl (((-2147483648),2147483647,1),none)),(2,.inl (((-2147483648),2147483647,1),none)),(3,.inl ((0,14,1),none))],[],[((77,1),(1,31,1),some ((77,1),0,0)),((114,28),(1,1,0),some ((114,28),0,0)),((998,0),(1,1,0),some ((998,0),0,0))]),(44024,[0,(-2935),0]),0),
  (47,([(0,.inr (.inl [114])),(1,.inl ((1,2147483647,1),none)),(2,.inl (((-2147483648),2147483647,1),none)),(3,.inl ((0,13,1),none)),(4,.inl ((0,64,1),none))],[],[((77,1),(1,31,1),some ((77,1),0,0)),((114,28),(1,1,0),some ((114,28),0,0)),((998,0),(1,1,0),some ((998,0),0,0))]),(44015,[0,(-2935),(-45)]),0),
  (127,([(0,.inr (.inl [114])),(1,.inl (((-2147483648),2147483647,1),none)),(2,.inl (((-2147483648),2147483647,1),none)),(3,.inl ((0,14,1),none))],[],[((77,1),(1,31,1),some ((77,1),0,0)),((114,28),(1,1,0),some ((114,28),0,0)),((998,0),(1,1,0),some ((998,0),0,0))]),(1,[0,0,0]),0),
  (115,([(0,.inr (.inl [114])),(1,.inl ((1,2147483647,1),none)),(2,.inl (((-2147483648),2147483647,1),none)),(3,.inl ((0,13,1),none)),(4,.inl ((0,63,1),none)),(5,.inl (((-2147483648),2147483647,1),none))],[],[((77,1),(1,31,1),some ((77,1),0,0)),((114,28),(1,1,0),some ((114,28),0,0)),((998,0),(1,1,0),some ((998,0),0,0))]),(43973,[0,(-2935),(-45)]),0)]
set_option maxRecDepth 100000 in
theorem q1122_ok : rf_chkB q1122_P q1122_U wLay q1122_M ddX12_clashes [(2,[0]),(5,[1]),(77,[2]),(89,[3])] [.inl 2,.inl 3,.inl 4] [0,11,34,47,115,127] 600 q1122_N = true := by decide +kernel
set_option maxHeartbeats 4000000 in
theorem q1122_met {G : rfG} (h : okG G) (hh : w1OK G) : rf_met G q1122_M := rf_methodB h.1 (P := q1122_P) (U := q1122_U) (N := q1122_N) ⟨wflT h flokX12, wcsT h csokX12, wlcT h lcokX12, spokX12 h, List.forall_mem_cons.mpr ⟨q806_met h, List.forall_mem_cons.mpr ⟨q873_met h, List.forall_mem_cons.mpr ⟨q1120_met h, List.forall_mem_cons.mpr ⟨q874_met h hh, fun _ h => absurd h List.not_mem_nil⟩⟩⟩⟩, fun _ h => absurd h List.not_mem_nil, List.forall_mem_cons.mpr ⟨fun M hM => Option.some.inj (show some q874_M = some M from hM) ▸ wlkV (lkX12_369 h) q874_M rfl rfl, List.forall_mem_cons.mpr ⟨fun M hM => Option.some.inj (show some q806_M = some M from hM) ▸ wlkV (lkX12_372 h) q806_M rfl rfl, List.forall_mem_cons.mpr ⟨fun M hM => Option.some.inj (show some q873_M = some M from hM) ▸ wlkV (lkX12_375 h) q873_M rfl rfl, List.forall_mem_cons.mpr ⟨fun M hM => Option.some.inj (show some q1120_M = some M from hM) ▸ wlkV (lkX12_465 h) q1120_M rfl rfl, fun _ h => absurd h List.not_mem_nil⟩⟩⟩⟩, fun _ h => absurd h List.not_mem_nil, fun _ h => absurd h List.not_mem_nil⟩ dkX12_clashes (by decide +kernel) (by rw [h.2.2.1]; exact q1122_ok)
/-- NearSpellModel.hasForm -/
def q1123_M : rfM := ((⟨"NearSpellModel", "hasForm", "(II)Z"⟩, prog_14_method_53_code, 4, (some .boolean)), (0,0), ([.inr (.inl [114]),.inl ((1,1,0),none),.inl (((-2147483648),2147483647,1),none)],[]), [], [(some (.inl ((1,1,0),none)),[],[((93,1),(1,64,1),none)]),(some (.inl ((0,0,0),none)),[],[])])
def q1123_P : rfP := (flX12,csX12,lcX12,spX12,[],[],[],([],[]))
def q1123_U : rfU := []
set_option maxHeartbeats 8000000 in
def q1123_N : List rfB := [(0,([(0,.inr (.inl [114])),(1,.inl ((1,1,0),none)),(2,.inl (((-2147483648),2147483647,1),none))],[],[]),(1240,[0]),0),
  (2,([(0,.inr (.inl [114])),(1,.inl ((1,1,0),none)),(2,.inl (((-2147483648),2147483647,1),none)),(3,.inl ((0,64,1),none))],[],[]),(1236,[(-19)]),0)]
set_option maxRecDepth 100000 in
theorem q1123_ok : rf_chkB q1123_P q1123_U wLay q1123_M ddX12_hasForm [] [.inl 3] [0,2] 600 q1123_N = true := by decide +kernel
set_option maxHeartbeats 4000000 in
theorem q1123_met {G : rfG} (h : okG G) : rf_met G q1123_M := rf_methodB h.1 (P := q1123_P) (U := q1123_U) (N := q1123_N) ⟨wflT h flokX12, wcsT h csokX12, wlcT h lcokX12, spokX12 h, fun _ h => absurd h List.not_mem_nil, fun _ h => absurd h List.not_mem_nil, fun _ h => absurd h List.not_mem_nil, fun _ h => absurd h List.not_mem_nil, fun _ h => absurd h List.not_mem_nil⟩ dkX12_hasForm (by decide +kernel) (by rw [h.2.2.1]; exact q1123_ok)
/-- NearSpellModel.hasForm -/
def q1124_M : rfM := ((⟨"NearSpellModel", "hasForm", "(II)Z"⟩, prog_14_method_53_code, 4, (some .boolean)), (0,0), ([.inr (.inl [114]),.inl ((1,2,1),none),.inl (((-2147483648),2147483647,1),none)],[]), [], [(some (.inl ((1,1,0),none)),[],[]),(some (.inl ((0,0,0),none)),[],[])])
def q1124_P : rfP := (flX12,csX12,lcX12,spX12,[],[],[],([],[]))
def q1124_U : rfU := []
set_option maxHeartbeats 8000000 in
def q1124_N : List rfB := [(0,([(0,.inr (.inl [114])),(1,.inl ((1,2,1),none)),(2,.inl (((-2147483648),2147483647,1),none))],[],[]),(1240,[0]),0),
  (2,([(0,.inr (.inl [114])),(1,.inl ((1,2,1),none)),(2,.inl (((-2147483648),2147483647,1),none)),(3,.inl ((0,64,1),none))],[],[]),(1236,[(-19)]),0)]
set_option maxRecDepth 100000 in
theorem q1124_ok : rf_chkB q1124_P q1124_U wLay q1124_M ddX12_hasForm [] [.inl 3] [0,2] 600 q1124_N = true := by decide +kernel
set_option maxHeartbeats 4000000 in
theorem q1124_met {G : rfG} (h : okG G) : rf_met G q1124_M := rf_methodB h.1 (P := q1124_P) (U := q1124_U) (N := q1124_N) ⟨wflT h flokX12, wcsT h csokX12, wlcT h lcokX12, spokX12 h, fun _ h => absurd h List.not_mem_nil, fun _ h => absurd h List.not_mem_nil, fun _ h => absurd h List.not_mem_nil, fun _ h => absurd h List.not_mem_nil, fun _ h => absurd h List.not_mem_nil⟩ dkX12_hasForm (by decide +kernel) (by rw [h.2.2.1]; exact q1124_ok)
/-- NearSpellModel.hasForm -/
def q1125_M : rfM := ((⟨"NearSpellModel", "hasForm", "(II)Z"⟩, prog_14_method_53_code, 4, (some .boolean)), (0,0), ([.inr (.inl [114]),.inl ((1,3,1),none),.inl (((-2147483648),2147483647,1),none)],[]), [], [(some (.inl ((1,1,0),none)),[],[]),(some (.inl ((0,0,0),none)),[],[])])
def q1125_P : rfP := (flX12,csX12,lcX12,spX12,[],[],[],([],[]))
def q1125_U : rfU := []
set_option maxHeartbeats 8000000 in
def q1125_N : List rfB := [(0,([(0,.inr (.inl [114])),(1,.inl ((1,3,1),none)),(2,.inl (((-2147483648),2147483647,1),none))],[],[]),(1240,[0]),0),
  (2,([(0,.inr (.inl [114])),(1,.inl ((1,3,1),none)),(2,.inl (((-2147483648),2147483647,1),none)),(3,.inl ((0,64,1),none))],[],[]),(1236,[(-19)]),0)]
set_option maxRecDepth 100000 in
theorem q1125_ok : rf_chkB q1125_P q1125_U wLay q1125_M ddX12_hasForm [] [.inl 3] [0,2] 600 q1125_N = true := by decide +kernel
set_option maxHeartbeats 4000000 in
theorem q1125_met {G : rfG} (h : okG G) : rf_met G q1125_M := rf_methodB h.1 (P := q1125_P) (U := q1125_U) (N := q1125_N) ⟨wflT h flokX12, wcsT h csokX12, wlcT h lcokX12, spokX12 h, fun _ h => absurd h List.not_mem_nil, fun _ h => absurd h List.not_mem_nil, fun _ h => absurd h List.not_mem_nil, fun _ h => absurd h List.not_mem_nil, fun _ h => absurd h List.not_mem_nil⟩ dkX12_hasForm (by decide +kernel) (by rw [h.2.2.1]; exact q1125_ok)
/-- NearSpellModel.hasForm -/
def q1126_M : rfM := ((⟨"NearSpellModel", "hasForm", "(II)Z"⟩, prog_14_method_53_code, 4, (some .boolean)), (0,0), ([.inr (.inl [114]),.inl ((1,4,1),none),.inl (((-2147483648),2147483647,1),none)],[]), [], [(some (.inl ((1,1,0),none)),[],[]),(some (.inl ((0,0,0),none)),[],[])])
def q1126_P : rfP := (flX12,csX12,lcX12,spX12,[],[],[],([],[]))
def q1126_U : rfU := []
set_option maxHeartbeats 8000000 in
def q1126_N : List rfB := [(0,([(0,.inr (.inl [114])),(1,.inl ((1,4,1),none)),(2,.inl (((-2147483648),2147483647,1),none))],[],[]),(1240,[0]),0),
  (2,([(0,.inr (.inl [114])),(1,.inl ((1,4,1),none)),(2,.inl (((-2147483648),2147483647,1),none)),(3,.inl ((0,64,1),none))],[],[]),(1236,[(-19)]),0)]
set_option maxRecDepth 100000 in
theorem q1126_ok : rf_chkB q1126_P q1126_U wLay q1126_M ddX12_hasForm [] [.inl 3] [0,2] 600 q1126_N = true := by decide +kernel
set_option maxHeartbeats 4000000 in
theorem q1126_met {G : rfG} (h : okG G) : rf_met G q1126_M := rf_methodB h.1 (P := q1126_P) (U := q1126_U) (N := q1126_N) ⟨wflT h flokX12, wcsT h csokX12, wlcT h lcokX12, spokX12 h, fun _ h => absurd h List.not_mem_nil, fun _ h => absurd h List.not_mem_nil, fun _ h => absurd h List.not_mem_nil, fun _ h => absurd h List.not_mem_nil, fun _ h => absurd h List.not_mem_nil⟩ dkX12_hasForm (by decide +kernel) (by rw [h.2.2.1]; exact q1126_ok)
/-- NearSpellModel.hasForm -/
def q1127_M : rfM := ((⟨"NearSpellModel", "hasForm", "(II)Z"⟩, prog_14_method_53_code, 4, (some .boolean)), (0,0), ([.inr (.inl [114]),.inl ((1,12,1),none),.inl (((-2147483648),2147483647,1),none)],[]), [], [(some (.inl ((1,1,0),none)),[],[]),(some (.inl ((0,0,0),none)),[],[])])
def q1127_P : rfP := (flX12,csX12,lcX12,spX12,[],[],[],([],[]))
def q1127_U : rfU := []
set_option maxHeartbeats 8000000 in
def q1127_N : List rfB := [(0,([(0,.inr (.inl [114])),(1,.inl ((1,12,1),none)),(2,.inl (((-2147483648),2147483647,1),none))],[],[]),(1240,[0]),0),
  (2,([(0,.inr (.inl [114])),(1,.inl ((1,12,1),none)),(2,.inl (((-2147483648),2147483647,1),none)),(3,.inl ((0,64,1),none))],[],[]),(1236,[(-19)]),0)]
set_option maxRecDepth 100000 in
theorem q1127_ok : rf_chkB q1127_P q1127_U wLay q1127_M ddX12_hasForm [] [.inl 3] [0,2] 600 q1127_N = true := by decide +kernel
set_option maxHeartbeats 4000000 in
theorem q1127_met {G : rfG} (h : okG G) : rf_met G q1127_M := rf_methodB h.1 (P := q1127_P) (U := q1127_U) (N := q1127_N) ⟨wflT h flokX12, wcsT h csokX12, wlcT h lcokX12, spokX12 h, fun _ h => absurd h List.not_mem_nil, fun _ h => absurd h List.not_mem_nil, fun _ h => absurd h List.not_mem_nil, fun _ h => absurd h List.not_mem_nil, fun _ h => absurd h List.not_mem_nil⟩ dkX12_hasForm (by decide +kernel) (by rw [h.2.2.1]; exact q1127_ok)
/-- NearSpellModel.hasForm -/
def q1128_M : rfM := ((⟨"NearSpellModel", "hasForm", "(II)Z"⟩, prog_14_method_53_code, 4, (some .boolean)), (0,0), ([.inr (.inl [114]),.inl ((1,13,1),none),.inl (((-2147483648),2147483647,1),none)],[]), [], [(some (.inl ((1,1,0),none)),[],[]),(some (.inl ((0,0,0),none)),[],[])])
def q1128_P : rfP := (flX12,csX12,lcX12,spX12,[],[],[],([],[]))
def q1128_U : rfU := []
set_option maxHeartbeats 8000000 in
def q1128_N : List rfB := [(0,([(0,.inr (.inl [114])),(1,.inl ((1,13,1),none)),(2,.inl (((-2147483648),2147483647,1),none))],[],[]),(1240,[0]),0),
  (2,([(0,.inr (.inl [114])),(1,.inl ((1,13,1),none)),(2,.inl (((-2147483648),2147483647,1),none)),(3,.inl ((0,64,1),none))],[],[]),(1236,[(-19)]),0)]
set_option maxRecDepth 100000 in
theorem q1128_ok : rf_chkB q1128_P q1128_U wLay q1128_M ddX12_hasForm [] [.inl 3] [0,2] 600 q1128_N = true := by decide +kernel
set_option maxHeartbeats 4000000 in
theorem q1128_met {G : rfG} (h : okG G) : rf_met G q1128_M := rf_methodB h.1 (P := q1128_P) (U := q1128_U) (N := q1128_N) ⟨wflT h flokX12, wcsT h csokX12, wlcT h lcokX12, spokX12 h, fun _ h => absurd h List.not_mem_nil, fun _ h => absurd h List.not_mem_nil, fun _ h => absurd h List.not_mem_nil, fun _ h => absurd h List.not_mem_nil, fun _ h => absurd h List.not_mem_nil⟩ dkX12_hasForm (by decide +kernel) (by rw [h.2.2.1]; exact q1128_ok)
/-- NearSpellModel.isElsewhere -/
def q1129_M : rfM := ((⟨"NearSpellModel", "isElsewhere", "(III)Z"⟩, prog_14_method_102_code, 5, (some .boolean)), (1,23), ([.inr (.inl [114]),.inl (((-2147483648),2147483647,1),none),.inl ((1,1,0),none),.inl ((14,14,0),none)],[]), [], [(some (.inl ((1,1,0),none)),[],[]),(some (.inl ((0,0,0),none)),[],[])])
def q1129_P : rfP := (flX12,csX12,lcX12,spX12,[q1128_M],[],[(381,0,12)],([],[]))
def q1129_U : rfU := []
set_option maxHeartbeats 8000000 in
def q1129_N : List rfB := [(0,([(0,.inr (.inl [114])),(1,.inl (((-2147483648),2147483647,1),none)),(2,.inl ((1,1,0),none)),(3,.inl ((14,14,0),none))],[],[]),(160,[0]),0),
  (3,([(0,.inr (.inl [114])),(1,.inl (((-2147483648),2147483647,1),none)),(2,.inl ((1,1,0),none)),(3,.inl ((14,14,0),none)),(4,.inl ((1,14,1),none))],[],[]),(167,[(-11)]),0)]
set_option maxRecDepth 100000 in
theorem q1129_ok : rf_chkB q1129_P q1129_U wLay q1129_M ddX12_isElsewhere [(13,[0])] [.inl 4] [0,3] 600 q1129_N = true := by decide +kernel
set_option maxHeartbeats 4000000 in
theorem q1129_met {G : rfG} (h : okG G) : rf_met G q1129_M := rf_methodB h.1 (P := q1129_P) (U := q1129_U) (N := q1129_N) ⟨wflT h flokX12, wcsT h csokX12, wlcT h lcokX12, spokX12 h, List.forall_mem_cons.mpr ⟨q1128_met h, fun _ h => absurd h List.not_mem_nil⟩, fun _ h => absurd h List.not_mem_nil, List.forall_mem_cons.mpr ⟨fun M hM => Option.some.inj (show some q1128_M = some M from hM) ▸ wlkV (lkX12_381 h) q1128_M rfl rfl, fun _ h => absurd h List.not_mem_nil⟩, fun _ h => absurd h List.not_mem_nil, fun _ h => absurd h List.not_mem_nil⟩ dkX12_isElsewhere (by decide +kernel) (by rw [h.2.2.1]; exact q1129_ok)
/-- NearSpellModel.hasForm -/
def q1130_M : rfM := ((⟨"NearSpellModel", "hasForm", "(II)Z"⟩, prog_14_method_53_code, 4, (some .boolean)), (0,0), ([.inr (.inl [114]),.inl ((1,5,1),none),.inl (((-2147483648),2147483647,1),none)],[]), [], [(some (.inl ((1,1,0),none)),[],[]),(some (.inl ((0,0,0),none)),[],[])])
def q1130_P : rfP := (flX12,csX12,lcX12,spX12,[],[],[],([],[]))
def q1130_U : rfU := []
set_option maxHeartbeats 8000000 in
def q1130_N : List rfB := [(0,([(0,.inr (.inl [114])),(1,.inl ((1,5,1),none)),(2,.inl (((-2147483648),2147483647,1),none))],[],[]),(1240,[0]),0),
  (2,([(0,.inr (.inl [114])),(1,.inl ((1,5,1),none)),(2,.inl (((-2147483648),2147483647,1),none)),(3,.inl ((0,64,1),none))],[],[]),(1236,[(-19)]),0)]
set_option maxRecDepth 100000 in
theorem q1130_ok : rf_chkB q1130_P q1130_U wLay q1130_M ddX12_hasForm [] [.inl 3] [0,2] 600 q1130_N = true := by decide +kernel
set_option maxHeartbeats 4000000 in
theorem q1130_met {G : rfG} (h : okG G) : rf_met G q1130_M := rf_methodB h.1 (P := q1130_P) (U := q1130_U) (N := q1130_N) ⟨wflT h flokX12, wcsT h csokX12, wlcT h lcokX12, spokX12 h, fun _ h => absurd h List.not_mem_nil, fun _ h => absurd h List.not_mem_nil, fun _ h => absurd h List.not_mem_nil, fun _ h => absurd h List.not_mem_nil, fun _ h => absurd h List.not_mem_nil⟩ dkX12_hasForm (by decide +kernel) (by rw [h.2.2.1]; exact q1130_ok)
/-- NearSpellModel.isElsewhere -/
def q1131_M : rfM := ((⟨"NearSpellModel", "isElsewhere", "(III)Z"⟩, prog_14_method_102_code, 5, (some .boolean)), (1,23), ([.inr (.inl [114]),.inl (((-2147483648),2147483647,1),none),.inl ((1,2,1),none),.inl ((14,14,0),none)],[]), [], [(some (.inl ((1,1,0),none)),[],[]),(some (.inl ((0,0,0),none)),[],[])])
def q1131_P : rfP := (flX12,csX12,lcX12,spX12,[q1128_M],[],[(381,0,12)],([],[]))
def q1131_U : rfU := []
set_option maxHeartbeats 8000000 in
def q1131_N : List rfB := [(0,([(0,.inr (.inl [114])),(1,.inl (((-2147483648),2147483647,1),none)),(2,.inl ((1,2,1),none)),(3,.inl ((14,14,0),none))],[],[]),(160,[0]),0),
  (3,([(0,.inr (.inl [114])),(1,.inl (((-2147483648),2147483647,1),none)),(2,.inl ((1,2,1),none)),(3,.inl ((14,14,0),none)),(4,.inl ((1,14,1),none))],[],[]),(167,[(-11)]),0)]
set_option maxRecDepth 100000 in
theorem q1131_ok : rf_chkB q1131_P q1131_U wLay q1131_M ddX12_isElsewhere [(13,[0])] [.inl 4] [0,3] 600 q1131_N = true := by decide +kernel
set_option maxHeartbeats 4000000 in
theorem q1131_met {G : rfG} (h : okG G) : rf_met G q1131_M := rf_methodB h.1 (P := q1131_P) (U := q1131_U) (N := q1131_N) ⟨wflT h flokX12, wcsT h csokX12, wlcT h lcokX12, spokX12 h, List.forall_mem_cons.mpr ⟨q1128_met h, fun _ h => absurd h List.not_mem_nil⟩, fun _ h => absurd h List.not_mem_nil, List.forall_mem_cons.mpr ⟨fun M hM => Option.some.inj (show some q1128_M = some M from hM) ▸ wlkV (lkX12_381 h) q1128_M rfl rfl, fun _ h => absurd h List.not_mem_nil⟩, fun _ h => absurd h List.not_mem_nil, fun _ h => absurd h List.not_mem_nil⟩ dkX12_isElsewhere (by decide +kernel) (by rw [h.2.2.1]; exact q1131_ok)
/-- NearSpellModel.hasForm -/
def q1132_M : rfM := ((⟨"NearSpellModel", "hasForm", "(II)Z"⟩, prog_14_method_53_code, 4, (some .boolean)), (0,0), ([.inr (.inl [114]),.inl ((1,6,1),none),.inl (((-2147483648),2147483647,1),none)],[]), [], [(some (.inl ((1,1,0),none)),[],[]),(some (.inl ((0,0,0),none)),[],[])])
def q1132_P : rfP := (flX12,csX12,lcX12,spX12,[],[],[],([],[]))
def q1132_U : rfU := []
set_option maxHeartbeats 8000000 in
def q1132_N : List rfB := [(0,([(0,.inr (.inl [114])),(1,.inl ((1,6,1),none)),(2,.inl (((-2147483648),2147483647,1),none))],[],[]),(1240,[0]),0),
  (2,([(0,.inr (.inl [114])),(1,.inl ((1,6,1),none)),(2,.inl (((-2147483648),2147483647,1),none)),(3,.inl ((0,64,1),none))],[],[]),(1236,[(-19)]),0)]
set_option maxRecDepth 100000 in
theorem q1132_ok : rf_chkB q1132_P q1132_U wLay q1132_M ddX12_hasForm [] [.inl 3] [0,2] 600 q1132_N = true := by decide +kernel
set_option maxHeartbeats 4000000 in
theorem q1132_met {G : rfG} (h : okG G) : rf_met G q1132_M := rf_methodB h.1 (P := q1132_P) (U := q1132_U) (N := q1132_N) ⟨wflT h flokX12, wcsT h csokX12, wlcT h lcokX12, spokX12 h, fun _ h => absurd h List.not_mem_nil, fun _ h => absurd h List.not_mem_nil, fun _ h => absurd h List.not_mem_nil, fun _ h => absurd h List.not_mem_nil, fun _ h => absurd h List.not_mem_nil⟩ dkX12_hasForm (by decide +kernel) (by rw [h.2.2.1]; exact q1132_ok)
/-- NearSpellModel.isElsewhere -/
def q1133_M : rfM := ((⟨"NearSpellModel", "isElsewhere", "(III)Z"⟩, prog_14_method_102_code, 5, (some .boolean)), (1,23), ([.inr (.inl [114]),.inl (((-2147483648),2147483647,1),none),.inl ((1,3,1),none),.inl ((14,14,0),none)],[]), [], [(some (.inl ((1,1,0),none)),[],[]),(some (.inl ((0,0,0),none)),[],[])])
def q1133_P : rfP := (flX12,csX12,lcX12,spX12,[q1128_M],[],[(381,0,12)],([],[]))
def q1133_U : rfU := []
set_option maxHeartbeats 8000000 in
def q1133_N : List rfB := [(0,([(0,.inr (.inl [114])),(1,.inl (((-2147483648),2147483647,1),none)),(2,.inl ((1,3,1),none)),(3,.inl ((14,14,0),none))],[],[]),(160,[0]),0),
  (3,([(0,.inr (.inl [114])),(1,.inl (((-2147483648),2147483647,1),none)),(2,.inl ((1,3,1),none)),(3,.inl ((14,14,0),none)),(4,.inl ((1,14,1),none))],[],[]),(167,[(-11)]),0)]
set_option maxRecDepth 100000 in
theorem q1133_ok : rf_chkB q1133_P q1133_U wLay q1133_M ddX12_isElsewhere [(13,[0])] [.inl 4] [0,3] 600 q1133_N = true := by decide +kernel
set_option maxHeartbeats 4000000 in
theorem q1133_met {G : rfG} (h : okG G) : rf_met G q1133_M := rf_methodB h.1 (P := q1133_P) (U := q1133_U) (N := q1133_N) ⟨wflT h flokX12, wcsT h csokX12, wlcT h lcokX12, spokX12 h, List.forall_mem_cons.mpr ⟨q1128_met h, fun _ h => absurd h List.not_mem_nil⟩, fun _ h => absurd h List.not_mem_nil, List.forall_mem_cons.mpr ⟨fun M hM => Option.some.inj (show some q1128_M = some M from hM) ▸ wlkV (lkX12_381 h) q1128_M rfl rfl, fun _ h => absurd h List.not_mem_nil⟩, fun _ h => absurd h List.not_mem_nil, fun _ h => absurd h List.not_mem_nil⟩ dkX12_isElsewhere (by decide +kernel) (by rw [h.2.2.1]; exact q1133_ok)
/-- NearSpellModel.isElsewhere -/
def q1134_M : rfM := ((⟨"NearSpellModel", "isElsewhere", "(III)Z"⟩, prog_14_method_102_code, 5, (some .boolean)), (1,23), ([.inr (.inl [114]),.inl (((-2147483648),2147483647,1),none),.inl ((1,12,1),none),.inl ((14,14,0),none)],[]), [], [(some (.inl ((1,1,0),none)),[],[]),(some (.inl ((0,0,0),none)),[],[])])
def q1134_P : rfP := (flX12,csX12,lcX12,spX12,[q1128_M],[],[(381,0,12)],([],[]))
def q1134_U : rfU := []
set_option maxHeartbeats 8000000 in
def q1134_N : List rfB := [(0,([(0,.inr (.inl [114])),(1,.inl (((-2147483648),2147483647,1),none)),(2,.inl ((1,12,1),none)),(3,.inl ((14,14,0),none))],[],[]),(160,[0]),0),
  (3,([(0,.inr (.inl [114])),(1,.inl (((-2147483648),2147483647,1),none)),(2,.inl ((1,12,1),none)),(3,.inl ((14,14,0),none)),(4,.inl ((1,14,1),none))],[],[]),(167,[(-11)]),0)]
set_option maxRecDepth 100000 in
theorem q1134_ok : rf_chkB q1134_P q1134_U wLay q1134_M ddX12_isElsewhere [(13,[0])] [.inl 4] [0,3] 600 q1134_N = true := by decide +kernel
set_option maxHeartbeats 4000000 in
theorem q1134_met {G : rfG} (h : okG G) : rf_met G q1134_M := rf_methodB h.1 (P := q1134_P) (U := q1134_U) (N := q1134_N) ⟨wflT h flokX12, wcsT h csokX12, wlcT h lcokX12, spokX12 h, List.forall_mem_cons.mpr ⟨q1128_met h, fun _ h => absurd h List.not_mem_nil⟩, fun _ h => absurd h List.not_mem_nil, List.forall_mem_cons.mpr ⟨fun M hM => Option.some.inj (show some q1128_M = some M from hM) ▸ wlkV (lkX12_381 h) q1128_M rfl rfl, fun _ h => absurd h List.not_mem_nil⟩, fun _ h => absurd h List.not_mem_nil, fun _ h => absurd h List.not_mem_nil⟩ dkX12_isElsewhere (by decide +kernel) (by rw [h.2.2.1]; exact q1134_ok)
/-- NearSpellModel.isElsewhere -/
def q1135_M : rfM := ((⟨"NearSpellModel", "isElsewhere", "(III)Z"⟩, prog_14_method_102_code, 5, (some .boolean)), (1,23), ([.inr (.inl [114]),.inl (((-2147483648),2147483647,1),none),.inl ((1,13,1),none),.inl ((14,14,0),none)],[]), [], [(some (.inl ((1,1,0),none)),[],[]),(some (.inl ((0,0,0),none)),[],[])])
def q1135_P : rfP := (flX12,csX12,lcX12,spX12,[q1128_M],[],[(381,0,12)],([],[]))
def q1135_U : rfU := []
set_option maxHeartbeats 8000000 in
def q1135_N : List rfB := [(0,([(0,.inr (.inl [114])),(1,.inl (((-2147483648),2147483647,1),none)),(2,.inl ((1,13,1),none)),(3,.inl ((14,14,0),none))],[],[]),(160,[0]),0),
  (3,([(0,.inr (.inl [114])),(1,.inl (((-2147483648),2147483647,1),none)),(2,.inl ((1,13,1),none)),(3,.inl ((14,14,0),none)),(4,.inl ((1,14,1),none))],[],[]),(167,[(-11)]),0)]
set_option maxRecDepth 100000 in
theorem q1135_ok : rf_chkB q1135_P q1135_U wLay q1135_M ddX12_isElsewhere [(13,[0])] [.inl 4] [0,3] 600 q1135_N = true := by decide +kernel
set_option maxHeartbeats 4000000 in
theorem q1135_met {G : rfG} (h : okG G) : rf_met G q1135_M := rf_methodB h.1 (P := q1135_P) (U := q1135_U) (N := q1135_N) ⟨wflT h flokX12, wcsT h csokX12, wlcT h lcokX12, spokX12 h, List.forall_mem_cons.mpr ⟨q1128_met h, fun _ h => absurd h List.not_mem_nil⟩, fun _ h => absurd h List.not_mem_nil, List.forall_mem_cons.mpr ⟨fun M hM => Option.some.inj (show some q1128_M = some M from hM) ▸ wlkV (lkX12_381 h) q1128_M rfl rfl, fun _ h => absurd h List.not_mem_nil⟩, fun _ h => absurd h List.not_mem_nil, fun _ h => absurd h List.not_mem_nil⟩ dkX12_isElsewhere (by decide +kernel) (by rw [h.2.2.1]; exact q1135_ok)
/-- NearSpellModel.isElsewhere -/
def q1136_M : rfM := ((⟨"NearSpellModel", "isElsewhere", "(III)Z"⟩, prog_14_method_102_code, 5, (some .boolean)), (1,23), ([.inr (.inl [114]),.inl (((-2147483648),2147483647,1),none),.inl ((1,14,1),none),.inl ((14,14,0),none)],[]), [], [(some (.inl ((1,1,0),none)),[],[]),(some (.inl ((0,0,0),none)),[],[])])
def q1136_P : rfP := (flX12,csX12,lcX12,spX12,[q1128_M],[],[(381,0,12)],([],[]))
def q1136_U : rfU := []
set_option maxHeartbeats 8000000 in
def q1136_N : List rfB := [(0,([(0,.inr (.inl [114])),(1,.inl (((-2147483648),2147483647,1),none)),(2,.inl ((1,14,1),none)),(3,.inl ((14,14,0),none))],[],[]),(160,[0]),0),
  (3,([(0,.inr (.inl [114])),(1,.inl (((-2147483648),2147483647,1),none)),(2,.inl ((1,14,1),none)),(3,.inl ((14,14,0),none)),(4,.inl ((1,14,1),none))],[],[]),(167,[(-11)]),0)]
set_option maxRecDepth 100000 in
theorem q1136_ok : rf_chkB q1136_P q1136_U wLay q1136_M ddX12_isElsewhere [(13,[0])] [.inl 4] [0,3] 600 q1136_N = true := by decide +kernel
set_option maxHeartbeats 4000000 in
theorem q1136_met {G : rfG} (h : okG G) : rf_met G q1136_M := rf_methodB h.1 (P := q1136_P) (U := q1136_U) (N := q1136_N) ⟨wflT h flokX12, wcsT h csokX12, wlcT h lcokX12, spokX12 h, List.forall_mem_cons.mpr ⟨q1128_met h, fun _ h => absurd h List.not_mem_nil⟩, fun _ h => absurd h List.not_mem_nil, List.forall_mem_cons.mpr ⟨fun M hM => Option.some.inj (show some q1128_M = some M from hM) ▸ wlkV (lkX12_381 h) q1128_M rfl rfl, fun _ h => absurd h List.not_mem_nil⟩, fun _ h => absurd h List.not_mem_nil, fun _ h => absurd h List.not_mem_nil⟩ dkX12_isElsewhere (by decide +kernel) (by rw [h.2.2.1]; exact q1136_ok)
/-- NearSpellModel.rarest -/
def q1137_M : rfM := ((⟨"NearSpellModel", "rarest", "()I"⟩, prog_14_method_104_code, 8, (some .int)), (5,117), ([.inr (.inl [114])],[((114,28),(0,0,0),none),((998,0),(1,1,0),none)]), [(91,0),(92,0),(93,0),(114,40)], [(some (.inl (((-1),13,1),none)),[],[])])
def ddX12_rarest : List (Nat × Instr × Nat) := [(0,.aload_n 0,1),(1,.aload_n 0,1),(2,.invokevirtual 372,3),(5,.invokevirtual 375,3),(8,.istore_n 1,1),(9,.iconst (-1),1),(10,.istore_n 2,1),(11,.iconst 0,1),(12,.istore_n 3,1),(13,.iconst 0,1),(14,.istore 4,2),(16,.iload 4,2),(18,.bipush 14,2),(20,.if_icmp .ge 120,3),(23,.iload_n 1,1),(24,.ifCond .le 116,3),(27,.aload_n 0,1),(28,.iload 4,2),(30,.invokevirtual 350,3),(33,.ifCond .ne 6,3),(36,.goto 98,3),(39,.iconst 0,1),(40,.istore 5,2),(42,.iconst 0,1),(43,.istore 6,2),(45,.iload 6,2),(47,.aload_n 0,1),(48,.getfield 81,3),(51,.iload 4,2),(53,.iaload,1),(54,.if_icmp .ge 61,3),(57,.aload_n 0,1),(58,.getfield 78,3),(61,.bipush 64,2),(63,.iload 4,2),(65,.imul,1),(66,.iload 6,2),(68,.iadd,1),(69,.iaload,1),(70,.istore 7,2),(72,.iload 5,2),(74,.aload_n 0,1),(75,.iload 7,2),(77,.iconst 0,1),(78,.iload 4,2),(80,.invokevirtual 465,3),(83,.ifCond .ne 18,3),(86,.aload_n 0,1),(87,.iload 7,2),(89,.iload 4,2),(91,.iconst 1,1),(92,.iadd,1),(93,.bipush 14,2),(95,.invokevirtual 465,3),(98,.ifCond .eq 7,3),(101,.iconst 0,1),(102,.goto 4,3),(105,.iconst 1,1),(106,.iadd,1),(107,.istore 5,2),(109,.iinc 6 1,3),(112,.goto (-67),3),(115,.iload_n 2,1),(116,.ifCond .lt 12,3),(119,.iload 5,2),(121,.iload_n 3,1),(122,.if_icmp .gt 6,3),(125,.goto 9,3),(128,.iload 4,2),(130,.istore_n 2,1),(131,.iload 5,2),(133,.istore_n 3,1),(134,.iinc 4 1,3),(137,.goto (-121),3),(140,.iload_n 2,1),(141,.ireturn,1)]
set_option maxRecDepth 100000 in
theorem dkX12_rarest : rf_decs prog_14_method_104_code ddX12_rarest := rf_decs_of (by decide +kernel)
def q1137_P : rfP := (flX12,csX12,lcX12,spX12,[q790_M,q850_M,q827_M,q1120_M,q1136_M],[],[(350,2,12),(372,0,12),(375,1,12),(465,3,12),(465,4,12)],([],[]))
def q1137_U : rfU := []
set_option maxHeartbeats 8000000 in
def q1137_N : List rfB := [(0,([(0,.inr (.inl [114]))],[],[((114,28),(0,0,0),some ((114,28),0,0)),((998,0),(1,1,0),some ((998,0),0,0))]),(40407,[0,0]),0),
  (16,([(0,.inr (.inl [114])),(1,.inl (((-2147483648),2147483647,1),none)),(2,.inl (((-1),13,1),none)),(3,.inl (((-2147483648),2147483647,1),none)),(4,.inl ((0,14,1),none))],[],[((114,28),(0,0,0),some ((114,28),0,0)),((998,0),(1,1,0),some ((998,0),0,0))]),(40394,[(-2693),0]),0),
  (134,([(0,.inr (.inl [114])),(1,.inl ((1,2147483647,1),none)),(2,.inl (((-1),13,1),none)),(3,.inl (((-2147483648),2147483647,1),none)),(4,.inl ((0,13,1),none))],[],[((114,28),(0,0,0),some ((114,28),0,0)),((998,0),(1,1,0),some ((998,0),0,0))]),(37704,[(-2693),0]),0),
  (45,([(0,.inr (.inl [114])),(1,.inl ((1,2147483647,1),none)),(2,.inl (((-1),13,1),none)),(3,.inl (((-2147483648),2147483647,1),none)),(4,.inl ((0,13,1),none)),(5,.inl (((-2147483648),2147483647,1),none)),(6,.inl ((0,64,1),none))],[],[((90,28),(1,14,1),none),((114,28),(0,0,0),some ((114,28),0,0)),((998,0),(1,1,0),some ((998,0),0,0))]),(40379,[(-2693),(-41)]),0),
  (140,([(0,.inr (.inl [114])),(1,.inl (((-2147483648),2147483647,1),none)),(2,.inl (((-1),13,1),none)),(3,.inl (((-2147483648),2147483647,1),none)),(4,.inl ((0,14,1),none))],[],[((114,28),(0,0,0),some ((114,28),0,0)),((998,0),(1,1,0),some ((998,0),0,0))]),(1,[0,0]),0),
  (101,([(0,.inr (.inl [114])),(1,.inl ((1,2147483647,1),none)),(2,.inl (((-1),13,1),none)),(3,.inl (((-2147483648),2147483647,1),none)),(4,.inl ((0,13,1),none)),(5,.inl (((-2147483648),2147483647,1),none)),(6,.inl ((0,63,1),none)),(7,.inl (((-2147483648),2147483647,1),none))],[.inl (((-2147483648),2147483647,1),some (.inl 5,some 0))],[((90,28),(1,14,1),none),((114,28),(0,0,0),some ((114,28),0,0)),((998,0),(1,1,0),some ((998,0),0,0))]),(40348,[(-2693),(-41)]),0),
  (107,([(0,.inr (.inl [114])),(1,.inl ((1,2147483647,1),none)),(2,.inl (((-1),13,1),none)),(3,.inl (((-2147483648),2147483647,1),none)),(4,.inl ((0,13,1),none)),(5,.inl (((-2147483648),2147483647,1),none)),(6,.inl ((0,63,1),none)),(7,.inl (((-2147483648),2147483647,1),none))],[.inl (((-2147483648),2147483647,1),none)],[((90,28),(1,14,1),none),((114,28),(0,0,0),some ((114,28),0,0)),((998,0),(1,1,0),some ((998,0),0,0))]),(40342,[(-2693),(-41)]),0),
  (128,([(0,.inr (.inl [114])),(1,.inl ((1,2147483647,1),none)),(2,.inl (((-1),13,1),none)),(3,.inl (((-2147483648),2147483647,1),none)),(4,.inl ((0,13,1),none)),(5,.inl (((-2147483648),2147483647,1),none)),(6,.inl ((0,64,1),none))],[],[((90,28),(1,14,1),none),((114,28),(0,0,0),some ((114,28),0,0)),((998,0),(1,1,0),some ((998,0),0,0))]),(37710,[(-2693),0]),0)]
set_option maxRecDepth 100000 in
theorem q1137_ok : rf_chkB q1137_P q1137_U wLay q1137_M ddX12_rarest [(2,[0]),(5,[1]),(30,[2]),(80,[3]),(95,[4])] [.inl 4,.inl 6] [0,16,45,101,107,128,134,140] 600 q1137_N = true := by decide +kernel
set_option maxHeartbeats 4000000 in
theorem q1137_met {G : rfG} (h : okG G) : rf_met G q1137_M := rf_methodB h.1 (P := q1137_P) (U := q1137_U) (N := q1137_N) ⟨wflT h flokX12, wcsT h csokX12, wlcT h lcokX12, spokX12 h, List.forall_mem_cons.mpr ⟨q790_met h, List.forall_mem_cons.mpr ⟨q850_met h, List.forall_mem_cons.mpr ⟨q827_met h, List.forall_mem_cons.mpr ⟨q1120_met h, List.forall_mem_cons.mpr ⟨q1136_met h, fun _ h => absurd h List.not_mem_nil⟩⟩⟩⟩⟩, fun _ h => absurd h List.not_mem_nil, List.forall_mem_cons.mpr ⟨fun M hM => Option.some.inj (show some q827_M = some M from hM) ▸ wlkV (lkX12_350 h) q827_M rfl rfl, List.forall_mem_cons.mpr ⟨fun M hM => Option.some.inj (show some q790_M = some M from hM) ▸ wlkV (lkX12_372 h) q790_M rfl rfl, List.forall_mem_cons.mpr ⟨fun M hM => Option.some.inj (show some q850_M = some M from hM) ▸ wlkV (lkX12_375 h) q850_M rfl rfl, List.forall_mem_cons.mpr ⟨fun M hM => Option.some.inj (show some q1120_M = some M from hM) ▸ wlkV (lkX12_465 h) q1120_M rfl rfl, List.forall_mem_cons.mpr ⟨fun M hM => Option.some.inj (show some q1136_M = some M from hM) ▸ wlkV (lkX12_465 h) q1136_M rfl rfl, fun _ h => absurd h List.not_mem_nil⟩⟩⟩⟩⟩, fun _ h => absurd h List.not_mem_nil, fun _ h => absurd h List.not_mem_nil⟩ dkX12_rarest (by decide +kernel) (by rw [h.2.2.1]; exact q1137_ok)
/-- NearSpellModel.rarest -/
def q1138_M : rfM := ((⟨"NearSpellModel", "rarest", "()I"⟩, prog_14_method_104_code, 8, (some .int)), (5,117), ([.inr (.inl [114])],[((77,1),(1,31,1),none),((114,28),(1,1,0),none),((998,0),(1,1,0),none)]), [(91,0),(92,0),(93,0),(114,40)], [(some (.inl (((-1),13,1),none)),[],[])])
def q1138_P : rfP := (flX12,csX12,lcX12,spX12,[q806_M,q873_M,q827_M,q1120_M,q1136_M],[],[(350,2,12),(372,0,12),(375,1,12),(465,3,12),(465,4,12)],([],[]))
def q1138_U : rfU := []
set_option maxHeartbeats 8000000 in
def q1138_N : List rfB := [(0,([(0,.inr (.inl [114]))],[],[((77,1),(1,31,1),some ((77,1),0,0)),((114,28),(1,1,0),some ((114,28),0,0)),((998,0),(1,1,0),some ((998,0),0,0))]),(40407,[0,0]),0),
  (16,([(0,.inr (.inl [114])),(1,.inl (((-2147483648),2147483647,1),none)),(2,.inl (((-1),13,1),none)),(3,.inl (((-2147483648),2147483647,1),none)),(4,.inl ((0,14,1),none))],[],[((77,1),(1,31,1),some ((77,1),0,0)),((114,28),(1,1,0),some ((114,28),0,0)),((998,0),(1,1,0),some ((998,0),0,0))]),(40394,[(-2693),0]),0),
  (134,([(0,.inr (.inl [114])),(1,.inl ((1,2147483647,1),none)),(2,.inl (((-1),13,1),none)),(3,.inl (((-2147483648),2147483647,1),none)),(4,.inl ((0,13,1),none))],[],[((77,1),(1,31,1),some ((77,1),0,0)),((114,28),(1,1,0),some ((114,28),0,0)),((998,0),(1,1,0),some ((998,0),0,0))]),(37704,[(-2693),0]),0),
  (45,([(0,.inr (.inl [114])),(1,.inl ((1,2147483647,1),none)),(2,.inl (((-1),13,1),none)),(3,.inl (((-2147483648),2147483647,1),none)),(4,.inl ((0,13,1),none)),(5,.inl (((-2147483648),2147483647,1),none)),(6,.inl ((0,64,1),none))],[],[((77,1),(1,31,1),some ((77,1),0,0)),((90,28),(1,14,1),none),((114,28),(1,1,0),some ((114,28),0,0)),((998,0),(1,1,0),some ((998,0),0,0))]),(40379,[(-2693),(-41)]),0),
  (140,([(0,.inr (.inl [114])),(1,.inl (((-2147483648),2147483647,1),none)),(2,.inl (((-1),13,1),none)),(3,.inl (((-2147483648),2147483647,1),none)),(4,.inl ((0,14,1),none))],[],[((77,1),(1,31,1),some ((77,1),0,0)),((114,28),(1,1,0),some ((114,28),0,0)),((998,0),(1,1,0),some ((998,0),0,0))]),(1,[0,0]),0),
  (101,([(0,.inr (.inl [114])),(1,.inl ((1,2147483647,1),none)),(2,.inl (((-1),13,1),none)),(3,.inl (((-2147483648),2147483647,1),none)),(4,.inl ((0,13,1),none)),(5,.inl (((-2147483648),2147483647,1),none)),(6,.inl ((0,63,1),none)),(7,.inl (((-2147483648),2147483647,1),none))],[.inl (((-2147483648),2147483647,1),some (.inl 5,some 0))],[((77,1),(1,31,1),some ((77,1),0,0)),((90,28),(1,14,1),none),((114,28),(1,1,0),some ((114,28),0,0)),((998,0),(1,1,0),some ((998,0),0,0))]),(40348,[(-2693),(-41)]),0),
  (107,([(0,.inr (.inl [114])),(1,.inl ((1,2147483647,1),none)),(2,.inl (((-1),13,1),none)),(3,.inl (((-2147483648),2147483647,1),none)),(4,.inl ((0,13,1),none)),(5,.inl (((-2147483648),2147483647,1),none)),(6,.inl ((0,63,1),none)),(7,.inl (((-2147483648),2147483647,1),none))],[.inl (((-2147483648),2147483647,1),none)],[((77,1),(1,31,1),some ((77,1),0,0)),((90,28),(1,14,1),none),((114,28),(1,1,0),some ((114,28),0,0)),((998,0),(1,1,0),some ((998,0),0,0))]),(40342,[(-2693),(-41)]),0),
  (128,([(0,.inr (.inl [114])),(1,.inl ((1,2147483647,1),none)),(2,.inl (((-1),13,1),none)),(3,.inl (((-2147483648),2147483647,1),none)),(4,.inl ((0,13,1),none)),(5,.inl (((-2147483648),2147483647,1),none)),(6,.inl ((0,64,1),none))],[],[((77,1),(1,31,1),some ((77,1),0,0)),((90,28),(1,14,1),none),((114,28),(1,1,0),some ((114,28),0,0)),((998,0),(1,1,0),some ((998,0),0,0))]),(37710,[(-2693),0]),0)]
set_option maxRecDepth 100000 in
theorem q1138_ok : rf_chkB q1138_P q1138_U wLay q1138_M ddX12_rarest [(2,[0]),(5,[1]),(30,[2]),(80,[3]),(95,[4])] [.inl 4,.inl 6] [0,16,45,101,107,128,134,140] 600 q1138_N = true := by decide +kernel
set_option maxHeartbeats 4000000 in
theorem q1138_met {G : rfG} (h : okG G) : rf_met G q1138_M := rf_methodB h.1 (P := q1138_P) (U := q1138_U) (N := q1138_N) ⟨wflT h flokX12, wcsT h csokX12, wlcT h lcokX12, spokX12 h, List.forall_mem_cons.mpr ⟨q806_met h, List.forall_mem_cons.mpr ⟨q873_met h, List.forall_mem_cons.mpr ⟨q827_met h, List.forall_mem_cons.mpr ⟨q1120_met h, List.forall_mem_cons.mpr ⟨q1136_met h, fun _ h => absurd h List.not_mem_nil⟩⟩⟩⟩⟩, fun _ h => absurd h List.not_mem_nil, List.forall_mem_cons.mpr ⟨fun M hM => Option.some.inj (show some q827_M = some M from hM) ▸ wlkV (lkX12_350 h) q827_M rfl rfl, List.forall_mem_cons.mpr ⟨fun M hM => Option.some.inj (show some q806_M = some M from hM) ▸ wlkV (lkX12_372 h) q806_M rfl rfl, List.forall_mem_cons.mpr ⟨fun M hM => Option.some.inj (show some q873_M = some M from hM) ▸ wlkV (lkX12_375 h) q873_M rfl rfl, List.forall_mem_cons.mpr ⟨fun M hM => Option.some.inj (show some q1120_M = some M from hM) ▸ wlkV (lkX12_465 h) q1120_M rfl rfl, List.forall_mem_cons.mpr ⟨fun M hM => Option.some.inj (show some q1136_M = some M from hM) ▸ wlkV (lkX12_465 h) q1136_M rfl rfl, fun _ h => absurd h List.not_mem_nil⟩⟩⟩⟩⟩, fun _ h => absurd h List.not_mem_nil, fun _ h => absurd h List.not_mem_nil⟩ dkX12_rarest (by decide +kernel) (by rw [h.2.2.1]; exact q1138_ok)
/-- NearSpellModel.law -/
def q1139_M : rfM := ((⟨"NearSpellModel", "law", "(I)I"⟩, prog_14_method_101_code, 2, (some .int)), (5,117), ([.inr (.inl [114]),.inl (((-2147483648),2147483647,1),none)],[((114,28),(0,0,0),none),((998,0),(1,1,0),none)]), [(91,0),(92,0),(93,0),(114,40)], [(some (.inl (((-2147483648),2147483647,1),none)),[],[])])
def ddX12_law : List (Nat × Instr × Nat) := [(0,.iload_n 1,1),(1,.iconst 0,1),(2,.iconst 2,1),(3,.invokestatic 334,3),(6,.ifCond .eq 11,3),(9,.aload_n 0,1),(10,.iload_n 1,1),(11,.invokevirtual 375,3),(14,.goto 4,3),(17,.iconst (-1),1),(18,.ireturn,1)]
set_option maxRecDepth 100000 in
theorem dkX12_law : rf_decs prog_14_method_101_code ddX12_law := rf_decs_of (by decide +kernel)
def q1139_P : rfP := (flX12,csX12,lcX12,spX12,[q975_M,q850_M],[(334,0)],[(375,1,12)],([],[]))
def q1139_U : rfU := []
set_option maxHeartbeats 8000000 in
def q1139_N : List rfB := [(0,([(0,.inr (.inl [114])),(1,.inl (((-2147483648),2147483647,1),none))],[],[((114,28),(0,0,0),some ((114,28),0,0)),((998,0),(1,1,0),some ((998,0),0,0))]),(12,[]),0)]
set_option maxRecDepth 100000 in
theorem q1139_ok : rf_chkB q1139_P q1139_U wLay q1139_M ddX12_law [(3,[0]),(11,[1])] [] [0] 600 q1139_N = true := by decide +kernel
set_option maxHeartbeats 4000000 in
theorem q1139_met {G : rfG} (h : okG G) : rf_met G q1139_M := rf_methodB h.1 (P := q1139_P) (U := q1139_U) (N := q1139_N) ⟨wflT h flokX12, wcsT h csokX12, wlcT h lcokX12, spokX12 h, List.forall_mem_cons.mpr ⟨q975_met h, List.forall_mem_cons.mpr ⟨q850_met h, fun _ h => absurd h List.not_mem_nil⟩⟩, List.forall_mem_cons.mpr ⟨fun M hM => Option.some.inj (show some q975_M = some M from hM) ▸ wlkS (lkX12_334 h) q975_M rfl rfl, fun _ h => absurd h List.not_mem_nil⟩, List.forall_mem_cons.mpr ⟨fun M hM => Option.some.inj (show some q850_M = some M from hM) ▸ wlkV (lkX12_375 h) q850_M rfl rfl, fun _ h => absurd h List.not_mem_nil⟩, fun _ h => absurd h List.not_mem_nil, fun _ h => absurd h List.not_mem_nil⟩ dkX12_law (by decide +kernel) (by rw [h.2.2.1]; exact q1139_ok)
/-- NearSpellModel.law -/
def q1140_M : rfM := ((⟨"NearSpellModel", "law", "(I)I"⟩, prog_14_method_101_code, 2, (some .int)), (5,117), ([.inr (.inl [114]),.inl (((-2147483648),2147483647,1),none)],[((77,1),(1,31,1),none),((114,28),(1,1,0),none),((998,0),(1,1,0),none)]), [(91,0),(92,0),(93,0),(114,40)], [(some (.inl (((-2147483648),2147483647,1),none)),[],[])])
def q1140_P : rfP := (flX12,csX12,lcX12,spX12,[q975_M,q873_M],[(334,0)],[(375,1,12)],([],[]))
def q1140_U : rfU := []
set_option maxHeartbeats 8000000 in
def q1140_N : List rfB := [(0,([(0,.inr (.inl [114])),(1,.inl (((-2147483648),2147483647,1),none))],[],[((77,1),(1,31,1),some ((77,1),0,0)),((114,28),(1,1,0),some ((114,28),0,0)),((998,0),(1,1,0),some ((998,0),0,0))]),(12,[]),0)]
set_option maxRecDepth 100000 in
theorem q1140_ok : rf_chkB q1140_P q1140_U wLay q1140_M ddX12_law [(3,[0]),(11,[1])] [] [0] 600 q1140_N = true := by decide +kernel
set_option maxHeartbeats 4000000 in
theorem q1140_met {G : rfG} (h : okG G) : rf_met G q1140_M := rf_methodB h.1 (P := q1140_P) (U := q1140_U) (N := q1140_N) ⟨wflT h flokX12, wcsT h csokX12, wlcT h lcokX12, spokX12 h, List.forall_mem_cons.mpr ⟨q975_met h, List.forall_mem_cons.mpr ⟨q873_met h, fun _ h => absurd h List.not_mem_nil⟩⟩, List.forall_mem_cons.mpr ⟨fun M hM => Option.some.inj (show some q975_M = some M from hM) ▸ wlkS (lkX12_334 h) q975_M rfl rfl, fun _ h => absurd h List.not_mem_nil⟩, List.forall_mem_cons.mpr ⟨fun M hM => Option.some.inj (show some q873_M = some M from hM) ▸ wlkV (lkX12_375 h) q873_M rfl rfl, fun _ h => absurd h List.not_mem_nil⟩, fun _ h => absurd h List.not_mem_nil, fun _ h => absurd h List.not_mem_nil⟩ dkX12_law (by decide +kernel) (by rw [h.2.2.1]; exact q1140_ok)
/-- NearSpellModel.isIn -/
def q1141_M : rfM := ((⟨"NearSpellModel", "isIn", "(III)Z"⟩, prog_14_method_35_code, 3, (some .boolean)), (0,0), ([.inl (((-2147483648),2147483647,1),none),.inl ((0,0,0),none),.inl ((4,4,0),none)],[]), [], [(some (.inl ((1,1,0),none)),[(0,0,4)],[]),(some (.inl ((0,0,0),none)),[],[])])
def q1141_P : rfP := (flX12,csX12,lcX12,spX12,[],[],[],([],[]))
def q1141_U : rfU := []
set_option maxHeartbeats 8000000 in
def q1141_N : List rfB := [(0,([(0,.inl (((-2147483648),2147483647,1),none)),(1,.inl ((0,0,0),none)),(2,.inl ((4,4,0),none))],[],[]),(10,[]),0),
  (14,([(0,.inl (((-2147483648),2147483647,1),none)),(1,.inl ((0,0,0),none)),(2,.inl ((4,4,0),none))],[],[]),(1,[]),0)]
set_option maxRecDepth 100000 in
theorem q1141_ok : rf_chkB q1141_P q1141_U wLay q1141_M ddX12_isIn [] [] [0,14] 600 q1141_N = true := by decide +kernel
set_option maxHeartbeats 4000000 in
theorem q1141_met {G : rfG} (h : okG G) : rf_met G q1141_M := rf_methodB h.1 (P := q1141_P) (U := q1141_U) (N := q1141_N) ⟨wflT h flokX12, wcsT h csokX12, wlcT h lcokX12, spokX12 h, fun _ h => absurd h List.not_mem_nil, fun _ h => absurd h List.not_mem_nil, fun _ h => absurd h List.not_mem_nil, fun _ h => absurd h List.not_mem_nil, fun _ h => absurd h List.not_mem_nil⟩ dkX12_isIn (by decide +kernel) (by rw [h.2.2.1]; exact q1141_ok)
/-- NearSpellModel.power -/
def q1142_M : rfM := ((⟨"NearSpellModel", "power", "(II)I"⟩, prog_14_method_39_code, 4, (some .int)), (0,0), ([.inl ((0,100,1),none),.inl ((0,4,1),none)],[]), [], [(some (.inl ((0,100000000,1),none)),[],[])])
def ddX12_power : List (Nat × Instr × Nat) := [(0,.iconst 1,1),(1,.istore_n 2,1),(2,.iconst 0,1),(3,.istore_n 3,1),(4,.iload_n 3,1),(5,.iload_n 1,1),(6,.if_icmp .ge 13,3),(9,.iload_n 2,1),(10,.iload_n 0,1),(11,.imul,1),(12,.istore_n 2,1),(13,.iinc 3 1,3),(16,.goto (-12),3),(19,.iload_n 2,1),(20,.ireturn,1)]
set_option maxRecDepth 100000 in
theorem dkX12_power : rf_decs prog_14_method_39_code ddX12_power := rf_decs_of (by decide +kernel)
def q1142_P : rfP := (flX12,csX12,lcX12,spX12,[],[],[],([],[]))
def q1142_U : rfU := []
set_option maxHeartbeats 8000000 in
def q1142_N : List rfB := [(0,([(0,.inl ((0,100,1),none)),(1,.inl ((0,4,1),none))],[],[]),(52,[]),0),
  (4,([(0,.inl ((0,100,1),none)),(1,.inl ((0,4,1),none)),(2,.inl ((1,1,0),none)),(3,.inl ((0,0,0),none))],[],[]),(48,[]),0),
  (4,([(0,.inl ((0,100,1),none)),(1,.inl ((1,4,1),none)),(2,.inl ((0,100,1),none)),(3,.inl ((1,1,0),none))],[],[]),(39,[]),0),
  (4,([(0,.inl ((0,100,1),none)),(1,.inl ((2,4,1),none)),(2,.inl ((0,10000,1),none)),(3,.inl ((2,2,0),none))],[],[]),(30,[]),0),
  (4,([(0,.inl ((0,100,1),none)),(1,.inl ((3,4,1),none)),(2,.inl ((0,1000000,1),none)),(3,.inl ((3,3,0),none))],[],[]),(21,[]),0),
  (4,([(0,.inl ((0,100,1),none)),(1,.inl ((4,4,1),none)),(2,.inl ((0,100000000,1),none)),(3,.inl ((4,4,0),none))],[],[]),(12,[]),0)]
set_option maxRecDepth 100000 in
theorem q1142_ok : rf_chkB q1142_P q1142_U wLay q1142_M ddX12_power [] [] [0,4] 600 q1142_N = true := by decide +kernel
set_option maxHeartbeats 4000000 in
theorem q1142_met {G : rfG} (h : okG G) : rf_met G q1142_M := rf_methodB h.1 (P := q1142_P) (U := q1142_U) (N := q1142_N) ⟨wflT h flokX12, wcsT h csokX12, wlcT h lcokX12, spokX12 h, fun _ h => absurd h List.not_mem_nil, fun _ h => absurd h List.not_mem_nil, fun _ h => absurd h List.not_mem_nil, fun _ h => absurd h List.not_mem_nil, fun _ h => absurd h List.not_mem_nil⟩ dkX12_power (by decide +kernel) (by rw [h.2.2.1]; exact q1142_ok)
/-- NearSpellModel.power -/
def q1143_M : rfM := ((⟨"NearSpellModel", "power", "(II)I"⟩, prog_14_method_39_code, 4, (some .int)), (0,0), ([.inl ((100,100,0),none),.inl ((0,4,1),none)],[]), [], [(some (.inl ((1,100000000,99),none)),[],[])])
def q1143_P : rfP := (flX12,csX12,lcX12,spX12,[],[],[],([],[]))
def q1143_U : rfU := []
set_option maxHeartbeats 8000000 in
def q1143_N : List rfB := [(0,([(0,.inl ((100,100,0),none)),(1,.inl ((0,4,1),none))],[],[]),(52,[]),0),
  (4,([(0,.inl ((100,100,0),none)),(1,.inl ((0,4,1),none)),(2,.inl ((1,1,0),none)),(3,.inl ((0,0,0),none))],[],[]),(48,[]),0),
  (4,([(0,.inl ((100,100,0),none)),(1,.inl ((1,4,1),none)),(2,.inl ((100,100,0),none)),(3,.inl ((1,1,0),none))],[],[]),(39,[]),0),
  (4,([(0,.inl ((100,100,0),none)),(1,.inl ((2,4,1),none)),(2,.inl ((10000,10000,0),none)),(3,.inl ((2,2,0),none))],[],[]),(30,[]),0),
  (4,([(0,.inl ((100,100,0),none)),(1,.inl ((3,4,1),none)),(2,.inl ((1000000,1000000,0),none)),(3,.inl ((3,3,0),none))],[],[]),(21,[]),0),
  (4,([(0,.inl ((100,100,0),none)),(1,.inl ((4,4,1),none)),(2,.inl ((100000000,100000000,0),none)),(3,.inl ((4,4,0),none))],[],[]),(12,[]),0)]
set_option maxRecDepth 100000 in
theorem q1143_ok : rf_chkB q1143_P q1143_U wLay q1143_M ddX12_power [] [] [0,4] 600 q1143_N = true := by decide +kernel
set_option maxHeartbeats 4000000 in
theorem q1143_met {G : rfG} (h : okG G) : rf_met G q1143_M := rf_methodB h.1 (P := q1143_P) (U := q1143_U) (N := q1143_N) ⟨wflT h flokX12, wcsT h csokX12, wlcT h lcokX12, spokX12 h, fun _ h => absurd h List.not_mem_nil, fun _ h => absurd h List.not_mem_nil, fun _ h => absurd h List.not_mem_nil, fun _ h => absurd h List.not_mem_nil, fun _ h => absurd h List.not_mem_nil⟩ dkX12_power (by decide +kernel) (by rw [h.2.2.1]; exact q1143_ok)
/-- NearSpellModel.divisor -/
def q1144_M : rfM := ((⟨"NearSpellModel", "divisor", "(II)I"⟩, prog_14_method_38_code, 5, (some .int)), (0,0), ([.inl ((1,387420488,1),none),.inl ((0,387420488,1),none)],[]), [], [(some (.inl ((1,387420488,1),none)),[],[])])
def ddX12_divisor : List (Nat × Instr × Nat) := [(0,.iload_n 0,1),(1,.istore_n 2,1),(2,.iload_n 1,1),(3,.istore_n 3,1),(4,.iload_n 3,1),(5,.ifCond .le 16,3),(8,.iload_n 2,1),(9,.iload_n 3,1),(10,.irem,1),(11,.istore 4,2),(13,.iload_n 3,1),(14,.istore_n 2,1),(15,.iload 4,2),(17,.istore_n 3,1),(18,.goto (-14),3),(21,.iload_n 2,1),(22,.ireturn,1)]
set_option maxRecDepth 100000 in
theorem dkX12_divisor : rf_decs prog_14_method_38_code ddX12_divisor := rf_decs_of (by decide +kernel)
def q1144_P : rfP := (flX12,csX12,lcX12,spX12,[],[],[],([],[]))
def q1144_U : rfU := []
set_option maxHeartbeats 8000000 in
def q1144_N : List rfB := [(0,([(0,.inl ((1,387420488,1),none)),(1,.inl ((0,387420488,1),none))],[],[]),(4649045873,[0]),0),
  (4,([(0,.inl ((1,387420488,1),none)),(1,.inl ((0,387420488,1),none)),(2,.inl ((1,387420488,1),none)),(3,.inl ((0,387420488,1),none))],[],[]),(11,[12]),0)]
set_option maxRecDepth 100000 in
theorem q1144_ok : rf_chkB q1144_P q1144_U wLay q1144_M ddX12_divisor [] [.inl 3] [0,4] 600 q1144_N = true := by decide +kernel
set_option maxHeartbeats 4000000 in
theorem q1144_met {G : rfG} (h : okG G) : rf_met G q1144_M := rf_methodB h.1 (P := q1144_P) (U := q1144_U) (N := q1144_N) ⟨wflT h flokX12, wcsT h csokX12, wlcT h lcokX12, spokX12 h, fun _ h => absurd h List.not_mem_nil, fun _ h => absurd h List.not_mem_nil, fun _ h => absurd h List.not_mem_nil, fun _ h => absurd h List.not_mem_nil, fun _ h => absurd h List.not_mem_nil⟩ dkX12_divisor (by decide +kernel) (by rw [h.2.2.1]; exact q1144_ok)
/-- NearSpellModel.odds -/
def q1145_M : rfM := ((⟨"NearSpellModel", "odds", "(II)I"⟩, prog_14_method_115_code, 5, (some .int)), (1,24), ([.inr (.inl [114]),.inl (((-2147483648),2147483647,1),none),.inl (((-2147483648),2147483647,1),none)],[((114,28),(0,0,0),none),((998,0),(1,1,0),none)]), [], [(some (.inl (((-2147483648),2147483647,1),none)),[],[])])
def ddX12_odds : List (Nat × Instr × Nat) := [(0,.iload_n 1,1),(1,.iconst 0,1),(2,.iconst 4,1),(3,.invokestatic 334,3),(6,.ifCond .eq 12,3),(9,.iload_n 2,1),(10,.iconst 0,1),(11,.iconst 1,1),(12,.invokestatic 334,3),(15,.ifCond .ne 5,3),(18,.iconst (-1),1),(19,.ireturn,1),(20,.bipush 100,2),(22,.aload_n 0,1),(23,.getfield 36,3),(26,.aload_n 0,1),(27,.getfield 242,3),(30,.iaload,1),(31,.isub,1),(32,.iload_n 1,1),(33,.invokestatic 477,3),(36,.istore_n 3,1),(37,.bipush 100,2),(39,.iload_n 1,1),(40,.invokestatic 477,3),(43,.istore 4,2),(45,.iload_n 2,1),(46,.ifCond .ne 7,3),(49,.iload_n 3,1),(50,.goto 5,3),(53,.iload 4,2),(55,.iload 4,2),(57,.iload_n 3,1),(58,.invokestatic 480,3),(61,.idiv,1),(62,.ireturn,1)]
set_option maxRecDepth 100000 in
theorem dkX12_odds : rf_decs prog_14_method_115_code ddX12_odds := rf_decs_of (by decide +kernel)
def q1145_P : rfP := (flX12,csX12,lcX12,spX12,[q1141_M,q1010_M,q1142_M,q1143_M,q1144_M],[(334,0),(334,1),(477,2),(477,3),(480,4)],[],([],[]))
def q1145_U : rfU := []
set_option maxHeartbeats 8000000 in
def q1145_N : List rfB := [(0,([(0,.inr (.inl [114])),(1,.inl (((-2147483648),2147483647,1),none)),(2,.inl (((-2147483648),2147483647,1),none))],[],[((114,28),(0,0,0),some ((114,28),0,0)),((998,0),(1,1,0),some ((998,0),0,0))]),(37,[]),0),
  (18,([(0,.inr (.inl [114])),(1,.inl (((-2147483648),2147483647,1),none)),(2,.inl (((-2147483648),2147483647,1),none))],[],[((114,28),(0,0,0),some ((114,28),0,0)),((998,0),(1,1,0),some ((998,0),0,0))]),(26,[]),0),
  (55,([(0,.inr (.inl [114])),(1,.inl ((0,4,1),none)),(2,.inl ((0,1,1),none)),(3,.inl ((0,100000000,1),none)),(4,.inl ((1,100000000,99),none))],[.inl ((0,100000000,1),none)],[((114,28),(0,0,0),some ((114,28),0,0)),((998,0),(1,1,0),some ((998,0),0,0))]),(4,[]),0)]
set_option maxRecDepth 100000 in
theorem q1145_ok : rf_chkB q1145_P q1145_U wLay q1145_M ddX12_odds [(3,[0]),(12,[1]),(33,[2]),(40,[3]),(58,[4])] [] [0,18,55] 600 q1145_N = true := by decide +kernel
set_option maxHeartbeats 4000000 in
theorem q1145_met {G : rfG} (h : okG G) : rf_met G q1145_M := rf_methodB h.1 (P := q1145_P) (U := q1145_U) (N := q1145_N) ⟨wflT h flokX12, wcsT h csokX12, wlcT h lcokX12, spokX12 h, List.forall_mem_cons.mpr ⟨q1141_met h, List.forall_mem_cons.mpr ⟨q1010_met h, List.forall_mem_cons.mpr ⟨q1142_met h, List.forall_mem_cons.mpr ⟨q1143_met h, List.forall_mem_cons.mpr ⟨q1144_met h, fun _ h => absurd h List.not_mem_nil⟩⟩⟩⟩⟩, List.forall_mem_cons.mpr ⟨fun M hM => Option.some.inj (show some q1141_M = some M from hM) ▸ wlkS (lkX12_334 h) q1141_M rfl rfl, List.forall_mem_cons.mpr ⟨fun M hM => Option.some.inj (show some q1010_M = some M from hM) ▸ wlkS (lkX12_334 h) q1010_M rfl rfl, List.forall_mem_cons.mpr ⟨fun M hM => Option.some.inj (show some q1142_M = some M from hM) ▸ wlkS (lkX12_477 h) q1142_M rfl rfl, List.forall_mem_cons.mpr ⟨fun M hM => Option.some.inj (show some q1143_M = some M from hM) ▸ wlkS (lkX12_477 h) q1143_M rfl rfl, List.forall_mem_cons.mpr ⟨fun M hM => Option.some.inj (show some q1144_M = some M from hM) ▸ wlkS (lkX12_480 h) q1144_M rfl rfl, fun _ h => absurd h List.not_mem_nil⟩⟩⟩⟩⟩, fun _ h => absurd h List.not_mem_nil, fun _ h => absurd h List.not_mem_nil, fun _ h => absurd h List.not_mem_nil⟩ dkX12_odds (by decide +kernel) (by rw [h.2.2.1]; exact q1145_ok)
/-- NearSpellModel.odds -/
def q1146_M : rfM := ((⟨"NearSpellModel", "odds", "(II)I"⟩, prog_14_method_115_code, 5, (some .int)), (1,24), ([.inr (.inl [114]),.inl (((-2147483648),2147483647,1),none),.inl (((-2147483648),2147483647,1),none)],[((77,1),(1,31,1),none),((114,28),(1,1,0),none),((998,0),(1,1,0),none)]), [], [(some (.inl (((-2147483648),2147483647,1),none)),[],[])])
def q1146_P : rfP := (flX12,csX12,lcX12,spX12,[q1141_M,q1010_M,q1142_M,q1143_M,q1144_M],[(334,0),(334,1),(477,2),(477,3),(480,4)],[],([],[]))
def q1146_U : rfU := []
set_option maxHeartbeats 8000000 in
def q1146_N : List rfB := [(0,([(0,.inr (.inl [114])),(1,.inl (((-2147483648),2147483647,1),none)),(2,.inl (((-2147483648),2147483647,1),none))],[],[((77,1),(1,31,1),some ((77,1),0,0)),((114,28),(1,1,0),some ((114,28),0,0)),((998,0),(1,1,0),some ((998,0),0,0))]),(37,[]),0),
  (18,([(0,.inr (.inl [114])),(1,.inl (((-2147483648),2147483647,1),none)),(2,.inl (((-2147483648),2147483647,1),none))],[],[((77,1),(1,31,1),some ((77,1),0,0)),((114,28),(1,1,0),some ((114,28),0,0)),((998,0),(1,1,0),some ((998,0),0,0))]),(26,[]),0),
  (55,([(0,.inr (.inl [114])),(1,.inl ((0,4,1),none)),(2,.inl ((0,1,1),none)),(3,.inl ((0,100000000,1),none)),(4,.inl ((1,100000000,99),none))],[.inl ((0,100000000,1),none)],[((77,1),(1,31,1),some ((77,1),0,0)),((114,28),(1,1,0),some ((114,28),0,0)),((998,0),(1,1,0),some ((998,0),0,0))]),(4,[]),0)]
set_option maxRecDepth 100000 in
theorem q1146_ok : rf_chkB q1146_P q1146_U wLay q1146_M ddX12_odds [(3,[0]),(12,[1]),(33,[2]),(40,[3]),(58,[4])] [] [0,18,55] 600 q1146_N = true := by decide +kernel
set_option maxHeartbeats 4000000 in
theorem q1146_met {G : rfG} (h : okG G) : rf_met G q1146_M := rf_methodB h.1 (P := q1146_P) (U := q1146_U) (N := q1146_N) ⟨wflT h flokX12, wcsT h csokX12, wlcT h lcokX12, spokX12 h, List.forall_mem_cons.mpr ⟨q1141_met h, List.forall_mem_cons.mpr ⟨q1010_met h, List.forall_mem_cons.mpr ⟨q1142_met h, List.forall_mem_cons.mpr ⟨q1143_met h, List.forall_mem_cons.mpr ⟨q1144_met h, fun _ h => absurd h List.not_mem_nil⟩⟩⟩⟩⟩, List.forall_mem_cons.mpr ⟨fun M hM => Option.some.inj (show some q1141_M = some M from hM) ▸ wlkS (lkX12_334 h) q1141_M rfl rfl, List.forall_mem_cons.mpr ⟨fun M hM => Option.some.inj (show some q1010_M = some M from hM) ▸ wlkS (lkX12_334 h) q1010_M rfl rfl, List.forall_mem_cons.mpr ⟨fun M hM => Option.some.inj (show some q1142_M = some M from hM) ▸ wlkS (lkX12_477 h) q1142_M rfl rfl, List.forall_mem_cons.mpr ⟨fun M hM => Option.some.inj (show some q1143_M = some M from hM) ▸ wlkS (lkX12_477 h) q1143_M rfl rfl, List.forall_mem_cons.mpr ⟨fun M hM => Option.some.inj (show some q1144_M = some M from hM) ▸ wlkS (lkX12_480 h) q1144_M rfl rfl, fun _ h => absurd h List.not_mem_nil⟩⟩⟩⟩⟩, fun _ h => absurd h List.not_mem_nil, fun _ h => absurd h List.not_mem_nil, fun _ h => absurd h List.not_mem_nil⟩ dkX12_odds (by decide +kernel) (by rw [h.2.2.1]; exact q1146_ok)
/-- NearSpellModel.isIn -/
def q1147_M : rfM := ((⟨"NearSpellModel", "isIn", "(III)Z"⟩, prog_14_method_35_code, 3, (some .boolean)), (0,0), ([.inl (((-2147483648),2147483647,1),none),.inl ((0,0,0),none),.inl (((-1),63,1),none)],[]), [], [(some (.inl ((1,1,0),none)),[(0,0,63),(2,0,63)],[]),(some (.inl ((0,0,0),none)),[],[])])
def q1147_P : rfP := (flX12,csX12,lcX12,spX12,[],[],[],([],[]))
def q1147_U : rfU := []
set_option maxHeartbeats 8000000 in
def q1147_N : List rfB := [(0,([(0,.inl (((-2147483648),2147483647,1),none)),(1,.inl ((0,0,0),none)),(2,.inl (((-1),63,1),none))],[],[]),(10,[]),0),
  (14,([(0,.inl (((-2147483648),2147483647,1),none)),(1,.inl ((0,0,0),none)),(2,.inl (((-1),63,1),none))],[],[]),(1,[]),0)]
set_option maxRecDepth 100000 in
theorem q1147_ok : rf_chkB q1147_P q1147_U wLay q1147_M ddX12_isIn [] [] [0,14] 600 q1147_N = true := by decide +kernel
set_option maxHeartbeats 4000000 in
theorem q1147_met {G : rfG} (h : okG G) : rf_met G q1147_M := rf_methodB h.1 (P := q1147_P) (U := q1147_U) (N := q1147_N) ⟨wflT h flokX12, wcsT h csokX12, wlcT h lcokX12, spokX12 h, fun _ h => absurd h List.not_mem_nil, fun _ h => absurd h List.not_mem_nil, fun _ h => absurd h List.not_mem_nil, fun _ h => absurd h List.not_mem_nil, fun _ h => absurd h List.not_mem_nil⟩ dkX12_isIn (by decide +kernel) (by rw [h.2.2.1]; exact q1147_ok)
/-- NearSpellModel.lies -/
def q1148_M : rfM := ((⟨"NearSpellModel", "lies", "(I)I"⟩, prog_14_method_71_code, 2, (some .int)), (1,22), ([.inr (.inl [114]),.inl (((-2147483648),2147483647,1),none)],[((114,28),(0,0,0),none),((998,0),(1,1,0),none)]), [], [(some (.inl (((-2147483648),2147483647,1),none)),[],[])])
def ddX12_lies : List (Nat × Instr × Nat) := [(0,.iload_n 1,1),(1,.iconst 0,1),(2,.aload_n 0,1),(3,.getfield 347,3),(6,.iconst 1,1),(7,.isub,1),(8,.invokestatic 334,3),(11,.ifCond .eq 12,3),(14,.aload_n 0,1),(15,.getfield 99,3),(18,.iload_n 1,1),(19,.iaload,1),(20,.goto 5,3),(23,.bipush (-2),2),(25,.ireturn,1)]
set_option maxRecDepth 100000 in
theorem dkX12_lies : rf_decs prog_14_method_71_code ddX12_lies := rf_decs_of (by decide +kernel)
def q1148_P : rfP := (flX12,csX12,lcX12,spX12,[q1147_M],[(334,0)],[],([],[]))
def q1148_U : rfU := []
set_option maxHeartbeats 8000000 in
def q1148_N : List rfB := [(0,([(0,.inr (.inl [114])),(1,.inl (((-2147483648),2147483647,1),none))],[],[((114,28),(0,0,0),some ((114,28),0,0)),((998,0),(1,1,0),some ((998,0),0,0))]),(16,[]),0)]
set_option maxRecDepth 100000 in
theorem q1148_ok : rf_chkB q1148_P q1148_U wLay q1148_M ddX12_lies [(8,[0])] [] [0] 600 q1148_N = true := by decide +kernel
set_option maxHeartbeats 4000000 in
theorem q1148_met {G : rfG} (h : okG G) : rf_met G q1148_M := rf_methodB h.1 (P := q1148_P) (U := q1148_U) (N := q1148_N) ⟨wflT h flokX12, wcsT h csokX12, wlcT h lcokX12, spokX12 h, List.forall_mem_cons.mpr ⟨q1147_met h, fun _ h => absurd h List.not_mem_nil⟩, List.forall_mem_cons.mpr ⟨fun M hM => Option.some.inj (show some q1147_M = some M from hM) ▸ wlkS (lkX12_334 h) q1147_M rfl rfl, fun _ h => absurd h List.not_mem_nil⟩, fun _ h => absurd h List.not_mem_nil, fun _ h => absurd h List.not_mem_nil, fun _ h => absurd h List.not_mem_nil⟩ dkX12_lies (by decide +kernel) (by rw [h.2.2.1]; exact q1148_ok)
/-- NearSpellModel.lies -/
def q1149_M : rfM := ((⟨"NearSpellModel", "lies", "(I)I"⟩, prog_14_method_71_code, 2, (some .int)), (1,22), ([.inr (.inl [114]),.inl (((-2147483648),2147483647,1),none)],[((77,1),(1,31,1),none),((114,28),(1,1,0),none),((998,0),(1,1,0),none)]), [], [(some (.inl (((-2147483648),2147483647,1),none)),[],[])])
def q1149_P : rfP := (flX12,csX12,lcX12,spX12,[q1147_M],[(334,0)],[],([],[]))
def q1149_U : rfU := []
set_option maxHeartbeats 8000000 in
def q1149_N : List rfB := [(0,([(0,.inr (.inl [114])),(1,.inl (((-2147483648),2147483647,1),none))],[],[((77,1),(1,31,1),some ((77,1),0,0)),((114,28),(1,1,0),some ((114,28),0,0)),((998,0),(1,1,0),some ((998,0),0,0))]),(16,[]),0)]
set_option maxRecDepth 100000 in
theorem q1149_ok : rf_chkB q1149_P q1149_U wLay q1149_M ddX12_lies [(8,[0])] [] [0] 600 q1149_N = true := by decide +kernel
set_option maxHeartbeats 4000000 in
theorem q1149_met {G : rfG} (h : okG G) : rf_met G q1149_M := rf_methodB h.1 (P := q1149_P) (U := q1149_U) (N := q1149_N) ⟨wflT h flokX12, wcsT h csokX12, wlcT h lcokX12, spokX12 h, List.forall_mem_cons.mpr ⟨q1147_met h, fun _ h => absurd h List.not_mem_nil⟩, List.forall_mem_cons.mpr ⟨fun M hM => Option.some.inj (show some q1147_M = some M from hM) ▸ wlkS (lkX12_334 h) q1147_M rfl rfl, fun _ h => absurd h List.not_mem_nil⟩, fun _ h => absurd h List.not_mem_nil, fun _ h => absurd h List.not_mem_nil, fun _ h => absurd h List.not_mem_nil⟩ dkX12_lies (by decide +kernel) (by rw [h.2.2.1]; exact q1149_ok)
/-- NearSpellModel.seen -/
def q1150_M : rfM := ((⟨"NearSpellModel", "seen", "(IIZ)I"⟩, prog_14_method_117_code, 4, (some .int)), (2,43), ([.inr (.inl [114]),.inl (((-2147483648),2147483647,1),none),.inl (((-2147483648),2147483647,1),none),.inl ((0,1,1),none)],[((114,28),(0,0,0),none),((998,0),(1,1,0),none)]), [(106,0),(107,0),(108,0),(109,0),(110,0),(114,64)], [(some (.inl (((-1),29,1),none)),[],[])])
def ddX12_seen : List (Nat × Instr × Nat) := [(0,.iload_n 1,1),(1,.invokestatic 420,3),(4,.ifCond .eq 34,3),(7,.iload_n 2,1),(8,.iconst 0,1),(9,.bipush 6,2),(11,.invokestatic 334,3),(14,.ifCond .eq 24,3),(17,.aload_n 0,1),(18,.getfield 344,3),(21,.bipush 30,2),(23,.if_icmp .eq 15,3),(26,.aload_n 0,1),(27,.getfield 20,3),(30,.aload_n 0,1),(31,.getfield 242,3),(34,.iaload,1),(35,.ifCond .ne 5,3),(38,.iconst (-1),1),(39,.ireturn,1),(40,.aload_n 0,1),(41,.getfield 120,3),(44,.aload_n 0,1),(45,.getfield 344,3),(48,.iload_n 1,1),(49,.iastore,1),(50,.aload_n 0,1),(51,.getfield 123,3),(54,.aload_n 0,1),(55,.getfield 344,3),(58,.iload_n 2,1),(59,.iastore,1),(60,.aload_n 0,1),(61,.getfield 126,3),(64,.aload_n 0,1),(65,.getfield 344,3),(68,.iload_n 3,1),(69,.ifCond .eq 7,3),(72,.iconst 1,1),(73,.goto 4,3),(76,.iconst 0,1),(77,.iastore,1),(78,.aload_n 0,1),(79,.getfield 129,3),(82,.aload_n 0,1),(83,.getfield 344,3),(86,.aload_n 0,1),(87,.getfield 483,3),(90,.iastore,1),(91,.aload_n 0,1),(92,.getfield 132,3),(95,.aload_n 0,1),(96,.getfield 344,3),(99,.iconst (-1),1),(100,.iastore,1),(101,.aload_n 0,1),(102,.dup,1),(103,.getfield 344,3),(106,.iconst 1,1),(107,.iadd,1),(108,.putfield 344,3),(111,.aload_n 0,1),(112,.getfield 344,3),(115,.iconst 1,1),(116,.isub,1),(117,.ireturn,1)]
set_option maxRecDepth 100000 in
theorem dkX12_seen : rf_decs prog_14_method_117_code ddX12_seen := rf_decs_of (by decide +kernel)
def q1150_P : rfP := (flX12,csX12,lcX12,spX12,[q810_M,q994_M],[(334,1),(420,0)],[],([],[]))
def q1150_U : rfU := []
set_option maxHeartbeats 8000000 in
def q1150_N : List rfB := [(0,([(0,.inr (.inl [114])),(1,.inl (((-2147483648),2147483647,1),none)),(2,.inl (((-2147483648),2147483647,1),none)),(3,.inl ((0,1,1),none))],[],[((114,28),(0,0,0),some ((114,28),0,0)),((998,0),(1,1,0),some ((998,0),0,0))]),(68,[]),0),
  (38,([(0,.inr (.inl [114])),(1,.inl (((-2147483648),2147483647,1),none)),(2,.inl (((-2147483648),2147483647,1),none)),(3,.inl ((0,1,1),none))],[],[((114,28),(0,0,0),some ((114,28),0,0)),((998,0),(1,1,0),some ((998,0),0,0))]),(1,[]),0),
  (78,([(0,.inr (.inl [114])),(1,.inl ((0,387420488,1),none)),(2,.inl ((0,6,1),none)),(3,.inl ((0,1,1),none))],[],[((73,0),(1,10,1),none),((114,28),(0,0,0),some ((114,28),0,0)),((114,63),(0,29,1),none),((998,0),(1,1,0),some ((998,0),0,0))]),(26,[]),0)]
set_option maxRecDepth 100000 in
theorem q1150_ok : rf_chkB q1150_P q1150_U wLay q1150_M ddX12_seen [(1,[0]),(11,[1])] [] [0,38,78] 600 q1150_N = true := by decide +kernel
set_option maxHeartbeats 4000000 in
theorem q1150_met {G : rfG} (h : okG G) : rf_met G q1150_M := rf_methodB h.1 (P := q1150_P) (U := q1150_U) (N := q1150_N) ⟨wflT h flokX12, wcsT h csokX12, wlcT h lcokX12, spokX12 h, List.forall_mem_cons.mpr ⟨q810_met h, List.forall_mem_cons.mpr ⟨q994_met h, fun _ h => absurd h List.not_mem_nil⟩⟩, List.forall_mem_cons.mpr ⟨fun M hM => Option.some.inj (show some q994_M = some M from hM) ▸ wlkS (lkX12_334 h) q994_M rfl rfl, List.forall_mem_cons.mpr ⟨fun M hM => Option.some.inj (show some q810_M = some M from hM) ▸ wlkS (lkX12_420 h) q810_M rfl rfl, fun _ h => absurd h List.not_mem_nil⟩⟩, fun _ h => absurd h List.not_mem_nil, fun _ h => absurd h List.not_mem_nil, fun _ h => absurd h List.not_mem_nil⟩ dkX12_seen (by decide +kernel) (by rw [h.2.2.1]; exact q1150_ok)
/-- NearSpellModel.seen -/
def q1151_M : rfM := ((⟨"NearSpellModel", "seen", "(IIZ)I"⟩, prog_14_method_117_code, 4, (some .int)), (2,43), ([.inr (.inl [114]),.inl (((-2147483648),2147483647,1),none),.inl (((-2147483648),2147483647,1),none),.inl ((0,1,1),none)],[((77,1),(1,31,1),none),((114,28),(1,1,0),none),((998,0),(1,1,0),none)]), [(106,0),(107,0),(108,0),(109,0),(110,0),(114,64)], [(some (.inl (((-1),29,1),none)),[],[])])
def q1151_P : rfP := (flX12,csX12,lcX12,spX12,[q810_M,q994_M],[(334,1),(420,0)],[],([],[]))
def q1151_U : rfU := []
set_option maxHeartbeats 8000000 in
def q1151_N : List rfB := [(0,([(0,.inr (.inl [114])),(1,.inl (((-2147483648),2147483647,1),none)),(2,.inl (((-2147483648),2147483647,1),none)),(3,.inl ((0,1,1),none))],[],[((77,1),(1,31,1),some ((77,1),0,0)),((114,28),(1,1,0),some ((114,28),0,0)),((998,0),(1,1,0),some ((998,0),0,0))]),(68,[]),0),
  (38,([(0,.inr (.inl [114])),(1,.inl (((-2147483648),2147483647,1),none)),(2,.inl (((-2147483648),2147483647,1),none)),(3,.inl ((0,1,1),none))],[],[((77,1),(1,31,1),some ((77,1),0,0)),((114,28),(1,1,0),some ((114,28),0,0)),((998,0),(1,1,0),some ((998,0),0,0))]),(1,[]),0),
  (78,([(0,.inr (.inl [114])),(1,.inl ((0,387420488,1),none)),(2,.inl ((0,6,1),none)),(3,.inl ((0,1,1),none))],[],[((73,1),(1,10,1),none),((77,1),(1,31,1),some ((77,1),0,0)),((114,28),(1,1,0),some ((114,28),0,0)),((114,63),(0,29,1),none),((998,0),(1,1,0),some ((998,0),0,0))]),(26,[]),0)]
set_option maxRecDepth 100000 in
theorem q1151_ok : rf_chkB q1151_P q1151_U wLay q1151_M ddX12_seen [(1,[0]),(11,[1])] [] [0,38,78] 600 q1151_N = true := by decide +kernel
set_option maxHeartbeats 4000000 in
theorem q1151_met {G : rfG} (h : okG G) : rf_met G q1151_M := rf_methodB h.1 (P := q1151_P) (U := q1151_U) (N := q1151_N) ⟨wflT h flokX12, wcsT h csokX12, wlcT h lcokX12, spokX12 h, List.forall_mem_cons.mpr ⟨q810_met h, List.forall_mem_cons.mpr ⟨q994_met h, fun _ h => absurd h List.not_mem_nil⟩⟩, List.forall_mem_cons.mpr ⟨fun M hM => Option.some.inj (show some q994_M = some M from hM) ▸ wlkS (lkX12_334 h) q994_M rfl rfl, List.forall_mem_cons.mpr ⟨fun M hM => Option.some.inj (show some q810_M = some M from hM) ▸ wlkS (lkX12_420 h) q810_M rfl rfl, fun _ h => absurd h List.not_mem_nil⟩⟩, fun _ h => absurd h List.not_mem_nil, fun _ h => absurd h List.not_mem_nil, fun _ h => absurd h List.not_mem_nil⟩ dkX12_seen (by decide +kernel) (by rw [h.2.2.1]; exact q1151_ok)
/-- NearSpellModel.isIn -/
def q1152_M : rfM := ((⟨"NearSpellModel", "isIn", "(III)Z"⟩, prog_14_method_35_code, 3, (some .boolean)), (0,0), ([.inl (((-2147483648),2147483647,1),none),.inl ((0,0,0),none),.inl (((-1),29,1),none)],[]), [], [(some (.inl ((1,1,0),none)),[(0,0,29),(2,0,29)],[]),(some (.inl ((0,0,0),none)),[],[])])
def q1152_P : rfP := (flX12,csX12,lcX12,spX12,[],[],[],([],[]))
def q1152_U : rfU := []
set_option maxHeartbeats 8000000 in
def q1152_N : List rfB := [(0,([(0,.inl (((-2147483648),2147483647,1),none)),(1,.inl ((0,0,0),none)),(2,.inl (((-1),29,1),none))],[],[]),(10,[]),0),
  (14,([(0,.inl (((-2147483648),2147483647,1),none)),(1,.inl ((0,0,0),none)),(2,.inl (((-1),29,1),none))],[],[]),(1,[]),0)]
set_option maxRecDepth 100000 in
theorem q1152_ok : rf_chkB q1152_P q1152_U wLay q1152_M ddX12_isIn [] [] [0,14] 600 q1152_N = true := by decide +kernel
set_option maxHeartbeats 4000000 in
theorem q1152_met {G : rfG} (h : okG G) : rf_met G q1152_M := rf_methodB h.1 (P := q1152_P) (U := q1152_U) (N := q1152_N) ⟨wflT h flokX12, wcsT h csokX12, wlcT h lcokX12, spokX12 h, fun _ h => absurd h List.not_mem_nil, fun _ h => absurd h List.not_mem_nil, fun _ h => absurd h List.not_mem_nil, fun _ h => absurd h List.not_mem_nil, fun _ h => absurd h List.not_mem_nil⟩ dkX12_isIn (by decide +kernel) (by rw [h.2.2.1]; exact q1152_ok)
/-- NearSpellModel.untell -/
def q1153_M : rfM := ((⟨"NearSpellModel", "untell", "(I)Z"⟩, prog_14_method_118_code, 2, (some .boolean)), (1,22), ([.inr (.inl [114]),.inl (((-2147483648),2147483647,1),none)],[((114,28),(0,0,0),none),((998,0),(1,1,0),none)]), [(110,0)], [(some (.inl ((0,0,0),none)),[],[]),(some (.inl ((1,1,0),none)),[(1,0,29)],[((114,63),(1,30,1),none)])])
def ddX12_untell : List (Nat × Instr × Nat) := [(0,.iload_n 1,1),(1,.iconst 0,1),(2,.aload_n 0,1),(3,.getfield 344,3),(6,.iconst 1,1),(7,.isub,1),(8,.invokestatic 334,3),(11,.ifCond .eq 12,3),(14,.aload_n 0,1),(15,.getfield 132,3),(18,.iload_n 1,1),(19,.iaload,1),(20,.ifCond .lt 5,3),(23,.iconst 0,1),(24,.ireturn,1),(25,.aload_n 0,1),(26,.getfield 132,3),(29,.iload_n 1,1),(30,.aload_n 0,1),(31,.getfield 483,3),(34,.iastore,1),(35,.iconst 1,1),(36,.ireturn,1)]
set_option maxRecDepth 100000 in
theorem dkX12_untell : rf_decs prog_14_method_118_code ddX12_untell := rf_decs_of (by decide +kernel)
def q1153_P : rfP := (flX12,csX12,lcX12,spX12,[q1152_M],[(334,0)],[],([],[]))
def q1153_U : rfU := []
set_option maxHeartbeats 8000000 in
def q1153_N : List rfB := [(0,([(0,.inr (.inl [114])),(1,.inl (((-2147483648),2147483647,1),none))],[],[((114,28),(0,0,0),some ((114,28),0,0)),((998,0),(1,1,0),some ((998,0),0,0))]),(23,[]),0),
  (23,([(0,.inr (.inl [114])),(1,.inl (((-2147483648),2147483647,1),none))],[],[((114,28),(0,0,0),some ((114,28),0,0)),((998,0),(1,1,0),some ((998,0),0,0))]),(9,[]),0)]
set_option maxRecDepth 100000 in
theorem q1153_ok : rf_chkB q1153_P q1153_U wLay q1153_M ddX12_untell [(8,[0])] [] [0,23] 600 q1153_N = true := by decide +kernel
set_option maxHeartbeats 4000000 in
theorem q1153_met {G : rfG} (h : okG G) : rf_met G q1153_M := rf_methodB h.1 (P := q1153_P) (U := q1153_U) (N := q1153_N) ⟨wflT h flokX12, wcsT h csokX12, wlcT h lcokX12, spokX12 h, List.forall_mem_cons.mpr ⟨q1152_met h, fun _ h => absurd h List.not_mem_nil⟩, List.forall_mem_cons.mpr ⟨fun M hM => Option.some.inj (show some q1152_M = some M from hM) ▸ wlkS (lkX12_334 h) q1152_M rfl rfl, fun _ h => absurd h List.not_mem_nil⟩, fun _ h => absurd h List.not_mem_nil, fun _ h => absurd h List.not_mem_nil, fun _ h => absurd h List.not_mem_nil⟩ dkX12_untell (by decide +kernel) (by rw [h.2.2.1]; exact q1153_ok)
/-- NearSpellModel.untell -/
def q1154_M : rfM := ((⟨"NearSpellModel", "untell", "(I)Z"⟩, prog_14_method_118_code, 2, (some .boolean)), (1,22), ([.inr (.inl [114]),.inl (((-2147483648),2147483647,1),none)],[((77,1),(1,31,1),none),((114,28),(1,1,0),none),((998,0),(1,1,0),none)]), [(110,0)], [(some (.inl ((0,0,0),none)),[],[]),(some (.inl ((1,1,0),none)),[(1,0,29)],[((114,63),(1,30,1),none)])])
def q1154_P : rfP := (flX12,csX12,lcX12,spX12,[q1152_M],[(334,0)],[],([],[]))
def q1154_U : rfU := []
set_option maxHeartbeats 8000000 in
def q1154_N : List rfB := [(0,([(0,.inr (.inl [114])),(1,.inl (((-2147483648),2147483647,1),none))],[],[((77,1),(1,31,1),some ((77,1),0,0)),((114,28),(1,1,0),some ((114,28),0,0)),((998,0),(1,1,0),some ((998,0),0,0))]),(23,[]),0),
  (23,([(0,.inr (.inl [114])),(1,.inl (((-2147483648),2147483647,1),none))],[],[((77,1),(1,31,1),some ((77,1),0,0)),((114,28),(1,1,0),some ((114,28),0,0)),((998,0),(1,1,0),some ((998,0),0,0))]),(9,[]),0)]
set_option maxRecDepth 100000 in
theorem q1154_ok : rf_chkB q1154_P q1154_U wLay q1154_M ddX12_untell [(8,[0])] [] [0,23] 600 q1154_N = true := by decide +kernel
set_option maxHeartbeats 4000000 in
theorem q1154_met {G : rfG} (h : okG G) : rf_met G q1154_M := rf_methodB h.1 (P := q1154_P) (U := q1154_U) (N := q1154_N) ⟨wflT h flokX12, wcsT h csokX12, wlcT h lcokX12, spokX12 h, List.forall_mem_cons.mpr ⟨q1152_met h, fun _ h => absurd h List.not_mem_nil⟩, List.forall_mem_cons.mpr ⟨fun M hM => Option.some.inj (show some q1152_M = some M from hM) ▸ wlkS (lkX12_334 h) q1152_M rfl rfl, fun _ h => absurd h List.not_mem_nil⟩, fun _ h => absurd h List.not_mem_nil, fun _ h => absurd h List.not_mem_nil, fun _ h => absurd h List.not_mem_nil⟩ dkX12_untell (by decide +kernel) (by rw [h.2.2.1]; exact q1154_ok)
/-- NearSpellModel.doesCount -/
def q1155_M : rfM := ((⟨"NearSpellModel", "doesCount", "(II)Z"⟩, prog_14_method_120_code, 3, (some .boolean)), (0,0), ([.inr (.inl [114]),.inl ((0,0,0),none),.inl (((-2147483648),2147483647,1),none)],[]), [], [(some (.inl ((1,1,0),none)),[],[]),(some (.inl ((0,0,0),none)),[],[])])
def ddX12_doesCount : List (Nat × Instr × Nat) := [(0,.aload_n 0,1),(1,.getfield 129,3),(4,.iload_n 1,1),(5,.iaload,1),(6,.iload_n 2,1),(7,.if_icmp .gt 26,3),(10,.aload_n 0,1),(11,.getfield 132,3),(14,.iload_n 1,1),(15,.iaload,1),(16,.ifCond .lt 13,3),(19,.aload_n 0,1),(20,.getfield 132,3),(23,.iload_n 1,1),(24,.iaload,1),(25,.iload_n 2,1),(26,.if_icmp .le 7,3),(29,.iconst 1,1),(30,.goto 4,3),(33,.iconst 0,1),(34,.ireturn,1)]
set_option maxRecDepth 100000 in
theorem dkX12_doesCount : rf_decs prog_14_method_120_code ddX12_doesCount := rf_decs_of (by decide +kernel)
def q1155_P : rfP := (flX12,csX12,lcX12,spX12,[],[],[],([],[]))
def q1155_U : rfU := []
set_option maxHeartbeats 8000000 in
def q1155_N : List rfB := [(0,([(0,.inr (.inl [114])),(1,.inl ((0,0,0),none)),(2,.inl (((-2147483648),2147483647,1),none))],[],[]),(21,[]),0),
  (33,([(0,.inr (.inl [114])),(1,.inl ((0,0,0),none)),(2,.inl (((-2147483648),2147483647,1),none))],[],[]),(1,[]),0),
  (29,([(0,.inr (.inl [114])),(1,.inl ((0,0,0),none)),(2,.inl (((-2147483648),2147483647,1),none))],[],[]),(4,[]),0)]
set_option maxRecDepth 100000 in
theorem q1155_ok : rf_chkB q1155_P q1155_U wLay q1155_M ddX12_doesCount [] [] [0,29,33] 600 q1155_N = true := by decide +kernel
set_option maxHeartbeats 4000000 in
theorem q1155_met {G : rfG} (h : okG G) : rf_met G q1155_M := rf_methodB h.1 (P := q1155_P) (U := q1155_U) (N := q1155_N) ⟨wflT h flokX12, wcsT h csokX12, wlcT h lcokX12, spokX12 h, fun _ h => absurd h List.not_mem_nil, fun _ h => absurd h List.not_mem_nil, fun _ h => absurd h List.not_mem_nil, fun _ h => absurd h List.not_mem_nil, fun _ h => absurd h List.not_mem_nil⟩ dkX12_doesCount (by decide +kernel) (by rw [h.2.2.1]; exact q1155_ok)
/-- NearSpellModel.wordOf -/
def q1156_M : rfM := ((⟨"NearSpellModel", "wordOf", "(I)I"⟩, prog_14_method_116_code, 2, (some .int)), (0,0), ([.inr (.inl [114]),.inl ((0,0,0),none)],[((114,28),(0,0,0),none)]), [], [(some (.inl ((0,387420488,1),none)),[],[])])
def ddX12_wordOf : List (Nat × Instr × Nat) := [(0,.aload_n 0,1),(1,.getfield 45,3),(4,.bipush 10,2),(6,.aload_n 0,1),(7,.getfield 242,3),(10,.imul,1),(11,.iload_n 1,1),(12,.iadd,1),(13,.iaload,1),(14,.ireturn,1)]
set_option maxRecDepth 100000 in
theorem dkX12_wordOf : rf_decs prog_14_method_116_code ddX12_wordOf := rf_decs_of (by decide +kernel)
def q1156_P : rfP := (flX12,csX12,lcX12,spX12,[],[],[],([],[]))
def q1156_U : rfU := []
set_option maxHeartbeats 8000000 in
def q1156_N : List rfB := [(0,([(0,.inr (.inl [114])),(1,.inl ((0,0,0),none))],[],[((114,28),(0,0,0),some ((114,28),0,0))]),(9,[]),0)]
set_option maxRecDepth 100000 in
theorem q1156_ok : rf_chkB q1156_P q1156_U wLay q1156_M ddX12_wordOf [] [] [0] 600 q1156_N = true := by decide +kernel
set_option maxHeartbeats 4000000 in
theorem q1156_met {G : rfG} (h : okG G) : rf_met G q1156_M := rf_methodB h.1 (P := q1156_P) (U := q1156_U) (N := q1156_N) ⟨wflT h flokX12, wcsT h csokX12, wlcT h lcokX12, spokX12 h, fun _ h => absurd h List.not_mem_nil, fun _ h => absurd h List.not_mem_nil, fun _ h => absurd h List.not_mem_nil, fun _ h => absurd h List.not_mem_nil, fun _ h => absurd h List.not_mem_nil⟩ dkX12_wordOf (by decide +kernel) (by rw [h.2.2.1]; exact q1156_ok)
/-- NearSpellModel.doesCount -/
def q1157_M : rfM := ((⟨"NearSpellModel", "doesCount", "(II)Z"⟩, prog_14_method_120_code, 3, (some .boolean)), (0,0), ([.inr (.inl [114]),.inl ((0,1,1),none),.inl (((-2147483648),2147483647,1),none)],[]), [], [(some (.inl ((1,1,0),none)),[],[]),(some (.inl ((0,0,0),none)),[],[])])
def q1157_P : rfP := (flX12,csX12,lcX12,spX12,[],[],[],([],[]))
def q1157_U : rfU := []
set_option maxHeartbeats 8000000 in
def q1157_N : List rfB := [(0,([(0,.inr (.inl [114])),(1,.inl ((0,1,1),none)),(2,.inl (((-2147483648),2147483647,1),none))],[],[]),(21,[]),0),
  (33,([(0,.inr (.inl [114])),(1,.inl ((0,1,1),none)),(2,.inl (((-2147483648),2147483647,1),none))],[],[]),(1,[]),0),
  (29,([(0,.inr (.inl [114])),(1,.inl ((0,1,1),none)),(2,.inl (((-2147483648),2147483647,1),none))],[],[]),(4,[]),0)]
set_option maxRecDepth 100000 in
theorem q1157_ok : rf_chkB q1157_P q1157_U wLay q1157_M ddX12_doesCount [] [] [0,29,33] 600 q1157_N = true := by decide +kernel
set_option maxHeartbeats 4000000 in
theorem q1157_met {G : rfG} (h : okG G) : rf_met G q1157_M := rf_methodB h.1 (P := q1157_P) (U := q1157_U) (N := q1157_N) ⟨wflT h flokX12, wcsT h csokX12, wlcT h lcokX12, spokX12 h, fun _ h => absurd h List.not_mem_nil, fun _ h => absurd h List.not_mem_nil, fun _ h => absurd h List.not_mem_nil, fun _ h => absurd h List.not_mem_nil, fun _ h => absurd h List.not_mem_nil⟩ dkX12_doesCount (by decide +kernel) (by rw [h.2.2.1]; exact q1157_ok)
/-- NearSpellModel.doesCount -/
def q1158_M : rfM := ((⟨"NearSpellModel", "doesCount", "(II)Z"⟩, prog_14_method_120_code, 3, (some .boolean)), (0,0), ([.inr (.inl [114]),.inl ((0,2,1),none),.inl (((-2147483648),2147483647,1),none)],[]), [], [(some (.inl ((1,1,0),none)),[],[]),(some (.inl ((0,0,0),none)),[],[])])
def q1158_P : rfP := (flX12,csX12,lcX12,spX12,[],[],[],([],[]))
def q1158_U : rfU := []
set_option maxHeartbeats 8000000 in
def q1158_N : List rfB := [(0,([(0,.inr (.inl [114])),(1,.inl ((0,2,1),none)),(2,.inl (((-2147483648),2147483647,1),none))],[],[]),(21,[]),0),
  (33,([(0,.inr (.inl [114])),(1,.inl ((0,2,1),none)),(2,.inl (((-2147483648),2147483647,1),none))],[],[]),(1,[]),0),
  (29,([(0,.inr (.inl [114])),(1,.inl ((0,2,1),none)),(2,.inl (((-2147483648),2147483647,1),none))],[],[]),(4,[]),0)]
set_option maxRecDepth 100000 in
theorem q1158_ok : rf_chkB q1158_P q1158_U wLay q1158_M ddX12_doesCount [] [] [0,29,33] 600 q1158_N = true := by decide +kernel
set_option maxHeartbeats 4000000 in
theorem q1158_met {G : rfG} (h : okG G) : rf_met G q1158_M := rf_methodB h.1 (P := q1158_P) (U := q1158_U) (N := q1158_N) ⟨wflT h flokX12, wcsT h csokX12, wlcT h lcokX12, spokX12 h, fun _ h => absurd h List.not_mem_nil, fun _ h => absurd h List.not_mem_nil, fun _ h => absurd h List.not_mem_nil, fun _ h => absurd h List.not_mem_nil, fun _ h => absurd h List.not_mem_nil⟩ dkX12_doesCount (by decide +kernel) (by rw [h.2.2.1]; exact q1158_ok)
/-- NearSpellModel.doesCount -/
def q1159_M : rfM := ((⟨"NearSpellModel", "doesCount", "(II)Z"⟩, prog_14_method_120_code, 3, (some .boolean)), (0,0), ([.inr (.inl [114]),.inl ((0,3,1),none),.inl (((-2147483648),2147483647,1),none)],[]), [], [(some (.inl ((1,1,0),none)),[],[]),(some (.inl ((0,0,0),none)),[],[])])
def q1159_P : rfP := (flX12,csX12,lcX12,spX12,[],[],[],([],[]))
def q1159_U : rfU := []
set_option maxHeartbeats 8000000 in
def q1159_N : List rfB := [(0,([(0,.inr (.inl [114])),(1,.inl ((0,3,1),none)),(2,.inl (((-2147483648),2147483647,1),none))],[],[]),(21,[]),0),
  (33,([(0,.inr (.inl [114])),(1,.inl ((0,3,1),none)),(2,.inl (((-2147483648),2147483647,1),none))],[],[]),(1,[]),0),
  (29,([(0,.inr (.inl [114])),(1,.inl ((0,3,1),none)),(2,.inl (((-2147483648),2147483647,1),none))],[],[]),(4,[]),0)]
set_option maxRecDepth 100000 in
theorem q1159_ok : rf_chkB q1159_P q1159_U wLay q1159_M ddX12_doesCount [] [] [0,29,33] 600 q1159_N = true := by decide +kernel
set_option maxHeartbeats 4000000 in
theorem q1159_met {G : rfG} (h : okG G) : rf_met G q1159_M := rf_methodB h.1 (P := q1159_P) (U := q1159_U) (N := q1159_N) ⟨wflT h flokX12, wcsT h csokX12, wlcT h lcokX12, spokX12 h, fun _ h => absurd h List.not_mem_nil, fun _ h => absurd h List.not_mem_nil, fun _ h => absurd h List.not_mem_nil, fun _ h => absurd h List.not_mem_nil, fun _ h => absurd h List.not_mem_nil⟩ dkX12_doesCount (by decide +kernel) (by rw [h.2.2.1]; exact q1159_ok)
/-- NearSpellModel.doesCount -/
def q1160_M : rfM := ((⟨"NearSpellModel", "doesCount", "(II)Z"⟩, prog_14_method_120_code, 3, (some .boolean)), (0,0), ([.inr (.inl [114]),.inl ((0,12,1),none),.inl (((-2147483648),2147483647,1),none)],[]), [], [(some (.inl ((1,1,0),none)),[],[]),(some (.inl ((0,0,0),none)),[],[])])
def q1160_P : rfP := (flX12,csX12,lcX12,spX12,[],[],[],([],[]))
def q1160_U : rfU := []
set_option maxHeartbeats 8000000 in
def q1160_N : List rfB := [(0,([(0,.inr (.inl [114])),(1,.inl ((0,12,1),none)),(2,.inl (((-2147483648),2147483647,1),none))],[],[]),(21,[]),0),
  (33,([(0,.inr (.inl [114])),(1,.inl ((0,12,1),none)),(2,.inl (((-2147483648),2147483647,1),none))],[],[]),(1,[]),0),
  (29,([(0,.inr (.inl [114])),(1,.inl ((0,12,1),none)),(2,.inl (((-2147483648),2147483647,1),none))],[],[]),(4,[]),0)]
set_option maxRecDepth 100000 in
theorem q1160_ok : rf_chkB q1160_P q1160_U wLay q1160_M ddX12_doesCount [] [] [0,29,33] 600 q1160_N = true := by decide +kernel
set_option maxHeartbeats 4000000 in
theorem q1160_met {G : rfG} (h : okG G) : rf_met G q1160_M := rf_methodB h.1 (P := q1160_P) (U := q1160_U) (N := q1160_N) ⟨wflT h flokX12, wcsT h csokX12, wlcT h lcokX12, spokX12 h, fun _ h => absurd h List.not_mem_nil, fun _ h => absurd h List.not_mem_nil, fun _ h => absurd h List.not_mem_nil, fun _ h => absurd h List.not_mem_nil, fun _ h => absurd h List.not_mem_nil⟩ dkX12_doesCount (by decide +kernel) (by rw [h.2.2.1]; exact q1160_ok)
/-- NearSpellModel.doesCount -/
def q1161_M : rfM := ((⟨"NearSpellModel", "doesCount", "(II)Z"⟩, prog_14_method_120_code, 3, (some .boolean)), (0,0), ([.inr (.inl [114]),.inl ((0,13,1),none),.inl (((-2147483648),2147483647,1),none)],[]), [], [(some (.inl ((1,1,0),none)),[],[]),(some (.inl ((0,0,0),none)),[],[])])
def q1161_P : rfP := (flX12,csX12,lcX12,spX12,[],[],[],([],[]))
def q1161_U : rfU := []
set_option maxHeartbeats 8000000 in
def q1161_N : List rfB := [(0,([(0,.inr (.inl [114])),(1,.inl ((0,13,1),none)),(2,.inl (((-2147483648),2147483647,1),none))],[],[]),(21,[]),0),
  (33,([(0,.inr (.inl [114])),(1,.inl ((0,13,1),none)),(2,.inl (((-2147483648),2147483647,1),none))],[],[]),(1,[]),0),
  (29,([(0,.inr (.inl [114])),(1,.inl ((0,13,1),none)),(2,.inl (((-2147483648),2147483647,1),none))],[],[]),(4,[]),0)]
set_option maxRecDepth 100000 in
theorem q1161_ok : rf_chkB q1161_P q1161_U wLay q1161_M ddX12_doesCount [] [] [0,29,33] 600 q1161_N = true := by decide +kernel
set_option maxHeartbeats 4000000 in
theorem q1161_met {G : rfG} (h : okG G) : rf_met G q1161_M := rf_methodB h.1 (P := q1161_P) (U := q1161_U) (N := q1161_N) ⟨wflT h flokX12, wcsT h csokX12, wlcT h lcokX12, spokX12 h, fun _ h => absurd h List.not_mem_nil, fun _ h => absurd h List.not_mem_nil, fun _ h => absurd h List.not_mem_nil, fun _ h => absurd h List.not_mem_nil, fun _ h => absurd h List.not_mem_nil⟩ dkX12_doesCount (by decide +kernel) (by rw [h.2.2.1]; exact q1161_ok)
/-- NearSpellModel.doesCount -/
def q1162_M : rfM := ((⟨"NearSpellModel", "doesCount", "(II)Z"⟩, prog_14_method_120_code, 3, (some .boolean)), (0,0), ([.inr (.inl [114]),.inl ((0,14,1),none),.inl (((-2147483648),2147483647,1),none)],[]), [], [(some (.inl ((1,1,0),none)),[],[]),(some (.inl ((0,0,0),none)),[],[])])
def q1162_P : rfP := (flX12,csX12,lcX12,spX12,[],[],[],([],[]))
def q1162_U : rfU := []
set_option maxHeartbeats 8000000 in
def q1162_N : List rfB := [(0,([(0,.inr (.inl [114])),(1,.inl ((0,14,1),none)),(2,.inl (((-2147483648),2147483647,1),none))],[],[]),(21,[]),0),
  (33,([(0,.inr (.inl [114])),(1,.inl ((0,14,1),none)),(2,.inl (((-2147483648),2147483647,1),none))],[],[]),(1,[]),0),
  (29,([(0,.inr (.inl [114])),(1,.inl ((0,14,1),none)),(2,.inl (((-2147483648),2147483647,1),none))],[],[]),(4,[]),0)]
set_option maxRecDepth 100000 in
theorem q1162_ok : rf_chkB q1162_P q1162_U wLay q1162_M ddX12_doesCount [] [] [0,29,33] 600 q1162_N = true := by decide +kernel
set_option maxHeartbeats 4000000 in
theorem q1162_met {G : rfG} (h : okG G) : rf_met G q1162_M := rf_methodB h.1 (P := q1162_P) (U := q1162_U) (N := q1162_N) ⟨wflT h flokX12, wcsT h csokX12, wlcT h lcokX12, spokX12 h, fun _ h => absurd h List.not_mem_nil, fun _ h => absurd h List.not_mem_nil, fun _ h => absurd h List.not_mem_nil, fun _ h => absurd h List.not_mem_nil, fun _ h => absurd h List.not_mem_nil⟩ dkX12_doesCount (by decide +kernel) (by rw [h.2.2.1]; exact q1162_ok)
