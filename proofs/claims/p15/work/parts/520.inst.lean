/-- NearSpellModel.join -/
def q1012_M : rfM := ((⟨"NearSpellModel", "join", "(II)I"⟩, prog_14_method_79_code, 7, (some .int)), (21,2021), ([.inr (.inl [114]),.inl (((-2147483648),2147483647,1),none),.inl (((-2147483648),2147483647,1),none)],[((114,28),(0,0,0),none),((998,0),(1,1,0),none)]), [(94,0),(95,0),(96,0),(97,0),(114,45),(114,46)], [(some (.inl (((-1),1000,1),none)),[],[])])
def ddX12_join : List (Nat × Instr × Nat) := [(0,.iload_n 1,1),(1,.iconst 0,1),(2,.aload_n 0,1),(3,.getfield 72,3),(6,.bipush 29,2),(8,.iaload,1),(9,.iconst 2,1),(10,.isub,1),(11,.invokestatic 334,3),(14,.ifCond .eq 19,3),(17,.iload_n 2,1),(18,.iconst 0,1),(19,.iconst 1,1),(20,.invokestatic 334,3),(23,.ifCond .eq 10,3),(26,.aload_n 0,1),(27,.invokevirtual 423,3),(30,.ifCond .ne 5,3),(33,.iconst (-1),1),(34,.ireturn,1),(35,.iconst (-1),1),(36,.istore_n 3,1),(37,.sipush 1000,3),(40,.istore 4,2),(42,.aload_n 0,1),(43,.aload_n 0,1),(44,.getfield 72,3),(47,.bipush 30,2),(49,.iload_n 1,1),(50,.iadd,1),(51,.iaload,1),(52,.aload_n 0,1),(53,.getfield 72,3),(56,.bipush 30,2),(58,.iload_n 1,1),(59,.iadd,1),(60,.iconst 1,1),(61,.iadd,1),(62,.iaload,1),(63,.invokevirtual 399,3),(66,.iconst 0,1),(67,.istore 5,2),(69,.iload 5,2),(71,.bipush 14,2),(73,.if_icmp .ge 58,3),(76,.aload_n 0,1),(77,.iload 5,2),(79,.invokevirtual 350,3),(82,.ifCond .ne 6,3),(85,.goto 40,3),(88,.aload_n 0,1),(89,.aload_n 0,1),(90,.getfield 72,3),(93,.iconst 0,1),(94,.iload 5,2),(96,.iadd,1),(97,.iaload,1),(98,.iconst 0,1),(99,.invokevirtual 402,3),(102,.aload_n 0,1),(103,.invokevirtual 405,3),(106,.istore 6,2),(108,.iload 6,2),(110,.iload 4,2),(112,.if_icmp .lt 6,3),(115,.goto 10,3),(118,.iload 5,2),(120,.istore_n 3,1),(121,.iload 6,2),(123,.istore 4,2),(125,.iinc 5 1,3),(128,.goto (-59),3),(131,.iload_n 2,1),(132,.ifCond .ne 7,3),(135,.iload_n 3,1),(136,.goto 5,3),(139,.iload 4,2),(141,.ireturn,1)]
set_option maxRecDepth 100000 in
theorem dkX12_join : rf_decs prog_14_method_79_code ddX12_join := rf_decs_of (by decide +kernel)
def q1012_P : rfP := (flX12,csX12,lcX12,spX12,[q1009_M,q1010_M,q832_M,q1011_M,q827_M,q866_M,q864_M],[(334,0),(334,1)],[(350,4,12),(399,3,12),(402,5,12),(405,6,12),(423,2,12)],([],[]))
def q1012_U : rfU := []
set_option maxHeartbeats 8000000 in
def q1012_N : List rfB := [(0,([(0,.inr (.inl [114])),(1,.inl (((-2147483648),2147483647,1),none)),(2,.inl (((-2147483648),2147483647,1),none))],[],[((114,28),(0,0,0),some ((114,28),0,0)),((998,0),(1,1,0),some ((998,0),0,0))]),(529,[0]),0),
  (33,([(0,.inr (.inl [114])),(1,.inl (((-2147483648),2147483647,1),none)),(2,.inl (((-2147483648),2147483647,1),none))],[],[((114,28),(0,0,0),some ((114,28),0,0)),((998,0),(1,1,0),some ((998,0),0,0))]),(509,[0]),0),
  (69,([(0,.inr (.inl [114])),(1,.inl ((0,4,1),none)),(2,.inl ((0,1,1),none)),(3,.inl (((-1),13,1),none)),(4,.inl ((0,1000,1),none)),(5,.inl ((0,14,1),none))],[],[((90,29),(2,6,1),none),((114,28),(0,0,0),some ((114,28),0,0)),((998,0),(1,1,0),some ((998,0),0,0))]),(483,[(-32)]),0),
  (125,([(0,.inr (.inl [114])),(1,.inl ((0,4,1),none)),(2,.inl ((0,1,1),none)),(3,.inl (((-1),13,1),none)),(4,.inl ((0,1000,1),none)),(5,.inl ((0,13,1),none))],[],[((90,29),(2,6,1),none),((114,28),(0,0,0),some ((114,28),0,0)),((998,0),(1,1,0),some ((998,0),0,0))]),(454,[(-32)]),0),
  (141,([(0,.inr (.inl [114])),(1,.inl ((0,4,1),none)),(2,.inl ((0,1,1),none)),(3,.inl (((-1),13,1),none)),(4,.inl ((0,1000,1),none)),(5,.inl ((14,14,1),none))],[.inl (((-1),1000,1),none)],[((90,29),(2,6,1),none),((114,28),(0,0,0),some ((114,28),0,0)),((998,0),(1,1,0),some ((998,0),0,0))]),(0,[0]),0)]
set_option maxRecDepth 100000 in
theorem q1012_ok : rf_chkB q1012_P q1012_U wLay q1012_M ddX12_join [(11,[0]),(20,[1]),(27,[2]),(63,[3]),(79,[4]),(99,[5]),(103,[6])] [.inl 5] [0,33,69,125,141] 600 q1012_N = true := by decide +kernel
set_option maxHeartbeats 4000000 in
theorem q1012_met {G : rfG} (h : okG G) (hh : w1OK G) : rf_met G q1012_M := rf_methodB h.1 (P := q1012_P) (U := q1012_U) (N := q1012_N) ⟨wflT h flokX12, wcsT h csokX12, wlcT h lcokX12, spokX12 h, List.forall_mem_cons.mpr ⟨q1009_met h, List.forall_mem_cons.mpr ⟨q1010_met h, List.forall_mem_cons.mpr ⟨q832_met h, List.forall_mem_cons.mpr ⟨q1011_met h, List.forall_mem_cons.mpr ⟨q827_met h, List.forall_mem_cons.mpr ⟨q866_met h, List.forall_mem_cons.mpr ⟨q864_met h hh, fun _ h => absurd h List.not_mem_nil⟩⟩⟩⟩⟩⟩⟩, List.forall_mem_cons.mpr ⟨fun M hM => Option.some.inj (show some q1009_M = some M from hM) ▸ wlkS (lkX12_334 h) q1009_M rfl rfl, List.forall_mem_cons.mpr ⟨fun M hM => Option.some.inj (show some q1010_M = some M from hM) ▸ wlkS (lkX12_334 h) q1010_M rfl rfl, fun _ h => absurd h List.not_mem_nil⟩⟩, List.forall_mem_cons.mpr ⟨fun M hM => Option.some.inj (show some q827_M = some M from hM) ▸ wlkV (lkX12_350 h) q827_M rfl rfl, List.forall_mem_cons.mpr ⟨fun M hM => Option.some.inj (show some q1011_M = some M from hM) ▸ wlkV (lkX12_399 h) q1011_M rfl rfl, List.forall_mem_cons.mpr ⟨fun M hM => Option.some.inj (show some q866_M = some M from hM) ▸ wlkV (lkX12_402 h) q866_M rfl rfl, List.forall_mem_cons.mpr ⟨fun M hM => Option.some.inj (show some q864_M = some M from hM) ▸ wlkV (lkX12_405 h) q864_M rfl rfl, List.forall_mem_cons.mpr ⟨fun M hM => Option.some.inj (show some q832_M = some M from hM) ▸ wlkV (lkX12_423 h) q832_M rfl rfl, fun _ h => absurd h List.not_mem_nil⟩⟩⟩⟩⟩, fun _ h => absurd h List.not_mem_nil, fun _ h => absurd h List.not_mem_nil⟩ dkX12_join (by decide +kernel) (by rw [h.2.2.1]; exact q1012_ok)
/-- NearSpellModel.join -/
def q1013_M : rfM := ((⟨"NearSpellModel", "join", "(II)I"⟩, prog_14_method_79_code, 7, (some .int)), (21,2021), ([.inr (.inl [114]),.inl (((-2147483648),2147483647,1),none),.inl (((-2147483648),2147483647,1),none)],[((77,1),(1,31,1),none),((114,28),(1,1,0),none),((998,0),(1,1,0),none)]), [(94,0),(95,0),(96,0),(97,0),(114,45),(114,46)], [(some (.inl (((-1),1000,1),none)),[],[])])
def q1013_P : rfP := (flX12,csX12,lcX12,spX12,[q1009_M,q1010_M,q832_M,q1011_M,q827_M,q866_M,q864_M],[(334,0),(334,1)],[(350,4,12),(399,3,12),(402,5,12),(405,6,12),(423,2,12)],([],[]))
def q1013_U : rfU := []
set_option maxHeartbeats 8000000 in
def q1013_N : List rfB := [(0,([(0,.inr (.inl [114])),(1,.inl (((-2147483648),2147483647,1),none)),(2,.inl (((-2147483648),2147483647,1),none))],[],[((77,1),(1,31,1),some ((77,1),0,0)),((114,28),(1,1,0),some ((114,28),0,0)),((998,0),(1,1,0),some ((998,0),0,0))]),(529,[0]),0),
  (33,([(0,.inr (.inl [114])),(1,.inl (((-2147483648),2147483647,1),none)),(2,.inl (((-2147483648),2147483647,1),none))],[],[((77,1),(1,31,1),some ((77,1),0,0)),((114,28),(1,1,0),some ((114,28),0,0)),((998,0),(1,1,0),some ((998,0),0,0))]),(509,[0]),0),
  (69,([(0,.inr (.inl [114])),(1,.inl ((0,4,1),none)),(2,.inl ((0,1,1),none)),(3,.inl (((-1),13,1),none)),(4,.inl ((0,1000,1),none)),(5,.inl ((0,14,1),none))],[],[((77,1),(1,31,1),some ((77,1),0,0)),((90,29),(2,6,1),none),((114,28),(1,1,0),some ((114,28),0,0)),((998,0),(1,1,0),some ((998,0),0,0))]),(483,[(-32)]),0),
  (125,([(0,.inr (.inl [114])),(1,.inl ((0,4,1),none)),(2,.inl ((0,1,1),none)),(3,.inl (((-1),13,1),none)),(4,.inl ((0,1000,1),none)),(5,.inl ((0,13,1),none))],[],[((77,1),(1,31,1),some ((77,1),0,0)),((90,29),(2,6,1),none),((114,28),(1,1,0),some ((114,28),0,0)),((998,0),(1,1,0),some ((998,0),0,0))]),(454,[(-32)]),0),
  (141,([(0,.inr (.inl [114])),(1,.inl ((0,4,1),none)),(2,.inl ((0,1,1),none)),(3,.inl (((-1),13,1),none)),(4,.inl ((0,1000,1),none)),(5,.inl ((14,14,1),none))],[.inl (((-1),1000,1),none)],[((77,1),(1,31,1),some ((77,1),0,0)),((90,29),(2,6,1),none),((114,28),(1,1,0),some ((114,28),0,0)),((998,0),(1,1,0),some ((998,0),0,0))]),(0,[0]),0)]
set_option maxRecDepth 100000 in
theorem q1013_ok : rf_chkB q1013_P q1013_U wLay q1013_M ddX12_join [(11,[0]),(20,[1]),(27,[2]),(63,[3]),(79,[4]),(99,[5]),(103,[6])] [.inl 5] [0,33,69,125,141] 600 q1013_N = true := by decide +kernel
set_option maxHeartbeats 4000000 in
theorem q1013_met {G : rfG} (h : okG G) (hh : w1OK G) : rf_met G q1013_M := rf_methodB h.1 (P := q1013_P) (U := q1013_U) (N := q1013_N) ⟨wflT h flokX12, wcsT h csokX12, wlcT h lcokX12, spokX12 h, List.forall_mem_cons.mpr ⟨q1009_met h, List.forall_mem_cons.mpr ⟨q1010_met h, List.forall_mem_cons.mpr ⟨q832_met h, List.forall_mem_cons.mpr ⟨q1011_met h, List.forall_mem_cons.mpr ⟨q827_met h, List.forall_mem_cons.mpr ⟨q866_met h, List.forall_mem_cons.mpr ⟨q864_met h hh, fun _ h => absurd h List.not_mem_nil⟩⟩⟩⟩⟩⟩⟩, List.forall_mem_cons.mpr ⟨fun M hM => Option.some.inj (show some q1009_M = some M from hM) ▸ wlkS (lkX12_334 h) q1009_M rfl rfl, List.forall_mem_cons.mpr ⟨fun M hM => Option.some.inj (show some q1010_M = some M from hM) ▸ wlkS (lkX12_334 h) q1010_M rfl rfl, fun _ h => absurd h List.not_mem_nil⟩⟩, List.forall_mem_cons.mpr ⟨fun M hM => Option.some.inj (show some q827_M = some M from hM) ▸ wlkV (lkX12_350 h) q827_M rfl rfl, List.forall_mem_cons.mpr ⟨fun M hM => Option.some.inj (show some q1011_M = some M from hM) ▸ wlkV (lkX12_399 h) q1011_M rfl rfl, List.forall_mem_cons.mpr ⟨fun M hM => Option.some.inj (show some q866_M = some M from hM) ▸ wlkV (lkX12_402 h) q866_M rfl rfl, List.forall_mem_cons.mpr ⟨fun M hM => Option.some.inj (show some q864_M = some M from hM) ▸ wlkV (lkX12_405 h) q864_M rfl rfl, List.forall_mem_cons.mpr ⟨fun M hM => Option.some.inj (show some q832_M = some M from hM) ▸ wlkV (lkX12_423 h) q832_M rfl rfl, fun _ h => absurd h List.not_mem_nil⟩⟩⟩⟩⟩, fun _ h => absurd h List.not_mem_nil, fun _ h => absurd h List.not_mem_nil⟩ dkX12_join (by decide +kernel) (by rw [h.2.2.1]; exact q1013_ok)
/-- NearSpellModel.reads -/
def q1014_M : rfM := ((⟨"NearSpellModel", "reads", "(III)V"⟩, prog_14_method_80_code, 5, none), (0,0), ([.inr (.inl [114]),.inl ((0,0,0),none),.inl ((1,1,0),none),.inl ((0,12,1),none)],[]), [(100,0),(101,0)], [(none,[],[])])
def ddX12_reads : List (Nat × Instr × Nat) := [(0,.aload_n 0,1),(1,.getfield 102,3),(4,.iload_n 1,1),(5,.iaload,1),(6,.iload_n 3,1),(7,.iadd,1),(8,.istore 4,2),(10,.iload 4,2),(12,.aload_n 0,1),(13,.getfield 102,3),(16,.iload_n 2,1),(17,.iaload,1),(18,.if_icmp .le 4,3),(21,.return_,1),(22,.iload 4,2),(24,.aload_n 0,1),(25,.getfield 102,3),(28,.iload_n 2,1),(29,.iaload,1),(30,.if_icmp .ge 10,3),(33,.aload_n 0,1),(34,.getfield 105,3),(37,.iload_n 2,1),(38,.iconst 0,1),(39,.iastore,1),(40,.aload_n 0,1),(41,.getfield 102,3),(44,.iload_n 2,1),(45,.iload 4,2),(47,.iastore,1),(48,.aload_n 0,1),(49,.getfield 105,3),(52,.iload_n 2,1),(53,.dup2,1),(54,.iaload,1),(55,.aload_n 0,1),(56,.getfield 105,3),(59,.iload_n 1,1),(60,.iaload,1),(61,.iadd,1),(62,.iastore,1),(63,.return_,1)]
set_option maxRecDepth 100000 in
theorem dkX12_reads : rf_decs prog_14_method_80_code ddX12_reads := rf_decs_of (by decide +kernel)
def q1014_P : rfP := (flX12,csX12,lcX12,spX12,[],[],[],([],[]))
def q1014_U : rfU := []
set_option maxHeartbeats 8000000 in
def q1014_N : List rfB := [(0,([(0,.inr (.inl [114])),(1,.inl ((0,0,0),none)),(2,.inl ((1,1,0),none)),(3,.inl ((0,12,1),none))],[],[]),(41,[]),0),
  (40,([(0,.inr (.inl [114])),(1,.inl ((0,0,0),none)),(2,.inl ((1,1,0),none)),(3,.inl ((0,12,1),none)),(4,.inl (((-2147483648),2147483647,1),none))],[],[]),(16,[]),0)]
set_option maxRecDepth 100000 in
theorem q1014_ok : rf_chkB q1014_P q1014_U wLay q1014_M ddX12_reads [] [] [0,40] 600 q1014_N = true := by decide +kernel
set_option maxHeartbeats 4000000 in
theorem q1014_met {G : rfG} (h : okG G) : rf_met G q1014_M := rf_methodB h.1 (P := q1014_P) (U := q1014_U) (N := q1014_N) ⟨wflT h flokX12, wcsT h csokX12, wlcT h lcokX12, spokX12 h, fun _ h => absurd h List.not_mem_nil, fun _ h => absurd h List.not_mem_nil, fun _ h => absurd h List.not_mem_nil, fun _ h => absurd h List.not_mem_nil, fun _ h => absurd h List.not_mem_nil⟩ dkX12_reads (by decide +kernel) (by rw [h.2.2.1]; exact q1014_ok)
/-- NearSpellModel.reads -/
def q1015_M : rfM := ((⟨"NearSpellModel", "reads", "(III)V"⟩, prog_14_method_80_code, 5, none), (0,0), ([.inr (.inl [114]),.inl ((0,0,0),none),.inl ((1,1,0),none),.inl ((1,13,1),none)],[]), [(100,0),(101,0)], [(none,[],[])])
def q1015_P : rfP := (flX12,csX12,lcX12,spX12,[],[],[],([],[]))
def q1015_U : rfU := []
set_option maxHeartbeats 8000000 in
def q1015_N : List rfB := [(0,([(0,.inr (.inl [114])),(1,.inl ((0,0,0),none)),(2,.inl ((1,1,0),none)),(3,.inl ((1,13,1),none))],[],[]),(41,[]),0),
  (40,([(0,.inr (.inl [114])),(1,.inl ((0,0,0),none)),(2,.inl ((1,1,0),none)),(3,.inl ((1,13,1),none)),(4,.inl (((-2147483648),2147483647,1),none))],[],[]),(16,[]),0)]
set_option maxRecDepth 100000 in
theorem q1015_ok : rf_chkB q1015_P q1015_U wLay q1015_M ddX12_reads [] [] [0,40] 600 q1015_N = true := by decide +kernel
set_option maxHeartbeats 4000000 in
theorem q1015_met {G : rfG} (h : okG G) : rf_met G q1015_M := rf_methodB h.1 (P := q1015_P) (U := q1015_U) (N := q1015_N) ⟨wflT h flokX12, wcsT h csokX12, wlcT h lcokX12, spokX12 h, fun _ h => absurd h List.not_mem_nil, fun _ h => absurd h List.not_mem_nil, fun _ h => absurd h List.not_mem_nil, fun _ h => absurd h List.not_mem_nil, fun _ h => absurd h List.not_mem_nil⟩ dkX12_reads (by decide +kernel) (by rw [h.2.2.1]; exact q1015_ok)
/-- NearSpellModel.readOne -/
def q1016_M : rfM := ((⟨"NearSpellModel", "readOne", "(I)V"⟩, prog_14_method_81_code, 4, none), (21,2021), ([.inr (.inl [114]),.inl ((0,0,0),none)],[]), [(94,0),(95,0),(96,0),(97,0),(100,0),(101,0),(114,45),(114,46)], [(none,[],[((114,44),(0,6,1),none)])])
def ddX12_readOne : List (Nat × Instr × Nat) := [(0,.aload_n 0,1),(1,.aload_n 0,1),(2,.getfield 72,3),(5,.bipush 30,2),(7,.iload_n 1,1),(8,.iadd,1),(9,.iaload,1),(10,.iconst 0,1),(11,.invokevirtual 399,3),(14,.iconst 0,1),(15,.istore_n 2,1),(16,.iload_n 2,1),(17,.bipush 14,2),(19,.if_icmp .ge 104,3),(22,.aload_n 0,1),(23,.iload_n 2,1),(24,.invokevirtual 350,3),(27,.ifCond .ne 6,3),(30,.goto 87,3),(33,.aload_n 0,1),(34,.aload_n 0,1),(35,.getfield 72,3),(38,.iconst 0,1),(39,.iload_n 2,1),(40,.iadd,1),(41,.iaload,1),(42,.iconst 0,1),(43,.invokevirtual 402,3),(46,.aload_n 0,1),(47,.iload_n 1,1),(48,.iload_n 1,1),(49,.iconst 1,1),(50,.iadd,1),(51,.aload_n 0,1),(52,.invokevirtual 405,3),(55,.invokevirtual 431,3),(58,.iconst 0,1),(59,.istore_n 3,1),(60,.iload_n 3,1),(61,.bipush 14,2),(63,.if_icmp .ge 54,3),(66,.aload_n 0,1),(67,.iload_n 3,1),(68,.invokevirtual 350,3),(71,.ifCond .ne 6,3),(74,.goto 37,3),(77,.aload_n 0,1),(78,.aload_n 0,1),(79,.getfield 72,3),(82,.iconst 0,1),(83,.iload_n 2,1),(84,.iadd,1),(85,.iaload,1),(86,.aload_n 0,1),(87,.getfield 72,3),(90,.iconst 0,1),(91,.iload_n 3,1),(92,.iadd,1),(93,.iaload,1),(94,.invokevirtual 402,3),(97,.aload_n 0,1),(98,.iload_n 1,1),(99,.iload_n 1,1),(100,.iconst 1,1),(101,.iadd,1),(102,.aload_n 0,1),(103,.invokevirtual 405,3),(106,.iconst 1,1),(107,.iadd,1),(108,.invokevirtual 431,3),(111,.iinc 3 1,3),(114,.goto (-54),3),(117,.iinc 2 1,3),(120,.goto (-104),3),(123,.return_,1)]
set_option maxRecDepth 100000 in
theorem dkX12_readOne : rf_decs prog_14_method_81_code ddX12_readOne := rf_decs_of (by decide +kernel)
def q1016_P : rfP := (flX12,csX12,lcX12,spX12,[q862_M,q827_M,q866_M,q864_M,q1014_M,q1004_M,q1015_M],[],[(350,1,12),(399,0,12),(402,2,12),(402,5,12),(405,3,12),(431,4,12),(431,6,12)],([],[]))
def q1016_U : rfU := []
set_option maxHeartbeats 8000000 in
def q1016_N : List rfB := [(0,([(0,.inr (.inl [114])),(1,.inl ((0,0,0),none))],[],[]),(8576,[0,0]),0),
  (16,([(0,.inr (.inl [114])),(1,.inl ((0,0,0),none)),(2,.inl ((0,14,1),none))],[],[((114,44),(0,6,1),none)]),(8563,[(-571),0]),0),
  (117,([(0,.inr (.inl [114])),(1,.inl ((0,0,0),none)),(2,.inl ((0,13,1),none))],[],[((114,44),(0,6,1),none)]),(7995,[(-571),0]),0),
  (60,([(0,.inr (.inl [114])),(1,.inl ((0,0,0),none)),(2,.inl ((0,13,1),none)),(3,.inl ((0,14,1),none))],[],[((90,28),(1,14,1),none),((114,44),(0,6,1),none)]),(8535,[(-571),(-36)]),0),
  (111,([(0,.inr (.inl [114])),(1,.inl ((0,0,0),none)),(2,.inl ((0,13,1),none)),(3,.inl ((0,13,1),none))],[],[((90,28),(1,14,1),none),((114,44),(0,6,1),none)]),(8502,[(-571),(-36)]),0)]
set_option maxRecDepth 100000 in
theorem q1016_ok : rf_chkB q1016_P q1016_U wLay q1016_M ddX12_readOne [(11,[0]),(24,[1]),(43,[2]),(52,[3]),(55,[4]),(68,[1]),(94,[5]),(103,[3]),(108,[6])] [.inl 2,.inl 3] [0,16,60,111,117] 600 q1016_N = true := by decide +kernel
set_option maxHeartbeats 4000000 in
theorem q1016_met {G : rfG} (h : okG G) (hh : w1OK G) : rf_met G q1016_M := rf_methodB h.1 (P := q1016_P) (U := q1016_U) (N := q1016_N) ⟨wflT h flokX12, wcsT h csokX12, wlcT h lcokX12, spokX12 h, List.forall_mem_cons.mpr ⟨q862_met h, List.forall_mem_cons.mpr ⟨q827_met h, List.forall_mem_cons.mpr ⟨q866_met h, List.forall_mem_cons.mpr ⟨q864_met h hh, List.forall_mem_cons.mpr ⟨q1014_met h, List.forall_mem_cons.mpr ⟨q1004_met h, List.forall_mem_cons.mpr ⟨q1015_met h, fun _ h => absurd h List.not_mem_nil⟩⟩⟩⟩⟩⟩⟩, fun _ h => absurd h List.not_mem_nil, List.forall_mem_cons.mpr ⟨fun M hM => Option.some.inj (show some q827_M = some M from hM) ▸ wlkV (lkX12_350 h) q827_M rfl rfl, List.forall_mem_cons.mpr ⟨fun M hM => Option.some.inj (show some q862_M = some M from hM) ▸ wlkV (lkX12_399 h) q862_M rfl rfl, List.forall_mem_cons.mpr ⟨fun M hM => Option.some.inj (show some q866_M = some M from hM) ▸ wlkV (lkX12_402 h) q866_M rfl rfl, List.forall_mem_cons.mpr ⟨fun M hM => Option.some.inj (show some q1004_M = some M from hM) ▸ wlkV (lkX12_402 h) q1004_M rfl rfl, List.forall_mem_cons.mpr ⟨fun M hM => Option.some.inj (show some q864_M = some M from hM) ▸ wlkV (lkX12_405 h) q864_M rfl rfl, List.forall_mem_cons.mpr ⟨fun M hM => Option.some.inj (show some q1014_M = some M from hM) ▸ wlkV (lkX12_431 h) q1014_M rfl rfl, List.forall_mem_cons.mpr ⟨fun M hM => Option.some.inj (show some q1015_M = some M from hM) ▸ wlkV (lkX12_431 h) q1015_M rfl rfl, fun _ h => absurd h List.not_mem_nil⟩⟩⟩⟩⟩⟩⟩, fun _ h => absurd h List.not_mem_nil, fun _ h => absurd h List.not_mem_nil⟩ dkX12_readOne (by decide +kernel) (by rw [h.2.2.1]; exact q1016_ok)
/-- NearSpellModel.reads -/
def q1017_M : rfM := ((⟨"NearSpellModel", "reads", "(III)V"⟩, prog_14_method_80_code, 5, none), (0,0), ([.inr (.inl [114]),.inl ((0,0,0),none),.inl ((2,2,0),none),.inl ((1,13,1),none)],[]), [(100,0),(101,0)], [(none,[],[])])
def q1017_P : rfP := (flX12,csX12,lcX12,spX12,[],[],[],([],[]))
def q1017_U : rfU := []
set_option maxHeartbeats 8000000 in
def q1017_N : List rfB := [(0,([(0,.inr (.inl [114])),(1,.inl ((0,0,0),none)),(2,.inl ((2,2,0),none)),(3,.inl ((1,13,1),none))],[],[]),(41,[]),0),
  (40,([(0,.inr (.inl [114])),(1,.inl ((0,0,0),none)),(2,.inl ((2,2,0),none)),(3,.inl ((1,13,1),none)),(4,.inl (((-2147483648),2147483647,1),none))],[],[]),(16,[]),0)]
set_option maxRecDepth 100000 in
theorem q1017_ok : rf_chkB q1017_P q1017_U wLay q1017_M ddX12_reads [] [] [0,40] 600 q1017_N = true := by decide +kernel
set_option maxHeartbeats 4000000 in
theorem q1017_met {G : rfG} (h : okG G) : rf_met G q1017_M := rf_methodB h.1 (P := q1017_P) (U := q1017_U) (N := q1017_N) ⟨wflT h flokX12, wcsT h csokX12, wlcT h lcokX12, spokX12 h, fun _ h => absurd h List.not_mem_nil, fun _ h => absurd h List.not_mem_nil, fun _ h => absurd h List.not_mem_nil, fun _ h => absurd h List.not_mem_nil, fun _ h => absurd h List.not_mem_nil⟩ dkX12_reads (by decide +kernel) (by rw [h.2.2.1]; exact q1017_ok)
/-- NearSpellModel.readTwo -/
def q1018_M : rfM := ((⟨"NearSpellModel", "readTwo", "(I)V"⟩, prog_14_method_82_code, 3, none), (21,2021), ([.inr (.inl [114]),.inl ((0,0,0),none)],[]), [(94,0),(95,0),(96,0),(97,0),(100,0),(101,0),(114,45),(114,46)], [(none,[],[])])
def ddX12_readTwo : List (Nat × Instr × Nat) := [(0,.aload_n 0,1),(1,.aload_n 0,1),(2,.getfield 72,3),(5,.bipush 30,2),(7,.iload_n 1,1),(8,.iadd,1),(9,.iaload,1),(10,.aload_n 0,1),(11,.getfield 72,3),(14,.bipush 30,2),(16,.iload_n 1,1),(17,.iadd,1),(18,.iconst 1,1),(19,.iadd,1),(20,.iaload,1),(21,.invokevirtual 399,3),(24,.iconst 0,1),(25,.istore_n 2,1),(26,.iload_n 2,1),(27,.bipush 14,2),(29,.if_icmp .ge 47,3),(32,.aload_n 0,1),(33,.iload_n 2,1),(34,.invokevirtual 350,3),(37,.ifCond .ne 6,3),(40,.goto 30,3),(43,.aload_n 0,1),(44,.aload_n 0,1),(45,.getfield 72,3),(48,.iconst 0,1),(49,.iload_n 2,1),(50,.iadd,1),(51,.iaload,1),(52,.iconst 0,1),(53,.invokevirtual 402,3),(56,.aload_n 0,1),(57,.iload_n 1,1),(58,.iload_n 1,1),(59,.iconst 2,1),(60,.iadd,1),(61,.aload_n 0,1),(62,.invokevirtual 405,3),(65,.iconst 1,1),(66,.iadd,1),(67,.invokevirtual 431,3),(70,.iinc 2 1,3),(73,.goto (-47),3),(76,.return_,1)]
set_option maxRecDepth 100000 in
theorem dkX12_readTwo : rf_decs prog_14_method_82_code ddX12_readTwo := rf_decs_of (by decide +kernel)
def q1018_P : rfP := (flX12,csX12,lcX12,spX12,[q1011_M,q827_M,q866_M,q864_M,q1017_M],[],[(350,1,12),(399,0,12),(402,2,12),(405,3,12),(431,4,12)],([],[]))
def q1018_U : rfU := []
set_option maxHeartbeats 8000000 in
def q1018_N : List rfB := [(0,([(0,.inr (.inl [114])),(1,.inl ((0,0,0),none))],[],[]),(483,[0]),0),
  (26,([(0,.inr (.inl [114])),(1,.inl ((0,0,0),none)),(2,.inl ((0,14,1),none))],[],[]),(463,[(-31)]),0),
  (70,([(0,.inr (.inl [114])),(1,.inl ((0,0,0),none)),(2,.inl ((0,13,1),none))],[],[]),(435,[(-31)]),0)]
set_option maxRecDepth 100000 in
theorem q1018_ok : rf_chkB q1018_P q1018_U wLay q1018_M ddX12_readTwo [(21,[0]),(34,[1]),(53,[2]),(62,[3]),(67,[4])] [.inl 2] [0,26,70] 600 q1018_N = true := by decide +kernel
set_option maxHeartbeats 4000000 in
theorem q1018_met {G : rfG} (h : okG G) (hh : w1OK G) : rf_met G q1018_M := rf_methodB h.1 (P := q1018_P) (U := q1018_U) (N := q1018_N) ⟨wflT h flokX12, wcsT h csokX12, wlcT h lcokX12, spokX12 h, List.forall_mem_cons.mpr ⟨q1011_met h, List.forall_mem_cons.mpr ⟨q827_met h, List.forall_mem_cons.mpr ⟨q866_met h, List.forall_mem_cons.mpr ⟨q864_met h hh, List.forall_mem_cons.mpr ⟨q1017_met h, fun _ h => absurd h List.not_mem_nil⟩⟩⟩⟩⟩, fun _ h => absurd h List.not_mem_nil, List.forall_mem_cons.mpr ⟨fun M hM => Option.some.inj (show some q827_M = some M from hM) ▸ wlkV (lkX12_350 h) q827_M rfl rfl, List.forall_mem_cons.mpr ⟨fun M hM => Option.some.inj (show some q1011_M = some M from hM) ▸ wlkV (lkX12_399 h) q1011_M rfl rfl, List.forall_mem_cons.mpr ⟨fun M hM => Option.some.inj (show some q866_M = some M from hM) ▸ wlkV (lkX12_402 h) q866_M rfl rfl, List.forall_mem_cons.mpr ⟨fun M hM => Option.some.inj (show some q864_M = some M from hM) ▸ wlkV (lkX12_405 h) q864_M rfl rfl, List.forall_mem_cons.mpr ⟨fun M hM => Option.some.inj (show some q1017_M = some M from hM) ▸ wlkV (lkX12_431 h) q1017_M rfl rfl, fun _ h => absurd h List.not_mem_nil⟩⟩⟩⟩⟩, fun _ h => absurd h List.not_mem_nil, fun _ h => absurd h List.not_mem_nil⟩ dkX12_readTwo (by decide +kernel) (by rw [h.2.2.1]; exact q1018_ok)
/-- NearSpellModel.reads -/
def q1019_M : rfM := ((⟨"NearSpellModel", "reads", "(III)V"⟩, prog_14_method_80_code, 5, none), (0,0), ([.inr (.inl [114]),.inl ((0,1,1),none),.inl ((1,2,1),none),.inl ((0,12,1),none)],[]), [(100,0),(101,0)], [(none,[],[])])
def q1019_P : rfP := (flX12,csX12,lcX12,spX12,[],[],[],([],[]))
def q1019_U : rfU := []
set_option maxHeartbeats 8000000 in
def q1019_N : List rfB := [(0,([(0,.inr (.inl [114])),(1,.inl ((0,1,1),none)),(2,.inl ((1,2,1),none)),(3,.inl ((0,12,1),none))],[],[]),(41,[]),0),
  (40,([(0,.inr (.inl [114])),(1,.inl ((0,1,1),none)),(2,.inl ((1,2,1),none)),(3,.inl ((0,12,1),none)),(4,.inl (((-2147483648),2147483647,1),none))],[],[]),(16,[]),0)]
set_option maxRecDepth 100000 in
theorem q1019_ok : rf_chkB q1019_P q1019_U wLay q1019_M ddX12_reads [] [] [0,40] 600 q1019_N = true := by decide +kernel
set_option maxHeartbeats 4000000 in
theorem q1019_met {G : rfG} (h : okG G) : rf_met G q1019_M := rf_methodB h.1 (P := q1019_P) (U := q1019_U) (N := q1019_N) ⟨wflT h flokX12, wcsT h csokX12, wlcT h lcokX12, spokX12 h, fun _ h => absurd h List.not_mem_nil, fun _ h => absurd h List.not_mem_nil, fun _ h => absurd h List.not_mem_nil, fun _ h => absurd h List.not_mem_nil, fun _ h => absurd h List.not_mem_nil⟩ dkX12_reads (by decide +kernel) (by rw [h.2.2.1]; exact q1019_ok)
/-- NearSpellModel.reads -/
def q1020_M : rfM := ((⟨"NearSpellModel", "reads", "(III)V"⟩, prog_14_method_80_code, 5, none), (0,0), ([.inr (.inl [114]),.inl ((0,1,1),none),.inl ((1,2,1),none),.inl ((1,13,1),none)],[]), [(100,0),(101,0)], [(none,[],[])])
def q1020_P : rfP := (flX12,csX12,lcX12,spX12,[],[],[],([],[]))
def q1020_U : rfU := []
set_option maxHeartbeats 8000000 in
def q1020_N : List rfB := [(0,([(0,.inr (.inl [114])),(1,.inl ((0,1,1),none)),(2,.inl ((1,2,1),none)),(3,.inl ((1,13,1),none))],[],[]),(41,[]),0),
  (40,([(0,.inr (.inl [114])),(1,.inl ((0,1,1),none)),(2,.inl ((1,2,1),none)),(3,.inl ((1,13,1),none)),(4,.inl (((-2147483648),2147483647,1),none))],[],[]),(16,[]),0)]
set_option maxRecDepth 100000 in
theorem q1020_ok : rf_chkB q1020_P q1020_U wLay q1020_M ddX12_reads [] [] [0,40] 600 q1020_N = true := by decide +kernel
set_option maxHeartbeats 4000000 in
theorem q1020_met {G : rfG} (h : okG G) : rf_met G q1020_M := rf_methodB h.1 (P := q1020_P) (U := q1020_U) (N := q1020_N) ⟨wflT h flokX12, wcsT h csokX12, wlcT h lcokX12, spokX12 h, fun _ h => absurd h List.not_mem_nil, fun _ h => absurd h List.not_mem_nil, fun _ h => absurd h List.not_mem_nil, fun _ h => absurd h List.not_mem_nil, fun _ h => absurd h List.not_mem_nil⟩ dkX12_reads (by decide +kernel) (by rw [h.2.2.1]; exact q1020_ok)
/-- NearSpellModel.readOne -/
def q1021_M : rfM := ((⟨"NearSpellModel", "readOne", "(I)V"⟩, prog_14_method_81_code, 4, none), (21,2021), ([.inr (.inl [114]),.inl ((0,1,1),none)],[]), [(94,0),(95,0),(96,0),(97,0),(100,0),(101,0),(114,45),(114,46)], [(none,[],[((114,44),(0,6,1),none)])])
def q1021_P : rfP := (flX12,csX12,lcX12,spX12,[q862_M,q827_M,q866_M,q864_M,q1019_M,q1004_M,q1020_M],[],[(350,1,12),(399,0,12),(402,2,12),(402,5,12),(405,3,12),(431,4,12),(431,6,12)],([],[]))
def q1021_U : rfU := []
set_option maxHeartbeats 8000000 in
def q1021_N : List rfB := [(0,([(0,.inr (.inl [114])),(1,.inl ((0,1,1),none))],[],[]),(8576,[0,0]),0),
  (16,([(0,.inr (.inl [114])),(1,.inl ((0,1,1),none)),(2,.inl ((0,14,1),none))],[],[((114,44),(0,6,1),none)]),(8563,[(-571),0]),0),
  (117,([(0,.inr (.inl [114])),(1,.inl ((0,1,1),none)),(2,.inl ((0,13,1),none))],[],[((114,44),(0,6,1),none)]),(7995,[(-571),0]),0),
  (60,([(0,.inr (.inl [114])),(1,.inl ((0,1,1),none)),(2,.inl ((0,13,1),none)),(3,.inl ((0,14,1),none))],[],[((90,28),(1,14,1),none),((114,44),(0,6,1),none)]),(8535,[(-571),(-36)]),0),
  (111,([(0,.inr (.inl [114])),(1,.inl ((0,1,1),none)),(2,.inl ((0,13,1),none)),(3,.inl ((0,13,1),none))],[],[((90,28),(1,14,1),none),((114,44),(0,6,1),none)]),(8502,[(-571),(-36)]),0)]
set_option maxRecDepth 100000 in
theorem q1021_ok : rf_chkB q1021_P q1021_U wLay q1021_M ddX12_readOne [(11,[0]),(24,[1]),(43,[2]),(52,[3]),(55,[4]),(68,[1]),(94,[5]),(103,[3]),(108,[6])] [.inl 2,.inl 3] [0,16,60,111,117] 600 q1021_N = true := by decide +kernel
set_option maxHeartbeats 4000000 in
theorem q1021_met {G : rfG} (h : okG G) (hh : w1OK G) : rf_met G q1021_M := rf_methodB h.1 (P := q1021_P) (U := q1021_U) (N := q1021_N) ⟨wflT h flokX12, wcsT h csokX12, wlcT h lcokX12, spokX12 h, List.forall_mem_cons.mpr ⟨q862_met h, List.forall_mem_cons.mpr ⟨q827_met h, List.forall_mem_cons.mpr ⟨q866_met h, List.forall_mem_cons.mpr ⟨q864_met h hh, List.forall_mem_cons.mpr ⟨q1019_met h, List.forall_mem_cons.mpr ⟨q1004_met h, List.forall_mem_cons.mpr ⟨q1020_met h, fun _ h => absurd h List.not_mem_nil⟩⟩⟩⟩⟩⟩⟩, fun _ h => absurd h List.not_mem_nil, List.forall_mem_cons.mpr ⟨fun M hM => Option.some.inj (show some q827_M = some M from hM) ▸ wlkV (lkX12_350 h) q827_M rfl rfl, List.forall_mem_cons.mpr ⟨fun M hM => Option.some.inj (show some q862_M = some M from hM) ▸ wlkV (lkX12_399 h) q862_M rfl rfl, List.forall_mem_cons.mpr ⟨fun M hM => Option.some.inj (show some q866_M = some M from hM) ▸ wlkV (lkX12_402 h) q866_M rfl rfl, List.forall_mem_cons.mpr ⟨fun M hM => Option.some.inj (show some q1004_M = some M from hM) ▸ wlkV (lkX12_402 h) q1004_M rfl rfl, List.forall_mem_cons.mpr ⟨fun M hM => Option.some.inj (show some q864_M = some M from hM) ▸ wlkV (lkX12_405 h) q864_M rfl rfl, List.forall_mem_cons.mpr ⟨fun M hM => Option.some.inj (show some q1019_M = some M from hM) ▸ wlkV (lkX12_431 h) q1019_M rfl rfl, List.forall_mem_cons.mpr ⟨fun M hM => Option.some.inj (show some q1020_M = some M from hM) ▸ wlkV (lkX12_431 h) q1020_M rfl rfl, fun _ h => absurd h List.not_mem_nil⟩⟩⟩⟩⟩⟩⟩, fun _ h => absurd h List.not_mem_nil, fun _ h => absurd h List.not_mem_nil⟩ dkX12_readOne (by decide +kernel) (by rw [h.2.2.1]; exact q1021_ok)
/-- NearSpellModel.reads -/
def q1022_M : rfM := ((⟨"NearSpellModel", "reads", "(III)V"⟩, prog_14_method_80_code, 5, none), (0,0), ([.inr (.inl [114]),.inl ((0,1,1),none),.inl ((2,3,1),none),.inl ((1,13,1),none)],[]), [(100,0),(101,0)], [(none,[],[])])
def q1022_P : rfP := (flX12,csX12,lcX12,spX12,[],[],[],([],[]))
def q1022_U : rfU := []
set_option maxHeartbeats 8000000 in
def q1022_N : List rfB := [(0,([(0,.inr (.inl [114])),(1,.inl ((0,1,1),none)),(2,.inl ((2,3,1),none)),(3,.inl ((1,13,1),none))],[],[]),(41,[]),0),
  (40,([(0,.inr (.inl [114])),(1,.inl ((0,1,1),none)),(2,.inl ((2,3,1),none)),(3,.inl ((1,13,1),none)),(4,.inl (((-2147483648),2147483647,1),none))],[],[]),(16,[]),0)]
set_option maxRecDepth 100000 in
theorem q1022_ok : rf_chkB q1022_P q1022_U wLay q1022_M ddX12_reads [] [] [0,40] 600 q1022_N = true := by decide +kernel
set_option maxHeartbeats 4000000 in
theorem q1022_met {G : rfG} (h : okG G) : rf_met G q1022_M := rf_methodB h.1 (P := q1022_P) (U := q1022_U) (N := q1022_N) ⟨wflT h flokX12, wcsT h csokX12, wlcT h lcokX12, spokX12 h, fun _ h => absurd h List.not_mem_nil, fun _ h => absurd h List.not_mem_nil, fun _ h => absurd h List.not_mem_nil, fun _ h => absurd h List.not_mem_nil, fun _ h => absurd h List.not_mem_nil⟩ dkX12_reads (by decide +kernel) (by rw [h.2.2.1]; exact q1022_ok)
/-- NearSpellModel.readTwo -/
def q1023_M : rfM := ((⟨"NearSpellModel", "readTwo", "(I)V"⟩, prog_14_method_82_code, 3, none), (21,2021), ([.inr (.inl [114]),.inl ((0,1,1),none)],[]), [(94,0),(95,0),(96,0),(97,0),(100,0),(101,0),(114,45),(114,46)], [(none,[],[])])
def q1023_P : rfP := (flX12,csX12,lcX12,spX12,[q1011_M,q827_M,q866_M,q864_M,q1022_M],[],[(350,1,12),(399,0,12),(402,2,12),(405,3,12),(431,4,12)],([],[]))
def q1023_U : rfU := []
set_option maxHeartbeats 8000000 in
def q1023_N : List rfB := [(0,([(0,.inr (.inl [114])),(1,.inl ((0,1,1),none))],[],[]),(483,[0]),0),
  (26,([(0,.inr (.inl [114])),(1,.inl ((0,1,1),none)),(2,.inl ((0,14,1),none))],[],[]),(463,[(-31)]),0),
  (70,([(0,.inr (.inl [114])),(1,.inl ((0,1,1),none)),(2,.inl ((0,13,1),none))],[],[]),(435,[(-31)]),0)]
set_option maxRecDepth 100000 in
theorem q1023_ok : rf_chkB q1023_P q1023_U wLay q1023_M ddX12_readTwo [(21,[0]),(34,[1]),(53,[2]),(62,[3]),(67,[4])] [.inl 2] [0,26,70] 600 q1023_N = true := by decide +kernel
set_option maxHeartbeats 4000000 in
theorem q1023_met {G : rfG} (h : okG G) (hh : w1OK G) : rf_met G q1023_M := rf_methodB h.1 (P := q1023_P) (U := q1023_U) (N := q1023_N) ⟨wflT h flokX12, wcsT h csokX12, wlcT h lcokX12, spokX12 h, List.forall_mem_cons.mpr ⟨q1011_met h, List.forall_mem_cons.mpr ⟨q827_met h, List.forall_mem_cons.mpr ⟨q866_met h, List.forall_mem_cons.mpr ⟨q864_met h hh, List.forall_mem_cons.mpr ⟨q1022_met h, fun _ h => absurd h List.not_mem_nil⟩⟩⟩⟩⟩, fun _ h => absurd h List.not_mem_nil, List.forall_mem_cons.mpr ⟨fun M hM => Option.some.inj (show some q827_M = some M from hM) ▸ wlkV (lkX12_350 h) q827_M rfl rfl, List.forall_mem_cons.mpr ⟨fun M hM => Option.some.inj (show some q1011_M = some M from hM) ▸ wlkV (lkX12_399 h) q1011_M rfl rfl, List.forall_mem_cons.mpr ⟨fun M hM => Option.some.inj (show some q866_M = some M from hM) ▸ wlkV (lkX12_402 h) q866_M rfl rfl, List.forall_mem_cons.mpr ⟨fun M hM => Option.some.inj (show some q864_M = some M from hM) ▸ wlkV (lkX12_405 h) q864_M rfl rfl, List.forall_mem_cons.mpr ⟨fun M hM => Option.some.inj (show some q1022_M = some M from hM) ▸ wlkV (lkX12_431 h) q1022_M rfl rfl, fun _ h => absurd h List.not_mem_nil⟩⟩⟩⟩⟩, fun _ h => absurd h List.not_mem_nil, fun _ h => absurd h List.not_mem_nil⟩ dkX12_readTwo (by decide +kernel) (by rw [h.2.2.1]; exact q1023_ok)
/-- NearSpellModel.reads -/
def q1024_M : rfM := ((⟨"NearSpellModel", "reads", "(III)V"⟩, prog_14_method_80_code, 5, none), (0,0), ([.inr (.inl [114]),.inl ((0,2,1),none),.inl ((1,3,1),none),.inl ((0,12,1),none)],[]), [(100,0),(101,0)], [(none,[],[])])
def q1024_P : rfP := (flX12,csX12,lcX12,spX12,[],[],[],([],[]))
def q1024_U : rfU := []
set_option maxHeartbeats 8000000 in
def q1024_N : List rfB := [(0,([(0,.inr (.inl [114])),(1,.inl ((0,2,1),none)),(2,.inl ((1,3,1),none)),(3,.inl ((0,12,1),none))],[],[]),(41,[]),0),
  (40,([(0,.inr (.inl [114])),(1,.inl ((0,2,1),none)),(2,.inl ((1,3,1),none)),(3,.inl ((0,12,1),none)),(4,.inl (((-2147483648),2147483647,1),none))],[],[]),(16,[]),0)]
set_option maxRecDepth 100000 in
theorem q1024_ok : rf_chkB q1024_P q1024_U wLay q1024_M ddX12_reads [] [] [0,40] 600 q1024_N = true := by decide +kernel
set_option maxHeartbeats 4000000 in
theorem q1024_met {G : rfG} (h : okG G) : rf_met G q1024_M := rf_methodB h.1 (P := q1024_P) (U := q1024_U) (N := q1024_N) ⟨wflT h flokX12, wcsT h csokX12, wlcT h lcokX12, spokX12 h, fun _ h => absurd h List.not_mem_nil, fun _ h => absurd h List.not_mem_nil, fun _ h => absurd h List.not_mem_nil, fun _ h => absurd h List.not_mem_nil, fun _ h => absurd h List.not_mem_nil⟩ dkX12_reads (by decide +kernel) (by rw [h.2.2.1]; exact q1024_ok)
/-- NearSpellModel.reads -/
def q1025_M : rfM := ((⟨"NearSpellModel", "reads", "(III)V"⟩, prog_14_method_80_code, 5, none), (0,0), ([.inr (.inl [114]),.inl ((0,2,1),none),.inl ((1,3,1),none),.inl ((1,13,1),none)],[]), [(100,0),(101,0)], [(none,[],[])])
def q1025_P : rfP := (flX12,csX12,lcX12,spX12,[],[],[],([],[]))
def q1025_U : rfU := []
set_option maxHeartbeats 8000000 in
def q1025_N : List rfB := [(0,([(0,.inr (.inl [114])),(1,.inl ((0,2,1),none)),(2,.inl ((1,3,1),none)),(3,.inl ((1,13,1),none))],[],[]),(41,[]),0),
  (40,([(0,.inr (.inl [114])),(1,.inl ((0,2,1),none)),(2,.inl ((1,3,1),none)),(3,.inl ((1,13,1),none)),(4,.inl (((-2147483648),2147483647,1),none))],[],[]),(16,[]),0)]
set_option maxRecDepth 100000 in
theorem q1025_ok : rf_chkB q1025_P q1025_U wLay q1025_M ddX12_reads [] [] [0,40] 600 q1025_N = true := by decide +kernel
set_option maxHeartbeats 4000000 in
theorem q1025_met {G : rfG} (h : okG G) : rf_met G q1025_M := rf_methodB h.1 (P := q1025_P) (U := q1025_U) (N := q1025_N) ⟨wflT h flokX12, wcsT h csokX12, wlcT h lcokX12, spokX12 h, fun _ h => absurd h List.not_mem_nil, fun _ h => absurd h List.not_mem_nil, fun _ h => absurd h List.not_mem_nil, fun _ h => absurd h List.not_mem_nil, fun _ h => absurd h List.not_mem_nil⟩ dkX12_reads (by decide +kernel) (by rw [h.2.2.1]; exact q1025_ok)
/-- NearSpellModel.readOne -/
def q1026_M : rfM := ((⟨"NearSpellModel", "readOne", "(I)V"⟩, prog_14_method_81_code, 4, none), (21,2021), ([.inr (.inl [114]),.inl ((0,2,1),none)],[]), [(94,0),(95,0),(96,0),(97,0),(100,0),(101,0),(114,45),(114,46)], [(none,[],[((114,44),(0,6,1),none)])])
def q1026_P : rfP := (flX12,csX12,lcX12,spX12,[q862_M,q827_M,q866_M,q864_M,q1024_M,q1004_M,q1025_M],[],[(350,1,12),(399,0,12),(402,2,12),(402,5,12),(405,3,12),(431,4,12),(431,6,12)],([],[]))
def q1026_U : rfU := []
set_option maxHeartbeats 8000000 in
def q1026_N : List rfB := [(0,([(0,.inr (.inl [114])),(1,.inl ((0,2,1),none))],[],[]),(8576,[0,0]),0),
  (16,([(0,.inr (.inl [114])),(1,.inl ((0,2,1),none)),(2,.inl ((0,14,1),none))],[],[((114,44),(0,6,1),none)]),(8563,[(-571),0]),0),
  (117,([(0,.inr (.inl [114])),(1,.inl ((0,2,1),none)),(2,.inl ((0,13,1),none))],[],[((114,44),(0,6,1),none)]),(7995,[(-571),0]),0),
  (60,([(0,.inr (.inl [114])),(1,.inl ((0,2,1),none)),(2,.inl ((0,13,1),none)),(3,.inl ((0,14,1),none))],[],[((90,28),(1,14,1),none),((114,44),(0,6,1),none)]),(8535,[(-571),(-36)]),0),
  (111,([(0,.inr (.inl [114])),(1,.inl ((0,2,1),none)),(2,.inl ((0,13,1),none)),(3,.inl ((0,13,1),none))],[],[((90,28),(1,14,1),none),((114,44),(0,6,1),none)]),(8502,[(-571),(-36)]),0)]
set_option maxRecDepth 100000 in
theorem q1026_ok : rf_chkB q1026_P q1026_U wLay q1026_M ddX12_readOne [(11,[0]),(24,[1]),(43,[2]),(52,[3]),(55,[4]),(68,[1]),(94,[5]),(103,[3]),(108,[6])] [.inl 2,.inl 3] [0,16,60,111,117] 600 q1026_N = true := by decide +kernel
set_option maxHeartbeats 4000000 in
theorem q1026_met {G : rfG} (h : okG G) (hh : w1OK G) : rf_met G q1026_M := rf_methodB h.1 (P := q1026_P) (U := q1026_U) (N := q1026_N) ⟨wflT h flokX12, wcsT h csokX12, wlcT h lcokX12, spokX12 h, List.forall_mem_cons.mpr ⟨q862_met h, List.forall_mem_cons.mpr ⟨q827_met h, List.forall_mem_cons.mpr ⟨q866_met h, List.forall_mem_cons.mpr ⟨q864_met h hh, List.forall_mem_cons.mpr ⟨q1024_met h, List.forall_mem_cons.mpr ⟨q1004_met h, List.forall_mem_cons.mpr ⟨q1025_met h, fun _ h => absurd h List.not_mem_nil⟩⟩⟩⟩⟩⟩⟩, fun _ h => absurd h List.not_mem_nil, List.forall_mem_cons.mpr ⟨fun M hM => Option.some.inj (show some q827_M = some M from hM) ▸ wlkV (lkX12_350 h) q827_M rfl rfl, List.forall_mem_cons.mpr ⟨fun M hM => Option.some.inj (show some q862_M = some M from hM) ▸ wlkV (lkX12_399 h) q862_M rfl rfl, List.forall_mem_cons.mpr ⟨fun M hM => Option.some.inj (show some q866_M = some M from hM) ▸ wlkV (lkX12_402 h) q866_M rfl rfl, List.forall_mem_cons.mpr ⟨fun M hM => Option.some.inj (show some q1004_M = some M from hM) ▸ wlkV (lkX12_402 h) q1004_M rfl rfl, List.forall_mem_cons.mpr ⟨fun M hM => Option.some.inj (show some q864_M = some M from hM) ▸ wlkV (lkX12_405 h) q864_M rfl rfl, List.forall_mem_cons.mpr ⟨fun M hM => Option.some.inj (show some q1024_M = some M from hM) ▸ wlkV (lkX12_431 h) q1024_M rfl rfl, List.forall_mem_cons.mpr ⟨fun M hM => Option.some.inj (show some q1025_M = some M from hM) ▸ wlkV (lkX12_431 h) q1025_M rfl rfl, fun _ h => absurd h List.not_mem_nil⟩⟩⟩⟩⟩⟩⟩, fun _ h => absurd h List.not_mem_nil, fun _ h => absurd h List.not_mem_nil⟩ dkX12_readOne (by decide +kernel) (by rw [h.2.2.1]; exact q1026_ok)
/-- NearSpellModel.reads -/
def q1027_M : rfM := ((⟨"NearSpellModel", "reads", "(III)V"⟩, prog_14_method_80_code, 5, none), (0,0), ([.inr (.inl [114]),.inl ((0,2,1),none),.inl ((2,4,1),none),.inl ((1,13,1),none)],[]), [(100,0),(101,0)], [(none,[],[])])
def q1027_P : rfP := (flX12,csX12,lcX12,spX12,[],[],[],([],[]))
def q1027_U : rfU := []
set_option maxHeartbeats 8000000 in
def q1027_N : List rfB := [(0,([(0,.inr (.inl [114])),(1,.inl ((0,2,1),none)),(2,.inl ((2,4,1),none)),(3,.inl ((1,13,1),none))],[],[]),(41,[]),0),
  (40,([(0,.inr (.inl [114])),(1,.inl ((0,2,1),none)),(2,.inl ((2,4,1),none)),(3,.inl ((1,13,1),none)),(4,.inl (((-2147483648),2147483647,1),none))],[],[]),(16,[]),0)]
set_option maxRecDepth 100000 in
theorem q1027_ok : rf_chkB q1027_P q1027_U wLay q1027_M ddX12_reads [] [] [0,40] 600 q1027_N = true := by decide +kernel
set_option maxHeartbeats 4000000 in
theorem q1027_met {G : rfG} (h : okG G) : rf_met G q1027_M := rf_methodB h.1 (P := q1027_P) (U := q1027_U) (N := q1027_N) ⟨wflT h flokX12, wcsT h csokX12, wlcT h lcokX12, spokX12 h, fun _ h => absurd h List.not_mem_nil, fun _ h => absurd h List.not_mem_nil, fun _ h => absurd h List.not_mem_nil, fun _ h => absurd h List.not_mem_nil, fun _ h => absurd h List.not_mem_nil⟩ dkX12_reads (by decide +kernel) (by rw [h.2.2.1]; exact q1027_ok)
/-- NearSpellModel.readTwo -/
def q1028_M : rfM := ((⟨"NearSpellModel", "readTwo", "(I)V"⟩, prog_14_method_82_code, 3, none), (21,2021), ([.inr (.inl [114]),.inl ((0,2,1),none)],[]), [(94,0),(95,0),(96,0),(97,0),(100,0),(101,0),(114,45),(114,46)], [(none,[],[])])
def q1028_P : rfP := (flX12,csX12,lcX12,spX12,[q1011_M,q827_M,q866_M,q864_M,q1027_M],[],[(350,1,12),(399,0,12),(402,2,12),(405,3,12),(431,4,12)],([],[]))
def q1028_U : rfU := []
set_option maxHeartbeats 8000000 in
def q1028_N : List rfB := [(0,([(0,.inr (.inl [114])),(1,.inl ((0,2,1),none))],[],[]),(483,[0]),0),
  (26,([(0,.inr (.inl [114])),(1,.inl ((0,2,1),none)),(2,.inl ((0,14,1),none))],[],[]),(463,[(-31)]),0),
  (70,([(0,.inr (.inl [114])),(1,.inl ((0,2,1),none)),(2,.inl ((0,13,1),none))],[],[]),(435,[(-31)]),0)]
set_option maxRecDepth 100000 in
theorem q1028_ok : rf_chkB q1028_P q1028_U wLay q1028_M ddX12_readTwo [(21,[0]),(34,[1]),(53,[2]),(62,[3]),(67,[4])] [.inl 2] [0,26,70] 600 q1028_N = true := by decide +kernel
set_option maxHeartbeats 4000000 in
theorem q1028_met {G : rfG} (h : okG G) (hh : w1OK G) : rf_met G q1028_M := rf_methodB h.1 (P := q1028_P) (U := q1028_U) (N := q1028_N) ⟨wflT h flokX12, wcsT h csokX12, wlcT h lcokX12, spokX12 h, List.forall_mem_cons.mpr ⟨q1011_met h, List.forall_mem_cons.mpr ⟨q827_met h, List.forall_mem_cons.mpr ⟨q866_met h, List.forall_mem_cons.mpr ⟨q864_met h hh, List.forall_mem_cons.mpr ⟨q1027_met h, fun _ h => absurd h List.not_mem_nil⟩⟩⟩⟩⟩, fun _ h => absurd h List.not_mem_nil, List.forall_mem_cons.mpr ⟨fun M hM => Option.some.inj (show some q827_M = some M from hM) ▸ wlkV (lkX12_350 h) q827_M rfl rfl, List.forall_mem_cons.mpr ⟨fun M hM => Option.some.inj (show some q1011_M = some M from hM) ▸ wlkV (lkX12_399 h) q1011_M rfl rfl, List.forall_mem_cons.mpr ⟨fun M hM => Option.some.inj (show some q866_M = some M from hM) ▸ wlkV (lkX12_402 h) q866_M rfl rfl, List.forall_mem_cons.mpr ⟨fun M hM => Option.some.inj (show some q864_M = some M from hM) ▸ wlkV (lkX12_405 h) q864_M rfl rfl, List.forall_mem_cons.mpr ⟨fun M hM => Option.some.inj (show some q1027_M = some M from hM) ▸ wlkV (lkX12_431 h) q1027_M rfl rfl, fun _ h => absurd h List.not_mem_nil⟩⟩⟩⟩⟩, fun _ h => absurd h List.not_mem_nil, fun _ h => absurd h List.not_mem_nil⟩ dkX12_readTwo (by decide +kernel) (by rw [h.2.2.1]; exact q1028_ok)
/-- NearSpellModel.reads -/
def q1029_M : rfM := ((⟨"NearSpellModel", "reads", "(III)V"⟩, prog_14_method_80_code, 5, none), (0,0), ([.inr (.inl [114]),.inl ((0,3,1),none),.inl ((1,4,1),none),.inl ((0,12,1),none)],[]), [(100,0),(101,0)], [(none,[],[])])
def q1029_P : rfP := (flX12,csX12,lcX12,spX12,[],[],[],([],[]))
def q1029_U : rfU := []
set_option maxHeartbeats 8000000 in
def q1029_N : List rfB := [(0,([(0,.inr (.inl [114])),(1,.inl ((0,3,1),none)),(2,.inl ((1,4,1),none)),(3,.inl ((0,12,1),none))],[],[]),(41,[]),0),
  (40,([(0,.inr (.inl [114])),(1,.inl ((0,3,1),none)),(2,.inl ((1,4,1),none)),(3,.inl ((0,12,1),none)),(4,.inl (((-2147483648),2147483647,1),none))],[],[]),(16,[]),0)]
set_option maxRecDepth 100000 in
theorem q1029_ok : rf_chkB q1029_P q1029_U wLay q1029_M ddX12_reads [] [] [0,40] 600 q1029_N = true := by decide +kernel
set_option maxHeartbeats 4000000 in
theorem q1029_met {G : rfG} (h : okG G) : rf_met G q1029_M := rf_methodB h.1 (P := q1029_P) (U := q1029_U) (N := q1029_N) ⟨wflT h flokX12, wcsT h csokX12, wlcT h lcokX12, spokX12 h, fun _ h => absurd h List.not_mem_nil, fun _ h => absurd h List.not_mem_nil, fun _ h => absurd h List.not_mem_nil, fun _ h => absurd h List.not_mem_nil, fun _ h => absurd h List.not_mem_nil⟩ dkX12_reads (by decide +kernel) (by rw [h.2.2.1]; exact q1029_ok)
/-- NearSpellModel.reads -/
def q1030_M : rfM := ((⟨"NearSpellModel", "reads", "(III)V"⟩, prog_14_method_80_code, 5, none), (0,0), ([.inr (.inl [114]),.inl ((0,3,1),none),.inl ((1,4,1),none),.inl ((1,13,1),none)],[]), [(100,0),(101,0)], [(none,[],[])])
def q1030_P : rfP := (flX12,csX12,lcX12,spX12,[],[],[],([],[]))
def q1030_U : rfU := []
set_option maxHeartbeats 8000000 in
def q1030_N : List rfB := [(0,([(0,.inr (.inl [114])),(1,.inl ((0,3,1),none)),(2,.inl ((1,4,1),none)),(3,.inl ((1,13,1),none))],[],[]),(41,[]),0),
  (40,([(0,.inr (.inl [114])),(1,.inl ((0,3,1),none)),(2,.inl ((1,4,1),none)),(3,.inl ((1,13,1),none)),(4,.inl (((-2147483648),2147483647,1),none))],[],[]),(16,[]),0)]
set_option maxRecDepth 100000 in
theorem q1030_ok : rf_chkB q1030_P q1030_U wLay q1030_M ddX12_reads [] [] [0,40] 600 q1030_N = true := by decide +kernel
set_option maxHeartbeats 4000000 in
theorem q1030_met {G : rfG} (h : okG G) : rf_met G q1030_M := rf_methodB h.1 (P := q1030_P) (U := q1030_U) (N := q1030_N) ⟨wflT h flokX12, wcsT h csokX12, wlcT h lcokX12, spokX12 h, fun _ h => absurd h List.not_mem_nil, fun _ h => absurd h List.not_mem_nil, fun _ h => absurd h List.not_mem_nil, fun _ h => absurd h List.not_mem_nil, fun _ h => absurd h List.not_mem_nil⟩ dkX12_reads (by decide +kernel) (by rw [h.2.2.1]; exact q1030_ok)
/-- NearSpellModel.readOne -/
def q1031_M : rfM := ((⟨"NearSpellModel", "readOne", "(I)V"⟩, prog_14_method_81_code, 4, none), (21,2021), ([.inr (.inl [114]),.inl ((0,3,1),none)],[]), [(94,0),(95,0),(96,0),(97,0),(100,0),(101,0),(114,45),(114,46)], [(none,[],[((114,44),(0,6,1),none)])])
def q1031_P : rfP := (flX12,csX12,lcX12,spX12,[q862_M,q827_M,q866_M,q864_M,q1029_M,q1004_M,q1030_M],[],[(350,1,12),(399,0,12),(402,2,12),(402,5,12),(405,3,12),(431,4,12),(431,6,12)],([],[]))
def q1031_U : rfU := []
set_option maxHeartbeats 8000000 in
def q1031_N : List rfB := [(0,([(0,.inr (.inl [114])),(1,.inl ((0,3,1),none))],[],[]),(8576,[0,0]),0),
  (16,([(0,.inr (.inl [114])),(1,.inl ((0,3,1),none)),(2,.inl ((0,14,1),none))],[],[((114,44),(0,6,1),none)]),(8563,[(-571),0]),0),
  (117,([(0,.inr (.inl [114])),(1,.inl ((0,3,1),none)),(2,.inl ((0,13,1),none))],[],[((114,44),(0,6,1),none)]),(7995,[(-571),0]),0),
  (60,([(0,.inr (.inl [114])),(1,.inl ((0,3,1),none)),(2,.inl ((0,13,1),none)),(3,.inl ((0,14,1),none))],[],[((90,28),(1,14,1),none),((114,44),(0,6,1),none)]),(8535,[(-571),(-36)]),0),
  (111,([(0,.inr (.inl [114])),(1,.inl ((0,3,1),none)),(2,.inl ((0,13,1),none)),(3,.inl ((0,13,1),none))],[],[((90,28),(1,14,1),none),((114,44),(0,6,1),none)]),(8502,[(-571),(-36)]),0)]
set_option maxRecDepth 100000 in
theorem q1031_ok : rf_chkB q1031_P q1031_U wLay q1031_M ddX12_readOne [(11,[0]),(24,[1]),(43,[2]),(52,[3]),(55,[4]),(68,[1]),(94,[5]),(103,[3]),(108,[6])] [.inl 2,.inl 3] [0,16,60,111,117] 600 q1031_N = true := by decide +kernel
set_option maxHeartbeats 4000000 in
theorem q1031_met {G : rfG} (h : okG G) (hh : w1OK G) : rf_met G q1031_M := rf_methodB h.1 (P := q1031_P) (U := q1031_U) (N := q1031_N) ⟨wflT h flokX12, wcsT h csokX12, wlcT h lcokX12, spokX12 h, List.forall_mem_cons.mpr ⟨q862_met h, List.forall_mem_cons.mpr ⟨q827_met h, List.forall_mem_cons.mpr ⟨q866_met h, List.forall_mem_cons.mpr ⟨q864_met h hh, List.forall_mem_cons.mpr ⟨q1029_met h, List.forall_mem_cons.mpr ⟨q1004_met h, List.forall_mem_cons.mpr ⟨q1030_met h, fun _ h => absurd h List.not_mem_nil⟩⟩⟩⟩⟩⟩⟩, fun _ h => absurd h List.not_mem_nil, List.forall_mem_cons.mpr ⟨fun M hM => Option.some.inj (show some q827_M = some M from hM) ▸ wlkV (lkX12_350 h) q827_M rfl rfl, List.forall_mem_cons.mpr ⟨fun M hM => Option.some.inj (show some q862_M = some M from hM) ▸ wlkV (lkX12_399 h) q862_M rfl rfl, List.forall_mem_cons.mpr ⟨fun M hM => Option.some.inj (show some q866_M = some M from hM) ▸ wlkV (lkX12_402 h) q866_M rfl rfl, List.forall_mem_cons.mpr ⟨fun M hM => Option.some.inj (show some q1004_M = some M from hM) ▸ wlkV (lkX12_402 h) q1004_M rfl rfl, List.forall_mem_cons.mpr ⟨fun M hM => Option.some.inj (show some q864_M = some M from hM) ▸ wlkV (lkX12_405 h) q864_M rfl rfl, List.forall_mem_cons.mpr ⟨fun M hM => Option.some.inj (show some q1029_M = some M from hM) ▸ wlkV (lkX12_431 h) q1029_M rfl rfl, List.forall_mem_cons.mpr ⟨fun M hM => Option.some.inj (show some q1030_M = some M from hM) ▸ wlkV (lkX12_431 h) q1030_M rfl rfl, fun _ h => absurd h List.not_mem_nil⟩⟩⟩⟩⟩⟩⟩, fun _ h => absurd h List.not_mem_nil, fun _ h => absurd h List.not_mem_nil⟩ dkX12_readOne (by decide +kernel) (by rw [h.2.2.1]; exact q1031_ok)
/-- NearSpellModel.reads -/
def q1032_M : rfM := ((⟨"NearSpellModel", "reads", "(III)V"⟩, prog_14_method_80_code, 5, none), (0,0), ([.inr (.inl [114]),.inl ((0,3,1),none),.inl ((2,5,1),none),.inl ((1,13,1),none)],[]), [(100,0),(101,0)], [(none,[],[])])
def q1032_P : rfP := (flX12,csX12,lcX12,spX12,[],[],[],([],[]))
def q1032_U : rfU := []
set_option maxHeartbeats 8000000 in
def q1032_N : List rfB := [(0,([(0,.inr (.inl [114])),(1,.inl ((0,3,1),none)),(2,.inl ((2,5,1),none)),(3,.inl ((1,13,1),none))],[],[]),(41,[]),0),
  (40,([(0,.inr (.inl [114])),(1,.inl ((0,3,1),none)),(2,.inl ((2,5,1),none)),(3,.inl ((1,13,1),none)),(4,.inl (((-2147483648),2147483647,1),none))],[],[]),(16,[]),0)]
set_option maxRecDepth 100000 in
theorem q1032_ok : rf_chkB q1032_P q1032_U wLay q1032_M ddX12_reads [] [] [0,40] 600 q1032_N = true := by decide +kernel
set_option maxHeartbeats 4000000 in
theorem q1032_met {G : rfG} (h : okG G) : rf_met G q1032_M := rf_methodB h.1 (P := q1032_P) (U := q1032_U) (N := q1032_N) ⟨wflT h flokX12, wcsT h csokX12, wlcT h lcokX12, spokX12 h, fun _ h => absurd h List.not_mem_nil, fun _ h => absurd h List.not_mem_nil, fun _ h => absurd h List.not_mem_nil, fun _ h => absurd h List.not_mem_nil, fun _ h => absurd h List.not_mem_nil⟩ dkX12_reads (by decide +kernel) (by rw [h.2.2.1]; exact q1032_ok)
/-- NearSpellModel.readTwo -/
def q1033_M : rfM := ((⟨"NearSpellModel", "readTwo", "(I)V"⟩, prog_14_method_82_code, 3, none), (21,2021), ([.inr (.inl [114]),.inl ((0,3,1),none)],[]), [(94,0),(95,0),(96,0),(97,0),(100,0),(101,0),(114,45),(114,46)], [(none,[],[])])
def q1033_P : rfP := (flX12,csX12,lcX12,spX12,[q1011_M,q827_M,q866_M,q864_M,q1032_M],[],[(350,1,12),(399,0,12),(402,2,12),(405,3,12),(431,4,12)],([],[]))
def q1033_U : rfU := []
set_option maxHeartbeats 8000000 in
def q1033_N : List rfB := [(0,([(0,.inr (.inl [114])),(1,.inl ((0,3,1),none))],[],[]),(483,[0]),0),
  (26,([(0,.inr (.inl [114])),(1,.inl ((0,3,1),none)),(2,.inl ((0,14,1),none))],[],[]),(463,[(-31)]),0),
  (70,([(0,.inr (.inl [114])),(1,.inl ((0,3,1),none)),(2,.inl ((0,13,1),none))],[],[]),(435,[(-31)]),0)]
set_option maxRecDepth 100000 in
theorem q1033_ok : rf_chkB q1033_P q1033_U wLay q1033_M ddX12_readTwo [(21,[0]),(34,[1]),(53,[2]),(62,[3]),(67,[4])] [.inl 2] [0,26,70] 600 q1033_N = true := by decide +kernel
set_option maxHeartbeats 4000000 in
theorem q1033_met {G : rfG} (h : okG G) (hh : w1OK G) : rf_met G q1033_M := rf_methodB h.1 (P := q1033_P) (U := q1033_U) (N := q1033_N) ⟨wflT h flokX12, wcsT h csokX12, wlcT h lcokX12, spokX12 h, List.forall_mem_cons.mpr ⟨q1011_met h, List.forall_mem_cons.mpr ⟨q827_met h, List.forall_mem_cons.mpr ⟨q866_met h, List.forall_mem_cons.mpr ⟨q864_met h hh, List.forall_mem_cons.mpr ⟨q1032_met h, fun _ h => absurd h List.not_mem_nil⟩⟩⟩⟩⟩, fun _ h => absurd h List.not_mem_nil, List.forall_mem_cons.mpr ⟨fun M hM => Option.some.inj (show some q827_M = some M from hM) ▸ wlkV (lkX12_350 h) q827_M rfl rfl, List.forall_mem_cons.mpr ⟨fun M hM => Option.some.inj (show some q1011_M = some M from hM) ▸ wlkV (lkX12_399 h) q1011_M rfl rfl, List.forall_mem_cons.mpr ⟨fun M hM => Option.some.inj (show some q866_M = some M from hM) ▸ wlkV (lkX12_402 h) q866_M rfl rfl, List.forall_mem_cons.mpr ⟨fun M hM => Option.some.inj (show some q864_M = some M from hM) ▸ wlkV (lkX12_405 h) q864_M rfl rfl, List.forall_mem_cons.mpr ⟨fun M hM => Option.some.inj (show some q1032_M = some M from hM) ▸ wlkV (lkX12_431 h) q1032_M rfl rfl, fun _ h => absurd h List.not_mem_nil⟩⟩⟩⟩⟩, fun _ h => absurd h List.not_mem_nil, fun _ h => absurd h List.not_mem_nil⟩ dkX12_readTwo (by decide +kernel) (by rw [h.2.2.1]; exact q1033_ok)
/-- NearSpellModel.reads -/
def q1034_M : rfM := ((⟨"NearSpellModel", "reads", "(III)V"⟩, prog_14_method_80_code, 5, none), (0,0), ([.inr (.inl [114]),.inl ((0,5,1),none),.inl ((1,6,1),none),.inl ((0,12,1),none)],[]), [(100,0),(101,0)], [(none,[],[])])
def q1034_P : rfP := (flX12,csX12,lcX12,spX12,[],[],[],([],[]))
def q1034_U : rfU := []
set_option maxHeartbeats 8000000 in
def q1034_N : List rfB := [(0,([(0,.inr (.inl [114])),(1,.inl ((0,5,1),none)),(2,.inl ((1,6,1),none)),(3,.inl ((0,12,1),none))],[],[]),(41,[]),0),
  (40,([(0,.inr (.inl [114])),(1,.inl ((0,5,1),none)),(2,.inl ((1,6,1),none)),(3,.inl ((0,12,1),none)),(4,.inl (((-2147483648),2147483647,1),none))],[],[]),(16,[]),0)]
set_option maxRecDepth 100000 in
theorem q1034_ok : rf_chkB q1034_P q1034_U wLay q1034_M ddX12_reads [] [] [0,40] 600 q1034_N = true := by decide +kernel
set_option maxHeartbeats 4000000 in
theorem q1034_met {G : rfG} (h : okG G) : rf_met G q1034_M := rf_methodB h.1 (P := q1034_P) (U := q1034_U) (N := q1034_N) ⟨wflT h flokX12, wcsT h csokX12, wlcT h lcokX12, spokX12 h, fun _ h => absurd h List.not_mem_nil, fun _ h => absurd h List.not_mem_nil, fun _ h => absurd h List.not_mem_nil, fun _ h => absurd h List.not_mem_nil, fun _ h => absurd h List.not_mem_nil⟩ dkX12_reads (by decide +kernel) (by rw [h.2.2.1]; exact q1034_ok)
/-- NearSpellModel.reads -/
def q1035_M : rfM := ((⟨"NearSpellModel", "reads", "(III)V"⟩, prog_14_method_80_code, 5, none), (0,0), ([.inr (.inl [114]),.inl ((0,5,1),none),.inl ((1,6,1),none),.inl ((1,13,1),none)],[]), [(100,0),(101,0)], [(none,[],[])])
def q1035_P : rfP := (flX12,csX12,lcX12,spX12,[],[],[],([],[]))
def q1035_U : rfU := []
set_option maxHeartbeats 8000000 in
def q1035_N : List rfB := [(0,([(0,.inr (.inl [114])),(1,.inl ((0,5,1),none)),(2,.inl ((1,6,1),none)),(3,.inl ((1,13,1),none))],[],[]),(41,[]),0),
  (40,([(0,.inr (.inl [114])),(1,.inl ((0,5,1),none)),(2,.inl ((1,6,1),none)),(3,.inl ((1,13,1),none)),(4,.inl (((-2147483648),2147483647,1),none))],[],[]),(16,[]),0)]
set_option maxRecDepth 100000 in
theorem q1035_ok : rf_chkB q1035_P q1035_U wLay q1035_M ddX12_reads [] [] [0,40] 600 q1035_N = true := by decide +kernel
set_option maxHeartbeats 4000000 in
theorem q1035_met {G : rfG} (h : okG G) : rf_met G q1035_M := rf_methodB h.1 (P := q1035_P) (U := q1035_U) (N := q1035_N) ⟨wflT h flokX12, wcsT h csokX12, wlcT h lcokX12, spokX12 h, fun _ h => absurd h List.not_mem_nil, fun _ h => absurd h List.not_mem_nil, fun _ h => absurd h List.not_mem_nil, fun _ h => absurd h List.not_mem_nil, fun _ h => absurd h List.not_mem_nil⟩ dkX12_reads (by decide +kernel) (by rw [h.2.2.1]; exact q1035_ok)
/-- NearSpellModel.readOne -/
def q1036_M : rfM := ((⟨"NearSpellModel", "readOne", "(I)V"⟩, prog_14_method_81_code, 4, none), (21,2021), ([.inr (.inl [114]),.inl ((0,5,1),none)],[]), [(94,0),(95,0),(96,0),(97,0),(100,0),(101,0),(114,45),(114,46)], [(none,[],[((114,44),(0,6,1),none)])])
def q1036_P : rfP := (flX12,csX12,lcX12,spX12,[q862_M,q827_M,q866_M,q864_M,q1034_M,q1004_M,q1035_M],[],[(350,1,12),(399,0,12),(402,2,12),(402,5,12),(405,3,12),(431,4,12),(431,6,12)],([],[]))
def q1036_U : rfU := []
set_option maxHeartbeats 8000000 in
def q1036_N : List rfB := [(0,([(0,.inr (.inl [114])),(1,.inl ((0,5,1),none))],[],[]),(8576,[0,0]),0),
  (16,([(0,.inr (.inl [114])),(1,.inl ((0,5,1),none)),(2,.inl ((0,14,1),none))],[],[((114,44),(0,6,1),none)]),(8563,[(-571),0]),0),
  (117,([(0,.inr (.inl [114])),(1,.inl ((0,5,1),none)),(2,.inl ((0,13,1),none))],[],[((114,44),(0,6,1),none)]),(7995,[(-571),0]),0),
  (60,([(0,.inr (.inl [114])),(1,.inl ((0,5,1),none)),(2,.inl ((0,13,1),none)),(3,.inl ((0,14,1),none))],[],[((90,28),(1,14,1),none),((114,44),(0,6,1),none)]),(8535,[(-571),(-36)]),0),
  (111,([(0,.inr (.inl [114])),(1,.inl ((0,5,1),none)),(2,.inl ((0,13,1),none)),(3,.inl ((0,13,1),none))],[],[((90,28),(1,14,1),none),((114,44),(0,6,1),none)]),(8502,[(-571),(-36)]),0)]
set_option maxRecDepth 100000 in
theorem q1036_ok : rf_chkB q1036_P q1036_U wLay q1036_M ddX12_readOne [(11,[0]),(24,[1]),(43,[2]),(52,[3]),(55,[4]),(68,[1]),(94,[5]),(103,[3]),(108,[6])] [.inl 2,.inl 3] [0,16,60,111,117] 600 q1036_N = true := by decide +kernel
set_option maxHeartbeats 4000000 in
theorem q1036_met {G : rfG} (h : okG G) (hh : w1OK G) : rf_met G q1036_M := rf_methodB h.1 (P := q1036_P) (U := q1036_U) (N := q1036_N) ⟨wflT h flokX12, wcsT h csokX12, wlcT h lcokX12, spokX12 h, List.forall_mem_cons.mpr ⟨q862_met h, List.forall_mem_cons.mpr ⟨q827_met h, List.forall_mem_cons.mpr ⟨q866_met h, List.forall_mem_cons.mpr ⟨q864_met h hh, List.forall_mem_cons.mpr ⟨q1034_met h, List.forall_mem_cons.mpr ⟨q1004_met h, List.forall_mem_cons.mpr ⟨q1035_met h, fun _ h => absurd h List.not_mem_nil⟩⟩⟩⟩⟩⟩⟩, fun _ h => absurd h List.not_mem_nil, List.forall_mem_cons.mpr ⟨fun M hM => Option.some.inj (show some q827_M = some M from hM) ▸ wlkV (lkX12_350 h) q827_M rfl rfl, List.forall_mem_cons.mpr ⟨fun M hM => Option.some.inj (show some q862_M = some M from hM) ▸ wlkV (lkX12_399 h) q862_M rfl rfl, List.forall_mem_cons.mpr ⟨fun M hM => Option.some.inj (show some q866_M = some M from hM) ▸ wlkV (lkX12_402 h) q866_M rfl rfl, List.forall_mem_cons.mpr ⟨fun M hM => Option.some.inj (show some q1004_M = some M from hM) ▸ wlkV (lkX12_402 h) q1004_M rfl rfl, List.forall_mem_cons.mpr ⟨fun M hM => Option.some.inj (show some q864_M = some M from hM) ▸ wlkV (lkX12_405 h) q864_M rfl rfl, List.forall_mem_cons.mpr ⟨fun M hM => Option.some.inj (show some q1034_M = some M from hM) ▸ wlkV (lkX12_431 h) q1034_M rfl rfl, List.forall_mem_cons.mpr ⟨fun M hM => Option.some.inj (show some q1035_M = some M from hM) ▸ wlkV (lkX12_431 h) q1035_M rfl rfl, fun _ h => absurd h List.not_mem_nil⟩⟩⟩⟩⟩⟩⟩, fun _ h => absurd h List.not_mem_nil, fun _ h => absurd h List.not_mem_nil⟩ dkX12_readOne (by decide +kernel) (by rw [h.2.2.1]; exact q1036_ok)
/-- NearSpellModel.reads -/
def q1037_M : rfM := ((⟨"NearSpellModel", "reads", "(III)V"⟩, prog_14_method_80_code, 5, none), (0,0), ([.inr (.inl [114]),.inl ((0,4,1),none),.inl ((2,6,1),none),.inl ((1,13,1),none)],[]), [(100,0),(101,0)], [(none,[],[])])
def q1037_P : rfP := (flX12,csX12,lcX12,spX12,[],[],[],([],[]))
def q1037_U : rfU := []
set_option maxHeartbeats 8000000 in
def q1037_N : List rfB := [(0,([(0,.inr (.inl [114])),(1,.inl ((0,4,1),none)),(2,.inl ((2,6,1),none)),(3,.inl ((1,13,1),none))],[],[]),(41,[]),0),
  (40,([(0,.inr (.inl [114])),(1,.inl ((0,4,1),none)),(2,.inl ((2,6,1),none)),(3,.inl ((1,13,1),none)),(4,.inl (((-2147483648),2147483647,1),none))],[],[]),(16,[]),0)]
set_option maxRecDepth 100000 in
theorem q1037_ok : rf_chkB q1037_P q1037_U wLay q1037_M ddX12_reads [] [] [0,40] 600 q1037_N = true := by decide +kernel
set_option maxHeartbeats 4000000 in
theorem q1037_met {G : rfG} (h : okG G) : rf_met G q1037_M := rf_methodB h.1 (P := q1037_P) (U := q1037_U) (N := q1037_N) ⟨wflT h flokX12, wcsT h csokX12, wlcT h lcokX12, spokX12 h, fun _ h => absurd h List.not_mem_nil, fun _ h => absurd h List.not_mem_nil, fun _ h => absurd h List.not_mem_nil, fun _ h => absurd h List.not_mem_nil, fun _ h => absurd h List.not_mem_nil⟩ dkX12_reads (by decide +kernel) (by rw [h.2.2.1]; exact q1037_ok)
/-- NearSpellModel.readTwo -/
def q1038_M : rfM := ((⟨"NearSpellModel", "readTwo", "(I)V"⟩, prog_14_method_82_code, 3, none), (21,2021), ([.inr (.inl [114]),.inl ((0,4,1),none)],[]), [(94,0),(95,0),(96,0),(97,0),(100,0),(101,0),(114,45),(114,46)], [(none,[],[])])
def q1038_P : rfP := (flX12,csX12,lcX12,spX12,[q1011_M,q827_M,q866_M,q864_M,q1037_M],[],[(350,1,12),(399,0,12),(402,2,12),(405,3,12),(431,4,12)],([],[]))
def q1038_U : rfU := []
set_option maxHeartbeats 8000000 in
def q1038_N : List rfB := [(0,([(0,.inr (.inl [114])),(1,.inl ((0,4,1),none))],[],[]),(483,[0]),0),
  (26,([(0,.inr (.inl [114])),(1,.inl ((0,4,1),none)),(2,.inl ((0,14,1),none))],[],[]),(463,[(-31)]),0),
  (70,([(0,.inr (.inl [114])),(1,.inl ((0,4,1),none)),(2,.inl ((0,13,1),none))],[],[]),(435,[(-31)]),0)]
set_option maxRecDepth 100000 in
theorem q1038_ok : rf_chkB q1038_P q1038_U wLay q1038_M ddX12_readTwo [(21,[0]),(34,[1]),(53,[2]),(62,[3]),(67,[4])] [.inl 2] [0,26,70] 600 q1038_N = true := by decide +kernel
set_option maxHeartbeats 4000000 in
theorem q1038_met {G : rfG} (h : okG G) (hh : w1OK G) : rf_met G q1038_M := rf_methodB h.1 (P := q1038_P) (U := q1038_U) (N := q1038_N) ⟨wflT h flokX12, wcsT h csokX12, wlcT h lcokX12, spokX12 h, List.forall_mem_cons.mpr ⟨q1011_met h, List.forall_mem_cons.mpr ⟨q827_met h, List.forall_mem_cons.mpr ⟨q866_met h, List.forall_mem_cons.mpr ⟨q864_met h hh, List.forall_mem_cons.mpr ⟨q1037_met h, fun _ h => absurd h List.not_mem_nil⟩⟩⟩⟩⟩, fun _ h => absurd h List.not_mem_nil, List.forall_mem_cons.mpr ⟨fun M hM => Option.some.inj (show some q827_M = some M from hM) ▸ wlkV (lkX12_350 h) q827_M rfl rfl, List.forall_mem_cons.mpr ⟨fun M hM => Option.some.inj (show some q1011_M = some M from hM) ▸ wlkV (lkX12_399 h) q1011_M rfl rfl, List.forall_mem_cons.mpr ⟨fun M hM => Option.some.inj (show some q866_M = some M from hM) ▸ wlkV (lkX12_402 h) q866_M rfl rfl, List.forall_mem_cons.mpr ⟨fun M hM => Option.some.inj (show some q864_M = some M from hM) ▸ wlkV (lkX12_405 h) q864_M rfl rfl, List.forall_mem_cons.mpr ⟨fun M hM => Option.some.inj (show some q1037_M = some M from hM) ▸ wlkV (lkX12_431 h) q1037_M rfl rfl, fun _ h => absurd h List.not_mem_nil⟩⟩⟩⟩⟩, fun _ h => absurd h List.not_mem_nil, fun _ h => absurd h List.not_mem_nil⟩ dkX12_readTwo (by decide +kernel) (by rw [h.2.2.1]; exact q1038_ok)
/-- NearSpellModel.layReadings -/
def q1039_M : rfM := ((⟨"NearSpellModel", "layReadings", "()V"⟩, prog_14_method_83_code, 2, none), (22,2044), ([.inr (.inl [114])],[]), [(94,0),(95,0),(96,0),(97,0),(100,0),(101,0),(114,45),(114,46)], [(none,[],[])])
def ddX12_layReadings : List (Nat × Instr × Nat) := [(0,.iconst 0,1),(1,.istore_n 1,1),(2,.iload_n 1,1),(3,.bipush 6,2),(5,.if_icmp .gt 41,3),(8,.aload_n 0,1),(9,.getfield 102,3),(12,.iload_n 1,1),(13,.iload_n 1,1),(14,.ifCond .ne 7,3),(17,.iconst 0,1),(18,.goto 6,3),(21,.sipush 1000,3),(24,.iastore,1),(25,.aload_n 0,1),(26,.getfield 105,3),(29,.iload_n 1,1),(30,.iload_n 1,1),(31,.ifCond .ne 7,3),(34,.iconst 1,1),(35,.goto 4,3),(38,.iconst 0,1),(39,.iastore,1),(40,.iinc 1 1,3),(43,.goto (-41),3),(46,.iconst 0,1),(47,.istore_n 1,1),(48,.iload_n 1,1),(49,.aload_n 0,1),(50,.getfield 72,3),(53,.bipush 29,2),(55,.iaload,1),(56,.if_icmp .ge 32,3),(59,.aload_n 0,1),(60,.iload_n 1,1),(61,.invokevirtual 435,3),(64,.iload_n 1,1),(65,.iconst 1,1),(66,.iadd,1),(67,.aload_n 0,1),(68,.getfield 72,3),(71,.bipush 29,2),(73,.iaload,1),(74,.if_icmp .ge 8,3),(77,.aload_n 0,1),(78,.iload_n 1,1),(79,.invokevirtual 438,3),(82,.iinc 1 1,3),(85,.goto (-37),3),(88,.return_,1)]
set_option maxRecDepth 100000 in
theorem dkX12_layReadings : rf_decs prog_14_method_83_code ddX12_layReadings := rf_decs_of (by decide +kernel)
def q1039_P : rfP := (flX12,csX12,lcX12,spX12,[q1036_M,q1038_M],[],[(435,0,12),(438,1,12)],([],[]))
def q1039_U : rfU := []
set_option maxHeartbeats 8000000 in
def q1039_N : List rfB := [(0,([(0,.inr (.inl [114]))],[],[]),(373,[0]),0),
  (2,([(0,.inr (.inl [114])),(1,.inl ((0,7,1),none))],[],[]),(369,[(-26)]),0),
  (25,([(0,.inr (.inl [114])),(1,.inl ((0,6,1),none))],[],[]),(356,[(-26)]),0),
  (40,([(0,.inr (.inl [114])),(1,.inl ((0,6,1),none))],[],[]),(346,[(-26)]),0),
  (48,([(0,.inr (.inl [114])),(1,.inl ((0,6,1),none))],[],[]),(159,[(-23)]),0),
  (82,([(0,.inr (.inl [114])),(1,.inl ((0,5,1),none))],[],[((90,29),(1,6,1),none)]),(139,[(-23)]),0)]
set_option maxRecDepth 100000 in
theorem q1039_ok : rf_chkB q1039_P q1039_U wLay q1039_M ddX12_layReadings [(61,[0]),(79,[1])] [.inl 1] [0,2,25,40,48,82] 600 q1039_N = true := by decide +kernel
set_option maxHeartbeats 4000000 in
theorem q1039_met {G : rfG} (h : okG G) (hh : w1OK G) : rf_met G q1039_M := rf_methodB h.1 (P := q1039_P) (U := q1039_U) (N := q1039_N) ⟨wflT h flokX12, wcsT h csokX12, wlcT h lcokX12, spokX12 h, List.forall_mem_cons.mpr ⟨q1036_met h hh, List.forall_mem_cons.mpr ⟨q1038_met h hh, fun _ h => absurd h List.not_mem_nil⟩⟩, fun _ h => absurd h List.not_mem_nil, List.forall_mem_cons.mpr ⟨fun M hM => Option.some.inj (show some q1036_M = some M from hM) ▸ wlkV (lkX12_435 h) q1036_M rfl rfl, List.forall_mem_cons.mpr ⟨fun M hM => Option.some.inj (show some q1038_M = some M from hM) ▸ wlkV (lkX12_438 h) q1038_M rfl rfl, fun _ h => absurd h List.not_mem_nil⟩⟩, fun _ h => absurd h List.not_mem_nil, fun _ h => absurd h List.not_mem_nil⟩ dkX12_layReadings (by decide +kernel) (by rw [h.2.2.1]; exact q1039_ok)
/-- NearSpellModel.reading -/
def q1040_M : rfM := ((⟨"NearSpellModel", "reading", "()I"⟩, prog_14_method_84_code, 1, (some .int)), (23,2065), ([.inr (.inl [114])],[((114,28),(0,0,0),none),((998,0),(1,1,0),none)]), [(94,0),(95,0),(96,0),(97,0),(100,0),(101,0),(114,45),(114,46)], [(some (.inl (((-2147483648),2147483647,1),none)),[],[])])
def ddX12_reading : List (Nat × Instr × Nat) := [(0,.aload_n 0,1),(1,.getfield 72,3),(4,.bipush 29,2),(6,.iaload,1),(7,.ifCond .le 12,3),(10,.aload_n 0,1),(11,.invokevirtual 423,3),(14,.ifCond .ne 5,3),(17,.iconst (-1),1),(18,.ireturn,1),(19,.aload_n 0,1),(20,.invokevirtual 441,3),(23,.aload_n 0,1),(24,.getfield 102,3),(27,.aload_n 0,1),(28,.getfield 72,3),(31,.bipush 29,2),(33,.iaload,1),(34,.iaload,1),(35,.ireturn,1)]
set_option maxRecDepth 100000 in
theorem dkX12_reading : rf_decs prog_14_method_84_code ddX12_reading := rf_decs_of (by decide +kernel)
def q1040_P : rfP := (flX12,csX12,lcX12,spX12,[q832_M,q1039_M],[],[(423,0,12),(441,1,12)],([],[]))
def q1040_U : rfU := []
set_option maxHeartbeats 8000000 in
def q1040_N : List rfB := [(0,([(0,.inr (.inl [114]))],[],[((114,28),(0,0,0),some ((114,28),0,0)),((998,0),(1,1,0),some ((998,0),0,0))]),(19,[]),0),
  (19,([(0,.inr (.inl [114]))],[],[((114,28),(0,0,0),some ((114,28),0,0)),((998,0),(1,1,0),some ((998,0),0,0))]),(9,[]),0)]
set_option maxRecDepth 100000 in
theorem q1040_ok : rf_chkB q1040_P q1040_U wLay q1040_M ddX12_reading [(11,[0]),(20,[1])] [] [0,19] 600 q1040_N = true := by decide +kernel
set_option maxHeartbeats 4000000 in
theorem q1040_met {G : rfG} (h : okG G) (hh : w1OK G) : rf_met G q1040_M := rf_methodB h.1 (P := q1040_P) (U := q1040_U) (N := q1040_N) ⟨wflT h flokX12, wcsT h csokX12, wlcT h lcokX12, spokX12 h, List.forall_mem_cons.mpr ⟨q832_met h, List.forall_mem_cons.mpr ⟨q1039_met h hh, fun _ h => absurd h List.not_mem_nil⟩⟩, fun _ h => absurd h List.not_mem_nil, List.forall_mem_cons.mpr ⟨fun M hM => Option.some.inj (show some q832_M = some M from hM) ▸ wlkV (lkX12_423 h) q832_M rfl rfl, List.forall_mem_cons.mpr ⟨fun M hM => Option.some.inj (show some q1039_M = some M from hM) ▸ wlkV (lkX12_441 h) q1039_M rfl rfl, fun _ h => absurd h List.not_mem_nil⟩⟩, fun _ h => absurd h List.not_mem_nil, fun _ h => absurd h List.not_mem_nil⟩ dkX12_reading (by decide +kernel) (by rw [h.2.2.1]; exact q1040_ok)
/-- NearSpellModel.reading -/
def q1041_M : rfM := ((⟨"NearSpellModel", "reading", "()I"⟩, prog_14_method_84_code, 1, (some .int)), (23,2065), ([.inr (.inl [114])],[((77,1),(1,31,1),none),((114,28),(1,1,0),none),((998,0),(1,1,0),none)]), [(94,0),(95,0),(96,0),(97,0),(100,0),(101,0),(114,45),(114,46)], [(some (.inl (((-2147483648),2147483647,1),none)),[],[])])
def q1041_P : rfP := (flX12,csX12,lcX12,spX12,[q832_M,q1039_M],[],[(423,0,12),(441,1,12)],([],[]))
def q1041_U : rfU := []
set_option maxHeartbeats 8000000 in
def q1041_N : List rfB := [(0,([(0,.inr (.inl [114]))],[],[((77,1),(1,31,1),some ((77,1),0,0)),((114,28),(1,1,0),some ((114,28),0,0)),((998,0),(1,1,0),some ((998,0),0,0))]),(19,[]),0),
  (19,([(0,.inr (.inl [114]))],[],[((77,1),(1,31,1),some ((77,1),0,0)),((114,28),(1,1,0),some ((114,28),0,0)),((998,0),(1,1,0),some ((998,0),0,0))]),(9,[]),0)]
set_option maxRecDepth 100000 in
theorem q1041_ok : rf_chkB q1041_P q1041_U wLay q1041_M ddX12_reading [(11,[0]),(20,[1])] [] [0,19] 600 q1041_N = true := by decide +kernel
set_option maxHeartbeats 4000000 in
theorem q1041_met {G : rfG} (h : okG G) (hh : w1OK G) : rf_met G q1041_M := rf_methodB h.1 (P := q1041_P) (U := q1041_U) (N := q1041_N) ⟨wflT h flokX12, wcsT h csokX12, wlcT h lcokX12, spokX12 h, List.forall_mem_cons.mpr ⟨q832_met h, List.forall_mem_cons.mpr ⟨q1039_met h hh, fun _ h => absurd h List.not_mem_nil⟩⟩, fun _ h => absurd h List.not_mem_nil, List.forall_mem_cons.mpr ⟨fun M hM => Option.some.inj (show some q832_M = some M from hM) ▸ wlkV (lkX12_423 h) q832_M rfl rfl, List.forall_mem_cons.mpr ⟨fun M hM => Option.some.inj (show some q1039_M = some M from hM) ▸ wlkV (lkX12_441 h) q1039_M rfl rfl, fun _ h => absurd h List.not_mem_nil⟩⟩, fun _ h => absurd h List.not_mem_nil, fun _ h => absurd h List.not_mem_nil⟩ dkX12_reading (by decide +kernel) (by rw [h.2.2.1]; exact q1041_ok)
/-- NearSpellModel.readings -/
def q1042_M : rfM := ((⟨"NearSpellModel", "readings", "()I"⟩, prog_14_method_85_code, 1, (some .int)), (23,2065), ([.inr (.inl [114])],[((114,28),(0,0,0),none),((998,0),(1,1,0),none)]), [(94,0),(95,0),(96,0),(97,0),(100,0),(101,0),(114,45),(114,46)], [(some (.inl (((-2147483648),2147483647,1),none)),[],[])])
def ddX12_readings : List (Nat × Instr × Nat) := [(0,.aload_n 0,1),(1,.getfield 72,3),(4,.bipush 29,2),(6,.iaload,1),(7,.ifCond .le 12,3),(10,.aload_n 0,1),(11,.invokevirtual 423,3),(14,.ifCond .ne 5,3),(17,.iconst (-1),1),(18,.ireturn,1),(19,.aload_n 0,1),(20,.invokevirtual 441,3),(23,.aload_n 0,1),(24,.getfield 105,3),(27,.aload_n 0,1),(28,.getfield 72,3),(31,.bipush 29,2),(33,.iaload,1),(34,.iaload,1),(35,.ireturn,1)]
set_option maxRecDepth 100000 in
theorem dkX12_readings : rf_decs prog_14_method_85_code ddX12_readings := rf_decs_of (by decide +kernel)
def q1042_P : rfP := (flX12,csX12,lcX12,spX12,[q832_M,q1039_M],[],[(423,0,12),(441,1,12)],([],[]))
def q1042_U : rfU := []
set_option maxHeartbeats 8000000 in
def q1042_N : List rfB := [(0,([(0,.inr (.inl [114]))],[],[((114,28),(0,0,0),some ((114,28),0,0)),((998,0),(1,1,0),some ((998,0),0,0))]),(19,[]),0),
  (19,([(0,.inr (.inl [114]))],[],[((114,28),(0,0,0),some ((114,28),0,0)),((998,0),(1,1,0),some ((998,0),0,0))]),(9,[]),0)]
set_option maxRecDepth 100000 in
theorem q1042_ok : rf_chkB q1042_P q1042_U wLay q1042_M ddX12_readings [(11,[0]),(20,[1])] [] [0,19] 600 q1042_N = true := by decide +kernel
set_option maxHeartbeats 4000000 in
theorem q1042_met {G : rfG} (h : okG G) (hh : w1OK G) : rf_met G q1042_M := rf_methodB h.1 (P := q1042_P) (U := q1042_U) (N := q1042_N) ⟨wflT h flokX12, wcsT h csokX12, wlcT h lcokX12, spokX12 h, List.forall_mem_cons.mpr ⟨q832_met h, List.forall_mem_cons.mpr ⟨q1039_met h hh, fun _ h => absurd h List.not_mem_nil⟩⟩, fun _ h => absurd h List.not_mem_nil, List.forall_mem_cons.mpr ⟨fun M hM => Option.some.inj (show some q832_M = some M from hM) ▸ wlkV (lkX12_423 h) q832_M rfl rfl, List.forall_mem_cons.mpr ⟨fun M hM => Option.some.inj (show some q1039_M = some M from hM) ▸ wlkV (lkX12_441 h) q1039_M rfl rfl, fun _ h => absurd h List.not_mem_nil⟩⟩, fun _ h => absurd h List.not_mem_nil, fun _ h => absurd h List.not_mem_nil⟩ dkX12_readings (by decide +kernel) (by rw [h.2.2.1]; exact q1042_ok)
/-- NearSpellModel.readings -/
def q1043_M : rfM := ((⟨"NearSpellModel", "readings", "()I"⟩, prog_14_method_85_code, 1, (some .int)), (23,2065), ([.inr (.inl [114])],[((77,1),(1,31,1),none),((114,28),(1,1,0),none),((998,0),(1,1,0),none)]), [(94,0),(95,0),(96,0),(97,0),(100,0),(101,0),(114,45),(114,46)], [(some (.inl (((-2147483648),2147483647,1),none)),[],[])])
def q1043_P : rfP := (flX12,csX12,lcX12,spX12,[q832_M,q1039_M],[],[(423,0,12),(441,1,12)],([],[]))
def q1043_U : rfU := []
set_option maxHeartbeats 8000000 in
def q1043_N : List rfB := [(0,([(0,.inr (.inl [114]))],[],[((77,1),(1,31,1),some ((77,1),0,0)),((114,28),(1,1,0),some ((114,28),0,0)),((998,0),(1,1,0),some ((998,0),0,0))]),(19,[]),0),
  (19,([(0,.inr (.inl [114]))],[],[((77,1),(1,31,1),some ((77,1),0,0)),((114,28),(1,1,0),some ((114,28),0,0)),((998,0),(1,1,0),some ((998,0),0,0))]),(9,[]),0)]
set_option maxRecDepth 100000 in
theorem q1043_ok : rf_chkB q1043_P q1043_U wLay q1043_M ddX12_readings [(11,[0]),(20,[1])] [] [0,19] 600 q1043_N = true := by decide +kernel
set_option maxHeartbeats 4000000 in
theorem q1043_met {G : rfG} (h : okG G) (hh : w1OK G) : rf_met G q1043_M := rf_methodB h.1 (P := q1043_P) (U := q1043_U) (N := q1043_N) ⟨wflT h flokX12, wcsT h csokX12, wlcT h lcokX12, spokX12 h, List.forall_mem_cons.mpr ⟨q832_met h, List.forall_mem_cons.mpr ⟨q1039_met h hh, fun _ h => absurd h List.not_mem_nil⟩⟩, fun _ h => absurd h List.not_mem_nil, List.forall_mem_cons.mpr ⟨fun M hM => Option.some.inj (show some q832_M = some M from hM) ▸ wlkV (lkX12_423 h) q832_M rfl rfl, List.forall_mem_cons.mpr ⟨fun M hM => Option.some.inj (show some q1039_M = some M from hM) ▸ wlkV (lkX12_441 h) q1039_M rfl rfl, fun _ h => absurd h List.not_mem_nil⟩⟩, fun _ h => absurd h List.not_mem_nil, fun _ h => absurd h List.not_mem_nil⟩ dkX12_readings (by decide +kernel) (by rw [h.2.2.1]; exact q1043_ok)
/-- NearSpellModel.layOne -/
def q1044_M : rfM := ((⟨"NearSpellModel", "layOne", "(II)V"⟩, prog_14_method_56_code, 4, none), (3,66), ([.inr (.inl [114]),.inl (((-1),387420488,1),none),.inl ((0,0,0),none)],[]), [(94,0),(114,45)], [(none,[],[((114,44),(0,6,1),none)])])
def q1044_P : rfP := (flX12,csX12,lcX12,spX12,[q789_M,q861_M,q802_M],[(319,0),(319,1),(359,2)],[],([],[]))
def q1044_U : rfU := []
set_option maxHeartbeats 8000000 in
def q1044_N : List rfB := [(0,([(0,.inr (.inl [114])),(1,.inl (((-1),387420488,1),none)),(2,.inl ((0,0,0),none))],[],[]),(183,[0]),0),
  (15,([(0,.inr (.inl [114])),(1,.inl (((-1),387420488,1),none)),(2,.inl ((0,0,0),none)),(3,.inl ((0,11,1),none))],[],[((114,44),(0,6,1),none)]),(172,[(-14)]),0)]
set_option maxRecDepth 100000 in
theorem q1044_ok : rf_chkB q1044_P q1044_U wLay q1044_M ddX12_layOne [(2,[0]),(6,[1]),(17,[0]),(30,[2]),(44,[1])] [.inl 3] [0,15] 600 q1044_N = true := by decide +kernel
set_option maxHeartbeats 4000000 in
theorem q1044_met {G : rfG} (h : okG G) : rf_met G q1044_M := rf_methodB h.1 (P := q1044_P) (U := q1044_U) (N := q1044_N) ⟨wflT h flokX12, wcsT h csokX12, wlcT h lcokX12, spokX12 h, List.forall_mem_cons.mpr ⟨q789_met h, List.forall_mem_cons.mpr ⟨q861_met h, List.forall_mem_cons.mpr ⟨q802_met h, fun _ h => absurd h List.not_mem_nil⟩⟩⟩, List.forall_mem_cons.mpr ⟨fun M hM => Option.some.inj (show some q789_M = some M from hM) ▸ wlkS (lkX12_319 h) q789_M rfl rfl, List.forall_mem_cons.mpr ⟨fun M hM => Option.some.inj (show some q861_M = some M from hM) ▸ wlkS (lkX12_319 h) q861_M rfl rfl, List.forall_mem_cons.mpr ⟨fun M hM => Option.some.inj (show some q802_M = some M from hM) ▸ wlkS (lkX12_359 h) q802_M rfl rfl, fun _ h => absurd h List.not_mem_nil⟩⟩⟩, fun _ h => absurd h List.not_mem_nil, fun _ h => absurd h List.not_mem_nil, fun _ h => absurd h List.not_mem_nil⟩ dkX12_layOne (by decide +kernel) (by rw [h.2.2.1]; exact q1044_ok)
/-- NearSpellModel.apart -/
def q1045_M : rfM := ((⟨"NearSpellModel", "apart", "(II)I"⟩, prog_14_method_62_code, 3, (some .int)), (21,2021), ([.inr (.inl [114]),.inl (((-1),387420488,1),none),.inl (((-1),387420488,1),none)],[]), [(94,0),(95,0),(96,0),(97,0),(114,45),(114,46)], [(some (.inl ((0,12,1),none)),[],[((114,44),(0,6,1),none),((114,45),(0,6,1),none)])])
def q1045_P : rfP := (flX12,csX12,lcX12,spX12,[q1044_M,q866_M,q864_M],[],[(399,0,12),(402,1,12),(405,2,12)],([],[]))
def q1045_U : rfU := []
set_option maxHeartbeats 8000000 in
def q1045_N : List rfB := [(0,([(0,.inr (.inl [114])),(1,.inl (((-1),387420488,1),none)),(2,.inl (((-1),387420488,1),none))],[],[]),(10,[]),0)]
set_option maxRecDepth 100000 in
theorem q1045_ok : rf_chkB q1045_P q1045_U wLay q1045_M ddX12_apart [(3,[0]),(9,[1]),(13,[2])] [] [0] 600 q1045_N = true := by decide +kernel
set_option maxHeartbeats 4000000 in
theorem q1045_met {G : rfG} (h : okG G) (hh : w1OK G) : rf_met G q1045_M := rf_methodB h.1 (P := q1045_P) (U := q1045_U) (N := q1045_N) ⟨wflT h flokX12, wcsT h csokX12, wlcT h lcokX12, spokX12 h, List.forall_mem_cons.mpr ⟨q1044_met h, List.forall_mem_cons.mpr ⟨q866_met h, List.forall_mem_cons.mpr ⟨q864_met h hh, fun _ h => absurd h List.not_mem_nil⟩⟩⟩, fun _ h => absurd h List.not_mem_nil, List.forall_mem_cons.mpr ⟨fun M hM => Option.some.inj (show some q1044_M = some M from hM) ▸ wlkV (lkX12_399 h) q1044_M rfl rfl, List.forall_mem_cons.mpr ⟨fun M hM => Option.some.inj (show some q866_M = some M from hM) ▸ wlkV (lkX12_402 h) q866_M rfl rfl, List.forall_mem_cons.mpr ⟨fun M hM => Option.some.inj (show some q864_M = some M from hM) ▸ wlkV (lkX12_405 h) q864_M rfl rfl, fun _ h => absurd h List.not_mem_nil⟩⟩⟩, fun _ h => absurd h List.not_mem_nil, fun _ h => absurd h List.not_mem_nil⟩ dkX12_apart (by decide +kernel) (by rw [h.2.2.1]; exact q1045_ok)
/-- NearSpellModel.apartFrom -/
def q1046_M : rfM := ((⟨"NearSpellModel", "apartFrom", "(II)I"⟩, prog_14_method_63_code, 3, (some .int)), (22,2043), ([.inr (.inl [114]),.inl ((0,0,0),none),.inl ((0,0,0),none)],[]), [(94,0),(95,0),(96,0),(97,0),(114,45),(114,46)], [(some (.inl ((0,12,1),none)),[],[((114,44),(0,6,1),none),((114,45),(0,6,1),none)])])
def ddX12_apartFrom : List (Nat × Instr × Nat) := [(0,.aload_n 0,1),(1,.aload_n 0,1),(2,.getfield 72,3),(5,.iconst 0,1),(6,.iload_n 1,1),(7,.iadd,1),(8,.iaload,1),(9,.aload_n 0,1),(10,.getfield 72,3),(13,.iconst 0,1),(14,.iload_n 2,1),(15,.iadd,1),(16,.iaload,1),(17,.invokevirtual 408,3),(20,.ireturn,1)]
set_option maxRecDepth 100000 in
theorem dkX12_apartFrom : rf_decs prog_14_method_63_code ddX12_apartFrom := rf_decs_of (by decide +kernel)
def q1046_P : rfP := (flX12,csX12,lcX12,spX12,[q1045_M],[],[(408,0,12)],([],[]))
def q1046_U : rfU := []
set_option maxHeartbeats 8000000 in
def q1046_N : List rfB := [(0,([(0,.inr (.inl [114])),(1,.inl ((0,0,0),none)),(2,.inl ((0,0,0),none))],[],[]),(14,[]),0)]
set_option maxRecDepth 100000 in
theorem q1046_ok : rf_chkB q1046_P q1046_U wLay q1046_M ddX12_apartFrom [(17,[0])] [] [0] 600 q1046_N = true := by decide +kernel
set_option maxHeartbeats 4000000 in
theorem q1046_met {G : rfG} (h : okG G) (hh : w1OK G) : rf_met G q1046_M := rf_methodB h.1 (P := q1046_P) (U := q1046_U) (N := q1046_N) ⟨wflT h flokX12, wcsT h csokX12, wlcT h lcokX12, spokX12 h, List.forall_mem_cons.mpr ⟨q1045_met h hh, fun _ h => absurd h List.not_mem_nil⟩, fun _ h => absurd h List.not_mem_nil, List.forall_mem_cons.mpr ⟨fun M hM => Option.some.inj (show some q1045_M = some M from hM) ▸ wlkV (lkX12_408 h) q1045_M rfl rfl, fun _ h => absurd h List.not_mem_nil⟩, fun _ h => absurd h List.not_mem_nil, fun _ h => absurd h List.not_mem_nil⟩ dkX12_apartFrom (by decide +kernel) (by rw [h.2.2.1]; exact q1046_ok)
/-- NearSpellModel.apartFrom -/
def q1047_M : rfM := ((⟨"NearSpellModel", "apartFrom", "(II)I"⟩, prog_14_method_63_code, 3, (some .int)), (22,2043), ([.inr (.inl [114]),.inl ((0,1,1),none),.inl ((0,1,1),none)],[]), [(94,0),(95,0),(96,0),(97,0),(114,45),(114,46)], [(some (.inl ((0,12,1),none)),[],[((114,44),(0,6,1),none),((114,45),(0,6,1),none)])])
def q1047_P : rfP := (flX12,csX12,lcX12,spX12,[q1045_M],[],[(408,0,12)],([],[]))
def q1047_U : rfU := []
set_option maxHeartbeats 8000000 in
def q1047_N : List rfB := [(0,([(0,.inr (.inl [114])),(1,.inl ((0,1,1),none)),(2,.inl ((0,1,1),none))],[],[]),(14,[]),0)]
set_option maxRecDepth 100000 in
theorem q1047_ok : rf_chkB q1047_P q1047_U wLay q1047_M ddX12_apartFrom [(17,[0])] [] [0] 600 q1047_N = true := by decide +kernel
set_option maxHeartbeats 4000000 in
theorem q1047_met {G : rfG} (h : okG G) (hh : w1OK G) : rf_met G q1047_M := rf_methodB h.1 (P := q1047_P) (U := q1047_U) (N := q1047_N) ⟨wflT h flokX12, wcsT h csokX12, wlcT h lcokX12, spokX12 h, List.forall_mem_cons.mpr ⟨q1045_met h hh, fun _ h => absurd h List.not_mem_nil⟩, fun _ h => absurd h List.not_mem_nil, List.forall_mem_cons.mpr ⟨fun M hM => Option.some.inj (show some q1045_M = some M from hM) ▸ wlkV (lkX12_408 h) q1045_M rfl rfl, fun _ h => absurd h List.not_mem_nil⟩, fun _ h => absurd h List.not_mem_nil, fun _ h => absurd h List.not_mem_nil⟩ dkX12_apartFrom (by decide +kernel) (by rw [h.2.2.1]; exact q1047_ok)
/-- NearSpellModel.apartFrom -/
def q1048_M : rfM := ((⟨"NearSpellModel", "apartFrom", "(II)I"⟩, prog_14_method_63_code, 3, (some .int)), (22,2043), ([.inr (.inl [114]),.inl ((0,2,1),none),.inl ((0,2,1),none)],[]), [(94,0),(95,0),(96,0),(97,0),(114,45),(114,46)], [(some (.inl ((0,12,1),none)),[],[((114,44),(0,6,1),none),((114,45),(0,6,1),none)])])
def q1048_P : rfP := (flX12,csX12,lcX12,spX12,[q1045_M],[],[(408,0,12)],([],[]))
def q1048_U : rfU := []
set_option maxHeartbeats 8000000 in
def q1048_N : List rfB := [(0,([(0,.inr (.inl [114])),(1,.inl ((0,2,1),none)),(2,.inl ((0,2,1),none))],[],[]),(14,[]),0)]
set_option maxRecDepth 100000 in
theorem q1048_ok : rf_chkB q1048_P q1048_U wLay q1048_M ddX12_apartFrom [(17,[0])] [] [0] 600 q1048_N = true := by decide +kernel
set_option maxHeartbeats 4000000 in
theorem q1048_met {G : rfG} (h : okG G) (hh : w1OK G) : rf_met G q1048_M := rf_methodB h.1 (P := q1048_P) (U := q1048_U) (N := q1048_N) ⟨wflT h flokX12, wcsT h csokX12, wlcT h lcokX12, spokX12 h, List.forall_mem_cons.mpr ⟨q1045_met h hh, fun _ h => absurd h List.not_mem_nil⟩, fun _ h => absurd h List.not_mem_nil, List.forall_mem_cons.mpr ⟨fun M hM => Option.some.inj (show some q1045_M = some M from hM) ▸ wlkV (lkX12_408 h) q1045_M rfl rfl, fun _ h => absurd h List.not_mem_nil⟩, fun _ h => absurd h List.not_mem_nil, fun _ h => absurd h List.not_mem_nil⟩ dkX12_apartFrom (by decide +kernel) (by rw [h.2.2.1]; exact q1048_ok)
/-- NearSpellModel.apartFrom -/
def q1049_M : rfM := ((⟨"NearSpellModel", "apartFrom", "(II)I"⟩, prog_14_method_63_code, 3, (some .int)), (22,2043), ([.inr (.inl [114]),.inl ((0,12,1),none),.inl ((0,12,1),none)],[]), [(94,0),(95,0),(96,0),(97,0),(114,45),(114,46)], [(some (.inl ((0,12,1),none)),[],[((114,44),(0,6,1),none),((114,45),(0,6,1),none)])])
def q1049_P : rfP := (flX12,csX12,lcX12,spX12,[q1045_M],[],[(408,0,12)],([],[]))
def q1049_U : rfU := []
set_option maxHeartbeats 8000000 in
def q1049_N : List rfB := [(0,([(0,.inr (.inl [114])),(1,.inl ((0,12,1),none)),(2,.inl ((0,12,1),none))],[],[]),(14,[]),0)]
set_option maxRecDepth 100000 in
theorem q1049_ok : rf_chkB q1049_P q1049_U wLay q1049_M ddX12_apartFrom [(17,[0])] [] [0] 600 q1049_N = true := by decide +kernel
set_option maxHeartbeats 4000000 in
theorem q1049_met {G : rfG} (h : okG G) (hh : w1OK G) : rf_met G q1049_M := rf_methodB h.1 (P := q1049_P) (U := q1049_U) (N := q1049_N) ⟨wflT h flokX12, wcsT h csokX12, wlcT h lcokX12, spokX12 h, List.forall_mem_cons.mpr ⟨q1045_met h hh, fun _ h => absurd h List.not_mem_nil⟩, fun _ h => absurd h List.not_mem_nil, List.forall_mem_cons.mpr ⟨fun M hM => Option.some.inj (show some q1045_M = some M from hM) ▸ wlkV (lkX12_408 h) q1045_M rfl rfl, fun _ h => absurd h List.not_mem_nil⟩, fun _ h => absurd h List.not_mem_nil, fun _ h => absurd h List.not_mem_nil⟩ dkX12_apartFrom (by decide +kernel) (by rw [h.2.2.1]; exact q1049_ok)
/-- NearSpellModel.apartFrom -/
def q1050_M : rfM := ((⟨"NearSpellModel", "apartFrom", "(II)I"⟩, prog_14_method_63_code, 3, (some .int)), (22,2043), ([.inr (.inl [114]),.inl ((0,13,1),none),.inl ((0,13,1),none)],[]), [(94,0),(95,0),(96,0),(97,0),(114,45),(114,46)], [(some (.inl ((0,12,1),none)),[],[((114,44),(0,6,1),none),((114,45),(0,6,1),none)])])
def q1050_P : rfP := (flX12,csX12,lcX12,spX12,[q1045_M],[],[(408,0,12)],([],[]))
def q1050_U : rfU := []
set_option maxHeartbeats 8000000 in
def q1050_N : List rfB := [(0,([(0,.inr (.inl [114])),(1,.inl ((0,13,1),none)),(2,.inl ((0,13,1),none))],[],[]),(14,[]),0)]
set_option maxRecDepth 100000 in
theorem q1050_ok : rf_chkB q1050_P q1050_U wLay q1050_M ddX12_apartFrom [(17,[0])] [] [0] 600 q1050_N = true := by decide +kernel
set_option maxHeartbeats 4000000 in
theorem q1050_met {G : rfG} (h : okG G) (hh : w1OK G) : rf_met G q1050_M := rf_methodB h.1 (P := q1050_P) (U := q1050_U) (N := q1050_N) ⟨wflT h flokX12, wcsT h csokX12, wlcT h lcokX12, spokX12 h, List.forall_mem_cons.mpr ⟨q1045_met h hh, fun _ h => absurd h List.not_mem_nil⟩, fun _ h => absurd h List.not_mem_nil, List.forall_mem_cons.mpr ⟨fun M hM => Option.some.inj (show some q1045_M = some M from hM) ▸ wlkV (lkX12_408 h) q1045_M rfl rfl, fun _ h => absurd h List.not_mem_nil⟩, fun _ h => absurd h List.not_mem_nil, fun _ h => absurd h List.not_mem_nil⟩ dkX12_apartFrom (by decide +kernel) (by rw [h.2.2.1]; exact q1050_ok)
/-- NearSpellModel.layApart -/
def q1051_M : rfM := ((⟨"NearSpellModel", "layApart", "()V"⟩, prog_14_method_86_code, 4, none), (23,2065), ([.inr (.inl [114])],[]), [(94,0),(95,0),(96,0),(97,0),(103,0),(114,45),(114,46)], [(none,[],[])])
def ddX12_layApart : List (Nat × Instr × Nat) := [(0,.iconst 0,1),(1,.istore_n 1,1),(2,.iload_n 1,1),(3,.bipush 14,2),(5,.if_icmp .ge 75,3),(8,.iconst 0,1),(9,.istore_n 2,1),(10,.iload_n 2,1),(11,.iload_n 1,1),(12,.if_icmp .gt 62,3),(15,.aload_n 0,1),(16,.iload_n 1,1),(17,.invokevirtual 350,3),(20,.ifCond .eq 20,3),(23,.aload_n 0,1),(24,.iload_n 2,1),(25,.invokevirtual 350,3),(28,.ifCond .eq 12,3),(31,.aload_n 0,1),(32,.iload_n 1,1),(33,.iload_n 2,1),(34,.invokevirtual 444,3),(37,.goto 6,3),(40,.sipush 1000,3),(43,.istore_n 3,1),(44,.aload_n 0,1),(45,.getfield 111,3),(48,.bipush 14,2),(50,.iload_n 1,1),(51,.imul,1),(52,.iload_n 2,1),(53,.iadd,1),(54,.iload_n 3,1),(55,.iastore,1),(56,.aload_n 0,1),(57,.getfield 111,3),(60,.bipush 14,2),(62,.iload_n 2,1),(63,.imul,1),(64,.iload_n 1,1),(65,.iadd,1),(66,.iload_n 3,1),(67,.iastore,1),(68,.iinc 2 1,3),(71,.goto (-61),3),(74,.iinc 1 1,3),(77,.goto (-75),3),(80,.return_,1)]
set_option maxRecDepth 100000 in
theorem dkX12_layApart : rf_decs prog_14_method_86_code ddX12_layApart := rf_decs_of (by decide +kernel)
def q1051_P : rfP := (flX12,csX12,lcX12,spX12,[q827_M,q1050_M],[],[(350,0,12),(444,1,12)],([],[]))
def q1051_U : rfU := []
set_option maxHeartbeats 8000000 in
def q1051_N : List rfB := [(0,([(0,.inr (.inl [114]))],[],[]),(9347,[0,0]),0),
  (2,([(0,.inr (.inl [114])),(1,.inl ((0,14,1),none))],[],[]),(9343,[(-623),0]),0),
  (10,([(0,.inr (.inl [114])),(1,.inl ((0,13,1),none)),(2,.inl ((0,14,1),none))],[],[]),(9336,[(-623),(-41)]),0),
  (40,([(0,.inr (.inl [114])),(1,.inl ((0,13,1),none)),(2,.inl ((0,13,1),none))],[],[]),(9318,[(-623),(-41)]),0),
  (43,([(0,.inr (.inl [114])),(1,.inl ((0,13,1),none)),(2,.inl ((0,13,1),none))],[.inl ((0,1000,1),none)],[]),(9317,[(-623),(-41)]),0)]
set_option maxRecDepth 100000 in
theorem q1051_ok : rf_chkB q1051_P q1051_U wLay q1051_M ddX12_layApart [(17,[0]),(25,[0]),(34,[1])] [.inl 1,.inl 2] [0,2,10,40,43] 600 q1051_N = true := by decide +kernel
set_option maxHeartbeats 4000000 in
theorem q1051_met {G : rfG} (h : okG G) (hh : w1OK G) : rf_met G q1051_M := rf_methodB h.1 (P := q1051_P) (U := q1051_U) (N := q1051_N) ⟨wflT h flokX12, wcsT h csokX12, wlcT h lcokX12, spokX12 h, List.forall_mem_cons.mpr ⟨q827_met h, List.forall_mem_cons.mpr ⟨q1050_met h hh, fun _ h => absurd h List.not_mem_nil⟩⟩, fun _ h => absurd h List.not_mem_nil, List.forall_mem_cons.mpr ⟨fun M hM => Option.some.inj (show some q827_M = some M from hM) ▸ wlkV (lkX12_350 h) q827_M rfl rfl, List.forall_mem_cons.mpr ⟨fun M hM => Option.some.inj (show some q1050_M = some M from hM) ▸ wlkV (lkX12_444 h) q1050_M rfl rfl, fun _ h => absurd h List.not_mem_nil⟩⟩, fun _ h => absurd h List.not_mem_nil, fun _ h => absurd h List.not_mem_nil⟩ dkX12_layApart (by decide +kernel) (by rw [h.2.2.1]; exact q1051_ok)
/-- NearSpellModel.closest -/
def q1052_M : rfM := ((⟨"NearSpellModel", "closest", "(I)I"⟩, prog_14_method_88_code, 5, (some .int)), (24,2088), ([.inr (.inl [114]),.inl (((-2147483648),2147483647,1),none)],[((114,28),(0,0,0),none),((998,0),(1,1,0),none)]), [(94,0),(95,0),(96,0),(97,0),(103,0),(114,45),(114,46)], [(some (.inl (((-2147483648),2147483647,1),none)),[],[])])
def ddX12_closest : List (Nat × Instr × Nat) := [(0,.iload_n 1,1),(1,.iconst 0,1),(2,.iconst 2,1),(3,.invokestatic 334,3),(6,.ifCond .eq 14,3),(9,.aload_n 0,1),(10,.invokevirtual 423,3),(13,.invokestatic 356,3),(16,.iconst 2,1),(17,.if_icmp .ge 5,3),(20,.iconst (-1),1),(21,.ireturn,1),(22,.aload_n 0,1),(23,.invokevirtual 447,3),(26,.iconst (-1),1),(27,.istore_n 2,1),(28,.sipush 1000,3),(31,.istore_n 3,1),(32,.iconst 0,1),(33,.istore 4,2),(35,.iload 4,2),(37,.sipush 196,3),(40,.if_icmp .ge 47,3),(43,.iload 4,2),(45,.bipush 14,2),(47,.idiv,1),(48,.iload 4,2),(50,.bipush 14,2),(52,.irem,1),(53,.if_icmp .ge 28,3),(56,.aload_n 0,1),(57,.getfield 111,3),(60,.iload 4,2),(62,.iaload,1),(63,.iload_n 3,1),(64,.if_icmp .lt 6,3),(67,.goto 14,3),(70,.iload 4,2),(72,.istore_n 2,1),(73,.aload_n 0,1),(74,.getfield 111,3),(77,.iload 4,2),(79,.iaload,1),(80,.istore_n 3,1),(81,.iinc 4 1,3),(84,.goto (-49),3),(87,.iload_n 1,1),(88,.ifCond .ne 10,3),(91,.iload_n 2,1),(92,.bipush 14,2),(94,.idiv,1),(95,.goto 16,3),(98,.iload_n 1,1),(99,.iconst 1,1),(100,.if_icmp .ne 10,3),(103,.iload_n 2,1),(104,.bipush 14,2),(106,.irem,1),(107,.goto 4,3),(110,.iload_n 3,1),(111,.ireturn,1)]
set_option maxRecDepth 100000 in
theorem dkX12_closest : rf_decs prog_14_method_88_code ddX12_closest := rf_decs_of (by decide +kernel)
def q1052_P : rfP := (flX12,csX12,lcX12,spX12,[q975_M,q832_M,q792_M,q1051_M],[(334,0),(356,2)],[(423,1,12),(447,3,12)],([],[]))
def q1052_U : rfU := []
set_option maxHeartbeats 8000000 in
def q1052_N : List rfB := [(0,([(0,.inr (.inl [114])),(1,.inl (((-2147483648),2147483647,1),none))],[],[((114,28),(0,0,0),some ((114,28),0,0)),((998,0),(1,1,0),some ((998,0),0,0))]),(5354,[0]),0),
  (20,([(0,.inr (.inl [114])),(1,.inl (((-2147483648),2147483647,1),none))],[],[((114,28),(0,0,0),some ((114,28),0,0)),((998,0),(1,1,0),some ((998,0),0,0))]),(5343,[0]),0),
  (35,([(0,.inr (.inl [114])),(1,.inl ((0,2,1),none)),(2,.inl (((-1),195,1),none)),(3,.inl (((-2147483648),2147483647,1),none)),(4,.inl ((0,196,1),none))],[],[((114,28),(0,0,0),some ((114,28),0,0)),((998,0),(1,1,0),some ((998,0),0,0))]),(5331,[(-27)]),0),
  (81,([(0,.inr (.inl [114])),(1,.inl ((0,2,1),none)),(2,.inl (((-1),195,1),none)),(3,.inl (((-2147483648),2147483647,1),none)),(4,.inl ((0,195,1),none))],[],[((114,28),(0,0,0),some ((114,28),0,0)),((998,0),(1,1,0),some ((998,0),0,0))]),(5307,[(-27)]),0),
  (111,([(0,.inr (.inl [114])),(1,.inl ((0,2,1),none)),(2,.inl (((-1),195,1),none)),(3,.inl (((-2147483648),2147483647,1),none)),(4,.inl ((196,196,1),none))],[.inl (((-2147483648),2147483647,1),none)],[((114,28),(0,0,0),some ((114,28),0,0)),((998,0),(1,1,0),some ((998,0),0,0))]),(0,[0]),0)]
set_option maxRecDepth 100000 in
theorem q1052_ok : rf_chkB q1052_P q1052_U wLay q1052_M ddX12_closest [(3,[0]),(10,[1]),(13,[2]),(23,[3])] [.inl 4] [0,20,35,81,111] 600 q1052_N = true := by decide +kernel
set_option maxHeartbeats 4000000 in
theorem q1052_met {G : rfG} (h : okG G) (hh : w1OK G) : rf_met G q1052_M := rf_methodB h.1 (P := q1052_P) (U := q1052_U) (N := q1052_N) ⟨wflT h flokX12, wcsT h csokX12, wlcT h lcokX12, spokX12 h, List.forall_mem_cons.mpr ⟨q975_met h, List.forall_mem_cons.mpr ⟨q832_met h, List.forall_mem_cons.mpr ⟨q792_met h, List.forall_mem_cons.mpr ⟨q1051_met h hh, fun _ h => absurd h List.not_mem_nil⟩⟩⟩⟩, List.forall_mem_cons.mpr ⟨fun M hM => Option.some.inj (show some q975_M = some M from hM) ▸ wlkS (lkX12_334 h) q975_M rfl rfl, List.forall_mem_cons.mpr ⟨fun M hM => Option.some.inj (show some q792_M = some M from hM) ▸ wlkS (lkX12_356 h) q792_M rfl rfl, fun _ h => absurd h List.not_mem_nil⟩⟩, List.forall_mem_cons.mpr ⟨fun M hM => Option.some.inj (show some q832_M = some M from hM) ▸ wlkV (lkX12_423 h) q832_M rfl rfl, List.forall_mem_cons.mpr ⟨fun M hM => Option.some.inj (show some q1051_M = some M from hM) ▸ wlkV (lkX12_447 h) q1051_M rfl rfl, fun _ h => absurd h List.not_mem_nil⟩⟩, fun _ h => absurd h List.not_mem_nil, fun _ h => absurd h List.not_mem_nil⟩ dkX12_closest (by decide +kernel) (by rw [h.2.2.1]; exact q1052_ok)
/-- NearSpellModel.closest -/
def q1053_M : rfM := ((⟨"NearSpellModel", "closest", "(I)I"⟩, prog_14_method_88_code, 5, (some .int)), (24,2088), ([.inr (.inl [114]),.inl (((-2147483648),2147483647,1),none)],[((77,1),(1,31,1),none),((114,28),(1,1,0),none),((998,0),(1,1,0),none)]), [(94,0),(95,0),(96,0),(97,0),(103,0),(114,45),(114,46)], [(some (.inl (((-2147483648),2147483647,1),none)),[],[])])
def q1053_P : rfP := (flX12,csX12,lcX12,spX12,[q975_M,q832_M,q792_M,q1051_M],[(334,0),(356,2)],[(423,1,12),(447,3,12)],([],[]))
def q1053_U : rfU := []
set_option maxHeartbeats 8000000 in
def q1053_N : List rfB := [(0,([(0,.inr (.inl [114])),(1,.inl (((-2147483648),2147483647,1),none))],[],[((77,1),(1,31,1),some ((77,1),0,0)),((114,28),(1,1,0),some ((114,28),0,0)),((998,0),(1,1,0),some ((998,0),0,0))]),(5354,[0]),0),
  (20,([(0,.inr (.inl [114])),(1,.inl (((-2147483648),2147483647,1),none))],[],[((77,1),(1,31,1),some ((77,1),0,0)),((114,28),(1,1,0),some ((114,28),0,0)),((998,0),(1,1,0),some ((998,0),0,0))]),(5343,[0]),0),
  (35,([(0,.inr (.inl [114])),(1,.inl ((0,2,1),none)),(2,.inl (((-1),195,1),none)),(3,.inl (((-2147483648),2147483647,1),none)),(4,.inl ((0,196,1),none))],[],[((77,1),(1,31,1),some ((77,1),0,0)),((114,28),(1,1,0),some ((114,28),0,0)),((998,0),(1,1,0),some ((998,0),0,0))]),(5331,[(-27)]),0),
  (81,([(0,.inr (.inl [114])),(1,.inl ((0,2,1),none)),(2,.inl (((-1),195,1),none)),(3,.inl (((-2147483648),2147483647,1),none)),(4,.inl ((0,195,1),none))],[],[((77,1),(1,31,1),some ((77,1),0,0)),((114,28),(1,1,0),some ((114,28),0,0)),((998,0),(1,1,0),some ((998,0),0,0))]),(5307,[(-27)]),0),
  (111,([(0,.inr (.inl [114])),(1,.inl ((0,2,1),none)),(2,.inl (((-1),195,1),none)),(3,.inl (((-2147483648),2147483647,1),none)),(4,.inl ((196,196,1),none))],[.inl (((-2147483648),2147483647,1),none)],[((77,1),(1,31,1),some ((77,1),0,0)),((114,28),(1,1,0),some ((114,28),0,0)),((998,0),(1,1,0),some ((998,0),0,0))]),(0,[0]),0)]
set_option maxRecDepth 100000 in
theorem q1053_ok : rf_chkB q1053_P q1053_U wLay q1053_M ddX12_closest [(3,[0]),(10,[1]),(13,[2]),(23,[3])] [.inl 4] [0,20,35,81,111] 600 q1053_N = true := by decide +kernel
set_option maxHeartbeats 4000000 in
theorem q1053_met {G : rfG} (h : okG G) (hh : w1OK G) : rf_met G q1053_M := rf_methodB h.1 (P := q1053_P) (U := q1053_U) (N := q1053_N) ⟨wflT h flokX12, wcsT h csokX12, wlcT h lcokX12, spokX12 h, List.forall_mem_cons.mpr ⟨q975_met h, List.forall_mem_cons.mpr ⟨q832_met h, List.forall_mem_cons.mpr ⟨q792_met h, List.forall_mem_cons.mpr ⟨q1051_met h hh, fun _ h => absurd h List.not_mem_nil⟩⟩⟩⟩, List.forall_mem_cons.mpr ⟨fun M hM => Option.some.inj (show some q975_M = some M from hM) ▸ wlkS (lkX12_334 h) q975_M rfl rfl, List.forall_mem_cons.mpr ⟨fun M hM => Option.some.inj (show some q792_M = some M from hM) ▸ wlkS (lkX12_356 h) q792_M rfl rfl, fun _ h => absurd h List.not_mem_nil⟩⟩, List.forall_mem_cons.mpr ⟨fun M hM => Option.some.inj (show some q832_M = some M from hM) ▸ wlkV (lkX12_423 h) q832_M rfl rfl, List.forall_mem_cons.mpr ⟨fun M hM => Option.some.inj (show some q1051_M = some M from hM) ▸ wlkV (lkX12_447 h) q1051_M rfl rfl, fun _ h => absurd h List.not_mem_nil⟩⟩, fun _ h => absurd h List.not_mem_nil, fun _ h => absurd h List.not_mem_nil⟩ dkX12_closest (by decide +kernel) (by rw [h.2.2.1]; exact q1053_ok)
/-- NearSpellModel.layNear -/
def q1055_M : rfM := ((⟨"NearSpellModel", "layNear", "(I)V"⟩, prog_14_method_87_code, 4, none), (24,2088), ([.inr (.inl [114]),.inl ((0,6,1),none)],[]), [(94,0),(95,0),(96,0),(97,0),(102,0),(103,0),(114,45),(114,46)], [(none,[],[])])
def ddX12_layNear : List (Nat × Instr × Nat) := [(0,.aload_n 0,1),(1,.invokevirtual 447,3),(4,.iconst 0,1),(5,.istore_n 2,1),(6,.iload_n 2,1),(7,.bipush 14,2),(9,.if_icmp .ge 57,3),(12,.aload_n 0,1),(13,.getfield 108,3),(16,.iload_n 2,1),(17,.iconst 0,1),(18,.iastore,1),(19,.iconst 0,1),(20,.istore_n 3,1),(21,.iload_n 3,1),(22,.bipush 14,2),(24,.if_icmp .ge 36,3),(27,.aload_n 0,1),(28,.getfield 111,3),(31,.bipush 14,2),(33,.iload_n 2,1),(34,.imul,1),(35,.iload_n 3,1),(36,.iadd,1),(37,.iaload,1),(38,.iload_n 1,1),(39,.if_icmp .gt 15,3),(42,.aload_n 0,1),(43,.getfield 108,3),(46,.iload_n 2,1),(47,.dup2,1),(48,.iaload,1),(49,.iconst 1,1),(50,.iload_n 3,1),(51,.ishl,1),(52,.ior,1),(53,.iastore,1),(54,.iinc 3 1,3),(57,.goto (-36),3),(60,.iinc 2 1,3),(63,.goto (-57),3),(66,.return_,1)]
set_option maxRecDepth 100000 in
theorem dkX12_layNear : rf_decs prog_14_method_87_code ddX12_layNear := rf_decs_of (by decide +kernel)
def q1055_P : rfP := (flX12,csX12,lcX12,spX12,[q1051_M],[],[(447,0,12)],([],[]))
def q1055_U : rfU := []
set_option maxHeartbeats 8000000 in
def q1055_N : List rfB := [(0,([(0,.inr (.inl [114])),(1,.inl ((0,6,1),none))],[],[]),(6049,[0,0]),0),
  (6,([(0,.inr (.inl [114])),(1,.inl ((0,6,1),none)),(2,.inl ((0,14,1),none))],[],[]),(6043,[(-403),0]),0),
  (21,([(0,.inr (.inl [114])),(1,.inl ((0,6,1),none)),(2,.inl ((0,13,1),none)),(3,.inl ((0,14,1),none))],[],[]),(6031,[(-403),(-26)]),0),
  (54,([(0,.inr (.inl [114])),(1,.inl ((0,6,1),none)),(2,.inl ((0,13,1),none)),(3,.inl ((0,13,1),none))],[],[]),(6008,[(-403),(-26)]),0)]
set_option maxRecDepth 100000 in
theorem q1055_ok : rf_chkB q1055_P q1055_U wLay q1055_M ddX12_layNear [(1,[0])] [.inl 2,.inl 3] [0,6,21,54] 600 q1055_N = true := by decide +kernel
set_option maxHeartbeats 4000000 in
theorem q1055_met {G : rfG} (h : okG G) (hh : w1OK G) : rf_met G q1055_M := rf_methodB h.1 (P := q1055_P) (U := q1055_U) (N := q1055_N) ⟨wflT h flokX12, wcsT h csokX12, wlcT h lcokX12, spokX12 h, List.forall_mem_cons.mpr ⟨q1051_met h hh, fun _ h => absurd h List.not_mem_nil⟩, fun _ h => absurd h List.not_mem_nil, List.forall_mem_cons.mpr ⟨fun M hM => Option.some.inj (show some q1051_M = some M from hM) ▸ wlkV (lkX12_447 h) q1051_M rfl rfl, fun _ h => absurd h List.not_mem_nil⟩, fun _ h => absurd h List.not_mem_nil, fun _ h => absurd h List.not_mem_nil⟩ dkX12_layNear (by decide +kernel) (by rw [h.2.2.1]; exact q1055_ok)
/-- NearSpellModel.areFar -/
def q1056_M : rfM := ((⟨"NearSpellModel", "areFar", "(I)Z"⟩, prog_14_method_91_code, 3, (some .boolean)), (1,21), ([.inr (.inl [114]),.inl ((0,0,0),none)],[]), [], [(some (.inl ((0,0,0),none)),[],[]),(some (.inl ((1,1,0),none)),[],[])])
def ddX12_areFar : List (Nat × Instr × Nat) := [(0,.iconst 0,1),(1,.istore_n 2,1),(2,.iload_n 2,1),(3,.bipush 14,2),(5,.if_icmp .ge 33,3),(8,.iload_n 1,1),(9,.iload_n 2,1),(10,.invokestatic 251,3),(13,.ifCond .eq 19,3),(16,.aload_n 0,1),(17,.getfield 108,3),(20,.iload_n 2,1),(21,.iaload,1),(22,.iload_n 1,1),(23,.iand,1),(24,.iconst 1,1),(25,.iload_n 2,1),(26,.ishl,1),(27,.if_icmp .eq 5,3),(30,.iconst 0,1),(31,.ireturn,1),(32,.iinc 2 1,3),(35,.goto (-33),3),(38,.iconst 1,1),(39,.ireturn,1)]
set_option maxRecDepth 100000 in
theorem dkX12_areFar : rf_decs prog_14_method_91_code ddX12_areFar := rf_decs_of (by decide +kernel)
def q1056_P : rfP := (flX12,csX12,lcX12,spX12,[q684_M],[(251,0)],[],([],[]))
def q1056_U : rfU := []
set_option maxHeartbeats 8000000 in
def q1056_N : List rfB := [(0,([(0,.inr (.inl [114])),(1,.inl ((0,0,0),none))],[],[]),(166,[0]),0),
  (2,([(0,.inr (.inl [114])),(1,.inl ((0,0,0),none)),(2,.inl ((0,14,1),none))],[],[]),(162,[(-10)]),0)]
set_option maxRecDepth 100000 in
theorem q1056_ok : rf_chkB q1056_P q1056_U wLay q1056_M ddX12_areFar [(10,[0])] [.inl 2] [0,2] 600 q1056_N = true := by decide +kernel
set_option maxHeartbeats 4000000 in
theorem q1056_met {G : rfG} (h : okG G) : rf_met G q1056_M := rf_methodB h.1 (P := q1056_P) (U := q1056_U) (N := q1056_N) ⟨wflT h flokX12, wcsT h csokX12, wlcT h lcokX12, spokX12 h, List.forall_mem_cons.mpr ⟨q684_met h, fun _ h => absurd h List.not_mem_nil⟩, List.forall_mem_cons.mpr ⟨fun M hM => Option.some.inj (show some q684_M = some M from hM) ▸ wlkS (lkX12_251 h) q684_M rfl rfl, fun _ h => absurd h List.not_mem_nil⟩, fun _ h => absurd h List.not_mem_nil, fun _ h => absurd h List.not_mem_nil, fun _ h => absurd h List.not_mem_nil⟩ dkX12_areFar (by decide +kernel) (by rw [h.2.2.1]; exact q1056_ok)
/-- NearSpellModel.areFar -/
def q1057_M : rfM := ((⟨"NearSpellModel", "areFar", "(I)Z"⟩, prog_14_method_91_code, 3, (some .boolean)), (1,21), ([.inr (.inl [114]),.inl ((0,1,1),none)],[]), [], [(some (.inl ((0,0,0),none)),[],[]),(some (.inl ((1,1,0),none)),[],[])])
def q1057_P : rfP := (flX12,csX12,lcX12,spX12,[q684_M],[(251,0)],[],([],[]))
def q1057_U : rfU := []
set_option maxHeartbeats 8000000 in
def q1057_N : List rfB := [(0,([(0,.inr (.inl [114])),(1,.inl ((0,1,1),none))],[],[]),(320,[0]),0),
  (2,([(0,.inr (.inl [114])),(1,.inl ((0,1,1),none)),(2,.inl ((0,14,1),none))],[],[]),(316,[(-21)]),0),
  (32,([(0,.inr (.inl [114])),(1,.inl ((0,1,1),none)),(2,.inl ((0,13,1),none))],[],[]),(298,[(-21)]),0)]
set_option maxRecDepth 100000 in
theorem q1057_ok : rf_chkB q1057_P q1057_U wLay q1057_M ddX12_areFar [(10,[0])] [.inl 2] [0,2,32] 600 q1057_N = true := by decide +kernel
set_option maxHeartbeats 4000000 in
theorem q1057_met {G : rfG} (h : okG G) : rf_met G q1057_M := rf_methodB h.1 (P := q1057_P) (U := q1057_U) (N := q1057_N) ⟨wflT h flokX12, wcsT h csokX12, wlcT h lcokX12, spokX12 h, List.forall_mem_cons.mpr ⟨q684_met h, fun _ h => absurd h List.not_mem_nil⟩, List.forall_mem_cons.mpr ⟨fun M hM => Option.some.inj (show some q684_M = some M from hM) ▸ wlkS (lkX12_251 h) q684_M rfl rfl, fun _ h => absurd h List.not_mem_nil⟩, fun _ h => absurd h List.not_mem_nil, fun _ h => absurd h List.not_mem_nil, fun _ h => absurd h List.not_mem_nil⟩ dkX12_areFar (by decide +kernel) (by rw [h.2.2.1]; exact q1057_ok)
/-- NearSpellModel.areFar -/
def q1058_M : rfM := ((⟨"NearSpellModel", "areFar", "(I)Z"⟩, prog_14_method_91_code, 3, (some .boolean)), (1,21), ([.inr (.inl [114]),.inl ((0,2,1),none)],[]), [], [(some (.inl ((0,0,0),none)),[],[]),(some (.inl ((1,1,0),none)),[],[])])
def q1058_P : rfP := (flX12,csX12,lcX12,spX12,[q684_M],[(251,0)],[],([],[]))
def q1058_U : rfU := []
set_option maxHeartbeats 8000000 in
def q1058_N : List rfB := [(0,([(0,.inr (.inl [114])),(1,.inl ((0,2,1),none))],[],[]),(320,[0]),0),
  (2,([(0,.inr (.inl [114])),(1,.inl ((0,2,1),none)),(2,.inl ((0,14,1),none))],[],[]),(316,[(-21)]),0),
  (32,([(0,.inr (.inl [114])),(1,.inl ((0,2,1),none)),(2,.inl ((0,13,1),none))],[],[]),(298,[(-21)]),0)]
set_option maxRecDepth 100000 in
theorem q1058_ok : rf_chkB q1058_P q1058_U wLay q1058_M ddX12_areFar [(10,[0])] [.inl 2] [0,2,32] 600 q1058_N = true := by decide +kernel
set_option maxHeartbeats 4000000 in
theorem q1058_met {G : rfG} (h : okG G) : rf_met G q1058_M := rf_methodB h.1 (P := q1058_P) (U := q1058_U) (N := q1058_N) ⟨wflT h flokX12, wcsT h csokX12, wlcT h lcokX12, spokX12 h, List.forall_mem_cons.mpr ⟨q684_met h, fun _ h => absurd h List.not_mem_nil⟩, List.forall_mem_cons.mpr ⟨fun M hM => Option.some.inj (show some q684_M = some M from hM) ▸ wlkS (lkX12_251 h) q684_M rfl rfl, fun _ h => absurd h List.not_mem_nil⟩, fun _ h => absurd h List.not_mem_nil, fun _ h => absurd h List.not_mem_nil, fun _ h => absurd h List.not_mem_nil⟩ dkX12_areFar (by decide +kernel) (by rw [h.2.2.1]; exact q1058_ok)
/-- NearSpellModel.areFar -/
def q1059_M : rfM := ((⟨"NearSpellModel", "areFar", "(I)Z"⟩, prog_14_method_91_code, 3, (some .boolean)), (1,21), ([.inr (.inl [114]),.inl ((0,3,1),none)],[]), [], [(some (.inl ((0,0,0),none)),[],[]),(some (.inl ((1,1,0),none)),[],[])])
def q1059_P : rfP := (flX12,csX12,lcX12,spX12,[q684_M],[(251,0)],[],([],[]))
def q1059_U : rfU := []
set_option maxHeartbeats 8000000 in
def q1059_N : List rfB := [(0,([(0,.inr (.inl [114])),(1,.inl ((0,3,1),none))],[],[]),(320,[0]),0),
  (2,([(0,.inr (.inl [114])),(1,.inl ((0,3,1),none)),(2,.inl ((0,14,1),none))],[],[]),(316,[(-21)]),0),
  (32,([(0,.inr (.inl [114])),(1,.inl ((0,3,1),none)),(2,.inl ((0,13,1),none))],[],[]),(298,[(-21)]),0)]
set_option maxRecDepth 100000 in
theorem q1059_ok : rf_chkB q1059_P q1059_U wLay q1059_M ddX12_areFar [(10,[0])] [.inl 2] [0,2,32] 600 q1059_N = true := by decide +kernel
set_option maxHeartbeats 4000000 in
theorem q1059_met {G : rfG} (h : okG G) : rf_met G q1059_M := rf_methodB h.1 (P := q1059_P) (U := q1059_U) (N := q1059_N) ⟨wflT h flokX12, wcsT h csokX12, wlcT h lcokX12, spokX12 h, List.forall_mem_cons.mpr ⟨q684_met h, fun _ h => absurd h List.not_mem_nil⟩, List.forall_mem_cons.mpr ⟨fun M hM => Option.some.inj (show some q684_M = some M from hM) ▸ wlkS (lkX12_251 h) q684_M rfl rfl, fun _ h => absurd h List.not_mem_nil⟩, fun _ h => absurd h List.not_mem_nil, fun _ h => absurd h List.not_mem_nil, fun _ h => absurd h List.not_mem_nil⟩ dkX12_areFar (by decide +kernel) (by rw [h.2.2.1]; exact q1059_ok)
/-- NearSpellModel.areFar -/
def q1060_M : rfM := ((⟨"NearSpellModel", "areFar", "(I)Z"⟩, prog_14_method_91_code, 3, (some .boolean)), (1,21), ([.inr (.inl [114]),.inl ((0,5,1),none)],[]), [], [(some (.inl ((0,0,0),none)),[],[]),(some (.inl ((1,1,0),none)),[],[])])
def q1060_P : rfP := (flX12,csX12,lcX12,spX12,[q684_M],[(251,0)],[],([],[]))
def q1060_U : rfU := []
set_option maxHeartbeats 8000000 in
def q1060_N : List rfB := [(0,([(0,.inr (.inl [114])),(1,.inl ((0,5,1),none))],[],[]),(320,[0]),0),
  (2,([(0,.inr (.inl [114])),(1,.inl ((0,5,1),none)),(2,.inl ((0,14,1),none))],[],[]),(316,[(-21)]),0),
  (32,([(0,.inr (.inl [114])),(1,.inl ((0,5,1),none)),(2,.inl ((0,13,1),none))],[],[]),(298,[(-21)]),0)]
set_option maxRecDepth 100000 in
theorem q1060_ok : rf_chkB q1060_P q1060_U wLay q1060_M ddX12_areFar [(10,[0])] [.inl 2] [0,2,32] 600 q1060_N = true := by decide +kernel
set_option maxHeartbeats 4000000 in
theorem q1060_met {G : rfG} (h : okG G) : rf_met G q1060_M := rf_methodB h.1 (P := q1060_P) (U := q1060_U) (N := q1060_N) ⟨wflT h flokX12, wcsT h csokX12, wlcT h lcokX12, spokX12 h, List.forall_mem_cons.mpr ⟨q684_met h, fun _ h => absurd h List.not_mem_nil⟩, List.forall_mem_cons.mpr ⟨fun M hM => Option.some.inj (show some q684_M = some M from hM) ▸ wlkS (lkX12_251 h) q684_M rfl rfl, fun _ h => absurd h List.not_mem_nil⟩, fun _ h => absurd h List.not_mem_nil, fun _ h => absurd h List.not_mem_nil, fun _ h => absurd h List.not_mem_nil⟩ dkX12_areFar (by decide +kernel) (by rw [h.2.2.1]; exact q1060_ok)
/-- NearSpellModel.areFar -/
def q1061_M : rfM := ((⟨"NearSpellModel", "areFar", "(I)Z"⟩, prog_14_method_91_code, 3, (some .boolean)), (1,21), ([.inr (.inl [114]),.inl ((0,6,1),none)],[]), [], [(some (.inl ((0,0,0),none)),[],[]),(some (.inl ((1,1,0),none)),[],[])])
def q1061_P : rfP := (flX12,csX12,lcX12,spX12,[q684_M],[(251,0)],[],([],[]))
def q1061_U : rfU := []
set_option maxHeartbeats 8000000 in
def q1061_N : List rfB := [(0,([(0,.inr (.inl [114])),(1,.inl ((0,6,1),none))],[],[]),(320,[0]),0),
  (2,([(0,.inr (.inl [114])),(1,.inl ((0,6,1),none)),(2,.inl ((0,14,1),none))],[],[]),(316,[(-21)]),0),
  (32,([(0,.inr (.inl [114])),(1,.inl ((0,6,1),none)),(2,.inl ((0,13,1),none))],[],[]),(298,[(-21)]),0)]
set_option maxRecDepth 100000 in
theorem q1061_ok : rf_chkB q1061_P q1061_U wLay q1061_M ddX12_areFar [(10,[0])] [.inl 2] [0,2,32] 600 q1061_N = true := by decide +kernel
set_option maxHeartbeats 4000000 in
theorem q1061_met {G : rfG} (h : okG G) : rf_met G q1061_M := rf_methodB h.1 (P := q1061_P) (U := q1061_U) (N := q1061_N) ⟨wflT h flokX12, wcsT h csokX12, wlcT h lcokX12, spokX12 h, List.forall_mem_cons.mpr ⟨q684_met h, fun _ h => absurd h List.not_mem_nil⟩, List.forall_mem_cons.mpr ⟨fun M hM => Option.some.inj (show some q684_M = some M from hM) ▸ wlkS (lkX12_251 h) q684_M rfl rfl, fun _ h => absurd h List.not_mem_nil⟩, fun _ h => absurd h List.not_mem_nil, fun _ h => absurd h List.not_mem_nil, fun _ h => absurd h List.not_mem_nil⟩ dkX12_areFar (by decide +kernel) (by rw [h.2.2.1]; exact q1061_ok)
/-- NearSpellModel.areFar -/
def q1062_M : rfM := ((⟨"NearSpellModel", "areFar", "(I)Z"⟩, prog_14_method_91_code, 3, (some .boolean)), (1,21), ([.inr (.inl [114]),.inl ((0,9,1),none)],[]), [], [(some (.inl ((0,0,0),none)),[],[]),(some (.inl ((1,1,0),none)),[],[])])
def q1062_P : rfP := (flX12,csX12,lcX12,spX12,[q684_M],[(251,0)],[],([],[]))
def q1062_U : rfU := []
set_option maxHeartbeats 8000000 in
def q1062_N : List rfB := [(0,([(0,.inr (.inl [114])),(1,.inl ((0,9,1),none))],[],[]),(320,[0]),0),
  (2,([(0,.inr (.inl [114])),(1,.inl ((0,9,1),none)),(2,.inl ((0,14,1),none))],[],[]),(316,[(-21)]),0),
  (32,([(0,.inr (.inl [114])),(1,.inl ((0,9,1),none)),(2,.inl ((0,13,1),none))],[],[]),(298,[(-21)]),0)]
set_option maxRecDepth 100000 in
theorem q1062_ok : rf_chkB q1062_P q1062_U wLay q1062_M ddX12_areFar [(10,[0])] [.inl 2] [0,2,32] 600 q1062_N = true := by decide +kernel
set_option maxHeartbeats 4000000 in
theorem q1062_met {G : rfG} (h : okG G) : rf_met G q1062_M := rf_methodB h.1 (P := q1062_P) (U := q1062_U) (N := q1062_N) ⟨wflT h flokX12, wcsT h csokX12, wlcT h lcokX12, spokX12 h, List.forall_mem_cons.mpr ⟨q684_met h, fun _ h => absurd h List.not_mem_nil⟩, List.forall_mem_cons.mpr ⟨fun M hM => Option.some.inj (show some q684_M = some M from hM) ▸ wlkS (lkX12_251 h) q684_M rfl rfl, fun _ h => absurd h List.not_mem_nil⟩, fun _ h => absurd h List.not_mem_nil, fun _ h => absurd h List.not_mem_nil, fun _ h => absurd h List.not_mem_nil⟩ dkX12_areFar (by decide +kernel) (by rw [h.2.2.1]; exact q1062_ok)
