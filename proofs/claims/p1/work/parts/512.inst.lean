/-- NearSpellModel.layStore -/
def q127_M : rfM := ((⟨"NearSpellModel", "layStore", "(I)I"⟩, prog_14_method_51_code, 5, (some .int)), (2,43), ([.inr (.inl [114]),.inl ((2,2,0),none)],[((75,0),(4,4,0),none),((90,28),(0,0,0),none),((114,28),(0,0,0),none),((114,39),(0,0,0),none)]), [(93,0)], [(some (.inl ((0,0,0),none)),[],[])])
def ddX12_layStore : List (Nat × Instr × Nat) := [(0,.iconst 0,1),(1,.istore_n 2,1),(2,.iconst 0,1),(3,.istore_n 3,1),(4,.iload_n 3,1),(5,.bipush 14,2),(7,.if_icmp .ge 94,3),(10,.aload_n 0,1),(11,.getfield 81,3),(14,.iload_n 3,1),(15,.iconst 0,1),(16,.iastore,1),(17,.aload_n 0,1),(18,.iload_n 3,1),(19,.invokevirtual 350,3),(22,.ifCond .ne 6,3),(25,.goto 70,3),(28,.aload_n 0,1),(29,.aload_n 0,1),(30,.getfield 72,3),(33,.iconst 0,1),(34,.iload_n 3,1),(35,.iadd,1),(36,.iaload,1),(37,.iload_n 1,1),(38,.invokevirtual 366,3),(41,.aload_n 0,1),(42,.getfield 81,3),(45,.iload_n 3,1),(46,.aload_n 0,1),(47,.getfield 353,3),(50,.iastore,1),(51,.iconst 0,1),(52,.istore 4,2),(54,.iload 4,2),(56,.aload_n 0,1),(57,.getfield 353,3),(60,.if_icmp .ge 28,3),(63,.aload_n 0,1),(64,.getfield 78,3),(67,.bipush 64,2),(69,.iload_n 3,1),(70,.imul,1),(71,.iload 4,2),(73,.iadd,1),(74,.aload_n 0,1),(75,.getfield 75,3),(78,.iload 4,2),(80,.iaload,1),(81,.iastore,1),(82,.iinc 4 1,3),(85,.goto (-31),3),(88,.iload_n 2,1),(89,.aload_n 0,1),(90,.getfield 353,3),(93,.iadd,1),(94,.istore_n 2,1),(95,.iinc 3 1,3),(98,.goto (-94),3),(101,.iload_n 2,1),(102,.ireturn,1)]
set_option maxRecDepth 100000 in
theorem dkX12_layStore : rf_decs prog_14_method_51_code ddX12_layStore := rf_decs_of (by decide +kernel)
def q127_P : rfP := (flX12,csX12,lcX12,spX12,[q126_M],[],[(350,0,12)],([],[]))
def q127_U : rfU := []
set_option maxHeartbeats 8000000 in
def q127_N : List rfB := [(0,([(0,.inr (.inl [114])),(1,.inl ((2,2,0),none))],[],[((75,0),(4,4,0),some ((75,0),0,0)),((90,28),(0,0,0),some ((90,28),0,0)),((114,28),(0,0,0),some ((114,28),0,0)),((114,39),(0,0,0),some ((114,39),0,0))]),(245,[0]),0)]
set_option maxRecDepth 100000 in
theorem q127_ok : rf_chkB q127_P q127_U wLay q127_M ddX12_layStore [(19,[0])] [.inl 3] [0] 224 q127_N = true := by decide +kernel
set_option maxHeartbeats 4000000 in
theorem q127_met {G : rfG} (h : okG G) : rf_met G q127_M := rf_methodB h.1 (P := q127_P) (U := q127_U) (N := q127_N) ⟨wflT h flokX12, wcsT h csokX12, wlcT h lcokX12, spokX12 h, List.forall_mem_cons.mpr ⟨q126_met h, fun _ h => absurd h List.not_mem_nil⟩, fun _ h => absurd h List.not_mem_nil, List.forall_mem_cons.mpr ⟨fun M hM => Option.some.inj (show some q126_M = some M from hM) ▸ wlkV (lkX12_350 h) q126_M rfl rfl, fun _ h => absurd h List.not_mem_nil⟩, fun _ h => absurd h List.not_mem_nil, fun _ h => absurd h List.not_mem_nil⟩ dkX12_layStore (by decide +kernel) (by rw [h.2.2.1]; exact q127_ok)
/-- NearSpellModel.lengthOf -/
def q128_M : rfM := ((⟨"NearSpellModel", "lengthOf", "(I)I"⟩, prog_14_method_41_code, 3, (some .int)), (0,0), ([.inl ((0,387420488,1),none)],[]), [], [(some (.inl ((0,6,1),none)),[],[])])
def ddX12_lengthOf : List (Nat × Instr × Nat) := [(0,.iconst 0,1),(1,.istore_n 1,1),(2,.iload_n 0,1),(3,.istore_n 2,1),(4,.iload_n 2,1),(5,.ifCond .le 14,3),(8,.iinc 1 1,3),(11,.iload_n 2,1),(12,.bipush 27,2),(14,.idiv,1),(15,.istore_n 2,1),(16,.goto (-12),3),(19,.iload_n 1,1),(20,.ireturn,1)]
set_option maxRecDepth 100000 in
theorem dkX12_lengthOf : rf_decs prog_14_method_41_code ddX12_lengthOf := rf_decs_of (by decide +kernel)
def q128_P : rfP := (flX12,csX12,lcX12,spX12,[],[],[],([],[]))
def q128_U : rfU := []
set_option maxHeartbeats 8000000 in
def q128_N : List rfB := [(0,([(0,.inl ((0,387420488,1),none))],[],[]),(67,[]),0)]
set_option maxRecDepth 100000 in
theorem q128_ok : rf_chkB q128_P q128_U wLay q128_M ddX12_lengthOf [] [] [0] 61 q128_N = true := by decide +kernel
set_option maxHeartbeats 4000000 in
theorem q128_met {G : rfG} (h : okG G) : rf_met G q128_M := rf_methodB h.1 (P := q128_P) (U := q128_U) (N := q128_N) ⟨wflT h flokX12, wcsT h csokX12, wlcT h lcokX12, spokX12 h, fun _ h => absurd h List.not_mem_nil, fun _ h => absurd h List.not_mem_nil, fun _ h => absurd h List.not_mem_nil, fun _ h => absurd h List.not_mem_nil, fun _ h => absurd h List.not_mem_nil⟩ dkX12_lengthOf (by decide +kernel) (by rw [h.2.2.1]; exact q128_ok)
/-- NearSpellModel.firstLetters -/
def q129_M : rfM := ((⟨"NearSpellModel", "firstLetters", "(II)I"⟩, prog_14_method_43_code, 4, (some .int)), (1,22), ([.inl ((0,387420488,1),none),.inl ((4,4,0),none)],[]), [], [(some (.inl ((0,387420488,1),none)),[],[])])
def ddX12_firstLetters : List (Nat × Instr × Nat) := [(0,.iload_n 0,1),(1,.istore_n 2,1),(2,.iload_n 0,1),(3,.invokestatic 319,3),(6,.istore_n 3,1),(7,.iload_n 3,1),(8,.iload_n 1,1),(9,.if_icmp .le 14,3),(12,.iload_n 2,1),(13,.bipush 27,2),(15,.idiv,1),(16,.istore_n 2,1),(17,.iinc 3 (-1),3),(20,.goto (-13),3),(23,.iload_n 2,1),(24,.ireturn,1)]
set_option maxRecDepth 100000 in
theorem dkX12_firstLetters : rf_decs prog_14_method_43_code ddX12_firstLetters := rf_decs_of (by decide +kernel)
def q129_P : rfP := (flX12,csX12,lcX12,spX12,[q128_M],[(319,0)],[],([],[]))
def q129_U : rfU := []
set_option maxHeartbeats 8000000 in
def q129_N : List rfB := [(0,([(0,.inl ((0,387420488,1),none)),(1,.inl ((4,4,0),none))],[],[]),(76,[0]),0)]
set_option maxRecDepth 100000 in
theorem q129_ok : rf_chkB q129_P q129_U wLay q129_M ddX12_firstLetters [(3,[0])] [.inl 3] [0] 33 q129_N = true := by decide +kernel
set_option maxHeartbeats 4000000 in
theorem q129_met {G : rfG} (h : okG G) : rf_met G q129_M := rf_methodB h.1 (P := q129_P) (U := q129_U) (N := q129_N) ⟨wflT h flokX12, wcsT h csokX12, wlcT h lcokX12, spokX12 h, List.forall_mem_cons.mpr ⟨q128_met h, fun _ h => absurd h List.not_mem_nil⟩, List.forall_mem_cons.mpr ⟨fun M hM => Option.some.inj (show some q128_M = some M from hM) ▸ wlkS (lkX12_319 h) q128_M rfl rfl, fun _ h => absurd h List.not_mem_nil⟩, fun _ h => absurd h List.not_mem_nil, fun _ h => absurd h List.not_mem_nil, fun _ h => absurd h List.not_mem_nil⟩ dkX12_firstLetters (by decide +kernel) (by rw [h.2.2.1]; exact q129_ok)
/-- NearSpellModel.bit -/
def q130_M : rfM := ((⟨"NearSpellModel", "bit", "(II)Z"⟩, prog_14_method_36_code, 2, (some .boolean)), (0,0), ([.inl ((0,0,0),none),.inl ((0,31,1),none)],[]), [], [(some (.inl ((0,0,0),none)),[],[])])
def ddX12_bit : List (Nat × Instr × Nat) := [(0,.iload_n 0,1),(1,.iload_n 1,1),(2,.ishr,1),(3,.iconst 1,1),(4,.iand,1),(5,.iconst 1,1),(6,.if_icmp .ne 7,3),(9,.iconst 1,1),(10,.goto 4,3),(13,.iconst 0,1),(14,.ireturn,1)]
set_option maxRecDepth 100000 in
theorem dkX12_bit : rf_decs prog_14_method_36_code ddX12_bit := rf_decs_of (by decide +kernel)
def q130_P : rfP := (flX12,csX12,lcX12,spX12,[],[],[],([],[]))
def q130_U : rfU := []
set_option maxHeartbeats 8000000 in
def q130_N : List rfB := [(0,([(0,.inl ((0,0,0),none)),(1,.inl ((0,31,1),none))],[],[]),(8,[]),0)]
set_option maxRecDepth 100000 in
theorem q130_ok : rf_chkB q130_P q130_U wLay q130_M ddX12_bit [] [] [0] 600 q130_N = true := by decide +kernel
set_option maxHeartbeats 4000000 in
theorem q130_met {G : rfG} (h : okG G) : rf_met G q130_M := rf_methodB h.1 (P := q130_P) (U := q130_U) (N := q130_N) ⟨wflT h flokX12, wcsT h csokX12, wlcT h lcokX12, spokX12 h, fun _ h => absurd h List.not_mem_nil, fun _ h => absurd h List.not_mem_nil, fun _ h => absurd h List.not_mem_nil, fun _ h => absurd h List.not_mem_nil, fun _ h => absurd h List.not_mem_nil⟩ dkX12_bit (by decide +kernel) (by rw [h.2.2.1]; exact q130_ok)
/-- NearSpellModel.many -/
def q131_M : rfM := ((⟨"NearSpellModel", "many", "(I)I"⟩, prog_14_method_37_code, 3, (some .int)), (1,21), ([.inl ((0,0,0),none)],[]), [], [(some (.inl ((0,0,0),none)),[],[])])
def ddX12_many : List (Nat × Instr × Nat) := [(0,.iconst 0,1),(1,.istore_n 1,1),(2,.iconst 0,1),(3,.istore_n 2,1),(4,.iload_n 2,1),(5,.bipush 14,2),(7,.if_icmp .ge 25,3),(10,.iload_n 1,1),(11,.iload_n 0,1),(12,.iload_n 2,1),(13,.invokestatic 251,3),(16,.ifCond .eq 7,3),(19,.iconst 1,1),(20,.goto 4,3),(23,.iconst 0,1),(24,.iadd,1),(25,.istore_n 1,1),(26,.iinc 2 1,3),(29,.goto (-25),3),(32,.iload_n 1,1),(33,.ireturn,1)]
set_option maxRecDepth 100000 in
theorem dkX12_many : rf_decs prog_14_method_37_code ddX12_many := rf_decs_of (by decide +kernel)
def q131_P : rfP := (flX12,csX12,lcX12,spX12,[q130_M],[(251,0)],[],([],[]))
def q131_U : rfU := []
set_option maxHeartbeats 8000000 in
def q131_N : List rfB := [(0,([(0,.inl ((0,0,0),none))],[],[]),(215,[0]),0)]
set_option maxRecDepth 100000 in
theorem q131_ok : rf_chkB q131_P q131_U wLay q131_M ddX12_many [(13,[0])] [.inl 2] [0] 196 q131_N = true := by decide +kernel
set_option maxHeartbeats 4000000 in
theorem q131_met {G : rfG} (h : okG G) : rf_met G q131_M := rf_methodB h.1 (P := q131_P) (U := q131_U) (N := q131_N) ⟨wflT h flokX12, wcsT h csokX12, wlcT h lcokX12, spokX12 h, List.forall_mem_cons.mpr ⟨q130_met h, fun _ h => absurd h List.not_mem_nil⟩, List.forall_mem_cons.mpr ⟨fun M hM => Option.some.inj (show some q130_M = some M from hM) ▸ wlkS (lkX12_251 h) q130_M rfl rfl, fun _ h => absurd h List.not_mem_nil⟩, fun _ h => absurd h List.not_mem_nil, fun _ h => absurd h List.not_mem_nil, fun _ h => absurd h List.not_mem_nil⟩ dkX12_many (by decide +kernel) (by rw [h.2.2.1]; exact q131_ok)
/-- NearSpellModel.insertForm -/
def q132_M : rfM := ((⟨"NearSpellModel", "insertForm", "(I)V"⟩, prog_14_method_49_code, 4, none), (0,0), ([.inr (.inl [114]),.inl ((0,0,0),none)],[((114,39),(0,0,0),none)]), [(91,0),(114,40)], [(none,[],[((91,0),(0,0,0),none),((114,39),(1,1,0),some ((114,39),1,1))])])
def ddX12_insertForm : List (Nat × Instr × Nat) := [(0,.aload_n 0,1),(1,.getfield 353,3),(4,.istore_n 2,1),(5,.iload_n 2,1),(6,.ifCond .le 21,3),(9,.aload_n 0,1),(10,.getfield 75,3),(13,.iload_n 2,1),(14,.iconst 1,1),(15,.isub,1),(16,.iaload,1),(17,.iload_n 1,1),(18,.if_icmp .lt 9,3),(21,.iinc 2 (-1),3),(24,.goto (-19),3),(27,.iload_n 2,1),(28,.aload_n 0,1),(29,.getfield 353,3),(32,.if_icmp .ge 14,3),(35,.aload_n 0,1),(36,.getfield 75,3),(39,.iload_n 2,1),(40,.iaload,1),(41,.iload_n 1,1),(42,.if_icmp .ne 4,3),(45,.return_,1),(46,.aload_n 0,1),(47,.getfield 353,3),(50,.istore_n 3,1),(51,.iload_n 3,1),(52,.iload_n 2,1),(53,.if_icmp .le 23,3),(56,.aload_n 0,1),(57,.getfield 75,3),(60,.iload_n 3,1),(61,.aload_n 0,1),(62,.getfield 75,3),(65,.iload_n 3,1),(66,.iconst 1,1),(67,.isub,1),(68,.iaload,1),(69,.iastore,1),(70,.iinc 3 (-1),3),(73,.goto (-22),3),(76,.aload_n 0,1),(77,.getfield 75,3),(80,.iload_n 2,1),(81,.iload_n 1,1),(82,.iastore,1),(83,.aload_n 0,1),(84,.dup,1),(85,.getfield 353,3),(88,.iconst 1,1),(89,.iadd,1),(90,.putfield 353,3),(93,.return_,1)]
set_option maxRecDepth 100000 in
theorem dkX12_insertForm : rf_decs prog_14_method_49_code ddX12_insertForm := rf_decs_of (by decide +kernel)
def q132_P : rfP := (flX12,csX12,lcX12,spX12,[],[],[],([],[]))
def q132_U : rfU := []
set_option maxHeartbeats 8000000 in
def q132_N : List rfB := [(0,([(0,.inr (.inl [114])),(1,.inl ((0,0,0),none))],[],[((114,39),(0,0,0),some ((114,39),0,0))]),(26,[]),0)]
set_option maxRecDepth 100000 in
theorem q132_ok : rf_chkB q132_P q132_U wLay q132_M ddX12_insertForm [] [] [0] 600 q132_N = true := by decide +kernel
set_option maxHeartbeats 4000000 in
theorem q132_met {G : rfG} (h : okG G) : rf_met G q132_M := rf_methodB h.1 (P := q132_P) (U := q132_U) (N := q132_N) ⟨wflT h flokX12, wcsT h csokX12, wlcT h lcokX12, spokX12 h, fun _ h => absurd h List.not_mem_nil, fun _ h => absurd h List.not_mem_nil, fun _ h => absurd h List.not_mem_nil, fun _ h => absurd h List.not_mem_nil, fun _ h => absurd h List.not_mem_nil⟩ dkX12_insertForm (by decide +kernel) (by rw [h.2.2.1]; exact q132_ok)
/-- NearSpellModel.bit -/
def q133_M : rfM := ((⟨"NearSpellModel", "bit", "(II)Z"⟩, prog_14_method_36_code, 2, (some .boolean)), (0,0), ([.inl (((-2147483648),2147483647,1),none),.inl ((0,31,1),none)],[]), [], [(some (.inl ((1,1,0),none)),[],[]),(some (.inl ((0,0,0),none)),[],[])])
def q133_P : rfP := (flX12,csX12,lcX12,spX12,[],[],[],([],[]))
def q133_U : rfU := []
set_option maxHeartbeats 8000000 in
def q133_N : List rfB := [(0,([(0,.inl (((-2147483648),2147483647,1),none)),(1,.inl ((0,31,1),none))],[],[]),(11,[]),0)]
set_option maxRecDepth 100000 in
theorem q133_ok : rf_chkB q133_P q133_U wLay q133_M ddX12_bit [] [] [0] 600 q133_N = true := by decide +kernel
set_option maxHeartbeats 4000000 in
theorem q133_met {G : rfG} (h : okG G) : rf_met G q133_M := rf_methodB h.1 (P := q133_P) (U := q133_U) (N := q133_N) ⟨wflT h flokX12, wcsT h csokX12, wlcT h lcokX12, spokX12 h, fun _ h => absurd h List.not_mem_nil, fun _ h => absurd h List.not_mem_nil, fun _ h => absurd h List.not_mem_nil, fun _ h => absurd h List.not_mem_nil, fun _ h => absurd h List.not_mem_nil⟩ dkX12_bit (by decide +kernel) (by rw [h.2.2.1]; exact q133_ok)
/-- NearSpellModel.many -/
def q134_M : rfM := ((⟨"NearSpellModel", "many", "(I)I"⟩, prog_14_method_37_code, 3, (some .int)), (1,21), ([.inl (((-2147483648),2147483647,1),none)],[]), [], [(some (.inl (((-2147483648),2147483647,1),none)),[],[])])
def q134_P : rfP := (flX12,csX12,lcX12,spX12,[q133_M],[(251,0)],[],([],[]))
def q134_U : rfU := []
set_option maxHeartbeats 8000000 in
def q134_N : List rfB := [(0,([(0,.inl (((-2147483648),2147483647,1),none))],[],[]),(275,[0]),0),
  (4,([(0,.inl (((-2147483648),2147483647,1),none)),(1,.inl (((-2147483648),2147483647,1),none)),(2,.inl ((0,14,1),none))],[],[]),(269,[(-18)]),0),
  (25,([(0,.inl (((-2147483648),2147483647,1),none)),(1,.inl (((-2147483648),2147483647,1),none)),(2,.inl ((0,13,1),none))],[.inl (((-2147483648),2147483647,1),none)],[]),(255,[(-18)]),0)]
set_option maxRecDepth 100000 in
theorem q134_ok : rf_chkB q134_P q134_U wLay q134_M ddX12_many [(13,[0])] [.inl 2] [0,4,25] 600 q134_N = true := by decide +kernel
set_option maxHeartbeats 4000000 in
theorem q134_met {G : rfG} (h : okG G) : rf_met G q134_M := rf_methodB h.1 (P := q134_P) (U := q134_U) (N := q134_N) ⟨wflT h flokX12, wcsT h csokX12, wlcT h lcokX12, spokX12 h, List.forall_mem_cons.mpr ⟨q133_met h, fun _ h => absurd h List.not_mem_nil⟩, List.forall_mem_cons.mpr ⟨fun M hM => Option.some.inj (show some q133_M = some M from hM) ▸ wlkS (lkX12_251 h) q133_M rfl rfl, fun _ h => absurd h List.not_mem_nil⟩, fun _ h => absurd h List.not_mem_nil, fun _ h => absurd h List.not_mem_nil, fun _ h => absurd h List.not_mem_nil⟩ dkX12_many (by decide +kernel) (by rw [h.2.2.1]; exact q134_ok)
/-- NearSpellModel.firstLetters -/
def q135_M : rfM := ((⟨"NearSpellModel", "firstLetters", "(II)I"⟩, prog_14_method_43_code, 4, (some .int)), (1,22), ([.inl ((0,387420488,1),none),.inl ((1,1,0),none)],[]), [], [(some (.inl ((0,387420488,1),none)),[],[])])
def q135_P : rfP := (flX12,csX12,lcX12,spX12,[q128_M],[(319,0)],[],([],[]))
def q135_U : rfU := []
set_option maxHeartbeats 8000000 in
def q135_N : List rfB := [(0,([(0,.inl ((0,387420488,1),none)),(1,.inl ((1,1,0),none))],[],[]),(76,[0]),0)]
set_option maxRecDepth 100000 in
theorem q135_ok : rf_chkB q135_P q135_U wLay q135_M ddX12_firstLetters [(3,[0])] [.inl 3] [0] 60 q135_N = true := by decide +kernel
set_option maxHeartbeats 4000000 in
theorem q135_met {G : rfG} (h : okG G) : rf_met G q135_M := rf_methodB h.1 (P := q135_P) (U := q135_U) (N := q135_N) ⟨wflT h flokX12, wcsT h csokX12, wlcT h lcokX12, spokX12 h, List.forall_mem_cons.mpr ⟨q128_met h, fun _ h => absurd h List.not_mem_nil⟩, List.forall_mem_cons.mpr ⟨fun M hM => Option.some.inj (show some q128_M = some M from hM) ▸ wlkS (lkX12_319 h) q128_M rfl rfl, fun _ h => absurd h List.not_mem_nil⟩, fun _ h => absurd h List.not_mem_nil, fun _ h => absurd h List.not_mem_nil, fun _ h => absurd h List.not_mem_nil⟩ dkX12_firstLetters (by decide +kernel) (by rw [h.2.2.1]; exact q135_ok)
/-- NearSpellModel.letterOf -/
def q136_M : rfM := ((⟨"NearSpellModel", "letterOf", "(II)I"⟩, prog_14_method_44_code, 2, (some .int)), (2,45), ([.inl ((0,387420488,1),none),.inl ((0,0,0),none)],[]), [], [(some (.inl ((0,26,1),none)),[],[])])
def ddX12_letterOf : List (Nat × Instr × Nat) := [(0,.iload_n 0,1),(1,.iload_n 1,1),(2,.iconst 1,1),(3,.iadd,1),(4,.invokestatic 322,3),(7,.bipush 27,2),(9,.irem,1),(10,.ireturn,1)]
set_option maxRecDepth 100000 in
theorem dkX12_letterOf : rf_decs prog_14_method_44_code ddX12_letterOf := rf_decs_of (by decide +kernel)
def q136_P : rfP := (flX12,csX12,lcX12,spX12,[q135_M],[(322,0)],[],([],[]))
def q136_U : rfU := []
set_option maxHeartbeats 8000000 in
def q136_N : List rfB := [(0,([(0,.inl ((0,387420488,1),none)),(1,.inl ((0,0,0),none))],[],[]),(7,[]),0)]
set_option maxRecDepth 100000 in
theorem q136_ok : rf_chkB q136_P q136_U wLay q136_M ddX12_letterOf [(4,[0])] [] [0] 600 q136_N = true := by decide +kernel
set_option maxHeartbeats 4000000 in
theorem q136_met {G : rfG} (h : okG G) : rf_met G q136_M := rf_methodB h.1 (P := q136_P) (U := q136_U) (N := q136_N) ⟨wflT h flokX12, wcsT h csokX12, wlcT h lcokX12, spokX12 h, List.forall_mem_cons.mpr ⟨q135_met h, fun _ h => absurd h List.not_mem_nil⟩, List.forall_mem_cons.mpr ⟨fun M hM => Option.some.inj (show some q135_M = some M from hM) ▸ wlkS (lkX12_322 h) q135_M rfl rfl, fun _ h => absurd h List.not_mem_nil⟩, fun _ h => absurd h List.not_mem_nil, fun _ h => absurd h List.not_mem_nil, fun _ h => absurd h List.not_mem_nil⟩ dkX12_letterOf (by decide +kernel) (by rw [h.2.2.1]; exact q136_ok)
/-- NearSpellModel.firstLetters -/
def q137_M : rfM := ((⟨"NearSpellModel", "firstLetters", "(II)I"⟩, prog_14_method_43_code, 4, (some .int)), (1,22), ([.inl ((0,387420488,1),none),.inl ((1,2,1),none)],[]), [], [(some (.inl ((0,387420488,1),none)),[],[])])
def q137_P : rfP := (flX12,csX12,lcX12,spX12,[q128_M],[(319,0)],[],([],[]))
def q137_U : rfU := []
set_option maxHeartbeats 8000000 in
def q137_N : List rfB := [(0,([(0,.inl ((0,387420488,1),none)),(1,.inl ((1,2,1),none))],[],[]),(76,[0]),0)]
set_option maxRecDepth 100000 in
theorem q137_ok : rf_chkB q137_P q137_U wLay q137_M ddX12_firstLetters [(3,[0])] [.inl 3] [0] 60 q137_N = true := by decide +kernel
set_option maxHeartbeats 4000000 in
theorem q137_met {G : rfG} (h : okG G) : rf_met G q137_M := rf_methodB h.1 (P := q137_P) (U := q137_U) (N := q137_N) ⟨wflT h flokX12, wcsT h csokX12, wlcT h lcokX12, spokX12 h, List.forall_mem_cons.mpr ⟨q128_met h, fun _ h => absurd h List.not_mem_nil⟩, List.forall_mem_cons.mpr ⟨fun M hM => Option.some.inj (show some q128_M = some M from hM) ▸ wlkS (lkX12_319 h) q128_M rfl rfl, fun _ h => absurd h List.not_mem_nil⟩, fun _ h => absurd h List.not_mem_nil, fun _ h => absurd h List.not_mem_nil, fun _ h => absurd h List.not_mem_nil⟩ dkX12_firstLetters (by decide +kernel) (by rw [h.2.2.1]; exact q137_ok)
/-- NearSpellModel.letterOf -/
def q138_M : rfM := ((⟨"NearSpellModel", "letterOf", "(II)I"⟩, prog_14_method_44_code, 2, (some .int)), (2,45), ([.inl ((0,387420488,1),none),.inl ((0,1,1),none)],[]), [], [(some (.inl ((0,26,1),none)),[],[])])
def q138_P : rfP := (flX12,csX12,lcX12,spX12,[q137_M],[(322,0)],[],([],[]))
def q138_U : rfU := []
set_option maxHeartbeats 8000000 in
def q138_N : List rfB := [(0,([(0,.inl ((0,387420488,1),none)),(1,.inl ((0,1,1),none))],[],[]),(7,[]),0)]
set_option maxRecDepth 100000 in
theorem q138_ok : rf_chkB q138_P q138_U wLay q138_M ddX12_letterOf [(4,[0])] [] [0] 600 q138_N = true := by decide +kernel
set_option maxHeartbeats 4000000 in
theorem q138_met {G : rfG} (h : okG G) : rf_met G q138_M := rf_methodB h.1 (P := q138_P) (U := q138_U) (N := q138_N) ⟨wflT h flokX12, wcsT h csokX12, wlcT h lcokX12, spokX12 h, List.forall_mem_cons.mpr ⟨q137_met h, fun _ h => absurd h List.not_mem_nil⟩, List.forall_mem_cons.mpr ⟨fun M hM => Option.some.inj (show some q137_M = some M from hM) ▸ wlkS (lkX12_322 h) q137_M rfl rfl, fun _ h => absurd h List.not_mem_nil⟩, fun _ h => absurd h List.not_mem_nil, fun _ h => absurd h List.not_mem_nil, fun _ h => absurd h List.not_mem_nil⟩ dkX12_letterOf (by decide +kernel) (by rw [h.2.2.1]; exact q138_ok)
/-- NearSpellModel.firstLetters -/
def q139_M : rfM := ((⟨"NearSpellModel", "firstLetters", "(II)I"⟩, prog_14_method_43_code, 4, (some .int)), (1,22), ([.inl ((0,387420488,1),none),.inl ((1,3,1),none)],[]), [], [(some (.inl ((0,387420488,1),none)),[],[])])
def q139_P : rfP := (flX12,csX12,lcX12,spX12,[q128_M],[(319,0)],[],([],[]))
def q139_U : rfU := []
set_option maxHeartbeats 8000000 in
def q139_N : List rfB := [(0,([(0,.inl ((0,387420488,1),none)),(1,.inl ((1,3,1),none))],[],[]),(76,[0]),0)]
set_option maxRecDepth 100000 in
theorem q139_ok : rf_chkB q139_P q139_U wLay q139_M ddX12_firstLetters [(3,[0])] [.inl 3] [0] 60 q139_N = true := by decide +kernel
set_option maxHeartbeats 4000000 in
theorem q139_met {G : rfG} (h : okG G) : rf_met G q139_M := rf_methodB h.1 (P := q139_P) (U := q139_U) (N := q139_N) ⟨wflT h flokX12, wcsT h csokX12, wlcT h lcokX12, spokX12 h, List.forall_mem_cons.mpr ⟨q128_met h, fun _ h => absurd h List.not_mem_nil⟩, List.forall_mem_cons.mpr ⟨fun M hM => Option.some.inj (show some q128_M = some M from hM) ▸ wlkS (lkX12_319 h) q128_M rfl rfl, fun _ h => absurd h List.not_mem_nil⟩, fun _ h => absurd h List.not_mem_nil, fun _ h => absurd h List.not_mem_nil, fun _ h => absurd h List.not_mem_nil⟩ dkX12_firstLetters (by decide +kernel) (by rw [h.2.2.1]; exact q139_ok)
/-- NearSpellModel.letterOf -/
def q140_M : rfM := ((⟨"NearSpellModel", "letterOf", "(II)I"⟩, prog_14_method_44_code, 2, (some .int)), (2,45), ([.inl ((0,387420488,1),none),.inl ((0,2,1),none)],[]), [], [(some (.inl ((0,26,1),none)),[],[])])
def q140_P : rfP := (flX12,csX12,lcX12,spX12,[q139_M],[(322,0)],[],([],[]))
def q140_U : rfU := []
set_option maxHeartbeats 8000000 in
def q140_N : List rfB := [(0,([(0,.inl ((0,387420488,1),none)),(1,.inl ((0,2,1),none))],[],[]),(7,[]),0)]
set_option maxRecDepth 100000 in
theorem q140_ok : rf_chkB q140_P q140_U wLay q140_M ddX12_letterOf [(4,[0])] [] [0] 600 q140_N = true := by decide +kernel
set_option maxHeartbeats 4000000 in
theorem q140_met {G : rfG} (h : okG G) : rf_met G q140_M := rf_methodB h.1 (P := q140_P) (U := q140_U) (N := q140_N) ⟨wflT h flokX12, wcsT h csokX12, wlcT h lcokX12, spokX12 h, List.forall_mem_cons.mpr ⟨q139_met h, fun _ h => absurd h List.not_mem_nil⟩, List.forall_mem_cons.mpr ⟨fun M hM => Option.some.inj (show some q139_M = some M from hM) ▸ wlkS (lkX12_322 h) q139_M rfl rfl, fun _ h => absurd h List.not_mem_nil⟩, fun _ h => absurd h List.not_mem_nil, fun _ h => absurd h List.not_mem_nil, fun _ h => absurd h List.not_mem_nil⟩ dkX12_letterOf (by decide +kernel) (by rw [h.2.2.1]; exact q140_ok)
/-- NearSpellModel.firstLetters -/
def q141_M : rfM := ((⟨"NearSpellModel", "firstLetters", "(II)I"⟩, prog_14_method_43_code, 4, (some .int)), (1,22), ([.inl ((0,387420488,1),none),.inl ((1,4,1),none)],[]), [], [(some (.inl ((0,387420488,1),none)),[],[])])
def q141_P : rfP := (flX12,csX12,lcX12,spX12,[q128_M],[(319,0)],[],([],[]))
def q141_U : rfU := []
set_option maxHeartbeats 8000000 in
def q141_N : List rfB := [(0,([(0,.inl ((0,387420488,1),none)),(1,.inl ((1,4,1),none))],[],[]),(76,[0]),0)]
set_option maxRecDepth 100000 in
theorem q141_ok : rf_chkB q141_P q141_U wLay q141_M ddX12_firstLetters [(3,[0])] [.inl 3] [0] 60 q141_N = true := by decide +kernel
set_option maxHeartbeats 4000000 in
theorem q141_met {G : rfG} (h : okG G) : rf_met G q141_M := rf_methodB h.1 (P := q141_P) (U := q141_U) (N := q141_N) ⟨wflT h flokX12, wcsT h csokX12, wlcT h lcokX12, spokX12 h, List.forall_mem_cons.mpr ⟨q128_met h, fun _ h => absurd h List.not_mem_nil⟩, List.forall_mem_cons.mpr ⟨fun M hM => Option.some.inj (show some q128_M = some M from hM) ▸ wlkS (lkX12_319 h) q128_M rfl rfl, fun _ h => absurd h List.not_mem_nil⟩, fun _ h => absurd h List.not_mem_nil, fun _ h => absurd h List.not_mem_nil, fun _ h => absurd h List.not_mem_nil⟩ dkX12_firstLetters (by decide +kernel) (by rw [h.2.2.1]; exact q141_ok)
/-- NearSpellModel.letterOf -/
def q142_M : rfM := ((⟨"NearSpellModel", "letterOf", "(II)I"⟩, prog_14_method_44_code, 2, (some .int)), (2,45), ([.inl ((0,387420488,1),none),.inl ((0,3,1),none)],[]), [], [(some (.inl ((0,26,1),none)),[],[])])
def q142_P : rfP := (flX12,csX12,lcX12,spX12,[q141_M],[(322,0)],[],([],[]))
def q142_U : rfU := []
set_option maxHeartbeats 8000000 in
def q142_N : List rfB := [(0,([(0,.inl ((0,387420488,1),none)),(1,.inl ((0,3,1),none))],[],[]),(7,[]),0)]
set_option maxRecDepth 100000 in
theorem q142_ok : rf_chkB q142_P q142_U wLay q142_M ddX12_letterOf [(4,[0])] [] [0] 600 q142_N = true := by decide +kernel
set_option maxHeartbeats 4000000 in
theorem q142_met {G : rfG} (h : okG G) : rf_met G q142_M := rf_methodB h.1 (P := q142_P) (U := q142_U) (N := q142_N) ⟨wflT h flokX12, wcsT h csokX12, wlcT h lcokX12, spokX12 h, List.forall_mem_cons.mpr ⟨q141_met h, fun _ h => absurd h List.not_mem_nil⟩, List.forall_mem_cons.mpr ⟨fun M hM => Option.some.inj (show some q141_M = some M from hM) ▸ wlkS (lkX12_322 h) q141_M rfl rfl, fun _ h => absurd h List.not_mem_nil⟩, fun _ h => absurd h List.not_mem_nil, fun _ h => absurd h List.not_mem_nil, fun _ h => absurd h List.not_mem_nil⟩ dkX12_letterOf (by decide +kernel) (by rw [h.2.2.1]; exact q142_ok)
/-- NearSpellModel.firstLetters -/
def q143_M : rfM := ((⟨"NearSpellModel", "firstLetters", "(II)I"⟩, prog_14_method_43_code, 4, (some .int)), (1,22), ([.inl ((0,387420488,1),none),.inl ((1,6,1),none)],[]), [], [(some (.inl ((0,387420488,1),none)),[],[])])
def q143_P : rfP := (flX12,csX12,lcX12,spX12,[q128_M],[(319,0)],[],([],[]))
def q143_U : rfU := []
set_option maxHeartbeats 8000000 in
def q143_N : List rfB := [(0,([(0,.inl ((0,387420488,1),none)),(1,.inl ((1,6,1),none))],[],[]),(76,[0]),0)]
set_option maxRecDepth 100000 in
theorem q143_ok : rf_chkB q143_P q143_U wLay q143_M ddX12_firstLetters [(3,[0])] [.inl 3] [0] 60 q143_N = true := by decide +kernel
set_option maxHeartbeats 4000000 in
theorem q143_met {G : rfG} (h : okG G) : rf_met G q143_M := rf_methodB h.1 (P := q143_P) (U := q143_U) (N := q143_N) ⟨wflT h flokX12, wcsT h csokX12, wlcT h lcokX12, spokX12 h, List.forall_mem_cons.mpr ⟨q128_met h, fun _ h => absurd h List.not_mem_nil⟩, List.forall_mem_cons.mpr ⟨fun M hM => Option.some.inj (show some q128_M = some M from hM) ▸ wlkS (lkX12_319 h) q128_M rfl rfl, fun _ h => absurd h List.not_mem_nil⟩, fun _ h => absurd h List.not_mem_nil, fun _ h => absurd h List.not_mem_nil, fun _ h => absurd h List.not_mem_nil⟩ dkX12_firstLetters (by decide +kernel) (by rw [h.2.2.1]; exact q143_ok)
/-- NearSpellModel.letterOf -/
def q144_M : rfM := ((⟨"NearSpellModel", "letterOf", "(II)I"⟩, prog_14_method_44_code, 2, (some .int)), (2,45), ([.inl ((0,387420488,1),none),.inl ((0,5,1),none)],[]), [], [(some (.inl ((0,26,1),none)),[],[])])
def q144_P : rfP := (flX12,csX12,lcX12,spX12,[q143_M],[(322,0)],[],([],[]))
def q144_U : rfU := []
set_option maxHeartbeats 8000000 in
def q144_N : List rfB := [(0,([(0,.inl ((0,387420488,1),none)),(1,.inl ((0,5,1),none))],[],[]),(7,[]),0)]
set_option maxRecDepth 100000 in
theorem q144_ok : rf_chkB q144_P q144_U wLay q144_M ddX12_letterOf [(4,[0])] [] [0] 600 q144_N = true := by decide +kernel
set_option maxHeartbeats 4000000 in
theorem q144_met {G : rfG} (h : okG G) : rf_met G q144_M := rf_methodB h.1 (P := q144_P) (U := q144_U) (N := q144_N) ⟨wflT h flokX12, wcsT h csokX12, wlcT h lcokX12, spokX12 h, List.forall_mem_cons.mpr ⟨q143_met h, fun _ h => absurd h List.not_mem_nil⟩, List.forall_mem_cons.mpr ⟨fun M hM => Option.some.inj (show some q143_M = some M from hM) ▸ wlkS (lkX12_322 h) q143_M rfl rfl, fun _ h => absurd h List.not_mem_nil⟩, fun _ h => absurd h List.not_mem_nil, fun _ h => absurd h List.not_mem_nil, fun _ h => absurd h List.not_mem_nil⟩ dkX12_letterOf (by decide +kernel) (by rw [h.2.2.1]; exact q144_ok)
/-- NearSpellModel.insertForm -/
def q145_M : rfM := ((⟨"NearSpellModel", "insertForm", "(I)V"⟩, prog_14_method_49_code, 4, none), (0,0), ([.inr (.inl [114]),.inl (((-2147483648),2147483647,1),none)],[((114,39),(0,63,1),none)]), [(91,0),(114,40)], [(none,[],[((114,39),(1,64,1),some ((114,39),0,1))])])
def q145_P : rfP := (flX12,csX12,lcX12,spX12,[],[],[],([],[]))
def q145_U : rfU := []
set_option maxHeartbeats 8000000 in
def q145_N : List rfB := [(0,([(0,.inr (.inl [114])),(1,.inl (((-2147483648),2147483647,1),none))],[],[((114,39),(0,63,1),some ((114,39),0,0))]),(1884,[0,0]),0),
  (5,([(0,.inr (.inl [114])),(1,.inl (((-2147483648),2147483647,1),none)),(2,.inl ((0,63,1),none))],[],[((114,39),(0,63,1),some ((114,39),0,0))]),(1060,[13,0]),0),
  (27,([(0,.inr (.inl [114])),(1,.inl (((-2147483648),2147483647,1),none)),(2,.inl ((0,63,1),none))],[],[((114,39),(0,63,1),some ((114,39),0,0))]),(1049,[0,0]),0),
  (46,([(0,.inr (.inl [114])),(1,.inl (((-2147483648),2147483647,1),none)),(2,.inl ((0,63,1),none))],[],[((114,39),(0,63,1),some ((114,39),0,0))]),(1038,[0,0]),0),
  (51,([(0,.inr (.inl [114])),(1,.inl (((-2147483648),2147483647,1),none)),(2,.inl ((0,63,1),none)),(3,.inl ((0,63,1),none))],[],[((114,39),(0,63,1),some ((114,39),0,0))]),(25,[0,16]),0)]
set_option maxRecDepth 100000 in
theorem q145_ok : rf_chkB q145_P q145_U wLay q145_M ddX12_insertForm [] [.inl 2,.inl 3] [0,5,27,46,51] 600 q145_N = true := by decide +kernel
set_option maxHeartbeats 4000000 in
theorem q145_met {G : rfG} (h : okG G) : rf_met G q145_M := rf_methodB h.1 (P := q145_P) (U := q145_U) (N := q145_N) ⟨wflT h flokX12, wcsT h csokX12, wlcT h lcokX12, spokX12 h, fun _ h => absurd h List.not_mem_nil, fun _ h => absurd h List.not_mem_nil, fun _ h => absurd h List.not_mem_nil, fun _ h => absurd h List.not_mem_nil, fun _ h => absurd h List.not_mem_nil⟩ dkX12_insertForm (by decide +kernel) (by rw [h.2.2.1]; exact q145_ok)
