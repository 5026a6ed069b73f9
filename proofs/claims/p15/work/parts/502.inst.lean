/-- NearSpell.State.addEntry -/
def q100_M : rfM := ((⟨"NearSpell$State", "addEntry", "(II)I"⟩, prog_10_method_12_code, 4, (some .int)), (0,0), ([.inr (.inl [13]),.inl (((-2147483648),2147483647,1),none),.inl (((-2147483648),2147483647,1),none)],[]), [(12,0)], [(some (.inl (((-1),13,1),none)),[],[((12,34),(1,14,1),none)])])
def ddX8_addEntry : List (Nat × Instr × Nat) := [(0,.aload_n 0,1),(1,.getfield 11,3),(4,.bipush 34,2),(6,.iaload,1),(7,.istore_n 3,1),(8,.iload_n 3,1),(9,.bipush 14,2),(11,.if_icmp .lt 5,3),(14,.iconst (-1),1),(15,.ireturn,1),(16,.aload_n 0,1),(17,.getfield 11,3),(20,.iconst 0,1),(21,.iload_n 3,1),(22,.iadd,1),(23,.iload_n 1,1),(24,.iastore,1),(25,.aload_n 0,1),(26,.getfield 11,3),(29,.bipush 14,2),(31,.iload_n 3,1),(32,.iadd,1),(33,.iload_n 2,1),(34,.iastore,1),(35,.aload_n 0,1),(36,.getfield 11,3),(39,.bipush 34,2),(41,.dup2,1),(42,.iaload,1),(43,.iconst 1,1),(44,.iadd,1),(45,.iastore,1),(46,.iload_n 3,1),(47,.ireturn,1)]
set_option maxRecDepth 100000 in
theorem dkX8_addEntry : rf_decs prog_10_method_12_code ddX8_addEntry := rf_decs_of (by decide +kernel)
def q100_P : rfP := (flX8,csX8,lcX8,spX8,[],[],[],([],[]))
def q100_U : rfU := []
set_option maxHeartbeats 8000000 in
def q100_N : List rfB := [(0,([(0,.inr (.inl [13])),(1,.inl (((-2147483648),2147483647,1),none)),(2,.inl (((-2147483648),2147483647,1),none))],[],[]),(33,[]),0)]
set_option maxRecDepth 100000 in
theorem q100_ok : rf_chkB q100_P q100_U wLay q100_M ddX8_addEntry [] [] [0] 600 q100_N = true := by decide +kernel
set_option maxHeartbeats 4000000 in
theorem q100_met {G : rfG} (h : okG G) : rf_met G q100_M := rf_methodB h.1 (P := q100_P) (U := q100_U) (N := q100_N) ⟨wflT h flokX8, wcsT h csokX8, wlcT h lcokX8, spokX8 h, fun _ h => absurd h List.not_mem_nil, fun _ h => absurd h List.not_mem_nil, fun _ h => absurd h List.not_mem_nil, fun _ h => absurd h List.not_mem_nil, fun _ h => absurd h List.not_mem_nil⟩ dkX8_addEntry (by decide +kernel) (by rw [h.2.2.1]; exact q100_ok)
/-- NearSpell.State.begin -/
def q101_M : rfM := ((⟨"NearSpell$State", "begin", "(LNearSpell$Book;)V"⟩, prog_10_method_2_code, 3, none), (1,23), ([.inr (.inl [13]),.inr (.inl [5])],[]), [(12,0)], [(none,[],[((12,36),(0,999,1),none)])])
def ddX8_begin : List (Nat × Instr × Nat) := [(0,.iconst 0,1),(1,.istore_n 2,1),(2,.iload_n 2,1),(3,.bipush 37,2),(5,.if_icmp .ge 16,3),(8,.aload_n 0,1),(9,.getfield 11,3),(12,.iload_n 2,1),(13,.iconst 0,1),(14,.iastore,1),(15,.iinc 2 1,3),(18,.goto (-16),3),(21,.iconst 0,1),(22,.istore_n 2,1),(23,.iload_n 2,1),(24,.aload_n 1,1),(25,.getfield 15,3),(28,.if_icmp .ge 26,3),(31,.aload_n 0,1),(32,.aload_n 1,1),(33,.getfield 21,3),(36,.iload_n 2,1),(37,.iaload,1),(38,.aload_n 1,1),(39,.getfield 24,3),(42,.iload_n 2,1),(43,.iaload,1),(44,.invokevirtual 27,3),(47,.pop,1),(48,.iinc 2 1,3),(51,.goto (-28),3),(54,.aload_n 0,1),(55,.getfield 11,3),(58,.bipush 36,2),(60,.aload_n 1,1),(61,.getfield 31,3),(64,.iastore,1),(65,.return_,1)]
set_option maxRecDepth 100000 in
theorem dkX8_begin : rf_decs prog_10_method_2_code ddX8_begin := rf_decs_of (by decide +kernel)
def q101_P : rfP := (flX8,csX8,lcX8,spX8,[q100_M],[],[(27,0,8)],([],[]))
def q101_U : rfU := []
set_option maxHeartbeats 8000000 in
def q101_N : List rfB := [(0,([(0,.inr (.inl [13])),(1,.inr (.inl [5]))],[],[]),(626,[0]),0),
  (2,([(0,.inr (.inl [13])),(1,.inr (.inl [5])),(2,.inl ((0,37,1),none))],[],[]),(622,[(-11)]),0),
  (23,([(0,.inr (.inl [13])),(1,.inr (.inl [5])),(2,.inl ((0,10,1),none))],[],[]),(202,[(-18)]),0)]
set_option maxRecDepth 100000 in
theorem q101_ok : rf_chkB q101_P q101_U wLay q101_M ddX8_begin [(44,[0])] [.inl 2] [0,2,23] 600 q101_N = true := by decide +kernel
set_option maxHeartbeats 4000000 in
theorem q101_met {G : rfG} (h : okG G) : rf_met G q101_M := rf_methodB h.1 (P := q101_P) (U := q101_U) (N := q101_N) ⟨wflT h flokX8, wcsT h csokX8, wlcT h lcokX8, spokX8 h, List.forall_mem_cons.mpr ⟨q100_met h, fun _ h => absurd h List.not_mem_nil⟩, fun _ h => absurd h List.not_mem_nil, List.forall_mem_cons.mpr ⟨fun M hM => Option.some.inj (show some q100_M = some M from hM) ▸ wlkV (lkX8_27 h) q100_M rfl rfl, fun _ h => absurd h List.not_mem_nil⟩, fun _ h => absurd h List.not_mem_nil, fun _ h => absurd h List.not_mem_nil⟩ dkX8_begin (by decide +kernel) (by rw [h.2.2.1]; exact q101_ok)
/-- NearSpell.Archive.rowPlace -/
def q102_M : rfM := ((⟨"NearSpell$Archive", "rowPlace", "()I"⟩, prog_2_method_6_code, 1, (some .int)), (0,0), ([.inr (.inl [16])],[]), [], [(some (.inl ((0,1480,37),none)),[],[])])
def ddX0_rowPlace : List (Nat × Instr × Nat) := [(0,.aload_n 0,1),(1,.getfield 24,3),(4,.aload_n 0,1),(5,.getfield 27,3),(8,.iadd,1),(9,.bipush 41,2),(11,.irem,1),(12,.bipush 37,2),(14,.imul,1),(15,.ireturn,1)]
set_option maxRecDepth 100000 in
theorem dkX0_rowPlace : rf_decs prog_2_method_6_code ddX0_rowPlace := rf_decs_of (by decide +kernel)
def q102_P : rfP := (flX0,csX0,lcX0,spX0,[],[],[],([],[]))
def q102_U : rfU := []
set_option maxHeartbeats 8000000 in
def q102_N : List rfB := [(0,([(0,.inr (.inl [16]))],[],[]),(9,[]),0)]
set_option maxRecDepth 100000 in
theorem q102_ok : rf_chkB q102_P q102_U wLay q102_M ddX0_rowPlace [] [] [0] 600 q102_N = true := by decide +kernel
set_option maxHeartbeats 4000000 in
theorem q102_met {G : rfG} (h : okG G) : rf_met G q102_M := rf_methodB h.1 (P := q102_P) (U := q102_U) (N := q102_N) ⟨wflT h flokX0, wcsT h csokX0, wlcT h lcokX0, spokX0 h, fun _ h => absurd h List.not_mem_nil, fun _ h => absurd h List.not_mem_nil, fun _ h => absurd h List.not_mem_nil, fun _ h => absurd h List.not_mem_nil, fun _ h => absurd h List.not_mem_nil⟩ dkX0_rowPlace (by decide +kernel) (by rw [h.2.2.1]; exact q102_ok)
/-- NearSpell.Archive.keepRow -/
def q103_M : rfM := ((⟨"NearSpell$Archive", "keepRow", "(LNearSpell$State;)V"⟩, prog_2_method_7_code, 2, none), (1,20), ([.inr (.inl [16]),.inr (.inl [13])],[]), [(14,0)], [(none,[],[])])
def ddX0_keepRow : List (Nat × Instr × Nat) := [(0,.aload_n 1,1),(1,.getfield 40,3),(4,.iconst 0,1),(5,.aload_n 0,1),(6,.getfield 13,3),(9,.aload_n 0,1),(10,.invokevirtual 43,3),(13,.bipush 37,2),(15,.invokestatic 47,3),(18,.return_,1)]
set_option maxRecDepth 100000 in
theorem dkX0_keepRow : rf_decs prog_2_method_7_code ddX0_keepRow := rf_decs_of (by decide +kernel)
def q103_P : rfP := (flX0,csX0,lcX0,spX0,[q102_M],[],[(43,0,0)],([47],[]))
def q103_U : rfU := []
set_option maxHeartbeats 8000000 in
def q103_N : List rfB := [(0,([(0,.inr (.inl [16])),(1,.inr (.inl [13]))],[],[]),(9,[]),0)]
set_option maxRecDepth 100000 in
theorem q103_ok : rf_chkB q103_P q103_U wLay q103_M ddX0_keepRow [(10,[0])] [] [0] 600 q103_N = true := by decide +kernel
set_option maxHeartbeats 4000000 in
theorem q103_met {G : rfG} (h : okG G) : rf_met G q103_M := rf_methodB h.1 (P := q103_P) (U := q103_U) (N := q103_N) ⟨wflT h flokX0, wcsT h csokX0, wlcT h lcokX0, spokX0 h, List.forall_mem_cons.mpr ⟨q102_met h, fun _ h => absurd h List.not_mem_nil⟩, fun _ h => absurd h List.not_mem_nil, List.forall_mem_cons.mpr ⟨fun M hM => Option.some.inj (show some q102_M = some M from hM) ▸ wlkV (lkX0_43 h) q102_M rfl rfl, fun _ h => absurd h List.not_mem_nil⟩, List.forall_mem_cons.mpr ⟨⟨wmT h (wm776), wmT h (wm755), wmT h (wm754), wmT h (wm136)⟩, fun _ h => absurd h List.not_mem_nil⟩, fun _ h => absurd h List.not_mem_nil⟩ dkX0_keepRow (by decide +kernel) (by rw [h.2.2.1]; exact q103_ok)
/-- NearSpell.Archive.dropActs -/
def q104_M : rfM := ((⟨"NearSpell$Archive", "dropActs", "(LNearSpell$State;)V"⟩, prog_2_method_2_code, 2, none), (2,41), ([.inr (.inl [16]),.inr (.inl [13])],[]), [(14,0),(16,4),(16,5),(16,6)], [(none,[],[((16,3),(0,0,0),none),((16,4),(0,0,0),none),((16,5),(0,0,0),none)])])
def ddX0_dropActs : List (Nat × Instr × Nat) := [(0,.aload_n 0,1),(1,.iconst 0,1),(2,.putfield 24,3),(5,.aload_n 0,1),(6,.iconst 0,1),(7,.putfield 27,3),(10,.aload_n 0,1),(11,.iconst 0,1),(12,.putfield 30,3),(15,.aload_n 0,1),(16,.aload_n 1,1),(17,.invokevirtual 33,3),(20,.return_,1)]
set_option maxRecDepth 100000 in
theorem dkX0_dropActs : rf_decs prog_2_method_2_code ddX0_dropActs := rf_decs_of (by decide +kernel)
def q104_P : rfP := (flX0,csX0,lcX0,spX0,[q103_M],[],[(33,0,0)],([],[]))
def q104_U : rfU := []
set_option maxHeartbeats 8000000 in
def q104_N : List rfB := [(0,([(0,.inr (.inl [16])),(1,.inr (.inl [13]))],[],[]),(12,[]),0)]
set_option maxRecDepth 100000 in
theorem q104_ok : rf_chkB q104_P q104_U wLay q104_M ddX0_dropActs [(17,[0])] [] [0] 600 q104_N = true := by decide +kernel
set_option maxHeartbeats 4000000 in
theorem q104_met {G : rfG} (h : okG G) : rf_met G q104_M := rf_methodB h.1 (P := q104_P) (U := q104_U) (N := q104_N) ⟨wflT h flokX0, wcsT h csokX0, wlcT h lcokX0, spokX0 h, List.forall_mem_cons.mpr ⟨q103_met h, fun _ h => absurd h List.not_mem_nil⟩, fun _ h => absurd h List.not_mem_nil, List.forall_mem_cons.mpr ⟨fun M hM => Option.some.inj (show some q103_M = some M from hM) ▸ wlkV (lkX0_33 h) q103_M rfl rfl, fun _ h => absurd h List.not_mem_nil⟩, fun _ h => absurd h List.not_mem_nil, fun _ h => absurd h List.not_mem_nil⟩ dkX0_dropActs (by decide +kernel) (by rw [h.2.2.1]; exact q104_ok)
/-- NearSpell.Archive.dropBoxes -/
def q105_M : rfM := ((⟨"NearSpell$Archive", "dropBoxes", "()V"⟩, prog_2_method_9_code, 1, none), (0,0), ([.inr (.inl [16])],[]), [(16,3)], [(none,[],[((16,2),(0,0,0),none)])])
def ddX0_dropBoxes : List (Nat × Instr × Nat) := [(0,.aload_n 0,1),(1,.iconst 0,1),(2,.putfield 20,3),(5,.return_,1)]
set_option maxRecDepth 100000 in
theorem dkX0_dropBoxes : rf_decs prog_2_method_9_code ddX0_dropBoxes := rf_decs_of (by decide +kernel)
def q105_P : rfP := (flX0,csX0,lcX0,spX0,[],[],[],([],[]))
def q105_U : rfU := []
set_option maxHeartbeats 8000000 in
def q105_N : List rfB := [(0,([(0,.inr (.inl [16]))],[],[]),(3,[]),0)]
set_option maxRecDepth 100000 in
theorem q105_ok : rf_chkB q105_P q105_U wLay q105_M ddX0_dropBoxes [] [] [0] 600 q105_N = true := by decide +kernel
set_option maxHeartbeats 4000000 in
theorem q105_met {G : rfG} (h : okG G) : rf_met G q105_M := rf_methodB h.1 (P := q105_P) (U := q105_U) (N := q105_N) ⟨wflT h flokX0, wcsT h csokX0, wlcT h lcokX0, spokX0 h, fun _ h => absurd h List.not_mem_nil, fun _ h => absurd h List.not_mem_nil, fun _ h => absurd h List.not_mem_nil, fun _ h => absurd h List.not_mem_nil, fun _ h => absurd h List.not_mem_nil⟩ dkX0_dropBoxes (by decide +kernel) (by rw [h.2.2.1]; exact q105_ok)
/-- NearSpell.Witness.dropSeen -/
def q106_M : rfM := ((⟨"NearSpell$Witness", "dropSeen", "()V"⟩, prog_12_method_2_code, 1, none), (0,0), ([.inr (.inl [68])],[]), [(68,9)], [(none,[],[((68,8),(0,0,0),none)])])
def ddX10_dropSeen : List (Nat × Instr × Nat) := [(0,.aload_n 0,1),(1,.iconst 0,1),(2,.putfield 31,3),(5,.return_,1)]
set_option maxRecDepth 100000 in
theorem dkX10_dropSeen : rf_decs prog_12_method_2_code ddX10_dropSeen := rf_decs_of (by decide +kernel)
def q106_P : rfP := (flX10,csX10,lcX10,spX10,[],[],[],([],[]))
def q106_U : rfU := []
set_option maxHeartbeats 8000000 in
def q106_N : List rfB := [(0,([(0,.inr (.inl [68]))],[],[]),(3,[]),0)]
set_option maxRecDepth 100000 in
theorem q106_ok : rf_chkB q106_P q106_U wLay q106_M ddX10_dropSeen [] [] [0] 600 q106_N = true := by decide +kernel
set_option maxHeartbeats 4000000 in
theorem q106_met {G : rfG} (h : okG G) : rf_met G q106_M := rf_methodB h.1 (P := q106_P) (U := q106_U) (N := q106_N) ⟨wflT h flokX10, wcsT h csokX10, wlcT h lcokX10, spokX10 h, fun _ h => absurd h List.not_mem_nil, fun _ h => absurd h List.not_mem_nil, fun _ h => absurd h List.not_mem_nil, fun _ h => absurd h List.not_mem_nil, fun _ h => absurd h List.not_mem_nil⟩ dkX10_dropSeen (by decide +kernel) (by rw [h.2.2.1]; exact q106_ok)
/-- NearSpell.book -/
def q107_M : rfM := ((⟨"NearSpell", "book", "()I"⟩, prog_1_method_4_code, 1, (some .int)), (57,1273), ([.inr (.inl [70])],[]), [(1,0),(2,0),(3,0),(5,5),(5,6),(5,7),(5,8),(5,9),(5,10),(5,11),(5,12),(6,0),(7,0),(8,0),(10,5),(10,6),(10,7),(10,8),(10,9),(10,10),(10,11),(10,12),(10,13),(11,3),(11,4),(11,5),(11,6),(11,7),(11,8),(11,9),(11,10),(12,0),(14,0),(16,3),(16,4),(16,5),(16,6),(68,9),(70,2),(70,15)], [(some (.inl (((-1),10,1),none)),[],[((10,12),(0,0,0),none)])])
def ddX11_book : List (Nat × Instr × Nat) := [(0,.aload_n 0,1),(1,.getfield 28,3),(4,.aload_n 0,1),(5,.getfield 100,3),(8,.invokevirtual 111,3),(11,.ifCond .ne 5,3),(14,.iconst (-1),1),(15,.ireturn,1),(16,.aload_n 0,1),(17,.getfield 16,3),(20,.aload_n 0,1),(21,.getfield 20,3),(24,.invokevirtual 115,3),(27,.aload_n 0,1),(28,.getfield 35,3),(31,.aload_n 0,1),(32,.getfield 16,3),(35,.invokevirtual 119,3),(38,.aload_n 0,1),(39,.getfield 42,3),(42,.aload_n 0,1),(43,.getfield 35,3),(46,.invokevirtual 122,3),(49,.aload_n 0,1),(50,.getfield 42,3),(53,.invokevirtual 126,3),(56,.aload_n 0,1),(57,.getfield 92,3),(60,.invokevirtual 129,3),(63,.aload_n 0,1),(64,.iconst 0,1),(65,.putfield 100,3),(68,.aload_n 0,1),(69,.iconst 0,1),(70,.putfield 104,3),(73,.aload_n 0,1),(74,.getfield 16,3),(77,.getfield 132,3),(80,.ireturn,1)]
set_option maxRecDepth 100000 in
theorem dkX11_book : rf_decs prog_1_method_4_code ddX11_book := rf_decs_of (by decide +kernel)
def q107_P : rfP := (flX11,csX11,lcX11,spX11,[q98_M,q99_M,q101_M,q104_M,q105_M,q106_M],[],[(111,0,6),(115,1,1),(119,2,8),(122,3,0),(126,4,0),(129,5,10)],([],[]))
def q107_U : rfU := []
set_option maxHeartbeats 8000000 in
def q107_N : List rfB := [(0,([(0,.inr (.inl [70]))],[],[]),(39,[]),0)]
set_option maxRecDepth 100000 in
theorem q107_ok : rf_chkB q107_P q107_U wLay q107_M ddX11_book [(8,[0]),(24,[1]),(35,[2]),(46,[3]),(53,[4]),(60,[5])] [] [0] 600 q107_N = true := by decide +kernel
set_option maxHeartbeats 4000000 in
theorem q107_met {G : rfG} (h : okG G) : rf_met G q107_M := rf_methodB h.1 (P := q107_P) (U := q107_U) (N := q107_N) ⟨wflT h flokX11, wcsT h csokX11, wlcT h lcokX11, spokX11 h, List.forall_mem_cons.mpr ⟨q98_met h, List.forall_mem_cons.mpr ⟨q99_met h, List.forall_mem_cons.mpr ⟨q101_met h, List.forall_mem_cons.mpr ⟨q104_met h, List.forall_mem_cons.mpr ⟨q105_met h, List.forall_mem_cons.mpr ⟨q106_met h, fun _ h => absurd h List.not_mem_nil⟩⟩⟩⟩⟩⟩, fun _ h => absurd h List.not_mem_nil, List.forall_mem_cons.mpr ⟨fun M hM => Option.some.inj (show some q98_M = some M from hM) ▸ wlkV (lkX11_111 h) q98_M rfl rfl, List.forall_mem_cons.mpr ⟨fun M hM => Option.some.inj (show some q99_M = some M from hM) ▸ wlkV (lkX11_115 h) q99_M rfl rfl, List.forall_mem_cons.mpr ⟨fun M hM => Option.some.inj (show some q101_M = some M from hM) ▸ wlkV (lkX11_119 h) q101_M rfl rfl, List.forall_mem_cons.mpr ⟨fun M hM => Option.some.inj (show some q104_M = some M from hM) ▸ wlkV (lkX11_122 h) q104_M rfl rfl, List.forall_mem_cons.mpr ⟨fun M hM => Option.some.inj (show some q105_M = some M from hM) ▸ wlkV (lkX11_126 h) q105_M rfl rfl, List.forall_mem_cons.mpr ⟨fun M hM => Option.some.inj (show some q106_M = some M from hM) ▸ wlkV (lkX11_129 h) q106_M rfl rfl, fun _ h => absurd h List.not_mem_nil⟩⟩⟩⟩⟩⟩, fun _ h => absurd h List.not_mem_nil, fun _ h => absurd h List.not_mem_nil⟩ dkX11_book (by decide +kernel) (by rw [h.2.2.1]; exact q107_ok)
/-- NearSpell.fault -/
def q108_M : rfM := ((⟨"NearSpell", "fault", "(I)I"⟩, prog_1_method_5_code, 2, (some .int)), (0,0), ([.inr (.inl [70]),.inl (((-2147483648),2147483647,1),none)],[]), [], [(some (.inl (((-1),1600,1),none)),[],[])])
def ddX11_fault : List (Nat × Instr × Nat) := [(0,.iload_n 1,1),(1,.ifCond .ne 11,3),(4,.aload_n 0,1),(5,.getfield 28,3),(8,.getfield 135,3),(11,.ireturn,1),(12,.iload_n 1,1),(13,.iconst 1,1),(14,.if_icmp .ne 13,3),(17,.aload_n 0,1),(18,.getfield 28,3),(21,.getfield 138,3),(24,.goto 4,3),(27,.iconst (-1),1),(28,.ireturn,1)]
set_option maxRecDepth 100000 in
theorem dkX11_fault : rf_decs prog_1_method_5_code ddX11_fault := rf_decs_of (by decide +kernel)
def q108_P : rfP := (flX11,csX11,lcX11,spX11,[],[],[],([],[]))
def q108_U : rfU := []
set_option maxHeartbeats 8000000 in
def q108_N : List rfB := [(0,([(0,.inr (.inl [70])),(1,.inl (((-2147483648),2147483647,1),none))],[],[]),(15,[]),0)]
set_option maxRecDepth 100000 in
theorem q108_ok : rf_chkB q108_P q108_U wLay q108_M ddX11_fault [] [] [0] 600 q108_N = true := by decide +kernel
set_option maxHeartbeats 4000000 in
theorem q108_met {G : rfG} (h : okG G) : rf_met G q108_M := rf_methodB h.1 (P := q108_P) (U := q108_U) (N := q108_N) ⟨wflT h flokX11, wcsT h csokX11, wlcT h lcokX11, spokX11 h, fun _ h => absurd h List.not_mem_nil, fun _ h => absurd h List.not_mem_nil, fun _ h => absurd h List.not_mem_nil, fun _ h => absurd h List.not_mem_nil, fun _ h => absurd h List.not_mem_nil⟩ dkX11_fault (by decide +kernel) (by rw [h.2.2.1]; exact q108_ok)
/-- NearSpell.State.isEntry -/
def q109_M : rfM := ((⟨"NearSpell$State", "isEntry", "(I)Z"⟩, prog_10_method_6_code, 2, (some .boolean)), (0,0), ([.inr (.inl [13]),.inl (((-2147483648),2147483647,1),none)],[]), [], [(some (.inl ((1,1,0),none)),[(1,0,13)],[((12,34),(1,14,1),none)]),(some (.inl ((0,0,0),none)),[],[])])
def ddX8_isEntry : List (Nat × Instr × Nat) := [(0,.iload_n 1,1),(1,.ifCond .lt 31,3),(4,.iload_n 1,1),(5,.aload_n 0,1),(6,.getfield 11,3),(9,.bipush 34,2),(11,.iaload,1),(12,.if_icmp .ge 20,3),(15,.aload_n 0,1),(16,.getfield 11,3),(19,.bipush 14,2),(21,.iload_n 1,1),(22,.iadd,1),(23,.iaload,1),(24,.iconst (-1),1),(25,.if_icmp .eq 7,3),(28,.iconst 1,1),(29,.goto 4,3),(32,.iconst 0,1),(33,.ireturn,1)]
set_option maxRecDepth 100000 in
theorem dkX8_isEntry : rf_decs prog_10_method_6_code ddX8_isEntry := rf_decs_of (by decide +kernel)
def q109_P : rfP := (flX8,csX8,lcX8,spX8,[],[],[],([],[]))
def q109_U : rfU := []
set_option maxHeartbeats 8000000 in
def q109_N : List rfB := [(0,([(0,.inr (.inl [13])),(1,.inl (((-2147483648),2147483647,1),none))],[],[]),(20,[]),0),
  (32,([(0,.inr (.inl [13])),(1,.inl (((-2147483648),2147483647,1),none))],[],[]),(1,[]),0)]
set_option maxRecDepth 100000 in
theorem q109_ok : rf_chkB q109_P q109_U wLay q109_M ddX8_isEntry [] [] [0,32] 600 q109_N = true := by decide +kernel
set_option maxHeartbeats 4000000 in
theorem q109_met {G : rfG} (h : okG G) : rf_met G q109_M := rf_methodB h.1 (P := q109_P) (U := q109_U) (N := q109_N) ⟨wflT h flokX8, wcsT h csokX8, wlcT h lcokX8, spokX8 h, fun _ h => absurd h List.not_mem_nil, fun _ h => absurd h List.not_mem_nil, fun _ h => absurd h List.not_mem_nil, fun _ h => absurd h List.not_mem_nil, fun _ h => absurd h List.not_mem_nil⟩ dkX8_isEntry (by decide +kernel) (by rw [h.2.2.1]; exact q109_ok)
/-- NearSpell.State.spellingOf -/
def q110_M : rfM := ((⟨"NearSpell$State", "spellingOf", "(I)I"⟩, prog_10_method_7_code, 2, (some .int)), (0,0), ([.inr (.inl [13]),.inl ((0,13,1),none)],[]), [], [(some (.inl (((-2147483648),2147483647,1),none)),[],[])])
def ddX8_spellingOf : List (Nat × Instr × Nat) := [(0,.iload_n 1,1),(1,.ifCond .lt 20,3),(4,.iload_n 1,1),(5,.bipush 14,2),(7,.if_icmp .ge 14,3),(10,.aload_n 0,1),(11,.getfield 11,3),(14,.iconst 0,1),(15,.iload_n 1,1),(16,.iadd,1),(17,.iaload,1),(18,.goto 4,3),(21,.iconst 0,1),(22,.ireturn,1)]
set_option maxRecDepth 100000 in
theorem dkX8_spellingOf : rf_decs prog_10_method_7_code ddX8_spellingOf := rf_decs_of (by decide +kernel)
def q110_P : rfP := (flX8,csX8,lcX8,spX8,[],[],[],([],[]))
def q110_U : rfU := []
set_option maxHeartbeats 8000000 in
def q110_N : List rfB := [(0,([(0,.inr (.inl [13])),(1,.inl ((0,13,1),none))],[],[]),(12,[]),0)]
set_option maxRecDepth 100000 in
theorem q110_ok : rf_chkB q110_P q110_U wLay q110_M ddX8_spellingOf [] [] [0] 600 q110_N = true := by decide +kernel
set_option maxHeartbeats 4000000 in
theorem q110_met {G : rfG} (h : okG G) : rf_met G q110_M := rf_methodB h.1 (P := q110_P) (U := q110_U) (N := q110_N) ⟨wflT h flokX8, wcsT h csokX8, wlcT h lcokX8, spokX8 h, fun _ h => absurd h List.not_mem_nil, fun _ h => absurd h List.not_mem_nil, fun _ h => absurd h List.not_mem_nil, fun _ h => absurd h List.not_mem_nil, fun _ h => absurd h List.not_mem_nil⟩ dkX8_spellingOf (by decide +kernel) (by rw [h.2.2.1]; exact q110_ok)
/-- NearSpell.lengthOf -/
def q111_M : rfM := ((⟨"NearSpell", "lengthOf", "(I)I"⟩, prog_1_method_53_code, 2, (some .int)), (0,0), ([.inl (((-2147483648),2147483647,1),none)],[]), [], [(some (.inl ((0,6,1),none)),[],[])])
def ddX11_lengthOf : List (Nat × Instr × Nat) := [(0,.iconst 0,1),(1,.istore_n 1,1),(2,.iload_n 1,1),(3,.bipush 6,2),(5,.if_icmp .ge 18,3),(8,.iload_n 0,1),(9,.getstatic 360,3),(12,.iload_n 1,1),(13,.iaload,1),(14,.if_icmp .lt 9,3),(17,.iinc 1 1,3),(20,.goto (-18),3),(23,.iload_n 1,1),(24,.ireturn,1)]
set_option maxRecDepth 100000 in
theorem dkX11_lengthOf : rf_decs prog_1_method_53_code ddX11_lengthOf := rf_decs_of (by decide +kernel)
def q111_P : rfP := (flX11,csX11,lcX11,spX11,[],[],[],([],[]))
def q111_U : rfU := []
set_option maxHeartbeats 8000000 in
def q111_N : List rfB := [(0,([(0,.inl (((-2147483648),2147483647,1),none))],[],[]),(80,[0]),0),
  (2,([(0,.inl (((-2147483648),2147483647,1),none)),(1,.inl ((0,6,1),none))],[],[]),(76,[(-11)]),0),
  (23,([(0,.inl (((-2147483648),2147483647,1),none)),(1,.inl ((0,6,1),none))],[],[]),(1,[0]),0)]
set_option maxRecDepth 100000 in
theorem q111_ok : rf_chkB q111_P q111_U wLay q111_M ddX11_lengthOf [] [.inl 1] [0,2,23] 600 q111_N = true := by decide +kernel
set_option maxHeartbeats 4000000 in
theorem q111_met {G : rfG} (h : okG G) : rf_met G q111_M := rf_methodB h.1 (P := q111_P) (U := q111_U) (N := q111_N) ⟨wflT h flokX11, wcsT h csokX11, wlcT h lcokX11, spokX11 h, fun _ h => absurd h List.not_mem_nil, fun _ h => absurd h List.not_mem_nil, fun _ h => absurd h List.not_mem_nil, fun _ h => absurd h List.not_mem_nil, fun _ h => absurd h List.not_mem_nil⟩ dkX11_lengthOf (by decide +kernel) (by rw [h.2.2.1]; exact q111_ok)
/-- NearSpell.State.usesOf -/
def q112_M : rfM := ((⟨"NearSpell$State", "usesOf", "(I)I"⟩, prog_10_method_8_code, 2, (some .int)), (0,0), ([.inr (.inl [13]),.inl ((0,13,1),none)],[]), [], [(some (.inl (((-2147483648),2147483647,1),none)),[],[])])
def ddX8_usesOf : List (Nat × Instr × Nat) := [(0,.iload_n 1,1),(1,.ifCond .lt 21,3),(4,.iload_n 1,1),(5,.bipush 14,2),(7,.if_icmp .ge 15,3),(10,.aload_n 0,1),(11,.getfield 11,3),(14,.bipush 14,2),(16,.iload_n 1,1),(17,.iadd,1),(18,.iaload,1),(19,.goto 4,3),(22,.iconst 0,1),(23,.ireturn,1)]
set_option maxRecDepth 100000 in
theorem dkX8_usesOf : rf_decs prog_10_method_8_code ddX8_usesOf := rf_decs_of (by decide +kernel)
def q112_P : rfP := (flX8,csX8,lcX8,spX8,[],[],[],([],[]))
def q112_U : rfU := []
set_option maxHeartbeats 8000000 in
def q112_N : List rfB := [(0,([(0,.inr (.inl [13])),(1,.inl ((0,13,1),none))],[],[]),(12,[]),0)]
set_option maxRecDepth 100000 in
theorem q112_ok : rf_chkB q112_P q112_U wLay q112_M ddX8_usesOf [] [] [0] 600 q112_N = true := by decide +kernel
set_option maxHeartbeats 4000000 in
theorem q112_met {G : rfG} (h : okG G) : rf_met G q112_M := rf_methodB h.1 (P := q112_P) (U := q112_U) (N := q112_N) ⟨wflT h flokX8, wcsT h csokX8, wlcT h lcokX8, spokX8 h, fun _ h => absurd h List.not_mem_nil, fun _ h => absurd h List.not_mem_nil, fun _ h => absurd h List.not_mem_nil, fun _ h => absurd h List.not_mem_nil, fun _ h => absurd h List.not_mem_nil⟩ dkX8_usesOf (by decide +kernel) (by rw [h.2.2.1]; exact q112_ok)
/-- NearSpell.beginningOf -/
def q113_M : rfM := ((⟨"NearSpell", "beginningOf", "(II)I"⟩, prog_1_method_55_code, 3, (some .int)), (1,21), ([.inl (((-2147483648),2147483647,1),none),.inl ((1,6,1),none)],[]), [], [(some (.inl (((-2147483648),2147483647,1),none)),[],[])])
def ddX11_beginningOf : List (Nat × Instr × Nat) := [(0,.iload_n 0,1),(1,.invokestatic 148,3),(4,.iload_n 1,1),(5,.isub,1),(6,.istore_n 2,1),(7,.iload_n 2,1),(8,.ifCond .le 19,3),(11,.iload_n 2,1),(12,.bipush 6,2),(14,.if_icmp .gt 13,3),(17,.iload_n 0,1),(18,.getstatic 360,3),(21,.iload_n 2,1),(22,.iaload,1),(23,.idiv,1),(24,.goto 4,3),(27,.iload_n 0,1),(28,.ireturn,1)]
set_option maxRecDepth 100000 in
theorem dkX11_beginningOf : rf_decs prog_1_method_55_code ddX11_beginningOf := rf_decs_of (by decide +kernel)
def q113_P : rfP := (flX11,csX11,lcX11,spX11,[q111_M],[(148,0)],[],([],[]))
def q113_U : rfU := []
set_option maxHeartbeats 8000000 in
def q113_N : List rfB := [(0,([(0,.inl (((-2147483648),2147483647,1),none)),(1,.inl ((1,6,1),none))],[],[]),(17,[]),0),
  (28,([(0,.inl (((-2147483648),2147483647,1),none)),(1,.inl ((1,6,1),none)),(2,.inl (((-6),5,1),none))],[.inl (((-2147483648),2147483647,1),none)],[]),(0,[]),0)]
set_option maxRecDepth 100000 in
theorem q113_ok : rf_chkB q113_P q113_U wLay q113_M ddX11_beginningOf [(1,[0])] [] [0,28] 600 q113_N = true := by decide +kernel
set_option maxHeartbeats 4000000 in
theorem q113_met {G : rfG} (h : okG G) : rf_met G q113_M := rf_methodB h.1 (P := q113_P) (U := q113_U) (N := q113_N) ⟨wflT h flokX11, wcsT h csokX11, wlcT h lcokX11, spokX11 h, List.forall_mem_cons.mpr ⟨q111_met h, fun _ h => absurd h List.not_mem_nil⟩, List.forall_mem_cons.mpr ⟨fun M hM => Option.some.inj (show some q111_M = some M from hM) ▸ wlkS (lkX11_148 h) q111_M rfl rfl, fun _ h => absurd h List.not_mem_nil⟩, fun _ h => absurd h List.not_mem_nil, fun _ h => absurd h List.not_mem_nil, fun _ h => absurd h List.not_mem_nil⟩ dkX11_beginningOf (by decide +kernel) (by rw [h.2.2.1]; exact q113_ok)
/-- NearSpell.FormList.add -/
def q114_M : rfM := ((⟨"NearSpell$FormList", "add", "(I)V"⟩, prog_5_method_4_code, 4, none), (0,0), ([.inr (.inl [40]),.inl (((-2147483648),2147483647,1),none)],[]), [(39,0),(40,2)], [(none,[],[])])
def ddX3_add : List (Nat × Instr × Nat) := [(0,.aload_n 0,1),(1,.getfield 15,3),(4,.istore_n 2,1),(5,.iload_n 2,1),(6,.ifCond .le 21,3),(9,.aload_n 0,1),(10,.getfield 9,3),(13,.iload_n 2,1),(14,.iconst 1,1),(15,.isub,1),(16,.iaload,1),(17,.iload_n 1,1),(18,.if_icmp .le 9,3),(21,.iinc 2 (-1),3),(24,.goto (-19),3),(27,.iload_n 2,1),(28,.ifCond .le 15,3),(31,.aload_n 0,1),(32,.getfield 9,3),(35,.iload_n 2,1),(36,.iconst 1,1),(37,.isub,1),(38,.iaload,1),(39,.iload_n 1,1),(40,.if_icmp .eq 15,3),(43,.aload_n 0,1),(44,.getfield 15,3),(47,.aload_n 0,1),(48,.getfield 9,3),(51,.arraylength,1),(52,.if_icmp .lt 4,3),(55,.return_,1),(56,.aload_n 0,1),(57,.getfield 15,3),(60,.istore_n 3,1),(61,.iload_n 3,1),(62,.iload_n 2,1),(63,.if_icmp .le 23,3),(66,.aload_n 0,1),(67,.getfield 9,3),(70,.iload_n 3,1),(71,.aload_n 0,1),(72,.getfield 9,3),(75,.iload_n 3,1),(76,.iconst 1,1),(77,.isub,1),(78,.iaload,1),(79,.iastore,1),(80,.iinc 3 (-1),3),(83,.goto (-22),3),(86,.aload_n 0,1),(87,.getfield 9,3),(90,.iload_n 2,1),(91,.iload_n 1,1),(92,.iastore,1),(93,.aload_n 0,1),(94,.dup,1),(95,.getfield 15,3),(98,.iconst 1,1),(99,.iadd,1),(100,.putfield 15,3),(103,.return_,1)]
set_option maxRecDepth 100000 in
theorem dkX3_add : rf_decs prog_5_method_4_code ddX3_add := rf_decs_of (by decide +kernel)
def q114_P : rfP := (flX3,csX3,lcX3,spX3,[],[],[],([],[]))
def q114_U : rfU := [(.inr (40,1),[(0,21),(22,22)])]
set_option maxHeartbeats 8000000 in
def q114_N : List rfB := [(0,([(0,.inr (.inl [40])),(1,.inl (((-2147483648),2147483647,1),none))],[],[]),(992,[0,0]),1000000),
  (5,([(0,.inr (.inl [40])),(1,.inl (((-2147483648),2147483647,1),none)),(2,.inl ((0,21,1),none))],[],[((40,1),(0,21,1),none)]),(394,[13,0]),0),
  (5,([(0,.inr (.inl [40])),(1,.inl (((-2147483648),2147483647,1),none)),(2,.inl ((0,22,1),none))],[],[((40,1),(22,22,1),none)]),(700,[13,0]),0),
  (27,([(0,.inr (.inl [40])),(1,.inl (((-2147483648),2147483647,1),none)),(2,.inl ((0,21,1),none))],[],[((40,1),(0,21,1),none)]),(383,[0,0]),0),
  (27,([(0,.inr (.inl [40])),(1,.inl (((-2147483648),2147483647,1),none)),(2,.inl ((0,22,1),none))],[],[((40,1),(22,22,1),none)]),(689,[0,0]),0),
  (43,([(0,.inr (.inl [40])),(1,.inl (((-2147483648),2147483647,1),none)),(2,.inl ((0,21,1),none))],[],[((40,1),(0,21,1),none)]),(372,[0,0]),0),
  (43,([(0,.inr (.inl [40])),(1,.inl (((-2147483648),2147483647,1),none)),(2,.inl ((0,22,1),none))],[],[((40,1),(22,22,1),none)]),(679,[0,0]),0),
  (55,([(0,.inr (.inl [40])),(1,.inl (((-2147483648),2147483647,1),none)),(2,.inl ((1,21,1),none))],[],[((40,1),(0,21,1),none)]),(373,[0,0]),0),
  (55,([(0,.inr (.inl [40])),(1,.inl (((-2147483648),2147483647,1),none)),(2,.inl ((0,22,1),none))],[],[((40,1),(22,22,1),none)]),(673,[0,0]),0),
  (61,([(0,.inr (.inl [40])),(1,.inl (((-2147483648),2147483647,1),none)),(2,.inl ((0,21,1),none)),(3,.inl ((0,21,1),none))],[],[((40,1),(0,21,1),none)]),(25,[0,16]),0)]
set_option maxRecDepth 100000 in
theorem q114_ok : rf_chkB q114_P q114_U wLay q114_M ddX3_add [] [.inl 2,.inl 3] [0,5,27,43,55,61] 600 q114_N = true := by decide +kernel
set_option maxHeartbeats 4000000 in
theorem q114_met {G : rfG} (h : okG G) : rf_met G q114_M := rf_methodB h.1 (P := q114_P) (U := q114_U) (N := q114_N) ⟨wflT h flokX3, wcsT h csokX3, wlcT h lcokX3, spokX3 h, fun _ h => absurd h List.not_mem_nil, fun _ h => absurd h List.not_mem_nil, fun _ h => absurd h List.not_mem_nil, fun _ h => absurd h List.not_mem_nil, fun _ h => absurd h List.not_mem_nil⟩ dkX3_add (by decide +kernel) (by rw [h.2.2.1]; exact q114_ok)
/-- NearSpell.FormList.add -/
def q115_M : rfM := ((⟨"NearSpell$FormList", "add", "(I)V"⟩, prog_5_method_4_code, 4, none), (0,0), ([.inr (.inl [24]),.inl (((-2147483648),2147483647,1),none)],[]), [(23,0),(24,2)], [(none,[],[])])
def q115_P : rfP := (flX3,csX3,lcX3,spX3,[],[],[],([],[]))
def q115_U : rfU := [(.inr (24,1),[(0,21),(22,22)])]
set_option maxHeartbeats 8000000 in
def q115_N : List rfB := [(0,([(0,.inr (.inl [24])),(1,.inl (((-2147483648),2147483647,1),none))],[],[]),(992,[0,0]),1000000),
  (5,([(0,.inr (.inl [24])),(1,.inl (((-2147483648),2147483647,1),none)),(2,.inl ((0,21,1),none))],[],[((24,1),(0,21,1),none)]),(394,[13,0]),0),
  (5,([(0,.inr (.inl [24])),(1,.inl (((-2147483648),2147483647,1),none)),(2,.inl ((0,22,1),none))],[],[((24,1),(22,22,1),none)]),(700,[13,0]),0),
  (27,([(0,.inr (.inl [24])),(1,.inl (((-2147483648),2147483647,1),none)),(2,.inl ((0,21,1),none))],[],[((24,1),(0,21,1),none)]),(383,[0,0]),0),
  (27,([(0,.inr (.inl [24])),(1,.inl (((-2147483648),2147483647,1),none)),(2,.inl ((0,22,1),none))],[],[((24,1),(22,22,1),none)]),(689,[0,0]),0),
  (43,([(0,.inr (.inl [24])),(1,.inl (((-2147483648),2147483647,1),none)),(2,.inl ((0,21,1),none))],[],[((24,1),(0,21,1),none)]),(372,[0,0]),0),
  (43,([(0,.inr (.inl [24])),(1,.inl (((-2147483648),2147483647,1),none)),(2,.inl ((0,22,1),none))],[],[((24,1),(22,22,1),none)]),(679,[0,0]),0),
  (55,([(0,.inr (.inl [24])),(1,.inl (((-2147483648),2147483647,1),none)),(2,.inl ((1,21,1),none))],[],[((24,1),(0,21,1),none)]),(373,[0,0]),0),
  (55,([(0,.inr (.inl [24])),(1,.inl (((-2147483648),2147483647,1),none)),(2,.inl ((0,22,1),none))],[],[((24,1),(22,22,1),none)]),(673,[0,0]),0),
  (61,([(0,.inr (.inl [24])),(1,.inl (((-2147483648),2147483647,1),none)),(2,.inl ((0,21,1),none)),(3,.inl ((0,21,1),none))],[],[((24,1),(0,21,1),none)]),(25,[0,16]),0)]
set_option maxRecDepth 100000 in
theorem q115_ok : rf_chkB q115_P q115_U wLay q115_M ddX3_add [] [.inl 2,.inl 3] [0,5,27,43,55,61] 600 q115_N = true := by decide +kernel
set_option maxHeartbeats 4000000 in
theorem q115_met {G : rfG} (h : okG G) : rf_met G q115_M := rf_methodB h.1 (P := q115_P) (U := q115_U) (N := q115_N) ⟨wflT h flokX3, wcsT h csokX3, wlcT h lcokX3, spokX3 h, fun _ h => absurd h List.not_mem_nil, fun _ h => absurd h List.not_mem_nil, fun _ h => absurd h List.not_mem_nil, fun _ h => absurd h List.not_mem_nil, fun _ h => absurd h List.not_mem_nil⟩ dkX3_add (by decide +kernel) (by rw [h.2.2.1]; exact q115_ok)
/-- NearSpell.FormList.add -/
def q116_M : rfM := ((⟨"NearSpell$FormList", "add", "(I)V"⟩, prog_5_method_4_code, 4, none), (0,0), ([.inr (.inl [34]),.inl (((-2147483648),2147483647,1),none)],[]), [(33,0),(34,2)], [(none,[],[])])
def q116_P : rfP := (flX3,csX3,lcX3,spX3,[],[],[],([],[]))
def q116_U : rfU := [(.inr (34,1),[(0,21),(22,22)])]
set_option maxHeartbeats 8000000 in
def q116_N : List rfB := [(0,([(0,.inr (.inl [34])),(1,.inl (((-2147483648),2147483647,1),none))],[],[]),(992,[0,0]),1000000),
  (5,([(0,.inr (.inl [34])),(1,.inl (((-2147483648),2147483647,1),none)),(2,.inl ((0,22,1),none))],[],[((34,1),(22,22,1),none)]),(700,[13,0]),0),
  (5,([(0,.inr (.inl [34])),(1,.inl (((-2147483648),2147483647,1),none)),(2,.inl ((0,21,1),none))],[],[((34,1),(0,21,1),none)]),(394,[13,0]),0),
  (27,([(0,.inr (.inl [34])),(1,.inl (((-2147483648),2147483647,1),none)),(2,.inl ((0,21,1),none))],[],[((34,1),(0,21,1),none)]),(383,[0,0]),0),
  (27,([(0,.inr (.inl [34])),(1,.inl (((-2147483648),2147483647,1),none)),(2,.inl ((0,22,1),none))],[],[((34,1),(22,22,1),none)]),(689,[0,0]),0),
  (43,([(0,.inr (.inl [34])),(1,.inl (((-2147483648),2147483647,1),none)),(2,.inl ((0,21,1),none))],[],[((34,1),(0,21,1),none)]),(372,[0,0]),0),
  (43,([(0,.inr (.inl [34])),(1,.inl (((-2147483648),2147483647,1),none)),(2,.inl ((0,22,1),none))],[],[((34,1),(22,22,1),none)]),(679,[0,0]),0),
  (55,([(0,.inr (.inl [34])),(1,.inl (((-2147483648),2147483647,1),none)),(2,.inl ((1,21,1),none))],[],[((34,1),(0,21,1),none)]),(373,[0,0]),0),
  (55,([(0,.inr (.inl [34])),(1,.inl (((-2147483648),2147483647,1),none)),(2,.inl ((0,22,1),none))],[],[((34,1),(22,22,1),none)]),(673,[0,0]),0),
  (61,([(0,.inr (.inl [34])),(1,.inl (((-2147483648),2147483647,1),none)),(2,.inl ((0,21,1),none)),(3,.inl ((0,21,1),none))],[],[((34,1),(0,21,1),none)]),(25,[0,16]),0)]
set_option maxRecDepth 100000 in
theorem q116_ok : rf_chkB q116_P q116_U wLay q116_M ddX3_add [] [.inl 2,.inl 3] [0,5,27,43,55,61] 600 q116_N = true := by decide +kernel
set_option maxHeartbeats 4000000 in
theorem q116_met {G : rfG} (h : okG G) : rf_met G q116_M := rf_methodB h.1 (P := q116_P) (U := q116_U) (N := q116_N) ⟨wflT h flokX3, wcsT h csokX3, wlcT h lcokX3, spokX3 h, fun _ h => absurd h List.not_mem_nil, fun _ h => absurd h List.not_mem_nil, fun _ h => absurd h List.not_mem_nil, fun _ h => absurd h List.not_mem_nil, fun _ h => absurd h List.not_mem_nil⟩ dkX3_add (by decide +kernel) (by rw [h.2.2.1]; exact q116_ok)
/-- NearSpell.FormList.add -/
def q117_M : rfM := ((⟨"NearSpell$FormList", "add", "(I)V"⟩, prog_5_method_4_code, 4, none), (0,0), ([.inr (.inl [42]),.inl (((-2147483648),2147483647,1),none)],[]), [(41,0),(42,2)], [(none,[],[])])
def q117_P : rfP := (flX3,csX3,lcX3,spX3,[],[],[],([],[]))
def q117_U : rfU := [(.inr (42,1),[(0,21),(22,22)])]
set_option maxHeartbeats 8000000 in
def q117_N : List rfB := [(0,([(0,.inr (.inl [42])),(1,.inl (((-2147483648),2147483647,1),none))],[],[]),(992,[0,0]),1000000),
  (5,([(0,.inr (.inl [42])),(1,.inl (((-2147483648),2147483647,1),none)),(2,.inl ((0,21,1),none))],[],[((42,1),(0,21,1),none)]),(394,[13,0]),0),
  (5,([(0,.inr (.inl [42])),(1,.inl (((-2147483648),2147483647,1),none)),(2,.inl ((0,22,1),none))],[],[((42,1),(22,22,1),none)]),(700,[13,0]),0),
  (27,([(0,.inr (.inl [42])),(1,.inl (((-2147483648),2147483647,1),none)),(2,.inl ((0,21,1),none))],[],[((42,1),(0,21,1),none)]),(383,[0,0]),0),
  (27,([(0,.inr (.inl [42])),(1,.inl (((-2147483648),2147483647,1),none)),(2,.inl ((0,22,1),none))],[],[((42,1),(22,22,1),none)]),(689,[0,0]),0),
  (43,([(0,.inr (.inl [42])),(1,.inl (((-2147483648),2147483647,1),none)),(2,.inl ((0,21,1),none))],[],[((42,1),(0,21,1),none)]),(372,[0,0]),0),
  (43,([(0,.inr (.inl [42])),(1,.inl (((-2147483648),2147483647,1),none)),(2,.inl ((0,22,1),none))],[],[((42,1),(22,22,1),none)]),(679,[0,0]),0),
  (55,([(0,.inr (.inl [42])),(1,.inl (((-2147483648),2147483647,1),none)),(2,.inl ((1,21,1),none))],[],[((42,1),(0,21,1),none)]),(373,[0,0]),0),
  (55,([(0,.inr (.inl [42])),(1,.inl (((-2147483648),2147483647,1),none)),(2,.inl ((0,22,1),none))],[],[((42,1),(22,22,1),none)]),(673,[0,0]),0),
  (61,([(0,.inr (.inl [42])),(1,.inl (((-2147483648),2147483647,1),none)),(2,.inl ((0,21,1),none)),(3,.inl ((0,21,1),none))],[],[((42,1),(0,21,1),none)]),(25,[0,16]),0)]
set_option maxRecDepth 100000 in
theorem q117_ok : rf_chkB q117_P q117_U wLay q117_M ddX3_add [] [.inl 2,.inl 3] [0,5,27,43,55,61] 600 q117_N = true := by decide +kernel
set_option maxHeartbeats 4000000 in
theorem q117_met {G : rfG} (h : okG G) : rf_met G q117_M := rf_methodB h.1 (P := q117_P) (U := q117_U) (N := q117_N) ⟨wflT h flokX3, wcsT h csokX3, wlcT h lcokX3, spokX3 h, fun _ h => absurd h List.not_mem_nil, fun _ h => absurd h List.not_mem_nil, fun _ h => absurd h List.not_mem_nil, fun _ h => absurd h List.not_mem_nil, fun _ h => absurd h List.not_mem_nil⟩ dkX3_add (by decide +kernel) (by rw [h.2.2.1]; exact q117_ok)
/-- NearSpell.FormList.add -/
def q118_M : rfM := ((⟨"NearSpell$FormList", "add", "(I)V"⟩, prog_5_method_4_code, 4, none), (0,0), ([.inr (.inl [32]),.inl (((-2147483648),2147483647,1),none)],[]), [(31,0),(32,2)], [(none,[],[])])
def q118_P : rfP := (flX3,csX3,lcX3,spX3,[],[],[],([],[]))
def q118_U : rfU := [(.inr (32,1),[(0,21),(22,22)])]
set_option maxHeartbeats 8000000 in
def q118_N : List rfB := [(0,([(0,.inr (.inl [32])),(1,.inl (((-2147483648),2147483647,1),none))],[],[]),(992,[0,0]),1000000),
  (5,([(0,.inr (.inl [32])),(1,.inl (((-2147483648),2147483647,1),none)),(2,.inl ((0,22,1),none))],[],[((32,1),(22,22,1),none)]),(700,[13,0]),0),
  (5,([(0,.inr (.inl [32])),(1,.inl (((-2147483648),2147483647,1),none)),(2,.inl ((0,21,1),none))],[],[((32,1),(0,21,1),none)]),(394,[13,0]),0),
  (27,([(0,.inr (.inl [32])),(1,.inl (((-2147483648),2147483647,1),none)),(2,.inl ((0,21,1),none))],[],[((32,1),(0,21,1),none)]),(383,[0,0]),0),
  (27,([(0,.inr (.inl [32])),(1,.inl (((-2147483648),2147483647,1),none)),(2,.inl ((0,22,1),none))],[],[((32,1),(22,22,1),none)]),(689,[0,0]),0),
  (43,([(0,.inr (.inl [32])),(1,.inl (((-2147483648),2147483647,1),none)),(2,.inl ((0,21,1),none))],[],[((32,1),(0,21,1),none)]),(372,[0,0]),0),
  (43,([(0,.inr (.inl [32])),(1,.inl (((-2147483648),2147483647,1),none)),(2,.inl ((0,22,1),none))],[],[((32,1),(22,22,1),none)]),(679,[0,0]),0),
  (55,([(0,.inr (.inl [32])),(1,.inl (((-2147483648),2147483647,1),none)),(2,.inl ((1,21,1),none))],[],[((32,1),(0,21,1),none)]),(373,[0,0]),0),
  (55,([(0,.inr (.inl [32])),(1,.inl (((-2147483648),2147483647,1),none)),(2,.inl ((0,22,1),none))],[],[((32,1),(22,22,1),none)]),(673,[0,0]),0),
  (61,([(0,.inr (.inl [32])),(1,.inl (((-2147483648),2147483647,1),none)),(2,.inl ((0,21,1),none)),(3,.inl ((0,21,1),none))],[],[((32,1),(0,21,1),none)]),(25,[0,16]),0)]
set_option maxRecDepth 100000 in
theorem q118_ok : rf_chkB q118_P q118_U wLay q118_M ddX3_add [] [.inl 2,.inl 3] [0,5,27,43,55,61] 600 q118_N = true := by decide +kernel
set_option maxHeartbeats 4000000 in
theorem q118_met {G : rfG} (h : okG G) : rf_met G q118_M := rf_methodB h.1 (P := q118_P) (U := q118_U) (N := q118_N) ⟨wflT h flokX3, wcsT h csokX3, wlcT h lcokX3, spokX3 h, fun _ h => absurd h List.not_mem_nil, fun _ h => absurd h List.not_mem_nil, fun _ h => absurd h List.not_mem_nil, fun _ h => absurd h List.not_mem_nil, fun _ h => absurd h List.not_mem_nil⟩ dkX3_add (by decide +kernel) (by rw [h.2.2.1]; exact q118_ok)
/-- NearSpell.FormList.add -/
def q119_M : rfM := ((⟨"NearSpell$FormList", "add", "(I)V"⟩, prog_5_method_4_code, 4, none), (0,0), ([.inr (.inl [26]),.inl (((-2147483648),2147483647,1),none)],[]), [(25,0),(26,2)], [(none,[],[])])
def q119_P : rfP := (flX3,csX3,lcX3,spX3,[],[],[],([],[]))
def q119_U : rfU := [(.inr (26,1),[(0,21),(22,22)])]
set_option maxHeartbeats 8000000 in
def q119_N : List rfB := [(0,([(0,.inr (.inl [26])),(1,.inl (((-2147483648),2147483647,1),none))],[],[]),(992,[0,0]),1000000),
  (5,([(0,.inr (.inl [26])),(1,.inl (((-2147483648),2147483647,1),none)),(2,.inl ((0,21,1),none))],[],[((26,1),(0,21,1),none)]),(394,[13,0]),0),
  (5,([(0,.inr (.inl [26])),(1,.inl (((-2147483648),2147483647,1),none)),(2,.inl ((0,22,1),none))],[],[((26,1),(22,22,1),none)]),(700,[13,0]),0),
  (27,([(0,.inr (.inl [26])),(1,.inl (((-2147483648),2147483647,1),none)),(2,.inl ((0,21,1),none))],[],[((26,1),(0,21,1),none)]),(383,[0,0]),0),
  (27,([(0,.inr (.inl [26])),(1,.inl (((-2147483648),2147483647,1),none)),(2,.inl ((0,22,1),none))],[],[((26,1),(22,22,1),none)]),(689,[0,0]),0),
  (43,([(0,.inr (.inl [26])),(1,.inl (((-2147483648),2147483647,1),none)),(2,.inl ((0,21,1),none))],[],[((26,1),(0,21,1),none)]),(372,[0,0]),0),
  (43,([(0,.inr (.inl [26])),(1,.inl (((-2147483648),2147483647,1),none)),(2,.inl ((0,22,1),none))],[],[((26,1),(22,22,1),none)]),(679,[0,0]),0),
  (55,([(0,.inr (.inl [26])),(1,.inl (((-2147483648),2147483647,1),none)),(2,.inl ((1,21,1),none))],[],[((26,1),(0,21,1),none)]),(373,[0,0]),0),
  (55,([(0,.inr (.inl [26])),(1,.inl (((-2147483648),2147483647,1),none)),(2,.inl ((0,22,1),none))],[],[((26,1),(22,22,1),none)]),(673,[0,0]),0),
  (61,([(0,.inr (.inl [26])),(1,.inl (((-2147483648),2147483647,1),none)),(2,.inl ((0,21,1),none)),(3,.inl ((0,21,1),none))],[],[((26,1),(0,21,1),none)]),(25,[0,16]),0)]
set_option maxRecDepth 100000 in
theorem q119_ok : rf_chkB q119_P q119_U wLay q119_M ddX3_add [] [.inl 2,.inl 3] [0,5,27,43,55,61] 600 q119_N = true := by decide +kernel
set_option maxHeartbeats 4000000 in
theorem q119_met {G : rfG} (h : okG G) : rf_met G q119_M := rf_methodB h.1 (P := q119_P) (U := q119_U) (N := q119_N) ⟨wflT h flokX3, wcsT h csokX3, wlcT h lcokX3, spokX3 h, fun _ h => absurd h List.not_mem_nil, fun _ h => absurd h List.not_mem_nil, fun _ h => absurd h List.not_mem_nil, fun _ h => absurd h List.not_mem_nil, fun _ h => absurd h List.not_mem_nil⟩ dkX3_add (by decide +kernel) (by rw [h.2.2.1]; exact q119_ok)
/-- NearSpell.FormList.add -/
def q120_M : rfM := ((⟨"NearSpell$FormList", "add", "(I)V"⟩, prog_5_method_4_code, 4, none), (0,0), ([.inr (.inl [44]),.inl (((-2147483648),2147483647,1),none)],[]), [(43,0),(44,2)], [(none,[],[])])
def q120_P : rfP := (flX3,csX3,lcX3,spX3,[],[],[],([],[]))
def q120_U : rfU := [(.inr (44,1),[(0,21),(22,22)])]
set_option maxHeartbeats 8000000 in
def q120_N : List rfB := [(0,([(0,.inr (.inl [44])),(1,.inl (((-2147483648),2147483647,1),none))],[],[]),(992,[0,0]),1000000),
  (5,([(0,.inr (.inl [44])),(1,.inl (((-2147483648),2147483647,1),none)),(2,.inl ((0,21,1),none))],[],[((44,1),(0,21,1),none)]),(394,[13,0]),0),
  (5,([(0,.inr (.inl [44])),(1,.inl (((-2147483648),2147483647,1),none)),(2,.inl ((0,22,1),none))],[],[((44,1),(22,22,1),none)]),(700,[13,0]),0),
  (27,([(0,.inr (.inl [44])),(1,.inl (((-2147483648),2147483647,1),none)),(2,.inl ((0,21,1),none))],[],[((44,1),(0,21,1),none)]),(383,[0,0]),0),
  (27,([(0,.inr (.inl [44])),(1,.inl (((-2147483648),2147483647,1),none)),(2,.inl ((0,22,1),none))],[],[((44,1),(22,22,1),none)]),(689,[0,0]),0),
  (43,([(0,.inr (.inl [44])),(1,.inl (((-2147483648),2147483647,1),none)),(2,.inl ((0,21,1),none))],[],[((44,1),(0,21,1),none)]),(372,[0,0]),0),
  (43,([(0,.inr (.inl [44])),(1,.inl (((-2147483648),2147483647,1),none)),(2,.inl ((0,22,1),none))],[],[((44,1),(22,22,1),none)]),(679,[0,0]),0),
  (55,([(0,.inr (.inl [44])),(1,.inl (((-2147483648),2147483647,1),none)),(2,.inl ((1,21,1),none))],[],[((44,1),(0,21,1),none)]),(373,[0,0]),0),
  (55,([(0,.inr (.inl [44])),(1,.inl (((-2147483648),2147483647,1),none)),(2,.inl ((0,22,1),none))],[],[((44,1),(22,22,1),none)]),(673,[0,0]),0),
  (61,([(0,.inr (.inl [44])),(1,.inl (((-2147483648),2147483647,1),none)),(2,.inl ((0,21,1),none)),(3,.inl ((0,21,1),none))],[],[((44,1),(0,21,1),none)]),(25,[0,16]),0)]
set_option maxRecDepth 100000 in
theorem q120_ok : rf_chkB q120_P q120_U wLay q120_M ddX3_add [] [.inl 2,.inl 3] [0,5,27,43,55,61] 600 q120_N = true := by decide +kernel
set_option maxHeartbeats 4000000 in
theorem q120_met {G : rfG} (h : okG G) : rf_met G q120_M := rf_methodB h.1 (P := q120_P) (U := q120_U) (N := q120_N) ⟨wflT h flokX3, wcsT h csokX3, wlcT h lcokX3, spokX3 h, fun _ h => absurd h List.not_mem_nil, fun _ h => absurd h List.not_mem_nil, fun _ h => absurd h List.not_mem_nil, fun _ h => absurd h List.not_mem_nil, fun _ h => absurd h List.not_mem_nil⟩ dkX3_add (by decide +kernel) (by rw [h.2.2.1]; exact q120_ok)
/-- NearSpell.FormList.add -/
def q121_M : rfM := ((⟨"NearSpell$FormList", "add", "(I)V"⟩, prog_5_method_4_code, 4, none), (0,0), ([.inr (.inl [22]),.inl (((-2147483648),2147483647,1),none)],[]), [(21,0),(22,2)], [(none,[],[])])
def q121_P : rfP := (flX3,csX3,lcX3,spX3,[],[],[],([],[]))
def q121_U : rfU := [(.inr (22,1),[(0,21),(22,22)])]
set_option maxHeartbeats 8000000 in
def q121_N : List rfB := [(0,([(0,.inr (.inl [22])),(1,.inl (((-2147483648),2147483647,1),none))],[],[]),(992,[0,0]),1000000),
  (5,([(0,.inr (.inl [22])),(1,.inl (((-2147483648),2147483647,1),none)),(2,.inl ((0,21,1),none))],[],[((22,1),(0,21,1),none)]),(394,[13,0]),0),
  (5,([(0,.inr (.inl [22])),(1,.inl (((-2147483648),2147483647,1),none)),(2,.inl ((0,22,1),none))],[],[((22,1),(22,22,1),none)]),(700,[13,0]),0),
  (27,([(0,.inr (.inl [22])),(1,.inl (((-2147483648),2147483647,1),none)),(2,.inl ((0,21,1),none))],[],[((22,1),(0,21,1),none)]),(383,[0,0]),0),
  (27,([(0,.inr (.inl [22])),(1,.inl (((-2147483648),2147483647,1),none)),(2,.inl ((0,22,1),none))],[],[((22,1),(22,22,1),none)]),(689,[0,0]),0),
  (43,([(0,.inr (.inl [22])),(1,.inl (((-2147483648),2147483647,1),none)),(2,.inl ((0,21,1),none))],[],[((22,1),(0,21,1),none)]),(372,[0,0]),0),
  (43,([(0,.inr (.inl [22])),(1,.inl (((-2147483648),2147483647,1),none)),(2,.inl ((0,22,1),none))],[],[((22,1),(22,22,1),none)]),(679,[0,0]),0),
  (55,([(0,.inr (.inl [22])),(1,.inl (((-2147483648),2147483647,1),none)),(2,.inl ((1,21,1),none))],[],[((22,1),(0,21,1),none)]),(373,[0,0]),0),
  (55,([(0,.inr (.inl [22])),(1,.inl (((-2147483648),2147483647,1),none)),(2,.inl ((0,22,1),none))],[],[((22,1),(22,22,1),none)]),(673,[0,0]),0),
  (61,([(0,.inr (.inl [22])),(1,.inl (((-2147483648),2147483647,1),none)),(2,.inl ((0,21,1),none)),(3,.inl ((0,21,1),none))],[],[((22,1),(0,21,1),none)]),(25,[0,16]),0)]
set_option maxRecDepth 100000 in
theorem q121_ok : rf_chkB q121_P q121_U wLay q121_M ddX3_add [] [.inl 2,.inl 3] [0,5,27,43,55,61] 600 q121_N = true := by decide +kernel
set_option maxHeartbeats 4000000 in
theorem q121_met {G : rfG} (h : okG G) : rf_met G q121_M := rf_methodB h.1 (P := q121_P) (U := q121_U) (N := q121_N) ⟨wflT h flokX3, wcsT h csokX3, wlcT h lcokX3, spokX3 h, fun _ h => absurd h List.not_mem_nil, fun _ h => absurd h List.not_mem_nil, fun _ h => absurd h List.not_mem_nil, fun _ h => absurd h List.not_mem_nil, fun _ h => absurd h List.not_mem_nil⟩ dkX3_add (by decide +kernel) (by rw [h.2.2.1]; exact q121_ok)
/-- NearSpell.FormList.add -/
def q122_M : rfM := ((⟨"NearSpell$FormList", "add", "(I)V"⟩, prog_5_method_4_code, 4, none), (0,0), ([.inr (.inl [46]),.inl (((-2147483648),2147483647,1),none)],[]), [(45,0),(46,2)], [(none,[],[])])
def q122_P : rfP := (flX3,csX3,lcX3,spX3,[],[],[],([],[]))
def q122_U : rfU := [(.inr (46,1),[(0,21),(22,22)])]
set_option maxHeartbeats 8000000 in
def q122_N : List rfB := [(0,([(0,.inr (.inl [46])),(1,.inl (((-2147483648),2147483647,1),none))],[],[]),(992,[0,0]),1000000),
  (5,([(0,.inr (.inl [46])),(1,.inl (((-2147483648),2147483647,1),none)),(2,.inl ((0,21,1),none))],[],[((46,1),(0,21,1),none)]),(394,[13,0]),0),
  (5,([(0,.inr (.inl [46])),(1,.inl (((-2147483648),2147483647,1),none)),(2,.inl ((0,22,1),none))],[],[((46,1),(22,22,1),none)]),(700,[13,0]),0),
  (27,([(0,.inr (.inl [46])),(1,.inl (((-2147483648),2147483647,1),none)),(2,.inl ((0,21,1),none))],[],[((46,1),(0,21,1),none)]),(383,[0,0]),0),
  (27,([(0,.inr (.inl [46])),(1,.inl (((-2147483648),2147483647,1),none)),(2,.inl ((0,22,1),none))],[],[((46,1),(22,22,1),none)]),(689,[0,0]),0),
  (43,([(0,.inr (.inl [46])),(1,.inl (((-2147483648),2147483647,1),none)),(2,.inl ((0,21,1),none))],[],[((46,1),(0,21,1),none)]),(372,[0,0]),0),
  (43,([(0,.inr (.inl [46])),(1,.inl (((-2147483648),2147483647,1),none)),(2,.inl ((0,22,1),none))],[],[((46,1),(22,22,1),none)]),(679,[0,0]),0),
  (55,([(0,.inr (.inl [46])),(1,.inl (((-2147483648),2147483647,1),none)),(2,.inl ((1,21,1),none))],[],[((46,1),(0,21,1),none)]),(373,[0,0]),0),
  (55,([(0,.inr (.inl [46])),(1,.inl (((-2147483648),2147483647,1),none)),(2,.inl ((0,22,1),none))],[],[((46,1),(22,22,1),none)]),(673,[0,0]),0),
  (61,([(0,.inr (.inl [46])),(1,.inl (((-2147483648),2147483647,1),none)),(2,.inl ((0,21,1),none)),(3,.inl ((0,21,1),none))],[],[((46,1),(0,21,1),none)]),(25,[0,16]),0)]
set_option maxRecDepth 100000 in
theorem q122_ok : rf_chkB q122_P q122_U wLay q122_M ddX3_add [] [.inl 2,.inl 3] [0,5,27,43,55,61] 600 q122_N = true := by decide +kernel
set_option maxHeartbeats 4000000 in
theorem q122_met {G : rfG} (h : okG G) : rf_met G q122_M := rf_methodB h.1 (P := q122_P) (U := q122_U) (N := q122_N) ⟨wflT h flokX3, wcsT h csokX3, wlcT h lcokX3, spokX3 h, fun _ h => absurd h List.not_mem_nil, fun _ h => absurd h List.not_mem_nil, fun _ h => absurd h List.not_mem_nil, fun _ h => absurd h List.not_mem_nil, fun _ h => absurd h List.not_mem_nil⟩ dkX3_add (by decide +kernel) (by rw [h.2.2.1]; exact q122_ok)
/-- NearSpell.FormList.add -/
def q123_M : rfM := ((⟨"NearSpell$FormList", "add", "(I)V"⟩, prog_5_method_4_code, 4, none), (0,0), ([.inr (.inl [48]),.inl (((-2147483648),2147483647,1),none)],[]), [(47,0),(48,2)], [(none,[],[])])
def q123_P : rfP := (flX3,csX3,lcX3,spX3,[],[],[],([],[]))
def q123_U : rfU := [(.inr (48,1),[(0,21),(22,22)])]
set_option maxHeartbeats 8000000 in
def q123_N : List rfB := [(0,([(0,.inr (.inl [48])),(1,.inl (((-2147483648),2147483647,1),none))],[],[]),(992,[0,0]),1000000),
  (5,([(0,.inr (.inl [48])),(1,.inl (((-2147483648),2147483647,1),none)),(2,.inl ((0,22,1),none))],[],[((48,1),(22,22,1),none)]),(700,[13,0]),0),
  (5,([(0,.inr (.inl [48])),(1,.inl (((-2147483648),2147483647,1),none)),(2,.inl ((0,21,1),none))],[],[((48,1),(0,21,1),none)]),(394,[13,0]),0),
  (27,([(0,.inr (.inl [48])),(1,.inl (((-2147483648),2147483647,1),none)),(2,.inl ((0,21,1),none))],[],[((48,1),(0,21,1),none)]),(383,[0,0]),0),
  (27,([(0,.inr (.inl [48])),(1,.inl (((-2147483648),2147483647,1),none)),(2,.inl ((0,22,1),none))],[],[((48,1),(22,22,1),none)]),(689,[0,0]),0),
  (43,([(0,.inr (.inl [48])),(1,.inl (((-2147483648),2147483647,1),none)),(2,.inl ((0,21,1),none))],[],[((48,1),(0,21,1),none)]),(372,[0,0]),0),
  (43,([(0,.inr (.inl [48])),(1,.inl (((-2147483648),2147483647,1),none)),(2,.inl ((0,22,1),none))],[],[((48,1),(22,22,1),none)]),(679,[0,0]),0),
  (55,([(0,.inr (.inl [48])),(1,.inl (((-2147483648),2147483647,1),none)),(2,.inl ((1,21,1),none))],[],[((48,1),(0,21,1),none)]),(373,[0,0]),0),
  (55,([(0,.inr (.inl [48])),(1,.inl (((-2147483648),2147483647,1),none)),(2,.inl ((0,22,1),none))],[],[((48,1),(22,22,1),none)]),(673,[0,0]),0),
  (61,([(0,.inr (.inl [48])),(1,.inl (((-2147483648),2147483647,1),none)),(2,.inl ((0,21,1),none)),(3,.inl ((0,21,1),none))],[],[((48,1),(0,21,1),none)]),(25,[0,16]),0)]
set_option maxRecDepth 100000 in
theorem q123_ok : rf_chkB q123_P q123_U wLay q123_M ddX3_add [] [.inl 2,.inl 3] [0,5,27,43,55,61] 600 q123_N = true := by decide +kernel
set_option maxHeartbeats 4000000 in
theorem q123_met {G : rfG} (h : okG G) : rf_met G q123_M := rf_methodB h.1 (P := q123_P) (U := q123_U) (N := q123_N) ⟨wflT h flokX3, wcsT h csokX3, wlcT h lcokX3, spokX3 h, fun _ h => absurd h List.not_mem_nil, fun _ h => absurd h List.not_mem_nil, fun _ h => absurd h List.not_mem_nil, fun _ h => absurd h List.not_mem_nil, fun _ h => absurd h List.not_mem_nil⟩ dkX3_add (by decide +kernel) (by rw [h.2.2.1]; exact q123_ok)
/-- NearSpell.FormList.add -/
def q124_M : rfM := ((⟨"NearSpell$FormList", "add", "(I)V"⟩, prog_5_method_4_code, 4, none), (0,0), ([.inr (.inl [38]),.inl (((-2147483648),2147483647,1),none)],[]), [(37,0),(38,2)], [(none,[],[])])
def q124_P : rfP := (flX3,csX3,lcX3,spX3,[],[],[],([],[]))
def q124_U : rfU := [(.inr (38,1),[(0,21),(22,22)])]
set_option maxHeartbeats 8000000 in
def q124_N : List rfB := [(0,([(0,.inr (.inl [38])),(1,.inl (((-2147483648),2147483647,1),none))],[],[]),(992,[0,0]),1000000),
  (5,([(0,.inr (.inl [38])),(1,.inl (((-2147483648),2147483647,1),none)),(2,.inl ((0,21,1),none))],[],[((38,1),(0,21,1),none)]),(394,[13,0]),0),
  (5,([(0,.inr (.inl [38])),(1,.inl (((-2147483648),2147483647,1),none)),(2,.inl ((0,22,1),none))],[],[((38,1),(22,22,1),none)]),(700,[13,0]),0),
  (27,([(0,.inr (.inl [38])),(1,.inl (((-2147483648),2147483647,1),none)),(2,.inl ((0,21,1),none))],[],[((38,1),(0,21,1),none)]),(383,[0,0]),0),
  (27,([(0,.inr (.inl [38])),(1,.inl (((-2147483648),2147483647,1),none)),(2,.inl ((0,22,1),none))],[],[((38,1),(22,22,1),none)]),(689,[0,0]),0),
  (43,([(0,.inr (.inl [38])),(1,.inl (((-2147483648),2147483647,1),none)),(2,.inl ((0,21,1),none))],[],[((38,1),(0,21,1),none)]),(372,[0,0]),0),
  (43,([(0,.inr (.inl [38])),(1,.inl (((-2147483648),2147483647,1),none)),(2,.inl ((0,22,1),none))],[],[((38,1),(22,22,1),none)]),(679,[0,0]),0),
  (55,([(0,.inr (.inl [38])),(1,.inl (((-2147483648),2147483647,1),none)),(2,.inl ((1,21,1),none))],[],[((38,1),(0,21,1),none)]),(373,[0,0]),0),
  (55,([(0,.inr (.inl [38])),(1,.inl (((-2147483648),2147483647,1),none)),(2,.inl ((0,22,1),none))],[],[((38,1),(22,22,1),none)]),(673,[0,0]),0),
  (61,([(0,.inr (.inl [38])),(1,.inl (((-2147483648),2147483647,1),none)),(2,.inl ((0,21,1),none)),(3,.inl ((0,21,1),none))],[],[((38,1),(0,21,1),none)]),(25,[0,16]),0)]
set_option maxRecDepth 100000 in
theorem q124_ok : rf_chkB q124_P q124_U wLay q124_M ddX3_add [] [.inl 2,.inl 3] [0,5,27,43,55,61] 600 q124_N = true := by decide +kernel
set_option maxHeartbeats 4000000 in
theorem q124_met {G : rfG} (h : okG G) : rf_met G q124_M := rf_methodB h.1 (P := q124_P) (U := q124_U) (N := q124_N) ⟨wflT h flokX3, wcsT h csokX3, wlcT h lcokX3, spokX3 h, fun _ h => absurd h List.not_mem_nil, fun _ h => absurd h List.not_mem_nil, fun _ h => absurd h List.not_mem_nil, fun _ h => absurd h List.not_mem_nil, fun _ h => absurd h List.not_mem_nil⟩ dkX3_add (by decide +kernel) (by rw [h.2.2.1]; exact q124_ok)
/-- NearSpell.FormList.add -/
def q125_M : rfM := ((⟨"NearSpell$FormList", "add", "(I)V"⟩, prog_5_method_4_code, 4, none), (0,0), ([.inr (.inl [30]),.inl (((-2147483648),2147483647,1),none)],[]), [(29,0),(30,2)], [(none,[],[])])
def q125_P : rfP := (flX3,csX3,lcX3,spX3,[],[],[],([],[]))
def q125_U : rfU := [(.inr (30,1),[(0,21),(22,22)])]
set_option maxHeartbeats 8000000 in
def q125_N : List rfB := [(0,([(0,.inr (.inl [30])),(1,.inl (((-2147483648),2147483647,1),none))],[],[]),(992,[0,0]),1000000),
  (5,([(0,.inr (.inl [30])),(1,.inl (((-2147483648),2147483647,1),none)),(2,.inl ((0,21,1),none))],[],[((30,1),(0,21,1),none)]),(394,[13,0]),0),
  (5,([(0,.inr (.inl [30])),(1,.inl (((-2147483648),2147483647,1),none)),(2,.inl ((0,22,1),none))],[],[((30,1),(22,22,1),none)]),(700,[13,0]),0),
  (27,([(0,.inr (.inl [30])),(1,.inl (((-2147483648),2147483647,1),none)),(2,.inl ((0,21,1),none))],[],[((30,1),(0,21,1),none)]),(383,[0,0]),0),
  (27,([(0,.inr (.inl [30])),(1,.inl (((-2147483648),2147483647,1),none)),(2,.inl ((0,22,1),none))],[],[((30,1),(22,22,1),none)]),(689,[0,0]),0),
  (43,([(0,.inr (.inl [30])),(1,.inl (((-2147483648),2147483647,1),none)),(2,.inl ((0,21,1),none))],[],[((30,1),(0,21,1),none)]),(372,[0,0]),0),
  (43,([(0,.inr (.inl [30])),(1,.inl (((-2147483648),2147483647,1),none)),(2,.inl ((0,22,1),none))],[],[((30,1),(22,22,1),none)]),(679,[0,0]),0),
  (55,([(0,.inr (.inl [30])),(1,.inl (((-2147483648),2147483647,1),none)),(2,.inl ((1,21,1),none))],[],[((30,1),(0,21,1),none)]),(373,[0,0]),0),
  (55,([(0,.inr (.inl [30])),(1,.inl (((-2147483648),2147483647,1),none)),(2,.inl ((0,22,1),none))],[],[((30,1),(22,22,1),none)]),(673,[0,0]),0),
  (61,([(0,.inr (.inl [30])),(1,.inl (((-2147483648),2147483647,1),none)),(2,.inl ((0,21,1),none)),(3,.inl ((0,21,1),none))],[],[((30,1),(0,21,1),none)]),(25,[0,16]),0)]
set_option maxRecDepth 100000 in
theorem q125_ok : rf_chkB q125_P q125_U wLay q125_M ddX3_add [] [.inl 2,.inl 3] [0,5,27,43,55,61] 600 q125_N = true := by decide +kernel
set_option maxHeartbeats 4000000 in
theorem q125_met {G : rfG} (h : okG G) : rf_met G q125_M := rf_methodB h.1 (P := q125_P) (U := q125_U) (N := q125_N) ⟨wflT h flokX3, wcsT h csokX3, wlcT h lcokX3, spokX3 h, fun _ h => absurd h List.not_mem_nil, fun _ h => absurd h List.not_mem_nil, fun _ h => absurd h List.not_mem_nil, fun _ h => absurd h List.not_mem_nil, fun _ h => absurd h List.not_mem_nil⟩ dkX3_add (by decide +kernel) (by rw [h.2.2.1]; exact q125_ok)
/-- NearSpell.FormList.add -/
def q126_M : rfM := ((⟨"NearSpell$FormList", "add", "(I)V"⟩, prog_5_method_4_code, 4, none), (0,0), ([.inr (.inl [28]),.inl (((-2147483648),2147483647,1),none)],[]), [(27,0),(28,2)], [(none,[],[])])
def q126_P : rfP := (flX3,csX3,lcX3,spX3,[],[],[],([],[]))
def q126_U : rfU := [(.inr (28,1),[(0,21),(22,22)])]
set_option maxHeartbeats 8000000 in
def q126_N : List rfB := [(0,([(0,.inr (.inl [28])),(1,.inl (((-2147483648),2147483647,1),none))],[],[]),(992,[0,0]),1000000),
  (5,([(0,.inr (.inl [28])),(1,.inl (((-2147483648),2147483647,1),none)),(2,.inl ((0,22,1),none))],[],[((28,1),(22,22,1),none)]),(700,[13,0]),0),
  (5,([(0,.inr (.inl [28])),(1,.inl (((-2147483648),2147483647,1),none)),(2,.inl ((0,21,1),none))],[],[((28,1),(0,21,1),none)]),(394,[13,0]),0),
  (27,([(0,.inr (.inl [28])),(1,.inl (((-2147483648),2147483647,1),none)),(2,.inl ((0,21,1),none))],[],[((28,1),(0,21,1),none)]),(383,[0,0]),0),
  (27,([(0,.inr (.inl [28])),(1,.inl (((-2147483648),2147483647,1),none)),(2,.inl ((0,22,1),none))],[],[((28,1),(22,22,1),none)]),(689,[0,0]),0),
  (43,([(0,.inr (.inl [28])),(1,.inl (((-2147483648),2147483647,1),none)),(2,.inl ((0,21,1),none))],[],[((28,1),(0,21,1),none)]),(372,[0,0]),0),
  (43,([(0,.inr (.inl [28])),(1,.inl (((-2147483648),2147483647,1),none)),(2,.inl ((0,22,1),none))],[],[((28,1),(22,22,1),none)]),(679,[0,0]),0),
  (55,([(0,.inr (.inl [28])),(1,.inl (((-2147483648),2147483647,1),none)),(2,.inl ((1,21,1),none))],[],[((28,1),(0,21,1),none)]),(373,[0,0]),0),
  (55,([(0,.inr (.inl [28])),(1,.inl (((-2147483648),2147483647,1),none)),(2,.inl ((0,22,1),none))],[],[((28,1),(22,22,1),none)]),(673,[0,0]),0),
  (61,([(0,.inr (.inl [28])),(1,.inl (((-2147483648),2147483647,1),none)),(2,.inl ((0,21,1),none)),(3,.inl ((0,21,1),none))],[],[((28,1),(0,21,1),none)]),(25,[0,16]),0)]
set_option maxRecDepth 100000 in
theorem q126_ok : rf_chkB q126_P q126_U wLay q126_M ddX3_add [] [.inl 2,.inl 3] [0,5,27,43,55,61] 600 q126_N = true := by decide +kernel
set_option maxHeartbeats 4000000 in
theorem q126_met {G : rfG} (h : okG G) : rf_met G q126_M := rf_methodB h.1 (P := q126_P) (U := q126_U) (N := q126_N) ⟨wflT h flokX3, wcsT h csokX3, wlcT h lcokX3, spokX3 h, fun _ h => absurd h List.not_mem_nil, fun _ h => absurd h List.not_mem_nil, fun _ h => absurd h List.not_mem_nil, fun _ h => absurd h List.not_mem_nil, fun _ h => absurd h List.not_mem_nil⟩ dkX3_add (by decide +kernel) (by rw [h.2.2.1]; exact q126_ok)
/-- NearSpell.FormList.add -/
def q127_M : rfM := ((⟨"NearSpell$FormList", "add", "(I)V"⟩, prog_5_method_4_code, 4, none), (0,0), ([.inr (.inl [36]),.inl (((-2147483648),2147483647,1),none)],[]), [(35,0),(36,2)], [(none,[],[])])
def q127_P : rfP := (flX3,csX3,lcX3,spX3,[],[],[],([],[]))
def q127_U : rfU := [(.inr (36,1),[(0,21),(22,22)])]
set_option maxHeartbeats 8000000 in
def q127_N : List rfB := [(0,([(0,.inr (.inl [36])),(1,.inl (((-2147483648),2147483647,1),none))],[],[]),(992,[0,0]),1000000),
  (5,([(0,.inr (.inl [36])),(1,.inl (((-2147483648),2147483647,1),none)),(2,.inl ((0,22,1),none))],[],[((36,1),(22,22,1),none)]),(700,[13,0]),0),
  (5,([(0,.inr (.inl [36])),(1,.inl (((-2147483648),2147483647,1),none)),(2,.inl ((0,21,1),none))],[],[((36,1),(0,21,1),none)]),(394,[13,0]),0),
  (27,([(0,.inr (.inl [36])),(1,.inl (((-2147483648),2147483647,1),none)),(2,.inl ((0,21,1),none))],[],[((36,1),(0,21,1),none)]),(383,[0,0]),0),
  (27,([(0,.inr (.inl [36])),(1,.inl (((-2147483648),2147483647,1),none)),(2,.inl ((0,22,1),none))],[],[((36,1),(22,22,1),none)]),(689,[0,0]),0),
  (43,([(0,.inr (.inl [36])),(1,.inl (((-2147483648),2147483647,1),none)),(2,.inl ((0,21,1),none))],[],[((36,1),(0,21,1),none)]),(372,[0,0]),0),
  (43,([(0,.inr (.inl [36])),(1,.inl (((-2147483648),2147483647,1),none)),(2,.inl ((0,22,1),none))],[],[((36,1),(22,22,1),none)]),(679,[0,0]),0),
  (55,([(0,.inr (.inl [36])),(1,.inl (((-2147483648),2147483647,1),none)),(2,.inl ((1,21,1),none))],[],[((36,1),(0,21,1),none)]),(373,[0,0]),0),
  (55,([(0,.inr (.inl [36])),(1,.inl (((-2147483648),2147483647,1),none)),(2,.inl ((0,22,1),none))],[],[((36,1),(22,22,1),none)]),(673,[0,0]),0),
  (61,([(0,.inr (.inl [36])),(1,.inl (((-2147483648),2147483647,1),none)),(2,.inl ((0,21,1),none)),(3,.inl ((0,21,1),none))],[],[((36,1),(0,21,1),none)]),(25,[0,16]),0)]
set_option maxRecDepth 100000 in
theorem q127_ok : rf_chkB q127_P q127_U wLay q127_M ddX3_add [] [.inl 2,.inl 3] [0,5,27,43,55,61] 600 q127_N = true := by decide +kernel
set_option maxHeartbeats 4000000 in
theorem q127_met {G : rfG} (h : okG G) : rf_met G q127_M := rf_methodB h.1 (P := q127_P) (U := q127_U) (N := q127_N) ⟨wflT h flokX3, wcsT h csokX3, wlcT h lcokX3, spokX3 h, fun _ h => absurd h List.not_mem_nil, fun _ h => absurd h List.not_mem_nil, fun _ h => absurd h List.not_mem_nil, fun _ h => absurd h List.not_mem_nil, fun _ h => absurd h List.not_mem_nil⟩ dkX3_add (by decide +kernel) (by rw [h.2.2.1]; exact q127_ok)
/-- NearSpell.without -/
def q128_M : rfM := ((⟨"NearSpell", "without", "(II)I"⟩, prog_1_method_56_code, 2, (some .int)), (0,0), ([.inl (((-2147483648),2147483647,1),none),.inl ((0,0,0),none)],[]), [], [(some (.inl (((-79536431),79536431,1),none)),[],[])])
def ddX11_without : List (Nat × Instr × Nat) := [(0,.iload_n 1,1),(1,.ifCond .lt 9,3),(4,.iload_n 1,1),(5,.bipush 6,2),(7,.if_icmp .lt 5,3),(10,.iload_n 0,1),(11,.ireturn,1),(12,.iload_n 0,1),(13,.getstatic 360,3),(16,.iload_n 1,1),(17,.iconst 1,1),(18,.iadd,1),(19,.iaload,1),(20,.idiv,1),(21,.getstatic 360,3),(24,.iload_n 1,1),(25,.iaload,1),(26,.imul,1),(27,.iload_n 0,1),(28,.getstatic 360,3),(31,.iload_n 1,1),(32,.iaload,1),(33,.irem,1),(34,.iadd,1),(35,.ireturn,1)]
set_option maxRecDepth 100000 in
theorem dkX11_without : rf_decs prog_1_method_56_code ddX11_without := rf_decs_of (by decide +kernel)
def q128_P : rfP := (flX11,csX11,lcX11,spX11,[],[],[],([],[]))
def q128_U : rfU := []
set_option maxHeartbeats 8000000 in
def q128_N : List rfB := [(0,([(0,.inl (((-2147483648),2147483647,1),none)),(1,.inl ((0,0,0),none))],[],[]),(22,[]),0)]
set_option maxRecDepth 100000 in
theorem q128_ok : rf_chkB q128_P q128_U wLay q128_M ddX11_without [] [] [0] 600 q128_N = true := by decide +kernel
set_option maxHeartbeats 4000000 in
theorem q128_met {G : rfG} (h : okG G) : rf_met G q128_M := rf_methodB h.1 (P := q128_P) (U := q128_U) (N := q128_N) ⟨wflT h flokX11, wcsT h csokX11, wlcT h lcokX11, spokX11 h, fun _ h => absurd h List.not_mem_nil, fun _ h => absurd h List.not_mem_nil, fun _ h => absurd h List.not_mem_nil, fun _ h => absurd h List.not_mem_nil, fun _ h => absurd h List.not_mem_nil⟩ dkX11_without (by decide +kernel) (by rw [h.2.2.1]; exact q128_ok)
/-- NearSpell.FormList.add -/
def q129_M : rfM := ((⟨"NearSpell$FormList", "add", "(I)V"⟩, prog_5_method_4_code, 4, none), (0,0), ([.inr (.inl [40]),.inl (((-2147483648),387420488,1),none)],[]), [(39,0),(40,2)], [(none,[],[])])
def q129_P : rfP := (flX3,csX3,lcX3,spX3,[],[],[],([],[]))
def q129_U : rfU := [(.inr (40,1),[(0,21),(22,22)])]
set_option maxHeartbeats 8000000 in
def q129_N : List rfB := [(0,([(0,.inr (.inl [40])),(1,.inl (((-2147483648),387420488,1),none))],[],[]),(992,[0,0]),1000000),
  (5,([(0,.inr (.inl [40])),(1,.inl (((-2147483648),387420488,1),none)),(2,.inl ((0,21,1),none))],[],[((40,1),(0,21,1),none)]),(394,[13,0]),0),
  (5,([(0,.inr (.inl [40])),(1,.inl (((-2147483648),387420488,1),none)),(2,.inl ((0,22,1),none))],[],[((40,1),(22,22,1),none)]),(700,[13,0]),0),
  (27,([(0,.inr (.inl [40])),(1,.inl (((-2147483648),387420488,1),none)),(2,.inl ((0,21,1),none))],[],[((40,1),(0,21,1),none)]),(383,[0,0]),0),
  (27,([(0,.inr (.inl [40])),(1,.inl (((-2147483648),387420488,1),none)),(2,.inl ((0,22,1),none))],[],[((40,1),(22,22,1),none)]),(689,[0,0]),0),
  (43,([(0,.inr (.inl [40])),(1,.inl (((-2147483648),387420488,1),none)),(2,.inl ((0,21,1),none))],[],[((40,1),(0,21,1),none)]),(372,[0,0]),0),
  (43,([(0,.inr (.inl [40])),(1,.inl (((-2147483648),387420488,1),none)),(2,.inl ((0,22,1),none))],[],[((40,1),(22,22,1),none)]),(679,[0,0]),0),
  (55,([(0,.inr (.inl [40])),(1,.inl (((-2147483648),387420488,1),none)),(2,.inl ((1,21,1),none))],[],[((40,1),(0,21,1),none)]),(373,[0,0]),0),
  (55,([(0,.inr (.inl [40])),(1,.inl (((-2147483648),387420488,1),none)),(2,.inl ((0,22,1),none))],[],[((40,1),(22,22,1),none)]),(673,[0,0]),0),
  (61,([(0,.inr (.inl [40])),(1,.inl (((-2147483648),387420488,1),none)),(2,.inl ((0,21,1),none)),(3,.inl ((0,21,1),none))],[],[((40,1),(0,21,1),none)]),(25,[0,16]),0)]
set_option maxRecDepth 100000 in
theorem q129_ok : rf_chkB q129_P q129_U wLay q129_M ddX3_add [] [.inl 2,.inl 3] [0,5,27,43,55,61] 600 q129_N = true := by decide +kernel
set_option maxHeartbeats 4000000 in
theorem q129_met {G : rfG} (h : okG G) : rf_met G q129_M := rf_methodB h.1 (P := q129_P) (U := q129_U) (N := q129_N) ⟨wflT h flokX3, wcsT h csokX3, wlcT h lcokX3, spokX3 h, fun _ h => absurd h List.not_mem_nil, fun _ h => absurd h List.not_mem_nil, fun _ h => absurd h List.not_mem_nil, fun _ h => absurd h List.not_mem_nil, fun _ h => absurd h List.not_mem_nil⟩ dkX3_add (by decide +kernel) (by rw [h.2.2.1]; exact q129_ok)
/-- NearSpell.without -/
def q130_M : rfM := ((⟨"NearSpell", "without", "(II)I"⟩, prog_1_method_56_code, 2, (some .int)), (0,0), ([.inl (((-2147483648),387420488,1),none),.inl ((0,0,0),none)],[]), [], [(some (.inl (((-79536431),14348906,1),none)),[],[])])
def q130_P : rfP := (flX11,csX11,lcX11,spX11,[],[],[],([],[]))
def q130_U : rfU := []
set_option maxHeartbeats 8000000 in
def q130_N : List rfB := [(0,([(0,.inl (((-2147483648),387420488,1),none)),(1,.inl ((0,0,0),none))],[],[]),(22,[]),0)]
set_option maxRecDepth 100000 in
theorem q130_ok : rf_chkB q130_P q130_U wLay q130_M ddX11_without [] [] [0] 600 q130_N = true := by decide +kernel
set_option maxHeartbeats 4000000 in
theorem q130_met {G : rfG} (h : okG G) : rf_met G q130_M := rf_methodB h.1 (P := q130_P) (U := q130_U) (N := q130_N) ⟨wflT h flokX11, wcsT h csokX11, wlcT h lcokX11, spokX11 h, fun _ h => absurd h List.not_mem_nil, fun _ h => absurd h List.not_mem_nil, fun _ h => absurd h List.not_mem_nil, fun _ h => absurd h List.not_mem_nil, fun _ h => absurd h List.not_mem_nil⟩ dkX11_without (by decide +kernel) (by rw [h.2.2.1]; exact q130_ok)
/-- NearSpell.without -/
def q131_M : rfM := ((⟨"NearSpell", "without", "(II)I"⟩, prog_1_method_56_code, 2, (some .int)), (0,0), ([.inl (((-2147483648),387420488,1),none),.inl ((0,1,1),none)],[]), [], [(some (.inl (((-2147483648),2147483647,1),none)),[],[])])
def q131_P : rfP := (flX11,csX11,lcX11,spX11,[],[],[],([],[]))
def q131_U : rfU := []
set_option maxHeartbeats 8000000 in
def q131_N : List rfB := [(0,([(0,.inl (((-2147483648),387420488,1),none)),(1,.inl ((0,1,1),none))],[],[]),(22,[]),0)]
set_option maxRecDepth 100000 in
theorem q131_ok : rf_chkB q131_P q131_U wLay q131_M ddX11_without [] [] [0] 600 q131_N = true := by decide +kernel
set_option maxHeartbeats 4000000 in
theorem q131_met {G : rfG} (h : okG G) : rf_met G q131_M := rf_methodB h.1 (P := q131_P) (U := q131_U) (N := q131_N) ⟨wflT h flokX11, wcsT h csokX11, wlcT h lcokX11, spokX11 h, fun _ h => absurd h List.not_mem_nil, fun _ h => absurd h List.not_mem_nil, fun _ h => absurd h List.not_mem_nil, fun _ h => absurd h List.not_mem_nil, fun _ h => absurd h List.not_mem_nil⟩ dkX11_without (by decide +kernel) (by rw [h.2.2.1]; exact q131_ok)
/-- NearSpell.without -/
def q132_M : rfM := ((⟨"NearSpell", "without", "(II)I"⟩, prog_1_method_56_code, 2, (some .int)), (0,0), ([.inl (((-2147483648),387420488,1),none),.inl ((0,2,1),none)],[]), [], [(some (.inl (((-2147483648),2147483647,1),none)),[],[])])
def q132_P : rfP := (flX11,csX11,lcX11,spX11,[],[],[],([],[]))
def q132_U : rfU := []
set_option maxHeartbeats 8000000 in
def q132_N : List rfB := [(0,([(0,.inl (((-2147483648),387420488,1),none)),(1,.inl ((0,2,1),none))],[],[]),(22,[]),0)]
set_option maxRecDepth 100000 in
theorem q132_ok : rf_chkB q132_P q132_U wLay q132_M ddX11_without [] [] [0] 600 q132_N = true := by decide +kernel
set_option maxHeartbeats 4000000 in
theorem q132_met {G : rfG} (h : okG G) : rf_met G q132_M := rf_methodB h.1 (P := q132_P) (U := q132_U) (N := q132_N) ⟨wflT h flokX11, wcsT h csokX11, wlcT h lcokX11, spokX11 h, fun _ h => absurd h List.not_mem_nil, fun _ h => absurd h List.not_mem_nil, fun _ h => absurd h List.not_mem_nil, fun _ h => absurd h List.not_mem_nil, fun _ h => absurd h List.not_mem_nil⟩ dkX11_without (by decide +kernel) (by rw [h.2.2.1]; exact q132_ok)
/-- NearSpell.without -/
def q133_M : rfM := ((⟨"NearSpell", "without", "(II)I"⟩, prog_1_method_56_code, 2, (some .int)), (0,0), ([.inl (((-2147483648),387420488,1),none),.inl ((0,3,1),none)],[]), [], [(some (.inl (((-2147483648),2147483647,1),none)),[],[])])
def q133_P : rfP := (flX11,csX11,lcX11,spX11,[],[],[],([],[]))
def q133_U : rfU := []
set_option maxHeartbeats 8000000 in
def q133_N : List rfB := [(0,([(0,.inl (((-2147483648),387420488,1),none)),(1,.inl ((0,3,1),none))],[],[]),(22,[]),0)]
set_option maxRecDepth 100000 in
theorem q133_ok : rf_chkB q133_P q133_U wLay q133_M ddX11_without [] [] [0] 600 q133_N = true := by decide +kernel
set_option maxHeartbeats 4000000 in
theorem q133_met {G : rfG} (h : okG G) : rf_met G q133_M := rf_methodB h.1 (P := q133_P) (U := q133_U) (N := q133_N) ⟨wflT h flokX11, wcsT h csokX11, wlcT h lcokX11, spokX11 h, fun _ h => absurd h List.not_mem_nil, fun _ h => absurd h List.not_mem_nil, fun _ h => absurd h List.not_mem_nil, fun _ h => absurd h List.not_mem_nil, fun _ h => absurd h List.not_mem_nil⟩ dkX11_without (by decide +kernel) (by rw [h.2.2.1]; exact q133_ok)
/-- NearSpell.without -/
def q134_M : rfM := ((⟨"NearSpell", "without", "(II)I"⟩, prog_1_method_56_code, 2, (some .int)), (0,0), ([.inl (((-2147483648),387420488,1),none),.inl ((0,4,1),none)],[]), [], [(some (.inl (((-2147483648),2147483647,1),none)),[],[])])
def q134_P : rfP := (flX11,csX11,lcX11,spX11,[],[],[],([],[]))
def q134_U : rfU := []
set_option maxHeartbeats 8000000 in
def q134_N : List rfB := [(0,([(0,.inl (((-2147483648),387420488,1),none)),(1,.inl ((0,4,1),none))],[],[]),(22,[]),0)]
set_option maxRecDepth 100000 in
theorem q134_ok : rf_chkB q134_P q134_U wLay q134_M ddX11_without [] [] [0] 600 q134_N = true := by decide +kernel
set_option maxHeartbeats 4000000 in
theorem q134_met {G : rfG} (h : okG G) : rf_met G q134_M := rf_methodB h.1 (P := q134_P) (U := q134_U) (N := q134_N) ⟨wflT h flokX11, wcsT h csokX11, wlcT h lcokX11, spokX11 h, fun _ h => absurd h List.not_mem_nil, fun _ h => absurd h List.not_mem_nil, fun _ h => absurd h List.not_mem_nil, fun _ h => absurd h List.not_mem_nil, fun _ h => absurd h List.not_mem_nil⟩ dkX11_without (by decide +kernel) (by rw [h.2.2.1]; exact q134_ok)
/-- NearSpell.without -/
def q135_M : rfM := ((⟨"NearSpell", "without", "(II)I"⟩, prog_1_method_56_code, 2, (some .int)), (0,0), ([.inl (((-2147483648),2147483647,1),none),.inl ((0,1,1),none)],[]), [], [(some (.inl (((-2147483648),2147483647,1),none)),[],[])])
def q135_P : rfP := (flX11,csX11,lcX11,spX11,[],[],[],([],[]))
def q135_U : rfU := []
set_option maxHeartbeats 8000000 in
def q135_N : List rfB := [(0,([(0,.inl (((-2147483648),2147483647,1),none)),(1,.inl ((0,1,1),none))],[],[]),(22,[]),0)]
set_option maxRecDepth 100000 in
theorem q135_ok : rf_chkB q135_P q135_U wLay q135_M ddX11_without [] [] [0] 600 q135_N = true := by decide +kernel
set_option maxHeartbeats 4000000 in
theorem q135_met {G : rfG} (h : okG G) : rf_met G q135_M := rf_methodB h.1 (P := q135_P) (U := q135_U) (N := q135_N) ⟨wflT h flokX11, wcsT h csokX11, wlcT h lcokX11, spokX11 h, fun _ h => absurd h List.not_mem_nil, fun _ h => absurd h List.not_mem_nil, fun _ h => absurd h List.not_mem_nil, fun _ h => absurd h List.not_mem_nil, fun _ h => absurd h List.not_mem_nil⟩ dkX11_without (by decide +kernel) (by rw [h.2.2.1]; exact q135_ok)
/-- NearSpell.without -/
def q136_M : rfM := ((⟨"NearSpell", "without", "(II)I"⟩, prog_1_method_56_code, 2, (some .int)), (0,0), ([.inl (((-2147483648),2147483647,1),none),.inl ((0,4,1),none)],[]), [], [(some (.inl (((-2147483648),2147483647,1),none)),[],[])])
def q136_P : rfP := (flX11,csX11,lcX11,spX11,[],[],[],([],[]))
def q136_U : rfU := []
set_option maxHeartbeats 8000000 in
def q136_N : List rfB := [(0,([(0,.inl (((-2147483648),2147483647,1),none)),(1,.inl ((0,4,1),none))],[],[]),(22,[]),0)]
set_option maxRecDepth 100000 in
theorem q136_ok : rf_chkB q136_P q136_U wLay q136_M ddX11_without [] [] [0] 600 q136_N = true := by decide +kernel
set_option maxHeartbeats 4000000 in
theorem q136_met {G : rfG} (h : okG G) : rf_met G q136_M := rf_methodB h.1 (P := q136_P) (U := q136_U) (N := q136_N) ⟨wflT h flokX11, wcsT h csokX11, wlcT h lcokX11, spokX11 h, fun _ h => absurd h List.not_mem_nil, fun _ h => absurd h List.not_mem_nil, fun _ h => absurd h List.not_mem_nil, fun _ h => absurd h List.not_mem_nil, fun _ h => absurd h List.not_mem_nil⟩ dkX11_without (by decide +kernel) (by rw [h.2.2.1]; exact q136_ok)
/-- NearSpell.without -/
def q137_M : rfM := ((⟨"NearSpell", "without", "(II)I"⟩, prog_1_method_56_code, 2, (some .int)), (0,0), ([.inl (((-2147483648),2147483647,1),none),.inl ((0,2,1),none)],[]), [], [(some (.inl (((-2147483648),2147483647,1),none)),[],[])])
def q137_P : rfP := (flX11,csX11,lcX11,spX11,[],[],[],([],[]))
def q137_U : rfU := []
set_option maxHeartbeats 8000000 in
def q137_N : List rfB := [(0,([(0,.inl (((-2147483648),2147483647,1),none)),(1,.inl ((0,2,1),none))],[],[]),(22,[]),0)]
set_option maxRecDepth 100000 in
theorem q137_ok : rf_chkB q137_P q137_U wLay q137_M ddX11_without [] [] [0] 600 q137_N = true := by decide +kernel
set_option maxHeartbeats 4000000 in
theorem q137_met {G : rfG} (h : okG G) : rf_met G q137_M := rf_methodB h.1 (P := q137_P) (U := q137_U) (N := q137_N) ⟨wflT h flokX11, wcsT h csokX11, wlcT h lcokX11, spokX11 h, fun _ h => absurd h List.not_mem_nil, fun _ h => absurd h List.not_mem_nil, fun _ h => absurd h List.not_mem_nil, fun _ h => absurd h List.not_mem_nil, fun _ h => absurd h List.not_mem_nil⟩ dkX11_without (by decide +kernel) (by rw [h.2.2.1]; exact q137_ok)
/-- NearSpell.without -/
def q138_M : rfM := ((⟨"NearSpell", "without", "(II)I"⟩, prog_1_method_56_code, 2, (some .int)), (0,0), ([.inl (((-2147483648),2147483647,1),none),.inl ((0,3,1),none)],[]), [], [(some (.inl (((-2147483648),2147483647,1),none)),[],[])])
def q138_P : rfP := (flX11,csX11,lcX11,spX11,[],[],[],([],[]))
def q138_U : rfU := []
set_option maxHeartbeats 8000000 in
def q138_N : List rfB := [(0,([(0,.inl (((-2147483648),2147483647,1),none)),(1,.inl ((0,3,1),none))],[],[]),(22,[]),0)]
set_option maxRecDepth 100000 in
theorem q138_ok : rf_chkB q138_P q138_U wLay q138_M ddX11_without [] [] [0] 600 q138_N = true := by decide +kernel
set_option maxHeartbeats 4000000 in
theorem q138_met {G : rfG} (h : okG G) : rf_met G q138_M := rf_methodB h.1 (P := q138_P) (U := q138_U) (N := q138_N) ⟨wflT h flokX11, wcsT h csokX11, wlcT h lcokX11, spokX11 h, fun _ h => absurd h List.not_mem_nil, fun _ h => absurd h List.not_mem_nil, fun _ h => absurd h List.not_mem_nil, fun _ h => absurd h List.not_mem_nil, fun _ h => absurd h List.not_mem_nil⟩ dkX11_without (by decide +kernel) (by rw [h.2.2.1]; exact q138_ok)
/-- NearSpell.without -/
def q139_M : rfM := ((⟨"NearSpell", "without", "(II)I"⟩, prog_1_method_56_code, 2, (some .int)), (0,0), ([.inl (((-2147483648),2147483647,1),none),.inl ((0,5,1),none)],[]), [], [(some (.inl (((-2147483648),2147483647,1),none)),[],[])])
def q139_P : rfP := (flX11,csX11,lcX11,spX11,[],[],[],([],[]))
def q139_U : rfU := []
set_option maxHeartbeats 8000000 in
def q139_N : List rfB := [(0,([(0,.inl (((-2147483648),2147483647,1),none)),(1,.inl ((0,5,1),none))],[],[]),(22,[]),0)]
set_option maxRecDepth 100000 in
theorem q139_ok : rf_chkB q139_P q139_U wLay q139_M ddX11_without [] [] [0] 600 q139_N = true := by decide +kernel
set_option maxHeartbeats 4000000 in
theorem q139_met {G : rfG} (h : okG G) : rf_met G q139_M := rf_methodB h.1 (P := q139_P) (U := q139_U) (N := q139_N) ⟨wflT h flokX11, wcsT h csokX11, wlcT h lcokX11, spokX11 h, fun _ h => absurd h List.not_mem_nil, fun _ h => absurd h List.not_mem_nil, fun _ h => absurd h List.not_mem_nil, fun _ h => absurd h List.not_mem_nil, fun _ h => absurd h List.not_mem_nil⟩ dkX11_without (by decide +kernel) (by rw [h.2.2.1]; exact q139_ok)
/-- NearSpell.FormList.shorten -/
def q140_M : rfM := ((⟨"NearSpell$FormList", "shorten", "(I)V"⟩, prog_5_method_3_code, 6, none), (1,23), ([.inr (.inl [40]),.inl (((-2147483648),2147483647,1),none)],[]), [(39,0),(40,2)], [(none,[],[])])
def ddX3_shorten : List (Nat × Instr × Nat) := [(0,.iload_n 1,1),(1,.invokestatic 39,3),(4,.istore_n 2,1),(5,.iconst 0,1),(6,.istore_n 3,1),(7,.iload_n 3,1),(8,.iload_n 2,1),(9,.if_icmp .ge 58,3),(12,.iload_n 1,1),(13,.iload_n 3,1),(14,.invokestatic 43,3),(17,.istore 4,2),(19,.aload_n 0,1),(20,.iload 4,2),(22,.invokevirtual 32,3),(25,.iconst 0,1),(26,.istore 5,2),(28,.aload_n 0,1),(29,.getfield 25,3),(32,.iconst 1,1),(33,.if_icmp .le 28,3),(36,.iload 5,2),(38,.iload_n 2,1),(39,.iconst 1,1),(40,.isub,1),(41,.if_icmp .ge 20,3),(44,.aload_n 0,1),(45,.iload 4,2),(47,.iload 5,2),(49,.invokestatic 43,3),(52,.invokevirtual 32,3),(55,.iinc 5 1,3),(58,.goto (-30),3),(61,.iinc 3 1,3),(64,.goto (-57),3),(67,.return_,1)]
set_option maxRecDepth 100000 in
theorem dkX3_shorten : rf_decs prog_5_method_3_code ddX3_shorten := rf_decs_of (by decide +kernel)
def q140_P : rfP := (flX3,csX3,lcX3,spX3,[q111_M,q136_M,q114_M,q139_M],[(39,0),(43,1),(43,3)],[(32,2,3)],([],[]))
def q140_U : rfU := []
set_option maxHeartbeats 8000000 in
def q140_N : List rfB := [(0,([(0,.inr (.inl [40])),(1,.inl (((-2147483648),2147483647,1),none))],[],[]),(2852,[0,0]),0),
  (7,([(0,.inr (.inl [40])),(1,.inl (((-2147483648),2147483647,1),none)),(2,.inl ((0,6,1),none)),(3,.inl ((0,12,1),none))],[],[]),(2845,[(-219),0]),0),
  (28,([(0,.inr (.inl [40])),(1,.inl (((-2147483648),2147483647,1),none)),(2,.inl ((1,6,1),none)),(3,.inl ((0,11,1),none)),(4,.inl (((-2147483648),2147483647,1),none)),(5,.inl ((0,11,1),none))],[],[]),(2831,[(-219),(-17)]),0),
  (61,([(0,.inr (.inl [40])),(1,.inl (((-2147483648),2147483647,1),none)),(2,.inl ((1,6,1),none)),(3,.inl ((0,11,1),none)),(4,.inl (((-2147483648),2147483647,1),none)),(5,.inl ((0,11,1),none))],[],[]),(2629,[(-219),0]),0)]
set_option maxRecDepth 100000 in
theorem q140_ok : rf_chkB q140_P q140_U wLay q140_M ddX3_shorten [(1,[0]),(14,[3]),(22,[2]),(49,[1]),(52,[2])] [.inl 3,.inl 5] [0,7,28,61] 600 q140_N = true := by decide +kernel
set_option maxHeartbeats 4000000 in
theorem q140_met {G : rfG} (h : okG G) : rf_met G q140_M := rf_methodB h.1 (P := q140_P) (U := q140_U) (N := q140_N) ⟨wflT h flokX3, wcsT h csokX3, wlcT h lcokX3, spokX3 h, List.forall_mem_cons.mpr ⟨q111_met h, List.forall_mem_cons.mpr ⟨q136_met h, List.forall_mem_cons.mpr ⟨q114_met h, List.forall_mem_cons.mpr ⟨q139_met h, fun _ h => absurd h List.not_mem_nil⟩⟩⟩⟩, List.forall_mem_cons.mpr ⟨fun M hM => Option.some.inj (show some q111_M = some M from hM) ▸ wlkS (lkX3_39 h) q111_M rfl rfl, List.forall_mem_cons.mpr ⟨fun M hM => Option.some.inj (show some q136_M = some M from hM) ▸ wlkS (lkX3_43 h) q136_M rfl rfl, List.forall_mem_cons.mpr ⟨fun M hM => Option.some.inj (show some q139_M = some M from hM) ▸ wlkS (lkX3_43 h) q139_M rfl rfl, fun _ h => absurd h List.not_mem_nil⟩⟩⟩, List.forall_mem_cons.mpr ⟨fun M hM => Option.some.inj (show some q114_M = some M from hM) ▸ wlkV (lkX3_32 h) q114_M rfl rfl, fun _ h => absurd h List.not_mem_nil⟩, fun _ h => absurd h List.not_mem_nil, fun _ h => absurd h List.not_mem_nil⟩ dkX3_shorten (by decide +kernel) (by rw [h.2.2.1]; exact q140_ok)
/-- NearSpell.FormList.add -/
def q141_M : rfM := ((⟨"NearSpell$FormList", "add", "(I)V"⟩, prog_5_method_4_code, 4, none), (0,0), ([.inr (.inl [24]),.inl (((-2147483648),387420488,1),none)],[]), [(23,0),(24,2)], [(none,[],[])])
def q141_P : rfP := (flX3,csX3,lcX3,spX3,[],[],[],([],[]))
def q141_U : rfU := [(.inr (24,1),[(0,21),(22,22)])]
set_option maxHeartbeats 8000000 in
def q141_N : List rfB := [(0,([(0,.inr (.inl [24])),(1,.inl (((-2147483648),387420488,1),none))],[],[]),(992,[0,0]),1000000),
  (5,([(0,.inr (.inl [24])),(1,.inl (((-2147483648),387420488,1),none)),(2,.inl ((0,21,1),none))],[],[((24,1),(0,21,1),none)]),(394,[13,0]),0),
  (5,([(0,.inr (.inl [24])),(1,.inl (((-2147483648),387420488,1),none)),(2,.inl ((0,22,1),none))],[],[((24,1),(22,22,1),none)]),(700,[13,0]),0),
  (27,([(0,.inr (.inl [24])),(1,.inl (((-2147483648),387420488,1),none)),(2,.inl ((0,21,1),none))],[],[((24,1),(0,21,1),none)]),(383,[0,0]),0),
  (27,([(0,.inr (.inl [24])),(1,.inl (((-2147483648),387420488,1),none)),(2,.inl ((0,22,1),none))],[],[((24,1),(22,22,1),none)]),(689,[0,0]),0),
  (43,([(0,.inr (.inl [24])),(1,.inl (((-2147483648),387420488,1),none)),(2,.inl ((0,21,1),none))],[],[((24,1),(0,21,1),none)]),(372,[0,0]),0),
  (43,([(0,.inr (.inl [24])),(1,.inl (((-2147483648),387420488,1),none)),(2,.inl ((0,22,1),none))],[],[((24,1),(22,22,1),none)]),(679,[0,0]),0),
  (55,([(0,.inr (.inl [24])),(1,.inl (((-2147483648),387420488,1),none)),(2,.inl ((1,21,1),none))],[],[((24,1),(0,21,1),none)]),(373,[0,0]),0),
  (55,([(0,.inr (.inl [24])),(1,.inl (((-2147483648),387420488,1),none)),(2,.inl ((0,22,1),none))],[],[((24,1),(22,22,1),none)]),(673,[0,0]),0),
  (61,([(0,.inr (.inl [24])),(1,.inl (((-2147483648),387420488,1),none)),(2,.inl ((0,21,1),none)),(3,.inl ((0,21,1),none))],[],[((24,1),(0,21,1),none)]),(25,[0,16]),0)]
set_option maxRecDepth 100000 in
theorem q141_ok : rf_chkB q141_P q141_U wLay q141_M ddX3_add [] [.inl 2,.inl 3] [0,5,27,43,55,61] 600 q141_N = true := by decide +kernel
set_option maxHeartbeats 4000000 in
theorem q141_met {G : rfG} (h : okG G) : rf_met G q141_M := rf_methodB h.1 (P := q141_P) (U := q141_U) (N := q141_N) ⟨wflT h flokX3, wcsT h csokX3, wlcT h lcokX3, spokX3 h, fun _ h => absurd h List.not_mem_nil, fun _ h => absurd h List.not_mem_nil, fun _ h => absurd h List.not_mem_nil, fun _ h => absurd h List.not_mem_nil, fun _ h => absurd h List.not_mem_nil⟩ dkX3_add (by decide +kernel) (by rw [h.2.2.1]; exact q141_ok)
/-- NearSpell.FormList.shorten -/
def q142_M : rfM := ((⟨"NearSpell$FormList", "shorten", "(I)V"⟩, prog_5_method_3_code, 6, none), (1,23), ([.inr (.inl [24]),.inl (((-2147483648),2147483647,1),none)],[]), [(23,0),(24,2)], [(none,[],[])])
def q142_P : rfP := (flX3,csX3,lcX3,spX3,[q111_M,q136_M,q115_M,q139_M],[(39,0),(43,1),(43,3)],[(32,2,3)],([],[]))
def q142_U : rfU := []
set_option maxHeartbeats 8000000 in
def q142_N : List rfB := [(0,([(0,.inr (.inl [24])),(1,.inl (((-2147483648),2147483647,1),none))],[],[]),(2852,[0,0]),0),
  (7,([(0,.inr (.inl [24])),(1,.inl (((-2147483648),2147483647,1),none)),(2,.inl ((0,6,1),none)),(3,.inl ((0,12,1),none))],[],[]),(2845,[(-219),0]),0),
  (28,([(0,.inr (.inl [24])),(1,.inl (((-2147483648),2147483647,1),none)),(2,.inl ((1,6,1),none)),(3,.inl ((0,11,1),none)),(4,.inl (((-2147483648),2147483647,1),none)),(5,.inl ((0,11,1),none))],[],[]),(2831,[(-219),(-17)]),0),
  (61,([(0,.inr (.inl [24])),(1,.inl (((-2147483648),2147483647,1),none)),(2,.inl ((1,6,1),none)),(3,.inl ((0,11,1),none)),(4,.inl (((-2147483648),2147483647,1),none)),(5,.inl ((0,11,1),none))],[],[]),(2629,[(-219),0]),0)]
set_option maxRecDepth 100000 in
theorem q142_ok : rf_chkB q142_P q142_U wLay q142_M ddX3_shorten [(1,[0]),(14,[3]),(22,[2]),(49,[1]),(52,[2])] [.inl 3,.inl 5] [0,7,28,61] 600 q142_N = true := by decide +kernel
set_option maxHeartbeats 4000000 in
theorem q142_met {G : rfG} (h : okG G) : rf_met G q142_M := rf_methodB h.1 (P := q142_P) (U := q142_U) (N := q142_N) ⟨wflT h flokX3, wcsT h csokX3, wlcT h lcokX3, spokX3 h, List.forall_mem_cons.mpr ⟨q111_met h, List.forall_mem_cons.mpr ⟨q136_met h, List.forall_mem_cons.mpr ⟨q115_met h, List.forall_mem_cons.mpr ⟨q139_met h, fun _ h => absurd h List.not_mem_nil⟩⟩⟩⟩, List.forall_mem_cons.mpr ⟨fun M hM => Option.some.inj (show some q111_M = some M from hM) ▸ wlkS (lkX3_39 h) q111_M rfl rfl, List.forall_mem_cons.mpr ⟨fun M hM => Option.some.inj (show some q136_M = some M from hM) ▸ wlkS (lkX3_43 h) q136_M rfl rfl, List.forall_mem_cons.mpr ⟨fun M hM => Option.some.inj (show some q139_M = some M from hM) ▸ wlkS (lkX3_43 h) q139_M rfl rfl, fun _ h => absurd h List.not_mem_nil⟩⟩⟩, List.forall_mem_cons.mpr ⟨fun M hM => Option.some.inj (show some q115_M = some M from hM) ▸ wlkV (lkX3_32 h) q115_M rfl rfl, fun _ h => absurd h List.not_mem_nil⟩, fun _ h => absurd h List.not_mem_nil, fun _ h => absurd h List.not_mem_nil⟩ dkX3_shorten (by decide +kernel) (by rw [h.2.2.1]; exact q142_ok)
/-- NearSpell.FormList.add -/
def q143_M : rfM := ((⟨"NearSpell$FormList", "add", "(I)V"⟩, prog_5_method_4_code, 4, none), (0,0), ([.inr (.inl [34]),.inl (((-2147483648),387420488,1),none)],[]), [(33,0),(34,2)], [(none,[],[])])
def q143_P : rfP := (flX3,csX3,lcX3,spX3,[],[],[],([],[]))
def q143_U : rfU := [(.inr (34,1),[(0,21),(22,22)])]
set_option maxHeartbeats 8000000 in
def q143_N : List rfB := [(0,([(0,.inr (.inl [34])),(1,.inl (((-2147483648),387420488,1),none))],[],[]),(992,[0,0]),1000000),
  (5,([(0,.inr (.inl [34])),(1,.inl (((-2147483648),387420488,1),none)),(2,.inl ((0,22,1),none))],[],[((34,1),(22,22,1),none)]),(700,[13,0]),0),
  (5,([(0,.inr (.inl [34])),(1,.inl (((-2147483648),387420488,1),none)),(2,.inl ((0,21,1),none))],[],[((34,1),(0,21,1),none)]),(394,[13,0]),0),
  (27,([(0,.inr (.inl [34])),(1,.inl (((-2147483648),387420488,1),none)),(2,.inl ((0,21,1),none))],[],[((34,1),(0,21,1),none)]),(383,[0,0]),0),
  (27,([(0,.inr (.inl [34])),(1,.inl (((-2147483648),387420488,1),none)),(2,.inl ((0,22,1),none))],[],[((34,1),(22,22,1),none)]),(689,[0,0]),0),
  (43,([(0,.inr (.inl [34])),(1,.inl (((-2147483648),387420488,1),none)),(2,.inl ((0,21,1),none))],[],[((34,1),(0,21,1),none)]),(372,[0,0]),0),
  (43,([(0,.inr (.inl [34])),(1,.inl (((-2147483648),387420488,1),none)),(2,.inl ((0,22,1),none))],[],[((34,1),(22,22,1),none)]),(679,[0,0]),0),
  (55,([(0,.inr (.inl [34])),(1,.inl (((-2147483648),387420488,1),none)),(2,.inl ((1,21,1),none))],[],[((34,1),(0,21,1),none)]),(373,[0,0]),0),
  (55,([(0,.inr (.inl [34])),(1,.inl (((-2147483648),387420488,1),none)),(2,.inl ((0,22,1),none))],[],[((34,1),(22,22,1),none)]),(673,[0,0]),0),
  (61,([(0,.inr (.inl [34])),(1,.inl (((-2147483648),387420488,1),none)),(2,.inl ((0,21,1),none)),(3,.inl ((0,21,1),none))],[],[((34,1),(0,21,1),none)]),(25,[0,16]),0)]
set_option maxRecDepth 100000 in
theorem q143_ok : rf_chkB q143_P q143_U wLay q143_M ddX3_add [] [.inl 2,.inl 3] [0,5,27,43,55,61] 600 q143_N = true := by decide +kernel
set_option maxHeartbeats 4000000 in
theorem q143_met {G : rfG} (h : okG G) : rf_met G q143_M := rf_methodB h.1 (P := q143_P) (U := q143_U) (N := q143_N) ⟨wflT h flokX3, wcsT h csokX3, wlcT h lcokX3, spokX3 h, fun _ h => absurd h List.not_mem_nil, fun _ h => absurd h List.not_mem_nil, fun _ h => absurd h List.not_mem_nil, fun _ h => absurd h List.not_mem_nil, fun _ h => absurd h List.not_mem_nil⟩ dkX3_add (by decide +kernel) (by rw [h.2.2.1]; exact q143_ok)
/-- NearSpell.FormList.shorten -/
def q144_M : rfM := ((⟨"NearSpell$FormList", "shorten", "(I)V"⟩, prog_5_method_3_code, 6, none), (1,23), ([.inr (.inl [34]),.inl (((-2147483648),2147483647,1),none)],[]), [(33,0),(34,2)], [(none,[],[])])
def q144_P : rfP := (flX3,csX3,lcX3,spX3,[q111_M,q136_M,q116_M,q139_M],[(39,0),(43,1),(43,3)],[(32,2,3)],([],[]))
def q144_U : rfU := []
set_option maxHeartbeats 8000000 in
def q144_N : List rfB := [(0,([(0,.inr (.inl [34])),(1,.inl (((-2147483648),2147483647,1),none))],[],[]),(2852,[0,0]),0),
  (7,([(0,.inr (.inl [34])),(1,.inl (((-2147483648),2147483647,1),none)),(2,.inl ((0,6,1),none)),(3,.inl ((0,12,1),none))],[],[]),(2845,[(-219),0]),0),
  (28,([(0,.inr (.inl [34])),(1,.inl (((-2147483648),2147483647,1),none)),(2,.inl ((1,6,1),none)),(3,.inl ((0,11,1),none)),(4,.inl (((-2147483648),2147483647,1),none)),(5,.inl ((0,11,1),none))],[],[]),(2831,[(-219),(-17)]),0),
  (61,([(0,.inr (.inl [34])),(1,.inl (((-2147483648),2147483647,1),none)),(2,.inl ((1,6,1),none)),(3,.inl ((0,11,1),none)),(4,.inl (((-2147483648),2147483647,1),none)),(5,.inl ((0,11,1),none))],[],[]),(2629,[(-219),0]),0)]
set_option maxRecDepth 100000 in
theorem q144_ok : rf_chkB q144_P q144_U wLay q144_M ddX3_shorten [(1,[0]),(14,[3]),(22,[2]),(49,[1]),(52,[2])] [.inl 3,.inl 5] [0,7,28,61] 600 q144_N = true := by decide +kernel
set_option maxHeartbeats 4000000 in
theorem q144_met {G : rfG} (h : okG G) : rf_met G q144_M := rf_methodB h.1 (P := q144_P) (U := q144_U) (N := q144_N) ⟨wflT h flokX3, wcsT h csokX3, wlcT h lcokX3, spokX3 h, List.forall_mem_cons.mpr ⟨q111_met h, List.forall_mem_cons.mpr ⟨q136_met h, List.forall_mem_cons.mpr ⟨q116_met h, List.forall_mem_cons.mpr ⟨q139_met h, fun _ h => absurd h List.not_mem_nil⟩⟩⟩⟩, List.forall_mem_cons.mpr ⟨fun M hM => Option.some.inj (show some q111_M = some M from hM) ▸ wlkS (lkX3_39 h) q111_M rfl rfl, List.forall_mem_cons.mpr ⟨fun M hM => Option.some.inj (show some q136_M = some M from hM) ▸ wlkS (lkX3_43 h) q136_M rfl rfl, List.forall_mem_cons.mpr ⟨fun M hM => Option.some.inj (show some q139_M = some M from hM) ▸ wlkS (lkX3_43 h) q139_M rfl rfl, fun _ h => absurd h List.not_mem_nil⟩⟩⟩, List.forall_mem_cons.mpr ⟨fun M hM => Option.some.inj (show some q116_M = some M from hM) ▸ wlkV (lkX3_32 h) q116_M rfl rfl, fun _ h => absurd h List.not_mem_nil⟩, fun _ h => absurd h List.not_mem_nil, fun _ h => absurd h List.not_mem_nil⟩ dkX3_shorten (by decide +kernel) (by rw [h.2.2.1]; exact q144_ok)
/-- NearSpell.FormList.add -/
def q145_M : rfM := ((⟨"NearSpell$FormList", "add", "(I)V"⟩, prog_5_method_4_code, 4, none), (0,0), ([.inr (.inl [42]),.inl (((-2147483648),387420488,1),none)],[]), [(41,0),(42,2)], [(none,[],[])])
def q145_P : rfP := (flX3,csX3,lcX3,spX3,[],[],[],([],[]))
def q145_U : rfU := [(.inr (42,1),[(0,21),(22,22)])]
set_option maxHeartbeats 8000000 in
def q145_N : List rfB := [(0,([(0,.inr (.inl [42])),(1,.inl (((-2147483648),387420488,1),none))],[],[]),(992,[0,0]),1000000),
  (5,([(0,.inr (.inl [42])),(1,.inl (((-2147483648),387420488,1),none)),(2,.inl ((0,21,1),none))],[],[((42,1),(0,21,1),none)]),(394,[13,0]),0),
  (5,([(0,.inr (.inl [42])),(1,.inl (((-2147483648),387420488,1),none)),(2,.inl ((0,22,1),none))],[],[((42,1),(22,22,1),none)]),(700,[13,0]),0),
  (27,([(0,.inr (.inl [42])),(1,.inl (((-2147483648),387420488,1),none)),(2,.inl ((0,21,1),none))],[],[((42,1),(0,21,1),none)]),(383,[0,0]),0),
  (27,([(0,.inr (.inl [42])),(1,.inl (((-2147483648),387420488,1),none)),(2,.inl ((0,22,1),none))],[],[((42,1),(22,22,1),none)]),(689,[0,0]),0),
  (43,([(0,.inr (.inl [42])),(1,.inl (((-2147483648),387420488,1),none)),(2,.inl ((0,21,1),none))],[],[((42,1),(0,21,1),none)]),(372,[0,0]),0),
  (43,([(0,.inr (.inl [42])),(1,.inl (((-2147483648),387420488,1),none)),(2,.inl ((0,22,1),none))],[],[((42,1),(22,22,1),none)]),(679,[0,0]),0),
  (55,([(0,.inr (.inl [42])),(1,.inl (((-2147483648),387420488,1),none)),(2,.inl ((1,21,1),none))],[],[((42,1),(0,21,1),none)]),(373,[0,0]),0),
  (55,([(0,.inr (.inl [42])),(1,.inl (((-2147483648),387420488,1),none)),(2,.inl ((0,22,1),none))],[],[((42,1),(22,22,1),none)]),(673,[0,0]),0),
  (61,([(0,.inr (.inl [42])),(1,.inl (((-2147483648),387420488,1),none)),(2,.inl ((0,21,1),none)),(3,.inl ((0,21,1),none))],[],[((42,1),(0,21,1),none)]),(25,[0,16]),0)]
set_option maxRecDepth 100000 in
theorem q145_ok : rf_chkB q145_P q145_U wLay q145_M ddX3_add [] [.inl 2,.inl 3] [0,5,27,43,55,61] 600 q145_N = true := by decide +kernel
set_option maxHeartbeats 4000000 in
theorem q145_met {G : rfG} (h : okG G) : rf_met G q145_M := rf_methodB h.1 (P := q145_P) (U := q145_U) (N := q145_N) ⟨wflT h flokX3, wcsT h csokX3, wlcT h lcokX3, spokX3 h, fun _ h => absurd h List.not_mem_nil, fun _ h => absurd h List.not_mem_nil, fun _ h => absurd h List.not_mem_nil, fun _ h => absurd h List.not_mem_nil, fun _ h => absurd h List.not_mem_nil⟩ dkX3_add (by decide +kernel) (by rw [h.2.2.1]; exact q145_ok)
/-- NearSpell.FormList.shorten -/
def q146_M : rfM := ((⟨"NearSpell$FormList", "shorten", "(I)V"⟩, prog_5_method_3_code, 6, none), (1,23), ([.inr (.inl [42]),.inl (((-2147483648),2147483647,1),none)],[]), [(41,0),(42,2)], [(none,[],[])])
def q146_P : rfP := (flX3,csX3,lcX3,spX3,[q111_M,q136_M,q117_M,q139_M],[(39,0),(43,1),(43,3)],[(32,2,3)],([],[]))
def q146_U : rfU := []
set_option maxHeartbeats 8000000 in
def q146_N : List rfB := [(0,([(0,.inr (.inl [42])),(1,.inl (((-2147483648),2147483647,1),none))],[],[]),(2852,[0,0]),0),
  (7,([(0,.inr (.inl [42])),(1,.inl (((-2147483648),2147483647,1),none)),(2,.inl ((0,6,1),none)),(3,.inl ((0,12,1),none))],[],[]),(2845,[(-219),0]),0),
  (28,([(0,.inr (.inl [42])),(1,.inl (((-2147483648),2147483647,1),none)),(2,.inl ((1,6,1),none)),(3,.inl ((0,11,1),none)),(4,.inl (((-2147483648),2147483647,1),none)),(5,.inl ((0,11,1),none))],[],[]),(2831,[(-219),(-17)]),0),
  (61,([(0,.inr (.inl [42])),(1,.inl (((-2147483648),2147483647,1),none)),(2,.inl ((1,6,1),none)),(3,.inl ((0,11,1),none)),(4,.inl (((-2147483648),2147483647,1),none)),(5,.inl ((0,11,1),none))],[],[]),(2629,[(-219),0]),0)]
set_option maxRecDepth 100000 in
theorem q146_ok : rf_chkB q146_P q146_U wLay q146_M ddX3_shorten [(1,[0]),(14,[3]),(22,[2]),(49,[1]),(52,[2])] [.inl 3,.inl 5] [0,7,28,61] 600 q146_N = true := by decide +kernel
set_option maxHeartbeats 4000000 in
theorem q146_met {G : rfG} (h : okG G) : rf_met G q146_M := rf_methodB h.1 (P := q146_P) (U := q146_U) (N := q146_N) ⟨wflT h flokX3, wcsT h csokX3, wlcT h lcokX3, spokX3 h, List.forall_mem_cons.mpr ⟨q111_met h, List.forall_mem_cons.mpr ⟨q136_met h, List.forall_mem_cons.mpr ⟨q117_met h, List.forall_mem_cons.mpr ⟨q139_met h, fun _ h => absurd h List.not_mem_nil⟩⟩⟩⟩, List.forall_mem_cons.mpr ⟨fun M hM => Option.some.inj (show some q111_M = some M from hM) ▸ wlkS (lkX3_39 h) q111_M rfl rfl, List.forall_mem_cons.mpr ⟨fun M hM => Option.some.inj (show some q136_M = some M from hM) ▸ wlkS (lkX3_43 h) q136_M rfl rfl, List.forall_mem_cons.mpr ⟨fun M hM => Option.some.inj (show some q139_M = some M from hM) ▸ wlkS (lkX3_43 h) q139_M rfl rfl, fun _ h => absurd h List.not_mem_nil⟩⟩⟩, List.forall_mem_cons.mpr ⟨fun M hM => Option.some.inj (show some q117_M = some M from hM) ▸ wlkV (lkX3_32 h) q117_M rfl rfl, fun _ h => absurd h List.not_mem_nil⟩, fun _ h => absurd h List.not_mem_nil, fun _ h => absurd h List.not_mem_nil⟩ dkX3_shorten (by decide +kernel) (by rw [h.2.2.1]; exact q146_ok)
/-- NearSpell.FormList.add -/
def q147_M : rfM := ((⟨"NearSpell$FormList", "add", "(I)V"⟩, prog_5_method_4_code, 4, none), (0,0), ([.inr (.inl [32]),.inl (((-2147483648),387420488,1),none)],[]), [(31,0),(32,2)], [(none,[],[])])
def q147_P : rfP := (flX3,csX3,lcX3,spX3,[],[],[],([],[]))
def q147_U : rfU := [(.inr (32,1),[(0,21),(22,22)])]
set_option maxHeartbeats 8000000 in
def q147_N : List rfB := [(0,([(0,.inr (.inl [32])),(1,.inl (((-2147483648),387420488,1),none))],[],[]),(992,[0,0]),1000000),
  (5,([(0,.inr (.inl [32])),(1,.inl (((-2147483648),387420488,1),none)),(2,.inl ((0,22,1),none))],[],[((32,1),(22,22,1),none)]),(700,[13,0]),0),
  (5,([(0,.inr (.inl [32])),(1,.inl (((-2147483648),387420488,1),none)),(2,.inl ((0,21,1),none))],[],[((32,1),(0,21,1),none)]),(394,[13,0]),0),
  (27,([(0,.inr (.inl [32])),(1,.inl (((-2147483648),387420488,1),none)),(2,.inl ((0,21,1),none))],[],[((32,1),(0,21,1),none)]),(383,[0,0]),0),
  (27,([(0,.inr (.inl [32])),(1,.inl (((-2147483648),387420488,1),none)),(2,.inl ((0,22,1),none))],[],[((32,1),(22,22,1),none)]),(689,[0,0]),0),
  (43,([(0,.inr (.inl [32])),(1,.inl (((-2147483648),387420488,1),none)),(2,.inl ((0,21,1),none))],[],[((32,1),(0,21,1),none)]),(372,[0,0]),0),
  (43,([(0,.inr (.inl [32])),(1,.inl (((-2147483648),387420488,1),none)),(2,.inl ((0,22,1),none))],[],[((32,1),(22,22,1),none)]),(679,[0,0]),0),
  (55,([(0,.inr (.inl [32])),(1,.inl (((-2147483648),387420488,1),none)),(2,.inl ((1,21,1),none))],[],[((32,1),(0,21,1),none)]),(373,[0,0]),0),
  (55,([(0,.inr (.inl [32])),(1,.inl (((-2147483648),387420488,1),none)),(2,.inl ((0,22,1),none))],[],[((32,1),(22,22,1),none)]),(673,[0,0]),0),
  (61,([(0,.inr (.inl [32])),(1,.inl (((-2147483648),387420488,1),none)),(2,.inl ((0,21,1),none)),(3,.inl ((0,21,1),none))],[],[((32,1),(0,21,1),none)]),(25,[0,16]),0)]
set_option maxRecDepth 100000 in
theorem q147_ok : rf_chkB q147_P q147_U wLay q147_M ddX3_add [] [.inl 2,.inl 3] [0,5,27,43,55,61] 600 q147_N = true := by decide +kernel
set_option maxHeartbeats 4000000 in
theorem q147_met {G : rfG} (h : okG G) : rf_met G q147_M := rf_methodB h.1 (P := q147_P) (U := q147_U) (N := q147_N) ⟨wflT h flokX3, wcsT h csokX3, wlcT h lcokX3, spokX3 h, fun _ h => absurd h List.not_mem_nil, fun _ h => absurd h List.not_mem_nil, fun _ h => absurd h List.not_mem_nil, fun _ h => absurd h List.not_mem_nil, fun _ h => absurd h List.not_mem_nil⟩ dkX3_add (by decide +kernel) (by rw [h.2.2.1]; exact q147_ok)
/-- NearSpell.FormList.shorten -/
def q148_M : rfM := ((⟨"NearSpell$FormList", "shorten", "(I)V"⟩, prog_5_method_3_code, 6, none), (1,23), ([.inr (.inl [32]),.inl (((-2147483648),2147483647,1),none)],[]), [(31,0),(32,2)], [(none,[],[])])
def q148_P : rfP := (flX3,csX3,lcX3,spX3,[q111_M,q136_M,q118_M,q139_M],[(39,0),(43,1),(43,3)],[(32,2,3)],([],[]))
def q148_U : rfU := []
set_option maxHeartbeats 8000000 in
def q148_N : List rfB := [(0,([(0,.inr (.inl [32])),(1,.inl (((-2147483648),2147483647,1),none))],[],[]),(2852,[0,0]),0),
  (7,([(0,.inr (.inl [32])),(1,.inl (((-2147483648),2147483647,1),none)),(2,.inl ((0,6,1),none)),(3,.inl ((0,12,1),none))],[],[]),(2845,[(-219),0]),0),
  (28,([(0,.inr (.inl [32])),(1,.inl (((-2147483648),2147483647,1),none)),(2,.inl ((1,6,1),none)),(3,.inl ((0,11,1),none)),(4,.inl (((-2147483648),2147483647,1),none)),(5,.inl ((0,11,1),none))],[],[]),(2831,[(-219),(-17)]),0),
  (61,([(0,.inr (.inl [32])),(1,.inl (((-2147483648),2147483647,1),none)),(2,.inl ((1,6,1),none)),(3,.inl ((0,11,1),none)),(4,.inl (((-2147483648),2147483647,1),none)),(5,.inl ((0,11,1),none))],[],[]),(2629,[(-219),0]),0)]
set_option maxRecDepth 100000 in
theorem q148_ok : rf_chkB q148_P q148_U wLay q148_M ddX3_shorten [(1,[0]),(14,[3]),(22,[2]),(49,[1]),(52,[2])] [.inl 3,.inl 5] [0,7,28,61] 600 q148_N = true := by decide +kernel
set_option maxHeartbeats 4000000 in
theorem q148_met {G : rfG} (h : okG G) : rf_met G q148_M := rf_methodB h.1 (P := q148_P) (U := q148_U) (N := q148_N) ⟨wflT h flokX3, wcsT h csokX3, wlcT h lcokX3, spokX3 h, List.forall_mem_cons.mpr ⟨q111_met h, List.forall_mem_cons.mpr ⟨q136_met h, List.forall_mem_cons.mpr ⟨q118_met h, List.forall_mem_cons.mpr ⟨q139_met h, fun _ h => absurd h List.not_mem_nil⟩⟩⟩⟩, List.forall_mem_cons.mpr ⟨fun M hM => Option.some.inj (show some q111_M = some M from hM) ▸ wlkS (lkX3_39 h) q111_M rfl rfl, List.forall_mem_cons.mpr ⟨fun M hM => Option.some.inj (show some q136_M = some M from hM) ▸ wlkS (lkX3_43 h) q136_M rfl rfl, List.forall_mem_cons.mpr ⟨fun M hM => Option.some.inj (show some q139_M = some M from hM) ▸ wlkS (lkX3_43 h) q139_M rfl rfl, fun _ h => absurd h List.not_mem_nil⟩⟩⟩, List.forall_mem_cons.mpr ⟨fun M hM => Option.some.inj (show some q118_M = some M from hM) ▸ wlkV (lkX3_32 h) q118_M rfl rfl, fun _ h => absurd h List.not_mem_nil⟩, fun _ h => absurd h List.not_mem_nil, fun _ h => absurd h List.not_mem_nil⟩ dkX3_shorten (by decide +kernel) (by rw [h.2.2.1]; exact q148_ok)
/-- NearSpell.FormList.add -/
def q149_M : rfM := ((⟨"NearSpell$FormList", "add", "(I)V"⟩, prog_5_method_4_code, 4, none), (0,0), ([.inr (.inl [26]),.inl (((-2147483648),387420488,1),none)],[]), [(25,0),(26,2)], [(none,[],[])])
def q149_P : rfP := (flX3,csX3,lcX3,spX3,[],[],[],([],[]))
def q149_U : rfU := [(.inr (26,1),[(0,21),(22,22)])]
set_option maxHeartbeats 8000000 in
def q149_N : List rfB := [(0,([(0,.inr (.inl [26])),(1,.inl (((-2147483648),387420488,1),none))],[],[]),(992,[0,0]),1000000),
  (5,([(0,.inr (.inl [26])),(1,.inl (((-2147483648),387420488,1),none)),(2,.inl ((0,21,1),none))],[],[((26,1),(0,21,1),none)]),(394,[13,0]),0),
  (5,([(0,.inr (.inl [26])),(1,.inl (((-2147483648),387420488,1),none)),(2,.inl ((0,22,1),none))],[],[((26,1),(22,22,1),none)]),(700,[13,0]),0),
  (27,([(0,.inr (.inl [26])),(1,.inl (((-2147483648),387420488,1),none)),(2,.inl ((0,21,1),none))],[],[((26,1),(0,21,1),none)]),(383,[0,0]),0),
  (27,([(0,.inr (.inl [26])),(1,.inl (((-2147483648),387420488,1),none)),(2,.inl ((0,22,1),none))],[],[((26,1),(22,22,1),none)]),(689,[0,0]),0),
  (43,([(0,.inr (.inl [26])),(1,.inl (((-2147483648),387420488,1),none)),(2,.inl ((0,21,1),none))],[],[((26,1),(0,21,1),none)]),(372,[0,0]),0),
  (43,([(0,.inr (.inl [26])),(1,.inl (((-2147483648),387420488,1),none)),(2,.inl ((0,22,1),none))],[],[((26,1),(22,22,1),none)]),(679,[0,0]),0),
  (55,([(0,.inr (.inl [26])),(1,.inl (((-2147483648),387420488,1),none)),(2,.inl ((1,21,1),none))],[],[((26,1),(0,21,1),none)]),(373,[0,0]),0),
  (55,([(0,.inr (.inl [26])),(1,.inl (((-2147483648),387420488,1),none)),(2,.inl ((0,22,1),none))],[],[((26,1),(22,22,1),none)]),(673,[0,0]),0),
  (61,([(0,.inr (.inl [26])),(1,.inl (((-2147483648),387420488,1),none)),(2,.inl ((0,21,1),none)),(3,.inl ((0,21,1),none))],[],[((26,1),(0,21,1),none)]),(25,[0,16]),0)]
set_option maxRecDepth 100000 in
theorem q149_ok : rf_chkB q149_P q149_U wLay q149_M ddX3_add [] [.inl 2,.inl 3] [0,5,27,43,55,61] 600 q149_N = true := by decide +kernel
set_option maxHeartbeats 4000000 in
theorem q149_met {G : rfG} (h : okG G) : rf_met G q149_M := rf_methodB h.1 (P := q149_P) (U := q149_U) (N := q149_N) ⟨wflT h flokX3, wcsT h csokX3, wlcT h lcokX3, spokX3 h, fun _ h => absurd h List.not_mem_nil, fun _ h => absurd h List.not_mem_nil, fun _ h => absurd h List.not_mem_nil, fun _ h => absurd h List.not_mem_nil, fun _ h => absurd h List.not_mem_nil⟩ dkX3_add (by decide +kernel) (by rw [h.2.2.1]; exact q149_ok)
