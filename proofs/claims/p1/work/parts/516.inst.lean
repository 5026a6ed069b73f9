/-- NearSpell.Web.countGroups -/
def q254_M : rfM := ((⟨"NearSpell$Web", "countGroups", "(I)I"⟩, prog_11_method_6_code, 5, (some .int)), (3,67), ([.inr (.inl [61]),.inl ((0,6,1),none)],[((12,34),(0,0,0),none),((12,35),(0,0,0),none),((12,36),(0,0,0),none),((20,3),(0,0,0),none),((20,4),(0,0,0),none),((61,4),(0,0,0),none)]), [(60,0),(61,5)], [(some (.inl ((0,0,0),none)),[],[((60,0),(0,0,0),none),((60,1),(0,0,0),none),((60,2),(0,0,0),none),((60,3),(0,0,0),none),((60,4),(0,0,0),none),((60,5),(0,0,0),none),((60,6),(0,0,0),none),((60,7),(0,0,0),none),((60,8),(0,0,0),none),((60,9),(0,0,0),none),((60,10),(0,0,0),none),((60,11),(0,0,0),none),((60,12),(0,0,0),none),((60,13),(0,0,0),none),((61,4),(0,0,0),none)])])
def ddX9_countGroups : List (Nat × Instr × Nat) := [(0,.aload_n 0,1),(1,.iload_n 1,1),(2,.invokevirtual 60,3),(5,.aload_n 0,1),(6,.getfield 26,3),(9,.istore_n 2,1),(10,.iconst 0,1),(11,.istore_n 3,1),(12,.iconst 0,1),(13,.istore 4,2),(15,.iload 4,2),(17,.bipush 14,2),(19,.if_icmp .ge 35,3),(22,.aload_n 0,1),(23,.iload_n 2,1),(24,.iload 4,2),(26,.invokevirtual 50,3),(29,.ifCond .eq 19,3),(32,.iload_n 2,1),(33,.aload_n 0,1),(34,.iconst 1,1),(35,.iload 4,2),(37,.ishl,1),(38,.invokevirtual 63,3),(41,.iconst (-1),1),(42,.ixor,1),(43,.iand,1),(44,.istore_n 2,1),(45,.iinc 3 1,3),(48,.iinc 4 1,3),(51,.goto (-36),3),(54,.iload_n 3,1),(55,.ireturn,1)]
set_option maxRecDepth 100000 in
theorem dkX9_countGroups : rf_decs prog_11_method_6_code ddX9_countGroups := rf_decs_of (by decide +kernel)
def q254_P : rfP := (flX9,csX9,lcX9,spX9,[q253_M,q252_M],[],[(50,1,9),(60,0,9)],([],[]))
def q254_U : rfU := []
set_option maxHeartbeats 8000000 in
def q254_N : List rfB := [(0,([(0,.inr (.inl [61])),(1,.inl ((0,6,1),none))],[],[((12,34),(0,0,0),some ((12,34),0,0)),((12,35),(0,0,0),some ((12,35),0,0)),((12,36),(0,0,0),some ((12,36),0,0)),((20,3),(0,0,0),some ((20,3),0,0)),((20,4),(0,0,0),some ((20,4),0,0)),((61,4),(0,0,0),some ((61,4),0,0))]),(176,[0]),0)]
set_option maxRecDepth 100000 in
theorem q254_ok : rf_chkB q254_P q254_U wLay q254_M ddX9_countGroups [(2,[0]),(26,[1])] [.inl 4] [0] 160 q254_N = true := by decide +kernel
set_option maxHeartbeats 4000000 in
theorem q254_met {G : rfG} (h : okG G) : rf_met G q254_M := rf_methodB h.1 (P := q254_P) (U := q254_U) (N := q254_N) ⟨wflT h flokX9, wcsT h csokX9, wlcT h lcokX9, spokX9 h, List.forall_mem_cons.mpr ⟨q253_met h, List.forall_mem_cons.mpr ⟨q252_met h, fun _ h => absurd h List.not_mem_nil⟩⟩, fun _ h => absurd h List.not_mem_nil, List.forall_mem_cons.mpr ⟨fun M hM => Option.some.inj (show some q252_M = some M from hM) ▸ wlkV (lkX9_50 h) q252_M rfl rfl, List.forall_mem_cons.mpr ⟨fun M hM => Option.some.inj (show some q253_M = some M from hM) ▸ wlkV (lkX9_60 h) q253_M rfl rfl, fun _ h => absurd h List.not_mem_nil⟩⟩, fun _ h => absurd h List.not_mem_nil, fun _ h => absurd h List.not_mem_nil⟩ dkX9_countGroups (by decide +kernel) (by rw [h.2.2.1]; exact q254_ok)
/-- NearSpell.groups -/
def q255_M : rfM := ((⟨"NearSpell", "groups", "(I)I"⟩, prog_1_method_27_code, 2, (some .int)), (4,91), ([.inr (.inl [70]),.inl ((0,6,1),none)],[((12,34),(0,0,0),none),((12,35),(0,0,0),none),((12,36),(0,0,0),none),((20,3),(0,0,0),none),((20,4),(0,0,0),none),((61,4),(0,0,0),none)]), [(60,0),(61,5)], [(some (.inl ((0,0,0),none)),[],[((60,0),(0,0,0),none),((60,1),(0,0,0),none),((60,2),(0,0,0),none),((60,3),(0,0,0),none),((60,4),(0,0,0),none),((60,5),(0,0,0),none),((60,6),(0,0,0),none),((60,7),(0,0,0),none),((60,8),(0,0,0),none),((60,9),(0,0,0),none),((60,10),(0,0,0),none),((60,11),(0,0,0),none),((60,12),(0,0,0),none),((60,13),(0,0,0),none),((61,4),(0,0,0),none)])])
def q255_P : rfP := (flX11,csX11,lcX11,spX11,[q195_M,q254_M],[(232,0)],[(270,1,9)],([],[]))
def q255_U : rfU := []
set_option maxHeartbeats 8000000 in
def q255_N : List rfB := [(0,([(0,.inr (.inl [70])),(1,.inl ((0,6,1),none))],[],[((12,34),(0,0,0),some ((12,34),0,0)),((12,35),(0,0,0),some ((12,35),0,0)),((12,36),(0,0,0),some ((12,36),0,0)),((20,3),(0,0,0),some ((20,3),0,0)),((20,4),(0,0,0),some ((20,4),0,0)),((61,4),(0,0,0),some ((61,4),0,0))]),(8,[]),0)]
set_option maxRecDepth 100000 in
theorem q255_ok : rf_chkB q255_P q255_U wLay q255_M ddX11_groups [(1,[0]),(12,[1])] [] [0] 600 q255_N = true := by decide +kernel
set_option maxHeartbeats 4000000 in
theorem q255_met {G : rfG} (h : okG G) : rf_met G q255_M := rf_methodB h.1 (P := q255_P) (U := q255_U) (N := q255_N) ⟨wflT h flokX11, wcsT h csokX11, wlcT h lcokX11, spokX11 h, List.forall_mem_cons.mpr ⟨q195_met h, List.forall_mem_cons.mpr ⟨q254_met h, fun _ h => absurd h List.not_mem_nil⟩⟩, List.forall_mem_cons.mpr ⟨fun M hM => Option.some.inj (show some q195_M = some M from hM) ▸ wlkS (lkX11_232 h) q195_M rfl rfl, fun _ h => absurd h List.not_mem_nil⟩, List.forall_mem_cons.mpr ⟨fun M hM => Option.some.inj (show some q254_M = some M from hM) ▸ wlkV (lkX11_270 h) q254_M rfl rfl, fun _ h => absurd h List.not_mem_nil⟩, fun _ h => absurd h List.not_mem_nil, fun _ h => absurd h List.not_mem_nil⟩ dkX11_groups (by decide +kernel) (by rw [h.2.2.1]; exact q255_ok)
/-- NearSpellModel.layApart -/
def q256_M : rfM := ((⟨"NearSpellModel", "layApart", "()V"⟩, prog_14_method_86_code, 4, none), (2,43), ([.inr (.inl [114])],[((90,28),(0,0,0),none),((90,29),(0,0,0),none),((90,36),(0,0,0),none),((114,44),(0,0,0),none),((114,45),(0,0,0),none)]), [(103,0)], [(none,[],[])])
def ddX12_layApart : List (Nat × Instr × Nat) := [(0,.iconst 0,1),(1,.istore_n 1,1),(2,.iload_n 1,1),(3,.bipush 14,2),(5,.if_icmp .ge 75,3),(8,.iconst 0,1),(9,.istore_n 2,1),(10,.iload_n 2,1),(11,.iload_n 1,1),(12,.if_icmp .gt 62,3),(15,.aload_n 0,1),(16,.iload_n 1,1),(17,.invokevirtual 350,3),(20,.ifCond .eq 20,3),(23,.aload_n 0,1),(24,.iload_n 2,1),(25,.invokevirtual 350,3),(28,.ifCond .eq 12,3),(31,.aload_n 0,1),(32,.iload_n 1,1),(33,.iload_n 2,1),(34,.invokevirtual 444,3),(37,.goto 6,3),(40,.sipush 1000,3),(43,.istore_n 3,1),(44,.aload_n 0,1),(45,.getfield 111,3),(48,.bipush 14,2),(50,.iload_n 1,1),(51,.imul,1),(52,.iload_n 2,1),(53,.iadd,1),(54,.iload_n 3,1),(55,.iastore,1),(56,.aload_n 0,1),(57,.getfield 111,3),(60,.bipush 14,2),(62,.iload_n 2,1),(63,.imul,1),(64,.iload_n 1,1),(65,.iadd,1),(66,.iload_n 3,1),(67,.iastore,1),(68,.iinc 2 1,3),(71,.goto (-61),3),(74,.iinc 1 1,3),(77,.goto (-75),3),(80,.return_,1)]
set_option maxRecDepth 100000 in
theorem dkX12_layApart : rf_decs prog_14_method_86_code ddX12_layApart := rf_decs_of (by decide +kernel)
def q256_P : rfP := (flX12,csX12,lcX12,spX12,[q68_M],[],[(350,0,12)],([],[]))
def q256_U : rfU := []
set_option maxHeartbeats 8000000 in
def q256_N : List rfB := [(0,([(0,.inr (.inl [114]))],[],[((90,28),(0,0,0),some ((90,28),0,0)),((90,29),(0,0,0),some ((90,29),0,0)),((90,36),(0,0,0),some ((90,36),0,0)),((114,44),(0,0,0),some ((114,44),0,0)),((114,45),(0,0,0),some ((114,45),0,0))]),(6872,[0,0]),0),
  (2,([(0,.inr (.inl [114])),(1,.inl ((0,14,1),none))],[],[((90,28),(0,0,0),some ((90,28),0,0)),((90,29),(0,0,0),some ((90,29),0,0)),((90,36),(0,0,0),some ((90,36),0,0)),((114,44),(0,0,0),some ((114,44),0,0)),((114,45),(0,0,0),some ((114,45),0,0))]),(6868,[(-458),0]),0),
  (10,([(0,.inr (.inl [114])),(1,.inl ((0,13,1),none)),(2,.inl ((0,14,1),none))],[],[((90,28),(0,0,0),some ((90,28),0,0)),((90,29),(0,0,0),some ((90,29),0,0)),((90,36),(0,0,0),some ((90,36),0,0)),((114,44),(0,0,0),some ((114,44),0,0)),((114,45),(0,0,0),some ((114,45),0,0))]),(6861,[(-458),(-30)]),0)]
set_option maxRecDepth 100000 in
theorem q256_ok : rf_chkB q256_P q256_U wLay q256_M ddX12_layApart [(17,[0])] [.inl 1,.inl 2] [0,2,10] 600 q256_N = true := by decide +kernel
set_option maxHeartbeats 4000000 in
theorem q256_met {G : rfG} (h : okG G) : rf_met G q256_M := rf_methodB h.1 (P := q256_P) (U := q256_U) (N := q256_N) ⟨wflT h flokX12, wcsT h csokX12, wlcT h lcokX12, spokX12 h, List.forall_mem_cons.mpr ⟨q68_met h, fun _ h => absurd h List.not_mem_nil⟩, fun _ h => absurd h List.not_mem_nil, List.forall_mem_cons.mpr ⟨fun M hM => Option.some.inj (show some q68_M = some M from hM) ▸ wlkV (lkX12_350 h) q68_M rfl rfl, fun _ h => absurd h List.not_mem_nil⟩, fun _ h => absurd h List.not_mem_nil, fun _ h => absurd h List.not_mem_nil⟩ dkX12_layApart (by decide +kernel) (by rw [h.2.2.1]; exact q256_ok)
/-- NearSpellModel.layNear -/
def q257_M : rfM := ((⟨"NearSpellModel", "layNear", "(I)V"⟩, prog_14_method_87_code, 4, none), (3,66), ([.inr (.inl [114]),.inl ((0,6,1),none)],[((90,28),(0,0,0),none),((90,29),(0,0,0),none),((90,36),(0,0,0),none),((114,44),(0,0,0),none),((114,45),(0,0,0),none)]), [(102,0),(103,0)], [(none,[],[])])
def ddX12_layNear : List (Nat × Instr × Nat) := [(0,.aload_n 0,1),(1,.invokevirtual 447,3),(4,.iconst 0,1),(5,.istore_n 2,1),(6,.iload_n 2,1),(7,.bipush 14,2),(9,.if_icmp .ge 57,3),(12,.aload_n 0,1),(13,.getfield 108,3),(16,.iload_n 2,1),(17,.iconst 0,1),(18,.iastore,1),(19,.iconst 0,1),(20,.istore_n 3,1),(21,.iload_n 3,1),(22,.bipush 14,2),(24,.if_icmp .ge 36,3),(27,.aload_n 0,1),(28,.getfield 111,3),(31,.bipush 14,2),(33,.iload_n 2,1),(34,.imul,1),(35,.iload_n 3,1),(36,.iadd,1),(37,.iaload,1),(38,.iload_n 1,1),(39,.if_icmp .gt 15,3),(42,.aload_n 0,1),(43,.getfield 108,3),(46,.iload_n 2,1),(47,.dup2,1),(48,.iaload,1),(49,.iconst 1,1),(50,.iload_n 3,1),(51,.ishl,1),(52,.ior,1),(53,.iastore,1),(54,.iinc 3 1,3),(57,.goto (-36),3),(60,.iinc 2 1,3),(63,.goto (-57),3),(66,.return_,1)]
set_option maxRecDepth 100000 in
theorem dkX12_layNear : rf_decs prog_14_method_87_code ddX12_layNear := rf_decs_of (by decide +kernel)
def q257_P : rfP := (flX12,csX12,lcX12,spX12,[q256_M],[],[(447,0,12)],([],[]))
def q257_U : rfU := []
set_option maxHeartbeats 8000000 in
def q257_N : List rfB := [(0,([(0,.inr (.inl [114])),(1,.inl ((0,6,1),none))],[],[((90,28),(0,0,0),some ((90,28),0,0)),((90,29),(0,0,0),some ((90,29),0,0)),((90,36),(0,0,0),some ((90,36),0,0)),((114,44),(0,0,0),some ((114,44),0,0)),((114,45),(0,0,0),some ((114,45),0,0))]),(6049,[0,0]),0),
  (6,([(0,.inr (.inl [114])),(1,.inl ((0,6,1),none)),(2,.inl ((0,14,1),none))],[],[((90,28),(0,0,0),some ((90,28),0,0)),((90,29),(0,0,0),some ((90,29),0,0)),((90,36),(0,0,0),some ((90,36),0,0)),((114,44),(0,0,0),some ((114,44),0,0)),((114,45),(0,0,0),some ((114,45),0,0))]),(6043,[(-403),0]),0),
  (21,([(0,.inr (.inl [114])),(1,.inl ((0,6,1),none)),(2,.inl ((0,13,1),none)),(3,.inl ((0,14,1),none))],[],[((90,28),(0,0,0),some ((90,28),0,0)),((90,29),(0,0,0),some ((90,29),0,0)),((90,36),(0,0,0),some ((90,36),0,0)),((114,44),(0,0,0),some ((114,44),0,0)),((114,45),(0,0,0),some ((114,45),0,0))]),(6031,[(-403),(-26)]),0),
  (54,([(0,.inr (.inl [114])),(1,.inl ((0,6,1),none)),(2,.inl ((0,13,1),none)),(3,.inl ((0,13,1),none))],[],[((90,28),(0,0,0),some ((90,28),0,0)),((90,29),(0,0,0),some ((90,29),0,0)),((90,36),(0,0,0),some ((90,36),0,0)),((114,44),(0,0,0),some ((114,44),0,0)),((114,45),(0,0,0),some ((114,45),0,0))]),(6008,[(-403),(-26)]),0)]
set_option maxRecDepth 100000 in
theorem q257_ok : rf_chkB q257_P q257_U wLay q257_M ddX12_layNear [(1,[0])] [.inl 2,.inl 3] [0,6,21,54] 600 q257_N = true := by decide +kernel
set_option maxHeartbeats 4000000 in
theorem q257_met {G : rfG} (h : okG G) : rf_met G q257_M := rf_methodB h.1 (P := q257_P) (U := q257_U) (N := q257_N) ⟨wflT h flokX12, wcsT h csokX12, wlcT h lcokX12, spokX12 h, List.forall_mem_cons.mpr ⟨q256_met h, fun _ h => absurd h List.not_mem_nil⟩, fun _ h => absurd h List.not_mem_nil, List.forall_mem_cons.mpr ⟨fun M hM => Option.some.inj (show some q256_M = some M from hM) ▸ wlkV (lkX12_447 h) q256_M rfl rfl, fun _ h => absurd h List.not_mem_nil⟩, fun _ h => absurd h List.not_mem_nil, fun _ h => absurd h List.not_mem_nil⟩ dkX12_layNear (by decide +kernel) (by rw [h.2.2.1]; exact q257_ok)
/-- NearSpellModel.groups -/
def q258_M : rfM := ((⟨"NearSpellModel", "groups", "(I)I"⟩, prog_14_method_90_code, 6, (some .int)), (4,89), ([.inr (.inl [114]),.inl ((0,6,1),none)],[((90,28),(0,0,0),none),((90,29),(0,0,0),none),((90,36),(0,0,0),none),((114,44),(0,0,0),none),((114,45),(0,0,0),none)]), [(102,0),(103,0)], [(some (.inl ((0,0,0),none)),[],[])])
def q258_P : rfP := (flX12,csX12,lcX12,spX12,[q198_M,q257_M,q199_M],[(334,0)],[(423,2,12),(450,1,12)],([],[]))
def q258_U : rfU := []
set_option maxHeartbeats 8000000 in
def q258_N : List rfB := [(0,([(0,.inr (.inl [114])),(1,.inl ((0,6,1),none))],[],[((90,28),(0,0,0),some ((90,28),0,0)),((90,29),(0,0,0),some ((90,29),0,0)),((90,36),(0,0,0),some ((90,36),0,0)),((114,44),(0,0,0),some ((114,44),0,0)),((114,45),(0,0,0),some ((114,45),0,0))]),(16,[]),0)]
set_option maxRecDepth 100000 in
theorem q258_ok : rf_chkB q258_P q258_U wLay q258_M ddX12_groups [(4,[0]),(14,[1]),(18,[2])] [] [0] 600 q258_N = true := by decide +kernel
set_option maxHeartbeats 4000000 in
theorem q258_met {G : rfG} (h : okG G) : rf_met G q258_M := rf_methodB h.1 (P := q258_P) (U := q258_U) (N := q258_N) ⟨wflT h flokX12, wcsT h csokX12, wlcT h lcokX12, spokX12 h, List.forall_mem_cons.mpr ⟨q198_met h, List.forall_mem_cons.mpr ⟨q257_met h, List.forall_mem_cons.mpr ⟨q199_met h, fun _ h => absurd h List.not_mem_nil⟩⟩⟩, List.forall_mem_cons.mpr ⟨fun M hM => Option.some.inj (show some q198_M = some M from hM) ▸ wlkS (lkX12_334 h) q198_M rfl rfl, fun _ h => absurd h List.not_mem_nil⟩, List.forall_mem_cons.mpr ⟨fun M hM => Option.some.inj (show some q199_M = some M from hM) ▸ wlkV (lkX12_423 h) q199_M rfl rfl, List.forall_mem_cons.mpr ⟨fun M hM => Option.some.inj (show some q257_M = some M from hM) ▸ wlkV (lkX12_450 h) q257_M rfl rfl, fun _ h => absurd h List.not_mem_nil⟩⟩, fun _ h => absurd h List.not_mem_nil, fun _ h => absurd h List.not_mem_nil⟩ dkX12_groups (by decide +kernel) (by rw [h.2.2.1]; exact q258_ok)
/-- NearSpell.groups -/
def q259_M : rfM := ((⟨"NearSpell", "groups", "(I)I"⟩, prog_1_method_27_code, 2, (some .int)), (1,20), ([.inr (.inl [70]),.inl ((7,2147483647,1),none)],[((12,34),(0,0,0),none),((12,35),(0,0,0),none),((12,36),(0,0,0),none),((20,3),(0,0,0),none),((20,4),(0,0,0),none),((61,4),(0,0,0),none)]), [], [(some (.inl (((-1),(-1),0),none)),[],[])])
def q259_P : rfP := (flX11,csX11,lcX11,spX11,[q207_M],[(232,0)],[],([],[]))
def q259_U : rfU := []
set_option maxHeartbeats 8000000 in
def q259_N : List rfB := [(0,([(0,.inr (.inl [70])),(1,.inl ((7,2147483647,1),none))],[],[((12,34),(0,0,0),some ((12,34),0,0)),((12,35),(0,0,0),some ((12,35),0,0)),((12,36),(0,0,0),some ((12,36),0,0)),((20,3),(0,0,0),some ((20,3),0,0)),((20,4),(0,0,0),some ((20,4),0,0)),((61,4),(0,0,0),some ((61,4),0,0))]),(4,[]),0)]
set_option maxRecDepth 100000 in
theorem q259_ok : rf_chkB q259_P q259_U wLay q259_M ddX11_groups [(1,[0])] [] [0] 600 q259_N = true := by decide +kernel
set_option maxHeartbeats 4000000 in
theorem q259_met {G : rfG} (h : okG G) : rf_met G q259_M := rf_methodB h.1 (P := q259_P) (U := q259_U) (N := q259_N) ⟨wflT h flokX11, wcsT h csokX11, wlcT h lcokX11, spokX11 h, List.forall_mem_cons.mpr ⟨q207_met h, fun _ h => absurd h List.not_mem_nil⟩, List.forall_mem_cons.mpr ⟨fun M hM => Option.some.inj (show some q207_M = some M from hM) ▸ wlkS (lkX11_232 h) q207_M rfl rfl, fun _ h => absurd h List.not_mem_nil⟩, fun _ h => absurd h List.not_mem_nil, fun _ h => absurd h List.not_mem_nil, fun _ h => absurd h List.not_mem_nil⟩ dkX11_groups (by decide +kernel) (by rw [h.2.2.1]; exact q259_ok)
/-- NearSpellModel.groups -/
def q260_M : rfM := ((⟨"NearSpellModel", "groups", "(I)I"⟩, prog_14_method_90_code, 6, (some .int)), (1,22), ([.inr (.inl [114]),.inl ((7,2147483647,1),none)],[((90,28),(0,0,0),none),((90,29),(0,0,0),none),((90,36),(0,0,0),none),((114,44),(0,0,0),none),((114,45),(0,0,0),none)]), [], [(some (.inl (((-1),(-1),0),none)),[],[])])
def q260_P : rfP := (flX12,csX12,lcX12,spX12,[q209_M],[(334,0)],[],([],[]))
def q260_U : rfU := []
set_option maxHeartbeats 8000000 in
def q260_N : List rfB := [(0,([(0,.inr (.inl [114])),(1,.inl ((7,2147483647,1),none))],[],[((90,28),(0,0,0),some ((90,28),0,0)),((90,29),(0,0,0),some ((90,29),0,0)),((90,36),(0,0,0),some ((90,36),0,0)),((114,44),(0,0,0),some ((114,44),0,0)),((114,45),(0,0,0),some ((114,45),0,0))]),(6,[]),0)]
set_option maxRecDepth 100000 in
theorem q260_ok : rf_chkB q260_P q260_U wLay q260_M ddX12_groups [(4,[0])] [] [0] 600 q260_N = true := by decide +kernel
set_option maxHeartbeats 4000000 in
theorem q260_met {G : rfG} (h : okG G) : rf_met G q260_M := rf_methodB h.1 (P := q260_P) (U := q260_U) (N := q260_N) ⟨wflT h flokX12, wcsT h csokX12, wlcT h lcokX12, spokX12 h, List.forall_mem_cons.mpr ⟨q209_met h, fun _ h => absurd h List.not_mem_nil⟩, List.forall_mem_cons.mpr ⟨fun M hM => Option.some.inj (show some q209_M = some M from hM) ▸ wlkS (lkX12_334 h) q209_M rfl rfl, fun _ h => absurd h List.not_mem_nil⟩, fun _ h => absurd h List.not_mem_nil, fun _ h => absurd h List.not_mem_nil, fun _ h => absurd h List.not_mem_nil⟩ dkX12_groups (by decide +kernel) (by rw [h.2.2.1]; exact q260_ok)
/-- NearSpell.far -/
def q261_M : rfM := ((⟨"NearSpell", "far", "(II)I"⟩, prog_1_method_28_code, 4, (some .int)), (1,20), ([.inr (.inl [70]),.inl (((-2147483648),(-1),1),none),.inl (((-2147483648),2147483647,1),none)],[((12,34),(0,0,0),none),((12,35),(0,0,0),none),((12,36),(0,0,0),none),((20,3),(0,0,0),none),((20,4),(0,0,0),none),((61,4),(0,0,0),none)]), [], [(some (.inl (((-1),(-1),0),none)),[],[])])
def ddX11_far : List (Nat × Instr × Nat) := [(0,.iload_n 1,1),(1,.invokestatic 232,3),(4,.ifCond .eq 12,3),(7,.iload_n 2,1),(8,.ifCond .lt 8,3),(11,.iload_n 2,1),(12,.iconst 1,1),(13,.if_icmp .le 5,3),(16,.iconst (-1),1),(17,.ireturn,1),(18,.aload_n 0,1),(19,.getfield 83,3),(22,.iload_n 1,1),(23,.invokevirtual 273,3),(26,.istore_n 3,1),(27,.iload_n 2,1),(28,.ifCond .ne 10,3),(31,.iload_n 3,1),(32,.invokestatic 276,3),(35,.goto 4,3),(38,.iload_n 3,1),(39,.ireturn,1)]
set_option maxRecDepth 100000 in
theorem dkX11_far : rf_decs prog_1_method_28_code ddX11_far := rf_decs_of (by decide +kernel)
def q261_P : rfP := (flX11,csX11,lcX11,spX11,[q203_M],[(232,0)],[],([],[]))
def q261_U : rfU := []
set_option maxHeartbeats 8000000 in
def q261_N : List rfB := [(0,([(0,.inr (.inl [70])),(1,.inl (((-2147483648),(-1),1),none)),(2,.inl (((-2147483648),2147483647,1),none))],[],[((12,34),(0,0,0),some ((12,34),0,0)),((12,35),(0,0,0),some ((12,35),0,0)),((12,36),(0,0,0),some ((12,36),0,0)),((20,3),(0,0,0),some ((20,3),0,0)),((20,4),(0,0,0),some ((20,4),0,0)),((61,4),(0,0,0),some ((61,4),0,0))]),(4,[]),0)]
set_option maxRecDepth 100000 in
theorem q261_ok : rf_chkB q261_P q261_U wLay q261_M ddX11_far [(1,[0])] [] [0] 600 q261_N = true := by decide +kernel
set_option maxHeartbeats 4000000 in
theorem q261_met {G : rfG} (h : okG G) : rf_met G q261_M := rf_methodB h.1 (P := q261_P) (U := q261_U) (N := q261_N) ⟨wflT h flokX11, wcsT h csokX11, wlcT h lcokX11, spokX11 h, List.forall_mem_cons.mpr ⟨q203_met h, fun _ h => absurd h List.not_mem_nil⟩, List.forall_mem_cons.mpr ⟨fun M hM => Option.some.inj (show some q203_M = some M from hM) ▸ wlkS (lkX11_232 h) q203_M rfl rfl, fun _ h => absurd h List.not_mem_nil⟩, fun _ h => absurd h List.not_mem_nil, fun _ h => absurd h List.not_mem_nil, fun _ h => absurd h List.not_mem_nil⟩ dkX11_far (by decide +kernel) (by rw [h.2.2.1]; exact q261_ok)
/-- NearSpellModel.far -/
def q262_M : rfM := ((⟨"NearSpellModel", "far", "(II)I"⟩, prog_14_method_92_code, 7, (some .int)), (1,22), ([.inr (.inl [114]),.inl (((-2147483648),(-1),1),none),.inl (((-2147483648),2147483647,1),none)],[((90,28),(0,0,0),none),((90,29),(0,0,0),none),((90,36),(0,0,0),none),((114,44),(0,0,0),none),((114,45),(0,0,0),none)]), [], [(some (.inl (((-1),(-1),0),none)),[],[])])
def ddX12_far : List (Nat × Instr × Nat) := [(0,.iload_n 1,1),(1,.iconst 0,1),(2,.bipush 6,2),(4,.invokestatic 334,3),(7,.ifCond .eq 12,3),(10,.iload_n 2,1),(11,.iconst 0,1),(12,.iconst 1,1),(13,.invokestatic 334,3),(16,.ifCond .ne 5,3),(19,.iconst (-1),1),(20,.ireturn,1),(21,.aload_n 0,1),(22,.iload_n 1,1),(23,.invokevirtual 450,3),(26,.aload_n 0,1),(27,.invokevirtual 423,3),(30,.istore_n 3,1),(31,.iconst 0,1),(32,.istore 4,2),(34,.iconst 0,1),(35,.istore 5,2),(37,.iconst 0,1),(38,.istore 6,2),(40,.iload 6,2),(42,.sipush 16384,3),(45,.if_icmp .ge 51,3),(48,.iload 6,2),(50,.iload_n 3,1),(51,.iconst (-1),1),(52,.ixor,1),(53,.iand,1),(54,.ifCond .ne 36,3),(57,.iload 6,2),(59,.invokestatic 356,3),(62,.iload 5,2),(64,.if_icmp .le 26,3),(67,.aload_n 0,1),(68,.iload 6,2),(70,.invokevirtual 459,3),(73,.ifCond .ne 6,3),(76,.goto 14,3),(79,.iload 6,2),(81,.istore 4,2),(83,.iload 6,2),(85,.invokestatic 356,3),(88,.istore 5,2),(90,.iinc 6 1,3),(93,.goto (-53),3),(96,.iload_n 2,1),(97,.ifCond .ne 8,3),(100,.iload 5,2),(102,.goto 5,3),(105,.iload 4,2),(107,.ireturn,1)]
set_option maxRecDepth 100000 in
theorem dkX12_far : rf_decs prog_14_method_92_code ddX12_far := rf_decs_of (by decide +kernel)
def q262_P : rfP := (flX12,csX12,lcX12,spX12,[q205_M],[(334,0)],[],([],[]))
def q262_U : rfU := []
set_option maxHeartbeats 8000000 in
def q262_N : List rfB := [(0,([(0,.inr (.inl [114])),(1,.inl (((-2147483648),(-1),1),none)),(2,.inl (((-2147483648),2147483647,1),none))],[],[((90,28),(0,0,0),some ((90,28),0,0)),((90,29),(0,0,0),some ((90,29),0,0)),((90,36),(0,0,0),some ((90,36),0,0)),((114,44),(0,0,0),some ((114,44),0,0)),((114,45),(0,0,0),some ((114,45),0,0))]),(6,[]),0)]
set_option maxRecDepth 100000 in
theorem q262_ok : rf_chkB q262_P q262_U wLay q262_M ddX12_far [(4,[0])] [] [0] 600 q262_N = true := by decide +kernel
set_option maxHeartbeats 4000000 in
theorem q262_met {G : rfG} (h : okG G) : rf_met G q262_M := rf_methodB h.1 (P := q262_P) (U := q262_U) (N := q262_N) ⟨wflT h flokX12, wcsT h csokX12, wlcT h lcokX12, spokX12 h, List.forall_mem_cons.mpr ⟨q205_met h, fun _ h => absurd h List.not_mem_nil⟩, List.forall_mem_cons.mpr ⟨fun M hM => Option.some.inj (show some q205_M = some M from hM) ▸ wlkS (lkX12_334 h) q205_M rfl rfl, fun _ h => absurd h List.not_mem_nil⟩, fun _ h => absurd h List.not_mem_nil, fun _ h => absurd h List.not_mem_nil, fun _ h => absurd h List.not_mem_nil⟩ dkX12_far (by decide +kernel) (by rw [h.2.2.1]; exact q262_ok)
/-- NearSpell.far -/
def q263_M : rfM := ((⟨"NearSpell", "far", "(II)I"⟩, prog_1_method_28_code, 4, (some .int)), (1,20), ([.inr (.inl [70]),.inl ((7,2147483647,1),none),.inl (((-2147483648),2147483647,1),none)],[((12,34),(0,0,0),none),((12,35),(0,0,0),none),((12,36),(0,0,0),none),((20,3),(0,0,0),none),((20,4),(0,0,0),none),((61,4),(0,0,0),none)]), [], [(some (.inl (((-1),(-1),0),none)),[],[])])
def q263_P : rfP := (flX11,csX11,lcX11,spX11,[q207_M],[(232,0)],[],([],[]))
def q263_U : rfU := []
set_option maxHeartbeats 8000000 in
def q263_N : List rfB := [(0,([(0,.inr (.inl [70])),(1,.inl ((7,2147483647,1),none)),(2,.inl (((-2147483648),2147483647,1),none))],[],[((12,34),(0,0,0),some ((12,34),0,0)),((12,35),(0,0,0),some ((12,35),0,0)),((12,36),(0,0,0),some ((12,36),0,0)),((20,3),(0,0,0),some ((20,3),0,0)),((20,4),(0,0,0),some ((20,4),0,0)),((61,4),(0,0,0),some ((61,4),0,0))]),(4,[]),0)]
set_option maxRecDepth 100000 in
theorem q263_ok : rf_chkB q263_P q263_U wLay q263_M ddX11_far [(1,[0])] [] [0] 600 q263_N = true := by decide +kernel
set_option maxHeartbeats 4000000 in
theorem q263_met {G : rfG} (h : okG G) : rf_met G q263_M := rf_methodB h.1 (P := q263_P) (U := q263_U) (N := q263_N) ⟨wflT h flokX11, wcsT h csokX11, wlcT h lcokX11, spokX11 h, List.forall_mem_cons.mpr ⟨q207_met h, fun _ h => absurd h List.not_mem_nil⟩, List.forall_mem_cons.mpr ⟨fun M hM => Option.some.inj (show some q207_M = some M from hM) ▸ wlkS (lkX11_232 h) q207_M rfl rfl, fun _ h => absurd h List.not_mem_nil⟩, fun _ h => absurd h List.not_mem_nil, fun _ h => absurd h List.not_mem_nil, fun _ h => absurd h List.not_mem_nil⟩ dkX11_far (by decide +kernel) (by rw [h.2.2.1]; exact q263_ok)
/-- NearSpellModel.far -/
def q264_M : rfM := ((⟨"NearSpellModel", "far", "(II)I"⟩, prog_14_method_92_code, 7, (some .int)), (1,22), ([.inr (.inl [114]),.inl ((7,2147483647,1),none),.inl (((-2147483648),2147483647,1),none)],[((90,28),(0,0,0),none),((90,29),(0,0,0),none),((90,36),(0,0,0),none),((114,44),(0,0,0),none),((114,45),(0,0,0),none)]), [], [(some (.inl (((-1),(-1),0),none)),[],[])])
def q264_P : rfP := (flX12,csX12,lcX12,spX12,[q209_M],[(334,0)],[],([],[]))
def q264_U : rfU := []
set_option maxHeartbeats 8000000 in
def q264_N : List rfB := [(0,([(0,.inr (.inl [114])),(1,.inl ((7,2147483647,1),none)),(2,.inl (((-2147483648),2147483647,1),none))],[],[((90,28),(0,0,0),some ((90,28),0,0)),((90,29),(0,0,0),some ((90,29),0,0)),((90,36),(0,0,0),some ((90,36),0,0)),((114,44),(0,0,0),some ((114,44),0,0)),((114,45),(0,0,0),some ((114,45),0,0))]),(6,[]),0)]
set_option maxRecDepth 100000 in
theorem q264_ok : rf_chkB q264_P q264_U wLay q264_M ddX12_far [(4,[0])] [] [0] 600 q264_N = true := by decide +kernel
set_option maxHeartbeats 4000000 in
theorem q264_met {G : rfG} (h : okG G) : rf_met G q264_M := rf_methodB h.1 (P := q264_P) (U := q264_U) (N := q264_N) ⟨wflT h flokX12, wcsT h csokX12, wlcT h lcokX12, spokX12 h, List.forall_mem_cons.mpr ⟨q209_met h, fun _ h => absurd h List.not_mem_nil⟩, List.forall_mem_cons.mpr ⟨fun M hM => Option.some.inj (show some q209_M = some M from hM) ▸ wlkS (lkX12_334 h) q209_M rfl rfl, fun _ h => absurd h List.not_mem_nil⟩, fun _ h => absurd h List.not_mem_nil, fun _ h => absurd h List.not_mem_nil, fun _ h => absurd h List.not_mem_nil⟩ dkX12_far (by decide +kernel) (by rw [h.2.2.1]; exact q264_ok)
/-- NearSpell.far -/
def q265_M : rfM := ((⟨"NearSpell", "far", "(II)I"⟩, prog_1_method_28_code, 4, (some .int)), (1,20), ([.inr (.inl [70]),.inl ((0,6,1),none),.inl (((-2147483648),(-1),1),none)],[((12,34),(0,0,0),none),((12,35),(0,0,0),none),((12,36),(0,0,0),none),((20,3),(0,0,0),none),((20,4),(0,0,0),none),((61,4),(0,0,0),none)]), [], [(some (.inl (((-1),(-1),0),none)),[],[])])
def q265_P : rfP := (flX11,csX11,lcX11,spX11,[q195_M],[(232,0)],[],([],[]))
def q265_U : rfU := []
set_option maxHeartbeats 8000000 in
def q265_N : List rfB := [(0,([(0,.inr (.inl [70])),(1,.inl ((0,6,1),none)),(2,.inl (((-2147483648),(-1),1),none))],[],[((12,34),(0,0,0),some ((12,34),0,0)),((12,35),(0,0,0),some ((12,35),0,0)),((12,36),(0,0,0),some ((12,36),0,0)),((20,3),(0,0,0),some ((20,3),0,0)),((20,4),(0,0,0),some ((20,4),0,0)),((61,4),(0,0,0),some ((61,4),0,0))]),(6,[]),0)]
set_option maxRecDepth 100000 in
theorem q265_ok : rf_chkB q265_P q265_U wLay q265_M ddX11_far [(1,[0])] [] [0] 600 q265_N = true := by decide +kernel
set_option maxHeartbeats 4000000 in
theorem q265_met {G : rfG} (h : okG G) : rf_met G q265_M := rf_methodB h.1 (P := q265_P) (U := q265_U) (N := q265_N) ⟨wflT h flokX11, wcsT h csokX11, wlcT h lcokX11, spokX11 h, List.forall_mem_cons.mpr ⟨q195_met h, fun _ h => absurd h List.not_mem_nil⟩, List.forall_mem_cons.mpr ⟨fun M hM => Option.some.inj (show some q195_M = some M from hM) ▸ wlkS (lkX11_232 h) q195_M rfl rfl, fun _ h => absurd h List.not_mem_nil⟩, fun _ h => absurd h List.not_mem_nil, fun _ h => absurd h List.not_mem_nil, fun _ h => absurd h List.not_mem_nil⟩ dkX11_far (by decide +kernel) (by rw [h.2.2.1]; exact q265_ok)
/-- NearSpellModel.isIn -/
def q266_M : rfM := ((⟨"NearSpellModel", "isIn", "(III)Z"⟩, prog_14_method_35_code, 3, (some .boolean)), (0,0), ([.inl (((-2147483648),0,1),none),.inl ((0,0,0),none),.inl ((1,1,0),none)],[]), [], [(some (.inl ((1,1,0),none)),[(0,0,0)],[]),(some (.inl ((0,0,0),none)),[(0,(-2147483648),(-1))],[])])
def q266_P : rfP := (flX12,csX12,lcX12,spX12,[],[],[],([],[]))
def q266_U : rfU := []
set_option maxHeartbeats 8000000 in
def q266_N : List rfB := [(0,([(0,.inl (((-2147483648),0,1),none)),(1,.inl ((0,0,0),none)),(2,.inl ((1,1,0),none))],[],[]),(10,[]),0)]
set_option maxRecDepth 100000 in
theorem q266_ok : rf_chkB q266_P q266_U wLay q266_M ddX12_isIn [] [] [0] 600 q266_N = true := by decide +kernel
set_option maxHeartbeats 4000000 in
theorem q266_met {G : rfG} (h : okG G) : rf_met G q266_M := rf_methodB h.1 (P := q266_P) (U := q266_U) (N := q266_N) ⟨wflT h flokX12, wcsT h csokX12, wlcT h lcokX12, spokX12 h, fun _ h => absurd h List.not_mem_nil, fun _ h => absurd h List.not_mem_nil, fun _ h => absurd h List.not_mem_nil, fun _ h => absurd h List.not_mem_nil, fun _ h => absurd h List.not_mem_nil⟩ dkX12_isIn (by decide +kernel) (by rw [h.2.2.1]; exact q266_ok)
/-- NearSpellModel.far -/
def q267_M : rfM := ((⟨"NearSpellModel", "far", "(II)I"⟩, prog_14_method_92_code, 7, (some .int)), (1,22), ([.inr (.inl [114]),.inl ((0,6,1),none),.inl (((-2147483648),(-1),1),none)],[((90,28),(0,0,0),none),((90,29),(0,0,0),none),((90,36),(0,0,0),none),((114,44),(0,0,0),none),((114,45),(0,0,0),none)]), [], [(some (.inl (((-1),(-1),0),none)),[],[])])
def q267_P : rfP := (flX12,csX12,lcX12,spX12,[q198_M,q266_M],[(334,0),(334,1)],[],([],[]))
def q267_U : rfU := []
set_option maxHeartbeats 8000000 in
def q267_N : List rfB := [(0,([(0,.inr (.inl [114])),(1,.inl ((0,6,1),none)),(2,.inl (((-2147483648),(-1),1),none))],[],[((90,28),(0,0,0),some ((90,28),0,0)),((90,29),(0,0,0),some ((90,29),0,0)),((90,36),(0,0,0),some ((90,36),0,0)),((114,44),(0,0,0),some ((114,44),0,0)),((114,45),(0,0,0),some ((114,45),0,0))]),(11,[]),0)]
set_option maxRecDepth 100000 in
theorem q267_ok : rf_chkB q267_P q267_U wLay q267_M ddX12_far [(4,[0]),(13,[1])] [] [0] 600 q267_N = true := by decide +kernel
set_option maxHeartbeats 4000000 in
theorem q267_met {G : rfG} (h : okG G) : rf_met G q267_M := rf_methodB h.1 (P := q267_P) (U := q267_U) (N := q267_N) ⟨wflT h flokX12, wcsT h csokX12, wlcT h lcokX12, spokX12 h, List.forall_mem_cons.mpr ⟨q198_met h, List.forall_mem_cons.mpr ⟨q266_met h, fun _ h => absurd h List.not_mem_nil⟩⟩, List.forall_mem_cons.mpr ⟨fun M hM => Option.some.inj (show some q198_M = some M from hM) ▸ wlkS (lkX12_334 h) q198_M rfl rfl, List.forall_mem_cons.mpr ⟨fun M hM => Option.some.inj (show some q266_M = some M from hM) ▸ wlkS (lkX12_334 h) q266_M rfl rfl, fun _ h => absurd h List.not_mem_nil⟩⟩, fun _ h => absurd h List.not_mem_nil, fun _ h => absurd h List.not_mem_nil, fun _ h => absurd h List.not_mem_nil⟩ dkX12_far (by decide +kernel) (by rw [h.2.2.1]; exact q267_ok)
/-- NearSpell.Web.mostOf -/
def q268_M : rfM := ((⟨"NearSpell$Web", "mostOf", "(II)I"⟩, prog_11_method_14_code, 5, (some .int)), (0,0), ([.inr (.inl [61]),.inl ((0,0,0),none),.inl (((-1),(-1),0),none)],[]), [], [(some (.inl ((0,0,0),none)),[],[])])
def ddX9_mostOf : List (Nat × Instr × Nat) := [(0,.iload_n 2,1),(1,.ifCond .lt 9,3),(4,.iload_n 2,1),(5,.bipush 14,2),(7,.if_icmp .lt 5,3),(10,.iconst 0,1),(11,.ireturn,1),(12,.aload_n 0,1),(13,.iload_n 1,1),(14,.iload_n 2,1),(15,.invokevirtual 50,3),(18,.ifCond .ne 12,3),(21,.aload_n 0,1),(22,.iload_n 1,1),(23,.iload_n 2,1),(24,.iconst 1,1),(25,.isub,1),(26,.invokevirtual 72,3),(29,.ireturn,1),(30,.iload_n 1,1),(31,.iconst 1,1),(32,.iload_n 2,1),(33,.ishl,1),(34,.iconst (-1),1),(35,.ixor,1),(36,.iand,1),(37,.istore_n 3,1),(38,.iconst 1,1),(39,.aload_n 0,1),(40,.iload_n 3,1),(41,.aload_n 0,1),(42,.getfield 23,3),(45,.iload_n 2,1),(46,.iaload,1),(47,.iconst (-1),1),(48,.ixor,1),(49,.iand,1),(50,.iload_n 2,1),(51,.iconst 1,1),(52,.isub,1),(53,.invokevirtual 72,3),(56,.iadd,1),(57,.istore 4,2),(59,.iload_n 3,1),(60,.aload_n 0,1),(61,.getfield 23,3),(64,.iload_n 2,1),(65,.iaload,1),(66,.iand,1),(67,.invokestatic 76,3),(70,.iconst 2,1),(71,.if_icmp .ge 6,3),(74,.iload 4,2),(76,.ireturn,1),(77,.iload 4,2),(79,.aload_n 0,1),(80,.iload_n 3,1),(81,.iload_n 2,1),(82,.iconst 1,1),(83,.isub,1),(84,.invokevirtual 72,3),(87,.invokestatic 81,3),(90,.ireturn,1)]
set_option maxRecDepth 100000 in
theorem dkX9_mostOf : rf_decs prog_11_method_14_code ddX9_mostOf := rf_decs_of (by decide +kernel)
def q268_P : rfP := (flX9,csX9,lcX9,spX9,[],[],[],([],[]))
def q268_U : rfU := []
set_option maxHeartbeats 8000000 in
def q268_N : List rfB := [(0,([(0,.inr (.inl [61])),(1,.inl ((0,0,0),none)),(2,.inl (((-1),(-1),0),none))],[],[]),(3,[]),0)]
set_option maxRecDepth 100000 in
theorem q268_ok : rf_chkB q268_P q268_U wLay q268_M ddX9_mostOf [] [] [0] 600 q268_N = true := by decide +kernel
set_option maxHeartbeats 4000000 in
theorem q268_met {G : rfG} (h : okG G) : rf_met G q268_M := rf_methodB h.1 (P := q268_P) (U := q268_U) (N := q268_N) ⟨wflT h flokX9, wcsT h csokX9, wlcT h lcokX9, spokX9 h, fun _ h => absurd h List.not_mem_nil, fun _ h => absurd h List.not_mem_nil, fun _ h => absurd h List.not_mem_nil, fun _ h => absurd h List.not_mem_nil, fun _ h => absurd h List.not_mem_nil⟩ dkX9_mostOf (by decide +kernel) (by rw [h.2.2.1]; exact q268_ok)
/-- NearSpell.Web.mostOf -/
def q269_M : rfM := ((⟨"NearSpell$Web", "mostOf", "(II)I"⟩, prog_11_method_14_code, 5, (some .int)), (1,24), ([.inr (.inl [61]),.inl ((0,0,0),none),.inl ((0,0,0),none)],[]), [], [(some (.inl ((0,0,0),none)),[],[])])
def q269_P : rfP := (flX9,csX9,lcX9,spX9,[q252_M,q268_M],[],[(50,0,9),(72,1,9)],([],[]))
def q269_U : rfU := []
set_option maxHeartbeats 8000000 in
def q269_N : List rfB := [(0,([(0,.inr (.inl [61])),(1,.inl ((0,0,0),none)),(2,.inl ((0,0,0),none))],[],[]),(16,[]),0)]
set_option maxRecDepth 100000 in
theorem q269_ok : rf_chkB q269_P q269_U wLay q269_M ddX9_mostOf [(15,[0]),(26,[1])] [] [0] 600 q269_N = true := by decide +kernel
set_option maxHeartbeats 4000000 in
theorem q269_met {G : rfG} (h : okG G) : rf_met G q269_M := rf_methodB h.1 (P := q269_P) (U := q269_U) (N := q269_N) ⟨wflT h flokX9, wcsT h csokX9, wlcT h lcokX9, spokX9 h, List.forall_mem_cons.mpr ⟨q252_met h, List.forall_mem_cons.mpr ⟨q268_met h, fun _ h => absurd h List.not_mem_nil⟩⟩, fun _ h => absurd h List.not_mem_nil, List.forall_mem_cons.mpr ⟨fun M hM => Option.some.inj (show some q252_M = some M from hM) ▸ wlkV (lkX9_50 h) q252_M rfl rfl, List.forall_mem_cons.mpr ⟨fun M hM => Option.some.inj (show some q268_M = some M from hM) ▸ wlkV (lkX9_72 h) q268_M rfl rfl, fun _ h => absurd h List.not_mem_nil⟩⟩, fun _ h => absurd h List.not_mem_nil, fun _ h => absurd h List.not_mem_nil⟩ dkX9_mostOf (by decide +kernel) (by rw [h.2.2.1]; exact q269_ok)
/-- NearSpell.Web.mostOf -/
def q270_M : rfM := ((⟨"NearSpell$Web", "mostOf", "(II)I"⟩, prog_11_method_14_code, 5, (some .int)), (2,48), ([.inr (.inl [61]),.inl ((0,0,0),none),.inl ((1,1,0),none)],[]), [], [(some (.inl ((0,0,0),none)),[],[])])
def q270_P : rfP := (flX9,csX9,lcX9,spX9,[q252_M,q269_M],[],[(50,0,9),(72,1,9)],([],[]))
def q270_U : rfU := []
set_option maxHeartbeats 8000000 in
def q270_N : List rfB := [(0,([(0,.inr (.inl [61])),(1,.inl ((0,0,0),none)),(2,.inl ((1,1,0),none))],[],[]),(16,[]),0)]
set_option maxRecDepth 100000 in
theorem q270_ok : rf_chkB q270_P q270_U wLay q270_M ddX9_mostOf [(15,[0]),(26,[1])] [] [0] 600 q270_N = true := by decide +kernel
set_option maxHeartbeats 4000000 in
theorem q270_met {G : rfG} (h : okG G) : rf_met G q270_M := rf_methodB h.1 (P := q270_P) (U := q270_U) (N := q270_N) ⟨wflT h flokX9, wcsT h csokX9, wlcT h lcokX9, spokX9 h, List.forall_mem_cons.mpr ⟨q252_met h, List.forall_mem_cons.mpr ⟨q269_met h, fun _ h => absurd h List.not_mem_nil⟩⟩, fun _ h => absurd h List.not_mem_nil, List.forall_mem_cons.mpr ⟨fun M hM => Option.some.inj (show some q252_M = some M from hM) ▸ wlkV (lkX9_50 h) q252_M rfl rfl, List.forall_mem_cons.mpr ⟨fun M hM => Option.some.inj (show some q269_M = some M from hM) ▸ wlkV (lkX9_72 h) q269_M rfl rfl, fun _ h => absurd h List.not_mem_nil⟩⟩, fun _ h => absurd h List.not_mem_nil, fun _ h => absurd h List.not_mem_nil⟩ dkX9_mostOf (by decide +kernel) (by rw [h.2.2.1]; exact q270_ok)
/-- NearSpell.Web.mostOf -/
def q271_M : rfM := ((⟨"NearSpell$Web", "mostOf", "(II)I"⟩, prog_11_method_14_code, 5, (some .int)), (3,72), ([.inr (.inl [61]),.inl ((0,0,0),none),.inl ((2,2,0),none)],[]), [], [(some (.inl ((0,0,0),none)),[],[])])
def q271_P : rfP := (flX9,csX9,lcX9,spX9,[q252_M,q270_M],[],[(50,0,9),(72,1,9)],([],[]))
def q271_U : rfU := []
set_option maxHeartbeats 8000000 in
def q271_N : List rfB := [(0,([(0,.inr (.inl [61])),(1,.inl ((0,0,0),none)),(2,.inl ((2,2,0),none))],[],[]),(16,[]),0)]
set_option maxRecDepth 100000 in
theorem q271_ok : rf_chkB q271_P q271_U wLay q271_M ddX9_mostOf [(15,[0]),(26,[1])] [] [0] 600 q271_N = true := by decide +kernel
set_option maxHeartbeats 4000000 in
theorem q271_met {G : rfG} (h : okG G) : rf_met G q271_M := rf_methodB h.1 (P := q271_P) (U := q271_U) (N := q271_N) ⟨wflT h flokX9, wcsT h csokX9, wlcT h lcokX9, spokX9 h, List.forall_mem_cons.mpr ⟨q252_met h, List.forall_mem_cons.mpr ⟨q270_met h, fun _ h => absurd h List.not_mem_nil⟩⟩, fun _ h => absurd h List.not_mem_nil, List.forall_mem_cons.mpr ⟨fun M hM => Option.some.inj (show some q252_M = some M from hM) ▸ wlkV (lkX9_50 h) q252_M rfl rfl, List.forall_mem_cons.mpr ⟨fun M hM => Option.some.inj (show some q270_M = some M from hM) ▸ wlkV (lkX9_72 h) q270_M rfl rfl, fun _ h => absurd h List.not_mem_nil⟩⟩, fun _ h => absurd h List.not_mem_nil, fun _ h => absurd h List.not_mem_nil⟩ dkX9_mostOf (by decide +kernel) (by rw [h.2.2.1]; exact q271_ok)
/-- NearSpell.Web.mostOf -/
def q272_M : rfM := ((⟨"NearSpell$Web", "mostOf", "(II)I"⟩, prog_11_method_14_code, 5, (some .int)), (4,96), ([.inr (.inl [61]),.inl ((0,0,0),none),.inl ((3,3,0),none)],[]), [], [(some (.inl ((0,0,0),none)),[],[])])
def q272_P : rfP := (flX9,csX9,lcX9,spX9,[q252_M,q271_M],[],[(50,0,9),(72,1,9)],([],[]))
def q272_U : rfU := []
set_option maxHeartbeats 8000000 in
def q272_N : List rfB := [(0,([(0,.inr (.inl [61])),(1,.inl ((0,0,0),none)),(2,.inl ((3,3,0),none))],[],[]),(16,[]),0)]
set_option maxRecDepth 100000 in
theorem q272_ok : rf_chkB q272_P q272_U wLay q272_M ddX9_mostOf [(15,[0]),(26,[1])] [] [0] 600 q272_N = true := by decide +kernel
set_option maxHeartbeats 4000000 in
theorem q272_met {G : rfG} (h : okG G) : rf_met G q272_M := rf_methodB h.1 (P := q272_P) (U := q272_U) (N := q272_N) ⟨wflT h flokX9, wcsT h csokX9, wlcT h lcokX9, spokX9 h, List.forall_mem_cons.mpr ⟨q252_met h, List.forall_mem_cons.mpr ⟨q271_met h, fun _ h => absurd h List.not_mem_nil⟩⟩, fun _ h => absurd h List.not_mem_nil, List.forall_mem_cons.mpr ⟨fun M hM => Option.some.inj (show some q252_M = some M from hM) ▸ wlkV (lkX9_50 h) q252_M rfl rfl, List.forall_mem_cons.mpr ⟨fun M hM => Option.some.inj (show some q271_M = some M from hM) ▸ wlkV (lkX9_72 h) q271_M rfl rfl, fun _ h => absurd h List.not_mem_nil⟩⟩, fun _ h => absurd h List.not_mem_nil, fun _ h => absurd h List.not_mem_nil⟩ dkX9_mostOf (by decide +kernel) (by rw [h.2.2.1]; exact q272_ok)
/-- NearSpell.Web.mostOf -/
def q273_M : rfM := ((⟨"NearSpell$Web", "mostOf", "(II)I"⟩, prog_11_method_14_code, 5, (some .int)), (5,120), ([.inr (.inl [61]),.inl ((0,0,0),none),.inl ((4,4,0),none)],[]), [], [(some (.inl ((0,0,0),none)),[],[])])
def q273_P : rfP := (flX9,csX9,lcX9,spX9,[q252_M,q272_M],[],[(50,0,9),(72,1,9)],([],[]))
def q273_U : rfU := []
set_option maxHeartbeats 8000000 in
def q273_N : List rfB := [(0,([(0,.inr (.inl [61])),(1,.inl ((0,0,0),none)),(2,.inl ((4,4,0),none))],[],[]),(16,[]),0)]
set_option maxRecDepth 100000 in
theorem q273_ok : rf_chkB q273_P q273_U wLay q273_M ddX9_mostOf [(15,[0]),(26,[1])] [] [0] 600 q273_N = true := by decide +kernel
set_option maxHeartbeats 4000000 in
theorem q273_met {G : rfG} (h : okG G) : rf_met G q273_M := rf_methodB h.1 (P := q273_P) (U := q273_U) (N := q273_N) ⟨wflT h flokX9, wcsT h csokX9, wlcT h lcokX9, spokX9 h, List.forall_mem_cons.mpr ⟨q252_met h, List.forall_mem_cons.mpr ⟨q272_met h, fun _ h => absurd h List.not_mem_nil⟩⟩, fun _ h => absurd h List.not_mem_nil, List.forall_mem_cons.mpr ⟨fun M hM => Option.some.inj (show some q252_M = some M from hM) ▸ wlkV (lkX9_50 h) q252_M rfl rfl, List.forall_mem_cons.mpr ⟨fun M hM => Option.some.inj (show some q272_M = some M from hM) ▸ wlkV (lkX9_72 h) q272_M rfl rfl, fun _ h => absurd h List.not_mem_nil⟩⟩, fun _ h => absurd h List.not_mem_nil, fun _ h => absurd h List.not_mem_nil⟩ dkX9_mostOf (by decide +kernel) (by rw [h.2.2.1]; exact q273_ok)
/-- NearSpell.Web.mostOf -/
def q274_M : rfM := ((⟨"NearSpell$Web", "mostOf", "(II)I"⟩, prog_11_method_14_code, 5, (some .int)), (6,144), ([.inr (.inl [61]),.inl ((0,0,0),none),.inl ((5,5,0),none)],[]), [], [(some (.inl ((0,0,0),none)),[],[])])
def q274_P : rfP := (flX9,csX9,lcX9,spX9,[q252_M,q273_M],[],[(50,0,9),(72,1,9)],([],[]))
def q274_U : rfU := []
set_option maxHeartbeats 8000000 in
def q274_N : List rfB := [(0,([(0,.inr (.inl [61])),(1,.inl ((0,0,0),none)),(2,.inl ((5,5,0),none))],[],[]),(16,[]),0)]
set_option maxRecDepth 100000 in
theorem q274_ok : rf_chkB q274_P q274_U wLay q274_M ddX9_mostOf [(15,[0]),(26,[1])] [] [0] 600 q274_N = true := by decide +kernel
set_option maxHeartbeats 4000000 in
theorem q274_met {G : rfG} (h : okG G) : rf_met G q274_M := rf_methodB h.1 (P := q274_P) (U := q274_U) (N := q274_N) ⟨wflT h flokX9, wcsT h csokX9, wlcT h lcokX9, spokX9 h, List.forall_mem_cons.mpr ⟨q252_met h, List.forall_mem_cons.mpr ⟨q273_met h, fun _ h => absurd h List.not_mem_nil⟩⟩, fun _ h => absurd h List.not_mem_nil, List.forall_mem_cons.mpr ⟨fun M hM => Option.some.inj (show some q252_M = some M from hM) ▸ wlkV (lkX9_50 h) q252_M rfl rfl, List.forall_mem_cons.mpr ⟨fun M hM => Option.some.inj (show some q273_M = some M from hM) ▸ wlkV (lkX9_72 h) q273_M rfl rfl, fun _ h => absurd h List.not_mem_nil⟩⟩, fun _ h => absurd h List.not_mem_nil, fun _ h => absurd h List.not_mem_nil⟩ dkX9_mostOf (by decide +kernel) (by rw [h.2.2.1]; exact q274_ok)
/-- NearSpell.Web.mostOf -/
def q275_M : rfM := ((⟨"NearSpell$Web", "mostOf", "(II)I"⟩, prog_11_method_14_code, 5, (some .int)), (7,168), ([.inr (.inl [61]),.inl ((0,0,0),none),.inl ((6,6,0),none)],[]), [], [(some (.inl ((0,0,0),none)),[],[])])
def q275_P : rfP := (flX9,csX9,lcX9,spX9,[q252_M,q274_M],[],[(50,0,9),(72,1,9)],([],[]))
def q275_U : rfU := []
set_option maxHeartbeats 8000000 in
def q275_N : List rfB := [(0,([(0,.inr (.inl [61])),(1,.inl ((0,0,0),none)),(2,.inl ((6,6,0),none))],[],[]),(16,[]),0)]
set_option maxRecDepth 100000 in
theorem q275_ok : rf_chkB q275_P q275_U wLay q275_M ddX9_mostOf [(15,[0]),(26,[1])] [] [0] 600 q275_N = true := by decide +kernel
set_option maxHeartbeats 4000000 in
theorem q275_met {G : rfG} (h : okG G) : rf_met G q275_M := rf_methodB h.1 (P := q275_P) (U := q275_U) (N := q275_N) ⟨wflT h flokX9, wcsT h csokX9, wlcT h lcokX9, spokX9 h, List.forall_mem_cons.mpr ⟨q252_met h, List.forall_mem_cons.mpr ⟨q274_met h, fun _ h => absurd h List.not_mem_nil⟩⟩, fun _ h => absurd h List.not_mem_nil, List.forall_mem_cons.mpr ⟨fun M hM => Option.some.inj (show some q252_M = some M from hM) ▸ wlkV (lkX9_50 h) q252_M rfl rfl, List.forall_mem_cons.mpr ⟨fun M hM => Option.some.inj (show some q274_M = some M from hM) ▸ wlkV (lkX9_72 h) q274_M rfl rfl, fun _ h => absurd h List.not_mem_nil⟩⟩, fun _ h => absurd h List.not_mem_nil, fun _ h => absurd h List.not_mem_nil⟩ dkX9_mostOf (by decide +kernel) (by rw [h.2.2.1]; exact q275_ok)
/-- NearSpell.Web.mostOf -/
def q276_M : rfM := ((⟨"NearSpell$Web", "mostOf", "(II)I"⟩, prog_11_method_14_code, 5, (some .int)), (8,192), ([.inr (.inl [61]),.inl ((0,0,0),none),.inl ((7,7,0),none)],[]), [], [(some (.inl ((0,0,0),none)),[],[])])
def q276_P : rfP := (flX9,csX9,lcX9,spX9,[q252_M,q275_M],[],[(50,0,9),(72,1,9)],([],[]))
def q276_U : rfU := []
set_option maxHeartbeats 8000000 in
def q276_N : List rfB := [(0,([(0,.inr (.inl [61])),(1,.inl ((0,0,0),none)),(2,.inl ((7,7,0),none))],[],[]),(16,[]),0)]
set_option maxRecDepth 100000 in
theorem q276_ok : rf_chkB q276_P q276_U wLay q276_M ddX9_mostOf [(15,[0]),(26,[1])] [] [0] 600 q276_N = true := by decide +kernel
set_option maxHeartbeats 4000000 in
theorem q276_met {G : rfG} (h : okG G) : rf_met G q276_M := rf_methodB h.1 (P := q276_P) (U := q276_U) (N := q276_N) ⟨wflT h flokX9, wcsT h csokX9, wlcT h lcokX9, spokX9 h, List.forall_mem_cons.mpr ⟨q252_met h, List.forall_mem_cons.mpr ⟨q275_met h, fun _ h => absurd h List.not_mem_nil⟩⟩, fun _ h => absurd h List.not_mem_nil, List.forall_mem_cons.mpr ⟨fun M hM => Option.some.inj (show some q252_M = some M from hM) ▸ wlkV (lkX9_50 h) q252_M rfl rfl, List.forall_mem_cons.mpr ⟨fun M hM => Option.some.inj (show some q275_M = some M from hM) ▸ wlkV (lkX9_72 h) q275_M rfl rfl, fun _ h => absurd h List.not_mem_nil⟩⟩, fun _ h => absurd h List.not_mem_nil, fun _ h => absurd h List.not_mem_nil⟩ dkX9_mostOf (by decide +kernel) (by rw [h.2.2.1]; exact q276_ok)
/-- NearSpell.Web.mostOf -/
def q277_M : rfM := ((⟨"NearSpell$Web", "mostOf", "(II)I"⟩, prog_11_method_14_code, 5, (some .int)), (9,216), ([.inr (.inl [61]),.inl ((0,0,0),none),.inl ((8,8,0),none)],[]), [], [(some (.inl ((0,0,0),none)),[],[])])
def q277_P : rfP := (flX9,csX9,lcX9,spX9,[q252_M,q276_M],[],[(50,0,9),(72,1,9)],([],[]))
def q277_U : rfU := []
set_option maxHeartbeats 8000000 in
def q277_N : List rfB := [(0,([(0,.inr (.inl [61])),(1,.inl ((0,0,0),none)),(2,.inl ((8,8,0),none))],[],[]),(16,[]),0)]
set_option maxRecDepth 100000 in
theorem q277_ok : rf_chkB q277_P q277_U wLay q277_M ddX9_mostOf [(15,[0]),(26,[1])] [] [0] 600 q277_N = true := by decide +kernel
set_option maxHeartbeats 4000000 in
theorem q277_met {G : rfG} (h : okG G) : rf_met G q277_M := rf_methodB h.1 (P := q277_P) (U := q277_U) (N := q277_N) ⟨wflT h flokX9, wcsT h csokX9, wlcT h lcokX9, spokX9 h, List.forall_mem_cons.mpr ⟨q252_met h, List.forall_mem_cons.mpr ⟨q276_met h, fun _ h => absurd h List.not_mem_nil⟩⟩, fun _ h => absurd h List.not_mem_nil, List.forall_mem_cons.mpr ⟨fun M hM => Option.some.inj (show some q252_M = some M from hM) ▸ wlkV (lkX9_50 h) q252_M rfl rfl, List.forall_mem_cons.mpr ⟨fun M hM => Option.some.inj (show some q276_M = some M from hM) ▸ wlkV (lkX9_72 h) q276_M rfl rfl, fun _ h => absurd h List.not_mem_nil⟩⟩, fun _ h => absurd h List.not_mem_nil, fun _ h => absurd h List.not_mem_nil⟩ dkX9_mostOf (by decide +kernel) (by rw [h.2.2.1]; exact q277_ok)
/-- NearSpell.Web.mostOf -/
def q278_M : rfM := ((⟨"NearSpell$Web", "mostOf", "(II)I"⟩, prog_11_method_14_code, 5, (some .int)), (10,240), ([.inr (.inl [61]),.inl ((0,0,0),none),.inl ((9,9,0),none)],[]), [], [(some (.inl ((0,0,0),none)),[],[])])
def q278_P : rfP := (flX9,csX9,lcX9,spX9,[q252_M,q277_M],[],[(50,0,9),(72,1,9)],([],[]))
def q278_U : rfU := []
set_option maxHeartbeats 8000000 in
def q278_N : List rfB := [(0,([(0,.inr (.inl [61])),(1,.inl ((0,0,0),none)),(2,.inl ((9,9,0),none))],[],[]),(16,[]),0)]
set_option maxRecDepth 100000 in
theorem q278_ok : rf_chkB q278_P q278_U wLay q278_M ddX9_mostOf [(15,[0]),(26,[1])] [] [0] 600 q278_N = true := by decide +kernel
set_option maxHeartbeats 4000000 in
theorem q278_met {G : rfG} (h : okG G) : rf_met G q278_M := rf_methodB h.1 (P := q278_P) (U := q278_U) (N := q278_N) ⟨wflT h flokX9, wcsT h csokX9, wlcT h lcokX9, spokX9 h, List.forall_mem_cons.mpr ⟨q252_met h, List.forall_mem_cons.mpr ⟨q277_met h, fun _ h => absurd h List.not_mem_nil⟩⟩, fun _ h => absurd h List.not_mem_nil, List.forall_mem_cons.mpr ⟨fun M hM => Option.some.inj (show some q252_M = some M from hM) ▸ wlkV (lkX9_50 h) q252_M rfl rfl, List.forall_mem_cons.mpr ⟨fun M hM => Option.some.inj (show some q277_M = some M from hM) ▸ wlkV (lkX9_72 h) q277_M rfl rfl, fun _ h => absurd h List.not_mem_nil⟩⟩, fun _ h => absurd h List.not_mem_nil, fun _ h => absurd h List.not_mem_nil⟩ dkX9_mostOf (by decide +kernel) (by rw [h.2.2.1]; exact q278_ok)
/-- NearSpell.Web.mostOf -/
def q279_M : rfM := ((⟨"NearSpell$Web", "mostOf", "(II)I"⟩, prog_11_method_14_code, 5, (some .int)), (11,264), ([.inr (.inl [61]),.inl ((0,0,0),none),.inl ((10,10,0),none)],[]), [], [(some (.inl ((0,0,0),none)),[],[])])
def q279_P : rfP := (flX9,csX9,lcX9,spX9,[q252_M,q278_M],[],[(50,0,9),(72,1,9)],([],[]))
def q279_U : rfU := []
set_option maxHeartbeats 8000000 in
def q279_N : List rfB := [(0,([(0,.inr (.inl [61])),(1,.inl ((0,0,0),none)),(2,.inl ((10,10,0),none))],[],[]),(16,[]),0)]
set_option maxRecDepth 100000 in
theorem q279_ok : rf_chkB q279_P q279_U wLay q279_M ddX9_mostOf [(15,[0]),(26,[1])] [] [0] 600 q279_N = true := by decide +kernel
set_option maxHeartbeats 4000000 in
theorem q279_met {G : rfG} (h : okG G) : rf_met G q279_M := rf_methodB h.1 (P := q279_P) (U := q279_U) (N := q279_N) ⟨wflT h flokX9, wcsT h csokX9, wlcT h lcokX9, spokX9 h, List.forall_mem_cons.mpr ⟨q252_met h, List.forall_mem_cons.mpr ⟨q278_met h, fun _ h => absurd h List.not_mem_nil⟩⟩, fun _ h => absurd h List.not_mem_nil, List.forall_mem_cons.mpr ⟨fun M hM => Option.some.inj (show some q252_M = some M from hM) ▸ wlkV (lkX9_50 h) q252_M rfl rfl, List.forall_mem_cons.mpr ⟨fun M hM => Option.some.inj (show some q278_M = some M from hM) ▸ wlkV (lkX9_72 h) q278_M rfl rfl, fun _ h => absurd h List.not_mem_nil⟩⟩, fun _ h => absurd h List.not_mem_nil, fun _ h => absurd h List.not_mem_nil⟩ dkX9_mostOf (by decide +kernel) (by rw [h.2.2.1]; exact q279_ok)
/-- NearSpell.Web.mostOf -/
def q280_M : rfM := ((⟨"NearSpell$Web", "mostOf", "(II)I"⟩, prog_11_method_14_code, 5, (some .int)), (12,288), ([.inr (.inl [61]),.inl ((0,0,0),none),.inl ((11,11,0),none)],[]), [], [(some (.inl ((0,0,0),none)),[],[])])
def q280_P : rfP := (flX9,csX9,lcX9,spX9,[q252_M,q279_M],[],[(50,0,9),(72,1,9)],([],[]))
def q280_U : rfU := []
set_option maxHeartbeats 8000000 in
def q280_N : List rfB := [(0,([(0,.inr (.inl [61])),(1,.inl ((0,0,0),none)),(2,.inl ((11,11,0),none))],[],[]),(16,[]),0)]
set_option maxRecDepth 100000 in
theorem q280_ok : rf_chkB q280_P q280_U wLay q280_M ddX9_mostOf [(15,[0]),(26,[1])] [] [0] 600 q280_N = true := by decide +kernel
set_option maxHeartbeats 4000000 in
theorem q280_met {G : rfG} (h : okG G) : rf_met G q280_M := rf_methodB h.1 (P := q280_P) (U := q280_U) (N := q280_N) ⟨wflT h flokX9, wcsT h csokX9, wlcT h lcokX9, spokX9 h, List.forall_mem_cons.mpr ⟨q252_met h, List.forall_mem_cons.mpr ⟨q279_met h, fun _ h => absurd h List.not_mem_nil⟩⟩, fun _ h => absurd h List.not_mem_nil, List.forall_mem_cons.mpr ⟨fun M hM => Option.some.inj (show some q252_M = some M from hM) ▸ wlkV (lkX9_50 h) q252_M rfl rfl, List.forall_mem_cons.mpr ⟨fun M hM => Option.some.inj (show some q279_M = some M from hM) ▸ wlkV (lkX9_72 h) q279_M rfl rfl, fun _ h => absurd h List.not_mem_nil⟩⟩, fun _ h => absurd h List.not_mem_nil, fun _ h => absurd h List.not_mem_nil⟩ dkX9_mostOf (by decide +kernel) (by rw [h.2.2.1]; exact q280_ok)
/-- NearSpell.Web.mostOf -/
def q281_M : rfM := ((⟨"NearSpell$Web", "mostOf", "(II)I"⟩, prog_11_method_14_code, 5, (some .int)), (13,312), ([.inr (.inl [61]),.inl ((0,0,0),none),.inl ((12,12,0),none)],[]), [], [(some (.inl ((0,0,0),none)),[],[])])
def q281_P : rfP := (flX9,csX9,lcX9,spX9,[q252_M,q280_M],[],[(50,0,9),(72,1,9)],([],[]))
def q281_U : rfU := []
set_option maxHeartbeats 8000000 in
def q281_N : List rfB := [(0,([(0,.inr (.inl [61])),(1,.inl ((0,0,0),none)),(2,.inl ((12,12,0),none))],[],[]),(16,[]),0)]
set_option maxRecDepth 100000 in
theorem q281_ok : rf_chkB q281_P q281_U wLay q281_M ddX9_mostOf [(15,[0]),(26,[1])] [] [0] 600 q281_N = true := by decide +kernel
set_option maxHeartbeats 4000000 in
theorem q281_met {G : rfG} (h : okG G) : rf_met G q281_M := rf_methodB h.1 (P := q281_P) (U := q281_U) (N := q281_N) ⟨wflT h flokX9, wcsT h csokX9, wlcT h lcokX9, spokX9 h, List.forall_mem_cons.mpr ⟨q252_met h, List.forall_mem_cons.mpr ⟨q280_met h, fun _ h => absurd h List.not_mem_nil⟩⟩, fun _ h => absurd h List.not_mem_nil, List.forall_mem_cons.mpr ⟨fun M hM => Option.some.inj (show some q252_M = some M from hM) ▸ wlkV (lkX9_50 h) q252_M rfl rfl, List.forall_mem_cons.mpr ⟨fun M hM => Option.some.inj (show some q280_M = some M from hM) ▸ wlkV (lkX9_72 h) q280_M rfl rfl, fun _ h => absurd h List.not_mem_nil⟩⟩, fun _ h => absurd h List.not_mem_nil, fun _ h => absurd h List.not_mem_nil⟩ dkX9_mostOf (by decide +kernel) (by rw [h.2.2.1]; exact q281_ok)
/-- NearSpell.Web.mostOf -/
def q282_M : rfM := ((⟨"NearSpell$Web", "mostOf", "(II)I"⟩, prog_11_method_14_code, 5, (some .int)), (14,336), ([.inr (.inl [61]),.inl ((0,0,0),none),.inl ((13,13,0),none)],[]), [], [(some (.inl ((0,0,0),none)),[],[])])
def q282_P : rfP := (flX9,csX9,lcX9,spX9,[q252_M,q281_M],[],[(50,0,9),(72,1,9)],([],[]))
def q282_U : rfU := []
set_option maxHeartbeats 8000000 in
def q282_N : List rfB := [(0,([(0,.inr (.inl [61])),(1,.inl ((0,0,0),none)),(2,.inl ((13,13,0),none))],[],[]),(16,[]),0)]
set_option maxRecDepth 100000 in
theorem q282_ok : rf_chkB q282_P q282_U wLay q282_M ddX9_mostOf [(15,[0]),(26,[1])] [] [0] 600 q282_N = true := by decide +kernel
set_option maxHeartbeats 4000000 in
theorem q282_met {G : rfG} (h : okG G) : rf_met G q282_M := rf_methodB h.1 (P := q282_P) (U := q282_U) (N := q282_N) ⟨wflT h flokX9, wcsT h csokX9, wlcT h lcokX9, spokX9 h, List.forall_mem_cons.mpr ⟨q252_met h, List.forall_mem_cons.mpr ⟨q281_met h, fun _ h => absurd h List.not_mem_nil⟩⟩, fun _ h => absurd h List.not_mem_nil, List.forall_mem_cons.mpr ⟨fun M hM => Option.some.inj (show some q252_M = some M from hM) ▸ wlkV (lkX9_50 h) q252_M rfl rfl, List.forall_mem_cons.mpr ⟨fun M hM => Option.some.inj (show some q281_M = some M from hM) ▸ wlkV (lkX9_72 h) q281_M rfl rfl, fun _ h => absurd h List.not_mem_nil⟩⟩, fun _ h => absurd h List.not_mem_nil, fun _ h => absurd h List.not_mem_nil⟩ dkX9_mostOf (by decide +kernel) (by rw [h.2.2.1]; exact q282_ok)
/-- NearSpell.Web.farApart -/
def q283_M : rfM := ((⟨"NearSpell$Web", "farApart", "(I)I"⟩, prog_11_method_13_code, 6, (some .int)), (15,360), ([.inr (.inl [61]),.inl ((0,6,1),none)],[((12,34),(0,0,0),none),((12,35),(0,0,0),none),((12,36),(0,0,0),none),((20,3),(0,0,0),none),((20,4),(0,0,0),none),((61,4),(0,0,0),none)]), [(60,0),(61,5)], [(some (.inl ((0,0,0),none)),[],[((60,0),(0,0,0),none),((60,1),(0,0,0),none),((60,2),(0,0,0),none),((60,3),(0,0,0),none),((60,4),(0,0,0),none),((60,5),(0,0,0),none),((60,6),(0,0,0),none),((60,7),(0,0,0),none),((60,8),(0,0,0),none),((60,9),(0,0,0),none),((60,10),(0,0,0),none),((60,11),(0,0,0),none),((60,12),(0,0,0),none),((60,13),(0,0,0),none),((61,4),(0,0,0),none)])])
def ddX9_farApart : List (Nat × Instr × Nat) := [(0,.aload_n 0,1),(1,.iload_n 1,1),(2,.invokevirtual 60,3),(5,.aload_n 0,1),(6,.getfield 26,3),(9,.istore_n 2,1),(10,.iconst 0,1),(11,.istore_n 3,1),(12,.aload_n 0,1),(13,.iload_n 2,1),(14,.bipush 13,2),(16,.invokevirtual 72,3),(19,.istore 4,2),(21,.bipush 13,2),(23,.istore 5,2),(25,.iload 5,2),(27,.ifCond .lt 64,3),(30,.aload_n 0,1),(31,.iload_n 2,1),(32,.iload 5,2),(34,.invokevirtual 50,3),(37,.ifCond .eq 48,3),(40,.iload_n 2,1),(41,.iconst 1,1),(42,.iload 5,2),(44,.ishl,1),(45,.iconst (-1),1),(46,.ixor,1),(47,.iand,1),(48,.istore_n 2,1),(49,.aload_n 0,1),(50,.iload_n 2,1),(51,.iload 5,2),(53,.iconst 1,1),(54,.isub,1),(55,.invokevirtual 72,3),(58,.iload 4,2),(60,.if_icmp .ge 25,3),(63,.iload_n 3,1),(64,.iconst 1,1),(65,.iload 5,2),(67,.ishl,1),(68,.ior,1),(69,.istore_n 3,1),(70,.iload_n 2,1),(71,.aload_n 0,1),(72,.getfield 23,3),(75,.iload 5,2),(77,.iaload,1),(78,.iconst (-1),1),(79,.ixor,1),(80,.iand,1),(81,.istore_n 2,1),(82,.iinc 4 (-1),3),(85,.iinc 5 (-1),3),(88,.goto (-63),3),(91,.iload_n 3,1),(92,.ireturn,1)]
set_option maxRecDepth 100000 in
theorem dkX9_farApart : rf_decs prog_11_method_13_code ddX9_farApart := rf_decs_of (by decide +kernel)
def q283_P : rfP := (flX9,csX9,lcX9,spX9,[q253_M,q282_M,q252_M],[],[(50,2,9),(60,0,9),(72,1,9)],([],[]))
def q283_U : rfU := []
set_option maxHeartbeats 8000000 in
def q283_N : List rfB := [(0,([(0,.inr (.inl [61])),(1,.inl ((0,6,1),none))],[],[((12,34),(0,0,0),some ((12,34),0,0)),((12,35),(0,0,0),some ((12,35),0,0)),((12,36),(0,0,0),some ((12,36),0,0)),((20,3),(0,0,0),some ((20,3),0,0)),((20,4),(0,0,0),some ((20,4),0,0)),((61,4),(0,0,0),some ((61,4),0,0))]),(166,[0]),0)]
set_option maxRecDepth 100000 in
theorem q283_ok : rf_chkB q283_P q283_U wLay q283_M ddX9_farApart [(2,[0]),(16,[1]),(34,[2])] [.inl 5] [0] 150 q283_N = true := by decide +kernel
set_option maxHeartbeats 4000000 in
theorem q283_met {G : rfG} (h : okG G) : rf_met G q283_M := rf_methodB h.1 (P := q283_P) (U := q283_U) (N := q283_N) ⟨wflT h flokX9, wcsT h csokX9, wlcT h lcokX9, spokX9 h, List.forall_mem_cons.mpr ⟨q253_met h, List.forall_mem_cons.mpr ⟨q282_met h, List.forall_mem_cons.mpr ⟨q252_met h, fun _ h => absurd h List.not_mem_nil⟩⟩⟩, fun _ h => absurd h List.not_mem_nil, List.forall_mem_cons.mpr ⟨fun M hM => Option.some.inj (show some q252_M = some M from hM) ▸ wlkV (lkX9_50 h) q252_M rfl rfl, List.forall_mem_cons.mpr ⟨fun M hM => Option.some.inj (show some q253_M = some M from hM) ▸ wlkV (lkX9_60 h) q253_M rfl rfl, List.forall_mem_cons.mpr ⟨fun M hM => Option.some.inj (show some q282_M = some M from hM) ▸ wlkV (lkX9_72 h) q282_M rfl rfl, fun _ h => absurd h List.not_mem_nil⟩⟩⟩, fun _ h => absurd h List.not_mem_nil, fun _ h => absurd h List.not_mem_nil⟩ dkX9_farApart (by decide +kernel) (by rw [h.2.2.1]; exact q283_ok)
/-- NearSpell.far -/
def q285_M : rfM := ((⟨"NearSpell", "far", "(II)I"⟩, prog_1_method_28_code, 4, (some .int)), (16,385), ([.inr (.inl [70]),.inl ((0,6,1),none),.inl ((0,0,0),none)],[((12,34),(0,0,0),none),((12,35),(0,0,0),none),((12,36),(0,0,0),none),((20,3),(0,0,0),none),((20,4),(0,0,0),none),((61,4),(0,0,0),none)]), [(60,0),(61,5)], [(some (.inl ((0,0,0),none)),[],[((60,0),(0,0,0),none),((60,1),(0,0,0),none),((60,2),(0,0,0),none),((60,3),(0,0,0),none),((60,4),(0,0,0),none),((60,5),(0,0,0),none),((60,6),(0,0,0),none),((60,7),(0,0,0),none),((60,8),(0,0,0),none),((60,9),(0,0,0),none),((60,10),(0,0,0),none),((60,11),(0,0,0),none),((60,12),(0,0,0),none),((60,13),(0,0,0),none),((61,4),(0,0,0),none)])])
def q285_P : rfP := (flX11,csX11,lcX11,spX11,[q195_M,q283_M,hq_bc_M],[(232,0),(276,2)],[(273,1,9)],([],[]))
def q285_U : rfU := []
set_option maxHeartbeats 8000000 in
def q285_N : List rfB := [(0,([(0,.inr (.inl [70])),(1,.inl ((0,6,1),none)),(2,.inl ((0,0,0),none))],[],[((12,34),(0,0,0),some ((12,34),0,0)),((12,35),(0,0,0),some ((12,35),0,0)),((12,36),(0,0,0),some ((12,36),0,0)),((20,3),(0,0,0),some ((20,3),0,0)),((20,4),(0,0,0),some ((20,4),0,0)),((61,4),(0,0,0),some ((61,4),0,0))]),(18,[]),0)]
set_option maxRecDepth 100000 in
theorem q285_ok : rf_chkB q285_P q285_U wLay q285_M ddX11_far [(1,[0]),(23,[1]),(32,[2])] [] [0] 600 q285_N = true := by decide +kernel
set_option maxHeartbeats 4000000 in
theorem q285_met {G : rfG} (h : okG G) : rf_met G q285_M := rf_methodB h.1 (P := q285_P) (U := q285_U) (N := q285_N) ⟨wflT h flokX11, wcsT h csokX11, wlcT h lcokX11, spokX11 h, List.forall_mem_cons.mpr ⟨q195_met h, List.forall_mem_cons.mpr ⟨q283_met h, List.forall_mem_cons.mpr ⟨hq_bc_met h, fun _ h => absurd h List.not_mem_nil⟩⟩⟩, List.forall_mem_cons.mpr ⟨fun M hM => Option.some.inj (show some q195_M = some M from hM) ▸ wlkS (lkX11_232 h) q195_M rfl rfl, List.forall_mem_cons.mpr ⟨fun M hM => Option.some.inj (show some hq_bc_M = some M from hM) ▸ wlkS (lkX11_276 h) hq_bc_M rfl rfl, fun _ h => absurd h List.not_mem_nil⟩⟩, List.forall_mem_cons.mpr ⟨fun M hM => Option.some.inj (show some q283_M = some M from hM) ▸ wlkV (lkX11_273 h) q283_M rfl rfl, fun _ h => absurd h List.not_mem_nil⟩, fun _ h => absurd h List.not_mem_nil, fun _ h => absurd h List.not_mem_nil⟩ dkX11_far (by decide +kernel) (by rw [h.2.2.1]; exact q285_ok)
/-- NearSpell.far -/
def q286_M : rfM := ((⟨"NearSpell", "far", "(II)I"⟩, prog_1_method_28_code, 4, (some .int)), (16,385), ([.inr (.inl [70]),.inl ((0,6,1),none),.inl ((1,1,0),none)],[((12,34),(0,0,0),none),((12,35),(0,0,0),none),((12,36),(0,0,0),none),((20,3),(0,0,0),none),((20,4),(0,0,0),none),((61,4),(0,0,0),none)]), [(60,0),(61,5)], [(some (.inl ((0,0,0),none)),[],[((60,0),(0,0,0),none),((60,1),(0,0,0),none),((60,2),(0,0,0),none),((60,3),(0,0,0),none),((60,4),(0,0,0),none),((60,5),(0,0,0),none),((60,6),(0,0,0),none),((60,7),(0,0,0),none),((60,8),(0,0,0),none),((60,9),(0,0,0),none),((60,10),(0,0,0),none),((60,11),(0,0,0),none),((60,12),(0,0,0),none),((60,13),(0,0,0),none),((61,4),(0,0,0),none)])])
def q286_P : rfP := (flX11,csX11,lcX11,spX11,[q195_M,q283_M],[(232,0)],[(273,1,9)],([],[]))
def q286_U : rfU := []
set_option maxHeartbeats 8000000 in
def q286_N : List rfB := [(0,([(0,.inr (.inl [70])),(1,.inl ((0,6,1),none)),(2,.inl ((1,1,0),none))],[],[((12,34),(0,0,0),some ((12,34),0,0)),((12,35),(0,0,0),some ((12,35),0,0)),((12,36),(0,0,0),some ((12,36),0,0)),((20,3),(0,0,0),some ((20,3),0,0)),((20,4),(0,0,0),some ((20,4),0,0)),((61,4),(0,0,0),some ((61,4),0,0))]),(16,[]),0)]
set_option maxRecDepth 100000 in
theorem q286_ok : rf_chkB q286_P q286_U wLay q286_M ddX11_far [(1,[0]),(23,[1])] [] [0] 600 q286_N = true := by decide +kernel
set_option maxHeartbeats 4000000 in
theorem q286_met {G : rfG} (h : okG G) : rf_met G q286_M := rf_methodB h.1 (P := q286_P) (U := q286_U) (N := q286_N) ⟨wflT h flokX11, wcsT h csokX11, wlcT h lcokX11, spokX11 h, List.forall_mem_cons.mpr ⟨q195_met h, List.forall_mem_cons.mpr ⟨q283_met h, fun _ h => absurd h List.not_mem_nil⟩⟩, List.forall_mem_cons.mpr ⟨fun M hM => Option.some.inj (show some q195_M = some M from hM) ▸ wlkS (lkX11_232 h) q195_M rfl rfl, fun _ h => absurd h List.not_mem_nil⟩, List.forall_mem_cons.mpr ⟨fun M hM => Option.some.inj (show some q283_M = some M from hM) ▸ wlkV (lkX11_273 h) q283_M rfl rfl, fun _ h => absurd h List.not_mem_nil⟩, fun _ h => absurd h List.not_mem_nil, fun _ h => absurd h List.not_mem_nil⟩ dkX11_far (by decide +kernel) (by rw [h.2.2.1]; exact q286_ok)
/-- NearSpell.far -/
def q287_M : rfM := ((⟨"NearSpell", "far", "(II)I"⟩, prog_1_method_28_code, 4, (some .int)), (1,20), ([.inr (.inl [70]),.inl ((0,6,1),none),.inl ((2,2147483647,1),none)],[((12,34),(0,0,0),none),((12,35),(0,0,0),none),((12,36),(0,0,0),none),((20,3),(0,0,0),none),((20,4),(0,0,0),none),((61,4),(0,0,0),none)]), [], [(some (.inl (((-1),(-1),0),none)),[],[])])
def q287_P : rfP := (flX11,csX11,lcX11,spX11,[q195_M],[(232,0)],[],([],[]))
def q287_U : rfU := []
set_option maxHeartbeats 8000000 in
def q287_N : List rfB := [(0,([(0,.inr (.inl [70])),(1,.inl ((0,6,1),none)),(2,.inl ((2,2147483647,1),none))],[],[((12,34),(0,0,0),some ((12,34),0,0)),((12,35),(0,0,0),some ((12,35),0,0)),((12,36),(0,0,0),some ((12,36),0,0)),((20,3),(0,0,0),some ((20,3),0,0)),((20,4),(0,0,0),some ((20,4),0,0)),((61,4),(0,0,0),some ((61,4),0,0))]),(9,[]),0)]
set_option maxRecDepth 100000 in
theorem q287_ok : rf_chkB q287_P q287_U wLay q287_M ddX11_far [(1,[0])] [] [0] 600 q287_N = true := by decide +kernel
set_option maxHeartbeats 4000000 in
theorem q287_met {G : rfG} (h : okG G) : rf_met G q287_M := rf_methodB h.1 (P := q287_P) (U := q287_U) (N := q287_N) ⟨wflT h flokX11, wcsT h csokX11, wlcT h lcokX11, spokX11 h, List.forall_mem_cons.mpr ⟨q195_met h, fun _ h => absurd h List.not_mem_nil⟩, List.forall_mem_cons.mpr ⟨fun M hM => Option.some.inj (show some q195_M = some M from hM) ▸ wlkS (lkX11_232 h) q195_M rfl rfl, fun _ h => absurd h List.not_mem_nil⟩, fun _ h => absurd h List.not_mem_nil, fun _ h => absurd h List.not_mem_nil, fun _ h => absurd h List.not_mem_nil⟩ dkX11_far (by decide +kernel) (by rw [h.2.2.1]; exact q287_ok)
/-- NearSpellModel.isIn -/
def q288_M : rfM := ((⟨"NearSpellModel", "isIn", "(III)Z"⟩, prog_14_method_35_code, 3, (some .boolean)), (0,0), ([.inl ((1,2147483647,1),none),.inl ((0,0,0),none),.inl ((1,1,0),none)],[]), [], [(some (.inl ((1,1,0),none)),[(0,1,1)],[]),(some (.inl ((0,0,0),none)),[(0,2,2147483647)],[])])
def q288_P : rfP := (flX12,csX12,lcX12,spX12,[],[],[],([],[]))
def q288_U : rfU := []
set_option maxHeartbeats 8000000 in
def q288_N : List rfB := [(0,([(0,.inl ((1,2147483647,1),none)),(1,.inl ((0,0,0),none)),(2,.inl ((1,1,0),none))],[],[]),(10,[]),0)]
set_option maxRecDepth 100000 in
theorem q288_ok : rf_chkB q288_P q288_U wLay q288_M ddX12_isIn [] [] [0] 600 q288_N = true := by decide +kernel
set_option maxHeartbeats 4000000 in
theorem q288_met {G : rfG} (h : okG G) : rf_met G q288_M := rf_methodB h.1 (P := q288_P) (U := q288_U) (N := q288_N) ⟨wflT h flokX12, wcsT h csokX12, wlcT h lcokX12, spokX12 h, fun _ h => absurd h List.not_mem_nil, fun _ h => absurd h List.not_mem_nil, fun _ h => absurd h List.not_mem_nil, fun _ h => absurd h List.not_mem_nil, fun _ h => absurd h List.not_mem_nil⟩ dkX12_isIn (by decide +kernel) (by rw [h.2.2.1]; exact q288_ok)
/-- NearSpellModel.far -/
def q289_M : rfM := ((⟨"NearSpellModel", "far", "(II)I"⟩, prog_14_method_92_code, 7, (some .int)), (1,22), ([.inr (.inl [114]),.inl ((0,6,1),none),.inl ((2,2147483647,1),none)],[((90,28),(0,0,0),none),((90,29),(0,0,0),none),((90,36),(0,0,0),none),((114,44),(0,0,0),none),((114,45),(0,0,0),none)]), [], [(some (.inl (((-1),(-1),0),none)),[],[])])
def q289_P : rfP := (flX12,csX12,lcX12,spX12,[q198_M,q288_M],[(334,0),(334,1)],[],([],[]))
def q289_U : rfU := []
set_option maxHeartbeats 8000000 in
def q289_N : List rfB := [(0,([(0,.inr (.inl [114])),(1,.inl ((0,6,1),none)),(2,.inl ((2,2147483647,1),none))],[],[((90,28),(0,0,0),some ((90,28),0,0)),((90,29),(0,0,0),some ((90,29),0,0)),((90,36),(0,0,0),some ((90,36),0,0)),((114,44),(0,0,0),some ((114,44),0,0)),((114,45),(0,0,0),some ((114,45),0,0))]),(11,[]),0)]
set_option maxRecDepth 100000 in
theorem q289_ok : rf_chkB q289_P q289_U wLay q289_M ddX12_far [(4,[0]),(13,[1])] [] [0] 600 q289_N = true := by decide +kernel
set_option maxHeartbeats 4000000 in
theorem q289_met {G : rfG} (h : okG G) : rf_met G q289_M := rf_methodB h.1 (P := q289_P) (U := q289_U) (N := q289_N) ⟨wflT h flokX12, wcsT h csokX12, wlcT h lcokX12, spokX12 h, List.forall_mem_cons.mpr ⟨q198_met h, List.forall_mem_cons.mpr ⟨q288_met h, fun _ h => absurd h List.not_mem_nil⟩⟩, List.forall_mem_cons.mpr ⟨fun M hM => Option.some.inj (show some q198_M = some M from hM) ▸ wlkS (lkX12_334 h) q198_M rfl rfl, List.forall_mem_cons.mpr ⟨fun M hM => Option.some.inj (show some q288_M = some M from hM) ▸ wlkS (lkX12_334 h) q288_M rfl rfl, fun _ h => absurd h List.not_mem_nil⟩⟩, fun _ h => absurd h List.not_mem_nil, fun _ h => absurd h List.not_mem_nil, fun _ h => absurd h List.not_mem_nil⟩ dkX12_far (by decide +kernel) (by rw [h.2.2.1]; exact q289_ok)
/-- NearSpell.Web.middleEntry -/
def q290_M : rfM := ((⟨"NearSpell$Web", "middleEntry", "()I"⟩, prog_11_method_11_code, 5, (some .int)), (2,43), ([.inr (.inl [61])],[((12,34),(0,0,0),none),((12,35),(0,0,0),none),((12,36),(0,0,0),none),((20,3),(0,0,0),none),((20,4),(0,0,0),none),((61,4),(0,0,0),none)]), [(61,5)], [(some (.inl (((-1),(-1),0),none)),[],[((61,4),(0,0,0),none)])])
def ddX9_middleEntry : List (Nat × Instr × Nat) := [(0,.aload_n 0,1),(1,.invokevirtual 57,3),(4,.iconst (-1),1),(5,.istore_n 1,1),(6,.bipush 85,2),(8,.istore_n 2,1),(9,.iconst 0,1),(10,.istore_n 3,1),(11,.iload_n 3,1),(12,.bipush 14,2),(14,.if_icmp .ge 43,3),(17,.aload_n 0,1),(18,.aload_n 0,1),(19,.getfield 26,3),(22,.iload_n 3,1),(23,.invokevirtual 50,3),(26,.ifCond .eq 11,3),(29,.aload_n 0,1),(30,.iload_n 3,1),(31,.invokevirtual 69,3),(34,.goto 4,3),(37,.iload_n 2,1),(38,.istore 4,2),(40,.iload 4,2),(42,.iload_n 2,1),(43,.if_icmp .ge 8,3),(46,.iload_n 3,1),(47,.istore_n 1,1),(48,.iload 4,2),(50,.istore_n 2,1),(51,.iinc 3 1,3),(54,.goto (-43),3),(57,.iload_n 1,1),(58,.ireturn,1)]
set_option maxRecDepth 100000 in
theorem dkX9_middleEntry : rf_decs prog_11_method_11_code ddX9_middleEntry := rf_decs_of (by decide +kernel)
def q290_P : rfP := (flX9,csX9,lcX9,spX9,[q251_M,q252_M],[],[(50,1,9),(57,0,9)],([],[]))
def q290_U : rfU := []
set_option maxHeartbeats 8000000 in
def q290_N : List rfB := [(0,([(0,.inr (.inl [61]))],[],[((12,34),(0,0,0),some ((12,34),0,0)),((12,35),(0,0,0),some ((12,35),0,0)),((12,36),(0,0,0),some ((12,36),0,0)),((20,3),(0,0,0),some ((20,3),0,0)),((20,4),(0,0,0),some ((20,4),0,0)),((61,4),(0,0,0),some ((61,4),0,0))]),(264,[0]),0)]
set_option maxRecDepth 100000 in
theorem q290_ok : rf_chkB q290_P q290_U wLay q290_M ddX9_middleEntry [(1,[0]),(23,[1])] [.inl 3] [0] 242 q290_N = true := by decide +kernel
set_option maxHeartbeats 4000000 in
theorem q290_met {G : rfG} (h : okG G) : rf_met G q290_M := rf_methodB h.1 (P := q290_P) (U := q290_U) (N := q290_N) ⟨wflT h flokX9, wcsT h csokX9, wlcT h lcokX9, spokX9 h, List.forall_mem_cons.mpr ⟨q251_met h, List.forall_mem_cons.mpr ⟨q252_met h, fun _ h => absurd h List.not_mem_nil⟩⟩, fun _ h => absurd h List.not_mem_nil, List.forall_mem_cons.mpr ⟨fun M hM => Option.some.inj (show some q252_M = some M from hM) ▸ wlkV (lkX9_50 h) q252_M rfl rfl, List.forall_mem_cons.mpr ⟨fun M hM => Option.some.inj (show some q251_M = some M from hM) ▸ wlkV (lkX9_57 h) q251_M rfl rfl, fun _ h => absurd h List.not_mem_nil⟩⟩, fun _ h => absurd h List.not_mem_nil, fun _ h => absurd h List.not_mem_nil⟩ dkX9_middleEntry (by decide +kernel) (by rw [h.2.2.1]; exact q290_ok)
/-- NearSpell.middle -/
def q291_M : rfM := ((⟨"NearSpell", "middle", "()I"⟩, prog_1_method_29_code, 1, (some .int)), (3,67), ([.inr (.inl [70])],[((12,34),(0,0,0),none),((12,35),(0,0,0),none),((12,36),(0,0,0),none),((20,3),(0,0,0),none),((20,4),(0,0,0),none),((61,4),(0,0,0),none)]), [(61,5)], [(some (.inl (((-1),(-1),0),none)),[],[((61,4),(0,0,0),none)])])
def ddX11_middle : List (Nat × Instr × Nat) := [(0,.aload_n 0,1),(1,.getfield 83,3),(4,.invokevirtual 281,3),(7,.ireturn,1)]
set_option maxRecDepth 100000 in
theorem dkX11_middle : rf_decs prog_1_method_29_code ddX11_middle := rf_decs_of (by decide +kernel)
def q291_P : rfP := (flX11,csX11,lcX11,spX11,[q290_M],[],[(281,0,9)],([],[]))
def q291_U : rfU := []
set_option maxHeartbeats 8000000 in
def q291_N : List rfB := [(0,([(0,.inr (.inl [70]))],[],[((12,34),(0,0,0),some ((12,34),0,0)),((12,35),(0,0,0),some ((12,35),0,0)),((12,36),(0,0,0),some ((12,36),0,0)),((20,3),(0,0,0),some ((20,3),0,0)),((20,4),(0,0,0),some ((20,4),0,0)),((61,4),(0,0,0),some ((61,4),0,0))]),(3,[]),0)]
set_option maxRecDepth 100000 in
theorem q291_ok : rf_chkB q291_P q291_U wLay q291_M ddX11_middle [(4,[0])] [] [0] 600 q291_N = true := by decide +kernel
set_option maxHeartbeats 4000000 in
theorem q291_met {G : rfG} (h : okG G) : rf_met G q291_M := rf_methodB h.1 (P := q291_P) (U := q291_U) (N := q291_N) ⟨wflT h flokX11, wcsT h csokX11, wlcT h lcokX11, spokX11 h, List.forall_mem_cons.mpr ⟨q290_met h, fun _ h => absurd h List.not_mem_nil⟩, fun _ h => absurd h List.not_mem_nil, List.forall_mem_cons.mpr ⟨fun M hM => Option.some.inj (show some q290_M = some M from hM) ▸ wlkV (lkX11_281 h) q290_M rfl rfl, fun _ h => absurd h List.not_mem_nil⟩, fun _ h => absurd h List.not_mem_nil, fun _ h => absurd h List.not_mem_nil⟩ dkX11_middle (by decide +kernel) (by rw [h.2.2.1]; exact q291_ok)
/-- NearSpellModel.middle -/
def q292_M : rfM := ((⟨"NearSpellModel", "middle", "()I"⟩, prog_14_method_93_code, 6, (some .int)), (3,66), ([.inr (.inl [114])],[((90,28),(0,0,0),none),((90,29),(0,0,0),none),((90,36),(0,0,0),none),((114,44),(0,0,0),none),((114,45),(0,0,0),none)]), [(103,0)], [(some (.inl (((-1),(-1),0),none)),[],[])])
def ddX12_middle : List (Nat × Instr × Nat) := [(0,.aload_n 0,1),(1,.invokevirtual 447,3),(4,.iconst (-1),1),(5,.istore_n 1,1),(6,.iconst 0,1),(7,.istore_n 2,1),(8,.iconst 0,1),(9,.istore_n 3,1),(10,.iload_n 3,1),(11,.bipush 14,2),(13,.if_icmp .ge 87,3),(16,.aload_n 0,1),(17,.iload_n 3,1),(18,.invokevirtual 350,3),(21,.ifCond .ne 6,3),(24,.goto 70,3),(27,.iconst 0,1),(28,.istore 4,2),(30,.iconst 0,1),(31,.istore 5,2),(33,.iload 5,2),(35,.bipush 14,2),(37,.if_icmp .ge 39,3),(40,.iload 4,2),(42,.aload_n 0,1),(43,.iload 5,2),(45,.invokevirtual 350,3),(48,.ifCond .eq 18,3),(51,.aload_n 0,1),(52,.getfield 111,3),(55,.bipush 14,2),(57,.iload_n 3,1),(58,.imul,1),(59,.iload 5,2),(61,.iadd,1),(62,.iaload,1),(63,.goto 4,3),(66,.iconst 0,1),(67,.iadd,1),(68,.istore 4,2),(70,.iinc 5 1,3),(73,.goto (-40),3),(76,.iload_n 1,1),(77,.ifCond .lt 12,3),(80,.iload 4,2),(82,.iload_n 2,1),(83,.if_icmp .lt 6,3),(86,.goto 8,3),(89,.iload_n 3,1),(90,.istore_n 1,1),(91,.iload 4,2),(93,.istore_n 2,1),(94,.iinc 3 1,3),(97,.goto (-87),3),(100,.iload_n 1,1),(101,.ireturn,1)]
set_option maxRecDepth 100000 in
theorem dkX12_middle : rf_decs prog_14_method_93_code ddX12_middle := rf_decs_of (by decide +kernel)
def q292_P : rfP := (flX12,csX12,lcX12,spX12,[q256_M,q68_M],[],[(350,1,12),(447,0,12)],([],[]))
def q292_U : rfU := []
set_option maxHeartbeats 8000000 in
def q292_N : List rfB := [(0,([(0,.inr (.inl [114]))],[],[((90,28),(0,0,0),some ((90,28),0,0)),((90,29),(0,0,0),some ((90,29),0,0)),((90,36),(0,0,0),some ((90,36),0,0)),((114,44),(0,0,0),some ((114,44),0,0)),((114,45),(0,0,0),some ((114,45),0,0))]),(174,[0]),0)]
set_option maxRecDepth 100000 in
theorem q292_ok : rf_chkB q292_P q292_U wLay q292_M ddX12_middle [(1,[0]),(18,[1])] [.inl 3] [0] 158 q292_N = true := by decide +kernel
set_option maxHeartbeats 4000000 in
theorem q292_met {G : rfG} (h : okG G) : rf_met G q292_M := rf_methodB h.1 (P := q292_P) (U := q292_U) (N := q292_N) ⟨wflT h flokX12, wcsT h csokX12, wlcT h lcokX12, spokX12 h, List.forall_mem_cons.mpr ⟨q256_met h, List.forall_mem_cons.mpr ⟨q68_met h, fun _ h => absurd h List.not_mem_nil⟩⟩, fun _ h => absurd h List.not_mem_nil, List.forall_mem_cons.mpr ⟨fun M hM => Option.some.inj (show some q68_M = some M from hM) ▸ wlkV (lkX12_350 h) q68_M rfl rfl, List.forall_mem_cons.mpr ⟨fun M hM => Option.some.inj (show some q256_M = some M from hM) ▸ wlkV (lkX12_447 h) q256_M rfl rfl, fun _ h => absurd h List.not_mem_nil⟩⟩, fun _ h => absurd h List.not_mem_nil, fun _ h => absurd h List.not_mem_nil⟩ dkX12_middle (by decide +kernel) (by rw [h.2.2.1]; exact q292_ok)
/-- NearSpell.chain -/
def q293_M : rfM := ((⟨"NearSpell", "chain", "(III)I"⟩, prog_1_method_30_code, 4, (some .int)), (1,21), ([.inr (.inl [70]),.inl (((-2147483648),2147483647,1),none),.inl (((-2147483648),2147483647,1),none),.inl (((-2147483648),2147483647,1),none)],[((12,34),(0,0,0),none),((12,35),(0,0,0),none),((12,36),(0,0,0),none),((20,3),(0,0,0),none),((20,4),(0,0,0),none),((61,4),(0,0,0),none)]), [], [(some (.inl (((-1),(-1),0),none)),[],[])])
def ddX11_chain : List (Nat × Instr × Nat) := [(0,.aload_n 0,1),(1,.getfield 35,3),(4,.iload_n 1,1),(5,.invokevirtual 141,3),(8,.ifCond .eq 21,3),(11,.aload_n 0,1),(12,.getfield 35,3),(15,.iload_n 2,1),(16,.invokevirtual 141,3),(19,.ifCond .eq 10,3),(22,.iload_n 3,1),(23,.invokestatic 232,3),(26,.ifCond .ne 5,3),(29,.iconst (-1),1),(30,.ireturn,1),(31,.aload_n 0,1),(32,.getfield 83,3),(35,.iload_n 1,1),(36,.iload_n 2,1),(37,.iload_n 3,1),(38,.invokevirtual 284,3),(41,.ireturn,1)]
set_option maxRecDepth 100000 in
theorem dkX11_chain : rf_decs prog_1_method_30_code ddX11_chain := rf_decs_of (by decide +kernel)
def q293_P : rfP := (flX11,csX11,lcX11,spX11,[q38_M],[],[(141,0,8)],([],[]))
def q293_U : rfU := []
set_option maxHeartbeats 8000000 in
def q293_N : List rfB := [(0,([(0,.inr (.inl [70])),(1,.inl (((-2147483648),2147483647,1),none)),(2,.inl (((-2147483648),2147483647,1),none)),(3,.inl (((-2147483648),2147483647,1),none))],[],[((12,34),(0,0,0),some ((12,34),0,0)),((12,35),(0,0,0),some ((12,35),0,0)),((12,36),(0,0,0),some ((12,36),0,0)),((20,3),(0,0,0),some ((20,3),0,0)),((20,4),(0,0,0),some ((20,4),0,0)),((61,4),(0,0,0),some ((61,4),0,0))]),(6,[]),0)]
set_option maxRecDepth 100000 in
theorem q293_ok : rf_chkB q293_P q293_U wLay q293_M ddX11_chain [(5,[0])] [] [0] 600 q293_N = true := by decide +kernel
set_option maxHeartbeats 4000000 in
theorem q293_met {G : rfG} (h : okG G) : rf_met G q293_M := rf_methodB h.1 (P := q293_P) (U := q293_U) (N := q293_N) ⟨wflT h flokX11, wcsT h csokX11, wlcT h lcokX11, spokX11 h, List.forall_mem_cons.mpr ⟨q38_met h, fun _ h => absurd h List.not_mem_nil⟩, fun _ h => absurd h List.not_mem_nil, List.forall_mem_cons.mpr ⟨fun M hM => Option.some.inj (show some q38_M = some M from hM) ▸ wlkV (lkX11_141 h) q38_M rfl rfl, fun _ h => absurd h List.not_mem_nil⟩, fun _ h => absurd h List.not_mem_nil, fun _ h => absurd h List.not_mem_nil⟩ dkX11_chain (by decide +kernel) (by rw [h.2.2.1]; exact q293_ok)
/-- NearSpellModel.chain -/
def q294_M : rfM := ((⟨"NearSpellModel", "chain", "(III)I"⟩, prog_14_method_94_code, 6, (some .int)), (2,43), ([.inr (.inl [114]),.inl (((-2147483648),2147483647,1),none),.inl (((-2147483648),2147483647,1),none),.inl (((-2147483648),2147483647,1),none)],[((90,28),(0,0,0),none),((90,29),(0,0,0),none),((90,36),(0,0,0),none),((114,44),(0,0,0),none),((114,45),(0,0,0),none)]), [], [(some (.inl (((-1),(-1),0),none)),[],[])])
def ddX12_chain : List (Nat × Instr × Nat) := [(0,.aload_n 0,1),(1,.iload_n 1,1),(2,.invokevirtual 350,3),(5,.ifCond .eq 21,3),(8,.aload_n 0,1),(9,.iload_n 2,1),(10,.invokevirtual 350,3),(13,.ifCond .eq 13,3),(16,.iload_n 3,1),(17,.iconst 0,1),(18,.bipush 6,2),(20,.invokestatic 334,3),(23,.ifCond .ne 5,3),(26,.iconst (-1),1),(27,.ireturn,1),(28,.aload_n 0,1),(29,.iload_n 3,1),(30,.invokevirtual 450,3),(33,.iconst 1,1),(34,.iload_n 1,1),(35,.ishl,1),(36,.istore 4,2),(38,.iconst 0,1),(39,.istore 5,2),(41,.iload 5,2),(43,.bipush 14,2),(45,.if_icmp .ge 26,3),(48,.iload 4,2),(50,.iload_n 2,1),(51,.invokestatic 251,3),(54,.ifCond .ne 17,3),(57,.aload_n 0,1),(58,.iload 4,2),(60,.invokevirtual 456,3),(63,.istore 4,2),(65,.iinc 5 1,3),(68,.goto (-27),3),(71,.iload 4,2),(73,.iload_n 2,1),(74,.invokestatic 251,3),(77,.ifCond .eq 8,3),(80,.iload 5,2),(82,.goto 4,3),(85,.iconst (-1),1),(86,.ireturn,1)]
set_option maxRecDepth 100000 in
theorem dkX12_chain : rf_decs prog_14_method_94_code ddX12_chain := rf_decs_of (by decide +kernel)
def q294_P : rfP := (flX12,csX12,lcX12,spX12,[q41_M],[],[(350,0,12)],([],[]))
def q294_U : rfU := []
set_option maxHeartbeats 8000000 in
def q294_N : List rfB := [(0,([(0,.inr (.inl [114])),(1,.inl (((-2147483648),2147483647,1),none)),(2,.inl (((-2147483648),2147483647,1),none)),(3,.inl (((-2147483648),2147483647,1),none))],[],[((90,28),(0,0,0),some ((90,28),0,0)),((90,29),(0,0,0),some ((90,29),0,0)),((90,36),(0,0,0),some ((90,36),0,0)),((114,44),(0,0,0),some ((114,44),0,0)),((114,45),(0,0,0),some ((114,45),0,0))]),(5,[]),0)]
set_option maxRecDepth 100000 in
theorem q294_ok : rf_chkB q294_P q294_U wLay q294_M ddX12_chain [(2,[0])] [] [0] 600 q294_N = true := by decide +kernel
set_option maxHeartbeats 4000000 in
theorem q294_met {G : rfG} (h : okG G) : rf_met G q294_M := rf_methodB h.1 (P := q294_P) (U := q294_U) (N := q294_N) ⟨wflT h flokX12, wcsT h csokX12, wlcT h lcokX12, spokX12 h, List.forall_mem_cons.mpr ⟨q41_met h, fun _ h => absurd h List.not_mem_nil⟩, fun _ h => absurd h List.not_mem_nil, List.forall_mem_cons.mpr ⟨fun M hM => Option.some.inj (show some q41_M = some M from hM) ▸ wlkV (lkX12_350 h) q41_M rfl rfl, fun _ h => absurd h List.not_mem_nil⟩, fun _ h => absurd h List.not_mem_nil, fun _ h => absurd h List.not_mem_nil⟩ dkX12_chain (by decide +kernel) (by rw [h.2.2.1]; exact q294_ok)
/-- NearSpell.Finder.mostUsedFrom -/
def q295_M : rfM := ((⟨"NearSpell$Finder", "mostUsedFrom", "(I)I"⟩, prog_4_method_9_code, 6, (some .int)), (1,21), ([.inr (.inl [55]),.inl ((0,387420488,1),none)],[((12,34),(0,0,0),none),((12,35),(0,0,0),none),((12,36),(0,0,0),none)]), [], [(some (.inl (((-1),(-1),0),none)),[],[])])
def ddX2_mostUsedFrom : List (Nat × Instr × Nat) := [(0,.iload_n 1,1),(1,.invokestatic 90,3),(4,.istore_n 2,1),(5,.iconst (-1),1),(6,.istore_n 3,1),(7,.iconst 0,1),(8,.istore 4,2),(10,.iload 4,2),(12,.aload_n 0,1),(13,.getfield 15,3),(16,.invokevirtual 43,3),(19,.if_icmp .ge 78,3),(22,.aload_n 0,1),(23,.getfield 15,3),(26,.iload 4,2),(28,.invokevirtual 49,3),(31,.ifCond .eq 24,3),(34,.aload_n 0,1),(35,.getfield 15,3),(38,.iload 4,2),(40,.invokevirtual 66,3),(43,.iload_n 2,1),(44,.invokestatic 93,3),(47,.iload_n 1,1),(48,.if_icmp .ne 7,3),(51,.iconst 1,1),(52,.goto 4,3),(55,.iconst 0,1),(56,.istore 5,2),(58,.iload 5,2),(60,.ifCond .eq 31,3),(63,.iload_n 3,1),(64,.iconst (-1),1),(65,.if_icmp .eq 23,3),(68,.aload_n 0,1),(69,.getfield 15,3),(72,.iload 4,2),(74,.invokevirtual 87,3),(77,.aload_n 0,1),(78,.getfield 15,3),(81,.iload_n 3,1),(82,.invokevirtual 87,3),(85,.if_icmp .le 6,3),(88,.iload 4,2),(90,.istore_n 3,1),(91,.iinc 4 1,3),(94,.goto (-84),3),(97,.iload_n 3,1),(98,.ireturn,1)]
set_option maxRecDepth 100000 in
theorem dkX2_mostUsedFrom : rf_decs prog_4_method_9_code ddX2_mostUsedFrom := rf_decs_of (by decide +kernel)
def q295_P : rfP := (flX2,csX2,lcX2,spX2,[q91_M,q46_M],[(90,0)],[(43,1,8)],([],[]))
def q295_U : rfU := []
set_option maxHeartbeats 8000000 in
def q295_N : List rfB := [(0,([(0,.inr (.inl [55])),(1,.inl ((0,387420488,1),none))],[],[((12,34),(0,0,0),some ((12,34),0,0)),((12,35),(0,0,0),some ((12,35),0,0)),((12,36),(0,0,0),some ((12,36),0,0))]),(13,[]),0)]
set_option maxRecDepth 100000 in
theorem q295_ok : rf_chkB q295_P q295_U wLay q295_M ddX2_mostUsedFrom [(1,[0]),(16,[1])] [] [0] 600 q295_N = true := by decide +kernel
set_option maxHeartbeats 4000000 in
theorem q295_met {G : rfG} (h : okG G) : rf_met G q295_M := rf_methodB h.1 (P := q295_P) (U := q295_U) (N := q295_N) ⟨wflT h flokX2, wcsT h csokX2, wlcT h lcokX2, spokX2 h, List.forall_mem_cons.mpr ⟨q91_met h, List.forall_mem_cons.mpr ⟨q46_met h, fun _ h => absurd h List.not_mem_nil⟩⟩, List.forall_mem_cons.mpr ⟨fun M hM => Option.some.inj (show some q91_M = some M from hM) ▸ wlkS (lkX2_90 h) q91_M rfl rfl, fun _ h => absurd h List.not_mem_nil⟩, List.forall_mem_cons.mpr ⟨fun M hM => Option.some.inj (show some q46_M = some M from hM) ▸ wlkV (lkX2_43 h) q46_M rfl rfl, fun _ h => absurd h List.not_mem_nil⟩, fun _ h => absurd h List.not_mem_nil, fun _ h => absurd h List.not_mem_nil⟩ dkX2_mostUsedFrom (by decide +kernel) (by rw [h.2.2.1]; exact q295_ok)
/-- NearSpell.begins -/
def q296_M : rfM := ((⟨"NearSpell", "begins", "(I)I"⟩, prog_1_method_31_code, 2, (some .int)), (2,46), ([.inr (.inl [70]),.inl (((-2147483648),2147483647,1),none)],[((12,34),(0,0,0),none),((12,35),(0,0,0),none),((12,36),(0,0,0),none)]), [], [(some (.inl (((-1),(-1),0),none)),[],[])])
def ddX11_begins : List (Nat × Instr × Nat) := [(0,.iload_n 1,1),(1,.invokestatic 163,3),(4,.ifCond .eq 14,3),(7,.aload_n 0,1),(8,.getfield 67,3),(11,.iload_n 1,1),(12,.invokevirtual 288,3),(15,.goto 4,3),(18,.iconst (-1),1),(19,.ireturn,1)]
set_option maxRecDepth 100000 in
theorem dkX11_begins : rf_decs prog_1_method_31_code ddX11_begins := rf_decs_of (by decide +kernel)
def q296_P : rfP := (flX11,csX11,lcX11,spX11,[q72_M,q295_M],[(163,0)],[(288,1,2)],([],[]))
def q296_U : rfU := []
set_option maxHeartbeats 8000000 in
def q296_N : List rfB := [(0,([(0,.inr (.inl [70])),(1,.inl (((-2147483648),2147483647,1),none))],[],[((12,34),(0,0,0),some ((12,34),0,0)),((12,35),(0,0,0),some ((12,35),0,0)),((12,36),(0,0,0),some ((12,36),0,0))]),(10,[]),0)]
set_option maxRecDepth 100000 in
theorem q296_ok : rf_chkB q296_P q296_U wLay q296_M ddX11_begins [(1,[0]),(12,[1])] [] [0] 14 q296_N = true := by decide +kernel
set_option maxHeartbeats 4000000 in
theorem q296_met {G : rfG} (h : okG G) : rf_met G q296_M := rf_methodB h.1 (P := q296_P) (U := q296_U) (N := q296_N) ⟨wflT h flokX11, wcsT h csokX11, wlcT h lcokX11, spokX11 h, List.forall_mem_cons.mpr ⟨q72_met h, List.forall_mem_cons.mpr ⟨q295_met h, fun _ h => absurd h List.not_mem_nil⟩⟩, List.forall_mem_cons.mpr ⟨fun M hM => Option.some.inj (show some q72_M = some M from hM) ▸ wlkS (lkX11_163 h) q72_M rfl rfl, fun _ h => absurd h List.not_mem_nil⟩, List.forall_mem_cons.mpr ⟨fun M hM => Option.some.inj (show some q295_M = some M from hM) ▸ wlkV (lkX11_288 h) q295_M rfl rfl, fun _ h => absurd h List.not_mem_nil⟩, fun _ h => absurd h List.not_mem_nil, fun _ h => absurd h List.not_mem_nil⟩ dkX11_begins (by decide +kernel) (by rw [h.2.2.1]; exact q296_ok)
/-- NearSpellModel.begins -/
def q297_M : rfM := ((⟨"NearSpellModel", "begins", "(I)I"⟩, prog_14_method_95_code, 5, (some .int)), (2,43), ([.inr (.inl [114]),.inl (((-2147483648),2147483647,1),none)],[((90,28),(0,0,0),none),((90,29),(0,0,0),none),((90,36),(0,0,0),none)]), [], [(some (.inl (((-1),(-1),0),none)),[],[])])
def ddX12_begins : List (Nat × Instr × Nat) := [(0,.iload_n 1,1),(1,.invokestatic 420,3),(4,.ifCond .ne 5,3),(7,.iconst (-1),1),(8,.ireturn,1),(9,.iload_n 1,1),(10,.invokestatic 319,3),(13,.istore_n 2,1),(14,.iconst (-1),1),(15,.istore_n 3,1),(16,.iconst 0,1),(17,.istore 4,2),(19,.iload 4,2),(21,.bipush 14,2),(23,.if_icmp .ge 83,3),(26,.aload_n 0,1),(27,.iload 4,2),(29,.invokevirtual 350,3),(32,.ifCond .eq 68,3),(35,.aload_n 0,1),(36,.getfield 72,3),(39,.iconst 0,1),(40,.iload 4,2),(42,.iadd,1),(43,.iaload,1),(44,.invokestatic 319,3),(47,.iload_n 2,1),(48,.if_icmp .lt 52,3),(51,.aload_n 0,1),(52,.getfield 72,3),(55,.iconst 0,1),(56,.iload 4,2),(58,.iadd,1),(59,.iaload,1),(60,.iload_n 2,1),(61,.invokestatic 322,3),(64,.iload_n 1,1),(65,.if_icmp .eq 6,3),(68,.goto 32,3),(71,.iload_n 3,1),(72,.ifCond .lt 25,3),(75,.aload_n 0,1),(76,.getfield 72,3),(79,.bipush 14,2),(81,.iload 4,2),(83,.iadd,1),(84,.iaload,1),(85,.aload_n 0,1),(86,.getfield 72,3),(89,.bipush 14,2),(91,.iload_n 3,1),(92,.iadd,1),(93,.iaload,1),(94,.if_icmp .le 6,3),(97,.iload 4,2),(99,.istore_n 3,1),(100,.iinc 4 1,3),(103,.goto (-84),3),(106,.iload_n 3,1),(107,.ireturn,1)]
set_option maxRecDepth 100000 in
theorem dkX12_begins : rf_decs prog_14_method_95_code ddX12_begins := rf_decs_of (by decide +kernel)
def q297_P : rfP := (flX12,csX12,lcX12,spX12,[q75_M,q128_M,q68_M],[(319,1),(420,0)],[(350,2,12)],([],[]))
def q297_U : rfU := []
set_option maxHeartbeats 8000000 in
def q297_N : List rfB := [(0,([(0,.inr (.inl [114])),(1,.inl (((-2147483648),2147483647,1),none))],[],[((90,28),(0,0,0),some ((90,28),0,0)),((90,29),(0,0,0),some ((90,29),0,0)),((90,36),(0,0,0),some ((90,36),0,0))]),(164,[0]),0)]
set_option maxRecDepth 100000 in
theorem q297_ok : rf_chkB q297_P q297_U wLay q297_M ddX12_begins [(1,[0]),(10,[1]),(29,[2])] [.inl 4] [0] 146 q297_N = true := by decide +kernel
set_option maxHeartbeats 4000000 in
theorem q297_met {G : rfG} (h : okG G) : rf_met G q297_M := rf_methodB h.1 (P := q297_P) (U := q297_U) (N := q297_N) ⟨wflT h flokX12, wcsT h csokX12, wlcT h lcokX12, spokX12 h, List.forall_mem_cons.mpr ⟨q75_met h, List.forall_mem_cons.mpr ⟨q128_met h, List.forall_mem_cons.mpr ⟨q68_met h, fun _ h => absurd h List.not_mem_nil⟩⟩⟩, List.forall_mem_cons.mpr ⟨fun M hM => Option.some.inj (show some q128_M = some M from hM) ▸ wlkS (lkX12_319 h) q128_M rfl rfl, List.forall_mem_cons.mpr ⟨fun M hM => Option.some.inj (show some q75_M = some M from hM) ▸ wlkS (lkX12_420 h) q75_M rfl rfl, fun _ h => absurd h List.not_mem_nil⟩⟩, List.forall_mem_cons.mpr ⟨fun M hM => Option.some.inj (show some q68_M = some M from hM) ▸ wlkV (lkX12_350 h) q68_M rfl rfl, fun _ h => absurd h List.not_mem_nil⟩, fun _ h => absurd h List.not_mem_nil, fun _ h => absurd h List.not_mem_nil⟩ dkX12_begins (by decide +kernel) (by rw [h.2.2.1]; exact q297_ok)
/-- NearSpell.crowded -/
def q298_M : rfM := ((⟨"NearSpell", "crowded", "(I)I"⟩, prog_1_method_32_code, 2, (some .int)), (1,20), ([.inr (.inl [70]),.inl (((-2147483648),(-1),1),none)],[((12,34),(0,0,0),none),((12,35),(0,0,0),none),((12,36),(0,0,0),none),((20,3),(0,0,0),none),((20,4),(0,0,0),none),((61,4),(0,0,0),none)]), [], [(some (.inl (((-1),(-1),0),none)),[],[])])
def ddX11_crowded : List (Nat × Instr × Nat) := [(0,.iload_n 1,1),(1,.invokestatic 232,3),(4,.ifCond .eq 14,3),(7,.aload_n 0,1),(8,.getfield 83,3),(11,.iload_n 1,1),(12,.invokevirtual 291,3),(15,.goto 4,3),(18,.iconst (-1),1),(19,.ireturn,1)]
set_option maxRecDepth 100000 in
theorem dkX11_crowded : rf_decs prog_1_method_32_code ddX11_crowded := rf_decs_of (by decide +kernel)
def q298_P : rfP := (flX11,csX11,lcX11,spX11,[q203_M],[(232,0)],[],([],[]))
def q298_U : rfU := []
set_option maxHeartbeats 8000000 in
def q298_N : List rfB := [(0,([(0,.inr (.inl [70])),(1,.inl (((-2147483648),(-1),1),none))],[],[((12,34),(0,0,0),some ((12,34),0,0)),((12,35),(0,0,0),some ((12,35),0,0)),((12,36),(0,0,0),some ((12,36),0,0)),((20,3),(0,0,0),some ((20,3),0,0)),((20,4),(0,0,0),some ((20,4),0,0)),((61,4),(0,0,0),some ((61,4),0,0))]),(4,[]),0)]
set_option maxRecDepth 100000 in
theorem q298_ok : rf_chkB q298_P q298_U wLay q298_M ddX11_crowded [(1,[0])] [] [0] 600 q298_N = true := by decide +kernel
set_option maxHeartbeats 4000000 in
theorem q298_met {G : rfG} (h : okG G) : rf_met G q298_M := rf_methodB h.1 (P := q298_P) (U := q298_U) (N := q298_N) ⟨wflT h flokX11, wcsT h csokX11, wlcT h lcokX11, spokX11 h, List.forall_mem_cons.mpr ⟨q203_met h, fun _ h => absurd h List.not_mem_nil⟩, List.forall_mem_cons.mpr ⟨fun M hM => Option.some.inj (show some q203_M = some M from hM) ▸ wlkS (lkX11_232 h) q203_M rfl rfl, fun _ h => absurd h List.not_mem_nil⟩, fun _ h => absurd h List.not_mem_nil, fun _ h => absurd h List.not_mem_nil, fun _ h => absurd h List.not_mem_nil⟩ dkX11_crowded (by decide +kernel) (by rw [h.2.2.1]; exact q298_ok)
/-- NearSpellModel.crowded -/
def q299_M : rfM := ((⟨"NearSpellModel", "crowded", "(I)I"⟩, prog_14_method_96_code, 4, (some .int)), (1,22), ([.inr (.inl [114]),.inl (((-2147483648),(-1),1),none)],[((90,28),(0,0,0),none),((90,29),(0,0,0),none),((90,36),(0,0,0),none),((114,44),(0,0,0),none),((114,45),(0,0,0),none)]), [], [(some (.inl (((-1),(-1),0),none)),[],[])])
def ddX12_crowded : List (Nat × Instr × Nat) := [(0,.iload_n 1,1),(1,.iconst 0,1),(2,.bipush 6,2),(4,.invokestatic 334,3),(7,.ifCond .ne 5,3),(10,.iconst (-1),1),(11,.ireturn,1),(12,.aload_n 0,1),(13,.iload_n 1,1),(14,.invokevirtual 450,3),(17,.iconst 0,1),(18,.istore_n 2,1),(19,.iconst 0,1),(20,.istore_n 3,1),(21,.iload_n 3,1),(22,.bipush 14,2),(24,.if_icmp .ge 37,3),(27,.iload_n 2,1),(28,.aload_n 0,1),(29,.iload_n 3,1),(30,.invokevirtual 350,3),(33,.ifCond .eq 19,3),(36,.aload_n 0,1),(37,.getfield 108,3),(40,.iload_n 3,1),(41,.iaload,1),(42,.iconst 1,1),(43,.iload_n 3,1),(44,.ishl,1),(45,.if_icmp .eq 7,3),(48,.iconst 1,1),(49,.goto 4,3),(52,.iconst 0,1),(53,.iadd,1),(54,.istore_n 2,1),(55,.iinc 3 1,3),(58,.goto (-37),3),(61,.iload_n 2,1),(62,.ireturn,1)]
set_option maxRecDepth 100000 in
theorem dkX12_crowded : rf_decs prog_14_method_96_code ddX12_crowded := rf_decs_of (by decide +kernel)
def q299_P : rfP := (flX12,csX12,lcX12,spX12,[q205_M],[(334,0)],[],([],[]))
def q299_U : rfU := []
set_option maxHeartbeats 8000000 in
def q299_N : List rfB := [(0,([(0,.inr (.inl [114])),(1,.inl (((-2147483648),(-1),1),none))],[],[((90,28),(0,0,0),some ((90,28),0,0)),((90,29),(0,0,0),some ((90,29),0,0)),((90,36),(0,0,0),some ((90,36),0,0)),((114,44),(0,0,0),some ((114,44),0,0)),((114,45),(0,0,0),some ((114,45),0,0))]),(6,[]),0)]
set_option maxRecDepth 100000 in
theorem q299_ok : rf_chkB q299_P q299_U wLay q299_M ddX12_crowded [(4,[0])] [] [0] 600 q299_N = true := by decide +kernel
set_option maxHeartbeats 4000000 in
theorem q299_met {G : rfG} (h : okG G) : rf_met G q299_M := rf_methodB h.1 (P := q299_P) (U := q299_U) (N := q299_N) ⟨wflT h flokX12, wcsT h csokX12, wlcT h lcokX12, spokX12 h, List.forall_mem_cons.mpr ⟨q205_met h, fun _ h => absurd h List.not_mem_nil⟩, List.forall_mem_cons.mpr ⟨fun M hM => Option.some.inj (show some q205_M = some M from hM) ▸ wlkS (lkX12_334 h) q205_M rfl rfl, fun _ h => absurd h List.not_mem_nil⟩, fun _ h => absurd h List.not_mem_nil, fun _ h => absurd h List.not_mem_nil, fun _ h => absurd h List.not_mem_nil⟩ dkX12_crowded (by decide +kernel) (by rw [h.2.2.1]; exact q299_ok)
