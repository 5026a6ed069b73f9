/-- NearSpellModel.isIn -/
def q63_M : rfM := ((⟨"NearSpellModel", "isIn", "(III)Z"⟩, prog_14_method_35_code, 3, (some .boolean)), (0,0), ([.inl ((0,9,1),none),.inl ((0,0,0),none),.inl (((-1),(-1),0),none)],[]), [], [(some (.inl ((0,0,0),none)),[],[])])
def q63_P : rfP := (flX12,csX12,lcX12,spX12,[],[],[],([],[]))
def q63_U : rfU := []
set_option maxHeartbeats 8000000 in
def q63_N : List rfB := [(0,([(0,.inl ((0,9,1),none)),(1,.inl ((0,0,0),none)),(2,.inl (((-1),(-1),0),none))],[],[]),(7,[]),0)]
set_option maxRecDepth 100000 in
theorem q63_ok : rf_chkB q63_P q63_U wLay q63_M ddX12_isIn [] [] [0] 600 q63_N = true := by decide +kernel
set_option maxHeartbeats 4000000 in
theorem q63_met {G : rfG} (h : okG G) : rf_met G q63_M := rf_methodB h.1 (P := q63_P) (U := q63_U) (N := q63_N) ⟨wflT h flokX12, wcsT h csokX12, wlcT h lcokX12, spokX12 h, fun _ h => absurd h List.not_mem_nil, fun _ h => absurd h List.not_mem_nil, fun _ h => absurd h List.not_mem_nil, fun _ h => absurd h List.not_mem_nil, fun _ h => absurd h List.not_mem_nil⟩ dkX12_isIn (by decide +kernel) (by rw [h.2.2.1]; exact q63_ok)
/-- NearSpellModel.isEntry -/
def q64_M : rfM := ((⟨"NearSpellModel", "isEntry", "(I)Z"⟩, prog_14_method_46_code, 2, (some .boolean)), (1,22), ([.inr (.inl [114]),.inl ((0,9,1),none)],[((90,28),(0,0,0),none),((90,29),(0,0,0),none),((90,36),(0,0,0),none)]), [], [(some (.inl ((0,0,0),none)),[],[])])
def q64_P : rfP := (flX12,csX12,lcX12,spX12,[q63_M],[(334,0)],[],([],[]))
def q64_U : rfU := []
set_option maxHeartbeats 8000000 in
def q64_N : List rfB := [(0,([(0,.inr (.inl [114])),(1,.inl ((0,9,1),none))],[],[((90,28),(0,0,0),some ((90,28),0,0)),((90,29),(0,0,0),some ((90,29),0,0)),((90,36),(0,0,0),some ((90,36),0,0))]),(11,[]),0)]
set_option maxRecDepth 100000 in
theorem q64_ok : rf_chkB q64_P q64_U wLay q64_M ddX12_isEntry [(11,[0])] [] [0] 600 q64_N = true := by decide +kernel
set_option maxHeartbeats 4000000 in
theorem q64_met {G : rfG} (h : okG G) : rf_met G q64_M := rf_methodB h.1 (P := q64_P) (U := q64_U) (N := q64_N) ⟨wflT h flokX12, wcsT h csokX12, wlcT h lcokX12, spokX12 h, List.forall_mem_cons.mpr ⟨q63_met h, fun _ h => absurd h List.not_mem_nil⟩, List.forall_mem_cons.mpr ⟨fun M hM => Option.some.inj (show some q63_M = some M from hM) ▸ wlkS (lkX12_334 h) q63_M rfl rfl, fun _ h => absurd h List.not_mem_nil⟩, fun _ h => absurd h List.not_mem_nil, fun _ h => absurd h List.not_mem_nil, fun _ h => absurd h List.not_mem_nil⟩ dkX12_isEntry (by decide +kernel) (by rw [h.2.2.1]; exact q64_ok)
/-- NearSpellModel.isIn -/
def q65_M : rfM := ((⟨"NearSpellModel", "isIn", "(III)Z"⟩, prog_14_method_35_code, 3, (some .boolean)), (0,0), ([.inl ((0,12,1),none),.inl ((0,0,0),none),.inl (((-1),(-1),0),none)],[]), [], [(some (.inl ((0,0,0),none)),[],[])])
def q65_P : rfP := (flX12,csX12,lcX12,spX12,[],[],[],([],[]))
def q65_U : rfU := []
set_option maxHeartbeats 8000000 in
def q65_N : List rfB := [(0,([(0,.inl ((0,12,1),none)),(1,.inl ((0,0,0),none)),(2,.inl (((-1),(-1),0),none))],[],[]),(7,[]),0)]
set_option maxRecDepth 100000 in
theorem q65_ok : rf_chkB q65_P q65_U wLay q65_M ddX12_isIn [] [] [0] 600 q65_N = true := by decide +kernel
set_option maxHeartbeats 4000000 in
theorem q65_met {G : rfG} (h : okG G) : rf_met G q65_M := rf_methodB h.1 (P := q65_P) (U := q65_U) (N := q65_N) ⟨wflT h flokX12, wcsT h csokX12, wlcT h lcokX12, spokX12 h, fun _ h => absurd h List.not_mem_nil, fun _ h => absurd h List.not_mem_nil, fun _ h => absurd h List.not_mem_nil, fun _ h => absurd h List.not_mem_nil, fun _ h => absurd h List.not_mem_nil⟩ dkX12_isIn (by decide +kernel) (by rw [h.2.2.1]; exact q65_ok)
/-- NearSpellModel.isEntry -/
def q66_M : rfM := ((⟨"NearSpellModel", "isEntry", "(I)Z"⟩, prog_14_method_46_code, 2, (some .boolean)), (1,22), ([.inr (.inl [114]),.inl ((0,12,1),none)],[((90,28),(0,0,0),none),((90,29),(0,0,0),none),((90,36),(0,0,0),none)]), [], [(some (.inl ((0,0,0),none)),[],[])])
def q66_P : rfP := (flX12,csX12,lcX12,spX12,[q65_M],[(334,0)],[],([],[]))
def q66_U : rfU := []
set_option maxHeartbeats 8000000 in
def q66_N : List rfB := [(0,([(0,.inr (.inl [114])),(1,.inl ((0,12,1),none))],[],[((90,28),(0,0,0),some ((90,28),0,0)),((90,29),(0,0,0),some ((90,29),0,0)),((90,36),(0,0,0),some ((90,36),0,0))]),(11,[]),0)]
set_option maxRecDepth 100000 in
theorem q66_ok : rf_chkB q66_P q66_U wLay q66_M ddX12_isEntry [(11,[0])] [] [0] 600 q66_N = true := by decide +kernel
set_option maxHeartbeats 4000000 in
theorem q66_met {G : rfG} (h : okG G) : rf_met G q66_M := rf_methodB h.1 (P := q66_P) (U := q66_U) (N := q66_N) ⟨wflT h flokX12, wcsT h csokX12, wlcT h lcokX12, spokX12 h, List.forall_mem_cons.mpr ⟨q65_met h, fun _ h => absurd h List.not_mem_nil⟩, List.forall_mem_cons.mpr ⟨fun M hM => Option.some.inj (show some q65_M = some M from hM) ▸ wlkS (lkX12_334 h) q65_M rfl rfl, fun _ h => absurd h List.not_mem_nil⟩, fun _ h => absurd h List.not_mem_nil, fun _ h => absurd h List.not_mem_nil, fun _ h => absurd h List.not_mem_nil⟩ dkX12_isEntry (by decide +kernel) (by rw [h.2.2.1]; exact q66_ok)
/-- NearSpellModel.isIn -/
def q67_M : rfM := ((⟨"NearSpellModel", "isIn", "(III)Z"⟩, prog_14_method_35_code, 3, (some .boolean)), (0,0), ([.inl ((0,13,1),none),.inl ((0,0,0),none),.inl (((-1),(-1),0),none)],[]), [], [(some (.inl ((0,0,0),none)),[],[])])
def q67_P : rfP := (flX12,csX12,lcX12,spX12,[],[],[],([],[]))
def q67_U : rfU := []
set_option maxHeartbeats 8000000 in
def q67_N : List rfB := [(0,([(0,.inl ((0,13,1),none)),(1,.inl ((0,0,0),none)),(2,.inl (((-1),(-1),0),none))],[],[]),(7,[]),0)]
set_option maxRecDepth 100000 in
theorem q67_ok : rf_chkB q67_P q67_U wLay q67_M ddX12_isIn [] [] [0] 600 q67_N = true := by decide +kernel
set_option maxHeartbeats 4000000 in
theorem q67_met {G : rfG} (h : okG G) : rf_met G q67_M := rf_methodB h.1 (P := q67_P) (U := q67_U) (N := q67_N) ⟨wflT h flokX12, wcsT h csokX12, wlcT h lcokX12, spokX12 h, fun _ h => absurd h List.not_mem_nil, fun _ h => absurd h List.not_mem_nil, fun _ h => absurd h List.not_mem_nil, fun _ h => absurd h List.not_mem_nil, fun _ h => absurd h List.not_mem_nil⟩ dkX12_isIn (by decide +kernel) (by rw [h.2.2.1]; exact q67_ok)
/-- NearSpellModel.isEntry -/
def q68_M : rfM := ((⟨"NearSpellModel", "isEntry", "(I)Z"⟩, prog_14_method_46_code, 2, (some .boolean)), (1,22), ([.inr (.inl [114]),.inl ((0,13,1),none)],[((90,28),(0,0,0),none),((90,29),(0,0,0),none),((90,36),(0,0,0),none)]), [], [(some (.inl ((0,0,0),none)),[],[])])
def q68_P : rfP := (flX12,csX12,lcX12,spX12,[q67_M],[(334,0)],[],([],[]))
def q68_U : rfU := []
set_option maxHeartbeats 8000000 in
def q68_N : List rfB := [(0,([(0,.inr (.inl [114])),(1,.inl ((0,13,1),none))],[],[((90,28),(0,0,0),some ((90,28),0,0)),((90,29),(0,0,0),some ((90,29),0,0)),((90,36),(0,0,0),some ((90,36),0,0))]),(11,[]),0)]
set_option maxRecDepth 100000 in
theorem q68_ok : rf_chkB q68_P q68_U wLay q68_M ddX12_isEntry [(11,[0])] [] [0] 600 q68_N = true := by decide +kernel
set_option maxHeartbeats 4000000 in
theorem q68_met {G : rfG} (h : okG G) : rf_met G q68_M := rf_methodB h.1 (P := q68_P) (U := q68_U) (N := q68_N) ⟨wflT h flokX12, wcsT h csokX12, wlcT h lcokX12, spokX12 h, List.forall_mem_cons.mpr ⟨q67_met h, fun _ h => absurd h List.not_mem_nil⟩, List.forall_mem_cons.mpr ⟨fun M hM => Option.some.inj (show some q67_M = some M from hM) ▸ wlkS (lkX12_334 h) q67_M rfl rfl, fun _ h => absurd h List.not_mem_nil⟩, fun _ h => absurd h List.not_mem_nil, fun _ h => absurd h List.not_mem_nil, fun _ h => absurd h List.not_mem_nil⟩ dkX12_isEntry (by decide +kernel) (by rw [h.2.2.1]; exact q68_ok)
/-- NearSpellModel.isSpelled -/
def q69_M : rfM := ((⟨"NearSpellModel", "isSpelled", "(I)Z"⟩, prog_14_method_107_code, 3, (some .boolean)), (2,43), ([.inr (.inl [114]),.inl ((0,387420488,1),none)],[((90,28),(0,0,0),none),((90,29),(0,0,0),none),((90,36),(0,0,0),none)]), [], [(some (.inl ((0,0,0),none)),[],[])])
def ddX12_isSpelled : List (Nat × Instr × Nat) := [(0,.iconst 0,1),(1,.istore_n 2,1),(2,.iload_n 2,1),(3,.bipush 14,2),(5,.if_icmp .ge 31,3),(8,.aload_n 0,1),(9,.iload_n 2,1),(10,.invokevirtual 350,3),(13,.ifCond .eq 17,3),(16,.aload_n 0,1),(17,.getfield 72,3),(20,.iconst 0,1),(21,.iload_n 2,1),(22,.iadd,1),(23,.iaload,1),(24,.iload_n 1,1),(25,.if_icmp .ne 5,3),(28,.iconst 1,1),(29,.ireturn,1),(30,.iinc 2 1,3),(33,.goto (-31),3),(36,.iconst 0,1),(37,.ireturn,1)]
set_option maxRecDepth 100000 in
theorem dkX12_isSpelled : rf_decs prog_14_method_107_code ddX12_isSpelled := rf_decs_of (by decide +kernel)
def q69_P : rfP := (flX12,csX12,lcX12,spX12,[q68_M],[],[(350,0,12)],([],[]))
def q69_U : rfU := []
set_option maxHeartbeats 8000000 in
def q69_N : List rfB := [(0,([(0,.inr (.inl [114])),(1,.inl ((0,387420488,1),none))],[],[((90,28),(0,0,0),some ((90,28),0,0)),((90,29),(0,0,0),some ((90,29),0,0)),((90,36),(0,0,0),some ((90,36),0,0))]),(153,[0]),0)]
set_option maxRecDepth 100000 in
theorem q69_ok : rf_chkB q69_P q69_U wLay q69_M ddX12_isSpelled [(10,[0])] [.inl 2] [0] 138 q69_N = true := by decide +kernel
set_option maxHeartbeats 4000000 in
theorem q69_met {G : rfG} (h : okG G) : rf_met G q69_M := rf_methodB h.1 (P := q69_P) (U := q69_U) (N := q69_N) ⟨wflT h flokX12, wcsT h csokX12, wlcT h lcokX12, spokX12 h, List.forall_mem_cons.mpr ⟨q68_met h, fun _ h => absurd h List.not_mem_nil⟩, fun _ h => absurd h List.not_mem_nil, List.forall_mem_cons.mpr ⟨fun M hM => Option.some.inj (show some q68_M = some M from hM) ▸ wlkV (lkX12_350 h) q68_M rfl rfl, fun _ h => absurd h List.not_mem_nil⟩, fun _ h => absurd h List.not_mem_nil, fun _ h => absurd h List.not_mem_nil⟩ dkX12_isSpelled (by decide +kernel) (by rw [h.2.2.1]; exact q69_ok)
/-- NearSpellModel.keepAct -/
def q70_M : rfM := ((⟨"NearSpellModel", "keepAct", "()V"⟩, prog_14_method_105_code, 2, none), (0,0), ([.inr (.inl [114])],[((90,28),(0,0,0),none),((90,29),(0,0,0),none),((90,36),(0,0,0),none),((114,55),(0,0,0),none)]), [(105,0),(114,56),(114,57)], [(none,[],[((114,55),(1,1,0),some ((114,55),1,1)),((114,56),(0,0,0),none)])])
def ddX12_keepAct : List (Nat × Instr × Nat) := [(0,.aload_n 0,1),(1,.getfield 338,3),(4,.bipush 40,2),(6,.if_icmp .ne 43,3),(9,.iconst 0,1),(10,.istore_n 1,1),(11,.iload_n 1,1),(12,.sipush 1480,3),(15,.if_icmp .ge 24,3),(18,.aload_n 0,1),(19,.getfield 117,3),(22,.iload_n 1,1),(23,.aload_n 0,1),(24,.getfield 117,3),(27,.iload_n 1,1),(28,.bipush 37,2),(30,.iadd,1),(31,.iaload,1),(32,.iastore,1),(33,.iinc 1 1,3),(36,.goto (-25),3),(39,.aload_n 0,1),(40,.dup,1),(41,.getfield 338,3),(44,.iconst 1,1),(45,.isub,1),(46,.putfield 338,3),(49,.iconst 0,1),(50,.istore_n 1,1),(51,.iload_n 1,1),(52,.bipush 37,2),(54,.if_icmp .ge 29,3),(57,.aload_n 0,1),(58,.getfield 117,3),(61,.bipush 37,2),(63,.aload_n 0,1),(64,.getfield 338,3),(67,.imul,1),(68,.iload_n 1,1),(69,.iadd,1),(70,.aload_n 0,1),(71,.getfield 72,3),(74,.iload_n 1,1),(75,.iaload,1),(76,.iastore,1),(77,.iinc 1 1,3),(80,.goto (-29),3),(83,.aload_n 0,1),(84,.dup,1),(85,.getfield 338,3),(88,.iconst 1,1),(89,.iadd,1),(90,.putfield 338,3),(93,.aload_n 0,1),(94,.iconst 0,1),(95,.putfield 341,3),(98,.return_,1)]
set_option maxRecDepth 100000 in
theorem dkX12_keepAct : rf_decs prog_14_method_105_code ddX12_keepAct := rf_decs_of (by decide +kernel)
def q70_P : rfP := (flX12,csX12,lcX12,spX12,[],[],[],([],[]))
def q70_U : rfU := []
set_option maxHeartbeats 8000000 in
def q70_N : List rfB := [(0,([(0,.inr (.inl [114]))],[],[((90,28),(0,0,0),some ((90,28),0,0)),((90,29),(0,0,0),some ((90,29),0,0)),((90,36),(0,0,0),some ((90,36),0,0)),((114,55),(0,0,0),some ((114,55),0,0))]),(25361,[0]),0)]
set_option maxRecDepth 100000 in
theorem q70_ok : rf_chkB q70_P q70_U wLay q70_M ddX12_keepAct [] [.inl 1] [0] 690 q70_N = true := by decide +kernel
set_option maxHeartbeats 4000000 in
theorem q70_met {G : rfG} (h : okG G) : rf_met G q70_M := rf_methodB h.1 (P := q70_P) (U := q70_U) (N := q70_N) ⟨wflT h flokX12, wcsT h csokX12, wlcT h lcokX12, spokX12 h, fun _ h => absurd h List.not_mem_nil, fun _ h => absurd h List.not_mem_nil, fun _ h => absurd h List.not_mem_nil, fun _ h => absurd h List.not_mem_nil, fun _ h => absurd h List.not_mem_nil⟩ dkX12_keepAct (by decide +kernel) (by rw [h.2.2.1]; exact q70_ok)
/-- NearSpell.canBe -/
def q72_M : rfM := ((⟨"NearSpell", "canBe", "(I)Z"⟩, prog_1_method_52_code, 3, (some .boolean)), (0,0), ([.inl (((-2147483648),2147483647,1),none)],[]), [], [(some (.inl ((0,0,0),none)),[],[]),(some (.inl ((1,1,0),none)),[(0,0,387420488)],[])])
def ddX11_canBe : List (Nat × Instr × Nat) := [(0,.iload_n 0,1),(1,.ifCond .lt 13,3),(4,.iload_n 0,1),(5,.getstatic 360,3),(8,.bipush 6,2),(10,.iaload,1),(11,.if_icmp .lt 5,3),(14,.iconst 0,1),(15,.ireturn,1),(16,.iload_n 0,1),(17,.istore_n 1,1),(18,.iconst 0,1),(19,.istore_n 2,1),(20,.iload_n 2,1),(21,.bipush 6,2),(23,.if_icmp .ge 27,3),(26,.iload_n 1,1),(27,.ifCond .eq 23,3),(30,.iload_n 1,1),(31,.bipush 27,2),(33,.irem,1),(34,.ifCond .ne 5,3),(37,.iconst 0,1),(38,.ireturn,1),(39,.iload_n 1,1),(40,.bipush 27,2),(42,.idiv,1),(43,.istore_n 1,1),(44,.iinc 2 1,3),(47,.goto (-27),3),(50,.iconst 1,1),(51,.ireturn,1)]
set_option maxRecDepth 100000 in
theorem dkX11_canBe : rf_decs prog_1_method_52_code ddX11_canBe := rf_decs_of (by decide +kernel)
def q72_P : rfP := (flX11,csX11,lcX11,spX11,[],[],[],([],[]))
def q72_U : rfU := []
set_option maxHeartbeats 8000000 in
def q72_N : List rfB := [(0,([(0,.inl (((-2147483648),2147483647,1),none))],[],[]),(6198727840,[0]),0)]
set_option maxRecDepth 100000 in
theorem q72_ok : rf_chkB q72_P q72_U wLay q72_M ddX11_canBe [] [.inl 1] [0] 111 q72_N = true := by decide +kernel
set_option maxHeartbeats 4000000 in
theorem q72_met {G : rfG} (h : okG G) : rf_met G q72_M := rf_methodB h.1 (P := q72_P) (U := q72_U) (N := q72_N) ⟨wflT h flokX11, wcsT h csokX11, wlcT h lcokX11, spokX11 h, fun _ h => absurd h List.not_mem_nil, fun _ h => absurd h List.not_mem_nil, fun _ h => absurd h List.not_mem_nil, fun _ h => absurd h List.not_mem_nil, fun _ h => absurd h List.not_mem_nil⟩ dkX11_canBe (by decide +kernel) (by rw [h.2.2.1]; exact q72_ok)
/-- NearSpell.learn -/
def q73_M : rfM := ((⟨"NearSpell", "learn", "(II)I"⟩, prog_1_method_7_code, 4, (some .int)), (1,22), ([.inr (.inl [70]),.inl (((-2147483648),2147483647,1),none),.inl (((-2147483648),(-1),1),none)],[((12,34),(0,0,0),none),((12,35),(0,0,0),none),((12,36),(0,0,0),none),((16,3),(0,0,0),none),((16,4),(0,0,0),none)]), [], [(some (.inl (((-1),(-1),0),none)),[],[])])
def ddX11_learn : List (Nat × Instr × Nat) := [(0,.iload_n 1,1),(1,.invokestatic 163,3),(4,.ifCond .eq 14,3),(7,.iload_n 2,1),(8,.ifCond .lt 10,3),(11,.iload_n 2,1),(12,.sipush 999,3),(15,.if_icmp .le 5,3),(18,.iconst (-1),1),(19,.ireturn,1),(20,.aload_n 0,1),(21,.getfield 35,3),(24,.iload_n 1,1),(25,.invokevirtual 166,3),(28,.iconst (-1),1),(29,.if_icmp .ne 15,3),(32,.aload_n 0,1),(33,.getfield 35,3),(36,.invokevirtual 169,3),(39,.bipush 14,2),(41,.if_icmp .lt 5,3),(44,.iconst (-1),1),(45,.ireturn,1),(46,.aload_n 0,1),(47,.getfield 35,3),(50,.iload_n 1,1),(51,.iload_n 2,1),(52,.invokevirtual 173,3),(55,.istore_n 3,1),(56,.aload_n 0,1),(57,.getfield 42,3),(60,.aload_n 0,1),(61,.getfield 35,3),(64,.invokevirtual 177,3),(67,.iload_n 3,1),(68,.ireturn,1)]
set_option maxRecDepth 100000 in
theorem dkX11_learn : rf_decs prog_1_method_7_code ddX11_learn := rf_decs_of (by decide +kernel)
def q73_P : rfP := (flX11,csX11,lcX11,spX11,[q72_M],[(163,0)],[],([],[]))
def q73_U : rfU := []
set_option maxHeartbeats 8000000 in
def q73_N : List rfB := [(0,([(0,.inr (.inl [70])),(1,.inl (((-2147483648),2147483647,1),none)),(2,.inl (((-2147483648),(-1),1),none))],[],[((12,34),(0,0,0),some ((12,34),0,0)),((12,35),(0,0,0),some ((12,35),0,0)),((12,36),(0,0,0),some ((12,36),0,0)),((16,3),(0,0,0),some ((16,3),0,0)),((16,4),(0,0,0),some ((16,4),0,0))]),(7,[]),0)]
set_option maxRecDepth 100000 in
theorem q73_ok : rf_chkB q73_P q73_U wLay q73_M ddX11_learn [(1,[0])] [] [0] 12 q73_N = true := by decide +kernel
set_option maxHeartbeats 4000000 in
theorem q73_met {G : rfG} (h : okG G) : rf_met G q73_M := rf_methodB h.1 (P := q73_P) (U := q73_U) (N := q73_N) ⟨wflT h flokX11, wcsT h csokX11, wlcT h lcokX11, spokX11 h, List.forall_mem_cons.mpr ⟨q72_met h, fun _ h => absurd h List.not_mem_nil⟩, List.forall_mem_cons.mpr ⟨fun M hM => Option.some.inj (show some q72_M = some M from hM) ▸ wlkS (lkX11_163 h) q72_M rfl rfl, fun _ h => absurd h List.not_mem_nil⟩, fun _ h => absurd h List.not_mem_nil, fun _ h => absurd h List.not_mem_nil, fun _ h => absurd h List.not_mem_nil⟩ dkX11_learn (by decide +kernel) (by rw [h.2.2.1]; exact q73_ok)
/-- NearSpellModel.isIn -/
def q74_M : rfM := ((⟨"NearSpellModel", "isIn", "(III)Z"⟩, prog_14_method_35_code, 3, (some .boolean)), (0,0), ([.inl (((-2147483648),2147483647,1),none),.inl ((0,0,0),none),.inl ((387420488,387420488,0),none)],[]), [], [(some (.inl ((1,1,0),none)),[(0,0,387420488)],[]),(some (.inl ((0,0,0),none)),[],[])])
def q74_P : rfP := (flX12,csX12,lcX12,spX12,[],[],[],([],[]))
def q74_U : rfU := []
set_option maxHeartbeats 8000000 in
def q74_N : List rfB := [(0,([(0,.inl (((-2147483648),2147483647,1),none)),(1,.inl ((0,0,0),none)),(2,.inl ((387420488,387420488,0),none))],[],[]),(10,[]),0)]
set_option maxRecDepth 100000 in
theorem q74_ok : rf_chkB q74_P q74_U wLay q74_M ddX12_isIn [] [] [0] 14 q74_N = true := by decide +kernel
set_option maxHeartbeats 4000000 in
theorem q74_met {G : rfG} (h : okG G) : rf_met G q74_M := rf_methodB h.1 (P := q74_P) (U := q74_U) (N := q74_N) ⟨wflT h flokX12, wcsT h csokX12, wlcT h lcokX12, spokX12 h, fun _ h => absurd h List.not_mem_nil, fun _ h => absurd h List.not_mem_nil, fun _ h => absurd h List.not_mem_nil, fun _ h => absurd h List.not_mem_nil, fun _ h => absurd h List.not_mem_nil⟩ dkX12_isIn (by decide +kernel) (by rw [h.2.2.1]; exact q74_ok)
/-- NearSpellModel.canBe -/
def q75_M : rfM := ((⟨"NearSpellModel", "canBe", "(I)Z"⟩, prog_14_method_40_code, 2, (some .boolean)), (1,22), ([.inl (((-2147483648),2147483647,1),none)],[]), [], [(some (.inl ((0,0,0),none)),[],[]),(some (.inl ((1,1,0),none)),[(0,0,387420488)],[])])
def ddX12_canBe : List (Nat × Instr × Nat) := [(0,.iload_n 0,1),(1,.iconst 0,1),(2,.ldc_w 333,3),(5,.invokestatic 334,3),(8,.ifCond .ne 5,3),(11,.iconst 0,1),(12,.ireturn,1),(13,.iload_n 0,1),(14,.istore_n 1,1),(15,.iload_n 1,1),(16,.ifCond .le 20,3),(19,.iload_n 1,1),(20,.bipush 27,2),(22,.irem,1),(23,.ifCond .ne 5,3),(26,.iconst 0,1),(27,.ireturn,1),(28,.iload_n 1,1),(29,.bipush 27,2),(31,.idiv,1),(32,.istore_n 1,1),(33,.goto (-18),3),(36,.iconst 1,1),(37,.ireturn,1)]
set_option maxRecDepth 100000 in
theorem dkX12_canBe : rf_decs prog_14_method_40_code ddX12_canBe := rf_decs_of (by decide +kernel)
def q75_P : rfP := (flX12,csX12,lcX12,spX12,[q74_M],[(334,0)],[],([],[]))
def q75_U : rfU := []
set_option maxHeartbeats 8000000 in
def q75_N : List rfB := [(0,([(0,.inl (((-2147483648),2147483647,1),none))],[],[]),(4649045881,[0]),0)]
set_option maxRecDepth 100000 in
theorem q75_ok : rf_chkB q75_P q75_U wLay q75_M ddX12_canBe [(5,[0])] [.inl 1] [0] 82 q75_N = true := by decide +kernel
set_option maxHeartbeats 4000000 in
theorem q75_met {G : rfG} (h : okG G) : rf_met G q75_M := rf_methodB h.1 (P := q75_P) (U := q75_U) (N := q75_N) ⟨wflT h flokX12, wcsT h csokX12, wlcT h lcokX12, spokX12 h, List.forall_mem_cons.mpr ⟨q74_met h, fun _ h => absurd h List.not_mem_nil⟩, List.forall_mem_cons.mpr ⟨fun M hM => Option.some.inj (show some q74_M = some M from hM) ▸ wlkS (lkX12_334 h) q74_M rfl rfl, fun _ h => absurd h List.not_mem_nil⟩, fun _ h => absurd h List.not_mem_nil, fun _ h => absurd h List.not_mem_nil, fun _ h => absurd h List.not_mem_nil⟩ dkX12_canBe (by decide +kernel) (by rw [h.2.2.1]; exact q75_ok)
/-- NearSpellModel.isIn -/
def q76_M : rfM := ((⟨"NearSpellModel", "isIn", "(III)Z"⟩, prog_14_method_35_code, 3, (some .boolean)), (0,0), ([.inl (((-2147483648),0,1),none),.inl ((0,0,0),none),.inl ((999,999,0),none)],[]), [], [(some (.inl ((1,1,0),none)),[(0,0,0)],[]),(some (.inl ((0,0,0),none)),[(0,(-2147483648),(-1))],[])])
def q76_P : rfP := (flX12,csX12,lcX12,spX12,[],[],[],([],[]))
def q76_U : rfU := []
set_option maxHeartbeats 8000000 in
def q76_N : List rfB := [(0,([(0,.inl (((-2147483648),0,1),none)),(1,.inl ((0,0,0),none)),(2,.inl ((999,999,0),none))],[],[]),(10,[]),0)]
set_option maxRecDepth 100000 in
theorem q76_ok : rf_chkB q76_P q76_U wLay q76_M ddX12_isIn [] [] [0] 600 q76_N = true := by decide +kernel
set_option maxHeartbeats 4000000 in
theorem q76_met {G : rfG} (h : okG G) : rf_met G q76_M := rf_methodB h.1 (P := q76_P) (U := q76_U) (N := q76_N) ⟨wflT h flokX12, wcsT h csokX12, wlcT h lcokX12, spokX12 h, fun _ h => absurd h List.not_mem_nil, fun _ h => absurd h List.not_mem_nil, fun _ h => absurd h List.not_mem_nil, fun _ h => absurd h List.not_mem_nil, fun _ h => absurd h List.not_mem_nil⟩ dkX12_isIn (by decide +kernel) (by rw [h.2.2.1]; exact q76_ok)
/-- NearSpellModel.learn -/
def q77_M : rfM := ((⟨"NearSpellModel", "learn", "(II)I"⟩, prog_14_method_108_code, 4, (some .int)), (2,43), ([.inr (.inl [114]),.inl (((-2147483648),2147483647,1),none),.inl (((-2147483648),(-1),1),none)],[((90,28),(0,0,0),none),((90,29),(0,0,0),none),((90,36),(0,0,0),none),((114,55),(0,0,0),none)]), [], [(some (.inl (((-1),(-1),0),none)),[],[])])
def ddX12_learn : List (Nat × Instr × Nat) := [(0,.iload_n 1,1),(1,.invokestatic 420,3),(4,.ifCond .eq 34,3),(7,.iload_n 2,1),(8,.iconst 0,1),(9,.sipush 999,3),(12,.invokestatic 334,3),(15,.ifCond .eq 23,3),(18,.aload_n 0,1),(19,.getfield 72,3),(22,.bipush 28,2),(24,.iaload,1),(25,.bipush 14,2),(27,.if_icmp .eq 11,3),(30,.aload_n 0,1),(31,.iload_n 1,1),(32,.invokevirtual 468,3),(35,.ifCond .eq 5,3),(38,.iconst (-1),1),(39,.ireturn,1),(40,.aload_n 0,1),(41,.invokevirtual 471,3),(44,.aload_n 0,1),(45,.getfield 72,3),(48,.bipush 28,2),(50,.iaload,1),(51,.istore_n 3,1),(52,.aload_n 0,1),(53,.getfield 72,3),(56,.iconst 0,1),(57,.iload_n 3,1),(58,.iadd,1),(59,.iload_n 1,1),(60,.iastore,1),(61,.aload_n 0,1),(62,.getfield 72,3),(65,.bipush 14,2),(67,.iload_n 3,1),(68,.iadd,1),(69,.iload_n 2,1),(70,.iastore,1),(71,.aload_n 0,1),(72,.getfield 72,3),(75,.bipush 28,2),(77,.iload_n 3,1),(78,.iconst 1,1),(79,.iadd,1),(80,.iastore,1),(81,.iload_n 3,1),(82,.ireturn,1)]
set_option maxRecDepth 100000 in
theorem dkX12_learn : rf_decs prog_14_method_108_code ddX12_learn := rf_decs_of (by decide +kernel)
def q77_P : rfP := (flX12,csX12,lcX12,spX12,[q75_M,q76_M],[(334,1),(420,0)],[],([],[]))
def q77_U : rfU := []
set_option maxHeartbeats 8000000 in
def q77_N : List rfB := [(0,([(0,.inr (.inl [114])),(1,.inl (((-2147483648),2147483647,1),none)),(2,.inl (((-2147483648),(-1),1),none))],[],[((90,28),(0,0,0),some ((90,28),0,0)),((90,29),(0,0,0),some ((90,29),0,0)),((90,36),(0,0,0),some ((90,36),0,0)),((114,55),(0,0,0),some ((114,55),0,0))]),(10,[]),0)]
set_option maxRecDepth 100000 in
theorem q77_ok : rf_chkB q77_P q77_U wLay q77_M ddX12_learn [(1,[0]),(12,[1])] [] [0] 15 q77_N = true := by decide +kernel
set_option maxHeartbeats 4000000 in
theorem q77_met {G : rfG} (h : okG G) : rf_met G q77_M := rf_methodB h.1 (P := q77_P) (U := q77_U) (N := q77_N) ⟨wflT h flokX12, wcsT h csokX12, wlcT h lcokX12, spokX12 h, List.forall_mem_cons.mpr ⟨q75_met h, List.forall_mem_cons.mpr ⟨q76_met h, fun _ h => absurd h List.not_mem_nil⟩⟩, List.forall_mem_cons.mpr ⟨fun M hM => Option.some.inj (show some q76_M = some M from hM) ▸ wlkS (lkX12_334 h) q76_M rfl rfl, List.forall_mem_cons.mpr ⟨fun M hM => Option.some.inj (show some q75_M = some M from hM) ▸ wlkS (lkX12_420 h) q75_M rfl rfl, fun _ h => absurd h List.not_mem_nil⟩⟩, fun _ h => absurd h List.not_mem_nil, fun _ h => absurd h List.not_mem_nil, fun _ h => absurd h List.not_mem_nil⟩ dkX12_learn (by decide +kernel) (by rw [h.2.2.1]; exact q77_ok)
/-- NearSpell.learn -/
def q78_M : rfM := ((⟨"NearSpell", "learn", "(II)I"⟩, prog_1_method_7_code, 4, (some .int)), (1,22), ([.inr (.inl [70]),.inl (((-2147483648),2147483647,1),none),.inl ((1000,2147483647,1),none)],[((12,34),(0,0,0),none),((12,35),(0,0,0),none),((12,36),(0,0,0),none),((16,3),(0,0,0),none),((16,4),(0,0,0),none)]), [], [(some (.inl (((-1),(-1),0),none)),[],[])])
def q78_P : rfP := (flX11,csX11,lcX11,spX11,[q72_M],[(163,0)],[],([],[]))
def q78_U : rfU := []
set_option maxHeartbeats 8000000 in
def q78_N : List rfB := [(0,([(0,.inr (.inl [70])),(1,.inl (((-2147483648),2147483647,1),none)),(2,.inl ((1000,2147483647,1),none))],[],[((12,34),(0,0,0),some ((12,34),0,0)),((12,35),(0,0,0),some ((12,35),0,0)),((12,36),(0,0,0),some ((12,36),0,0)),((16,3),(0,0,0),some ((16,3),0,0)),((16,4),(0,0,0),some ((16,4),0,0))]),(10,[]),0)]
set_option maxRecDepth 100000 in
theorem q78_ok : rf_chkB q78_P q78_U wLay q78_M ddX11_learn [(1,[0])] [] [0] 15 q78_N = true := by decide +kernel
set_option maxHeartbeats 4000000 in
theorem q78_met {G : rfG} (h : okG G) : rf_met G q78_M := rf_methodB h.1 (P := q78_P) (U := q78_U) (N := q78_N) ⟨wflT h flokX11, wcsT h csokX11, wlcT h lcokX11, spokX11 h, List.forall_mem_cons.mpr ⟨q72_met h, fun _ h => absurd h List.not_mem_nil⟩, List.forall_mem_cons.mpr ⟨fun M hM => Option.some.inj (show some q72_M = some M from hM) ▸ wlkS (lkX11_163 h) q72_M rfl rfl, fun _ h => absurd h List.not_mem_nil⟩, fun _ h => absurd h List.not_mem_nil, fun _ h => absurd h List.not_mem_nil, fun _ h => absurd h List.not_mem_nil⟩ dkX11_learn (by decide +kernel) (by rw [h.2.2.1]; exact q78_ok)
/-- NearSpellModel.isIn -/
def q79_M : rfM := ((⟨"NearSpellModel", "isIn", "(III)Z"⟩, prog_14_method_35_code, 3, (some .boolean)), (0,0), ([.inl ((1,2147483647,1),none),.inl ((0,0,0),none),.inl ((999,999,0),none)],[]), [], [(some (.inl ((1,1,0),none)),[(0,1,999)],[]),(some (.inl ((0,0,0),none)),[(0,1000,2147483647)],[])])
def q79_P : rfP := (flX12,csX12,lcX12,spX12,[],[],[],([],[]))
def q79_U : rfU := []
set_option maxHeartbeats 8000000 in
def q79_N : List rfB := [(0,([(0,.inl ((1,2147483647,1),none)),(1,.inl ((0,0,0),none)),(2,.inl ((999,999,0),none))],[],[]),(10,[]),0)]
set_option maxRecDepth 100000 in
theorem q79_ok : rf_chkB q79_P q79_U wLay q79_M ddX12_isIn [] [] [0] 600 q79_N = true := by decide +kernel
set_option maxHeartbeats 4000000 in
theorem q79_met {G : rfG} (h : okG G) : rf_met G q79_M := rf_methodB h.1 (P := q79_P) (U := q79_U) (N := q79_N) ⟨wflT h flokX12, wcsT h csokX12, wlcT h lcokX12, spokX12 h, fun _ h => absurd h List.not_mem_nil, fun _ h => absurd h List.not_mem_nil, fun _ h => absurd h List.not_mem_nil, fun _ h => absurd h List.not_mem_nil, fun _ h => absurd h List.not_mem_nil⟩ dkX12_isIn (by decide +kernel) (by rw [h.2.2.1]; exact q79_ok)
/-- NearSpellModel.learn -/
def q80_M : rfM := ((⟨"NearSpellModel", "learn", "(II)I"⟩, prog_14_method_108_code, 4, (some .int)), (2,43), ([.inr (.inl [114]),.inl (((-2147483648),2147483647,1),none),.inl ((1000,2147483647,1),none)],[((90,28),(0,0,0),none),((90,29),(0,0,0),none),((90,36),(0,0,0),none),((114,55),(0,0,0),none)]), [], [(some (.inl (((-1),(-1),0),none)),[],[])])
def q80_P : rfP := (flX12,csX12,lcX12,spX12,[q75_M,q79_M],[(334,1),(420,0)],[],([],[]))
def q80_U : rfU := []
set_option maxHeartbeats 8000000 in
def q80_N : List rfB := [(0,([(0,.inr (.inl [114])),(1,.inl (((-2147483648),2147483647,1),none)),(2,.inl ((1000,2147483647,1),none))],[],[((90,28),(0,0,0),some ((90,28),0,0)),((90,29),(0,0,0),some ((90,29),0,0)),((90,36),(0,0,0),some ((90,36),0,0)),((114,55),(0,0,0),some ((114,55),0,0))]),(10,[]),0)]
set_option maxRecDepth 100000 in
theorem q80_ok : rf_chkB q80_P q80_U wLay q80_M ddX12_learn [(1,[0]),(12,[1])] [] [0] 15 q80_N = true := by decide +kernel
set_option maxHeartbeats 4000000 in
theorem q80_met {G : rfG} (h : okG G) : rf_met G q80_M := rf_methodB h.1 (P := q80_P) (U := q80_U) (N := q80_N) ⟨wflT h flokX12, wcsT h csokX12, wlcT h lcokX12, spokX12 h, List.forall_mem_cons.mpr ⟨q75_met h, List.forall_mem_cons.mpr ⟨q79_met h, fun _ h => absurd h List.not_mem_nil⟩⟩, List.forall_mem_cons.mpr ⟨fun M hM => Option.some.inj (show some q79_M = some M from hM) ▸ wlkS (lkX12_334 h) q79_M rfl rfl, List.forall_mem_cons.mpr ⟨fun M hM => Option.some.inj (show some q75_M = some M from hM) ▸ wlkS (lkX12_420 h) q75_M rfl rfl, fun _ h => absurd h List.not_mem_nil⟩⟩, fun _ h => absurd h List.not_mem_nil, fun _ h => absurd h List.not_mem_nil, fun _ h => absurd h List.not_mem_nil⟩ dkX12_learn (by decide +kernel) (by rw [h.2.2.1]; exact q80_ok)
/-- NearSpell.forget -/
def q81_M : rfM := ((⟨"NearSpell", "forget", "(I)I"⟩, prog_1_method_8_code, 2, (some .int)), (1,21), ([.inr (.inl [70]),.inl (((-2147483648),2147483647,1),none)],[((12,34),(0,0,0),none),((12,35),(0,0,0),none),((12,36),(0,0,0),none),((16,3),(0,0,0),none),((16,4),(0,0,0),none)]), [], [(some (.inl (((-1),(-1),0),none)),[],[])])
def ddX11_forget : List (Nat × Instr × Nat) := [(0,.aload_n 0,1),(1,.getfield 35,3),(4,.iload_n 1,1),(5,.invokevirtual 141,3),(8,.ifCond .ne 5,3),(11,.iconst (-1),1),(12,.ireturn,1),(13,.aload_n 0,1),(14,.getfield 35,3),(17,.iload_n 1,1),(18,.invokevirtual 180,3),(21,.aload_n 0,1),(22,.getfield 42,3),(25,.aload_n 0,1),(26,.getfield 35,3),(29,.invokevirtual 177,3),(32,.aload_n 0,1),(33,.getfield 35,3),(36,.invokevirtual 183,3),(39,.ireturn,1)]
set_option maxRecDepth 100000 in
theorem dkX11_forget : rf_decs prog_1_method_8_code ddX11_forget := rf_decs_of (by decide +kernel)
def q81_P : rfP := (flX11,csX11,lcX11,spX11,[q38_M],[],[(141,0,8)],([],[]))
def q81_U : rfU := []
set_option maxHeartbeats 8000000 in
def q81_N : List rfB := [(0,([(0,.inr (.inl [70])),(1,.inl (((-2147483648),2147483647,1),none))],[],[((12,34),(0,0,0),some ((12,34),0,0)),((12,35),(0,0,0),some ((12,35),0,0)),((12,36),(0,0,0),some ((12,36),0,0)),((16,3),(0,0,0),some ((16,3),0,0)),((16,4),(0,0,0),some ((16,4),0,0))]),(6,[]),0)]
set_option maxRecDepth 100000 in
theorem q81_ok : rf_chkB q81_P q81_U wLay q81_M ddX11_forget [(5,[0])] [] [0] 600 q81_N = true := by decide +kernel
set_option maxHeartbeats 4000000 in
theorem q81_met {G : rfG} (h : okG G) : rf_met G q81_M := rf_methodB h.1 (P := q81_P) (U := q81_U) (N := q81_N) ⟨wflT h flokX11, wcsT h csokX11, wlcT h lcokX11, spokX11 h, List.forall_mem_cons.mpr ⟨q38_met h, fun _ h => absurd h List.not_mem_nil⟩, fun _ h => absurd h List.not_mem_nil, List.forall_mem_cons.mpr ⟨fun M hM => Option.some.inj (show some q38_M = some M from hM) ▸ wlkV (lkX11_141 h) q38_M rfl rfl, fun _ h => absurd h List.not_mem_nil⟩, fun _ h => absurd h List.not_mem_nil, fun _ h => absurd h List.not_mem_nil⟩ dkX11_forget (by decide +kernel) (by rw [h.2.2.1]; exact q81_ok)
/-- NearSpellModel.forget -/
def q82_M : rfM := ((⟨"NearSpellModel", "forget", "(I)I"⟩, prog_14_method_109_code, 2, (some .int)), (2,43), ([.inr (.inl [114]),.inl (((-2147483648),2147483647,1),none)],[((90,28),(0,0,0),none),((90,29),(0,0,0),none),((90,36),(0,0,0),none),((114,55),(0,0,0),none)]), [], [(some (.inl (((-1),(-1),0),none)),[],[])])
def ddX12_forget : List (Nat × Instr × Nat) := [(0,.aload_n 0,1),(1,.iload_n 1,1),(2,.invokevirtual 350,3),(5,.ifCond .ne 5,3),(8,.iconst (-1),1),(9,.ireturn,1),(10,.aload_n 0,1),(11,.invokevirtual 471,3),(14,.aload_n 0,1),(15,.getfield 72,3),(18,.iconst 0,1),(19,.iload_n 1,1),(20,.iadd,1),(21,.iconst (-1),1),(22,.iastore,1),(23,.aload_n 0,1),(24,.invokevirtual 423,3),(27,.invokestatic 356,3),(30,.ireturn,1)]
set_option maxRecDepth 100000 in
theorem dkX12_forget : rf_decs prog_14_method_109_code ddX12_forget := rf_decs_of (by decide +kernel)
def q82_P : rfP := (flX12,csX12,lcX12,spX12,[q41_M],[],[(350,0,12)],([],[]))
def q82_U : rfU := []
set_option maxHeartbeats 8000000 in
def q82_N : List rfB := [(0,([(0,.inr (.inl [114])),(1,.inl (((-2147483648),2147483647,1),none))],[],[((90,28),(0,0,0),some ((90,28),0,0)),((90,29),(0,0,0),some ((90,29),0,0)),((90,36),(0,0,0),some ((90,36),0,0)),((114,55),(0,0,0),some ((114,55),0,0))]),(5,[]),0)]
set_option maxRecDepth 100000 in
theorem q82_ok : rf_chkB q82_P q82_U wLay q82_M ddX12_forget [(2,[0])] [] [0] 600 q82_N = true := by decide +kernel
set_option maxHeartbeats 4000000 in
theorem q82_met {G : rfG} (h : okG G) : rf_met G q82_M := rf_methodB h.1 (P := q82_P) (U := q82_U) (N := q82_N) ⟨wflT h flokX12, wcsT h csokX12, wlcT h lcokX12, spokX12 h, List.forall_mem_cons.mpr ⟨q41_met h, fun _ h => absurd h List.not_mem_nil⟩, fun _ h => absurd h List.not_mem_nil, List.forall_mem_cons.mpr ⟨fun M hM => Option.some.inj (show some q41_M = some M from hM) ▸ wlkV (lkX12_350 h) q41_M rfl rfl, fun _ h => absurd h List.not_mem_nil⟩, fun _ h => absurd h List.not_mem_nil, fun _ h => absurd h List.not_mem_nil⟩ dkX12_forget (by decide +kernel) (by rw [h.2.2.1]; exact q82_ok)
/-- NearSpell.use -/
def q83_M : rfM := ((⟨"NearSpell", "use", "(I)I"⟩, prog_1_method_9_code, 2, (some .int)), (1,21), ([.inr (.inl [70]),.inl (((-2147483648),2147483647,1),none)],[((12,34),(0,0,0),none),((12,35),(0,0,0),none),((12,36),(0,0,0),none),((16,3),(0,0,0),none),((16,4),(0,0,0),none)]), [], [(some (.inl (((-1),(-1),0),none)),[],[])])
def ddX11_use : List (Nat × Instr × Nat) := [(0,.aload_n 0,1),(1,.getfield 35,3),(4,.iload_n 1,1),(5,.invokevirtual 141,3),(8,.ifCond .eq 17,3),(11,.aload_n 0,1),(12,.getfield 35,3),(15,.iload_n 1,1),(16,.invokevirtual 151,3),(19,.sipush 999,3),(22,.if_icmp .lt 5,3),(25,.iconst (-1),1),(26,.ireturn,1),(27,.aload_n 0,1),(28,.getfield 35,3),(31,.iload_n 1,1),(32,.invokevirtual 186,3),(35,.aload_n 0,1),(36,.getfield 42,3),(39,.aload_n 0,1),(40,.getfield 35,3),(43,.invokevirtual 177,3),(46,.aload_n 0,1),(47,.getfield 35,3),(50,.iload_n 1,1),(51,.invokevirtual 151,3),(54,.ireturn,1)]
set_option maxRecDepth 100000 in
theorem dkX11_use : rf_decs prog_1_method_9_code ddX11_use := rf_decs_of (by decide +kernel)
def q83_P : rfP := (flX11,csX11,lcX11,spX11,[q38_M],[],[(141,0,8)],([],[]))
def q83_U : rfU := []
set_option maxHeartbeats 8000000 in
def q83_N : List rfB := [(0,([(0,.inr (.inl [70])),(1,.inl (((-2147483648),2147483647,1),none))],[],[((12,34),(0,0,0),some ((12,34),0,0)),((12,35),(0,0,0),some ((12,35),0,0)),((12,36),(0,0,0),some ((12,36),0,0)),((16,3),(0,0,0),some ((16,3),0,0)),((16,4),(0,0,0),some ((16,4),0,0))]),(6,[]),0)]
set_option maxRecDepth 100000 in
theorem q83_ok : rf_chkB q83_P q83_U wLay q83_M ddX11_use [(5,[0])] [] [0] 600 q83_N = true := by decide +kernel
set_option maxHeartbeats 4000000 in
theorem q83_met {G : rfG} (h : okG G) : rf_met G q83_M := rf_methodB h.1 (P := q83_P) (U := q83_U) (N := q83_N) ⟨wflT h flokX11, wcsT h csokX11, wlcT h lcokX11, spokX11 h, List.forall_mem_cons.mpr ⟨q38_met h, fun _ h => absurd h List.not_mem_nil⟩, fun _ h => absurd h List.not_mem_nil, List.forall_mem_cons.mpr ⟨fun M hM => Option.some.inj (show some q38_M = some M from hM) ▸ wlkV (lkX11_141 h) q38_M rfl rfl, fun _ h => absurd h List.not_mem_nil⟩, fun _ h => absurd h List.not_mem_nil, fun _ h => absurd h List.not_mem_nil⟩ dkX11_use (by decide +kernel) (by rw [h.2.2.1]; exact q83_ok)
/-- NearSpellModel.use -/
def q84_M : rfM := ((⟨"NearSpellModel", "use", "(I)I"⟩, prog_14_method_110_code, 2, (some .int)), (2,43), ([.inr (.inl [114]),.inl (((-2147483648),2147483647,1),none)],[((90,28),(0,0,0),none),((90,29),(0,0,0),none),((90,36),(0,0,0),none),((114,55),(0,0,0),none)]), [], [(some (.inl (((-1),(-1),0),none)),[],[])])
def ddX12_use : List (Nat × Instr × Nat) := [(0,.aload_n 0,1),(1,.iload_n 1,1),(2,.invokevirtual 350,3),(5,.ifCond .eq 18,3),(8,.aload_n 0,1),(9,.getfield 72,3),(12,.bipush 14,2),(14,.iload_n 1,1),(15,.iadd,1),(16,.iaload,1),(17,.sipush 999,3),(20,.if_icmp .ne 5,3),(23,.iconst (-1),1),(24,.ireturn,1),(25,.aload_n 0,1),(26,.invokevirtual 471,3),(29,.aload_n 0,1),(30,.getfield 72,3),(33,.bipush 14,2),(35,.iload_n 1,1),(36,.iadd,1),(37,.dup2,1),(38,.iaload,1),(39,.iconst 1,1),(40,.iadd,1),(41,.iastore,1),(42,.aload_n 0,1),(43,.getfield 72,3),(46,.bipush 14,2),(48,.iload_n 1,1),(49,.iadd,1),(50,.iaload,1),(51,.ireturn,1)]
set_option maxRecDepth 100000 in
theorem dkX12_use : rf_decs prog_14_method_110_code ddX12_use := rf_decs_of (by decide +kernel)
def q84_P : rfP := (flX12,csX12,lcX12,spX12,[q41_M],[],[(350,0,12)],([],[]))
def q84_U : rfU := []
set_option maxHeartbeats 8000000 in
def q84_N : List rfB := [(0,([(0,.inr (.inl [114])),(1,.inl (((-2147483648),2147483647,1),none))],[],[((90,28),(0,0,0),some ((90,28),0,0)),((90,29),(0,0,0),some ((90,29),0,0)),((90,36),(0,0,0),some ((90,36),0,0)),((114,55),(0,0,0),some ((114,55),0,0))]),(5,[]),0)]
set_option maxRecDepth 100000 in
theorem q84_ok : rf_chkB q84_P q84_U wLay q84_M ddX12_use [(2,[0])] [] [0] 600 q84_N = true := by decide +kernel
set_option maxHeartbeats 4000000 in
theorem q84_met {G : rfG} (h : okG G) : rf_met G q84_M := rf_methodB h.1 (P := q84_P) (U := q84_U) (N := q84_N) ⟨wflT h flokX12, wcsT h csokX12, wlcT h lcokX12, spokX12 h, List.forall_mem_cons.mpr ⟨q41_met h, fun _ h => absurd h List.not_mem_nil⟩, fun _ h => absurd h List.not_mem_nil, List.forall_mem_cons.mpr ⟨fun M hM => Option.some.inj (show some q41_M = some M from hM) ▸ wlkV (lkX12_350 h) q41_M rfl rfl, fun _ h => absurd h List.not_mem_nil⟩, fun _ h => absurd h List.not_mem_nil, fun _ h => absurd h List.not_mem_nil⟩ dkX12_use (by decide +kernel) (by rw [h.2.2.1]; exact q84_ok)
/-- NearSpell.State.phraseSize -/
def q87_M : rfM := ((⟨"NearSpell$State", "phraseSize", "()I"⟩, prog_10_method_4_code, 1, (some .int)), (0,0), ([.inr (.inl [13])],[((12,34),(0,0,0),none),((12,35),(0,0,0),none),((12,36),(0,0,0),none)]), [], [(some (.inl ((0,0,0),none)),[],[])])
def ddX8_phraseSize : List (Nat × Instr × Nat) := [(0,.aload_n 0,1),(1,.getfield 11,3),(4,.bipush 35,2),(6,.iaload,1),(7,.ireturn,1)]
set_option maxRecDepth 100000 in
theorem dkX8_phraseSize : rf_decs prog_10_method_4_code ddX8_phraseSize := rf_decs_of (by decide +kernel)
def q87_P : rfP := (flX8,csX8,lcX8,spX8,[],[],[],([],[]))
def q87_U : rfU := []
set_option maxHeartbeats 8000000 in
def q87_N : List rfB := [(0,([(0,.inr (.inl [13]))],[],[((12,34),(0,0,0),some ((12,34),0,0)),((12,35),(0,0,0),some ((12,35),0,0)),((12,36),(0,0,0),some ((12,36),0,0))]),(4,[]),0)]
set_option maxRecDepth 100000 in
theorem q87_ok : rf_chkB q87_P q87_U wLay q87_M ddX8_phraseSize [] [] [0] 600 q87_N = true := by decide +kernel
set_option maxHeartbeats 4000000 in
theorem q87_met {G : rfG} (h : okG G) : rf_met G q87_M := rf_methodB h.1 (P := q87_P) (U := q87_U) (N := q87_N) ⟨wflT h flokX8, wcsT h csokX8, wlcT h lcokX8, spokX8 h, fun _ h => absurd h List.not_mem_nil, fun _ h => absurd h List.not_mem_nil, fun _ h => absurd h List.not_mem_nil, fun _ h => absurd h List.not_mem_nil, fun _ h => absurd h List.not_mem_nil⟩ dkX8_phraseSize (by decide +kernel) (by rw [h.2.2.1]; exact q87_ok)
/-- NearSpell.State.addTyped -/
def q88_M : rfM := ((⟨"NearSpell$State", "addTyped", "(II)I"⟩, prog_10_method_15_code, 4, (some .int)), (0,0), ([.inr (.inl [13]),.inl ((0,387420488,1),none),.inl ((0,0,0),none)],[((12,34),(0,0,0),none),((12,35),(0,0,0),none),((12,36),(0,0,0),none)]), [(12,0)], [(some (.inl ((0,387420488,1),none)),[],[((12,28),(0,387420488,1),none),((12,34),(0,0,0),some ((12,34),0,0)),((12,35),(1,1,0),some ((12,35),1,1)),((12,36),(0,71,1),none)])])
def ddX8_addTyped : List (Nat × Instr × Nat) := [(0,.aload_n 0,1),(1,.getfield 11,3),(4,.bipush 36,2),(6,.aload_n 0,1),(7,.getfield 11,3),(10,.bipush 36,2),(12,.iaload,1),(13,.sipush 137,3),(16,.imul,1),(17,.bipush 71,2),(19,.iadd,1),(20,.sipush 1000,3),(23,.irem,1),(24,.iastore,1),(25,.aload_n 0,1),(26,.getfield 11,3),(29,.bipush 36,2),(31,.iaload,1),(32,.bipush 100,2),(34,.irem,1),(35,.iload_n 2,1),(36,.if_icmp .ge 10,3),(39,.iload_n 1,1),(40,.bipush 27,2),(42,.idiv,1),(43,.goto 4,3),(46,.iload_n 1,1),(47,.istore_n 3,1),(48,.aload_n 0,1),(49,.getfield 11,3),(52,.bipush 35,2),(54,.iaload,1),(55,.bipush 6,2),(57,.if_icmp .ge 30,3),(60,.aload_n 0,1),(61,.getfield 11,3),(64,.bipush 28,2),(66,.aload_n 0,1),(67,.getfield 11,3),(70,.bipush 35,2),(72,.iaload,1),(73,.iadd,1),(74,.iload_n 3,1),(75,.iastore,1),(76,.aload_n 0,1),(77,.getfield 11,3),(80,.bipush 35,2),(82,.dup2,1),(83,.iaload,1),(84,.iconst 1,1),(85,.iadd,1),(86,.iastore,1),(87,.iload_n 3,1),(88,.ireturn,1)]
set_option maxRecDepth 100000 in
theorem dkX8_addTyped : rf_decs prog_10_method_15_code ddX8_addTyped := rf_decs_of (by decide +kernel)
def q88_P : rfP := (flX8,csX8,lcX8,spX8,[],[],[],([],[]))
def q88_U : rfU := []
set_option maxHeartbeats 8000000 in
def q88_N : List rfB := [(0,([(0,.inr (.inl [13])),(1,.inl ((0,387420488,1),none)),(2,.inl ((0,0,0),none))],[],[((12,34),(0,0,0),some ((12,34),0,0)),((12,35),(0,0,0),some ((12,35),0,0)),((12,36),(0,0,0),some ((12,36),0,0))]),(49,[]),0)]
set_option maxRecDepth 100000 in
theorem q88_ok : rf_chkB q88_P q88_U wLay q88_M ddX8_addTyped [] [] [0] 600 q88_N = true := by decide +kernel
set_option maxHeartbeats 4000000 in
theorem q88_met {G : rfG} (h : okG G) : rf_met G q88_M := rf_methodB h.1 (P := q88_P) (U := q88_U) (N := q88_N) ⟨wflT h flokX8, wcsT h csokX8, wlcT h lcokX8, spokX8 h, fun _ h => absurd h List.not_mem_nil, fun _ h => absurd h List.not_mem_nil, fun _ h => absurd h List.not_mem_nil, fun _ h => absurd h List.not_mem_nil, fun _ h => absurd h List.not_mem_nil⟩ dkX8_addTyped (by decide +kernel) (by rw [h.2.2.1]; exact q88_ok)
/-- NearSpell.Archive.keepRow -/
def q89_M : rfM := ((⟨"NearSpell$Archive", "keepRow", "(LNearSpell$State;)V"⟩, prog_2_method_7_code, 2, none), (1,20), ([.inr (.inl [16]),.inr (.inl [13])],[((12,34),(0,0,0),none),((16,3),(0,0,0),none),((16,4),(1,1,0),none)]), [(14,0)], [(none,[],[])])
def q89_P : rfP := (flX0,csX0,lcX0,spX0,[q48_M],[],[(43,0,0)],([47],[]))
def q89_U : rfU := []
set_option maxHeartbeats 8000000 in
def q89_N : List rfB := [(0,([(0,.inr (.inl [16])),(1,.inr (.inl [13]))],[],[((12,34),(0,0,0),some ((12,34),0,0)),((16,3),(0,0,0),some ((16,3),0,0)),((16,4),(1,1,0),some ((16,4),0,0))]),(9,[]),0)]
set_option maxRecDepth 100000 in
theorem q89_ok : rf_chkB q89_P q89_U wLay q89_M ddX0_keepRow [(10,[0])] [] [0] 600 q89_N = true := by decide +kernel
set_option maxHeartbeats 4000000 in
theorem q89_met {G : rfG} (h : okG G) : rf_met G q89_M := rf_methodB h.1 (P := q89_P) (U := q89_U) (N := q89_N) ⟨wflT h flokX0, wcsT h csokX0, wlcT h lcokX0, spokX0 h, List.forall_mem_cons.mpr ⟨q48_met h, fun _ h => absurd h List.not_mem_nil⟩, fun _ h => absurd h List.not_mem_nil, List.forall_mem_cons.mpr ⟨fun M hM => Option.some.inj (show some q48_M = some M from hM) ▸ wlkV (lkX0_43 h) q48_M rfl rfl, fun _ h => absurd h List.not_mem_nil⟩, List.forall_mem_cons.mpr ⟨⟨wmT h (wm776), wmT h (wm755), wmT h (wm754), wmT h (wm136)⟩, fun _ h => absurd h List.not_mem_nil⟩, fun _ h => absurd h List.not_mem_nil⟩ dkX0_keepRow (by decide +kernel) (by rw [h.2.2.1]; exact q89_ok)
/-- NearSpell.Archive.keepAct -/
def q90_M : rfM := ((⟨"NearSpell$Archive", "keepAct", "(LNearSpell$State;)V"⟩, prog_2_method_3_code, 2, none), (2,41), ([.inr (.inl [16]),.inr (.inl [13])],[((12,34),(0,0,0),none),((16,3),(0,0,0),none),((16,4),(0,0,0),none)]), [(14,0),(16,5),(16,6)], [(none,[],[((16,4),(1,1,0),some ((16,4),1,1)),((16,5),(0,0,0),none)])])
def q90_P : rfP := (flX0,csX0,lcX0,spX0,[q89_M],[],[(33,0,0)],([],[]))
def q90_U : rfU := []
set_option maxHeartbeats 8000000 in
def q90_N : List rfB := [(0,([(0,.inr (.inl [16])),(1,.inr (.inl [13]))],[],[((12,34),(0,0,0),some ((12,34),0,0)),((16,3),(0,0,0),some ((16,3),0,0)),((16,4),(0,0,0),some ((16,4),0,0))]),(17,[]),0)]
set_option maxRecDepth 100000 in
theorem q90_ok : rf_chkB q90_P q90_U wLay q90_M ddX0_keepAct [(42,[0])] [] [0] 600 q90_N = true := by decide +kernel
set_option maxHeartbeats 4000000 in
theorem q90_met {G : rfG} (h : okG G) : rf_met G q90_M := rf_methodB h.1 (P := q90_P) (U := q90_U) (N := q90_N) ⟨wflT h flokX0, wcsT h csokX0, wlcT h lcokX0, spokX0 h, List.forall_mem_cons.mpr ⟨q89_met h, fun _ h => absurd h List.not_mem_nil⟩, fun _ h => absurd h List.not_mem_nil, List.forall_mem_cons.mpr ⟨fun M hM => Option.some.inj (show some q89_M = some M from hM) ▸ wlkV (lkX0_33 h) q89_M rfl rfl, fun _ h => absurd h List.not_mem_nil⟩, fun _ h => absurd h List.not_mem_nil, fun _ h => absurd h List.not_mem_nil⟩ dkX0_keepAct (by decide +kernel) (by rw [h.2.2.1]; exact q90_ok)
/-- NearSpell.lengthOf -/
def q91_M : rfM := ((⟨"NearSpell", "lengthOf", "(I)I"⟩, prog_1_method_53_code, 2, (some .int)), (0,0), ([.inl ((0,387420488,1),none)],[]), [], [(some (.inl ((0,6,1),none)),[],[])])
def ddX11_lengthOf : List (Nat × Instr × Nat) := [(0,.iconst 0,1),(1,.istore_n 1,1),(2,.iload_n 1,1),(3,.bipush 6,2),(5,.if_icmp .ge 18,3),(8,.iload_n 0,1),(9,.getstatic 360,3),(12,.iload_n 1,1),(13,.iaload,1),(14,.if_icmp .lt 9,3),(17,.iinc 1 1,3),(20,.goto (-18),3),(23,.iload_n 1,1),(24,.ireturn,1)]
set_option maxRecDepth 100000 in
theorem dkX11_lengthOf : rf_decs prog_1_method_53_code ddX11_lengthOf := rf_decs_of (by decide +kernel)
def q91_P : rfP := (flX11,csX11,lcX11,spX11,[],[],[],([],[]))
def q91_U : rfU := []
set_option maxHeartbeats 8000000 in
def q91_N : List rfB := [(0,([(0,.inl ((0,387420488,1),none))],[],[]),(80,[0]),0)]
set_option maxRecDepth 100000 in
theorem q91_ok : rf_chkB q91_P q91_U wLay q91_M ddX11_lengthOf [] [.inl 1] [0] 72 q91_N = true := by decide +kernel
set_option maxHeartbeats 4000000 in
theorem q91_met {G : rfG} (h : okG G) : rf_met G q91_M := rf_methodB h.1 (P := q91_P) (U := q91_U) (N := q91_N) ⟨wflT h flokX11, wcsT h csokX11, wlcT h lcokX11, spokX11 h, fun _ h => absurd h List.not_mem_nil, fun _ h => absurd h List.not_mem_nil, fun _ h => absurd h List.not_mem_nil, fun _ h => absurd h List.not_mem_nil, fun _ h => absurd h List.not_mem_nil⟩ dkX11_lengthOf (by decide +kernel) (by rw [h.2.2.1]; exact q91_ok)
/-- NearSpell.Ruler.putLetters -/
def q92_M : rfM := ((⟨"NearSpell$Ruler", "putLetters", "(I[II)I"⟩, prog_9_method_8_code, 6, (some .int)), (1,21), ([.inl ((0,387420488,1),none),.inr (.inl [17]),.inl ((0,0,0),none)],[]), [(17,0)], [(some (.inl ((0,6,1),none)),[],[])])
def ddX7_putLetters : List (Nat × Instr × Nat) := [(0,.iload_n 2,1),(1,.iload_n 0,1),(2,.invokestatic 55,3),(5,.iadd,1),(6,.istore_n 3,1),(7,.iload_n 3,1),(8,.aload_n 1,1),(9,.arraylength,1),(10,.if_icmp .le 5,3),(13,.iload_n 2,1),(14,.ireturn,1),(15,.iload_n 0,1),(16,.istore 4,2),(18,.iload_n 3,1),(19,.iconst 1,1),(20,.isub,1),(21,.istore 5,2),(23,.iload 5,2),(25,.iload_n 2,1),(26,.if_icmp .lt 25,3),(29,.aload_n 1,1),(30,.iload 5,2),(32,.iload 4,2),(34,.bipush 27,2),(36,.irem,1),(37,.iastore,1),(38,.iload 4,2),(40,.bipush 27,2),(42,.idiv,1),(43,.istore 4,2),(45,.iinc 5 (-1),3),(48,.goto (-25),3),(51,.iload_n 3,1),(52,.ireturn,1)]
set_option maxRecDepth 100000 in
theorem dkX7_putLetters : rf_decs prog_9_method_8_code ddX7_putLetters := rf_decs_of (by decide +kernel)
def q92_P : rfP := (flX7,csX7,lcX7,spX7,[q91_M],[(55,0)],[],([],[]))
def q92_U : rfU := []
set_option maxHeartbeats 8000000 in
def q92_N : List rfB := [(0,([(0,.inl ((0,387420488,1),none)),(1,.inr (.inl [17])),(2,.inl ((0,0,0),none))],[],[]),(128,[0]),0)]
set_option maxRecDepth 100000 in
theorem q92_ok : rf_chkB q92_P q92_U wLay q92_M ddX7_putLetters [(2,[0])] [.inl 5] [0] 115 q92_N = true := by decide +kernel
set_option maxHeartbeats 4000000 in
theorem q92_met {G : rfG} (h : okG G) : rf_met G q92_M := rf_methodB h.1 (P := q92_P) (U := q92_U) (N := q92_N) ⟨wflT h flokX7, wcsT h csokX7, wlcT h lcokX7, spokX7 h, List.forall_mem_cons.mpr ⟨q91_met h, fun _ h => absurd h List.not_mem_nil⟩, List.forall_mem_cons.mpr ⟨fun M hM => Option.some.inj (show some q91_M = some M from hM) ▸ wlkS (lkX7_55 h) q91_M rfl rfl, fun _ h => absurd h List.not_mem_nil⟩, fun _ h => absurd h List.not_mem_nil, fun _ h => absurd h List.not_mem_nil, fun _ h => absurd h List.not_mem_nil⟩ dkX7_putLetters (by decide +kernel) (by rw [h.2.2.1]; exact q92_ok)
/-- NearSpell.Ruler.setText -/
def q93_M : rfM := ((⟨"NearSpell$Ruler", "setText", "(I)V"⟩, prog_9_method_3_code, 2, none), (2,46), ([.inr (.inl [20]),.inl ((0,387420488,1),none)],[]), [(17,0),(20,4),(20,5)], [(none,[],[((20,3),(0,6,1),none),((20,4),(0,0,0),none)])])
def ddX7_setText : List (Nat × Instr × Nat) := [(0,.aload_n 0,1),(1,.iload_n 1,1),(2,.aload_n 0,1),(3,.getfield 11,3),(6,.iconst 0,1),(7,.invokestatic 36,3),(10,.putfield 21,3),(13,.aload_n 0,1),(14,.iconst 0,1),(15,.putfield 25,3),(18,.return_,1)]
set_option maxRecDepth 100000 in
theorem dkX7_setText : rf_decs prog_9_method_3_code ddX7_setText := rf_decs_of (by decide +kernel)
def q93_P : rfP := (flX7,csX7,lcX7,spX7,[q92_M],[(36,0)],[],([],[]))
def q93_U : rfU := []
set_option maxHeartbeats 8000000 in
def q93_N : List rfB := [(0,([(0,.inr (.inl [20])),(1,.inl ((0,387420488,1),none))],[],[]),(10,[]),0)]
set_option maxRecDepth 100000 in
theorem q93_ok : rf_chkB q93_P q93_U wLay q93_M ddX7_setText [(7,[0])] [] [0] 600 q93_N = true := by decide +kernel
set_option maxHeartbeats 4000000 in
theorem q93_met {G : rfG} (h : okG G) : rf_met G q93_M := rf_methodB h.1 (P := q93_P) (U := q93_U) (N := q93_N) ⟨wflT h flokX7, wcsT h csokX7, wlcT h lcokX7, spokX7 h, List.forall_mem_cons.mpr ⟨q92_met h, fun _ h => absurd h List.not_mem_nil⟩, List.forall_mem_cons.mpr ⟨fun M hM => Option.some.inj (show some q92_M = some M from hM) ▸ wlkS (lkX7_36 h) q92_M rfl rfl, fun _ h => absurd h List.not_mem_nil⟩, fun _ h => absurd h List.not_mem_nil, fun _ h => absurd h List.not_mem_nil, fun _ h => absurd h List.not_mem_nil⟩ dkX7_setText (by decide +kernel) (by rw [h.2.2.1]; exact q93_ok)
/-- NearSpell.State.given -/
def q94_M : rfM := ((⟨"NearSpell$State", "given", "()I"⟩, prog_10_method_3_code, 1, (some .int)), (0,0), ([.inr (.inl [13])],[((12,34),(0,0,0),none)]), [], [(some (.inl ((0,0,0),none)),[],[])])
def q94_P : rfP := (flX8,csX8,lcX8,spX8,[],[],[],([],[]))
def q94_U : rfU := []
set_option maxHeartbeats 8000000 in
def q94_N : List rfB := [(0,([(0,.inr (.inl [13]))],[],[((12,34),(0,0,0),some ((12,34),0,0))]),(4,[]),0)]
set_option maxRecDepth 100000 in
theorem q94_ok : rf_chkB q94_P q94_U wLay q94_M ddX8_given [] [] [0] 600 q94_N = true := by decide +kernel
set_option maxHeartbeats 4000000 in
theorem q94_met {G : rfG} (h : okG G) : rf_met G q94_M := rf_methodB h.1 (P := q94_P) (U := q94_U) (N := q94_N) ⟨wflT h flokX8, wcsT h csokX8, wlcT h lcokX8, spokX8 h, fun _ h => absurd h List.not_mem_nil, fun _ h => absurd h List.not_mem_nil, fun _ h => absurd h List.not_mem_nil, fun _ h => absurd h List.not_mem_nil, fun _ h => absurd h List.not_mem_nil⟩ dkX8_given (by decide +kernel) (by rw [h.2.2.1]; exact q94_ok)
/-- NearSpell.Finder.within -/
def q95_M : rfM := ((⟨"NearSpell$Finder", "within", "(II)I"⟩, prog_4_method_4_code, 5, (some .int)), (3,67), ([.inr (.inl [55]),.inl ((0,387420488,1),none),.inl ((6,6,0),none)],[((12,34),(0,0,0),none),((20,3),(0,0,0),none),((20,4),(0,0,0),none)]), [(17,0),(20,4),(20,5)], [(some (.inl ((0,0,0),none)),[],[((20,3),(0,6,1),none),((20,4),(0,0,0),none)])])
def ddX2_within : List (Nat × Instr × Nat) := [(0,.aload_n 0,1),(1,.getfield 23,3),(4,.iload_n 1,1),(5,.invokevirtual 60,3),(8,.iconst 0,1),(9,.istore_n 3,1),(10,.iconst 0,1),(11,.istore 4,2),(13,.iload 4,2),(15,.aload_n 0,1),(16,.getfield 15,3),(19,.invokevirtual 43,3),(22,.if_icmp .ge 73,3),(25,.iload 4,2),(27,.bipush 14,2),(29,.if_icmp .ge 66,3),(32,.aload_n 0,1),(33,.getfield 15,3),(36,.iload 4,2),(38,.invokevirtual 49,3),(41,.ifCond .eq 48,3),(44,.aload_n 0,1),(45,.getfield 27,3),(48,.iload 4,2),(50,.aload_n 0,1),(51,.getfield 23,3),(54,.aload_n 0,1),(55,.getfield 15,3),(58,.iload 4,2),(60,.invokevirtual 66,3),(63,.invokevirtual 70,3),(66,.iastore,1),(67,.iload_n 3,1),(68,.aload_n 0,1),(69,.getfield 27,3),(72,.iload 4,2),(74,.iaload,1),(75,.iload_n 2,1),(76,.if_icmp .gt 10,3),(79,.iconst 1,1),(80,.iload 4,2),(82,.ishl,1),(83,.goto 4,3),(86,.iconst 0,1),(87,.ior,1),(88,.istore_n 3,1),(89,.iinc 4 1,3),(92,.goto (-79),3),(95,.iload_n 3,1),(96,.ireturn,1)]
set_option maxRecDepth 100000 in
theorem dkX2_within : rf_decs prog_4_method_4_code ddX2_within := rf_decs_of (by decide +kernel)
def q95_P : rfP := (flX2,csX2,lcX2,spX2,[q93_M,q94_M],[],[(43,1,8),(60,0,7)],([],[]))
def q95_U : rfU := []
set_option maxHeartbeats 8000000 in
def q95_N : List rfB := [(0,([(0,.inr (.inl [55])),(1,.inl ((0,387420488,1),none)),(2,.inl ((6,6,0),none))],[],[((12,34),(0,0,0),some ((12,34),0,0)),((20,3),(0,0,0),some ((20,3),0,0)),((20,4),(0,0,0),some ((20,4),0,0))]),(14,[]),0)]
set_option maxRecDepth 100000 in
theorem q95_ok : rf_chkB q95_P q95_U wLay q95_M ddX2_within [(5,[0]),(19,[1])] [] [0] 600 q95_N = true := by decide +kernel
set_option maxHeartbeats 4000000 in
theorem q95_met {G : rfG} (h : okG G) : rf_met G q95_M := rf_methodB h.1 (P := q95_P) (U := q95_U) (N := q95_N) ⟨wflT h flokX2, wcsT h csokX2, wlcT h lcokX2, spokX2 h, List.forall_mem_cons.mpr ⟨q93_met h, List.forall_mem_cons.mpr ⟨q94_met h, fun _ h => absurd h List.not_mem_nil⟩⟩, fun _ h => absurd h List.not_mem_nil, List.forall_mem_cons.mpr ⟨fun M hM => Option.some.inj (show some q94_M = some M from hM) ▸ wlkV (lkX2_43 h) q94_M rfl rfl, List.forall_mem_cons.mpr ⟨fun M hM => Option.some.inj (show some q93_M = some M from hM) ▸ wlkV (lkX2_60 h) q93_M rfl rfl, fun _ h => absurd h List.not_mem_nil⟩⟩, fun _ h => absurd h List.not_mem_nil, fun _ h => absurd h List.not_mem_nil⟩ dkX2_within (by decide +kernel) (by rw [h.2.2.1]; exact q95_ok)
/-- NearSpell.beginningOf -/
def q96_M : rfM := ((⟨"NearSpell", "beginningOf", "(II)I"⟩, prog_1_method_55_code, 3, (some .int)), (1,21), ([.inl ((0,387420488,1),none),.inl ((4,4,0),none)],[]), [], [(some (.inl (((-2147483648),2147483647,1),none)),[],[])])
def ddX11_beginningOf : List (Nat × Instr × Nat) := [(0,.iload_n 0,1),(1,.invokestatic 148,3),(4,.iload_n 1,1),(5,.isub,1),(6,.istore_n 2,1),(7,.iload_n 2,1),(8,.ifCond .le 19,3),(11,.iload_n 2,1),(12,.bipush 6,2),(14,.if_icmp .gt 13,3),(17,.iload_n 0,1),(18,.getstatic 360,3),(21,.iload_n 2,1),(22,.iaload,1),(23,.idiv,1),(24,.goto 4,3),(27,.iload_n 0,1),(28,.ireturn,1)]
set_option maxRecDepth 100000 in
theorem dkX11_beginningOf : rf_decs prog_1_method_55_code ddX11_beginningOf := rf_decs_of (by decide +kernel)
def q96_P : rfP := (flX11,csX11,lcX11,spX11,[q91_M],[(148,0)],[],([],[]))
def q96_U : rfU := []
set_option maxHeartbeats 8000000 in
def q96_N : List rfB := [(0,([(0,.inl ((0,387420488,1),none)),(1,.inl ((4,4,0),none))],[],[]),(17,[]),0)]
set_option maxRecDepth 100000 in
theorem q96_ok : rf_chkB q96_P q96_U wLay q96_M ddX11_beginningOf [(1,[0])] [] [0] 22 q96_N = true := by decide +kernel
set_option maxHeartbeats 4000000 in
theorem q96_met {G : rfG} (h : okG G) : rf_met G q96_M := rf_methodB h.1 (P := q96_P) (U := q96_U) (N := q96_N) ⟨wflT h flokX11, wcsT h csokX11, wlcT h lcokX11, spokX11 h, List.forall_mem_cons.mpr ⟨q91_met h, fun _ h => absurd h List.not_mem_nil⟩, List.forall_mem_cons.mpr ⟨fun M hM => Option.some.inj (show some q91_M = some M from hM) ▸ wlkS (lkX11_148 h) q91_M rfl rfl, fun _ h => absurd h List.not_mem_nil⟩, fun _ h => absurd h List.not_mem_nil, fun _ h => absurd h List.not_mem_nil, fun _ h => absurd h List.not_mem_nil⟩ dkX11_beginningOf (by decide +kernel) (by rw [h.2.2.1]; exact q96_ok)
/-- NearSpell.FormList.add -/
def q97_M : rfM := ((⟨"NearSpell$FormList", "add", "(I)V"⟩, prog_5_method_4_code, 4, none), (0,0), ([.inr (.inl [50]),.inl (((-2147483648),2147483647,1),none)],[]), [(49,0),(50,2)], [(none,[],[])])
def ddX3_add : List (Nat × Instr × Nat) := [(0,.aload_n 0,1),(1,.getfield 15,3),(4,.istore_n 2,1),(5,.iload_n 2,1),(6,.ifCond .le 21,3),(9,.aload_n 0,1),(10,.getfield 9,3),(13,.iload_n 2,1),(14,.iconst 1,1),(15,.isub,1),(16,.iaload,1),(17,.iload_n 1,1),(18,.if_icmp .le 9,3),(21,.iinc 2 (-1),3),(24,.goto (-19),3),(27,.iload_n 2,1),(28,.ifCond .le 15,3),(31,.aload_n 0,1),(32,.getfield 9,3),(35,.iload_n 2,1),(36,.iconst 1,1),(37,.isub,1),(38,.iaload,1),(39,.iload_n 1,1),(40,.if_icmp .eq 15,3),(43,.aload_n 0,1),(44,.getfield 15,3),(47,.aload_n 0,1),(48,.getfield 9,3),(51,.arraylength,1),(52,.if_icmp .lt 4,3),(55,.return_,1),(56,.aload_n 0,1),(57,.getfield 15,3),(60,.istore_n 3,1),(61,.iload_n 3,1),(62,.iload_n 2,1),(63,.if_icmp .le 23,3),(66,.aload_n 0,1),(67,.getfield 9,3),(70,.iload_n 3,1),(71,.aload_n 0,1),(72,.getfield 9,3),(75,.iload_n 3,1),(76,.iconst 1,1),(77,.isub,1),(78,.iaload,1),(79,.iastore,1),(80,.iinc 3 (-1),3),(83,.goto (-22),3),(86,.aload_n 0,1),(87,.getfield 9,3),(90,.iload_n 2,1),(91,.iload_n 1,1),(92,.iastore,1),(93,.aload_n 0,1),(94,.dup,1),(95,.getfield 15,3),(98,.iconst 1,1),(99,.iadd,1),(100,.putfield 15,3),(103,.return_,1)]
set_option maxRecDepth 100000 in
theorem dkX3_add : rf_decs prog_5_method_4_code ddX3_add := rf_decs_of (by decide +kernel)
def q97_P : rfP := (flX3,csX3,lcX3,spX3,[],[],[],([],[]))
def q97_U : rfU := [(.inr (50,1),[(0,21),(22,22)])]
set_option maxHeartbeats 8000000 in
def q97_N : List rfB := [(0,([(0,.inr (.inl [50])),(1,.inl (((-2147483648),2147483647,1),none))],[],[]),(992,[0,0]),1000000),
  (5,([(0,.inr (.inl [50])),(1,.inl (((-2147483648),2147483647,1),none)),(2,.inl ((0,22,1),none))],[],[((50,1),(22,22,1),none)]),(700,[13,0]),0),
  (5,([(0,.inr (.inl [50])),(1,.inl (((-2147483648),2147483647,1),none)),(2,.inl ((0,21,1),none))],[],[((50,1),(0,21,1),none)]),(394,[13,0]),0),
  (27,([(0,.inr (.inl [50])),(1,.inl (((-2147483648),2147483647,1),none)),(2,.inl ((0,21,1),none))],[],[((50,1),(0,21,1),none)]),(383,[0,0]),0),
  (27,([(0,.inr (.inl [50])),(1,.inl (((-2147483648),2147483647,1),none)),(2,.inl ((0,22,1),none))],[],[((50,1),(22,22,1),none)]),(689,[0,0]),0),
  (43,([(0,.inr (.inl [50])),(1,.inl (((-2147483648),2147483647,1),none)),(2,.inl ((0,21,1),none))],[],[((50,1),(0,21,1),none)]),(372,[0,0]),0),
  (43,([(0,.inr (.inl [50])),(1,.inl (((-2147483648),2147483647,1),none)),(2,.inl ((0,22,1),none))],[],[((50,1),(22,22,1),none)]),(679,[0,0]),0),
  (55,([(0,.inr (.inl [50])),(1,.inl (((-2147483648),2147483647,1),none)),(2,.inl ((1,21,1),none))],[],[((50,1),(0,21,1),none)]),(373,[0,0]),0),
  (55,([(0,.inr (.inl [50])),(1,.inl (((-2147483648),2147483647,1),none)),(2,.inl ((0,22,1),none))],[],[((50,1),(22,22,1),none)]),(673,[0,0]),0),
  (61,([(0,.inr (.inl [50])),(1,.inl (((-2147483648),2147483647,1),none)),(2,.inl ((0,21,1),none)),(3,.inl ((0,21,1),none))],[],[((50,1),(0,21,1),none)]),(25,[0,16]),0)]
set_option maxRecDepth 100000 in
theorem q97_ok : rf_chkB q97_P q97_U wLay q97_M ddX3_add [] [.inl 2,.inl 3] [0,5,27,43,55,61] 600 q97_N = true := by decide +kernel
set_option maxHeartbeats 4000000 in
theorem q97_met {G : rfG} (h : okG G) : rf_met G q97_M := rf_methodB h.1 (P := q97_P) (U := q97_U) (N := q97_N) ⟨wflT h flokX3, wcsT h csokX3, wlcT h lcokX3, spokX3 h, fun _ h => absurd h List.not_mem_nil, fun _ h => absurd h List.not_mem_nil, fun _ h => absurd h List.not_mem_nil, fun _ h => absurd h List.not_mem_nil, fun _ h => absurd h List.not_mem_nil⟩ dkX3_add (by decide +kernel) (by rw [h.2.2.1]; exact q97_ok)
/-- NearSpell.lengthOf -/
def q98_M : rfM := ((⟨"NearSpell", "lengthOf", "(I)I"⟩, prog_1_method_53_code, 2, (some .int)), (0,0), ([.inl (((-2147483648),2147483647,1),none)],[]), [], [(some (.inl ((0,6,1),none)),[],[])])
def q98_P : rfP := (flX11,csX11,lcX11,spX11,[],[],[],([],[]))
def q98_U : rfU := []
set_option maxHeartbeats 8000000 in
def q98_N : List rfB := [(0,([(0,.inl (((-2147483648),2147483647,1),none))],[],[]),(80,[0]),0)]
set_option maxRecDepth 100000 in
theorem q98_ok : rf_chkB q98_P q98_U wLay q98_M ddX11_lengthOf [] [.inl 1] [0] 72 q98_N = true := by decide +kernel
set_option maxHeartbeats 4000000 in
theorem q98_met {G : rfG} (h : okG G) : rf_met G q98_M := rf_methodB h.1 (P := q98_P) (U := q98_U) (N := q98_N) ⟨wflT h flokX11, wcsT h csokX11, wlcT h lcokX11, spokX11 h, fun _ h => absurd h List.not_mem_nil, fun _ h => absurd h List.not_mem_nil, fun _ h => absurd h List.not_mem_nil, fun _ h => absurd h List.not_mem_nil, fun _ h => absurd h List.not_mem_nil⟩ dkX11_lengthOf (by decide +kernel) (by rw [h.2.2.1]; exact q98_ok)
/-- NearSpell.without -/
def q99_M : rfM := ((⟨"NearSpell", "without", "(II)I"⟩, prog_1_method_56_code, 2, (some .int)), (0,0), ([.inl (((-2147483648),2147483647,1),none),.inl ((0,0,0),none)],[]), [], [(some (.inl (((-79536431),79536431,1),none)),[],[])])
def ddX11_without : List (Nat × Instr × Nat) := [(0,.iload_n 1,1),(1,.ifCond .lt 9,3),(4,.iload_n 1,1),(5,.bipush 6,2),(7,.if_icmp .lt 5,3),(10,.iload_n 0,1),(11,.ireturn,1),(12,.iload_n 0,1),(13,.getstatic 360,3),(16,.iload_n 1,1),(17,.iconst 1,1),(18,.iadd,1),(19,.iaload,1),(20,.idiv,1),(21,.getstatic 360,3),(24,.iload_n 1,1),(25,.iaload,1),(26,.imul,1),(27,.iload_n 0,1),(28,.getstatic 360,3),(31,.iload_n 1,1),(32,.iaload,1),(33,.irem,1),(34,.iadd,1),(35,.ireturn,1)]
set_option maxRecDepth 100000 in
theorem dkX11_without : rf_decs prog_1_method_56_code ddX11_without := rf_decs_of (by decide +kernel)
def q99_P : rfP := (flX11,csX11,lcX11,spX11,[],[],[],([],[]))
def q99_U : rfU := []
set_option maxHeartbeats 8000000 in
def q99_N : List rfB := [(0,([(0,.inl (((-2147483648),2147483647,1),none)),(1,.inl ((0,0,0),none))],[],[]),(22,[]),0)]
set_option maxRecDepth 100000 in
theorem q99_ok : rf_chkB q99_P q99_U wLay q99_M ddX11_without [] [] [0] 600 q99_N = true := by decide +kernel
set_option maxHeartbeats 4000000 in
theorem q99_met {G : rfG} (h : okG G) : rf_met G q99_M := rf_methodB h.1 (P := q99_P) (U := q99_U) (N := q99_N) ⟨wflT h flokX11, wcsT h csokX11, wlcT h lcokX11, spokX11 h, fun _ h => absurd h List.not_mem_nil, fun _ h => absurd h List.not_mem_nil, fun _ h => absurd h List.not_mem_nil, fun _ h => absurd h List.not_mem_nil, fun _ h => absurd h List.not_mem_nil⟩ dkX11_without (by decide +kernel) (by rw [h.2.2.1]; exact q99_ok)
/-- NearSpell.FormList.add -/
def q100_M : rfM := ((⟨"NearSpell$FormList", "add", "(I)V"⟩, prog_5_method_4_code, 4, none), (0,0), ([.inr (.inl [50]),.inl (((-2147483648),387420488,1),none)],[]), [(49,0),(50,2)], [(none,[],[])])
def q100_P : rfP := (flX3,csX3,lcX3,spX3,[],[],[],([],[]))
def q100_U : rfU := [(.inr (50,1),[(0,21),(22,22)])]
set_option maxHeartbeats 8000000 in
def q100_N : List rfB := [(0,([(0,.inr (.inl [50])),(1,.inl (((-2147483648),387420488,1),none))],[],[]),(992,[0,0]),1000000),
  (5,([(0,.inr (.inl [50])),(1,.inl (((-2147483648),387420488,1),none)),(2,.inl ((0,22,1),none))],[],[((50,1),(22,22,1),none)]),(700,[13,0]),0),
  (5,([(0,.inr (.inl [50])),(1,.inl (((-2147483648),387420488,1),none)),(2,.inl ((0,21,1),none))],[],[((50,1),(0,21,1),none)]),(394,[13,0]),0),
  (27,([(0,.inr (.inl [50])),(1,.inl (((-2147483648),387420488,1),none)),(2,.inl ((0,21,1),none))],[],[((50,1),(0,21,1),none)]),(383,[0,0]),0),
  (27,([(0,.inr (.inl [50])),(1,.inl (((-2147483648),387420488,1),none)),(2,.inl ((0,22,1),none))],[],[((50,1),(22,22,1),none)]),(689,[0,0]),0),
  (43,([(0,.inr (.inl [50])),(1,.inl (((-2147483648),387420488,1),none)),(2,.inl ((0,21,1),none))],[],[((50,1),(0,21,1),none)]),(372,[0,0]),0),
  (43,([(0,.inr (.inl [50])),(1,.inl (((-2147483648),387420488,1),none)),(2,.inl ((0,22,1),none))],[],[((50,1),(22,22,1),none)]),(679,[0,0]),0),
  (55,([(0,.inr (.inl [50])),(1,.inl (((-2147483648),387420488,1),none)),(2,.inl ((1,21,1),none))],[],[((50,1),(0,21,1),none)]),(373,[0,0]),0),
  (55,([(0,.inr (.inl [50])),(1,.inl (((-2147483648),387420488,1),none)),(2,.inl ((0,22,1),none))],[],[((50,1),(22,22,1),none)]),(673,[0,0]),0),
  (61,([(0,.inr (.inl [50])),(1,.inl (((-2147483648),387420488,1),none)),(2,.inl ((0,21,1),none)),(3,.inl ((0,21,1),none))],[],[((50,1),(0,21,1),none)]),(25,[0,16]),0)]
set_option maxRecDepth 100000 in
theorem q100_ok : rf_chkB q100_P q100_U wLay q100_M ddX3_add [] [.inl 2,.inl 3] [0,5,27,43,55,61] 600 q100_N = true := by decide +kernel
set_option maxHeartbeats 4000000 in
theorem q100_met {G : rfG} (h : okG G) : rf_met G q100_M := rf_methodB h.1 (P := q100_P) (U := q100_U) (N := q100_N) ⟨wflT h flokX3, wcsT h csokX3, wlcT h lcokX3, spokX3 h, fun _ h => absurd h List.not_mem_nil, fun _ h => absurd h List.not_mem_nil, fun _ h => absurd h List.not_mem_nil, fun _ h => absurd h List.not_mem_nil, fun _ h => absurd h List.not_mem_nil⟩ dkX3_add (by decide +kernel) (by rw [h.2.2.1]; exact q100_ok)
/-- NearSpell.without -/
def q101_M : rfM := ((⟨"NearSpell", "without", "(II)I"⟩, prog_1_method_56_code, 2, (some .int)), (0,0), ([.inl (((-2147483648),387420488,1),none),.inl ((0,0,0),none)],[]), [], [(some (.inl (((-79536431),14348906,1),none)),[],[])])
def q101_P : rfP := (flX11,csX11,lcX11,spX11,[],[],[],([],[]))
def q101_U : rfU := []
set_option maxHeartbeats 8000000 in
def q101_N : List rfB := [(0,([(0,.inl (((-2147483648),387420488,1),none)),(1,.inl ((0,0,0),none))],[],[]),(22,[]),0)]
set_option maxRecDepth 100000 in
theorem q101_ok : rf_chkB q101_P q101_U wLay q101_M ddX11_without [] [] [0] 600 q101_N = true := by decide +kernel
set_option maxHeartbeats 4000000 in
theorem q101_met {G : rfG} (h : okG G) : rf_met G q101_M := rf_methodB h.1 (P := q101_P) (U := q101_U) (N := q101_N) ⟨wflT h flokX11, wcsT h csokX11, wlcT h lcokX11, spokX11 h, fun _ h => absurd h List.not_mem_nil, fun _ h => absurd h List.not_mem_nil, fun _ h => absurd h List.not_mem_nil, fun _ h => absurd h List.not_mem_nil, fun _ h => absurd h List.not_mem_nil⟩ dkX11_without (by decide +kernel) (by rw [h.2.2.1]; exact q101_ok)
/-- NearSpell.without -/
def q102_M : rfM := ((⟨"NearSpell", "without", "(II)I"⟩, prog_1_method_56_code, 2, (some .int)), (0,0), ([.inl (((-2147483648),387420488,1),none),.inl ((0,1,1),none)],[]), [], [(some (.inl (((-2147483648),2147483647,1),none)),[],[])])
def q102_P : rfP := (flX11,csX11,lcX11,spX11,[],[],[],([],[]))
def q102_U : rfU := []
set_option maxHeartbeats 8000000 in
def q102_N : List rfB := [(0,([(0,.inl (((-2147483648),387420488,1),none)),(1,.inl ((0,1,1),none))],[],[]),(22,[]),0)]
set_option maxRecDepth 100000 in
theorem q102_ok : rf_chkB q102_P q102_U wLay q102_M ddX11_without [] [] [0] 600 q102_N = true := by decide +kernel
set_option maxHeartbeats 4000000 in
theorem q102_met {G : rfG} (h : okG G) : rf_met G q102_M := rf_methodB h.1 (P := q102_P) (U := q102_U) (N := q102_N) ⟨wflT h flokX11, wcsT h csokX11, wlcT h lcokX11, spokX11 h, fun _ h => absurd h List.not_mem_nil, fun _ h => absurd h List.not_mem_nil, fun _ h => absurd h List.not_mem_nil, fun _ h => absurd h List.not_mem_nil, fun _ h => absurd h List.not_mem_nil⟩ dkX11_without (by decide +kernel) (by rw [h.2.2.1]; exact q102_ok)
/-- NearSpell.without -/
def q103_M : rfM := ((⟨"NearSpell", "without", "(II)I"⟩, prog_1_method_56_code, 2, (some .int)), (0,0), ([.inl (((-2147483648),387420488,1),none),.inl ((0,2,1),none)],[]), [], [(some (.inl (((-2147483648),2147483647,1),none)),[],[])])
def q103_P : rfP := (flX11,csX11,lcX11,spX11,[],[],[],([],[]))
def q103_U : rfU := []
set_option maxHeartbeats 8000000 in
def q103_N : List rfB := [(0,([(0,.inl (((-2147483648),387420488,1),none)),(1,.inl ((0,2,1),none))],[],[]),(22,[]),0)]
set_option maxRecDepth 100000 in
theorem q103_ok : rf_chkB q103_P q103_U wLay q103_M ddX11_without [] [] [0] 600 q103_N = true := by decide +kernel
set_option maxHeartbeats 4000000 in
theorem q103_met {G : rfG} (h : okG G) : rf_met G q103_M := rf_methodB h.1 (P := q103_P) (U := q103_U) (N := q103_N) ⟨wflT h flokX11, wcsT h csokX11, wlcT h lcokX11, spokX11 h, fun _ h => absurd h List.not_mem_nil, fun _ h => absurd h List.not_mem_nil, fun _ h => absurd h List.not_mem_nil, fun _ h => absurd h List.not_mem_nil, fun _ h => absurd h List.not_mem_nil⟩ dkX11_without (by decide +kernel) (by rw [h.2.2.1]; exact q103_ok)
/-- NearSpell.without -/
def q104_M : rfM := ((⟨"NearSpell", "without", "(II)I"⟩, prog_1_method_56_code, 2, (some .int)), (0,0), ([.inl (((-2147483648),387420488,1),none),.inl ((0,3,1),none)],[]), [], [(some (.inl (((-2147483648),2147483647,1),none)),[],[])])
def q104_P : rfP := (flX11,csX11,lcX11,spX11,[],[],[],([],[]))
def q104_U : rfU := []
set_option maxHeartbeats 8000000 in
def q104_N : List rfB := [(0,([(0,.inl (((-2147483648),387420488,1),none)),(1,.inl ((0,3,1),none))],[],[]),(22,[]),0)]
set_option maxRecDepth 100000 in
theorem q104_ok : rf_chkB q104_P q104_U wLay q104_M ddX11_without [] [] [0] 600 q104_N = true := by decide +kernel
set_option maxHeartbeats 4000000 in
theorem q104_met {G : rfG} (h : okG G) : rf_met G q104_M := rf_methodB h.1 (P := q104_P) (U := q104_U) (N := q104_N) ⟨wflT h flokX11, wcsT h csokX11, wlcT h lcokX11, spokX11 h, fun _ h => absurd h List.not_mem_nil, fun _ h => absurd h List.not_mem_nil, fun _ h => absurd h List.not_mem_nil, fun _ h => absurd h List.not_mem_nil, fun _ h => absurd h List.not_mem_nil⟩ dkX11_without (by decide +kernel) (by rw [h.2.2.1]; exact q104_ok)
/-- NearSpell.without -/
def q105_M : rfM := ((⟨"NearSpell", "without", "(II)I"⟩, prog_1_method_56_code, 2, (some .int)), (0,0), ([.inl (((-2147483648),387420488,1),none),.inl ((0,4,1),none)],[]), [], [(some (.inl (((-2147483648),2147483647,1),none)),[],[])])
def q105_P : rfP := (flX11,csX11,lcX11,spX11,[],[],[],([],[]))
def q105_U : rfU := []
set_option maxHeartbeats 8000000 in
def q105_N : List rfB := [(0,([(0,.inl (((-2147483648),387420488,1),none)),(1,.inl ((0,4,1),none))],[],[]),(22,[]),0)]
set_option maxRecDepth 100000 in
theorem q105_ok : rf_chkB q105_P q105_U wLay q105_M ddX11_without [] [] [0] 600 q105_N = true := by decide +kernel
set_option maxHeartbeats 4000000 in
theorem q105_met {G : rfG} (h : okG G) : rf_met G q105_M := rf_methodB h.1 (P := q105_P) (U := q105_U) (N := q105_N) ⟨wflT h flokX11, wcsT h csokX11, wlcT h lcokX11, spokX11 h, fun _ h => absurd h List.not_mem_nil, fun _ h => absurd h List.not_mem_nil, fun _ h => absurd h List.not_mem_nil, fun _ h => absurd h List.not_mem_nil, fun _ h => absurd h List.not_mem_nil⟩ dkX11_without (by decide +kernel) (by rw [h.2.2.1]; exact q105_ok)
/-- NearSpell.without -/
def q106_M : rfM := ((⟨"NearSpell", "without", "(II)I"⟩, prog_1_method_56_code, 2, (some .int)), (0,0), ([.inl (((-2147483648),2147483647,1),none),.inl ((0,1,1),none)],[]), [], [(some (.inl (((-2147483648),2147483647,1),none)),[],[])])
def q106_P : rfP := (flX11,csX11,lcX11,spX11,[],[],[],([],[]))
def q106_U : rfU := []
set_option maxHeartbeats 8000000 in
def q106_N : List rfB := [(0,([(0,.inl (((-2147483648),2147483647,1),none)),(1,.inl ((0,1,1),none))],[],[]),(22,[]),0)]
set_option maxRecDepth 100000 in
theorem q106_ok : rf_chkB q106_P q106_U wLay q106_M ddX11_without [] [] [0] 600 q106_N = true := by decide +kernel
set_option maxHeartbeats 4000000 in
theorem q106_met {G : rfG} (h : okG G) : rf_met G q106_M := rf_methodB h.1 (P := q106_P) (U := q106_U) (N := q106_N) ⟨wflT h flokX11, wcsT h csokX11, wlcT h lcokX11, spokX11 h, fun _ h => absurd h List.not_mem_nil, fun _ h => absurd h List.not_mem_nil, fun _ h => absurd h List.not_mem_nil, fun _ h => absurd h List.not_mem_nil, fun _ h => absurd h List.not_mem_nil⟩ dkX11_without (by decide +kernel) (by rw [h.2.2.1]; exact q106_ok)
/-- NearSpell.without -/
def q107_M : rfM := ((⟨"NearSpell", "without", "(II)I"⟩, prog_1_method_56_code, 2, (some .int)), (0,0), ([.inl (((-2147483648),2147483647,1),none),.inl ((0,4,1),none)],[]), [], [(some (.inl (((-2147483648),2147483647,1),none)),[],[])])
def q107_P : rfP := (flX11,csX11,lcX11,spX11,[],[],[],([],[]))
def q107_U : rfU := []
set_option maxHeartbeats 8000000 in
def q107_N : List rfB := [(0,([(0,.inl (((-2147483648),2147483647,1),none)),(1,.inl ((0,4,1),none))],[],[]),(22,[]),0)]
set_option maxRecDepth 100000 in
theorem q107_ok : rf_chkB q107_P q107_U wLay q107_M ddX11_without [] [] [0] 600 q107_N = true := by decide +kernel
set_option maxHeartbeats 4000000 in
theorem q107_met {G : rfG} (h : okG G) : rf_met G q107_M := rf_methodB h.1 (P := q107_P) (U := q107_U) (N := q107_N) ⟨wflT h flokX11, wcsT h csokX11, wlcT h lcokX11, spokX11 h, fun _ h => absurd h List.not_mem_nil, fun _ h => absurd h List.not_mem_nil, fun _ h => absurd h List.not_mem_nil, fun _ h => absurd h List.not_mem_nil, fun _ h => absurd h List.not_mem_nil⟩ dkX11_without (by decide +kernel) (by rw [h.2.2.1]; exact q107_ok)
/-- NearSpell.without -/
def q108_M : rfM := ((⟨"NearSpell", "without", "(II)I"⟩, prog_1_method_56_code, 2, (some .int)), (0,0), ([.inl (((-2147483648),2147483647,1),none),.inl ((0,2,1),none)],[]), [], [(some (.inl (((-2147483648),2147483647,1),none)),[],[])])
def q108_P : rfP := (flX11,csX11,lcX11,spX11,[],[],[],([],[]))
def q108_U : rfU := []
set_option maxHeartbeats 8000000 in
def q108_N : List rfB := [(0,([(0,.inl (((-2147483648),2147483647,1),none)),(1,.inl ((0,2,1),none))],[],[]),(22,[]),0)]
set_option maxRecDepth 100000 in
theorem q108_ok : rf_chkB q108_P q108_U wLay q108_M ddX11_without [] [] [0] 600 q108_N = true := by decide +kernel
set_option maxHeartbeats 4000000 in
theorem q108_met {G : rfG} (h : okG G) : rf_met G q108_M := rf_methodB h.1 (P := q108_P) (U := q108_U) (N := q108_N) ⟨wflT h flokX11, wcsT h csokX11, wlcT h lcokX11, spokX11 h, fun _ h => absurd h List.not_mem_nil, fun _ h => absurd h List.not_mem_nil, fun _ h => absurd h List.not_mem_nil, fun _ h => absurd h List.not_mem_nil, fun _ h => absurd h List.not_mem_nil⟩ dkX11_without (by decide +kernel) (by rw [h.2.2.1]; exact q108_ok)
/-- NearSpell.without -/
def q109_M : rfM := ((⟨"NearSpell", "without", "(II)I"⟩, prog_1_method_56_code, 2, (some .int)), (0,0), ([.inl (((-2147483648),2147483647,1),none),.inl ((0,3,1),none)],[]), [], [(some (.inl (((-2147483648),2147483647,1),none)),[],[])])
def q109_P : rfP := (flX11,csX11,lcX11,spX11,[],[],[],([],[]))
def q109_U : rfU := []
set_option maxHeartbeats 8000000 in
def q109_N : List rfB := [(0,([(0,.inl (((-2147483648),2147483647,1),none)),(1,.inl ((0,3,1),none))],[],[]),(22,[]),0)]
set_option maxRecDepth 100000 in
theorem q109_ok : rf_chkB q109_P q109_U wLay q109_M ddX11_without [] [] [0] 600 q109_N = true := by decide +kernel
set_option maxHeartbeats 4000000 in
theorem q109_met {G : rfG} (h : okG G) : rf_met G q109_M := rf_methodB h.1 (P := q109_P) (U := q109_U) (N := q109_N) ⟨wflT h flokX11, wcsT h csokX11, wlcT h lcokX11, spokX11 h, fun _ h => absurd h List.not_mem_nil, fun _ h => absurd h List.not_mem_nil, fun _ h => absurd h List.not_mem_nil, fun _ h => absurd h List.not_mem_nil, fun _ h => absurd h List.not_mem_nil⟩ dkX11_without (by decide +kernel) (by rw [h.2.2.1]; exact q109_ok)
/-- NearSpell.without -/
def q110_M : rfM := ((⟨"NearSpell", "without", "(II)I"⟩, prog_1_method_56_code, 2, (some .int)), (0,0), ([.inl (((-2147483648),2147483647,1),none),.inl ((0,5,1),none)],[]), [], [(some (.inl (((-2147483648),2147483647,1),none)),[],[])])
def q110_P : rfP := (flX11,csX11,lcX11,spX11,[],[],[],([],[]))
def q110_U : rfU := []
set_option maxHeartbeats 8000000 in
def q110_N : List rfB := [(0,([(0,.inl (((-2147483648),2147483647,1),none)),(1,.inl ((0,5,1),none))],[],[]),(22,[]),0)]
set_option maxRecDepth 100000 in
theorem q110_ok : rf_chkB q110_P q110_U wLay q110_M ddX11_without [] [] [0] 600 q110_N = true := by decide +kernel
set_option maxHeartbeats 4000000 in
theorem q110_met {G : rfG} (h : okG G) : rf_met G q110_M := rf_methodB h.1 (P := q110_P) (U := q110_U) (N := q110_N) ⟨wflT h flokX11, wcsT h csokX11, wlcT h lcokX11, spokX11 h, fun _ h => absurd h List.not_mem_nil, fun _ h => absurd h List.not_mem_nil, fun _ h => absurd h List.not_mem_nil, fun _ h => absurd h List.not_mem_nil, fun _ h => absurd h List.not_mem_nil⟩ dkX11_without (by decide +kernel) (by rw [h.2.2.1]; exact q110_ok)
/-- NearSpell.FormList.shorten -/
def q111_M : rfM := ((⟨"NearSpell$FormList", "shorten", "(I)V"⟩, prog_5_method_3_code, 6, none), (1,23), ([.inr (.inl [50]),.inl (((-2147483648),2147483647,1),none)],[]), [(49,0),(50,2)], [(none,[],[])])
def ddX3_shorten : List (Nat × Instr × Nat) := [(0,.iload_n 1,1),(1,.invokestatic 39,3),(4,.istore_n 2,1),(5,.iconst 0,1),(6,.istore_n 3,1),(7,.iload_n 3,1),(8,.iload_n 2,1),(9,.if_icmp .ge 58,3),(12,.iload_n 1,1),(13,.iload_n 3,1),(14,.invokestatic 43,3),(17,.istore 4,2),(19,.aload_n 0,1),(20,.iload 4,2),(22,.invokevirtual 32,3),(25,.iconst 0,1),(26,.istore 5,2),(28,.aload_n 0,1),(29,.getfield 25,3),(32,.iconst 1,1),(33,.if_icmp .le 28,3),(36,.iload 5,2),(38,.iload_n 2,1),(39,.iconst 1,1),(40,.isub,1),(41,.if_icmp .ge 20,3),(44,.aload_n 0,1),(45,.iload 4,2),(47,.iload 5,2),(49,.invokestatic 43,3),(52,.invokevirtual 32,3),(55,.iinc 5 1,3),(58,.goto (-30),3),(61,.iinc 3 1,3),(64,.goto (-57),3),(67,.return_,1)]
set_option maxRecDepth 100000 in
theorem dkX3_shorten : rf_decs prog_5_method_3_code ddX3_shorten := rf_decs_of (by decide +kernel)
def q111_P : rfP := (flX3,csX3,lcX3,spX3,[q98_M,q107_M,q97_M,q110_M],[(39,0),(43,1),(43,3)],[(32,2,3)],([],[]))
def q111_U : rfU := []
set_option maxHeartbeats 8000000 in
def q111_N : List rfB := [(0,([(0,.inr (.inl [50])),(1,.inl (((-2147483648),2147483647,1),none))],[],[]),(2852,[0,0]),0)]
set_option maxRecDepth 100000 in
theorem q111_ok : rf_chkB q111_P q111_U wLay q111_M ddX3_shorten [(1,[0]),(14,[3]),(22,[2]),(49,[1]),(52,[2])] [.inl 3,.inl 5] [0] 632 q111_N = true := by decide +kernel
set_option maxHeartbeats 4000000 in
theorem q111_met {G : rfG} (h : okG G) : rf_met G q111_M := rf_methodB h.1 (P := q111_P) (U := q111_U) (N := q111_N) ⟨wflT h flokX3, wcsT h csokX3, wlcT h lcokX3, spokX3 h, List.forall_mem_cons.mpr ⟨q98_met h, List.forall_mem_cons.mpr ⟨q107_met h, List.forall_mem_cons.mpr ⟨q97_met h, List.forall_mem_cons.mpr ⟨q110_met h, fun _ h => absurd h List.not_mem_nil⟩⟩⟩⟩, List.forall_mem_cons.mpr ⟨fun M hM => Option.some.inj (show some q98_M = some M from hM) ▸ wlkS (lkX3_39 h) q98_M rfl rfl, List.forall_mem_cons.mpr ⟨fun M hM => Option.some.inj (show some q107_M = some M from hM) ▸ wlkS (lkX3_43 h) q107_M rfl rfl, List.forall_mem_cons.mpr ⟨fun M hM => Option.some.inj (show some q110_M = some M from hM) ▸ wlkS (lkX3_43 h) q110_M rfl rfl, fun _ h => absurd h List.not_mem_nil⟩⟩⟩, List.forall_mem_cons.mpr ⟨fun M hM => Option.some.inj (show some q97_M = some M from hM) ▸ wlkV (lkX3_32 h) q97_M rfl rfl, fun _ h => absurd h List.not_mem_nil⟩, fun _ h => absurd h List.not_mem_nil, fun _ h => absurd h List.not_mem_nil⟩ dkX3_shorten (by decide +kernel) (by rw [h.2.2.1]; exact q111_ok)
/-- NearSpell.FormList.fill -/
def q112_M : rfM := ((⟨"NearSpell$FormList", "fill", "(III)V"⟩, prog_5_method_2_code, 5, none), (2,48), ([.inr (.inl [50]),.inl ((0,387420488,1),none),.inl ((4,4,0),none),.inl ((2,2,0),none)],[]), [(49,0),(50,2),(50,3),(50,4),(50,5)], [(none,[],[((50,2),(0,387420488,1),none),((50,3),(4,4,1),none),((50,4),(2,2,1),none)])])
def ddX3_fill : List (Nat × Instr × Nat) := [(0,.aload_n 0,1),(1,.getfield 19,3),(4,.iload_n 1,1),(5,.if_icmp .ne 20,3),(8,.aload_n 0,1),(9,.getfield 22,3),(12,.iload_n 2,1),(13,.if_icmp .ne 12,3),(16,.aload_n 0,1),(17,.getfield 25,3),(20,.iload_n 3,1),(21,.if_icmp .ne 4,3),(24,.return_,1),(25,.aload_n 0,1),(26,.iload_n 1,1),(27,.putfield 19,3),(30,.aload_n 0,1),(31,.iload_n 2,1),(32,.putfield 22,3),(35,.aload_n 0,1),(36,.iload_n 3,1),(37,.putfield 25,3),(40,.aload_n 0,1),(41,.iconst 0,1),(42,.putfield 15,3),(45,.aload_n 0,1),(46,.getfield 19,3),(49,.aload_n 0,1),(50,.getfield 22,3),(53,.invokestatic 28,3),(56,.istore 4,2),(58,.aload_n 0,1),(59,.iload 4,2),(61,.invokevirtual 32,3),(64,.aload_n 0,1),(65,.getfield 25,3),(68,.ifCond .le 9,3),(71,.aload_n 0,1),(72,.iload 4,2),(74,.invokevirtual 36,3),(77,.return_,1)]
set_option maxRecDepth 100000 in
theorem dkX3_fill : rf_decs prog_5_method_2_code ddX3_fill := rf_decs_of (by decide +kernel)
def q112_P : rfP := (flX3,csX3,lcX3,spX3,[q96_M,q97_M,q111_M],[(28,0)],[(32,1,3),(36,2,3)],([],[]))
def q112_U : rfU := []
set_option maxHeartbeats 8000000 in
def q112_N : List rfB := [(0,([(0,.inr (.inl [50])),(1,.inl ((0,387420488,1),none)),(2,.inl ((4,4,0),none)),(3,.inl ((2,2,0),none))],[],[]),(40,[]),0)]
set_option maxRecDepth 100000 in
theorem q112_ok : rf_chkB q112_P q112_U wLay q112_M ddX3_fill [(53,[0]),(61,[1]),(74,[2])] [] [0] 45 q112_N = true := by decide +kernel
set_option maxHeartbeats 4000000 in
theorem q112_met {G : rfG} (h : okG G) : rf_met G q112_M := rf_methodB h.1 (P := q112_P) (U := q112_U) (N := q112_N) ⟨wflT h flokX3, wcsT h csokX3, wlcT h lcokX3, spokX3 h, List.forall_mem_cons.mpr ⟨q96_met h, List.forall_mem_cons.mpr ⟨q97_met h, List.forall_mem_cons.mpr ⟨q111_met h, fun _ h => absurd h List.not_mem_nil⟩⟩⟩, List.forall_mem_cons.mpr ⟨fun M hM => Option.some.inj (show some q96_M = some M from hM) ▸ wlkS (lkX3_28 h) q96_M rfl rfl, fun _ h => absurd h List.not_mem_nil⟩, List.forall_mem_cons.mpr ⟨fun M hM => Option.some.inj (show some q97_M = some M from hM) ▸ wlkV (lkX3_32 h) q97_M rfl rfl, List.forall_mem_cons.mpr ⟨fun M hM => Option.some.inj (show some q111_M = some M from hM) ▸ wlkV (lkX3_36 h) q111_M rfl rfl, fun _ h => absurd h List.not_mem_nil⟩⟩, fun _ h => absurd h List.not_mem_nil, fun _ h => absurd h List.not_mem_nil⟩ dkX3_fill (by decide +kernel) (by rw [h.2.2.1]; exact q112_ok)
/-- NearSpell.Laid.formsFor -/
def q113_M : rfM := ((⟨"NearSpell$Laid", "formsFor", "(I)LNearSpell$FormList;"⟩, prog_6_method_2_code, 2, (some (.object "NearSpell$FormList"))), (3,72), ([.inr (.inl [53]),.inl ((0,387420488,1),none)],[((5,5),(4,4,0),none),((5,6),(2,2,0),none),((10,5),(4,4,0),none),((10,6),(2,2,0),none)]), [(49,0),(50,2),(50,3),(50,4),(50,5)], [(some (.inr (.inl [50])),[],[((50,2),(0,387420488,1),none),((50,3),(4,4,1),none),((50,4),(2,2,1),none)])])
def ddX4_formsFor : List (Nat × Instr × Nat) := [(0,.aload_n 0,1),(1,.getfield 26,3),(4,.iload_n 1,1),(5,.aload_n 0,1),(6,.getfield 9,3),(9,.getfield 34,3),(12,.aload_n 0,1),(13,.getfield 9,3),(16,.getfield 40,3),(19,.invokevirtual 43,3),(22,.aload_n 0,1),(23,.getfield 26,3),(26,.areturn,1)]
set_option maxRecDepth 100000 in
theorem dkX4_formsFor : rf_decs prog_6_method_2_code ddX4_formsFor := rf_decs_of (by decide +kernel)
def q113_P : rfP := (flX4,csX4,lcX4,spX4,[q112_M],[],[(43,0,3)],([],[]))
def q113_U : rfU := []
set_option maxHeartbeats 8000000 in
def q113_N : List rfB := [(0,([(0,.inr (.inl [53])),(1,.inl ((0,387420488,1),none))],[],[((5,5),(4,4,0),some ((5,5),0,0)),((5,6),(2,2,0),some ((5,6),0,0)),((10,5),(4,4,0),some ((10,5),0,0)),((10,6),(2,2,0),some ((10,6),0,0))]),(12,[]),0)]
set_option maxRecDepth 100000 in
theorem q113_ok : rf_chkB q113_P q113_U wLay q113_M ddX4_formsFor [(19,[0])] [] [0] 600 q113_N = true := by decide +kernel
set_option maxHeartbeats 4000000 in
theorem q113_met {G : rfG} (h : okG G) : rf_met G q113_M := rf_methodB h.1 (P := q113_P) (U := q113_U) (N := q113_N) ⟨wflT h flokX4, wcsT h csokX4, wlcT h lcokX4, spokX4 h, List.forall_mem_cons.mpr ⟨q112_met h, fun _ h => absurd h List.not_mem_nil⟩, fun _ h => absurd h List.not_mem_nil, List.forall_mem_cons.mpr ⟨fun M hM => Option.some.inj (show some q112_M = some M from hM) ▸ wlkV (lkX4_43 h) q112_M rfl rfl, fun _ h => absurd h List.not_mem_nil⟩, fun _ h => absurd h List.not_mem_nil, fun _ h => absurd h List.not_mem_nil⟩ dkX4_formsFor (by decide +kernel) (by rw [h.2.2.1]; exact q113_ok)
/-- NearSpell.Finder.trulyMetBy -/
def q114_M : rfM := ((⟨"NearSpell$Finder", "trulyMetBy", "(I)I"⟩, prog_4_method_3_code, 5, (some .int)), (4,93), ([.inr (.inl [55]),.inl ((0,387420488,1),none)],[((5,5),(4,4,0),none),((5,6),(2,2,0),none),((10,5),(4,4,0),none),((10,6),(2,2,0),none),((12,34),(0,0,0),none)]), [(49,0),(50,2),(50,3),(50,4),(50,5)], [(some (.inl ((0,0,0),none)),[],[((50,2),(0,387420488,1),none),((50,3),(4,4,1),none),((50,4),(2,2,1),none)])])
def ddX2_trulyMetBy : List (Nat × Instr × Nat) := [(0,.aload_n 0,1),(1,.getfield 19,3),(4,.iload_n 1,1),(5,.invokevirtual 31,3),(8,.astore_n 2,1),(9,.iconst 0,1),(10,.istore_n 3,1),(11,.iconst 0,1),(12,.istore 4,2),(14,.iload 4,2),(16,.aload_n 0,1),(17,.getfield 15,3),(20,.invokevirtual 43,3),(23,.if_icmp .ge 44,3),(26,.aload_n 0,1),(27,.getfield 15,3),(30,.iload 4,2),(32,.invokevirtual 49,3),(35,.ifCond .eq 26,3),(38,.aload_n 0,1),(39,.getfield 19,3),(42,.iload 4,2),(44,.invokevirtual 53,3),(47,.aload_n 2,1),(48,.invokevirtual 56,3),(51,.ifCond .eq 10,3),(54,.iload_n 3,1),(55,.iconst 1,1),(56,.iload 4,2),(58,.ishl,1),(59,.ior,1),(60,.istore_n 3,1),(61,.iinc 4 1,3),(64,.goto (-50),3),(67,.iload_n 3,1),(68,.ireturn,1)]
set_option maxRecDepth 100000 in
theorem dkX2_trulyMetBy : rf_decs prog_4_method_3_code ddX2_trulyMetBy := rf_decs_of (by decide +kernel)
def q114_P : rfP := (flX2,csX2,lcX2,spX2,[q113_M,q94_M],[],[(31,0,4),(43,1,8)],([],[]))
def q114_U : rfU := []
set_option maxHeartbeats 8000000 in
def q114_N : List rfB := [(0,([(0,.inr (.inl [55])),(1,.inl ((0,387420488,1),none))],[],[((5,5),(4,4,0),some ((5,5),0,0)),((5,6),(2,2,0),some ((5,6),0,0)),((10,5),(4,4,0),some ((10,5),0,0)),((10,6),(2,2,0),some ((10,6),0,0)),((12,34),(0,0,0),some ((12,34),0,0))]),(15,[]),0)]
set_option maxRecDepth 100000 in
theorem q114_ok : rf_chkB q114_P q114_U wLay q114_M ddX2_trulyMetBy [(5,[0]),(20,[1])] [] [0] 600 q114_N = true := by decide +kernel
set_option maxHeartbeats 4000000 in
theorem q114_met {G : rfG} (h : okG G) : rf_met G q114_M := rf_methodB h.1 (P := q114_P) (U := q114_U) (N := q114_N) ⟨wflT h flokX2, wcsT h csokX2, wlcT h lcokX2, spokX2 h, List.forall_mem_cons.mpr ⟨q113_met h, List.forall_mem_cons.mpr ⟨q94_met h, fun _ h => absurd h List.not_mem_nil⟩⟩, fun _ h => absurd h List.not_mem_nil, List.forall_mem_cons.mpr ⟨fun M hM => Option.some.inj (show some q113_M = some M from hM) ▸ wlkV (lkX2_31 h) q113_M rfl rfl, List.forall_mem_cons.mpr ⟨fun M hM => Option.some.inj (show some q94_M = some M from hM) ▸ wlkV (lkX2_43 h) q94_M rfl rfl, fun _ h => absurd h List.not_mem_nil⟩⟩, fun _ h => absurd h List.not_mem_nil, fun _ h => absurd h List.not_mem_nil⟩ dkX2_trulyMetBy (by decide +kernel) (by rw [h.2.2.1]; exact q114_ok)
/-- NearSpell.Finder.firstOf -/
def q115_M : rfM := ((⟨"NearSpell$Finder", "firstOf", "(I)I"⟩, prog_4_method_7_code, 4, (some .int)), (0,0), ([.inr (.inl [55]),.inl ((0,0,0),none)],[((12,34),(0,0,0),none)]), [], [(some (.inl (((-1),(-1),0),none)),[],[])])
def ddX2_firstOf : List (Nat × Instr × Nat) := [(0,.iconst (-1),1),(1,.istore_n 2,1),(2,.iconst 0,1),(3,.istore_n 3,1),(4,.iload_n 3,1),(5,.bipush 14,2),(7,.if_icmp .ge 33,3),(10,.iload_n 1,1),(11,.iload_n 3,1),(12,.ishr,1),(13,.iconst 1,1),(14,.iand,1),(15,.ifCond .eq 19,3),(18,.iload_n 2,1),(19,.iconst (-1),1),(20,.if_icmp .eq 12,3),(23,.aload_n 0,1),(24,.iload_n 3,1),(25,.iload_n 2,1),(26,.invokevirtual 83,3),(29,.ifCond .eq 5,3),(32,.iload_n 3,1),(33,.istore_n 2,1),(34,.iinc 3 1,3),(37,.goto (-33),3),(40,.iload_n 2,1),(41,.ireturn,1)]
set_option maxRecDepth 100000 in
theorem dkX2_firstOf : rf_decs prog_4_method_7_code ddX2_firstOf := rf_decs_of (by decide +kernel)
def q115_P : rfP := (flX2,csX2,lcX2,spX2,[],[],[],([],[]))
def q115_U : rfU := []
set_option maxHeartbeats 8000000 in
def q115_N : List rfB := [(0,([(0,.inr (.inl [55])),(1,.inl ((0,0,0),none))],[],[((12,34),(0,0,0),some ((12,34),0,0))]),(185,[0]),0)]
set_option maxRecDepth 100000 in
theorem q115_ok : rf_chkB q115_P q115_U wLay q115_M ddX2_firstOf [] [.inl 3] [0] 168 q115_N = true := by decide +kernel
set_option maxHeartbeats 4000000 in
theorem q115_met {G : rfG} (h : okG G) : rf_met G q115_M := rf_methodB h.1 (P := q115_P) (U := q115_U) (N := q115_N) ⟨wflT h flokX2, wcsT h csokX2, wlcT h lcokX2, spokX2 h, fun _ h => absurd h List.not_mem_nil, fun _ h => absurd h List.not_mem_nil, fun _ h => absurd h List.not_mem_nil, fun _ h => absurd h List.not_mem_nil, fun _ h => absurd h List.not_mem_nil⟩ dkX2_firstOf (by decide +kernel) (by rw [h.2.2.1]; exact q115_ok)
/-- NearSpell.Finder.nearestTo -/
def q116_M : rfM := ((⟨"NearSpell$Finder", "nearestTo", "(I)I"⟩, prog_4_method_5_code, 3, (some .int)), (5,117), ([.inr (.inl [55]),.inl ((0,387420488,1),none)],[((5,5),(4,4,0),none),((5,6),(2,2,0),none),((10,5),(4,4,0),none),((10,6),(2,2,0),none),((12,34),(0,0,0),none),((20,3),(0,0,0),none),((20,4),(0,0,0),none)]), [(17,0),(20,4),(20,5),(49,0),(50,2),(50,3),(50,4),(50,5)], [(some (.inl (((-1),(-1),0),none)),[],[((20,3),(0,6,1),none),((20,4),(0,0,0),none),((50,2),(0,387420488,1),none),((50,3),(4,4,1),none),((50,4),(2,2,1),none)])])
def ddX2_nearestTo : List (Nat × Instr × Nat) := [(0,.aload_n 0,1),(1,.iload_n 1,1),(2,.bipush 6,2),(4,.invokevirtual 73,3),(7,.aload_n 0,1),(8,.iload_n 1,1),(9,.invokevirtual 77,3),(12,.iand,1),(13,.istore_n 2,1),(14,.aload_n 0,1),(15,.iload_n 2,1),(16,.invokevirtual 80,3),(19,.ireturn,1)]
set_option maxRecDepth 100000 in
theorem dkX2_nearestTo : rf_decs prog_4_method_5_code ddX2_nearestTo := rf_decs_of (by decide +kernel)
def q116_P : rfP := (flX2,csX2,lcX2,spX2,[q95_M,q114_M,q115_M],[],[(73,0,2),(77,1,2),(80,2,2)],([],[]))
def q116_U : rfU := []
set_option maxHeartbeats 8000000 in
def q116_N : List rfB := [(0,([(0,.inr (.inl [55])),(1,.inl ((0,387420488,1),none))],[],[((5,5),(4,4,0),some ((5,5),0,0)),((5,6),(2,2,0),some ((5,6),0,0)),((10,5),(4,4,0),some ((10,5),0,0)),((10,6),(2,2,0),some ((10,6),0,0)),((12,34),(0,0,0),some ((12,34),0,0)),((20,3),(0,0,0),some ((20,3),0,0)),((20,4),(0,0,0),some ((20,4),0,0))]),(12,[]),0)]
set_option maxRecDepth 100000 in
theorem q116_ok : rf_chkB q116_P q116_U wLay q116_M ddX2_nearestTo [(4,[0]),(9,[1]),(16,[2])] [] [0] 600 q116_N = true := by decide +kernel
set_option maxHeartbeats 4000000 in
theorem q116_met {G : rfG} (h : okG G) : rf_met G q116_M := rf_methodB h.1 (P := q116_P) (U := q116_U) (N := q116_N) ⟨wflT h flokX2, wcsT h csokX2, wlcT h lcokX2, spokX2 h, List.forall_mem_cons.mpr ⟨q95_met h, List.forall_mem_cons.mpr ⟨q114_met h, List.forall_mem_cons.mpr ⟨q115_met h, fun _ h => absurd h List.not_mem_nil⟩⟩⟩, fun _ h => absurd h List.not_mem_nil, List.forall_mem_cons.mpr ⟨fun M hM => Option.some.inj (show some q95_M = some M from hM) ▸ wlkV (lkX2_73 h) q95_M rfl rfl, List.forall_mem_cons.mpr ⟨fun M hM => Option.some.inj (show some q114_M = some M from hM) ▸ wlkV (lkX2_77 h) q114_M rfl rfl, List.forall_mem_cons.mpr ⟨fun M hM => Option.some.inj (show some q115_M = some M from hM) ▸ wlkV (lkX2_80 h) q115_M rfl rfl, fun _ h => absurd h List.not_mem_nil⟩⟩⟩, fun _ h => absurd h List.not_mem_nil, fun _ h => absurd h List.not_mem_nil⟩ dkX2_nearestTo (by decide +kernel) (by rw [h.2.2.1]; exact q116_ok)
/-- NearSpellModel.errorsNow -/
def q118_M : rfM := ((⟨"NearSpellModel", "errorsNow", "()I"⟩, prog_14_method_52_code, 1, (some .int)), (0,0), ([.inr (.inl [114])],[((76,0),(2,2,0),none),((114,28),(0,0,0),none)]), [], [(some (.inl ((2,2,0),none)),[],[])])
def ddX12_errorsNow : List (Nat × Instr × Nat) := [(0,.aload_n 0,1),(1,.getfield 30,3),(4,.aload_n 0,1),(5,.getfield 242,3),(8,.iaload,1),(9,.ireturn,1)]
set_option maxRecDepth 100000 in
theorem dkX12_errorsNow : rf_decs prog_14_method_52_code ddX12_errorsNow := rf_decs_of (by decide +kernel)
def q118_P : rfP := (flX12,csX12,lcX12,spX12,[],[],[],([],[]))
def q118_U : rfU := []
set_option maxHeartbeats 8000000 in
def q118_N : List rfB := [(0,([(0,.inr (.inl [114]))],[],[((76,0),(2,2,0),some ((76,0),0,0)),((114,28),(0,0,0),some ((114,28),0,0))]),(5,[]),0)]
set_option maxRecDepth 100000 in
theorem q118_ok : rf_chkB q118_P q118_U wLay q118_M ddX12_errorsNow [] [] [0] 600 q118_N = true := by decide +kernel
set_option maxHeartbeats 4000000 in
theorem q118_met {G : rfG} (h : okG G) : rf_met G q118_M := rf_methodB h.1 (P := q118_P) (U := q118_U) (N := q118_N) ⟨wflT h flokX12, wcsT h csokX12, wlcT h lcokX12, spokX12 h, fun _ h => absurd h List.not_mem_nil, fun _ h => absurd h List.not_mem_nil, fun _ h => absurd h List.not_mem_nil, fun _ h => absurd h List.not_mem_nil, fun _ h => absurd h List.not_mem_nil⟩ dkX12_errorsNow (by decide +kernel) (by rw [h.2.2.1]; exact q118_ok)
/-- NearSpellModel.isEntry -/
def q119_M : rfM := ((⟨"NearSpellModel", "isEntry", "(I)Z"⟩, prog_14_method_46_code, 2, (some .boolean)), (1,22), ([.inr (.inl [114]),.inl ((0,0,0),none)],[((90,28),(0,0,0),none)]), [], [(some (.inl ((0,0,0),none)),[],[])])
def q119_P : rfP := (flX12,csX12,lcX12,spX12,[q53_M],[(334,0)],[],([],[]))
def q119_U : rfU := []
set_option maxHeartbeats 8000000 in
def q119_N : List rfB := [(0,([(0,.inr (.inl [114])),(1,.inl ((0,0,0),none))],[],[((90,28),(0,0,0),some ((90,28),0,0))]),(11,[]),0)]
set_option maxRecDepth 100000 in
theorem q119_ok : rf_chkB q119_P q119_U wLay q119_M ddX12_isEntry [(11,[0])] [] [0] 600 q119_N = true := by decide +kernel
set_option maxHeartbeats 4000000 in
theorem q119_met {G : rfG} (h : okG G) : rf_met G q119_M := rf_methodB h.1 (P := q119_P) (U := q119_U) (N := q119_N) ⟨wflT h flokX12, wcsT h csokX12, wlcT h lcokX12, spokX12 h, List.forall_mem_cons.mpr ⟨q53_met h, fun _ h => absurd h List.not_mem_nil⟩, List.forall_mem_cons.mpr ⟨fun M hM => Option.some.inj (show some q53_M = some M from hM) ▸ wlkS (lkX12_334 h) q53_M rfl rfl, fun _ h => absurd h List.not_mem_nil⟩, fun _ h => absurd h List.not_mem_nil, fun _ h => absurd h List.not_mem_nil, fun _ h => absurd h List.not_mem_nil⟩ dkX12_isEntry (by decide +kernel) (by rw [h.2.2.1]; exact q119_ok)
/-- NearSpellModel.isEntry -/
def q120_M : rfM := ((⟨"NearSpellModel", "isEntry", "(I)Z"⟩, prog_14_method_46_code, 2, (some .boolean)), (1,22), ([.inr (.inl [114]),.inl ((0,1,1),none)],[((90,28),(0,0,0),none)]), [], [(some (.inl ((0,0,0),none)),[],[])])
def q120_P : rfP := (flX12,csX12,lcX12,spX12,[q55_M],[(334,0)],[],([],[]))
def q120_U : rfU := []
set_option maxHeartbeats 8000000 in
def q120_N : List rfB := [(0,([(0,.inr (.inl [114])),(1,.inl ((0,1,1),none))],[],[((90,28),(0,0,0),some ((90,28),0,0))]),(11,[]),0)]
set_option maxRecDepth 100000 in
theorem q120_ok : rf_chkB q120_P q120_U wLay q120_M ddX12_isEntry [(11,[0])] [] [0] 600 q120_N = true := by decide +kernel
set_option maxHeartbeats 4000000 in
theorem q120_met {G : rfG} (h : okG G) : rf_met G q120_M := rf_methodB h.1 (P := q120_P) (U := q120_U) (N := q120_N) ⟨wflT h flokX12, wcsT h csokX12, wlcT h lcokX12, spokX12 h, List.forall_mem_cons.mpr ⟨q55_met h, fun _ h => absurd h List.not_mem_nil⟩, List.forall_mem_cons.mpr ⟨fun M hM => Option.some.inj (show some q55_M = some M from hM) ▸ wlkS (lkX12_334 h) q55_M rfl rfl, fun _ h => absurd h List.not_mem_nil⟩, fun _ h => absurd h List.not_mem_nil, fun _ h => absurd h List.not_mem_nil, fun _ h => absurd h List.not_mem_nil⟩ dkX12_isEntry (by decide +kernel) (by rw [h.2.2.1]; exact q120_ok)
/-- NearSpellModel.isEntry -/
def q121_M : rfM := ((⟨"NearSpellModel", "isEntry", "(I)Z"⟩, prog_14_method_46_code, 2, (some .boolean)), (1,22), ([.inr (.inl [114]),.inl ((0,2,1),none)],[((90,28),(0,0,0),none)]), [], [(some (.inl ((0,0,0),none)),[],[])])
def q121_P : rfP := (flX12,csX12,lcX12,spX12,[q57_M],[(334,0)],[],([],[]))
def q121_U : rfU := []
set_option maxHeartbeats 8000000 in
def q121_N : List rfB := [(0,([(0,.inr (.inl [114])),(1,.inl ((0,2,1),none))],[],[((90,28),(0,0,0),some ((90,28),0,0))]),(11,[]),0)]
set_option maxRecDepth 100000 in
theorem q121_ok : rf_chkB q121_P q121_U wLay q121_M ddX12_isEntry [(11,[0])] [] [0] 600 q121_N = true := by decide +kernel
set_option maxHeartbeats 4000000 in
theorem q121_met {G : rfG} (h : okG G) : rf_met G q121_M := rf_methodB h.1 (P := q121_P) (U := q121_U) (N := q121_N) ⟨wflT h flokX12, wcsT h csokX12, wlcT h lcokX12, spokX12 h, List.forall_mem_cons.mpr ⟨q57_met h, fun _ h => absurd h List.not_mem_nil⟩, List.forall_mem_cons.mpr ⟨fun M hM => Option.some.inj (show some q57_M = some M from hM) ▸ wlkS (lkX12_334 h) q57_M rfl rfl, fun _ h => absurd h List.not_mem_nil⟩, fun _ h => absurd h List.not_mem_nil, fun _ h => absurd h List.not_mem_nil, fun _ h => absurd h List.not_mem_nil⟩ dkX12_isEntry (by decide +kernel) (by rw [h.2.2.1]; exact q121_ok)
/-- NearSpellModel.isEntry -/
def q122_M : rfM := ((⟨"NearSpellModel", "isEntry", "(I)Z"⟩, prog_14_method_46_code, 2, (some .boolean)), (1,22), ([.inr (.inl [114]),.inl ((0,3,1),none)],[((90,28),(0,0,0),none)]), [], [(some (.inl ((0,0,0),none)),[],[])])
def q122_P : rfP := (flX12,csX12,lcX12,spX12,[q59_M],[(334,0)],[],([],[]))
def q122_U : rfU := []
set_option maxHeartbeats 8000000 in
def q122_N : List rfB := [(0,([(0,.inr (.inl [114])),(1,.inl ((0,3,1),none))],[],[((90,28),(0,0,0),some ((90,28),0,0))]),(11,[]),0)]
set_option maxRecDepth 100000 in
theorem q122_ok : rf_chkB q122_P q122_U wLay q122_M ddX12_isEntry [(11,[0])] [] [0] 600 q122_N = true := by decide +kernel
set_option maxHeartbeats 4000000 in
theorem q122_met {G : rfG} (h : okG G) : rf_met G q122_M := rf_methodB h.1 (P := q122_P) (U := q122_U) (N := q122_N) ⟨wflT h flokX12, wcsT h csokX12, wlcT h lcokX12, spokX12 h, List.forall_mem_cons.mpr ⟨q59_met h, fun _ h => absurd h List.not_mem_nil⟩, List.forall_mem_cons.mpr ⟨fun M hM => Option.some.inj (show some q59_M = some M from hM) ▸ wlkS (lkX12_334 h) q59_M rfl rfl, fun _ h => absurd h List.not_mem_nil⟩, fun _ h => absurd h List.not_mem_nil, fun _ h => absurd h List.not_mem_nil, fun _ h => absurd h List.not_mem_nil⟩ dkX12_isEntry (by decide +kernel) (by rw [h.2.2.1]; exact q122_ok)
/-- NearSpellModel.isEntry -/
def q123_M : rfM := ((⟨"NearSpellModel", "isEntry", "(I)Z"⟩, prog_14_method_46_code, 2, (some .boolean)), (1,22), ([.inr (.inl [114]),.inl ((0,6,1),none)],[((90,28),(0,0,0),none)]), [], [(some (.inl ((0,0,0),none)),[],[])])
def q123_P : rfP := (flX12,csX12,lcX12,spX12,[q61_M],[(334,0)],[],([],[]))
def q123_U : rfU := []
set_option maxHeartbeats 8000000 in
def q123_N : List rfB := [(0,([(0,.inr (.inl [114])),(1,.inl ((0,6,1),none))],[],[((90,28),(0,0,0),some ((90,28),0,0))]),(11,[]),0)]
set_option maxRecDepth 100000 in
theorem q123_ok : rf_chkB q123_P q123_U wLay q123_M ddX12_isEntry [(11,[0])] [] [0] 600 q123_N = true := by decide +kernel
set_option maxHeartbeats 4000000 in
theorem q123_met {G : rfG} (h : okG G) : rf_met G q123_M := rf_methodB h.1 (P := q123_P) (U := q123_U) (N := q123_N) ⟨wflT h flokX12, wcsT h csokX12, wlcT h lcokX12, spokX12 h, List.forall_mem_cons.mpr ⟨q61_met h, fun _ h => absurd h List.not_mem_nil⟩, List.forall_mem_cons.mpr ⟨fun M hM => Option.some.inj (show some q61_M = some M from hM) ▸ wlkS (lkX12_334 h) q61_M rfl rfl, fun _ h => absurd h List.not_mem_nil⟩, fun _ h => absurd h List.not_mem_nil, fun _ h => absurd h List.not_mem_nil, fun _ h => absurd h List.not_mem_nil⟩ dkX12_isEntry (by decide +kernel) (by rw [h.2.2.1]; exact q123_ok)
/-- NearSpellModel.isEntry -/
def q124_M : rfM := ((⟨"NearSpellModel", "isEntry", "(I)Z"⟩, prog_14_method_46_code, 2, (some .boolean)), (1,22), ([.inr (.inl [114]),.inl ((0,9,1),none)],[((90,28),(0,0,0),none)]), [], [(some (.inl ((0,0,0),none)),[],[])])
def q124_P : rfP := (flX12,csX12,lcX12,spX12,[q63_M],[(334,0)],[],([],[]))
def q124_U : rfU := []
set_option maxHeartbeats 8000000 in
def q124_N : List rfB := [(0,([(0,.inr (.inl [114])),(1,.inl ((0,9,1),none))],[],[((90,28),(0,0,0),some ((90,28),0,0))]),(11,[]),0)]
set_option maxRecDepth 100000 in
theorem q124_ok : rf_chkB q124_P q124_U wLay q124_M ddX12_isEntry [(11,[0])] [] [0] 600 q124_N = true := by decide +kernel
set_option maxHeartbeats 4000000 in
theorem q124_met {G : rfG} (h : okG G) : rf_met G q124_M := rf_methodB h.1 (P := q124_P) (U := q124_U) (N := q124_N) ⟨wflT h flokX12, wcsT h csokX12, wlcT h lcokX12, spokX12 h, List.forall_mem_cons.mpr ⟨q63_met h, fun _ h => absurd h List.not_mem_nil⟩, List.forall_mem_cons.mpr ⟨fun M hM => Option.some.inj (show some q63_M = some M from hM) ▸ wlkS (lkX12_334 h) q63_M rfl rfl, fun _ h => absurd h List.not_mem_nil⟩, fun _ h => absurd h List.not_mem_nil, fun _ h => absurd h List.not_mem_nil, fun _ h => absurd h List.not_mem_nil⟩ dkX12_isEntry (by decide +kernel) (by rw [h.2.2.1]; exact q124_ok)
/-- NearSpellModel.isEntry -/
def q125_M : rfM := ((⟨"NearSpellModel", "isEntry", "(I)Z"⟩, prog_14_method_46_code, 2, (some .boolean)), (1,22), ([.inr (.inl [114]),.inl ((0,12,1),none)],[((90,28),(0,0,0),none)]), [], [(some (.inl ((0,0,0),none)),[],[])])
def q125_P : rfP := (flX12,csX12,lcX12,spX12,[q65_M],[(334,0)],[],([],[]))
def q125_U : rfU := []
set_option maxHeartbeats 8000000 in
def q125_N : List rfB := [(0,([(0,.inr (.inl [114])),(1,.inl ((0,12,1),none))],[],[((90,28),(0,0,0),some ((90,28),0,0))]),(11,[]),0)]
set_option maxRecDepth 100000 in
theorem q125_ok : rf_chkB q125_P q125_U wLay q125_M ddX12_isEntry [(11,[0])] [] [0] 600 q125_N = true := by decide +kernel
set_option maxHeartbeats 4000000 in
theorem q125_met {G : rfG} (h : okG G) : rf_met G q125_M := rf_methodB h.1 (P := q125_P) (U := q125_U) (N := q125_N) ⟨wflT h flokX12, wcsT h csokX12, wlcT h lcokX12, spokX12 h, List.forall_mem_cons.mpr ⟨q65_met h, fun _ h => absurd h List.not_mem_nil⟩, List.forall_mem_cons.mpr ⟨fun M hM => Option.some.inj (show some q65_M = some M from hM) ▸ wlkS (lkX12_334 h) q65_M rfl rfl, fun _ h => absurd h List.not_mem_nil⟩, fun _ h => absurd h List.not_mem_nil, fun _ h => absurd h List.not_mem_nil, fun _ h => absurd h List.not_mem_nil⟩ dkX12_isEntry (by decide +kernel) (by rw [h.2.2.1]; exact q125_ok)
/-- NearSpellModel.isEntry -/
def q126_M : rfM := ((⟨"NearSpellModel", "isEntry", "(I)Z"⟩, prog_14_method_46_code, 2, (some .boolean)), (1,22), ([.inr (.inl [114]),.inl ((0,13,1),none)],[((90,28),(0,0,0),none)]), [], [(some (.inl ((0,0,0),none)),[],[])])
def q126_P : rfP := (flX12,csX12,lcX12,spX12,[q67_M],[(334,0)],[],([],[]))
def q126_U : rfU := []
set_option maxHeartbeats 8000000 in
def q126_N : List rfB := [(0,([(0,.inr (.inl [114])),(1,.inl ((0,13,1),none))],[],[((90,28),(0,0,0),some ((90,28),0,0))]),(11,[]),0)]
set_option maxRecDepth 100000 in
theorem q126_ok : rf_chkB q126_P q126_U wLay q126_M ddX12_isEntry [(11,[0])] [] [0] 600 q126_N = true := by decide +kernel
set_option maxHeartbeats 4000000 in
theorem q126_met {G : rfG} (h : okG G) : rf_met G q126_M := rf_methodB h.1 (P := q126_P) (U := q126_U) (N := q126_N) ⟨wflT h flokX12, wcsT h csokX12, wlcT h lcokX12, spokX12 h, List.forall_mem_cons.mpr ⟨q67_met h, fun _ h => absurd h List.not_mem_nil⟩, List.forall_mem_cons.mpr ⟨fun M hM => Option.some.inj (show some q67_M = some M from hM) ▸ wlkS (lkX12_334 h) q67_M rfl rfl, fun _ h => absurd h List.not_mem_nil⟩, fun _ h => absurd h List.not_mem_nil, fun _ h => absurd h List.not_mem_nil, fun _ h => absurd h List.not_mem_nil⟩ dkX12_isEntry (by decide +kernel) (by rw [h.2.2.1]; exact q126_ok)
