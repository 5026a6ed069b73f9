/-- NearSpell.Witness.takeBack -/
def q451_M : rfM := ((⟨"NearSpell$Witness", "takeBack", "(I)Z"⟩, prog_12_method_5_code, 2, (some .boolean)), (0,0), ([.inr (.inl [68]),.inl (((-2147483648),2147483647,1),none)],[((68,8),(0,0,0),none),((68,9),(0,0,0),none)]), [], [(some (.inl ((0,0,0),none)),[],[])])
def ddX10_takeBack : List (Nat × Instr × Nat) := [(0,.iload_n 1,1),(1,.ifCond .lt 21,3),(4,.iload_n 1,1),(5,.aload_n 0,1),(6,.getfield 31,3),(9,.if_icmp .ge 13,3),(12,.aload_n 0,1),(13,.getfield 25,3),(16,.iload_n 1,1),(17,.iaload,1),(18,.iconst (-1),1),(19,.if_icmp .eq 5,3),(22,.iconst 0,1),(23,.ireturn,1),(24,.aload_n 0,1),(25,.getfield 25,3),(28,.iload_n 1,1),(29,.aload_n 0,1),(30,.getfield 35,3),(33,.iastore,1),(34,.iconst 1,1),(35,.ireturn,1)]
set_option maxRecDepth 100000 in
theorem dkX10_takeBack : rf_decs prog_12_method_5_code ddX10_takeBack := rf_decs_of (by decide +kernel)
def q451_P : rfP := (flX10,csX10,lcX10,spX10,[],[],[],([],[]))
def q451_U : rfU := []
set_option maxHeartbeats 8000000 in
def q451_N : List rfB := [(0,([(0,.inr (.inl [68])),(1,.inl (((-2147483648),2147483647,1),none))],[],[((68,8),(0,0,0),some ((68,8),0,0)),((68,9),(0,0,0),some ((68,9),0,0))]),(7,[]),0)]
set_option maxRecDepth 100000 in
theorem q451_ok : rf_chkB q451_P q451_U wLay q451_M ddX10_takeBack [] [] [0] 13 q451_N = true := by decide +kernel
set_option maxHeartbeats 4000000 in
theorem q451_met {G : rfG} (h : okG G) : rf_met G q451_M := rf_methodB h.1 (P := q451_P) (U := q451_U) (N := q451_N) ⟨wflT h flokX10, wcsT h csokX10, wlcT h lcokX10, spokX10 h, fun _ h => absurd h List.not_mem_nil, fun _ h => absurd h List.not_mem_nil, fun _ h => absurd h List.not_mem_nil, fun _ h => absurd h List.not_mem_nil, fun _ h => absurd h List.not_mem_nil⟩ dkX10_takeBack (by decide +kernel) (by rw [h.2.2.1]; exact q451_ok)
/-- NearSpell.untell -/
def q452_M : rfM := ((⟨"NearSpell", "untell", "(I)Z"⟩, prog_1_method_42_code, 2, (some .boolean)), (1,21), ([.inr (.inl [70]),.inl (((-2147483648),2147483647,1),none)],[((68,8),(0,0,0),none),((68,9),(0,0,0),none)]), [], [(some (.inl ((0,0,0),none)),[],[])])
def ddX11_untell : List (Nat × Instr × Nat) := [(0,.aload_n 0,1),(1,.getfield 92,3),(4,.iload_n 1,1),(5,.invokevirtual 322,3),(8,.ireturn,1)]
set_option maxRecDepth 100000 in
theorem dkX11_untell : rf_decs prog_1_method_42_code ddX11_untell := rf_decs_of (by decide +kernel)
def q452_P : rfP := (flX11,csX11,lcX11,spX11,[q451_M],[],[(322,0,10)],([],[]))
def q452_U : rfU := []
set_option maxHeartbeats 8000000 in
def q452_N : List rfB := [(0,([(0,.inr (.inl [70])),(1,.inl (((-2147483648),2147483647,1),none))],[],[((68,8),(0,0,0),some ((68,8),0,0)),((68,9),(0,0,0),some ((68,9),0,0))]),(4,[]),0)]
set_option maxRecDepth 100000 in
theorem q452_ok : rf_chkB q452_P q452_U wLay q452_M ddX11_untell [(5,[0])] [] [0] 600 q452_N = true := by decide +kernel
set_option maxHeartbeats 4000000 in
theorem q452_met {G : rfG} (h : okG G) : rf_met G q452_M := rf_methodB h.1 (P := q452_P) (U := q452_U) (N := q452_N) ⟨wflT h flokX11, wcsT h csokX11, wlcT h lcokX11, spokX11 h, List.forall_mem_cons.mpr ⟨q451_met h, fun _ h => absurd h List.not_mem_nil⟩, fun _ h => absurd h List.not_mem_nil, List.forall_mem_cons.mpr ⟨fun M hM => Option.some.inj (show some q451_M = some M from hM) ▸ wlkV (lkX11_322 h) q451_M rfl rfl, fun _ h => absurd h List.not_mem_nil⟩, fun _ h => absurd h List.not_mem_nil, fun _ h => absurd h List.not_mem_nil⟩ dkX11_untell (by decide +kernel) (by rw [h.2.2.1]; exact q452_ok)
/-- NearSpellModel.untell -/
def q453_M : rfM := ((⟨"NearSpellModel", "untell", "(I)Z"⟩, prog_14_method_118_code, 2, (some .boolean)), (1,22), ([.inr (.inl [114]),.inl (((-2147483648),2147483647,1),none)],[((114,63),(0,0,0),none),((114,64),(0,0,0),none)]), [], [(some (.inl ((0,0,0),none)),[],[])])
def ddX12_untell : List (Nat × Instr × Nat) := [(0,.iload_n 1,1),(1,.iconst 0,1),(2,.aload_n 0,1),(3,.getfield 344,3),(6,.iconst 1,1),(7,.isub,1),(8,.invokestatic 334,3),(11,.ifCond .eq 12,3),(14,.aload_n 0,1),(15,.getfield 132,3),(18,.iload_n 1,1),(19,.iaload,1),(20,.ifCond .lt 5,3),(23,.iconst 0,1),(24,.ireturn,1),(25,.aload_n 0,1),(26,.getfield 132,3),(29,.iload_n 1,1),(30,.aload_n 0,1),(31,.getfield 483,3),(34,.iastore,1),(35,.iconst 1,1),(36,.ireturn,1)]
set_option maxRecDepth 100000 in
theorem dkX12_untell : rf_decs prog_14_method_118_code ddX12_untell := rf_decs_of (by decide +kernel)
def q453_P : rfP := (flX12,csX12,lcX12,spX12,[q40_M],[(334,0)],[],([],[]))
def q453_U : rfU := []
set_option maxHeartbeats 8000000 in
def q453_N : List rfB := [(0,([(0,.inr (.inl [114])),(1,.inl (((-2147483648),2147483647,1),none))],[],[((114,63),(0,0,0),some ((114,63),0,0)),((114,64),(0,0,0),some ((114,64),0,0))]),(9,[]),0)]
set_option maxRecDepth 100000 in
theorem q453_ok : rf_chkB q453_P q453_U wLay q453_M ddX12_untell [(8,[0])] [] [0] 600 q453_N = true := by decide +kernel
set_option maxHeartbeats 4000000 in
theorem q453_met {G : rfG} (h : okG G) : rf_met G q453_M := rf_methodB h.1 (P := q453_P) (U := q453_U) (N := q453_N) ⟨wflT h flokX12, wcsT h csokX12, wlcT h lcokX12, spokX12 h, List.forall_mem_cons.mpr ⟨q40_met h, fun _ h => absurd h List.not_mem_nil⟩, List.forall_mem_cons.mpr ⟨fun M hM => Option.some.inj (show some q40_M = some M from hM) ▸ wlkS (lkX12_334 h) q40_M rfl rfl, fun _ h => absurd h List.not_mem_nil⟩, fun _ h => absurd h List.not_mem_nil, fun _ h => absurd h List.not_mem_nil, fun _ h => absurd h List.not_mem_nil⟩ dkX12_untell (by decide +kernel) (by rw [h.2.2.1]; exact q453_ok)
/-- NearSpell.Witness.fitting -/
def q454_M : rfM := ((⟨"NearSpell$Witness", "fitting", "(I)I"⟩, prog_12_method_7_code, 4, (some .int)), (0,0), ([.inr (.inl [68]),.inl (((-2147483648),2147483647,1),none)],[((5,4),(0,0,0),none),((10,4),(0,0,0),none),((20,3),(0,0,0),none),((20,4),(0,0,0),none),((68,8),(0,0,0),none)]), [], [(some (.inl ((0,0,0),none)),[],[])])
def ddX10_fitting : List (Nat × Instr × Nat) := [(0,.iconst 0,1),(1,.istore_n 2,1),(2,.iconst 0,1),(3,.istore_n 3,1),(4,.iload_n 3,1),(5,.aload_n 0,1),(6,.getfield 38,3),(9,.getfield 47,3),(12,.if_icmp .ge 32,3),(15,.aload_n 0,1),(16,.aload_n 0,1),(17,.getfield 38,3),(20,.getfield 52,3),(23,.iload_n 3,1),(24,.iaload,1),(25,.iload_n 1,1),(26,.invokevirtual 55,3),(29,.ifCond .eq 9,3),(32,.iload_n 2,1),(33,.iconst 1,1),(34,.iload_n 3,1),(35,.ishl,1),(36,.ior,1),(37,.istore_n 2,1),(38,.iinc 3 1,3),(41,.goto (-37),3),(44,.iload_n 2,1),(45,.ireturn,1)]
set_option maxRecDepth 100000 in
theorem dkX10_fitting : rf_decs prog_12_method_7_code ddX10_fitting := rf_decs_of (by decide +kernel)
def q454_P : rfP := (flX10,csX10,lcX10,spX10,[],[],[],([],[]))
def q454_U : rfU := []
set_option maxHeartbeats 8000000 in
def q454_N : List rfB := [(0,([(0,.inr (.inl [68])),(1,.inl (((-2147483648),2147483647,1),none))],[],[((5,4),(0,0,0),some ((5,4),0,0)),((10,4),(0,0,0),some ((10,4),0,0)),((20,3),(0,0,0),some ((20,3),0,0)),((20,4),(0,0,0),some ((20,4),0,0)),((68,8),(0,0,0),some ((68,8),0,0))]),(10,[]),0)]
set_option maxRecDepth 100000 in
theorem q454_ok : rf_chkB q454_P q454_U wLay q454_M ddX10_fitting [] [] [0] 600 q454_N = true := by decide +kernel
set_option maxHeartbeats 4000000 in
theorem q454_met {G : rfG} (h : okG G) : rf_met G q454_M := rf_methodB h.1 (P := q454_P) (U := q454_U) (N := q454_N) ⟨wflT h flokX10, wcsT h csokX10, wlcT h lcokX10, spokX10 h, fun _ h => absurd h List.not_mem_nil, fun _ h => absurd h List.not_mem_nil, fun _ h => absurd h List.not_mem_nil, fun _ h => absurd h List.not_mem_nil, fun _ h => absurd h List.not_mem_nil⟩ dkX10_fitting (by decide +kernel) (by rw [h.2.2.1]; exact q454_ok)
/-- NearSpell.fits -/
def q455_M : rfM := ((⟨"NearSpell", "fits", "(I)I"⟩, prog_1_method_44_code, 2, (some .int)), (1,23), ([.inr (.inl [70]),.inl (((-2147483648),2147483647,1),none)],[((5,4),(0,0,0),none),((10,4),(0,0,0),none),((20,3),(0,0,0),none),((20,4),(0,0,0),none),((68,8),(0,0,0),none)]), [], [(some (.inl ((0,0,0),none)),[],[])])
def ddX11_fits : List (Nat × Instr × Nat) := [(0,.aload_n 0,1),(1,.getfield 92,3),(4,.iload_n 1,1),(5,.invokevirtual 327,3),(8,.ireturn,1)]
set_option maxRecDepth 100000 in
theorem dkX11_fits : rf_decs prog_1_method_44_code ddX11_fits := rf_decs_of (by decide +kernel)
def q455_P : rfP := (flX11,csX11,lcX11,spX11,[q454_M],[],[(327,0,10)],([],[]))
def q455_U : rfU := []
set_option maxHeartbeats 8000000 in
def q455_N : List rfB := [(0,([(0,.inr (.inl [70])),(1,.inl (((-2147483648),2147483647,1),none))],[],[((5,4),(0,0,0),some ((5,4),0,0)),((10,4),(0,0,0),some ((10,4),0,0)),((20,3),(0,0,0),some ((20,3),0,0)),((20,4),(0,0,0),some ((20,4),0,0)),((68,8),(0,0,0),some ((68,8),0,0))]),(4,[]),0)]
set_option maxRecDepth 100000 in
theorem q455_ok : rf_chkB q455_P q455_U wLay q455_M ddX11_fits [(5,[0])] [] [0] 600 q455_N = true := by decide +kernel
set_option maxHeartbeats 4000000 in
theorem q455_met {G : rfG} (h : okG G) : rf_met G q455_M := rf_methodB h.1 (P := q455_P) (U := q455_U) (N := q455_N) ⟨wflT h flokX11, wcsT h csokX11, wlcT h lcokX11, spokX11 h, List.forall_mem_cons.mpr ⟨q454_met h, fun _ h => absurd h List.not_mem_nil⟩, fun _ h => absurd h List.not_mem_nil, List.forall_mem_cons.mpr ⟨fun M hM => Option.some.inj (show some q454_M = some M from hM) ▸ wlkV (lkX11_327 h) q454_M rfl rfl, fun _ h => absurd h List.not_mem_nil⟩, fun _ h => absurd h List.not_mem_nil, fun _ h => absurd h List.not_mem_nil⟩ dkX11_fits (by decide +kernel) (by rw [h.2.2.1]; exact q455_ok)
/-- NearSpellModel.fits -/
def q456_M : rfM := ((⟨"NearSpellModel", "fits", "(I)I"⟩, prog_14_method_122_code, 4, (some .int)), (0,0), ([.inr (.inl [114]),.inl (((-2147483648),2147483647,1),none)],[((73,0),(0,0,0),none),((114,28),(0,0,0),none),((114,44),(0,0,0),none),((114,45),(0,0,0),none),((114,63),(0,0,0),none)]), [], [(some (.inl ((0,0,0),none)),[],[])])
def ddX12_fits : List (Nat × Instr × Nat) := [(0,.iconst 0,1),(1,.istore_n 2,1),(2,.iconst 0,1),(3,.istore_n 3,1),(4,.iload_n 3,1),(5,.aload_n 0,1),(6,.getfield 20,3),(9,.aload_n 0,1),(10,.getfield 242,3),(13,.iaload,1),(14,.if_icmp .ge 24,3),(17,.aload_n 0,1),(18,.iload_n 3,1),(19,.iload_n 1,1),(20,.invokevirtual 493,3),(23,.ifCond .eq 9,3),(26,.iload_n 2,1),(27,.iconst 1,1),(28,.iload_n 3,1),(29,.ishl,1),(30,.ior,1),(31,.istore_n 2,1),(32,.iinc 3 1,3),(35,.goto (-31),3),(38,.iload_n 2,1),(39,.ireturn,1)]
set_option maxRecDepth 100000 in
theorem dkX12_fits : rf_decs prog_14_method_122_code ddX12_fits := rf_decs_of (by decide +kernel)
def q456_P : rfP := (flX12,csX12,lcX12,spX12,[],[],[],([],[]))
def q456_U : rfU := []
set_option maxHeartbeats 8000000 in
def q456_N : List rfB := [(0,([(0,.inr (.inl [114])),(1,.inl (((-2147483648),2147483647,1),none))],[],[((73,0),(0,0,0),some ((73,0),0,0)),((114,28),(0,0,0),some ((114,28),0,0)),((114,44),(0,0,0),some ((114,44),0,0)),((114,45),(0,0,0),some ((114,45),0,0)),((114,63),(0,0,0),some ((114,63),0,0))]),(12,[]),0)]
set_option maxRecDepth 100000 in
theorem q456_ok : rf_chkB q456_P q456_U wLay q456_M ddX12_fits [] [] [0] 600 q456_N = true := by decide +kernel
set_option maxHeartbeats 4000000 in
theorem q456_met {G : rfG} (h : okG G) : rf_met G q456_M := rf_methodB h.1 (P := q456_P) (U := q456_U) (N := q456_N) ⟨wflT h flokX12, wcsT h csokX12, wlcT h lcokX12, spokX12 h, fun _ h => absurd h List.not_mem_nil, fun _ h => absurd h List.not_mem_nil, fun _ h => absurd h List.not_mem_nil, fun _ h => absurd h List.not_mem_nil, fun _ h => absurd h List.not_mem_nil⟩ dkX12_fits (by decide +kernel) (by rw [h.2.2.1]; exact q456_ok)
/-- NearSpell.Witness.bestToAsk -/
def q457_M : rfM := ((⟨"NearSpell$Witness", "bestToAsk", "(II)I"⟩, prog_12_method_9_code, 8, (some .int)), (1,23), ([.inr (.inl [68]),.inl ((0,1,1),none),.inl (((-2147483648),2147483647,1),none)],[((5,4),(0,0,0),none),((10,4),(0,0,0),none),((20,3),(0,0,0),none),((20,4),(0,0,0),none),((68,8),(0,0,0),none)]), [], [(some (.inl (((-1),(-1),0),none)),[],[])])
def ddX10_bestToAsk : List (Nat × Instr × Nat) := [(0,.aload_n 0,1),(1,.iload_n 2,1),(2,.invokevirtual 72,3),(5,.istore_n 3,1),(6,.iload_n 3,1),(7,.ifCond .ne 5,3),(10,.iconst (-1),1),(11,.ireturn,1),(12,.iconst (-1),1),(13,.istore 4,2),(15,.bipush 11,2),(17,.istore 5,2),(19,.iconst 0,1),(20,.istore 6,2),(22,.iload 6,2),(24,.aload_n 0,1),(25,.getfield 38,3),(28,.getfield 47,3),(31,.if_icmp .ge 41,3),(34,.aload_n 0,1),(35,.aload_n 0,1),(36,.getfield 38,3),(39,.getfield 52,3),(42,.iload 6,2),(44,.iaload,1),(45,.iload_n 3,1),(46,.invokevirtual 75,3),(49,.istore 7,2),(51,.iload 7,2),(53,.iload 5,2),(55,.if_icmp .ge 11,3),(58,.iload 6,2),(60,.istore 4,2),(62,.iload 7,2),(64,.istore 5,2),(66,.iinc 6 1,3),(69,.goto (-47),3),(72,.iload_n 1,1),(73,.ifCond .ne 8,3),(76,.iload 4,2),(78,.goto 5,3),(81,.iload 5,2),(83,.ireturn,1)]
set_option maxRecDepth 100000 in
theorem dkX10_bestToAsk : rf_decs prog_12_method_9_code ddX10_bestToAsk := rf_decs_of (by decide +kernel)
def q457_P : rfP := (flX10,csX10,lcX10,spX10,[q454_M],[],[(72,0,10)],([],[]))
def q457_U : rfU := []
set_option maxHeartbeats 8000000 in
def q457_N : List rfB := [(0,([(0,.inr (.inl [68])),(1,.inl ((0,1,1),none)),(2,.inl (((-2147483648),2147483647,1),none))],[],[((5,4),(0,0,0),some ((5,4),0,0)),((10,4),(0,0,0),some ((10,4),0,0)),((20,3),(0,0,0),some ((20,3),0,0)),((20,4),(0,0,0),some ((20,4),0,0)),((68,8),(0,0,0),some ((68,8),0,0))]),(7,[]),0)]
set_option maxRecDepth 100000 in
theorem q457_ok : rf_chkB q457_P q457_U wLay q457_M ddX10_bestToAsk [(2,[0])] [] [0] 600 q457_N = true := by decide +kernel
set_option maxHeartbeats 4000000 in
theorem q457_met {G : rfG} (h : okG G) : rf_met G q457_M := rf_methodB h.1 (P := q457_P) (U := q457_U) (N := q457_N) ⟨wflT h flokX10, wcsT h csokX10, wlcT h lcokX10, spokX10 h, List.forall_mem_cons.mpr ⟨q454_met h, fun _ h => absurd h List.not_mem_nil⟩, fun _ h => absurd h List.not_mem_nil, List.forall_mem_cons.mpr ⟨fun M hM => Option.some.inj (show some q454_M = some M from hM) ▸ wlkV (lkX10_72 h) q454_M rfl rfl, fun _ h => absurd h List.not_mem_nil⟩, fun _ h => absurd h List.not_mem_nil, fun _ h => absurd h List.not_mem_nil⟩ dkX10_bestToAsk (by decide +kernel) (by rw [h.2.2.1]; exact q457_ok)
/-- NearSpell.ask -/
def q458_M : rfM := ((⟨"NearSpell", "ask", "(II)I"⟩, prog_1_method_45_code, 3, (some .int)), (2,50), ([.inr (.inl [70]),.inl (((-2147483648),2147483647,1),none),.inl (((-2147483648),2147483647,1),none)],[((5,4),(0,0,0),none),((10,4),(0,0,0),none),((20,3),(0,0,0),none),((20,4),(0,0,0),none),((68,8),(0,0,0),none)]), [], [(some (.inl (((-1),(-1),0),none)),[],[])])
def ddX11_ask : List (Nat × Instr × Nat) := [(0,.iload_n 1,1),(1,.ifCond .lt 8,3),(4,.iload_n 1,1),(5,.iconst 1,1),(6,.if_icmp .le 5,3),(9,.iconst (-1),1),(10,.ireturn,1),(11,.aload_n 0,1),(12,.getfield 92,3),(15,.iload_n 1,1),(16,.iload_n 2,1),(17,.invokevirtual 330,3),(20,.ireturn,1)]
set_option maxRecDepth 100000 in
theorem dkX11_ask : rf_decs prog_1_method_45_code ddX11_ask := rf_decs_of (by decide +kernel)
def q458_P : rfP := (flX11,csX11,lcX11,spX11,[q457_M],[],[(330,0,10)],([],[]))
def q458_U : rfU := []
set_option maxHeartbeats 8000000 in
def q458_N : List rfB := [(0,([(0,.inr (.inl [70])),(1,.inl (((-2147483648),2147483647,1),none)),(2,.inl (((-2147483648),2147483647,1),none))],[],[((5,4),(0,0,0),some ((5,4),0,0)),((10,4),(0,0,0),some ((10,4),0,0)),((20,3),(0,0,0),some ((20,3),0,0)),((20,4),(0,0,0),some ((20,4),0,0)),((68,8),(0,0,0),some ((68,8),0,0))]),(12,[]),0)]
set_option maxRecDepth 100000 in
theorem q458_ok : rf_chkB q458_P q458_U wLay q458_M ddX11_ask [(17,[0])] [] [0] 16 q458_N = true := by decide +kernel
set_option maxHeartbeats 4000000 in
theorem q458_met {G : rfG} (h : okG G) : rf_met G q458_M := rf_methodB h.1 (P := q458_P) (U := q458_U) (N := q458_N) ⟨wflT h flokX11, wcsT h csokX11, wlcT h lcokX11, spokX11 h, List.forall_mem_cons.mpr ⟨q457_met h, fun _ h => absurd h List.not_mem_nil⟩, fun _ h => absurd h List.not_mem_nil, List.forall_mem_cons.mpr ⟨fun M hM => Option.some.inj (show some q457_M = some M from hM) ▸ wlkV (lkX11_330 h) q457_M rfl rfl, fun _ h => absurd h List.not_mem_nil⟩, fun _ h => absurd h List.not_mem_nil, fun _ h => absurd h List.not_mem_nil⟩ dkX11_ask (by decide +kernel) (by rw [h.2.2.1]; exact q458_ok)
/-- NearSpellModel.isIn -/
def q459_M : rfM := ((⟨"NearSpellModel", "isIn", "(III)Z"⟩, prog_14_method_35_code, 3, (some .boolean)), (0,0), ([.inl (((-2147483648),2147483647,1),none),.inl ((0,0,0),none),.inl ((1,1,0),none)],[]), [], [(some (.inl ((1,1,0),none)),[(0,0,1)],[]),(some (.inl ((0,0,0),none)),[],[])])
def q459_P : rfP := (flX12,csX12,lcX12,spX12,[],[],[],([],[]))
def q459_U : rfU := []
set_option maxHeartbeats 8000000 in
def q459_N : List rfB := [(0,([(0,.inl (((-2147483648),2147483647,1),none)),(1,.inl ((0,0,0),none)),(2,.inl ((1,1,0),none))],[],[]),(10,[]),0)]
set_option maxRecDepth 100000 in
theorem q459_ok : rf_chkB q459_P q459_U wLay q459_M ddX12_isIn [] [] [0] 14 q459_N = true := by decide +kernel
set_option maxHeartbeats 4000000 in
theorem q459_met {G : rfG} (h : okG G) : rf_met G q459_M := rf_methodB h.1 (P := q459_P) (U := q459_U) (N := q459_N) ⟨wflT h flokX12, wcsT h csokX12, wlcT h lcokX12, spokX12 h, fun _ h => absurd h List.not_mem_nil, fun _ h => absurd h List.not_mem_nil, fun _ h => absurd h List.not_mem_nil, fun _ h => absurd h List.not_mem_nil, fun _ h => absurd h List.not_mem_nil⟩ dkX12_isIn (by decide +kernel) (by rw [h.2.2.1]; exact q459_ok)
/-- NearSpellModel.ask -/
def q460_M : rfM := ((⟨"NearSpellModel", "ask", "(II)I"⟩, prog_14_method_124_code, 8, (some .int)), (1,23), ([.inr (.inl [114]),.inl (((-2147483648),2147483647,1),none),.inl (((-2147483648),2147483647,1),none)],[((73,0),(0,0,0),none),((114,28),(0,0,0),none),((114,44),(0,0,0),none),((114,45),(0,0,0),none),((114,63),(0,0,0),none)]), [], [(some (.inl (((-1),(-1),0),none)),[],[])])
def ddX12_ask : List (Nat × Instr × Nat) := [(0,.aload_n 0,1),(1,.iload_n 2,1),(2,.invokevirtual 496,3),(5,.istore_n 3,1),(6,.iload_n 1,1),(7,.iconst 0,1),(8,.iconst 1,1),(9,.invokestatic 334,3),(12,.ifCond .eq 7,3),(15,.iload_n 3,1),(16,.ifCond .ne 5,3),(19,.iconst (-1),1),(20,.ireturn,1),(21,.iconst (-1),1),(22,.istore 4,2),(24,.sipush 1000,3),(27,.istore 5,2),(29,.iconst 0,1),(30,.istore 6,2),(32,.iload 6,2),(34,.aload_n 0,1),(35,.getfield 20,3),(38,.aload_n 0,1),(39,.getfield 242,3),(42,.iaload,1),(43,.if_icmp .ge 36,3),(46,.aload_n 0,1),(47,.iload 6,2),(49,.iload_n 3,1),(50,.invokevirtual 499,3),(53,.istore 7,2),(55,.iload 7,2),(57,.iload 5,2),(59,.if_icmp .lt 6,3),(62,.goto 11,3),(65,.iload 6,2),(67,.istore 4,2),(69,.iload 7,2),(71,.istore 5,2),(73,.iinc 6 1,3),(76,.goto (-44),3),(79,.iload_n 1,1),(80,.ifCond .ne 8,3),(83,.iload 4,2),(85,.goto 5,3),(88,.iload 5,2),(90,.ireturn,1)]
set_option maxRecDepth 100000 in
theorem dkX12_ask : rf_decs prog_14_method_124_code ddX12_ask := rf_decs_of (by decide +kernel)
def q460_P : rfP := (flX12,csX12,lcX12,spX12,[q456_M,q459_M],[(334,1)],[(496,0,12)],([],[]))
def q460_U : rfU := []
set_option maxHeartbeats 8000000 in
def q460_N : List rfB := [(0,([(0,.inr (.inl [114])),(1,.inl (((-2147483648),2147483647,1),none)),(2,.inl (((-2147483648),2147483647,1),none))],[],[((73,0),(0,0,0),some ((73,0),0,0)),((114,28),(0,0,0),some ((114,28),0,0)),((114,44),(0,0,0),some ((114,44),0,0)),((114,45),(0,0,0),some ((114,45),0,0)),((114,63),(0,0,0),some ((114,63),0,0))]),(13,[]),0)]
set_option maxRecDepth 100000 in
theorem q460_ok : rf_chkB q460_P q460_U wLay q460_M ddX12_ask [(2,[0]),(9,[1])] [] [0] 18 q460_N = true := by decide +kernel
set_option maxHeartbeats 4000000 in
theorem q460_met {G : rfG} (h : okG G) : rf_met G q460_M := rf_methodB h.1 (P := q460_P) (U := q460_U) (N := q460_N) ⟨wflT h flokX12, wcsT h csokX12, wlcT h lcokX12, spokX12 h, List.forall_mem_cons.mpr ⟨q456_met h, List.forall_mem_cons.mpr ⟨q459_met h, fun _ h => absurd h List.not_mem_nil⟩⟩, List.forall_mem_cons.mpr ⟨fun M hM => Option.some.inj (show some q459_M = some M from hM) ▸ wlkS (lkX12_334 h) q459_M rfl rfl, fun _ h => absurd h List.not_mem_nil⟩, List.forall_mem_cons.mpr ⟨fun M hM => Option.some.inj (show some q456_M = some M from hM) ▸ wlkV (lkX12_496 h) q456_M rfl rfl, fun _ h => absurd h List.not_mem_nil⟩, fun _ h => absurd h List.not_mem_nil, fun _ h => absurd h List.not_mem_nil⟩ dkX12_ask (by decide +kernel) (by rw [h.2.2.1]; exact q460_ok)
/-- NearSpell.image -/
def q461_M : rfM := ((⟨"NearSpell", "image", "(I)I"⟩, prog_1_method_46_code, 2, (some .int)), (0,0), ([.inr (.inl [70]),.inl (((-2147483648),(-1),1),none)],[((12,34),(0,0,0),none),((12,35),(0,0,0),none),((12,36),(0,0,0),none),((16,2),(0,0,0),none)]), [], [(some (.inl (((-1),(-1),0),none)),[],[])])
def ddX11_image : List (Nat × Instr × Nat) := [(0,.iload_n 1,1),(1,.ifCond .lt 8,3),(4,.iload_n 1,1),(5,.iconst 3,1),(6,.if_icmp .lt 5,3),(9,.iconst (-1),1),(10,.ireturn,1),(11,.aload_n 0,1),(12,.getfield 42,3),(15,.iload_n 1,1),(16,.aload_n 0,1),(17,.getfield 35,3),(20,.invokevirtual 333,3),(23,.aload_n 0,1),(24,.getfield 35,3),(27,.invokevirtual 183,3),(30,.ireturn,1)]
set_option maxRecDepth 100000 in
theorem dkX11_image : rf_decs prog_1_method_46_code ddX11_image := rf_decs_of (by decide +kernel)
def q461_P : rfP := (flX11,csX11,lcX11,spX11,[],[],[],([],[]))
def q461_U : rfU := []
set_option maxHeartbeats 8000000 in
def q461_N : List rfB := [(0,([(0,.inr (.inl [70])),(1,.inl (((-2147483648),(-1),1),none))],[],[((12,34),(0,0,0),some ((12,34),0,0)),((12,35),(0,0,0),some ((12,35),0,0)),((12,36),(0,0,0),some ((12,36),0,0)),((16,2),(0,0,0),some ((16,2),0,0))]),(3,[]),0)]
set_option maxRecDepth 100000 in
theorem q461_ok : rf_chkB q461_P q461_U wLay q461_M ddX11_image [] [] [0] 600 q461_N = true := by decide +kernel
set_option maxHeartbeats 4000000 in
theorem q461_met {G : rfG} (h : okG G) : rf_met G q461_M := rf_methodB h.1 (P := q461_P) (U := q461_U) (N := q461_N) ⟨wflT h flokX11, wcsT h csokX11, wlcT h lcokX11, spokX11 h, fun _ h => absurd h List.not_mem_nil, fun _ h => absurd h List.not_mem_nil, fun _ h => absurd h List.not_mem_nil, fun _ h => absurd h List.not_mem_nil, fun _ h => absurd h List.not_mem_nil⟩ dkX11_image (by decide +kernel) (by rw [h.2.2.1]; exact q461_ok)
/-- NearSpellModel.image -/
def q462_M : rfM := ((⟨"NearSpellModel", "image", "(I)I"⟩, prog_14_method_125_code, 3, (some .int)), (1,22), ([.inr (.inl [114]),.inl (((-2147483648),(-1),1),none)],[((90,28),(0,0,0),none),((90,29),(0,0,0),none),((90,36),(0,0,0),none),((113,0),(0,0,0),none),((113,1),(0,0,0),none),((113,2),(0,0,0),none)]), [], [(some (.inl (((-1),(-1),0),none)),[],[])])
def ddX12_image : List (Nat × Instr × Nat) := [(0,.iload_n 1,1),(1,.iconst 0,1),(2,.iconst 2,1),(3,.invokestatic 334,3),(6,.ifCond .ne 5,3),(9,.iconst (-1),1),(10,.ireturn,1),(11,.iconst 0,1),(12,.istore_n 2,1),(13,.iload_n 2,1),(14,.bipush 37,2),(16,.if_icmp .ge 26,3),(19,.aload_n 0,1),(20,.getfield 138,3),(23,.bipush 37,2),(25,.iload_n 1,1),(26,.imul,1),(27,.iload_n 2,1),(28,.iadd,1),(29,.aload_n 0,1),(30,.getfield 72,3),(33,.iload_n 2,1),(34,.iaload,1),(35,.iastore,1),(36,.iinc 2 1,3),(39,.goto (-26),3),(42,.aload_n 0,1),(43,.getfield 141,3),(46,.iload_n 1,1),(47,.iconst 1,1),(48,.bastore,1),(49,.aload_n 0,1),(50,.invokevirtual 423,3),(53,.invokestatic 356,3),(56,.ireturn,1)]
set_option maxRecDepth 100000 in
theorem dkX12_image : rf_decs prog_14_method_125_code ddX12_image := rf_decs_of (by decide +kernel)
def q462_P : rfP := (flX12,csX12,lcX12,spX12,[q189_M],[(334,0)],[],([],[]))
def q462_U : rfU := []
set_option maxHeartbeats 8000000 in
def q462_N : List rfB := [(0,([(0,.inr (.inl [114])),(1,.inl (((-2147483648),(-1),1),none))],[],[((90,28),(0,0,0),some ((90,28),0,0)),((90,29),(0,0,0),some ((90,29),0,0)),((90,36),(0,0,0),some ((90,36),0,0)),((113,0),(0,0,0),some ((113,0),0,0)),((113,1),(0,0,0),some ((113,1),0,0)),((113,2),(0,0,0),some ((113,2),0,0))]),(6,[]),0)]
set_option maxRecDepth 100000 in
theorem q462_ok : rf_chkB q462_P q462_U wLay q462_M ddX12_image [(3,[0])] [] [0] 600 q462_N = true := by decide +kernel
set_option maxHeartbeats 4000000 in
theorem q462_met {G : rfG} (h : okG G) : rf_met G q462_M := rf_methodB h.1 (P := q462_P) (U := q462_U) (N := q462_N) ⟨wflT h flokX12, wcsT h csokX12, wlcT h lcokX12, spokX12 h, List.forall_mem_cons.mpr ⟨q189_met h, fun _ h => absurd h List.not_mem_nil⟩, List.forall_mem_cons.mpr ⟨fun M hM => Option.some.inj (show some q189_M = some M from hM) ▸ wlkS (lkX12_334 h) q189_M rfl rfl, fun _ h => absurd h List.not_mem_nil⟩, fun _ h => absurd h List.not_mem_nil, fun _ h => absurd h List.not_mem_nil, fun _ h => absurd h List.not_mem_nil⟩ dkX12_image (by decide +kernel) (by rw [h.2.2.1]; exact q462_ok)
/-- NearSpell.Archive.keepBox -/
def q463_M : rfM := ((⟨"NearSpell$Archive", "keepBox", "(ILNearSpell$State;)V"⟩, prog_2_method_10_code, 3, none), (1,18), ([.inr (.inl [16]),.inl ((0,0,0),none),.inr (.inl [13])],[((12,34),(0,0,0),none),((12,35),(0,0,0),none),((12,36),(0,0,0),none),((16,2),(0,0,0),none)]), [(15,0),(16,3)], [(none,[],[((16,2),(0,1,1),none)])])
def ddX0_keepBox : List (Nat × Instr × Nat) := [(0,.iload_n 1,1),(1,.ifCond .lt 38,3),(4,.iload_n 1,1),(5,.iconst 3,1),(6,.if_icmp .ge 33,3),(9,.aload_n 2,1),(10,.getfield 40,3),(13,.iconst 0,1),(14,.aload_n 0,1),(15,.getfield 17,3),(18,.iload_n 1,1),(19,.bipush 37,2),(21,.imul,1),(22,.bipush 37,2),(24,.invokestatic 47,3),(27,.aload_n 0,1),(28,.dup,1),(29,.getfield 20,3),(32,.iconst 1,1),(33,.iload_n 1,1),(34,.ishl,1),(35,.ior,1),(36,.putfield 20,3),(39,.return_,1)]
set_option maxRecDepth 100000 in
theorem dkX0_keepBox : rf_decs prog_2_method_10_code ddX0_keepBox := rf_decs_of (by decide +kernel)
def q463_P : rfP := (flX0,csX0,lcX0,spX0,[],[],[],([47],[]))
def q463_U : rfU := []
set_option maxHeartbeats 8000000 in
def q463_N : List rfB := [(0,([(0,.inr (.inl [16])),(1,.inl ((0,0,0),none)),(2,.inr (.inl [13]))],[],[((12,34),(0,0,0),some ((12,34),0,0)),((12,35),(0,0,0),some ((12,35),0,0)),((12,36),(0,0,0),some ((12,36),0,0)),((16,2),(0,0,0),some ((16,2),0,0))]),(23,[]),0)]
set_option maxRecDepth 100000 in
theorem q463_ok : rf_chkB q463_P q463_U wLay q463_M ddX0_keepBox [] [] [0] 600 q463_N = true := by decide +kernel
set_option maxHeartbeats 4000000 in
theorem q463_met {G : rfG} (h : okG G) : rf_met G q463_M := rf_methodB h.1 (P := q463_P) (U := q463_U) (N := q463_N) ⟨wflT h flokX0, wcsT h csokX0, wlcT h lcokX0, spokX0 h, fun _ h => absurd h List.not_mem_nil, fun _ h => absurd h List.not_mem_nil, fun _ h => absurd h List.not_mem_nil, List.forall_mem_cons.mpr ⟨⟨wmT h (wm776), wmT h (wm755), wmT h (wm754), wmT h (wm136)⟩, fun _ h => absurd h List.not_mem_nil⟩, fun _ h => absurd h List.not_mem_nil⟩ dkX0_keepBox (by decide +kernel) (by rw [h.2.2.1]; exact q463_ok)
/-- NearSpell.image -/
def q464_M : rfM := ((⟨"NearSpell", "image", "(I)I"⟩, prog_1_method_46_code, 2, (some .int)), (2,40), ([.inr (.inl [70]),.inl ((0,0,0),none)],[((12,34),(0,0,0),none),((12,35),(0,0,0),none),((12,36),(0,0,0),none),((16,2),(0,0,0),none)]), [(15,0),(16,3)], [(some (.inl ((0,0,0),none)),[],[((16,2),(0,1,1),none)])])
def q464_P : rfP := (flX11,csX11,lcX11,spX11,[q463_M,q228_M],[],[(183,1,8),(333,0,0)],([],[]))
def q464_U : rfU := []
set_option maxHeartbeats 8000000 in
def q464_N : List rfB := [(0,([(0,.inr (.inl [70])),(1,.inl ((0,0,0),none))],[],[((12,34),(0,0,0),some ((12,34),0,0)),((12,35),(0,0,0),some ((12,35),0,0)),((12,36),(0,0,0),some ((12,36),0,0)),((16,2),(0,0,0),some ((16,2),0,0))]),(14,[]),0)]
set_option maxRecDepth 100000 in
theorem q464_ok : rf_chkB q464_P q464_U wLay q464_M ddX11_image [(20,[0]),(27,[1])] [] [0] 600 q464_N = true := by decide +kernel
set_option maxHeartbeats 4000000 in
theorem q464_met {G : rfG} (h : okG G) : rf_met G q464_M := rf_methodB h.1 (P := q464_P) (U := q464_U) (N := q464_N) ⟨wflT h flokX11, wcsT h csokX11, wlcT h lcokX11, spokX11 h, List.forall_mem_cons.mpr ⟨q463_met h, List.forall_mem_cons.mpr ⟨q228_met h, fun _ h => absurd h List.not_mem_nil⟩⟩, fun _ h => absurd h List.not_mem_nil, List.forall_mem_cons.mpr ⟨fun M hM => Option.some.inj (show some q228_M = some M from hM) ▸ wlkV (lkX11_183 h) q228_M rfl rfl, List.forall_mem_cons.mpr ⟨fun M hM => Option.some.inj (show some q463_M = some M from hM) ▸ wlkV (lkX11_333 h) q463_M rfl rfl, fun _ h => absurd h List.not_mem_nil⟩⟩, fun _ h => absurd h List.not_mem_nil, fun _ h => absurd h List.not_mem_nil⟩ dkX11_image (by decide +kernel) (by rw [h.2.2.1]; exact q464_ok)
/-- NearSpellModel.image -/
def q465_M : rfM := ((⟨"NearSpellModel", "image", "(I)I"⟩, prog_14_method_125_code, 3, (some .int)), (3,65), ([.inr (.inl [114]),.inl ((0,0,0),none)],[((90,28),(0,0,0),none),((90,29),(0,0,0),none),((90,36),(0,0,0),none),((113,0),(0,0,0),none),((113,1),(0,0,0),none),((113,2),(0,0,0),none)]), [(112,0),(113,0)], [(some (.inl ((0,0,0),none)),[],[((112,28),(0,0,0),some ((90,28),0,0)),((112,29),(0,0,0),some ((90,29),0,0)),((112,36),(0,0,0),some ((90,36),0,0)),((113,1),(0,0,0),some ((113,1),0,0)),((113,2),(0,0,0),some ((113,2),0,0))])])
def q465_P : rfP := (flX12,csX12,lcX12,spX12,[q173_M,q200_M,q131_M],[(334,0),(356,2)],[(423,1,12)],([],[]))
def q465_U : rfU := []
set_option maxHeartbeats 8000000 in
def q465_N : List rfB := [(0,([(0,.inr (.inl [114])),(1,.inl ((0,0,0),none))],[],[((90,28),(0,0,0),some ((90,28),0,0)),((90,29),(0,0,0),some ((90,29),0,0)),((90,36),(0,0,0),some ((90,36),0,0)),((113,0),(0,0,0),some ((113,0),0,0)),((113,1),(0,0,0),some ((113,1),0,0)),((113,2),(0,0,0),some ((113,2),0,0))]),(647,[]),0)]
set_option maxRecDepth 100000 in
theorem q465_ok : rf_chkB q465_P q465_U wLay q465_M ddX12_image [(3,[0]),(50,[1]),(53,[2])] [] [0] 653 q465_N = true := by decide +kernel
set_option maxHeartbeats 4000000 in
theorem q465_met {G : rfG} (h : okG G) : rf_met G q465_M := rf_methodB h.1 (P := q465_P) (U := q465_U) (N := q465_N) ⟨wflT h flokX12, wcsT h csokX12, wlcT h lcokX12, spokX12 h, List.forall_mem_cons.mpr ⟨q173_met h, List.forall_mem_cons.mpr ⟨q200_met h, List.forall_mem_cons.mpr ⟨q131_met h, fun _ h => absurd h List.not_mem_nil⟩⟩⟩, List.forall_mem_cons.mpr ⟨fun M hM => Option.some.inj (show some q173_M = some M from hM) ▸ wlkS (lkX12_334 h) q173_M rfl rfl, List.forall_mem_cons.mpr ⟨fun M hM => Option.some.inj (show some q131_M = some M from hM) ▸ wlkS (lkX12_356 h) q131_M rfl rfl, fun _ h => absurd h List.not_mem_nil⟩⟩, List.forall_mem_cons.mpr ⟨fun M hM => Option.some.inj (show some q200_M = some M from hM) ▸ wlkV (lkX12_423 h) q200_M rfl rfl, fun _ h => absurd h List.not_mem_nil⟩, fun _ h => absurd h List.not_mem_nil, fun _ h => absurd h List.not_mem_nil⟩ dkX12_image (by decide +kernel) (by rw [h.2.2.1]; exact q465_ok)
/-- NearSpell.Archive.keepBox -/
def q466_M : rfM := ((⟨"NearSpell$Archive", "keepBox", "(ILNearSpell$State;)V"⟩, prog_2_method_10_code, 3, none), (1,18), ([.inr (.inl [16]),.inl ((1,1,0),none),.inr (.inl [13])],[((12,34),(0,0,0),none),((12,35),(0,0,0),none),((12,36),(0,0,0),none),((16,2),(0,0,0),none)]), [(15,0),(16,3)], [(none,[],[((16,2),(0,3,1),none)])])
def q466_P : rfP := (flX0,csX0,lcX0,spX0,[],[],[],([47],[]))
def q466_U : rfU := []
set_option maxHeartbeats 8000000 in
def q466_N : List rfB := [(0,([(0,.inr (.inl [16])),(1,.inl ((1,1,0),none)),(2,.inr (.inl [13]))],[],[((12,34),(0,0,0),some ((12,34),0,0)),((12,35),(0,0,0),some ((12,35),0,0)),((12,36),(0,0,0),some ((12,36),0,0)),((16,2),(0,0,0),some ((16,2),0,0))]),(23,[]),0)]
set_option maxRecDepth 100000 in
theorem q466_ok : rf_chkB q466_P q466_U wLay q466_M ddX0_keepBox [] [] [0] 600 q466_N = true := by decide +kernel
set_option maxHeartbeats 4000000 in
theorem q466_met {G : rfG} (h : okG G) : rf_met G q466_M := rf_methodB h.1 (P := q466_P) (U := q466_U) (N := q466_N) ⟨wflT h flokX0, wcsT h csokX0, wlcT h lcokX0, spokX0 h, fun _ h => absurd h List.not_mem_nil, fun _ h => absurd h List.not_mem_nil, fun _ h => absurd h List.not_mem_nil, List.forall_mem_cons.mpr ⟨⟨wmT h (wm776), wmT h (wm755), wmT h (wm754), wmT h (wm136)⟩, fun _ h => absurd h List.not_mem_nil⟩, fun _ h => absurd h List.not_mem_nil⟩ dkX0_keepBox (by decide +kernel) (by rw [h.2.2.1]; exact q466_ok)
/-- NearSpell.image -/
def q467_M : rfM := ((⟨"NearSpell", "image", "(I)I"⟩, prog_1_method_46_code, 2, (some .int)), (2,40), ([.inr (.inl [70]),.inl ((1,1,0),none)],[((12,34),(0,0,0),none),((12,35),(0,0,0),none),((12,36),(0,0,0),none),((16,2),(0,0,0),none)]), [(15,0),(16,3)], [(some (.inl ((0,0,0),none)),[],[((16,2),(0,3,1),none)])])
def q467_P : rfP := (flX11,csX11,lcX11,spX11,[q466_M,q228_M],[],[(183,1,8),(333,0,0)],([],[]))
def q467_U : rfU := []
set_option maxHeartbeats 8000000 in
def q467_N : List rfB := [(0,([(0,.inr (.inl [70])),(1,.inl ((1,1,0),none))],[],[((12,34),(0,0,0),some ((12,34),0,0)),((12,35),(0,0,0),some ((12,35),0,0)),((12,36),(0,0,0),some ((12,36),0,0)),((16,2),(0,0,0),some ((16,2),0,0))]),(14,[]),0)]
set_option maxRecDepth 100000 in
theorem q467_ok : rf_chkB q467_P q467_U wLay q467_M ddX11_image [(20,[0]),(27,[1])] [] [0] 600 q467_N = true := by decide +kernel
set_option maxHeartbeats 4000000 in
theorem q467_met {G : rfG} (h : okG G) : rf_met G q467_M := rf_methodB h.1 (P := q467_P) (U := q467_U) (N := q467_N) ⟨wflT h flokX11, wcsT h csokX11, wlcT h lcokX11, spokX11 h, List.forall_mem_cons.mpr ⟨q466_met h, List.forall_mem_cons.mpr ⟨q228_met h, fun _ h => absurd h List.not_mem_nil⟩⟩, fun _ h => absurd h List.not_mem_nil, List.forall_mem_cons.mpr ⟨fun M hM => Option.some.inj (show some q228_M = some M from hM) ▸ wlkV (lkX11_183 h) q228_M rfl rfl, List.forall_mem_cons.mpr ⟨fun M hM => Option.some.inj (show some q466_M = some M from hM) ▸ wlkV (lkX11_333 h) q466_M rfl rfl, fun _ h => absurd h List.not_mem_nil⟩⟩, fun _ h => absurd h List.not_mem_nil, fun _ h => absurd h List.not_mem_nil⟩ dkX11_image (by decide +kernel) (by rw [h.2.2.1]; exact q467_ok)
/-- NearSpellModel.image -/
def q468_M : rfM := ((⟨"NearSpellModel", "image", "(I)I"⟩, prog_14_method_125_code, 3, (some .int)), (3,65), ([.inr (.inl [114]),.inl ((1,1,0),none)],[((90,28),(0,0,0),none),((90,29),(0,0,0),none),((90,36),(0,0,0),none),((113,0),(0,0,0),none),((113,1),(0,0,0),none),((113,2),(0,0,0),none)]), [(112,0),(113,0)], [(some (.inl ((0,0,0),none)),[],[((112,65),(0,0,0),some ((90,28),0,0)),((112,66),(0,0,0),some ((90,29),0,0)),((112,73),(0,0,0),some ((90,36),0,0)),((113,0),(0,0,0),some ((113,0),0,0)),((113,2),(0,0,0),some ((113,2),0,0))])])
def q468_P : rfP := (flX12,csX12,lcX12,spX12,[q179_M,q200_M,q131_M],[(334,0),(356,2)],[(423,1,12)],([],[]))
def q468_U : rfU := []
set_option maxHeartbeats 8000000 in
def q468_N : List rfB := [(0,([(0,.inr (.inl [114])),(1,.inl ((1,1,0),none))],[],[((90,28),(0,0,0),some ((90,28),0,0)),((90,29),(0,0,0),some ((90,29),0,0)),((90,36),(0,0,0),some ((90,36),0,0)),((113,0),(0,0,0),some ((113,0),0,0)),((113,1),(0,0,0),some ((113,1),0,0)),((113,2),(0,0,0),some ((113,2),0,0))]),(647,[]),0)]
set_option maxRecDepth 100000 in
theorem q468_ok : rf_chkB q468_P q468_U wLay q468_M ddX12_image [(3,[0]),(50,[1]),(53,[2])] [] [0] 653 q468_N = true := by decide +kernel
set_option maxHeartbeats 4000000 in
theorem q468_met {G : rfG} (h : okG G) : rf_met G q468_M := rf_methodB h.1 (P := q468_P) (U := q468_U) (N := q468_N) ⟨wflT h flokX12, wcsT h csokX12, wlcT h lcokX12, spokX12 h, List.forall_mem_cons.mpr ⟨q179_met h, List.forall_mem_cons.mpr ⟨q200_met h, List.forall_mem_cons.mpr ⟨q131_met h, fun _ h => absurd h List.not_mem_nil⟩⟩⟩, List.forall_mem_cons.mpr ⟨fun M hM => Option.some.inj (show some q179_M = some M from hM) ▸ wlkS (lkX12_334 h) q179_M rfl rfl, List.forall_mem_cons.mpr ⟨fun M hM => Option.some.inj (show some q131_M = some M from hM) ▸ wlkS (lkX12_356 h) q131_M rfl rfl, fun _ h => absurd h List.not_mem_nil⟩⟩, List.forall_mem_cons.mpr ⟨fun M hM => Option.some.inj (show some q200_M = some M from hM) ▸ wlkV (lkX12_423 h) q200_M rfl rfl, fun _ h => absurd h List.not_mem_nil⟩, fun _ h => absurd h List.not_mem_nil, fun _ h => absurd h List.not_mem_nil⟩ dkX12_image (by decide +kernel) (by rw [h.2.2.1]; exact q468_ok)
/-- NearSpell.Archive.keepBox -/
def q469_M : rfM := ((⟨"NearSpell$Archive", "keepBox", "(ILNearSpell$State;)V"⟩, prog_2_method_10_code, 3, none), (1,18), ([.inr (.inl [16]),.inl ((2,2,0),none),.inr (.inl [13])],[((12,34),(0,0,0),none),((12,35),(0,0,0),none),((12,36),(0,0,0),none),((16,2),(0,0,0),none)]), [(15,0),(16,3)], [(none,[],[((16,2),(0,7,1),none)])])
def q469_P : rfP := (flX0,csX0,lcX0,spX0,[],[],[],([47],[]))
def q469_U : rfU := []
set_option maxHeartbeats 8000000 in
def q469_N : List rfB := [(0,([(0,.inr (.inl [16])),(1,.inl ((2,2,0),none)),(2,.inr (.inl [13]))],[],[((12,34),(0,0,0),some ((12,34),0,0)),((12,35),(0,0,0),some ((12,35),0,0)),((12,36),(0,0,0),some ((12,36),0,0)),((16,2),(0,0,0),some ((16,2),0,0))]),(23,[]),0)]
set_option maxRecDepth 100000 in
theorem q469_ok : rf_chkB q469_P q469_U wLay q469_M ddX0_keepBox [] [] [0] 600 q469_N = true := by decide +kernel
set_option maxHeartbeats 4000000 in
theorem q469_met {G : rfG} (h : okG G) : rf_met G q469_M := rf_methodB h.1 (P := q469_P) (U := q469_U) (N := q469_N) ⟨wflT h flokX0, wcsT h csokX0, wlcT h lcokX0, spokX0 h, fun _ h => absurd h List.not_mem_nil, fun _ h => absurd h List.not_mem_nil, fun _ h => absurd h List.not_mem_nil, List.forall_mem_cons.mpr ⟨⟨wmT h (wm776), wmT h (wm755), wmT h (wm754), wmT h (wm136)⟩, fun _ h => absurd h List.not_mem_nil⟩, fun _ h => absurd h List.not_mem_nil⟩ dkX0_keepBox (by decide +kernel) (by rw [h.2.2.1]; exact q469_ok)
/-- NearSpell.image -/
def q470_M : rfM := ((⟨"NearSpell", "image", "(I)I"⟩, prog_1_method_46_code, 2, (some .int)), (2,40), ([.inr (.inl [70]),.inl ((2,2,0),none)],[((12,34),(0,0,0),none),((12,35),(0,0,0),none),((12,36),(0,0,0),none),((16,2),(0,0,0),none)]), [(15,0),(16,3)], [(some (.inl ((0,0,0),none)),[],[((16,2),(0,7,1),none)])])
def q470_P : rfP := (flX11,csX11,lcX11,spX11,[q469_M,q228_M],[],[(183,1,8),(333,0,0)],([],[]))
def q470_U : rfU := []
set_option maxHeartbeats 8000000 in
def q470_N : List rfB := [(0,([(0,.inr (.inl [70])),(1,.inl ((2,2,0),none))],[],[((12,34),(0,0,0),some ((12,34),0,0)),((12,35),(0,0,0),some ((12,35),0,0)),((12,36),(0,0,0),some ((12,36),0,0)),((16,2),(0,0,0),some ((16,2),0,0))]),(14,[]),0)]
set_option maxRecDepth 100000 in
theorem q470_ok : rf_chkB q470_P q470_U wLay q470_M ddX11_image [(20,[0]),(27,[1])] [] [0] 600 q470_N = true := by decide +kernel
set_option maxHeartbeats 4000000 in
theorem q470_met {G : rfG} (h : okG G) : rf_met G q470_M := rf_methodB h.1 (P := q470_P) (U := q470_U) (N := q470_N) ⟨wflT h flokX11, wcsT h csokX11, wlcT h lcokX11, spokX11 h, List.forall_mem_cons.mpr ⟨q469_met h, List.forall_mem_cons.mpr ⟨q228_met h, fun _ h => absurd h List.not_mem_nil⟩⟩, fun _ h => absurd h List.not_mem_nil, List.forall_mem_cons.mpr ⟨fun M hM => Option.some.inj (show some q228_M = some M from hM) ▸ wlkV (lkX11_183 h) q228_M rfl rfl, List.forall_mem_cons.mpr ⟨fun M hM => Option.some.inj (show some q469_M = some M from hM) ▸ wlkV (lkX11_333 h) q469_M rfl rfl, fun _ h => absurd h List.not_mem_nil⟩⟩, fun _ h => absurd h List.not_mem_nil, fun _ h => absurd h List.not_mem_nil⟩ dkX11_image (by decide +kernel) (by rw [h.2.2.1]; exact q470_ok)
/-- NearSpellModel.image -/
def q471_M : rfM := ((⟨"NearSpellModel", "image", "(I)I"⟩, prog_14_method_125_code, 3, (some .int)), (3,65), ([.inr (.inl [114]),.inl ((2,2,0),none)],[((90,28),(0,0,0),none),((90,29),(0,0,0),none),((90,36),(0,0,0),none),((113,0),(0,0,0),none),((113,1),(0,0,0),none),((113,2),(0,0,0),none)]), [(112,0),(113,0)], [(some (.inl ((0,0,0),none)),[],[((112,102),(0,0,0),some ((90,28),0,0)),((112,103),(0,0,0),some ((90,29),0,0)),((112,110),(0,0,0),some ((90,36),0,0)),((113,0),(0,0,0),some ((113,0),0,0)),((113,1),(0,0,0),some ((113,1),0,0))])])
def q471_P : rfP := (flX12,csX12,lcX12,spX12,[q183_M,q200_M,q131_M],[(334,0),(356,2)],[(423,1,12)],([],[]))
def q471_U : rfU := []
set_option maxHeartbeats 8000000 in
def q471_N : List rfB := [(0,([(0,.inr (.inl [114])),(1,.inl ((2,2,0),none))],[],[((90,28),(0,0,0),some ((90,28),0,0)),((90,29),(0,0,0),some ((90,29),0,0)),((90,36),(0,0,0),some ((90,36),0,0)),((113,0),(0,0,0),some ((113,0),0,0)),((113,1),(0,0,0),some ((113,1),0,0)),((113,2),(0,0,0),some ((113,2),0,0))]),(647,[]),0)]
set_option maxRecDepth 100000 in
theorem q471_ok : rf_chkB q471_P q471_U wLay q471_M ddX12_image [(3,[0]),(50,[1]),(53,[2])] [] [0] 653 q471_N = true := by decide +kernel
set_option maxHeartbeats 4000000 in
theorem q471_met {G : rfG} (h : okG G) : rf_met G q471_M := rf_methodB h.1 (P := q471_P) (U := q471_U) (N := q471_N) ⟨wflT h flokX12, wcsT h csokX12, wlcT h lcokX12, spokX12 h, List.forall_mem_cons.mpr ⟨q183_met h, List.forall_mem_cons.mpr ⟨q200_met h, List.forall_mem_cons.mpr ⟨q131_met h, fun _ h => absurd h List.not_mem_nil⟩⟩⟩, List.forall_mem_cons.mpr ⟨fun M hM => Option.some.inj (show some q183_M = some M from hM) ▸ wlkS (lkX12_334 h) q183_M rfl rfl, List.forall_mem_cons.mpr ⟨fun M hM => Option.some.inj (show some q131_M = some M from hM) ▸ wlkS (lkX12_356 h) q131_M rfl rfl, fun _ h => absurd h List.not_mem_nil⟩⟩, List.forall_mem_cons.mpr ⟨fun M hM => Option.some.inj (show some q200_M = some M from hM) ▸ wlkV (lkX12_423 h) q200_M rfl rfl, fun _ h => absurd h List.not_mem_nil⟩, fun _ h => absurd h List.not_mem_nil, fun _ h => absurd h List.not_mem_nil⟩ dkX12_image (by decide +kernel) (by rw [h.2.2.1]; exact q471_ok)
/-- NearSpell.image -/
def q472_M : rfM := ((⟨"NearSpell", "image", "(I)I"⟩, prog_1_method_46_code, 2, (some .int)), (0,0), ([.inr (.inl [70]),.inl ((3,2147483647,1),none)],[((12,34),(0,0,0),none),((12,35),(0,0,0),none),((12,36),(0,0,0),none),((16,2),(0,0,0),none)]), [], [(some (.inl (((-1),(-1),0),none)),[],[])])
def q472_P : rfP := (flX11,csX11,lcX11,spX11,[],[],[],([],[]))
def q472_U : rfU := []
set_option maxHeartbeats 8000000 in
def q472_N : List rfB := [(0,([(0,.inr (.inl [70])),(1,.inl ((3,2147483647,1),none))],[],[((12,34),(0,0,0),some ((12,34),0,0)),((12,35),(0,0,0),some ((12,35),0,0)),((12,36),(0,0,0),some ((12,36),0,0)),((16,2),(0,0,0),some ((16,2),0,0))]),(6,[]),0)]
set_option maxRecDepth 100000 in
theorem q472_ok : rf_chkB q472_P q472_U wLay q472_M ddX11_image [] [] [0] 600 q472_N = true := by decide +kernel
set_option maxHeartbeats 4000000 in
theorem q472_met {G : rfG} (h : okG G) : rf_met G q472_M := rf_methodB h.1 (P := q472_P) (U := q472_U) (N := q472_N) ⟨wflT h flokX11, wcsT h csokX11, wlcT h lcokX11, spokX11 h, fun _ h => absurd h List.not_mem_nil, fun _ h => absurd h List.not_mem_nil, fun _ h => absurd h List.not_mem_nil, fun _ h => absurd h List.not_mem_nil, fun _ h => absurd h List.not_mem_nil⟩ dkX11_image (by decide +kernel) (by rw [h.2.2.1]; exact q472_ok)
/-- NearSpellModel.image -/
def q473_M : rfM := ((⟨"NearSpellModel", "image", "(I)I"⟩, prog_14_method_125_code, 3, (some .int)), (1,22), ([.inr (.inl [114]),.inl ((3,2147483647,1),none)],[((90,28),(0,0,0),none),((90,29),(0,0,0),none),((90,36),(0,0,0),none),((113,0),(0,0,0),none),((113,1),(0,0,0),none),((113,2),(0,0,0),none)]), [], [(some (.inl (((-1),(-1),0),none)),[],[])])
def q473_P : rfP := (flX12,csX12,lcX12,spX12,[q192_M],[(334,0)],[],([],[]))
def q473_U : rfU := []
set_option maxHeartbeats 8000000 in
def q473_N : List rfB := [(0,([(0,.inr (.inl [114])),(1,.inl ((3,2147483647,1),none))],[],[((90,28),(0,0,0),some ((90,28),0,0)),((90,29),(0,0,0),some ((90,29),0,0)),((90,36),(0,0,0),some ((90,36),0,0)),((113,0),(0,0,0),some ((113,0),0,0)),((113,1),(0,0,0),some ((113,1),0,0)),((113,2),(0,0,0),some ((113,2),0,0))]),(6,[]),0)]
set_option maxRecDepth 100000 in
theorem q473_ok : rf_chkB q473_P q473_U wLay q473_M ddX12_image [(3,[0])] [] [0] 600 q473_N = true := by decide +kernel
set_option maxHeartbeats 4000000 in
theorem q473_met {G : rfG} (h : okG G) : rf_met G q473_M := rf_methodB h.1 (P := q473_P) (U := q473_U) (N := q473_N) ⟨wflT h flokX12, wcsT h csokX12, wlcT h lcokX12, spokX12 h, List.forall_mem_cons.mpr ⟨q192_met h, fun _ h => absurd h List.not_mem_nil⟩, List.forall_mem_cons.mpr ⟨fun M hM => Option.some.inj (show some q192_M = some M from hM) ▸ wlkS (lkX12_334 h) q192_M rfl rfl, fun _ h => absurd h List.not_mem_nil⟩, fun _ h => absurd h List.not_mem_nil, fun _ h => absurd h List.not_mem_nil, fun _ h => absurd h List.not_mem_nil⟩ dkX12_image (by decide +kernel) (by rw [h.2.2.1]; exact q473_ok)
/-- NearSpell.Archive.openBox -/
def q474_M : rfM := ((⟨"NearSpell$Archive", "openBox", "(ILNearSpell$State;)Z"⟩, prog_2_method_11_code, 3, (some .boolean)), (0,0), ([.inr (.inl [16]),.inl (((-2147483648),0,1),none),.inr (.inl [13])],[((12,34),(0,0,0),none),((12,35),(0,0,0),none),((12,36),(0,0,0),none),((16,2),(0,0,0),none)]), [], [(some (.inl ((0,0,0),none)),[],[])])
def ddX0_openBox : List (Nat × Instr × Nat) := [(0,.iload_n 1,1),(1,.ifCond .lt 19,3),(4,.iload_n 1,1),(5,.iconst 3,1),(6,.if_icmp .ge 14,3),(9,.aload_n 0,1),(10,.getfield 20,3),(13,.iload_n 1,1),(14,.ishr,1),(15,.iconst 1,1),(16,.iand,1),(17,.ifCond .ne 5,3),(20,.iconst 0,1),(21,.ireturn,1),(22,.aload_n 0,1),(23,.getfield 17,3),(26,.iload_n 1,1),(27,.bipush 37,2),(29,.imul,1),(30,.aload_n 2,1),(31,.getfield 40,3),(34,.iconst 0,1),(35,.bipush 37,2),(37,.invokestatic 47,3),(40,.iconst 1,1),(41,.ireturn,1)]
set_option maxRecDepth 100000 in
theorem dkX0_openBox : rf_decs prog_2_method_11_code ddX0_openBox := rf_decs_of (by decide +kernel)
def q474_P : rfP := (flX0,csX0,lcX0,spX0,[],[],[],([],[]))
def q474_U : rfU := []
set_option maxHeartbeats 8000000 in
def q474_N : List rfB := [(0,([(0,.inr (.inl [16])),(1,.inl (((-2147483648),0,1),none)),(2,.inr (.inl [13]))],[],[((12,34),(0,0,0),some ((12,34),0,0)),((12,35),(0,0,0),some ((12,35),0,0)),((12,36),(0,0,0),some ((12,36),0,0)),((16,2),(0,0,0),some ((16,2),0,0))]),(13,[]),0)]
set_option maxRecDepth 100000 in
theorem q474_ok : rf_chkB q474_P q474_U wLay q474_M ddX0_openBox [] [] [0] 19 q474_N = true := by decide +kernel
set_option maxHeartbeats 4000000 in
theorem q474_met {G : rfG} (h : okG G) : rf_met G q474_M := rf_methodB h.1 (P := q474_P) (U := q474_U) (N := q474_N) ⟨wflT h flokX0, wcsT h csokX0, wlcT h lcokX0, spokX0 h, fun _ h => absurd h List.not_mem_nil, fun _ h => absurd h List.not_mem_nil, fun _ h => absurd h List.not_mem_nil, fun _ h => absurd h List.not_mem_nil, fun _ h => absurd h List.not_mem_nil⟩ dkX0_openBox (by decide +kernel) (by rw [h.2.2.1]; exact q474_ok)
/-- NearSpell.back -/
def q475_M : rfM := ((⟨"NearSpell", "back", "(I)I"⟩, prog_1_method_47_code, 2, (some .int)), (1,22), ([.inr (.inl [70]),.inl (((-2147483648),(-1),1),none)],[((12,34),(0,0,0),none),((12,35),(0,0,0),none),((12,36),(0,0,0),none),((16,2),(0,0,0),none),((16,3),(0,0,0),none),((16,4),(0,0,0),none)]), [], [(some (.inl (((-1),(-1),0),none)),[],[])])
def ddX11_back : List (Nat × Instr × Nat) := [(0,.aload_n 0,1),(1,.getfield 42,3),(4,.iload_n 1,1),(5,.aload_n 0,1),(6,.getfield 35,3),(9,.invokevirtual 337,3),(12,.ifCond .ne 5,3),(15,.iconst (-1),1),(16,.ireturn,1),(17,.aload_n 0,1),(18,.getfield 42,3),(21,.aload_n 0,1),(22,.getfield 35,3),(25,.invokevirtual 122,3),(28,.aload_n 0,1),(29,.getfield 35,3),(32,.invokevirtual 183,3),(35,.ireturn,1)]
set_option maxRecDepth 100000 in
theorem dkX11_back : rf_decs prog_1_method_47_code ddX11_back := rf_decs_of (by decide +kernel)
def q475_P : rfP := (flX11,csX11,lcX11,spX11,[q474_M],[],[(337,0,0)],([],[]))
def q475_U : rfU := []
set_option maxHeartbeats 8000000 in
def q475_N : List rfB := [(0,([(0,.inr (.inl [70])),(1,.inl (((-2147483648),(-1),1),none))],[],[((12,34),(0,0,0),some ((12,34),0,0)),((12,35),(0,0,0),some ((12,35),0,0)),((12,36),(0,0,0),some ((12,36),0,0)),((16,2),(0,0,0),some ((16,2),0,0)),((16,3),(0,0,0),some ((16,3),0,0)),((16,4),(0,0,0),some ((16,4),0,0))]),(8,[]),0)]
set_option maxRecDepth 100000 in
theorem q475_ok : rf_chkB q475_P q475_U wLay q475_M ddX11_back [(9,[0])] [] [0] 600 q475_N = true := by decide +kernel
set_option maxHeartbeats 4000000 in
theorem q475_met {G : rfG} (h : okG G) : rf_met G q475_M := rf_methodB h.1 (P := q475_P) (U := q475_U) (N := q475_N) ⟨wflT h flokX11, wcsT h csokX11, wlcT h lcokX11, spokX11 h, List.forall_mem_cons.mpr ⟨q474_met h, fun _ h => absurd h List.not_mem_nil⟩, fun _ h => absurd h List.not_mem_nil, List.forall_mem_cons.mpr ⟨fun M hM => Option.some.inj (show some q474_M = some M from hM) ▸ wlkV (lkX11_337 h) q474_M rfl rfl, fun _ h => absurd h List.not_mem_nil⟩, fun _ h => absurd h List.not_mem_nil, fun _ h => absurd h List.not_mem_nil⟩ dkX11_back (by decide +kernel) (by rw [h.2.2.1]; exact q475_ok)
/-- NearSpellModel.back -/
def q476_M : rfM := ((⟨"NearSpellModel", "back", "(I)I"⟩, prog_14_method_126_code, 3, (some .int)), (1,22), ([.inr (.inl [114]),.inl (((-2147483648),(-1),1),none)],[((90,28),(0,0,0),none),((90,29),(0,0,0),none),((90,36),(0,0,0),none),((113,0),(0,0,0),none),((113,1),(0,0,0),none),((113,2),(0,0,0),none)]), [], [(some (.inl (((-1),(-1),0),none)),[],[])])
def ddX12_back : List (Nat × Instr × Nat) := [(0,.iload_n 1,1),(1,.iconst 0,1),(2,.iconst 2,1),(3,.invokestatic 334,3),(6,.ifCond .eq 12,3),(9,.aload_n 0,1),(10,.getfield 141,3),(13,.iload_n 1,1),(14,.baload,1),(15,.ifCond .ne 5,3),(18,.iconst (-1),1),(19,.ireturn,1),(20,.iconst 0,1),(21,.istore_n 2,1),(22,.iload_n 2,1),(23,.bipush 37,2),(25,.if_icmp .ge 26,3),(28,.aload_n 0,1),(29,.getfield 72,3),(32,.iload_n 2,1),(33,.aload_n 0,1),(34,.getfield 138,3),(37,.bipush 37,2),(39,.iload_n 1,1),(40,.imul,1),(41,.iload_n 2,1),(42,.iadd,1),(43,.iaload,1),(44,.iastore,1),(45,.iinc 2 1,3),(48,.goto (-26),3),(51,.aload_n 0,1),(52,.iconst 0,1),(53,.putfield 338,3),(56,.aload_n 0,1),(57,.iconst 0,1),(58,.putfield 341,3),(61,.aload_n 0,1),(62,.invokevirtual 423,3),(65,.invokestatic 356,3),(68,.ireturn,1)]
set_option maxRecDepth 100000 in
theorem dkX12_back : rf_decs prog_14_method_126_code ddX12_back := rf_decs_of (by decide +kernel)
def q476_P : rfP := (flX12,csX12,lcX12,spX12,[q189_M],[(334,0)],[],([],[]))
def q476_U : rfU := []
set_option maxHeartbeats 8000000 in
def q476_N : List rfB := [(0,([(0,.inr (.inl [114])),(1,.inl (((-2147483648),(-1),1),none))],[],[((90,28),(0,0,0),some ((90,28),0,0)),((90,29),(0,0,0),some ((90,29),0,0)),((90,36),(0,0,0),some ((90,36),0,0)),((113,0),(0,0,0),some ((113,0),0,0)),((113,1),(0,0,0),some ((113,1),0,0)),((113,2),(0,0,0),some ((113,2),0,0))]),(6,[]),0)]
set_option maxRecDepth 100000 in
theorem q476_ok : rf_chkB q476_P q476_U wLay q476_M ddX12_back [(3,[0])] [] [0] 600 q476_N = true := by decide +kernel
set_option maxHeartbeats 4000000 in
theorem q476_met {G : rfG} (h : okG G) : rf_met G q476_M := rf_methodB h.1 (P := q476_P) (U := q476_U) (N := q476_N) ⟨wflT h flokX12, wcsT h csokX12, wlcT h lcokX12, spokX12 h, List.forall_mem_cons.mpr ⟨q189_met h, fun _ h => absurd h List.not_mem_nil⟩, List.forall_mem_cons.mpr ⟨fun M hM => Option.some.inj (show some q189_M = some M from hM) ▸ wlkS (lkX12_334 h) q189_M rfl rfl, fun _ h => absurd h List.not_mem_nil⟩, fun _ h => absurd h List.not_mem_nil, fun _ h => absurd h List.not_mem_nil, fun _ h => absurd h List.not_mem_nil⟩ dkX12_back (by decide +kernel) (by rw [h.2.2.1]; exact q476_ok)
/-- NearSpell.Archive.openBox -/
def q477_M : rfM := ((⟨"NearSpell$Archive", "openBox", "(ILNearSpell$State;)Z"⟩, prog_2_method_11_code, 3, (some .boolean)), (0,0), ([.inr (.inl [16]),.inl ((0,0,0),none),.inr (.inl [13])],[((12,34),(0,0,0),none),((12,35),(0,0,0),none),((12,36),(0,0,0),none),((16,2),(0,0,0),none)]), [], [(some (.inl ((0,0,0),none)),[],[])])
def q477_P : rfP := (flX0,csX0,lcX0,spX0,[],[],[],([],[]))
def q477_U : rfU := []
set_option maxHeartbeats 8000000 in
def q477_N : List rfB := [(0,([(0,.inr (.inl [16])),(1,.inl ((0,0,0),none)),(2,.inr (.inl [13]))],[],[((12,34),(0,0,0),some ((12,34),0,0)),((12,35),(0,0,0),some ((12,35),0,0)),((12,36),(0,0,0),some ((12,36),0,0)),((16,2),(0,0,0),some ((16,2),0,0))]),(13,[]),0)]
set_option maxRecDepth 100000 in
theorem q477_ok : rf_chkB q477_P q477_U wLay q477_M ddX0_openBox [] [] [0] 600 q477_N = true := by decide +kernel
set_option maxHeartbeats 4000000 in
theorem q477_met {G : rfG} (h : okG G) : rf_met G q477_M := rf_methodB h.1 (P := q477_P) (U := q477_U) (N := q477_N) ⟨wflT h flokX0, wcsT h csokX0, wlcT h lcokX0, spokX0 h, fun _ h => absurd h List.not_mem_nil, fun _ h => absurd h List.not_mem_nil, fun _ h => absurd h List.not_mem_nil, fun _ h => absurd h List.not_mem_nil, fun _ h => absurd h List.not_mem_nil⟩ dkX0_openBox (by decide +kernel) (by rw [h.2.2.1]; exact q477_ok)
/-- NearSpell.back -/
def q478_M : rfM := ((⟨"NearSpell", "back", "(I)I"⟩, prog_1_method_47_code, 2, (some .int)), (1,22), ([.inr (.inl [70]),.inl ((0,0,0),none)],[((12,34),(0,0,0),none),((12,35),(0,0,0),none),((12,36),(0,0,0),none),((16,2),(0,0,0),none),((16,3),(0,0,0),none),((16,4),(0,0,0),none)]), [], [(some (.inl (((-1),(-1),0),none)),[],[])])
def q478_P : rfP := (flX11,csX11,lcX11,spX11,[q477_M],[],[(337,0,0)],([],[]))
def q478_U : rfU := []
set_option maxHeartbeats 8000000 in
def q478_N : List rfB := [(0,([(0,.inr (.inl [70])),(1,.inl ((0,0,0),none))],[],[((12,34),(0,0,0),some ((12,34),0,0)),((12,35),(0,0,0),some ((12,35),0,0)),((12,36),(0,0,0),some ((12,36),0,0)),((16,2),(0,0,0),some ((16,2),0,0)),((16,3),(0,0,0),some ((16,3),0,0)),((16,4),(0,0,0),some ((16,4),0,0))]),(8,[]),0)]
set_option maxRecDepth 100000 in
theorem q478_ok : rf_chkB q478_P q478_U wLay q478_M ddX11_back [(9,[0])] [] [0] 600 q478_N = true := by decide +kernel
set_option maxHeartbeats 4000000 in
theorem q478_met {G : rfG} (h : okG G) : rf_met G q478_M := rf_methodB h.1 (P := q478_P) (U := q478_U) (N := q478_N) ⟨wflT h flokX11, wcsT h csokX11, wlcT h lcokX11, spokX11 h, List.forall_mem_cons.mpr ⟨q477_met h, fun _ h => absurd h List.not_mem_nil⟩, fun _ h => absurd h List.not_mem_nil, List.forall_mem_cons.mpr ⟨fun M hM => Option.some.inj (show some q477_M = some M from hM) ▸ wlkV (lkX11_337 h) q477_M rfl rfl, fun _ h => absurd h List.not_mem_nil⟩, fun _ h => absurd h List.not_mem_nil, fun _ h => absurd h List.not_mem_nil⟩ dkX11_back (by decide +kernel) (by rw [h.2.2.1]; exact q478_ok)
/-- NearSpellModel.back -/
def q479_M : rfM := ((⟨"NearSpellModel", "back", "(I)I"⟩, prog_14_method_126_code, 3, (some .int)), (1,22), ([.inr (.inl [114]),.inl ((0,0,0),none)],[((90,28),(0,0,0),none),((90,29),(0,0,0),none),((90,36),(0,0,0),none),((113,0),(0,0,0),none),((113,1),(0,0,0),none),((113,2),(0,0,0),none)]), [], [(some (.inl (((-1),(-1),0),none)),[],[])])
def q479_P : rfP := (flX12,csX12,lcX12,spX12,[q173_M],[(334,0)],[],([],[]))
def q479_U : rfU := []
set_option maxHeartbeats 8000000 in
def q479_N : List rfB := [(0,([(0,.inr (.inl [114])),(1,.inl ((0,0,0),none))],[],[((90,28),(0,0,0),some ((90,28),0,0)),((90,29),(0,0,0),some ((90,29),0,0)),((90,36),(0,0,0),some ((90,36),0,0)),((113,0),(0,0,0),some ((113,0),0,0)),((113,1),(0,0,0),some ((113,1),0,0)),((113,2),(0,0,0),some ((113,2),0,0))]),(11,[]),0)]
set_option maxRecDepth 100000 in
theorem q479_ok : rf_chkB q479_P q479_U wLay q479_M ddX12_back [(3,[0])] [] [0] 600 q479_N = true := by decide +kernel
set_option maxHeartbeats 4000000 in
theorem q479_met {G : rfG} (h : okG G) : rf_met G q479_M := rf_methodB h.1 (P := q479_P) (U := q479_U) (N := q479_N) ⟨wflT h flokX12, wcsT h csokX12, wlcT h lcokX12, spokX12 h, List.forall_mem_cons.mpr ⟨q173_met h, fun _ h => absurd h List.not_mem_nil⟩, List.forall_mem_cons.mpr ⟨fun M hM => Option.some.inj (show some q173_M = some M from hM) ▸ wlkS (lkX12_334 h) q173_M rfl rfl, fun _ h => absurd h List.not_mem_nil⟩, fun _ h => absurd h List.not_mem_nil, fun _ h => absurd h List.not_mem_nil, fun _ h => absurd h List.not_mem_nil⟩ dkX12_back (by decide +kernel) (by rw [h.2.2.1]; exact q479_ok)
/-- NearSpell.Archive.openBox -/
def q480_M : rfM := ((⟨"NearSpell$Archive", "openBox", "(ILNearSpell$State;)Z"⟩, prog_2_method_11_code, 3, (some .boolean)), (0,0), ([.inr (.inl [16]),.inl ((1,1,0),none),.inr (.inl [13])],[((12,34),(0,0,0),none),((12,35),(0,0,0),none),((12,36),(0,0,0),none),((16,2),(0,0,0),none)]), [], [(some (.inl ((0,0,0),none)),[],[])])
def q480_P : rfP := (flX0,csX0,lcX0,spX0,[],[],[],([],[]))
def q480_U : rfU := []
set_option maxHeartbeats 8000000 in
def q480_N : List rfB := [(0,([(0,.inr (.inl [16])),(1,.inl ((1,1,0),none)),(2,.inr (.inl [13]))],[],[((12,34),(0,0,0),some ((12,34),0,0)),((12,35),(0,0,0),some ((12,35),0,0)),((12,36),(0,0,0),some ((12,36),0,0)),((16,2),(0,0,0),some ((16,2),0,0))]),(13,[]),0)]
set_option maxRecDepth 100000 in
theorem q480_ok : rf_chkB q480_P q480_U wLay q480_M ddX0_openBox [] [] [0] 600 q480_N = true := by decide +kernel
set_option maxHeartbeats 4000000 in
theorem q480_met {G : rfG} (h : okG G) : rf_met G q480_M := rf_methodB h.1 (P := q480_P) (U := q480_U) (N := q480_N) ⟨wflT h flokX0, wcsT h csokX0, wlcT h lcokX0, spokX0 h, fun _ h => absurd h List.not_mem_nil, fun _ h => absurd h List.not_mem_nil, fun _ h => absurd h List.not_mem_nil, fun _ h => absurd h List.not_mem_nil, fun _ h => absurd h List.not_mem_nil⟩ dkX0_openBox (by decide +kernel) (by rw [h.2.2.1]; exact q480_ok)
/-- NearSpell.back -/
def q481_M : rfM := ((⟨"NearSpell", "back", "(I)I"⟩, prog_1_method_47_code, 2, (some .int)), (1,22), ([.inr (.inl [70]),.inl ((1,1,0),none)],[((12,34),(0,0,0),none),((12,35),(0,0,0),none),((12,36),(0,0,0),none),((16,2),(0,0,0),none),((16,3),(0,0,0),none),((16,4),(0,0,0),none)]), [], [(some (.inl (((-1),(-1),0),none)),[],[])])
def q481_P : rfP := (flX11,csX11,lcX11,spX11,[q480_M],[],[(337,0,0)],([],[]))
def q481_U : rfU := []
set_option maxHeartbeats 8000000 in
def q481_N : List rfB := [(0,([(0,.inr (.inl [70])),(1,.inl ((1,1,0),none))],[],[((12,34),(0,0,0),some ((12,34),0,0)),((12,35),(0,0,0),some ((12,35),0,0)),((12,36),(0,0,0),some ((12,36),0,0)),((16,2),(0,0,0),some ((16,2),0,0)),((16,3),(0,0,0),some ((16,3),0,0)),((16,4),(0,0,0),some ((16,4),0,0))]),(8,[]),0)]
set_option maxRecDepth 100000 in
theorem q481_ok : rf_chkB q481_P q481_U wLay q481_M ddX11_back [(9,[0])] [] [0] 600 q481_N = true := by decide +kernel
set_option maxHeartbeats 4000000 in
theorem q481_met {G : rfG} (h : okG G) : rf_met G q481_M := rf_methodB h.1 (P := q481_P) (U := q481_U) (N := q481_N) ⟨wflT h flokX11, wcsT h csokX11, wlcT h lcokX11, spokX11 h, List.forall_mem_cons.mpr ⟨q480_met h, fun _ h => absurd h List.not_mem_nil⟩, fun _ h => absurd h List.not_mem_nil, List.forall_mem_cons.mpr ⟨fun M hM => Option.some.inj (show some q480_M = some M from hM) ▸ wlkV (lkX11_337 h) q480_M rfl rfl, fun _ h => absurd h List.not_mem_nil⟩, fun _ h => absurd h List.not_mem_nil, fun _ h => absurd h List.not_mem_nil⟩ dkX11_back (by decide +kernel) (by rw [h.2.2.1]; exact q481_ok)
/-- NearSpellModel.back -/
def q482_M : rfM := ((⟨"NearSpellModel", "back", "(I)I"⟩, prog_14_method_126_code, 3, (some .int)), (1,22), ([.inr (.inl [114]),.inl ((1,1,0),none)],[((90,28),(0,0,0),none),((90,29),(0,0,0),none),((90,36),(0,0,0),none),((113,0),(0,0,0),none),((113,1),(0,0,0),none),((113,2),(0,0,0),none)]), [], [(some (.inl (((-1),(-1),0),none)),[],[])])
def q482_P : rfP := (flX12,csX12,lcX12,spX12,[q179_M],[(334,0)],[],([],[]))
def q482_U : rfU := []
set_option maxHeartbeats 8000000 in
def q482_N : List rfB := [(0,([(0,.inr (.inl [114])),(1,.inl ((1,1,0),none))],[],[((90,28),(0,0,0),some ((90,28),0,0)),((90,29),(0,0,0),some ((90,29),0,0)),((90,36),(0,0,0),some ((90,36),0,0)),((113,0),(0,0,0),some ((113,0),0,0)),((113,1),(0,0,0),some ((113,1),0,0)),((113,2),(0,0,0),some ((113,2),0,0))]),(11,[]),0)]
set_option maxRecDepth 100000 in
theorem q482_ok : rf_chkB q482_P q482_U wLay q482_M ddX12_back [(3,[0])] [] [0] 600 q482_N = true := by decide +kernel
set_option maxHeartbeats 4000000 in
theorem q482_met {G : rfG} (h : okG G) : rf_met G q482_M := rf_methodB h.1 (P := q482_P) (U := q482_U) (N := q482_N) ⟨wflT h flokX12, wcsT h csokX12, wlcT h lcokX12, spokX12 h, List.forall_mem_cons.mpr ⟨q179_met h, fun _ h => absurd h List.not_mem_nil⟩, List.forall_mem_cons.mpr ⟨fun M hM => Option.some.inj (show some q179_M = some M from hM) ▸ wlkS (lkX12_334 h) q179_M rfl rfl, fun _ h => absurd h List.not_mem_nil⟩, fun _ h => absurd h List.not_mem_nil, fun _ h => absurd h List.not_mem_nil, fun _ h => absurd h List.not_mem_nil⟩ dkX12_back (by decide +kernel) (by rw [h.2.2.1]; exact q482_ok)
/-- NearSpell.Archive.openBox -/
def q483_M : rfM := ((⟨"NearSpell$Archive", "openBox", "(ILNearSpell$State;)Z"⟩, prog_2_method_11_code, 3, (some .boolean)), (0,0), ([.inr (.inl [16]),.inl ((2,2,0),none),.inr (.inl [13])],[((12,34),(0,0,0),none),((12,35),(0,0,0),none),((12,36),(0,0,0),none),((16,2),(0,0,0),none)]), [], [(some (.inl ((0,0,0),none)),[],[])])
def q483_P : rfP := (flX0,csX0,lcX0,spX0,[],[],[],([],[]))
def q483_U : rfU := []
set_option maxHeartbeats 8000000 in
def q483_N : List rfB := [(0,([(0,.inr (.inl [16])),(1,.inl ((2,2,0),none)),(2,.inr (.inl [13]))],[],[((12,34),(0,0,0),some ((12,34),0,0)),((12,35),(0,0,0),some ((12,35),0,0)),((12,36),(0,0,0),some ((12,36),0,0)),((16,2),(0,0,0),some ((16,2),0,0))]),(13,[]),0)]
set_option maxRecDepth 100000 in
theorem q483_ok : rf_chkB q483_P q483_U wLay q483_M ddX0_openBox [] [] [0] 600 q483_N = true := by decide +kernel
set_option maxHeartbeats 4000000 in
theorem q483_met {G : rfG} (h : okG G) : rf_met G q483_M := rf_methodB h.1 (P := q483_P) (U := q483_U) (N := q483_N) ⟨wflT h flokX0, wcsT h csokX0, wlcT h lcokX0, spokX0 h, fun _ h => absurd h List.not_mem_nil, fun _ h => absurd h List.not_mem_nil, fun _ h => absurd h List.not_mem_nil, fun _ h => absurd h List.not_mem_nil, fun _ h => absurd h List.not_mem_nil⟩ dkX0_openBox (by decide +kernel) (by rw [h.2.2.1]; exact q483_ok)
/-- NearSpell.back -/
def q484_M : rfM := ((⟨"NearSpell", "back", "(I)I"⟩, prog_1_method_47_code, 2, (some .int)), (1,22), ([.inr (.inl [70]),.inl ((2,2,0),none)],[((12,34),(0,0,0),none),((12,35),(0,0,0),none),((12,36),(0,0,0),none),((16,2),(0,0,0),none),((16,3),(0,0,0),none),((16,4),(0,0,0),none)]), [], [(some (.inl (((-1),(-1),0),none)),[],[])])
def q484_P : rfP := (flX11,csX11,lcX11,spX11,[q483_M],[],[(337,0,0)],([],[]))
def q484_U : rfU := []
set_option maxHeartbeats 8000000 in
def q484_N : List rfB := [(0,([(0,.inr (.inl [70])),(1,.inl ((2,2,0),none))],[],[((12,34),(0,0,0),some ((12,34),0,0)),((12,35),(0,0,0),some ((12,35),0,0)),((12,36),(0,0,0),some ((12,36),0,0)),((16,2),(0,0,0),some ((16,2),0,0)),((16,3),(0,0,0),some ((16,3),0,0)),((16,4),(0,0,0),some ((16,4),0,0))]),(8,[]),0)]
set_option maxRecDepth 100000 in
theorem q484_ok : rf_chkB q484_P q484_U wLay q484_M ddX11_back [(9,[0])] [] [0] 600 q484_N = true := by decide +kernel
set_option maxHeartbeats 4000000 in
theorem q484_met {G : rfG} (h : okG G) : rf_met G q484_M := rf_methodB h.1 (P := q484_P) (U := q484_U) (N := q484_N) ⟨wflT h flokX11, wcsT h csokX11, wlcT h lcokX11, spokX11 h, List.forall_mem_cons.mpr ⟨q483_met h, fun _ h => absurd h List.not_mem_nil⟩, fun _ h => absurd h List.not_mem_nil, List.forall_mem_cons.mpr ⟨fun M hM => Option.some.inj (show some q483_M = some M from hM) ▸ wlkV (lkX11_337 h) q483_M rfl rfl, fun _ h => absurd h List.not_mem_nil⟩, fun _ h => absurd h List.not_mem_nil, fun _ h => absurd h List.not_mem_nil⟩ dkX11_back (by decide +kernel) (by rw [h.2.2.1]; exact q484_ok)
/-- NearSpellModel.back -/
def q485_M : rfM := ((⟨"NearSpellModel", "back", "(I)I"⟩, prog_14_method_126_code, 3, (some .int)), (1,22), ([.inr (.inl [114]),.inl ((2,2,0),none)],[((90,28),(0,0,0),none),((90,29),(0,0,0),none),((90,36),(0,0,0),none),((113,0),(0,0,0),none),((113,1),(0,0,0),none),((113,2),(0,0,0),none)]), [], [(some (.inl (((-1),(-1),0),none)),[],[])])
def q485_P : rfP := (flX12,csX12,lcX12,spX12,[q183_M],[(334,0)],[],([],[]))
def q485_U : rfU := []
set_option maxHeartbeats 8000000 in
def q485_N : List rfB := [(0,([(0,.inr (.inl [114])),(1,.inl ((2,2,0),none))],[],[((90,28),(0,0,0),some ((90,28),0,0)),((90,29),(0,0,0),some ((90,29),0,0)),((90,36),(0,0,0),some ((90,36),0,0)),((113,0),(0,0,0),some ((113,0),0,0)),((113,1),(0,0,0),some ((113,1),0,0)),((113,2),(0,0,0),some ((113,2),0,0))]),(11,[]),0)]
set_option maxRecDepth 100000 in
theorem q485_ok : rf_chkB q485_P q485_U wLay q485_M ddX12_back [(3,[0])] [] [0] 600 q485_N = true := by decide +kernel
set_option maxHeartbeats 4000000 in
theorem q485_met {G : rfG} (h : okG G) : rf_met G q485_M := rf_methodB h.1 (P := q485_P) (U := q485_U) (N := q485_N) ⟨wflT h flokX12, wcsT h csokX12, wlcT h lcokX12, spokX12 h, List.forall_mem_cons.mpr ⟨q183_met h, fun _ h => absurd h List.not_mem_nil⟩, List.forall_mem_cons.mpr ⟨fun M hM => Option.some.inj (show some q183_M = some M from hM) ▸ wlkS (lkX12_334 h) q183_M rfl rfl, fun _ h => absurd h List.not_mem_nil⟩, fun _ h => absurd h List.not_mem_nil, fun _ h => absurd h List.not_mem_nil, fun _ h => absurd h List.not_mem_nil⟩ dkX12_back (by decide +kernel) (by rw [h.2.2.1]; exact q485_ok)
/-- NearSpell.Archive.openBox -/
def q486_M : rfM := ((⟨"NearSpell$Archive", "openBox", "(ILNearSpell$State;)Z"⟩, prog_2_method_11_code, 3, (some .boolean)), (0,0), ([.inr (.inl [16]),.inl ((1,2147483647,1),none),.inr (.inl [13])],[((12,34),(0,0,0),none),((12,35),(0,0,0),none),((12,36),(0,0,0),none),((16,2),(0,0,0),none)]), [], [(some (.inl ((0,0,0),none)),[],[])])
def q486_P : rfP := (flX0,csX0,lcX0,spX0,[],[],[],([],[]))
def q486_U : rfU := []
set_option maxHeartbeats 8000000 in
def q486_N : List rfB := [(0,([(0,.inr (.inl [16])),(1,.inl ((1,2147483647,1),none)),(2,.inr (.inl [13]))],[],[((12,34),(0,0,0),some ((12,34),0,0)),((12,35),(0,0,0),some ((12,35),0,0)),((12,36),(0,0,0),some ((12,36),0,0)),((16,2),(0,0,0),some ((16,2),0,0))]),(13,[]),0)]
set_option maxRecDepth 100000 in
theorem q486_ok : rf_chkB q486_P q486_U wLay q486_M ddX0_openBox [] [] [0] 19 q486_N = true := by decide +kernel
set_option maxHeartbeats 4000000 in
theorem q486_met {G : rfG} (h : okG G) : rf_met G q486_M := rf_methodB h.1 (P := q486_P) (U := q486_U) (N := q486_N) ⟨wflT h flokX0, wcsT h csokX0, wlcT h lcokX0, spokX0 h, fun _ h => absurd h List.not_mem_nil, fun _ h => absurd h List.not_mem_nil, fun _ h => absurd h List.not_mem_nil, fun _ h => absurd h List.not_mem_nil, fun _ h => absurd h List.not_mem_nil⟩ dkX0_openBox (by decide +kernel) (by rw [h.2.2.1]; exact q486_ok)
/-- NearSpell.back -/
def q487_M : rfM := ((⟨"NearSpell", "back", "(I)I"⟩, prog_1_method_47_code, 2, (some .int)), (1,22), ([.inr (.inl [70]),.inl ((3,2147483647,1),none)],[((12,34),(0,0,0),none),((12,35),(0,0,0),none),((12,36),(0,0,0),none),((16,2),(0,0,0),none),((16,3),(0,0,0),none),((16,4),(0,0,0),none)]), [], [(some (.inl (((-1),(-1),0),none)),[],[])])
def q487_P : rfP := (flX11,csX11,lcX11,spX11,[q486_M],[],[(337,0,0)],([],[]))
def q487_U : rfU := []
set_option maxHeartbeats 8000000 in
def q487_N : List rfB := [(0,([(0,.inr (.inl [70])),(1,.inl ((3,2147483647,1),none))],[],[((12,34),(0,0,0),some ((12,34),0,0)),((12,35),(0,0,0),some ((12,35),0,0)),((12,36),(0,0,0),some ((12,36),0,0)),((16,2),(0,0,0),some ((16,2),0,0)),((16,3),(0,0,0),some ((16,3),0,0)),((16,4),(0,0,0),some ((16,4),0,0))]),(8,[]),0)]
set_option maxRecDepth 100000 in
theorem q487_ok : rf_chkB q487_P q487_U wLay q487_M ddX11_back [(9,[0])] [] [0] 600 q487_N = true := by decide +kernel
set_option maxHeartbeats 4000000 in
theorem q487_met {G : rfG} (h : okG G) : rf_met G q487_M := rf_methodB h.1 (P := q487_P) (U := q487_U) (N := q487_N) ⟨wflT h flokX11, wcsT h csokX11, wlcT h lcokX11, spokX11 h, List.forall_mem_cons.mpr ⟨q486_met h, fun _ h => absurd h List.not_mem_nil⟩, fun _ h => absurd h List.not_mem_nil, List.forall_mem_cons.mpr ⟨fun M hM => Option.some.inj (show some q486_M = some M from hM) ▸ wlkV (lkX11_337 h) q486_M rfl rfl, fun _ h => absurd h List.not_mem_nil⟩, fun _ h => absurd h List.not_mem_nil, fun _ h => absurd h List.not_mem_nil⟩ dkX11_back (by decide +kernel) (by rw [h.2.2.1]; exact q487_ok)
/-- NearSpellModel.back -/
def q488_M : rfM := ((⟨"NearSpellModel", "back", "(I)I"⟩, prog_14_method_126_code, 3, (some .int)), (1,22), ([.inr (.inl [114]),.inl ((3,2147483647,1),none)],[((90,28),(0,0,0),none),((90,29),(0,0,0),none),((90,36),(0,0,0),none),((113,0),(0,0,0),none),((113,1),(0,0,0),none),((113,2),(0,0,0),none)]), [], [(some (.inl (((-1),(-1),0),none)),[],[])])
def q488_P : rfP := (flX12,csX12,lcX12,spX12,[q192_M],[(334,0)],[],([],[]))
def q488_U : rfU := []
set_option maxHeartbeats 8000000 in
def q488_N : List rfB := [(0,([(0,.inr (.inl [114])),(1,.inl ((3,2147483647,1),none))],[],[((90,28),(0,0,0),some ((90,28),0,0)),((90,29),(0,0,0),some ((90,29),0,0)),((90,36),(0,0,0),some ((90,36),0,0)),((113,0),(0,0,0),some ((113,0),0,0)),((113,1),(0,0,0),some ((113,1),0,0)),((113,2),(0,0,0),some ((113,2),0,0))]),(6,[]),0)]
set_option maxRecDepth 100000 in
theorem q488_ok : rf_chkB q488_P q488_U wLay q488_M ddX12_back [(3,[0])] [] [0] 600 q488_N = true := by decide +kernel
set_option maxHeartbeats 4000000 in
theorem q488_met {G : rfG} (h : okG G) : rf_met G q488_M := rf_methodB h.1 (P := q488_P) (U := q488_U) (N := q488_N) ⟨wflT h flokX12, wcsT h csokX12, wlcT h lcokX12, spokX12 h, List.forall_mem_cons.mpr ⟨q192_met h, fun _ h => absurd h List.not_mem_nil⟩, List.forall_mem_cons.mpr ⟨fun M hM => Option.some.inj (show some q192_M = some M from hM) ▸ wlkS (lkX12_334 h) q192_M rfl rfl, fun _ h => absurd h List.not_mem_nil⟩, fun _ h => absurd h List.not_mem_nil, fun _ h => absurd h List.not_mem_nil, fun _ h => absurd h List.not_mem_nil⟩ dkX12_back (by decide +kernel) (by rw [h.2.2.1]; exact q488_ok)
/-- NearSpell.about -/
def q489_M : rfM := ((⟨"NearSpell", "about", "(I)I"⟩, prog_1_method_48_code, 2, (some .int)), (0,0), ([.inr (.inl [70]),.inl (((-2147483648),(-1),1),none)],[((5,4),(0,0,0),none),((5,5),(4,4,0),none),((5,6),(2,2,0),none),((5,7),(13,13,0),none),((5,8),(0,0,0),none),((5,10),(0,0,0),none),((10,4),(0,0,0),none),((10,5),(4,4,0),none),((10,6),(2,2,0),none),((10,7),(13,13,0),none),((10,8),(0,0,0),none),((10,10),(0,0,0),none),((12,34),(0,0,0),none),((12,35),(0,0,0),none),((12,36),(0,0,0),none),((16,4),(0,0,0),none),((16,5),(0,0,0),none),((68,8),(0,0,0),none),((68,9),(0,0,0),none),((70,1),(0,0,0),none),((70,14),(0,0,0),none)]), [], [(some (.inl (((-1),(-1),0),none)),[],[])])
def ddX11_about : List (Nat × Instr × Nat) := [(0,.iload_n 1,1),(1,.tableswitch 201 0 15 #[79, 87, 95, 103, 111, 119, 127, 135, 143, 151, 159, 167, 175, 180, 188, 193],79),(80,.aload_n 0,1),(81,.getfield 16,3),(84,.getfield 132,3),(87,.ireturn,1),(88,.aload_n 0,1),(89,.getfield 35,3),(92,.invokevirtual 183,3),(95,.ireturn,1),(96,.aload_n 0,1),(97,.getfield 35,3),(100,.invokevirtual 169,3),(103,.ireturn,1),(104,.aload_n 0,1),(105,.getfield 35,3),(108,.invokevirtual 189,3),(111,.ireturn,1),(112,.aload_n 0,1),(113,.getfield 16,3),(116,.getfield 341,3),(119,.ireturn,1),(120,.aload_n 0,1),(121,.getfield 16,3),(124,.getfield 303,3),(127,.ireturn,1),(128,.aload_n 0,1),(129,.getfield 16,3),(132,.getfield 294,3),(135,.ireturn,1),(136,.aload_n 0,1),(137,.getfield 35,3),(140,.invokevirtual 344,3),(143,.ireturn,1),(144,.aload_n 0,1),(145,.getfield 42,3),(148,.getfield 347,3),(151,.ireturn,1),(152,.aload_n 0,1),(153,.getfield 42,3),(156,.getfield 350,3),(159,.ireturn,1),(160,.aload_n 0,1),(161,.getfield 92,3),(164,.getfield 353,3),(167,.ireturn,1),(168,.aload_n 0,1),(169,.getfield 92,3),(172,.getfield 354,3),(175,.ireturn,1),(176,.aload_n 0,1),(177,.getfield 100,3),(180,.ireturn,1),(181,.aload_n 0,1),(182,.getfield 16,3),(185,.getfield 357,3),(188,.ireturn,1),(189,.aload_n 0,1),(190,.getfield 104,3),(193,.ireturn,1),(194,.aload_n 0,1),(195,.getfield 16,3),(198,.getfield 192,3),(201,.ireturn,1),(202,.iconst (-1),1),(203,.ireturn,1)]
set_option maxRecDepth 100000 in
theorem dkX11_about : rf_decs prog_1_method_48_code ddX11_about := rf_decs_of (by decide +kernel)
def q489_P : rfP := (flX11,csX11,lcX11,spX11,[],[],[],([],[]))
def q489_U : rfU := []
set_option maxHeartbeats 8000000 in
def q489_N : List rfB := [(0,([(0,.inr (.inl [70])),(1,.inl (((-2147483648),(-1),1),none))],[],[((5,4),(0,0,0),some ((5,4),0,0)),((5,5),(4,4,0),some ((5,5),0,0)),((5,6),(2,2,0),some ((5,6),0,0)),((5,7),(13,13,0),some ((5,7),0,0)),((5,8),(0,0,0),some ((5,8),0,0)),((5,10),(0,0,0),some ((5,10),0,0)),((10,4),(0,0,0),some ((10,4),0,0)),((10,5),(4,4,0),some ((10,5),0,0)),((10,6),(2,2,0),some ((10,6),0,0)),((10,7),(13,13,0),some ((10,7),0,0)),((10,8),(0,0,0),some ((10,8),0,0)),((10,10),(0,0,0),some ((10,10),0,0)),((12,34),(0,0,0),some ((12,34),0,0)),((12,35),(0,0,0),some ((12,35),0,0)),((12,36),(0,0,0),some ((12,36),0,0)),((16,4),(0,0,0),some ((16,4),0,0)),((16,5),(0,0,0),some ((16,5),0,0)),((68,8),(0,0,0),some ((68,8),0,0)),((68,9),(0,0,0),some ((68,9),0,0)),((70,1),(0,0,0),some ((70,1),0,0)),((70,14),(0,0,0),some ((70,14),0,0))]),(3,[]),0)]
set_option maxRecDepth 100000 in
theorem q489_ok : rf_chkB q489_P q489_U wLay q489_M ddX11_about [] [] [0] 600 q489_N = true := by decide +kernel
set_option maxHeartbeats 4000000 in
theorem q489_met {G : rfG} (h : okG G) : rf_met G q489_M := rf_methodB h.1 (P := q489_P) (U := q489_U) (N := q489_N) ⟨wflT h flokX11, wcsT h csokX11, wlcT h lcokX11, spokX11 h, fun _ h => absurd h List.not_mem_nil, fun _ h => absurd h List.not_mem_nil, fun _ h => absurd h List.not_mem_nil, fun _ h => absurd h List.not_mem_nil, fun _ h => absurd h List.not_mem_nil⟩ dkX11_about (by decide +kernel) (by rw [h.2.2.1]; exact q489_ok)
/-- NearSpellModel.about -/
def q490_M : rfM := ((⟨"NearSpellModel", "about", "(I)I"⟩, prog_14_method_127_code, 2, (some .int)), (0,0), ([.inr (.inl [114]),.inl (((-2147483648),(-1),1),none)],[((73,0),(0,0,0),none),((74,0),(0,0,0),none),((75,0),(4,4,0),none),((76,0),(2,2,0),none),((77,0),(13,13,0),none),((78,0),(0,0,0),none),((90,28),(0,0,0),none),((90,29),(0,0,0),none),((90,36),(0,0,0),none),((114,2),(0,0,0),none),((114,28),(0,0,0),none),((114,48),(0,0,0),none),((114,55),(0,0,0),none),((114,56),(0,0,0),none),((114,63),(0,0,0),none),((114,64),(0,0,0),none)]), [], [(some (.inl (((-1),(-1),0),none)),[],[])])
def ddX12_about : List (Nat × Instr × Nat) := [(0,.iload_n 1,1),(1,.tableswitch 201 0 15 #[79, 89, 97, 105, 113, 123, 133, 143, 151, 156, 161, 166, 171, 176, 186, 191],79),(80,.aload_n 0,1),(81,.getfield 20,3),(84,.aload_n 0,1),(85,.getfield 242,3),(88,.iaload,1),(89,.ireturn,1),(90,.aload_n 0,1),(91,.invokevirtual 423,3),(94,.invokestatic 356,3),(97,.ireturn,1),(98,.aload_n 0,1),(99,.getfield 72,3),(102,.bipush 28,2),(104,.iaload,1),(105,.ireturn,1),(106,.aload_n 0,1),(107,.getfield 72,3),(110,.bipush 29,2),(112,.iaload,1),(113,.ireturn,1),(114,.aload_n 0,1),(115,.getfield 27,3),(118,.aload_n 0,1),(119,.getfield 242,3),(122,.iaload,1),(123,.ireturn,1),(124,.aload_n 0,1),(125,.getfield 30,3),(128,.aload_n 0,1),(129,.getfield 242,3),(132,.iaload,1),(133,.ireturn,1),(134,.aload_n 0,1),(135,.getfield 33,3),(138,.aload_n 0,1),(139,.getfield 242,3),(142,.iaload,1),(143,.ireturn,1),(144,.aload_n 0,1),(145,.getfield 72,3),(148,.bipush 36,2),(150,.iaload,1),(151,.ireturn,1),(152,.aload_n 0,1),(153,.getfield 338,3),(156,.ireturn,1),(157,.aload_n 0,1),(158,.getfield 341,3),(161,.ireturn,1),(162,.aload_n 0,1),(163,.getfield 344,3),(166,.ireturn,1),(167,.aload_n 0,1),(168,.getfield 483,3),(171,.ireturn,1),(172,.aload_n 0,1),(173,.getfield 239,3),(176,.ireturn,1),(177,.aload_n 0,1),(178,.getfield 24,3),(181,.aload_n 0,1),(182,.getfield 242,3),(185,.iaload,1),(186,.ireturn,1),(187,.aload_n 0,1),(188,.getfield 347,3),(191,.ireturn,1),(192,.aload_n 0,1),(193,.getfield 36,3),(196,.aload_n 0,1),(197,.getfield 242,3),(200,.iaload,1),(201,.ireturn,1),(202,.iconst (-1),1),(203,.ireturn,1)]
set_option maxRecDepth 100000 in
theorem dkX12_about : rf_decs prog_14_method_127_code ddX12_about := rf_decs_of (by decide +kernel)
def q490_P : rfP := (flX12,csX12,lcX12,spX12,[],[],[],([],[]))
def q490_U : rfU := []
set_option maxHeartbeats 8000000 in
def q490_N : List rfB := [(0,([(0,.inr (.inl [114])),(1,.inl (((-2147483648),(-1),1),none))],[],[((73,0),(0,0,0),some ((73,0),0,0)),((74,0),(0,0,0),some ((74,0),0,0)),((75,0),(4,4,0),some ((75,0),0,0)),((76,0),(2,2,0),some ((76,0),0,0)),((77,0),(13,13,0),some ((77,0),0,0)),((78,0),(0,0,0),some ((78,0),0,0)),((90,28),(0,0,0),some ((90,28),0,0)),((90,29),(0,0,0),some ((90,29),0,0)),((90,36),(0,0,0),some ((90,36),0,0)),((114,2),(0,0,0),some ((114,2),0,0)),((114,28),(0,0,0),some ((114,28),0,0)),((114,48),(0,0,0),some ((114,48),0,0)),((114,55),(0,0,0),some ((114,55),0,0)),((114,56),(0,0,0),some ((114,56),0,0)),((114,63),(0,0,0),some ((114,63),0,0)),((114,64),(0,0,0),some ((114,64),0,0))]),(3,[]),0)]
set_option maxRecDepth 100000 in
theorem q490_ok : rf_chkB q490_P q490_U wLay q490_M ddX12_about [] [] [0] 600 q490_N = true := by decide +kernel
set_option maxHeartbeats 4000000 in
theorem q490_met {G : rfG} (h : okG G) : rf_met G q490_M := rf_methodB h.1 (P := q490_P) (U := q490_U) (N := q490_N) ⟨wflT h flokX12, wcsT h csokX12, wlcT h lcokX12, spokX12 h, fun _ h => absurd h List.not_mem_nil, fun _ h => absurd h List.not_mem_nil, fun _ h => absurd h List.not_mem_nil, fun _ h => absurd h List.not_mem_nil, fun _ h => absurd h List.not_mem_nil⟩ dkX12_about (by decide +kernel) (by rw [h.2.2.1]; exact q490_ok)
/-- NearSpell.about -/
def q491_M : rfM := ((⟨"NearSpell", "about", "(I)I"⟩, prog_1_method_48_code, 2, (some .int)), (0,0), ([.inr (.inl [70]),.inl ((0,0,0),none)],[((5,4),(0,0,0),none),((5,5),(4,4,0),none),((5,6),(2,2,0),none),((5,7),(13,13,0),none),((5,8),(0,0,0),none),((5,10),(0,0,0),none),((10,4),(0,0,0),none),((10,5),(4,4,0),none),((10,6),(2,2,0),none),((10,7),(13,13,0),none),((10,8),(0,0,0),none),((10,10),(0,0,0),none),((12,34),(0,0,0),none),((12,35),(0,0,0),none),((12,36),(0,0,0),none),((16,4),(0,0,0),none),((16,5),(0,0,0),none),((68,8),(0,0,0),none),((68,9),(0,0,0),none),((70,1),(0,0,0),none),((70,14),(0,0,0),none)]), [], [(some (.inl ((0,0,0),none)),[],[])])
def q491_P : rfP := (flX11,csX11,lcX11,spX11,[],[],[],([],[]))
def q491_U : rfU := []
set_option maxHeartbeats 8000000 in
def q491_N : List rfB := [(0,([(0,.inr (.inl [70])),(1,.inl ((0,0,0),none))],[],[((5,4),(0,0,0),some ((5,4),0,0)),((5,5),(4,4,0),some ((5,5),0,0)),((5,6),(2,2,0),some ((5,6),0,0)),((5,7),(13,13,0),some ((5,7),0,0)),((5,8),(0,0,0),some ((5,8),0,0)),((5,10),(0,0,0),some ((5,10),0,0)),((10,4),(0,0,0),some ((10,4),0,0)),((10,5),(4,4,0),some ((10,5),0,0)),((10,6),(2,2,0),some ((10,6),0,0)),((10,7),(13,13,0),some ((10,7),0,0)),((10,8),(0,0,0),some ((10,8),0,0)),((10,10),(0,0,0),some ((10,10),0,0)),((12,34),(0,0,0),some ((12,34),0,0)),((12,35),(0,0,0),some ((12,35),0,0)),((12,36),(0,0,0),some ((12,36),0,0)),((16,4),(0,0,0),some ((16,4),0,0)),((16,5),(0,0,0),some ((16,5),0,0)),((68,8),(0,0,0),some ((68,8),0,0)),((68,9),(0,0,0),some ((68,9),0,0)),((70,1),(0,0,0),some ((70,1),0,0)),((70,14),(0,0,0),some ((70,14),0,0))]),(5,[]),0)]
set_option maxRecDepth 100000 in
theorem q491_ok : rf_chkB q491_P q491_U wLay q491_M ddX11_about [] [] [0] 600 q491_N = true := by decide +kernel
set_option maxHeartbeats 4000000 in
theorem q491_met {G : rfG} (h : okG G) : rf_met G q491_M := rf_methodB h.1 (P := q491_P) (U := q491_U) (N := q491_N) ⟨wflT h flokX11, wcsT h csokX11, wlcT h lcokX11, spokX11 h, fun _ h => absurd h List.not_mem_nil, fun _ h => absurd h List.not_mem_nil, fun _ h => absurd h List.not_mem_nil, fun _ h => absurd h List.not_mem_nil, fun _ h => absurd h List.not_mem_nil⟩ dkX11_about (by decide +kernel) (by rw [h.2.2.1]; exact q491_ok)
/-- NearSpellModel.about -/
def q492_M : rfM := ((⟨"NearSpellModel", "about", "(I)I"⟩, prog_14_method_127_code, 2, (some .int)), (0,0), ([.inr (.inl [114]),.inl ((0,0,0),none)],[((73,0),(0,0,0),none),((74,0),(0,0,0),none),((75,0),(4,4,0),none),((76,0),(2,2,0),none),((77,0),(13,13,0),none),((78,0),(0,0,0),none),((90,28),(0,0,0),none),((90,29),(0,0,0),none),((90,36),(0,0,0),none),((114,2),(0,0,0),none),((114,28),(0,0,0),none),((114,48),(0,0,0),none),((114,55),(0,0,0),none),((114,56),(0,0,0),none),((114,63),(0,0,0),none),((114,64),(0,0,0),none)]), [], [(some (.inl ((0,0,0),none)),[],[])])
def q492_P : rfP := (flX12,csX12,lcX12,spX12,[],[],[],([],[]))
def q492_U : rfU := []
set_option maxHeartbeats 8000000 in
def q492_N : List rfB := [(0,([(0,.inr (.inl [114])),(1,.inl ((0,0,0),none))],[],[((73,0),(0,0,0),some ((73,0),0,0)),((74,0),(0,0,0),some ((74,0),0,0)),((75,0),(4,4,0),some ((75,0),0,0)),((76,0),(2,2,0),some ((76,0),0,0)),((77,0),(13,13,0),some ((77,0),0,0)),((78,0),(0,0,0),some ((78,0),0,0)),((90,28),(0,0,0),some ((90,28),0,0)),((90,29),(0,0,0),some ((90,29),0,0)),((90,36),(0,0,0),some ((90,36),0,0)),((114,2),(0,0,0),some ((114,2),0,0)),((114,28),(0,0,0),some ((114,28),0,0)),((114,48),(0,0,0),some ((114,48),0,0)),((114,55),(0,0,0),some ((114,55),0,0)),((114,56),(0,0,0),some ((114,56),0,0)),((114,63),(0,0,0),some ((114,63),0,0)),((114,64),(0,0,0),some ((114,64),0,0))]),(7,[]),0)]
set_option maxRecDepth 100000 in
theorem q492_ok : rf_chkB q492_P q492_U wLay q492_M ddX12_about [] [] [0] 600 q492_N = true := by decide +kernel
set_option maxHeartbeats 4000000 in
theorem q492_met {G : rfG} (h : okG G) : rf_met G q492_M := rf_methodB h.1 (P := q492_P) (U := q492_U) (N := q492_N) ⟨wflT h flokX12, wcsT h csokX12, wlcT h lcokX12, spokX12 h, fun _ h => absurd h List.not_mem_nil, fun _ h => absurd h List.not_mem_nil, fun _ h => absurd h List.not_mem_nil, fun _ h => absurd h List.not_mem_nil, fun _ h => absurd h List.not_mem_nil⟩ dkX12_about (by decide +kernel) (by rw [h.2.2.1]; exact q492_ok)
/-- NearSpell.about -/
def q493_M : rfM := ((⟨"NearSpell", "about", "(I)I"⟩, prog_1_method_48_code, 2, (some .int)), (1,22), ([.inr (.inl [70]),.inl ((1,1,0),none)],[((5,4),(0,0,0),none),((5,5),(4,4,0),none),((5,6),(2,2,0),none),((5,7),(13,13,0),none),((5,8),(0,0,0),none),((5,10),(0,0,0),none),((10,4),(0,0,0),none),((10,5),(4,4,0),none),((10,6),(2,2,0),none),((10,7),(13,13,0),none),((10,8),(0,0,0),none),((10,10),(0,0,0),none),((12,34),(0,0,0),none),((12,35),(0,0,0),none),((12,36),(0,0,0),none),((16,4),(0,0,0),none),((16,5),(0,0,0),none),((68,8),(0,0,0),none),((68,9),(0,0,0),none),((70,1),(0,0,0),none),((70,14),(0,0,0),none)]), [], [(some (.inl ((0,0,0),none)),[],[])])
def q493_P : rfP := (flX11,csX11,lcX11,spX11,[q228_M],[],[(183,0,8)],([],[]))
def q493_U : rfU := []
set_option maxHeartbeats 8000000 in
def q493_N : List rfB := [(0,([(0,.inr (.inl [70])),(1,.inl ((1,1,0),none))],[],[((5,4),(0,0,0),some ((5,4),0,0)),((5,5),(4,4,0),some ((5,5),0,0)),((5,6),(2,2,0),some ((5,6),0,0)),((5,7),(13,13,0),some ((5,7),0,0)),((5,8),(0,0,0),some ((5,8),0,0)),((5,10),(0,0,0),some ((5,10),0,0)),((10,4),(0,0,0),some ((10,4),0,0)),((10,5),(4,4,0),some ((10,5),0,0)),((10,6),(2,2,0),some ((10,6),0,0)),((10,7),(13,13,0),some ((10,7),0,0)),((10,8),(0,0,0),some ((10,8),0,0)),((10,10),(0,0,0),some ((10,10),0,0)),((12,34),(0,0,0),some ((12,34),0,0)),((12,35),(0,0,0),some ((12,35),0,0)),((12,36),(0,0,0),some ((12,36),0,0)),((16,4),(0,0,0),some ((16,4),0,0)),((16,5),(0,0,0),some ((16,5),0,0)),((68,8),(0,0,0),some ((68,8),0,0)),((68,9),(0,0,0),some ((68,9),0,0)),((70,1),(0,0,0),some ((70,1),0,0)),((70,14),(0,0,0),some ((70,14),0,0))]),(5,[]),0)]
set_option maxRecDepth 100000 in
theorem q493_ok : rf_chkB q493_P q493_U wLay q493_M ddX11_about [(92,[0])] [] [0] 600 q493_N = true := by decide +kernel
set_option maxHeartbeats 4000000 in
theorem q493_met {G : rfG} (h : okG G) : rf_met G q493_M := rf_methodB h.1 (P := q493_P) (U := q493_U) (N := q493_N) ⟨wflT h flokX11, wcsT h csokX11, wlcT h lcokX11, spokX11 h, List.forall_mem_cons.mpr ⟨q228_met h, fun _ h => absurd h List.not_mem_nil⟩, fun _ h => absurd h List.not_mem_nil, List.forall_mem_cons.mpr ⟨fun M hM => Option.some.inj (show some q228_M = some M from hM) ▸ wlkV (lkX11_183 h) q228_M rfl rfl, fun _ h => absurd h List.not_mem_nil⟩, fun _ h => absurd h List.not_mem_nil, fun _ h => absurd h List.not_mem_nil⟩ dkX11_about (by decide +kernel) (by rw [h.2.2.1]; exact q493_ok)
/-- NearSpellModel.about -/
def q494_M : rfM := ((⟨"NearSpellModel", "about", "(I)I"⟩, prog_14_method_127_code, 2, (some .int)), (3,65), ([.inr (.inl [114]),.inl ((1,1,0),none)],[((73,0),(0,0,0),none),((74,0),(0,0,0),none),((75,0),(4,4,0),none),((76,0),(2,2,0),none),((77,0),(13,13,0),none),((78,0),(0,0,0),none),((90,28),(0,0,0),none),((90,29),(0,0,0),none),((90,36),(0,0,0),none),((114,2),(0,0,0),none),((114,28),(0,0,0),none),((114,48),(0,0,0),none),((114,55),(0,0,0),none),((114,56),(0,0,0),none),((114,63),(0,0,0),none),((114,64),(0,0,0),none)]), [], [(some (.inl ((0,0,0),none)),[],[])])
def q494_P : rfP := (flX12,csX12,lcX12,spX12,[q200_M,q131_M],[(356,1)],[(423,0,12)],([],[]))
def q494_U : rfU := []
set_option maxHeartbeats 8000000 in
def q494_N : List rfB := [(0,([(0,.inr (.inl [114])),(1,.inl ((1,1,0),none))],[],[((73,0),(0,0,0),some ((73,0),0,0)),((74,0),(0,0,0),some ((74,0),0,0)),((75,0),(4,4,0),some ((75,0),0,0)),((76,0),(2,2,0),some ((76,0),0,0)),((77,0),(13,13,0),some ((77,0),0,0)),((78,0),(0,0,0),some ((78,0),0,0)),((90,28),(0,0,0),some ((90,28),0,0)),((90,29),(0,0,0),some ((90,29),0,0)),((90,36),(0,0,0),some ((90,36),0,0)),((114,2),(0,0,0),some ((114,2),0,0)),((114,28),(0,0,0),some ((114,28),0,0)),((114,48),(0,0,0),some ((114,48),0,0)),((114,55),(0,0,0),some ((114,55),0,0)),((114,56),(0,0,0),some ((114,56),0,0)),((114,63),(0,0,0),some ((114,63),0,0)),((114,64),(0,0,0),some ((114,64),0,0))]),(5,[]),0)]
set_option maxRecDepth 100000 in
theorem q494_ok : rf_chkB q494_P q494_U wLay q494_M ddX12_about [(91,[0]),(94,[1])] [] [0] 600 q494_N = true := by decide +kernel
set_option maxHeartbeats 4000000 in
theorem q494_met {G : rfG} (h : okG G) : rf_met G q494_M := rf_methodB h.1 (P := q494_P) (U := q494_U) (N := q494_N) ⟨wflT h flokX12, wcsT h csokX12, wlcT h lcokX12, spokX12 h, List.forall_mem_cons.mpr ⟨q200_met h, List.forall_mem_cons.mpr ⟨q131_met h, fun _ h => absurd h List.not_mem_nil⟩⟩, List.forall_mem_cons.mpr ⟨fun M hM => Option.some.inj (show some q131_M = some M from hM) ▸ wlkS (lkX12_356 h) q131_M rfl rfl, fun _ h => absurd h List.not_mem_nil⟩, List.forall_mem_cons.mpr ⟨fun M hM => Option.some.inj (show some q200_M = some M from hM) ▸ wlkV (lkX12_423 h) q200_M rfl rfl, fun _ h => absurd h List.not_mem_nil⟩, fun _ h => absurd h List.not_mem_nil, fun _ h => absurd h List.not_mem_nil⟩ dkX12_about (by decide +kernel) (by rw [h.2.2.1]; exact q494_ok)
/-- NearSpell.about -/
def q495_M : rfM := ((⟨"NearSpell", "about", "(I)I"⟩, prog_1_method_48_code, 2, (some .int)), (1,20), ([.inr (.inl [70]),.inl ((2,2,0),none)],[((5,4),(0,0,0),none),((5,5),(4,4,0),none),((5,6),(2,2,0),none),((5,7),(13,13,0),none),((5,8),(0,0,0),none),((5,10),(0,0,0),none),((10,4),(0,0,0),none),((10,5),(4,4,0),none),((10,6),(2,2,0),none),((10,7),(13,13,0),none),((10,8),(0,0,0),none),((10,10),(0,0,0),none),((12,34),(0,0,0),none),((12,35),(0,0,0),none),((12,36),(0,0,0),none),((16,4),(0,0,0),none),((16,5),(0,0,0),none),((68,8),(0,0,0),none),((68,9),(0,0,0),none),((70,1),(0,0,0),none),((70,14),(0,0,0),none)]), [], [(some (.inl ((0,0,0),none)),[],[])])
def q495_P : rfP := (flX11,csX11,lcX11,spX11,[q46_M],[],[(169,0,8)],([],[]))
def q495_U : rfU := []
set_option maxHeartbeats 8000000 in
def q495_N : List rfB := [(0,([(0,.inr (.inl [70])),(1,.inl ((2,2,0),none))],[],[((5,4),(0,0,0),some ((5,4),0,0)),((5,5),(4,4,0),some ((5,5),0,0)),((5,6),(2,2,0),some ((5,6),0,0)),((5,7),(13,13,0),some ((5,7),0,0)),((5,8),(0,0,0),some ((5,8),0,0)),((5,10),(0,0,0),some ((5,10),0,0)),((10,4),(0,0,0),some ((10,4),0,0)),((10,5),(4,4,0),some ((10,5),0,0)),((10,6),(2,2,0),some ((10,6),0,0)),((10,7),(13,13,0),some ((10,7),0,0)),((10,8),(0,0,0),some ((10,8),0,0)),((10,10),(0,0,0),some ((10,10),0,0)),((12,34),(0,0,0),some ((12,34),0,0)),((12,35),(0,0,0),some ((12,35),0,0)),((12,36),(0,0,0),some ((12,36),0,0)),((16,4),(0,0,0),some ((16,4),0,0)),((16,5),(0,0,0),some ((16,5),0,0)),((68,8),(0,0,0),some ((68,8),0,0)),((68,9),(0,0,0),some ((68,9),0,0)),((70,1),(0,0,0),some ((70,1),0,0)),((70,14),(0,0,0),some ((70,14),0,0))]),(5,[]),0)]
set_option maxRecDepth 100000 in
theorem q495_ok : rf_chkB q495_P q495_U wLay q495_M ddX11_about [(100,[0])] [] [0] 600 q495_N = true := by decide +kernel
set_option maxHeartbeats 4000000 in
theorem q495_met {G : rfG} (h : okG G) : rf_met G q495_M := rf_methodB h.1 (P := q495_P) (U := q495_U) (N := q495_N) ⟨wflT h flokX11, wcsT h csokX11, wlcT h lcokX11, spokX11 h, List.forall_mem_cons.mpr ⟨q46_met h, fun _ h => absurd h List.not_mem_nil⟩, fun _ h => absurd h List.not_mem_nil, List.forall_mem_cons.mpr ⟨fun M hM => Option.some.inj (show some q46_M = some M from hM) ▸ wlkV (lkX11_169 h) q46_M rfl rfl, fun _ h => absurd h List.not_mem_nil⟩, fun _ h => absurd h List.not_mem_nil, fun _ h => absurd h List.not_mem_nil⟩ dkX11_about (by decide +kernel) (by rw [h.2.2.1]; exact q495_ok)
/-- NearSpellModel.about -/
def q496_M : rfM := ((⟨"NearSpellModel", "about", "(I)I"⟩, prog_14_method_127_code, 2, (some .int)), (0,0), ([.inr (.inl [114]),.inl ((2,2,0),none)],[((73,0),(0,0,0),none),((74,0),(0,0,0),none),((75,0),(4,4,0),none),((76,0),(2,2,0),none),((77,0),(13,13,0),none),((78,0),(0,0,0),none),((90,28),(0,0,0),none),((90,29),(0,0,0),none),((90,36),(0,0,0),none),((114,2),(0,0,0),none),((114,28),(0,0,0),none),((114,48),(0,0,0),none),((114,55),(0,0,0),none),((114,56),(0,0,0),none),((114,63),(0,0,0),none),((114,64),(0,0,0),none)]), [], [(some (.inl ((0,0,0),none)),[],[])])
def q496_P : rfP := (flX12,csX12,lcX12,spX12,[],[],[],([],[]))
def q496_U : rfU := []
set_option maxHeartbeats 8000000 in
def q496_N : List rfB := [(0,([(0,.inr (.inl [114])),(1,.inl ((2,2,0),none))],[],[((73,0),(0,0,0),some ((73,0),0,0)),((74,0),(0,0,0),some ((74,0),0,0)),((75,0),(4,4,0),some ((75,0),0,0)),((76,0),(2,2,0),some ((76,0),0,0)),((77,0),(13,13,0),some ((77,0),0,0)),((78,0),(0,0,0),some ((78,0),0,0)),((90,28),(0,0,0),some ((90,28),0,0)),((90,29),(0,0,0),some ((90,29),0,0)),((90,36),(0,0,0),some ((90,36),0,0)),((114,2),(0,0,0),some ((114,2),0,0)),((114,28),(0,0,0),some ((114,28),0,0)),((114,48),(0,0,0),some ((114,48),0,0)),((114,55),(0,0,0),some ((114,55),0,0)),((114,56),(0,0,0),some ((114,56),0,0)),((114,63),(0,0,0),some ((114,63),0,0)),((114,64),(0,0,0),some ((114,64),0,0))]),(6,[]),0)]
set_option maxRecDepth 100000 in
theorem q496_ok : rf_chkB q496_P q496_U wLay q496_M ddX12_about [] [] [0] 600 q496_N = true := by decide +kernel
set_option maxHeartbeats 4000000 in
theorem q496_met {G : rfG} (h : okG G) : rf_met G q496_M := rf_methodB h.1 (P := q496_P) (U := q496_U) (N := q496_N) ⟨wflT h flokX12, wcsT h csokX12, wlcT h lcokX12, spokX12 h, fun _ h => absurd h List.not_mem_nil, fun _ h => absurd h List.not_mem_nil, fun _ h => absurd h List.not_mem_nil, fun _ h => absurd h List.not_mem_nil, fun _ h => absurd h List.not_mem_nil⟩ dkX12_about (by decide +kernel) (by rw [h.2.2.1]; exact q496_ok)
/-- NearSpell.about -/
def q497_M : rfM := ((⟨"NearSpell", "about", "(I)I"⟩, prog_1_method_48_code, 2, (some .int)), (1,20), ([.inr (.inl [70]),.inl ((3,3,0),none)],[((5,4),(0,0,0),none),((5,5),(4,4,0),none),((5,6),(2,2,0),none),((5,7),(13,13,0),none),((5,8),(0,0,0),none),((5,10),(0,0,0),none),((10,4),(0,0,0),none),((10,5),(4,4,0),none),((10,6),(2,2,0),none),((10,7),(13,13,0),none),((10,8),(0,0,0),none),((10,10),(0,0,0),none),((12,34),(0,0,0),none),((12,35),(0,0,0),none),((12,36),(0,0,0),none),((16,4),(0,0,0),none),((16,5),(0,0,0),none),((68,8),(0,0,0),none),((68,9),(0,0,0),none),((70,1),(0,0,0),none),((70,14),(0,0,0),none)]), [], [(some (.inl ((0,0,0),none)),[],[])])
def q497_P : rfP := (flX11,csX11,lcX11,spX11,[q87_M],[],[(189,0,8)],([],[]))
def q497_U : rfU := []
set_option maxHeartbeats 8000000 in
def q497_N : List rfB := [(0,([(0,.inr (.inl [70])),(1,.inl ((3,3,0),none))],[],[((5,4),(0,0,0),some ((5,4),0,0)),((5,5),(4,4,0),some ((5,5),0,0)),((5,6),(2,2,0),some ((5,6),0,0)),((5,7),(13,13,0),some ((5,7),0,0)),((5,8),(0,0,0),some ((5,8),0,0)),((5,10),(0,0,0),some ((5,10),0,0)),((10,4),(0,0,0),some ((10,4),0,0)),((10,5),(4,4,0),some ((10,5),0,0)),((10,6),(2,2,0),some ((10,6),0,0)),((10,7),(13,13,0),some ((10,7),0,0)),((10,8),(0,0,0),some ((10,8),0,0)),((10,10),(0,0,0),some ((10,10),0,0)),((12,34),(0,0,0),some ((12,34),0,0)),((12,35),(0,0,0),some ((12,35),0,0)),((12,36),(0,0,0),some ((12,36),0,0)),((16,4),(0,0,0),some ((16,4),0,0)),((16,5),(0,0,0),some ((16,5),0,0)),((68,8),(0,0,0),some ((68,8),0,0)),((68,9),(0,0,0),some ((68,9),0,0)),((70,1),(0,0,0),some ((70,1),0,0)),((70,14),(0,0,0),some ((70,14),0,0))]),(5,[]),0)]
set_option maxRecDepth 100000 in
theorem q497_ok : rf_chkB q497_P q497_U wLay q497_M ddX11_about [(108,[0])] [] [0] 600 q497_N = true := by decide +kernel
set_option maxHeartbeats 4000000 in
theorem q497_met {G : rfG} (h : okG G) : rf_met G q497_M := rf_methodB h.1 (P := q497_P) (U := q497_U) (N := q497_N) ⟨wflT h flokX11, wcsT h csokX11, wlcT h lcokX11, spokX11 h, List.forall_mem_cons.mpr ⟨q87_met h, fun _ h => absurd h List.not_mem_nil⟩, fun _ h => absurd h List.not_mem_nil, List.forall_mem_cons.mpr ⟨fun M hM => Option.some.inj (show some q87_M = some M from hM) ▸ wlkV (lkX11_189 h) q87_M rfl rfl, fun _ h => absurd h List.not_mem_nil⟩, fun _ h => absurd h List.not_mem_nil, fun _ h => absurd h List.not_mem_nil⟩ dkX11_about (by decide +kernel) (by rw [h.2.2.1]; exact q497_ok)
/-- NearSpellModel.about -/
def q498_M : rfM := ((⟨"NearSpellModel", "about", "(I)I"⟩, prog_14_method_127_code, 2, (some .int)), (0,0), ([.inr (.inl [114]),.inl ((3,3,0),none)],[((73,0),(0,0,0),none),((74,0),(0,0,0),none),((75,0),(4,4,0),none),((76,0),(2,2,0),none),((77,0),(13,13,0),none),((78,0),(0,0,0),none),((90,28),(0,0,0),none),((90,29),(0,0,0),none),((90,36),(0,0,0),none),((114,2),(0,0,0),none),((114,28),(0,0,0),none),((114,48),(0,0,0),none),((114,55),(0,0,0),none),((114,56),(0,0,0),none),((114,63),(0,0,0),none),((114,64),(0,0,0),none)]), [], [(some (.inl ((0,0,0),none)),[],[])])
def q498_P : rfP := (flX12,csX12,lcX12,spX12,[],[],[],([],[]))
def q498_U : rfU := []
set_option maxHeartbeats 8000000 in
def q498_N : List rfB := [(0,([(0,.inr (.inl [114])),(1,.inl ((3,3,0),none))],[],[((73,0),(0,0,0),some ((73,0),0,0)),((74,0),(0,0,0),some ((74,0),0,0)),((75,0),(4,4,0),some ((75,0),0,0)),((76,0),(2,2,0),some ((76,0),0,0)),((77,0),(13,13,0),some ((77,0),0,0)),((78,0),(0,0,0),some ((78,0),0,0)),((90,28),(0,0,0),some ((90,28),0,0)),((90,29),(0,0,0),some ((90,29),0,0)),((90,36),(0,0,0),some ((90,36),0,0)),((114,2),(0,0,0),some ((114,2),0,0)),((114,28),(0,0,0),some ((114,28),0,0)),((114,48),(0,0,0),some ((114,48),0,0)),((114,55),(0,0,0),some ((114,55),0,0)),((114,56),(0,0,0),some ((114,56),0,0)),((114,63),(0,0,0),some ((114,63),0,0)),((114,64),(0,0,0),some ((114,64),0,0))]),(6,[]),0)]
set_option maxRecDepth 100000 in
theorem q498_ok : rf_chkB q498_P q498_U wLay q498_M ddX12_about [] [] [0] 600 q498_N = true := by decide +kernel
set_option maxHeartbeats 4000000 in
theorem q498_met {G : rfG} (h : okG G) : rf_met G q498_M := rf_methodB h.1 (P := q498_P) (U := q498_U) (N := q498_N) ⟨wflT h flokX12, wcsT h csokX12, wlcT h lcokX12, spokX12 h, fun _ h => absurd h List.not_mem_nil, fun _ h => absurd h List.not_mem_nil, fun _ h => absurd h List.not_mem_nil, fun _ h => absurd h List.not_mem_nil, fun _ h => absurd h List.not_mem_nil⟩ dkX12_about (by decide +kernel) (by rw [h.2.2.1]; exact q498_ok)
/-- NearSpell.about -/
def q499_M : rfM := ((⟨"NearSpell", "about", "(I)I"⟩, prog_1_method_48_code, 2, (some .int)), (0,0), ([.inr (.inl [70]),.inl ((4,4,0),none)],[((5,4),(0,0,0),none),((5,5),(4,4,0),none),((5,6),(2,2,0),none),((5,7),(13,13,0),none),((5,8),(0,0,0),none),((5,10),(0,0,0),none),((10,4),(0,0,0),none),((10,5),(4,4,0),none),((10,6),(2,2,0),none),((10,7),(13,13,0),none),((10,8),(0,0,0),none),((10,10),(0,0,0),none),((12,34),(0,0,0),none),((12,35),(0,0,0),none),((12,36),(0,0,0),none),((16,4),(0,0,0),none),((16,5),(0,0,0),none),((68,8),(0,0,0),none),((68,9),(0,0,0),none),((70,1),(0,0,0),none),((70,14),(0,0,0),none)]), [], [(some (.inl ((4,4,0),none)),[],[])])
def q499_P : rfP := (flX11,csX11,lcX11,spX11,[],[],[],([],[]))
def q499_U : rfU := []
set_option maxHeartbeats 8000000 in
def q499_N : List rfB := [(0,([(0,.inr (.inl [70])),(1,.inl ((4,4,0),none))],[],[((5,4),(0,0,0),some ((5,4),0,0)),((5,5),(4,4,0),some ((5,5),0,0)),((5,6),(2,2,0),some ((5,6),0,0)),((5,7),(13,13,0),some ((5,7),0,0)),((5,8),(0,0,0),some ((5,8),0,0)),((5,10),(0,0,0),some ((5,10),0,0)),((10,4),(0,0,0),some ((10,4),0,0)),((10,5),(4,4,0),some ((10,5),0,0)),((10,6),(2,2,0),some ((10,6),0,0)),((10,7),(13,13,0),some ((10,7),0,0)),((10,8),(0,0,0),some ((10,8),0,0)),((10,10),(0,0,0),some ((10,10),0,0)),((12,34),(0,0,0),some ((12,34),0,0)),((12,35),(0,0,0),some ((12,35),0,0)),((12,36),(0,0,0),some ((12,36),0,0)),((16,4),(0,0,0),some ((16,4),0,0)),((16,5),(0,0,0),some ((16,5),0,0)),((68,8),(0,0,0),some ((68,8),0,0)),((68,9),(0,0,0),some ((68,9),0,0)),((70,1),(0,0,0),some ((70,1),0,0)),((70,14),(0,0,0),some ((70,14),0,0))]),(5,[]),0)]
set_option maxRecDepth 100000 in
theorem q499_ok : rf_chkB q499_P q499_U wLay q499_M ddX11_about [] [] [0] 600 q499_N = true := by decide +kernel
set_option maxHeartbeats 4000000 in
theorem q499_met {G : rfG} (h : okG G) : rf_met G q499_M := rf_methodB h.1 (P := q499_P) (U := q499_U) (N := q499_N) ⟨wflT h flokX11, wcsT h csokX11, wlcT h lcokX11, spokX11 h, fun _ h => absurd h List.not_mem_nil, fun _ h => absurd h List.not_mem_nil, fun _ h => absurd h List.not_mem_nil, fun _ h => absurd h List.not_mem_nil, fun _ h => absurd h List.not_mem_nil⟩ dkX11_about (by decide +kernel) (by rw [h.2.2.1]; exact q499_ok)
/-- NearSpellModel.about -/
def q500_M : rfM := ((⟨"NearSpellModel", "about", "(I)I"⟩, prog_14_method_127_code, 2, (some .int)), (0,0), ([.inr (.inl [114]),.inl ((4,4,0),none)],[((73,0),(0,0,0),none),((74,0),(0,0,0),none),((75,0),(4,4,0),none),((76,0),(2,2,0),none),((77,0),(13,13,0),none),((78,0),(0,0,0),none),((90,28),(0,0,0),none),((90,29),(0,0,0),none),((90,36),(0,0,0),none),((114,2),(0,0,0),none),((114,28),(0,0,0),none),((114,48),(0,0,0),none),((114,55),(0,0,0),none),((114,56),(0,0,0),none),((114,63),(0,0,0),none),((114,64),(0,0,0),none)]), [], [(some (.inl ((4,4,0),none)),[],[])])
def q500_P : rfP := (flX12,csX12,lcX12,spX12,[],[],[],([],[]))
def q500_U : rfU := []
set_option maxHeartbeats 8000000 in
def q500_N : List rfB := [(0,([(0,.inr (.inl [114])),(1,.inl ((4,4,0),none))],[],[((73,0),(0,0,0),some ((73,0),0,0)),((74,0),(0,0,0),some ((74,0),0,0)),((75,0),(4,4,0),some ((75,0),0,0)),((76,0),(2,2,0),some ((76,0),0,0)),((77,0),(13,13,0),some ((77,0),0,0)),((78,0),(0,0,0),some ((78,0),0,0)),((90,28),(0,0,0),some ((90,28),0,0)),((90,29),(0,0,0),some ((90,29),0,0)),((90,36),(0,0,0),some ((90,36),0,0)),((114,2),(0,0,0),some ((114,2),0,0)),((114,28),(0,0,0),some ((114,28),0,0)),((114,48),(0,0,0),some ((114,48),0,0)),((114,55),(0,0,0),some ((114,55),0,0)),((114,56),(0,0,0),some ((114,56),0,0)),((114,63),(0,0,0),some ((114,63),0,0)),((114,64),(0,0,0),some ((114,64),0,0))]),(7,[]),0)]
set_option maxRecDepth 100000 in
theorem q500_ok : rf_chkB q500_P q500_U wLay q500_M ddX12_about [] [] [0] 600 q500_N = true := by decide +kernel
set_option maxHeartbeats 4000000 in
theorem q500_met {G : rfG} (h : okG G) : rf_met G q500_M := rf_methodB h.1 (P := q500_P) (U := q500_U) (N := q500_N) ⟨wflT h flokX12, wcsT h csokX12, wlcT h lcokX12, spokX12 h, fun _ h => absurd h List.not_mem_nil, fun _ h => absurd h List.not_mem_nil, fun _ h => absurd h List.not_mem_nil, fun _ h => absurd h List.not_mem_nil, fun _ h => absurd h List.not_mem_nil⟩ dkX12_about (by decide +kernel) (by rw [h.2.2.1]; exact q500_ok)
/-- NearSpell.about -/
def q501_M : rfM := ((⟨"NearSpell", "about", "(I)I"⟩, prog_1_method_48_code, 2, (some .int)), (0,0), ([.inr (.inl [70]),.inl ((5,5,0),none)],[((5,4),(0,0,0),none),((5,5),(4,4,0),none),((5,6),(2,2,0),none),((5,7),(13,13,0),none),((5,8),(0,0,0),none),((5,10),(0,0,0),none),((10,4),(0,0,0),none),((10,5),(4,4,0),none),((10,6),(2,2,0),none),((10,7),(13,13,0),none),((10,8),(0,0,0),none),((10,10),(0,0,0),none),((12,34),(0,0,0),none),((12,35),(0,0,0),none),((12,36),(0,0,0),none),((16,4),(0,0,0),none),((16,5),(0,0,0),none),((68,8),(0,0,0),none),((68,9),(0,0,0),none),((70,1),(0,0,0),none),((70,14),(0,0,0),none)]), [], [(some (.inl ((2,2,0),none)),[],[])])
def q501_P : rfP := (flX11,csX11,lcX11,spX11,[],[],[],([],[]))
def q501_U : rfU := []
set_option maxHeartbeats 8000000 in
def q501_N : List rfB := [(0,([(0,.inr (.inl [70])),(1,.inl ((5,5,0),none))],[],[((5,4),(0,0,0),some ((5,4),0,0)),((5,5),(4,4,0),some ((5,5),0,0)),((5,6),(2,2,0),some ((5,6),0,0)),((5,7),(13,13,0),some ((5,7),0,0)),((5,8),(0,0,0),some ((5,8),0,0)),((5,10),(0,0,0),some ((5,10),0,0)),((10,4),(0,0,0),some ((10,4),0,0)),((10,5),(4,4,0),some ((10,5),0,0)),((10,6),(2,2,0),some ((10,6),0,0)),((10,7),(13,13,0),some ((10,7),0,0)),((10,8),(0,0,0),some ((10,8),0,0)),((10,10),(0,0,0),some ((10,10),0,0)),((12,34),(0,0,0),some ((12,34),0,0)),((12,35),(0,0,0),some ((12,35),0,0)),((12,36),(0,0,0),some ((12,36),0,0)),((16,4),(0,0,0),some ((16,4),0,0)),((16,5),(0,0,0),some ((16,5),0,0)),((68,8),(0,0,0),some ((68,8),0,0)),((68,9),(0,0,0),some ((68,9),0,0)),((70,1),(0,0,0),some ((70,1),0,0)),((70,14),(0,0,0),some ((70,14),0,0))]),(5,[]),0)]
set_option maxRecDepth 100000 in
theorem q501_ok : rf_chkB q501_P q501_U wLay q501_M ddX11_about [] [] [0] 600 q501_N = true := by decide +kernel
set_option maxHeartbeats 4000000 in
theorem q501_met {G : rfG} (h : okG G) : rf_met G q501_M := rf_methodB h.1 (P := q501_P) (U := q501_U) (N := q501_N) ⟨wflT h flokX11, wcsT h csokX11, wlcT h lcokX11, spokX11 h, fun _ h => absurd h List.not_mem_nil, fun _ h => absurd h List.not_mem_nil, fun _ h => absurd h List.not_mem_nil, fun _ h => absurd h List.not_mem_nil, fun _ h => absurd h List.not_mem_nil⟩ dkX11_about (by decide +kernel) (by rw [h.2.2.1]; exact q501_ok)
/-- NearSpellModel.about -/
def q502_M : rfM := ((⟨"NearSpellModel", "about", "(I)I"⟩, prog_14_method_127_code, 2, (some .int)), (0,0), ([.inr (.inl [114]),.inl ((5,5,0),none)],[((73,0),(0,0,0),none),((74,0),(0,0,0),none),((75,0),(4,4,0),none),((76,0),(2,2,0),none),((77,0),(13,13,0),none),((78,0),(0,0,0),none),((90,28),(0,0,0),none),((90,29),(0,0,0),none),((90,36),(0,0,0),none),((114,2),(0,0,0),none),((114,28),(0,0,0),none),((114,48),(0,0,0),none),((114,55),(0,0,0),none),((114,56),(0,0,0),none),((114,63),(0,0,0),none),((114,64),(0,0,0),none)]), [], [(some (.inl ((2,2,0),none)),[],[])])
def q502_P : rfP := (flX12,csX12,lcX12,spX12,[],[],[],([],[]))
def q502_U : rfU := []
set_option maxHeartbeats 8000000 in
def q502_N : List rfB := [(0,([(0,.inr (.inl [114])),(1,.inl ((5,5,0),none))],[],[((73,0),(0,0,0),some ((73,0),0,0)),((74,0),(0,0,0),some ((74,0),0,0)),((75,0),(4,4,0),some ((75,0),0,0)),((76,0),(2,2,0),some ((76,0),0,0)),((77,0),(13,13,0),some ((77,0),0,0)),((78,0),(0,0,0),some ((78,0),0,0)),((90,28),(0,0,0),some ((90,28),0,0)),((90,29),(0,0,0),some ((90,29),0,0)),((90,36),(0,0,0),some ((90,36),0,0)),((114,2),(0,0,0),some ((114,2),0,0)),((114,28),(0,0,0),some ((114,28),0,0)),((114,48),(0,0,0),some ((114,48),0,0)),((114,55),(0,0,0),some ((114,55),0,0)),((114,56),(0,0,0),some ((114,56),0,0)),((114,63),(0,0,0),some ((114,63),0,0)),((114,64),(0,0,0),some ((114,64),0,0))]),(7,[]),0)]
set_option maxRecDepth 100000 in
theorem q502_ok : rf_chkB q502_P q502_U wLay q502_M ddX12_about [] [] [0] 600 q502_N = true := by decide +kernel
set_option maxHeartbeats 4000000 in
theorem q502_met {G : rfG} (h : okG G) : rf_met G q502_M := rf_methodB h.1 (P := q502_P) (U := q502_U) (N := q502_N) ⟨wflT h flokX12, wcsT h csokX12, wlcT h lcokX12, spokX12 h, fun _ h => absurd h List.not_mem_nil, fun _ h => absurd h List.not_mem_nil, fun _ h => absurd h List.not_mem_nil, fun _ h => absurd h List.not_mem_nil, fun _ h => absurd h List.not_mem_nil⟩ dkX12_about (by decide +kernel) (by rw [h.2.2.1]; exact q502_ok)
/-- NearSpell.about -/
def q503_M : rfM := ((⟨"NearSpell", "about", "(I)I"⟩, prog_1_method_48_code, 2, (some .int)), (0,0), ([.inr (.inl [70]),.inl ((6,6,0),none)],[((5,4),(0,0,0),none),((5,5),(4,4,0),none),((5,6),(2,2,0),none),((5,7),(13,13,0),none),((5,8),(0,0,0),none),((5,10),(0,0,0),none),((10,4),(0,0,0),none),((10,5),(4,4,0),none),((10,6),(2,2,0),none),((10,7),(13,13,0),none),((10,8),(0,0,0),none),((10,10),(0,0,0),none),((12,34),(0,0,0),none),((12,35),(0,0,0),none),((12,36),(0,0,0),none),((16,4),(0,0,0),none),((16,5),(0,0,0),none),((68,8),(0,0,0),none),((68,9),(0,0,0),none),((70,1),(0,0,0),none),((70,14),(0,0,0),none)]), [], [(some (.inl ((13,13,0),none)),[],[])])
def q503_P : rfP := (flX11,csX11,lcX11,spX11,[],[],[],([],[]))
def q503_U : rfU := []
set_option maxHeartbeats 8000000 in
def q503_N : List rfB := [(0,([(0,.inr (.inl [70])),(1,.inl ((6,6,0),none))],[],[((5,4),(0,0,0),some ((5,4),0,0)),((5,5),(4,4,0),some ((5,5),0,0)),((5,6),(2,2,0),some ((5,6),0,0)),((5,7),(13,13,0),some ((5,7),0,0)),((5,8),(0,0,0),some ((5,8),0,0)),((5,10),(0,0,0),some ((5,10),0,0)),((10,4),(0,0,0),some ((10,4),0,0)),((10,5),(4,4,0),some ((10,5),0,0)),((10,6),(2,2,0),some ((10,6),0,0)),((10,7),(13,13,0),some ((10,7),0,0)),((10,8),(0,0,0),some ((10,8),0,0)),((10,10),(0,0,0),some ((10,10),0,0)),((12,34),(0,0,0),some ((12,34),0,0)),((12,35),(0,0,0),some ((12,35),0,0)),((12,36),(0,0,0),some ((12,36),0,0)),((16,4),(0,0,0),some ((16,4),0,0)),((16,5),(0,0,0),some ((16,5),0,0)),((68,8),(0,0,0),some ((68,8),0,0)),((68,9),(0,0,0),some ((68,9),0,0)),((70,1),(0,0,0),some ((70,1),0,0)),((70,14),(0,0,0),some ((70,14),0,0))]),(5,[]),0)]
set_option maxRecDepth 100000 in
theorem q503_ok : rf_chkB q503_P q503_U wLay q503_M ddX11_about [] [] [0] 600 q503_N = true := by decide +kernel
set_option maxHeartbeats 4000000 in
theorem q503_met {G : rfG} (h : okG G) : rf_met G q503_M := rf_methodB h.1 (P := q503_P) (U := q503_U) (N := q503_N) ⟨wflT h flokX11, wcsT h csokX11, wlcT h lcokX11, spokX11 h, fun _ h => absurd h List.not_mem_nil, fun _ h => absurd h List.not_mem_nil, fun _ h => absurd h List.not_mem_nil, fun _ h => absurd h List.not_mem_nil, fun _ h => absurd h List.not_mem_nil⟩ dkX11_about (by decide +kernel) (by rw [h.2.2.1]; exact q503_ok)
/-- NearSpellModel.about -/
def q504_M : rfM := ((⟨"NearSpellModel", "about", "(I)I"⟩, prog_14_method_127_code, 2, (some .int)), (0,0), ([.inr (.inl [114]),.inl ((6,6,0),none)],[((73,0),(0,0,0),none),((74,0),(0,0,0),none),((75,0),(4,4,0),none),((76,0),(2,2,0),none),((77,0),(13,13,0),none),((78,0),(0,0,0),none),((90,28),(0,0,0),none),((90,29),(0,0,0),none),((90,36),(0,0,0),none),((114,2),(0,0,0),none),((114,28),(0,0,0),none),((114,48),(0,0,0),none),((114,55),(0,0,0),none),((114,56),(0,0,0),none),((114,63),(0,0,0),none),((114,64),(0,0,0),none)]), [], [(some (.inl ((13,13,0),none)),[],[])])
def q504_P : rfP := (flX12,csX12,lcX12,spX12,[],[],[],([],[]))
def q504_U : rfU := []
set_option maxHeartbeats 8000000 in
def q504_N : List rfB := [(0,([(0,.inr (.inl [114])),(1,.inl ((6,6,0),none))],[],[((73,0),(0,0,0),some ((73,0),0,0)),((74,0),(0,0,0),some ((74,0),0,0)),((75,0),(4,4,0),some ((75,0),0,0)),((76,0),(2,2,0),some ((76,0),0,0)),((77,0),(13,13,0),some ((77,0),0,0)),((78,0),(0,0,0),some ((78,0),0,0)),((90,28),(0,0,0),some ((90,28),0,0)),((90,29),(0,0,0),some ((90,29),0,0)),((90,36),(0,0,0),some ((90,36),0,0)),((114,2),(0,0,0),some ((114,2),0,0)),((114,28),(0,0,0),some ((114,28),0,0)),((114,48),(0,0,0),some ((114,48),0,0)),((114,55),(0,0,0),some ((114,55),0,0)),((114,56),(0,0,0),some ((114,56),0,0)),((114,63),(0,0,0),some ((114,63),0,0)),((114,64),(0,0,0),some ((114,64),0,0))]),(7,[]),0)]
set_option maxRecDepth 100000 in
theorem q504_ok : rf_chkB q504_P q504_U wLay q504_M ddX12_about [] [] [0] 600 q504_N = true := by decide +kernel
set_option maxHeartbeats 4000000 in
theorem q504_met {G : rfG} (h : okG G) : rf_met G q504_M := rf_methodB h.1 (P := q504_P) (U := q504_U) (N := q504_N) ⟨wflT h flokX12, wcsT h csokX12, wlcT h lcokX12, spokX12 h, fun _ h => absurd h List.not_mem_nil, fun _ h => absurd h List.not_mem_nil, fun _ h => absurd h List.not_mem_nil, fun _ h => absurd h List.not_mem_nil, fun _ h => absurd h List.not_mem_nil⟩ dkX12_about (by decide +kernel) (by rw [h.2.2.1]; exact q504_ok)
/-- NearSpell.State.seed -/
def q505_M : rfM := ((⟨"NearSpell$State", "seed", "()I"⟩, prog_10_method_5_code, 1, (some .int)), (0,0), ([.inr (.inl [13])],[((12,34),(0,0,0),none),((12,35),(0,0,0),none),((12,36),(0,0,0),none)]), [], [(some (.inl ((0,0,0),none)),[],[])])
def ddX8_seed : List (Nat × Instr × Nat) := [(0,.aload_n 0,1),(1,.getfield 11,3),(4,.bipush 36,2),(6,.iaload,1),(7,.ireturn,1)]
set_option maxRecDepth 100000 in
theorem dkX8_seed : rf_decs prog_10_method_5_code ddX8_seed := rf_decs_of (by decide +kernel)
def q505_P : rfP := (flX8,csX8,lcX8,spX8,[],[],[],([],[]))
def q505_U : rfU := []
set_option maxHeartbeats 8000000 in
def q505_N : List rfB := [(0,([(0,.inr (.inl [13]))],[],[((12,34),(0,0,0),some ((12,34),0,0)),((12,35),(0,0,0),some ((12,35),0,0)),((12,36),(0,0,0),some ((12,36),0,0))]),(4,[]),0)]
set_option maxRecDepth 100000 in
theorem q505_ok : rf_chkB q505_P q505_U wLay q505_M ddX8_seed [] [] [0] 600 q505_N = true := by decide +kernel
set_option maxHeartbeats 4000000 in
theorem q505_met {G : rfG} (h : okG G) : rf_met G q505_M := rf_methodB h.1 (P := q505_P) (U := q505_U) (N := q505_N) ⟨wflT h flokX8, wcsT h csokX8, wlcT h lcokX8, spokX8 h, fun _ h => absurd h List.not_mem_nil, fun _ h => absurd h List.not_mem_nil, fun _ h => absurd h List.not_mem_nil, fun _ h => absurd h List.not_mem_nil, fun _ h => absurd h List.not_mem_nil⟩ dkX8_seed (by decide +kernel) (by rw [h.2.2.1]; exact q505_ok)
/-- NearSpell.about -/
def q506_M : rfM := ((⟨"NearSpell", "about", "(I)I"⟩, prog_1_method_48_code, 2, (some .int)), (1,20), ([.inr (.inl [70]),.inl ((7,7,0),none)],[((5,4),(0,0,0),none),((5,5),(4,4,0),none),((5,6),(2,2,0),none),((5,7),(13,13,0),none),((5,8),(0,0,0),none),((5,10),(0,0,0),none),((10,4),(0,0,0),none),((10,5),(4,4,0),none),((10,6),(2,2,0),none),((10,7),(13,13,0),none),((10,8),(0,0,0),none),((10,10),(0,0,0),none),((12,34),(0,0,0),none),((12,35),(0,0,0),none),((12,36),(0,0,0),none),((16,4),(0,0,0),none),((16,5),(0,0,0),none),((68,8),(0,0,0),none),((68,9),(0,0,0),none),((70,1),(0,0,0),none),((70,14),(0,0,0),none)]), [], [(some (.inl ((0,0,0),none)),[],[])])
def q506_P : rfP := (flX11,csX11,lcX11,spX11,[q505_M],[],[(344,0,8)],([],[]))
def q506_U : rfU := []
set_option maxHeartbeats 8000000 in
def q506_N : List rfB := [(0,([(0,.inr (.inl [70])),(1,.inl ((7,7,0),none))],[],[((5,4),(0,0,0),some ((5,4),0,0)),((5,5),(4,4,0),some ((5,5),0,0)),((5,6),(2,2,0),some ((5,6),0,0)),((5,7),(13,13,0),some ((5,7),0,0)),((5,8),(0,0,0),some ((5,8),0,0)),((5,10),(0,0,0),some ((5,10),0,0)),((10,4),(0,0,0),some ((10,4),0,0)),((10,5),(4,4,0),some ((10,5),0,0)),((10,6),(2,2,0),some ((10,6),0,0)),((10,7),(13,13,0),some ((10,7),0,0)),((10,8),(0,0,0),some ((10,8),0,0)),((10,10),(0,0,0),some ((10,10),0,0)),((12,34),(0,0,0),some ((12,34),0,0)),((12,35),(0,0,0),some ((12,35),0,0)),((12,36),(0,0,0),some ((12,36),0,0)),((16,4),(0,0,0),some ((16,4),0,0)),((16,5),(0,0,0),some ((16,5),0,0)),((68,8),(0,0,0),some ((68,8),0,0)),((68,9),(0,0,0),some ((68,9),0,0)),((70,1),(0,0,0),some ((70,1),0,0)),((70,14),(0,0,0),some ((70,14),0,0))]),(5,[]),0)]
set_option maxRecDepth 100000 in
theorem q506_ok : rf_chkB q506_P q506_U wLay q506_M ddX11_about [(140,[0])] [] [0] 600 q506_N = true := by decide +kernel
set_option maxHeartbeats 4000000 in
theorem q506_met {G : rfG} (h : okG G) : rf_met G q506_M := rf_methodB h.1 (P := q506_P) (U := q506_U) (N := q506_N) ⟨wflT h flokX11, wcsT h csokX11, wlcT h lcokX11, spokX11 h, List.forall_mem_cons.mpr ⟨q505_met h, fun _ h => absurd h List.not_mem_nil⟩, fun _ h => absurd h List.not_mem_nil, List.forall_mem_cons.mpr ⟨fun M hM => Option.some.inj (show some q505_M = some M from hM) ▸ wlkV (lkX11_344 h) q505_M rfl rfl, fun _ h => absurd h List.not_mem_nil⟩, fun _ h => absurd h List.not_mem_nil, fun _ h => absurd h List.not_mem_nil⟩ dkX11_about (by decide +kernel) (by rw [h.2.2.1]; exact q506_ok)
/-- NearSpellModel.about -/
def q507_M : rfM := ((⟨"NearSpellModel", "about", "(I)I"⟩, prog_14_method_127_code, 2, (some .int)), (0,0), ([.inr (.inl [114]),.inl ((7,7,0),none)],[((73,0),(0,0,0),none),((74,0),(0,0,0),none),((75,0),(4,4,0),none),((76,0),(2,2,0),none),((77,0),(13,13,0),none),((78,0),(0,0,0),none),((90,28),(0,0,0),none),((90,29),(0,0,0),none),((90,36),(0,0,0),none),((114,2),(0,0,0),none),((114,28),(0,0,0),none),((114,48),(0,0,0),none),((114,55),(0,0,0),none),((114,56),(0,0,0),none),((114,63),(0,0,0),none),((114,64),(0,0,0),none)]), [], [(some (.inl ((0,0,0),none)),[],[])])
def q507_P : rfP := (flX12,csX12,lcX12,spX12,[],[],[],([],[]))
def q507_U : rfU := []
set_option maxHeartbeats 8000000 in
def q507_N : List rfB := [(0,([(0,.inr (.inl [114])),(1,.inl ((7,7,0),none))],[],[((73,0),(0,0,0),some ((73,0),0,0)),((74,0),(0,0,0),some ((74,0),0,0)),((75,0),(4,4,0),some ((75,0),0,0)),((76,0),(2,2,0),some ((76,0),0,0)),((77,0),(13,13,0),some ((77,0),0,0)),((78,0),(0,0,0),some ((78,0),0,0)),((90,28),(0,0,0),some ((90,28),0,0)),((90,29),(0,0,0),some ((90,29),0,0)),((90,36),(0,0,0),some ((90,36),0,0)),((114,2),(0,0,0),some ((114,2),0,0)),((114,28),(0,0,0),some ((114,28),0,0)),((114,48),(0,0,0),some ((114,48),0,0)),((114,55),(0,0,0),some ((114,55),0,0)),((114,56),(0,0,0),some ((114,56),0,0)),((114,63),(0,0,0),some ((114,63),0,0)),((114,64),(0,0,0),some ((114,64),0,0))]),(6,[]),0)]
set_option maxRecDepth 100000 in
theorem q507_ok : rf_chkB q507_P q507_U wLay q507_M ddX12_about [] [] [0] 600 q507_N = true := by decide +kernel
set_option maxHeartbeats 4000000 in
theorem q507_met {G : rfG} (h : okG G) : rf_met G q507_M := rf_methodB h.1 (P := q507_P) (U := q507_U) (N := q507_N) ⟨wflT h flokX12, wcsT h csokX12, wlcT h lcokX12, spokX12 h, fun _ h => absurd h List.not_mem_nil, fun _ h => absurd h List.not_mem_nil, fun _ h => absurd h List.not_mem_nil, fun _ h => absurd h List.not_mem_nil, fun _ h => absurd h List.not_mem_nil⟩ dkX12_about (by decide +kernel) (by rw [h.2.2.1]; exact q507_ok)
/-- NearSpell.about -/
def q508_M : rfM := ((⟨"NearSpell", "about", "(I)I"⟩, prog_1_method_48_code, 2, (some .int)), (0,0), ([.inr (.inl [70]),.inl ((8,8,0),none)],[((5,4),(0,0,0),none),((5,5),(4,4,0),none),((5,6),(2,2,0),none),((5,7),(13,13,0),none),((5,8),(0,0,0),none),((5,10),(0,0,0),none),((10,4),(0,0,0),none),((10,5),(4,4,0),none),((10,6),(2,2,0),none),((10,7),(13,13,0),none),((10,8),(0,0,0),none),((10,10),(0,0,0),none),((12,34),(0,0,0),none),((12,35),(0,0,0),none),((12,36),(0,0,0),none),((16,4),(0,0,0),none),((16,5),(0,0,0),none),((68,8),(0,0,0),none),((68,9),(0,0,0),none),((70,1),(0,0,0),none),((70,14),(0,0,0),none)]), [], [(some (.inl ((0,0,0),none)),[],[])])
def q508_P : rfP := (flX11,csX11,lcX11,spX11,[],[],[],([],[]))
def q508_U : rfU := []
set_option maxHeartbeats 8000000 in
def q508_N : List rfB := [(0,([(0,.inr (.inl [70])),(1,.inl ((8,8,0),none))],[],[((5,4),(0,0,0),some ((5,4),0,0)),((5,5),(4,4,0),some ((5,5),0,0)),((5,6),(2,2,0),some ((5,6),0,0)),((5,7),(13,13,0),some ((5,7),0,0)),((5,8),(0,0,0),some ((5,8),0,0)),((5,10),(0,0,0),some ((5,10),0,0)),((10,4),(0,0,0),some ((10,4),0,0)),((10,5),(4,4,0),some ((10,5),0,0)),((10,6),(2,2,0),some ((10,6),0,0)),((10,7),(13,13,0),some ((10,7),0,0)),((10,8),(0,0,0),some ((10,8),0,0)),((10,10),(0,0,0),some ((10,10),0,0)),((12,34),(0,0,0),some ((12,34),0,0)),((12,35),(0,0,0),some ((12,35),0,0)),((12,36),(0,0,0),some ((12,36),0,0)),((16,4),(0,0,0),some ((16,4),0,0)),((16,5),(0,0,0),some ((16,5),0,0)),((68,8),(0,0,0),some ((68,8),0,0)),((68,9),(0,0,0),some ((68,9),0,0)),((70,1),(0,0,0),some ((70,1),0,0)),((70,14),(0,0,0),some ((70,14),0,0))]),(5,[]),0)]
set_option maxRecDepth 100000 in
theorem q508_ok : rf_chkB q508_P q508_U wLay q508_M ddX11_about [] [] [0] 600 q508_N = true := by decide +kernel
set_option maxHeartbeats 4000000 in
theorem q508_met {G : rfG} (h : okG G) : rf_met G q508_M := rf_methodB h.1 (P := q508_P) (U := q508_U) (N := q508_N) ⟨wflT h flokX11, wcsT h csokX11, wlcT h lcokX11, spokX11 h, fun _ h => absurd h List.not_mem_nil, fun _ h => absurd h List.not_mem_nil, fun _ h => absurd h List.not_mem_nil, fun _ h => absurd h List.not_mem_nil, fun _ h => absurd h List.not_mem_nil⟩ dkX11_about (by decide +kernel) (by rw [h.2.2.1]; exact q508_ok)
/-- NearSpellModel.about -/
def q509_M : rfM := ((⟨"NearSpellModel", "about", "(I)I"⟩, prog_14_method_127_code, 2, (some .int)), (0,0), ([.inr (.inl [114]),.inl ((8,8,0),none)],[((73,0),(0,0,0),none),((74,0),(0,0,0),none),((75,0),(4,4,0),none),((76,0),(2,2,0),none),((77,0),(13,13,0),none),((78,0),(0,0,0),none),((90,28),(0,0,0),none),((90,29),(0,0,0),none),((90,36),(0,0,0),none),((114,2),(0,0,0),none),((114,28),(0,0,0),none),((114,48),(0,0,0),none),((114,55),(0,0,0),none),((114,56),(0,0,0),none),((114,63),(0,0,0),none),((114,64),(0,0,0),none)]), [], [(some (.inl ((0,0,0),none)),[],[])])
def q509_P : rfP := (flX12,csX12,lcX12,spX12,[],[],[],([],[]))
def q509_U : rfU := []
set_option maxHeartbeats 8000000 in
def q509_N : List rfB := [(0,([(0,.inr (.inl [114])),(1,.inl ((8,8,0),none))],[],[((73,0),(0,0,0),some ((73,0),0,0)),((74,0),(0,0,0),some ((74,0),0,0)),((75,0),(4,4,0),some ((75,0),0,0)),((76,0),(2,2,0),some ((76,0),0,0)),((77,0),(13,13,0),some ((77,0),0,0)),((78,0),(0,0,0),some ((78,0),0,0)),((90,28),(0,0,0),some ((90,28),0,0)),((90,29),(0,0,0),some ((90,29),0,0)),((90,36),(0,0,0),some ((90,36),0,0)),((114,2),(0,0,0),some ((114,2),0,0)),((114,28),(0,0,0),some ((114,28),0,0)),((114,48),(0,0,0),some ((114,48),0,0)),((114,55),(0,0,0),some ((114,55),0,0)),((114,56),(0,0,0),some ((114,56),0,0)),((114,63),(0,0,0),some ((114,63),0,0)),((114,64),(0,0,0),some ((114,64),0,0))]),(4,[]),0)]
set_option maxRecDepth 100000 in
theorem q509_ok : rf_chkB q509_P q509_U wLay q509_M ddX12_about [] [] [0] 600 q509_N = true := by decide +kernel
set_option maxHeartbeats 4000000 in
theorem q509_met {G : rfG} (h : okG G) : rf_met G q509_M := rf_methodB h.1 (P := q509_P) (U := q509_U) (N := q509_N) ⟨wflT h flokX12, wcsT h csokX12, wlcT h lcokX12, spokX12 h, fun _ h => absurd h List.not_mem_nil, fun _ h => absurd h List.not_mem_nil, fun _ h => absurd h List.not_mem_nil, fun _ h => absurd h List.not_mem_nil, fun _ h => absurd h List.not_mem_nil⟩ dkX12_about (by decide +kernel) (by rw [h.2.2.1]; exact q509_ok)
/-- NearSpell.about -/
def q510_M : rfM := ((⟨"NearSpell", "about", "(I)I"⟩, prog_1_method_48_code, 2, (some .int)), (0,0), ([.inr (.inl [70]),.inl ((9,9,0),none)],[((5,4),(0,0,0),none),((5,5),(4,4,0),none),((5,6),(2,2,0),none),((5,7),(13,13,0),none),((5,8),(0,0,0),none),((5,10),(0,0,0),none),((10,4),(0,0,0),none),((10,5),(4,4,0),none),((10,6),(2,2,0),none),((10,7),(13,13,0),none),((10,8),(0,0,0),none),((10,10),(0,0,0),none),((12,34),(0,0,0),none),((12,35),(0,0,0),none),((12,36),(0,0,0),none),((16,4),(0,0,0),none),((16,5),(0,0,0),none),((68,8),(0,0,0),none),((68,9),(0,0,0),none),((70,1),(0,0,0),none),((70,14),(0,0,0),none)]), [], [(some (.inl ((0,0,0),none)),[],[])])
def q510_P : rfP := (flX11,csX11,lcX11,spX11,[],[],[],([],[]))
def q510_U : rfU := []
set_option maxHeartbeats 8000000 in
def q510_N : List rfB := [(0,([(0,.inr (.inl [70])),(1,.inl ((9,9,0),none))],[],[((5,4),(0,0,0),some ((5,4),0,0)),((5,5),(4,4,0),some ((5,5),0,0)),((5,6),(2,2,0),some ((5,6),0,0)),((5,7),(13,13,0),some ((5,7),0,0)),((5,8),(0,0,0),some ((5,8),0,0)),((5,10),(0,0,0),some ((5,10),0,0)),((10,4),(0,0,0),some ((10,4),0,0)),((10,5),(4,4,0),some ((10,5),0,0)),((10,6),(2,2,0),some ((10,6),0,0)),((10,7),(13,13,0),some ((10,7),0,0)),((10,8),(0,0,0),some ((10,8),0,0)),((10,10),(0,0,0),some ((10,10),0,0)),((12,34),(0,0,0),some ((12,34),0,0)),((12,35),(0,0,0),some ((12,35),0,0)),((12,36),(0,0,0),some ((12,36),0,0)),((16,4),(0,0,0),some ((16,4),0,0)),((16,5),(0,0,0),some ((16,5),0,0)),((68,8),(0,0,0),some ((68,8),0,0)),((68,9),(0,0,0),some ((68,9),0,0)),((70,1),(0,0,0),some ((70,1),0,0)),((70,14),(0,0,0),some ((70,14),0,0))]),(5,[]),0)]
set_option maxRecDepth 100000 in
theorem q510_ok : rf_chkB q510_P q510_U wLay q510_M ddX11_about [] [] [0] 600 q510_N = true := by decide +kernel
set_option maxHeartbeats 4000000 in
theorem q510_met {G : rfG} (h : okG G) : rf_met G q510_M := rf_methodB h.1 (P := q510_P) (U := q510_U) (N := q510_N) ⟨wflT h flokX11, wcsT h csokX11, wlcT h lcokX11, spokX11 h, fun _ h => absurd h List.not_mem_nil, fun _ h => absurd h List.not_mem_nil, fun _ h => absurd h List.not_mem_nil, fun _ h => absurd h List.not_mem_nil, fun _ h => absurd h List.not_mem_nil⟩ dkX11_about (by decide +kernel) (by rw [h.2.2.1]; exact q510_ok)
