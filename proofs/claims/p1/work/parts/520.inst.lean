/-- NearSpell.odds -/
def q441_M : rfM := ((⟨"NearSpell", "odds", "(II)I"⟩, prog_1_method_39_code, 8, (some .int)), (3,125), ([.inr (.inl [70]),.inl ((4,4,0),none),.inl ((1,1,0),none)],[((5,8),(0,0,0),none),((10,8),(0,0,0),none)]), [], [(some (.inl ((1,1,0),none)),[],[])])
def q441_P : rfP := (flX11,csX11,lcX11,spX11,[hq_cd_M],[(315,0)],[],([],[]))
def q441_U : rfU := []
set_option maxHeartbeats 8000000 in
def q441_N : List rfB := [(0,([(0,.inr (.inl [70])),(1,.inl ((4,4,0),none)),(2,.inl ((1,1,0),none))],[],[((5,8),(0,0,0),some ((5,8),0,0)),((10,8),(0,0,0),some ((10,8),0,0))]),(85,[0]),0)]
set_option maxRecDepth 100000 in
theorem q441_ok : rf_chkB q441_P q441_U wLay q441_M ddX11_odds [(34,[0])] [.inl 7] [0] 80 q441_N = true := by decide +kernel
set_option maxHeartbeats 4000000 in
theorem q441_met {G : rfG} (h : okG G) : rf_met G q441_M := rf_methodB h.1 (P := q441_P) (U := q441_U) (N := q441_N) ⟨wflT h flokX11, wcsT h csokX11, wlcT h lcokX11, spokX11 h, List.forall_mem_cons.mpr ⟨hq_cd_met h, fun _ h => absurd h List.not_mem_nil⟩, List.forall_mem_cons.mpr ⟨fun M hM => Option.some.inj (show some hq_cd_M = some M from hM) ▸ wlkS (lkX11_315 h) hq_cd_M rfl rfl, fun _ h => absurd h List.not_mem_nil⟩, fun _ h => absurd h List.not_mem_nil, fun _ h => absurd h List.not_mem_nil, fun _ h => absurd h List.not_mem_nil⟩ dkX11_odds (by decide +kernel) (by rw [h.2.2.1]; exact q441_ok)
/-- NearSpellModel.odds -/
def q442_M : rfM := ((⟨"NearSpellModel", "odds", "(II)I"⟩, prog_14_method_115_code, 5, (some .int)), (3,124), ([.inr (.inl [114]),.inl ((4,4,0),none),.inl ((1,1,0),none)],[((78,0),(0,0,0),none),((114,28),(0,0,0),none)]), [], [(some (.inl ((1,1,1),none)),[],[])])
def q442_P : rfP := (flX12,csX12,lcX12,spX12,[q437_M,q413_M,q438_M,hq_dv100000000_M],[(334,0),(334,1),(477,2),(480,3)],[],([],[]))
def q442_U : rfU := []
set_option maxHeartbeats 8000000 in
def q442_N : List rfB := [(0,([(0,.inr (.inl [114])),(1,.inl ((4,4,0),none)),(2,.inl ((1,1,0),none))],[],[((78,0),(0,0,0),some ((78,0),0,0)),((114,28),(0,0,0),some ((114,28),0,0))]),(31,[]),0)]
set_option maxRecDepth 100000 in
theorem q442_ok : rf_chkB q442_P q442_U wLay q442_M ddX12_odds [(3,[0]),(12,[1]),(33,[2]),(40,[2]),(58,[3])] [] [0] 600 q442_N = true := by decide +kernel
set_option maxHeartbeats 4000000 in
theorem q442_met {G : rfG} (h : okG G) : rf_met G q442_M := rf_methodB h.1 (P := q442_P) (U := q442_U) (N := q442_N) ⟨wflT h flokX12, wcsT h csokX12, wlcT h lcokX12, spokX12 h, List.forall_mem_cons.mpr ⟨q437_met h, List.forall_mem_cons.mpr ⟨q413_met h, List.forall_mem_cons.mpr ⟨q438_met h, List.forall_mem_cons.mpr ⟨hq_dv100000000_met h, fun _ h => absurd h List.not_mem_nil⟩⟩⟩⟩, List.forall_mem_cons.mpr ⟨fun M hM => Option.some.inj (show some q437_M = some M from hM) ▸ wlkS (lkX12_334 h) q437_M rfl rfl, List.forall_mem_cons.mpr ⟨fun M hM => Option.some.inj (show some q413_M = some M from hM) ▸ wlkS (lkX12_334 h) q413_M rfl rfl, List.forall_mem_cons.mpr ⟨fun M hM => Option.some.inj (show some q438_M = some M from hM) ▸ wlkS (lkX12_477 h) q438_M rfl rfl, List.forall_mem_cons.mpr ⟨fun M hM => Option.some.inj (show some hq_dv100000000_M = some M from hM) ▸ wlkS (lkX12_480 h) hq_dv100000000_M rfl rfl, fun _ h => absurd h List.not_mem_nil⟩⟩⟩⟩, fun _ h => absurd h List.not_mem_nil, fun _ h => absurd h List.not_mem_nil, fun _ h => absurd h List.not_mem_nil⟩ dkX12_odds (by decide +kernel) (by rw [h.2.2.1]; exact q442_ok)
/-- NearSpell.lies -/
def q443_M : rfM := ((⟨"NearSpell", "lies", "(I)I"⟩, prog_1_method_40_code, 2, (some .int)), (0,0), ([.inr (.inl [70]),.inl (((-2147483648),2147483647,1),none)],[((70,14),(0,0,0),none)]), [], [(some (.inl (((-2),(-2),0),none)),[],[])])
def ddX11_lies : List (Nat × Instr × Nat) := [(0,.iload_n 1,1),(1,.ifCond .lt 29,3),(4,.iload_n 1,1),(5,.aload_n 0,1),(6,.getfield 104,3),(9,.if_icmp .ge 21,3),(12,.iload_n 1,1),(13,.aload_n 0,1),(14,.getfield 96,3),(17,.arraylength,1),(18,.if_icmp .ge 12,3),(21,.aload_n 0,1),(22,.getfield 96,3),(25,.iload_n 1,1),(26,.iaload,1),(27,.goto 5,3),(30,.bipush (-2),2),(32,.ireturn,1)]
set_option maxRecDepth 100000 in
theorem dkX11_lies : rf_decs prog_1_method_40_code ddX11_lies := rf_decs_of (by decide +kernel)
def q443_P : rfP := (flX11,csX11,lcX11,spX11,[],[],[],([],[]))
def q443_U : rfU := []
set_option maxHeartbeats 8000000 in
def q443_N : List rfB := [(0,([(0,.inr (.inl [70])),(1,.inl (((-2147483648),2147483647,1),none))],[],[((70,14),(0,0,0),some ((70,14),0,0))]),(7,[]),0)]
set_option maxRecDepth 100000 in
theorem q443_ok : rf_chkB q443_P q443_U wLay q443_M ddX11_lies [] [] [0] 13 q443_N = true := by decide +kernel
set_option maxHeartbeats 4000000 in
theorem q443_met {G : rfG} (h : okG G) : rf_met G q443_M := rf_methodB h.1 (P := q443_P) (U := q443_U) (N := q443_N) ⟨wflT h flokX11, wcsT h csokX11, wlcT h lcokX11, spokX11 h, fun _ h => absurd h List.not_mem_nil, fun _ h => absurd h List.not_mem_nil, fun _ h => absurd h List.not_mem_nil, fun _ h => absurd h List.not_mem_nil, fun _ h => absurd h List.not_mem_nil⟩ dkX11_lies (by decide +kernel) (by rw [h.2.2.1]; exact q443_ok)
/-- NearSpellModel.lies -/
def q444_M : rfM := ((⟨"NearSpellModel", "lies", "(I)I"⟩, prog_14_method_71_code, 2, (some .int)), (1,22), ([.inr (.inl [114]),.inl (((-2147483648),2147483647,1),none)],[((114,48),(0,0,0),none)]), [], [(some (.inl (((-2),(-2),0),none)),[],[])])
def ddX12_lies : List (Nat × Instr × Nat) := [(0,.iload_n 1,1),(1,.iconst 0,1),(2,.aload_n 0,1),(3,.getfield 347,3),(6,.iconst 1,1),(7,.isub,1),(8,.invokestatic 334,3),(11,.ifCond .eq 12,3),(14,.aload_n 0,1),(15,.getfield 99,3),(18,.iload_n 1,1),(19,.iaload,1),(20,.goto 5,3),(23,.bipush (-2),2),(25,.ireturn,1)]
set_option maxRecDepth 100000 in
theorem dkX12_lies : rf_decs prog_14_method_71_code ddX12_lies := rf_decs_of (by decide +kernel)
def q444_P : rfP := (flX12,csX12,lcX12,spX12,[q40_M],[(334,0)],[],([],[]))
def q444_U : rfU := []
set_option maxHeartbeats 8000000 in
def q444_N : List rfB := [(0,([(0,.inr (.inl [114])),(1,.inl (((-2147483648),2147483647,1),none))],[],[((114,48),(0,0,0),some ((114,48),0,0))]),(9,[]),0)]
set_option maxRecDepth 100000 in
theorem q444_ok : rf_chkB q444_P q444_U wLay q444_M ddX12_lies [(8,[0])] [] [0] 600 q444_N = true := by decide +kernel
set_option maxHeartbeats 4000000 in
theorem q444_met {G : rfG} (h : okG G) : rf_met G q444_M := rf_methodB h.1 (P := q444_P) (U := q444_U) (N := q444_N) ⟨wflT h flokX12, wcsT h csokX12, wlcT h lcokX12, spokX12 h, List.forall_mem_cons.mpr ⟨q40_met h, fun _ h => absurd h List.not_mem_nil⟩, List.forall_mem_cons.mpr ⟨fun M hM => Option.some.inj (show some q40_M = some M from hM) ▸ wlkS (lkX12_334 h) q40_M rfl rfl, fun _ h => absurd h List.not_mem_nil⟩, fun _ h => absurd h List.not_mem_nil, fun _ h => absurd h List.not_mem_nil, fun _ h => absurd h List.not_mem_nil⟩ dkX12_lies (by decide +kernel) (by rw [h.2.2.1]; exact q444_ok)
/-- NearSpell.isApart -/
def q445_M : rfM := ((⟨"NearSpell", "isApart", "(I)Z"⟩, prog_1_method_50_code, 1, (some .boolean)), (0,0), ([.inl (((-2147483648),2147483647,1),none)],[]), [], [(some (.inl ((1,1,0),none)),[(0,0,6)],[]),(some (.inl ((0,0,0),none)),[],[])])
def q445_P : rfP := (flX11,csX11,lcX11,spX11,[],[],[],([],[]))
def q445_U : rfU := []
set_option maxHeartbeats 8000000 in
def q445_N : List rfB := [(0,([(0,.inl (((-2147483648),2147483647,1),none))],[],[]),(9,[]),0)]
set_option maxRecDepth 100000 in
theorem q445_ok : rf_chkB q445_P q445_U wLay q445_M ddX11_isApart [] [] [0] 13 q445_N = true := by decide +kernel
set_option maxHeartbeats 4000000 in
theorem q445_met {G : rfG} (h : okG G) : rf_met G q445_M := rf_methodB h.1 (P := q445_P) (U := q445_U) (N := q445_N) ⟨wflT h flokX11, wcsT h csokX11, wlcT h lcokX11, spokX11 h, fun _ h => absurd h List.not_mem_nil, fun _ h => absurd h List.not_mem_nil, fun _ h => absurd h List.not_mem_nil, fun _ h => absurd h List.not_mem_nil, fun _ h => absurd h List.not_mem_nil⟩ dkX11_isApart (by decide +kernel) (by rw [h.2.2.1]; exact q445_ok)
/-- NearSpell.Witness.tell -/
def q446_M : rfM := ((⟨"NearSpell$Witness", "tell", "(IIZ)I"⟩, prog_12_method_4_code, 5, (some .int)), (0,0), ([.inr (.inl [68]),.inl ((0,387420488,1),none),.inl ((0,6,1),none),.inl ((0,1,1),none)],[((5,4),(0,0,0),none),((10,4),(0,0,0),none),((68,8),(0,0,0),none),((68,9),(0,0,0),none)]), [], [(some (.inl (((-1),(-1),0),none)),[],[])])
def ddX10_tell : List (Nat × Instr × Nat) := [(0,.aload_n 0,1),(1,.getfield 31,3),(4,.istore 4,2),(6,.aload_n 0,1),(7,.getfield 38,3),(10,.getfield 47,3),(13,.ifCond .eq 10,3),(16,.iload 4,2),(18,.bipush 30,2),(20,.if_icmp .lt 5,3),(23,.iconst (-1),1),(24,.ireturn,1),(25,.aload_n 0,1),(26,.getfield 11,3),(29,.iload 4,2),(31,.iload_n 1,1),(32,.iastore,1),(33,.aload_n 0,1),(34,.getfield 15,3),(37,.iload 4,2),(39,.iload_n 2,1),(40,.iastore,1),(41,.aload_n 0,1),(42,.getfield 18,3),(45,.iload 4,2),(47,.iload_n 3,1),(48,.bastore,1),(49,.aload_n 0,1),(50,.getfield 22,3),(53,.iload 4,2),(55,.aload_n 0,1),(56,.getfield 35,3),(59,.iastore,1),(60,.aload_n 0,1),(61,.getfield 25,3),(64,.iload 4,2),(66,.iconst (-1),1),(67,.iastore,1),(68,.aload_n 0,1),(69,.dup,1),(70,.getfield 31,3),(73,.iconst 1,1),(74,.iadd,1),(75,.putfield 31,3),(78,.iload 4,2),(80,.ireturn,1)]
set_option maxRecDepth 100000 in
theorem dkX10_tell : rf_decs prog_12_method_4_code ddX10_tell := rf_decs_of (by decide +kernel)
def q446_P : rfP := (flX10,csX10,lcX10,spX10,[],[],[],([],[]))
def q446_U : rfU := []
set_option maxHeartbeats 8000000 in
def q446_N : List rfB := [(0,([(0,.inr (.inl [68])),(1,.inl ((0,387420488,1),none)),(2,.inl ((0,6,1),none)),(3,.inl ((0,1,1),none))],[],[((5,4),(0,0,0),some ((5,4),0,0)),((10,4),(0,0,0),some ((10,4),0,0)),((68,8),(0,0,0),some ((68,8),0,0)),((68,9),(0,0,0),some ((68,9),0,0))]),(8,[]),0)]
set_option maxRecDepth 100000 in
theorem q446_ok : rf_chkB q446_P q446_U wLay q446_M ddX10_tell [] [] [0] 600 q446_N = true := by decide +kernel
set_option maxHeartbeats 4000000 in
theorem q446_met {G : rfG} (h : okG G) : rf_met G q446_M := rf_methodB h.1 (P := q446_P) (U := q446_U) (N := q446_N) ⟨wflT h flokX10, wcsT h csokX10, wlcT h lcokX10, spokX10 h, fun _ h => absurd h List.not_mem_nil, fun _ h => absurd h List.not_mem_nil, fun _ h => absurd h List.not_mem_nil, fun _ h => absurd h List.not_mem_nil, fun _ h => absurd h List.not_mem_nil⟩ dkX10_tell (by decide +kernel) (by rw [h.2.2.1]; exact q446_ok)
/-- NearSpell.seen -/
def q447_M : rfM := ((⟨"NearSpell", "seen", "(IIZ)I"⟩, prog_1_method_41_code, 4, (some .int)), (1,24), ([.inr (.inl [70]),.inl (((-2147483648),2147483647,1),none),.inl (((-2147483648),2147483647,1),none),.inl ((0,1,1),none)],[((5,4),(0,0,0),none),((10,4),(0,0,0),none),((68,8),(0,0,0),none),((68,9),(0,0,0),none)]), [], [(some (.inl (((-1),(-1),0),none)),[],[])])
def ddX11_seen : List (Nat × Instr × Nat) := [(0,.iload_n 1,1),(1,.invokestatic 163,3),(4,.ifCond .eq 10,3),(7,.iload_n 2,1),(8,.invokestatic 232,3),(11,.ifCond .ne 5,3),(14,.iconst (-1),1),(15,.ireturn,1),(16,.aload_n 0,1),(17,.getfield 92,3),(20,.iload_n 1,1),(21,.iload_n 2,1),(22,.iload_n 3,1),(23,.invokevirtual 318,3),(26,.ireturn,1)]
set_option maxRecDepth 100000 in
theorem dkX11_seen : rf_decs prog_1_method_41_code ddX11_seen := rf_decs_of (by decide +kernel)
def q447_P : rfP := (flX11,csX11,lcX11,spX11,[q72_M,q445_M,q446_M],[(163,0),(232,1)],[(318,2,10)],([],[]))
def q447_U : rfU := []
set_option maxHeartbeats 8000000 in
def q447_N : List rfB := [(0,([(0,.inr (.inl [70])),(1,.inl (((-2147483648),2147483647,1),none)),(2,.inl (((-2147483648),2147483647,1),none)),(3,.inl ((0,1,1),none))],[],[((5,4),(0,0,0),some ((5,4),0,0)),((10,4),(0,0,0),some ((10,4),0,0)),((68,8),(0,0,0),some ((68,8),0,0)),((68,9),(0,0,0),some ((68,9),0,0))]),(16,[]),0)]
set_option maxRecDepth 100000 in
theorem q447_ok : rf_chkB q447_P q447_U wLay q447_M ddX11_seen [(1,[0]),(8,[1]),(23,[2])] [] [0] 18 q447_N = true := by decide +kernel
set_option maxHeartbeats 4000000 in
theorem q447_met {G : rfG} (h : okG G) : rf_met G q447_M := rf_methodB h.1 (P := q447_P) (U := q447_U) (N := q447_N) ⟨wflT h flokX11, wcsT h csokX11, wlcT h lcokX11, spokX11 h, List.forall_mem_cons.mpr ⟨q72_met h, List.forall_mem_cons.mpr ⟨q445_met h, List.forall_mem_cons.mpr ⟨q446_met h, fun _ h => absurd h List.not_mem_nil⟩⟩⟩, List.forall_mem_cons.mpr ⟨fun M hM => Option.some.inj (show some q72_M = some M from hM) ▸ wlkS (lkX11_163 h) q72_M rfl rfl, List.forall_mem_cons.mpr ⟨fun M hM => Option.some.inj (show some q445_M = some M from hM) ▸ wlkS (lkX11_232 h) q445_M rfl rfl, fun _ h => absurd h List.not_mem_nil⟩⟩, List.forall_mem_cons.mpr ⟨fun M hM => Option.some.inj (show some q446_M = some M from hM) ▸ wlkV (lkX11_318 h) q446_M rfl rfl, fun _ h => absurd h List.not_mem_nil⟩, fun _ h => absurd h List.not_mem_nil, fun _ h => absurd h List.not_mem_nil⟩ dkX11_seen (by decide +kernel) (by rw [h.2.2.1]; exact q447_ok)
/-- NearSpellModel.isIn -/
def q448_M : rfM := ((⟨"NearSpellModel", "isIn", "(III)Z"⟩, prog_14_method_35_code, 3, (some .boolean)), (0,0), ([.inl (((-2147483648),2147483647,1),none),.inl ((0,0,0),none),.inl ((6,6,0),none)],[]), [], [(some (.inl ((1,1,0),none)),[(0,0,6)],[]),(some (.inl ((0,0,0),none)),[],[])])
def q448_P : rfP := (flX12,csX12,lcX12,spX12,[],[],[],([],[]))
def q448_U : rfU := []
set_option maxHeartbeats 8000000 in
def q448_N : List rfB := [(0,([(0,.inl (((-2147483648),2147483647,1),none)),(1,.inl ((0,0,0),none)),(2,.inl ((6,6,0),none))],[],[]),(10,[]),0)]
set_option maxRecDepth 100000 in
theorem q448_ok : rf_chkB q448_P q448_U wLay q448_M ddX12_isIn [] [] [0] 14 q448_N = true := by decide +kernel
set_option maxHeartbeats 4000000 in
theorem q448_met {G : rfG} (h : okG G) : rf_met G q448_M := rf_methodB h.1 (P := q448_P) (U := q448_U) (N := q448_N) ⟨wflT h flokX12, wcsT h csokX12, wlcT h lcokX12, spokX12 h, fun _ h => absurd h List.not_mem_nil, fun _ h => absurd h List.not_mem_nil, fun _ h => absurd h List.not_mem_nil, fun _ h => absurd h List.not_mem_nil, fun _ h => absurd h List.not_mem_nil⟩ dkX12_isIn (by decide +kernel) (by rw [h.2.2.1]; exact q448_ok)
/-- NearSpellModel.seen -/
def q449_M : rfM := ((⟨"NearSpellModel", "seen", "(IIZ)I"⟩, prog_14_method_117_code, 4, (some .int)), (2,43), ([.inr (.inl [114]),.inl (((-2147483648),2147483647,1),none),.inl (((-2147483648),2147483647,1),none),.inl ((0,1,1),none)],[((73,0),(0,0,0),none),((114,28),(0,0,0),none),((114,63),(0,0,0),none),((114,64),(0,0,0),none)]), [], [(some (.inl (((-1),(-1),0),none)),[],[])])
def ddX12_seen : List (Nat × Instr × Nat) := [(0,.iload_n 1,1),(1,.invokestatic 420,3),(4,.ifCond .eq 34,3),(7,.iload_n 2,1),(8,.iconst 0,1),(9,.bipush 6,2),(11,.invokestatic 334,3),(14,.ifCond .eq 24,3),(17,.aload_n 0,1),(18,.getfield 344,3),(21,.bipush 30,2),(23,.if_icmp .eq 15,3),(26,.aload_n 0,1),(27,.getfield 20,3),(30,.aload_n 0,1),(31,.getfield 242,3),(34,.iaload,1),(35,.ifCond .ne 5,3),(38,.iconst (-1),1),(39,.ireturn,1),(40,.aload_n 0,1),(41,.getfield 120,3),(44,.aload_n 0,1),(45,.getfield 344,3),(48,.iload_n 1,1),(49,.iastore,1),(50,.aload_n 0,1),(51,.getfield 123,3),(54,.aload_n 0,1),(55,.getfield 344,3),(58,.iload_n 2,1),(59,.iastore,1),(60,.aload_n 0,1),(61,.getfield 126,3),(64,.aload_n 0,1),(65,.getfield 344,3),(68,.iload_n 3,1),(69,.ifCond .eq 7,3),(72,.iconst 1,1),(73,.goto 4,3),(76,.iconst 0,1),(77,.iastore,1),(78,.aload_n 0,1),(79,.getfield 129,3),(82,.aload_n 0,1),(83,.getfield 344,3),(86,.aload_n 0,1),(87,.getfield 483,3),(90,.iastore,1),(91,.aload_n 0,1),(92,.getfield 132,3),(95,.aload_n 0,1),(96,.getfield 344,3),(99,.iconst (-1),1),(100,.iastore,1),(101,.aload_n 0,1),(102,.dup,1),(103,.getfield 344,3),(106,.iconst 1,1),(107,.iadd,1),(108,.putfield 344,3),(111,.aload_n 0,1),(112,.getfield 344,3),(115,.iconst 1,1),(116,.isub,1),(117,.ireturn,1)]
set_option maxRecDepth 100000 in
theorem dkX12_seen : rf_decs prog_14_method_117_code ddX12_seen := rf_decs_of (by decide +kernel)
def q449_P : rfP := (flX12,csX12,lcX12,spX12,[q75_M,q448_M],[(334,1),(420,0)],[],([],[]))
def q449_U : rfU := []
set_option maxHeartbeats 8000000 in
def q449_N : List rfB := [(0,([(0,.inr (.inl [114])),(1,.inl (((-2147483648),2147483647,1),none)),(2,.inl (((-2147483648),2147483647,1),none)),(3,.inl ((0,1,1),none))],[],[((73,0),(0,0,0),some ((73,0),0,0)),((114,28),(0,0,0),some ((114,28),0,0)),((114,63),(0,0,0),some ((114,63),0,0)),((114,64),(0,0,0),some ((114,64),0,0))]),(21,[]),0)]
set_option maxRecDepth 100000 in
theorem q449_ok : rf_chkB q449_P q449_U wLay q449_M ddX12_seen [(1,[0]),(11,[1])] [] [0] 25 q449_N = true := by decide +kernel
set_option maxHeartbeats 4000000 in
theorem q449_met {G : rfG} (h : okG G) : rf_met G q449_M := rf_methodB h.1 (P := q449_P) (U := q449_U) (N := q449_N) ⟨wflT h flokX12, wcsT h csokX12, wlcT h lcokX12, spokX12 h, List.forall_mem_cons.mpr ⟨q75_met h, List.forall_mem_cons.mpr ⟨q448_met h, fun _ h => absurd h List.not_mem_nil⟩⟩, List.forall_mem_cons.mpr ⟨fun M hM => Option.some.inj (show some q448_M = some M from hM) ▸ wlkS (lkX12_334 h) q448_M rfl rfl, List.forall_mem_cons.mpr ⟨fun M hM => Option.some.inj (show some q75_M = some M from hM) ▸ wlkS (lkX12_420 h) q75_M rfl rfl, fun _ h => absurd h List.not_mem_nil⟩⟩, fun _ h => absurd h List.not_mem_nil, fun _ h => absurd h List.not_mem_nil, fun _ h => absurd h List.not_mem_nil⟩ dkX12_seen (by decide +kernel) (by rw [h.2.2.1]; exact q449_ok)
/-- NearSpell.Witness.takeBack -/
def q450_M : rfM := ((⟨"NearSpell$Witness", "takeBack", "(I)Z"⟩, prog_12_method_5_code, 2, (some .boolean)), (0,0), ([.inr (.inl [68]),.inl (((-2147483648),2147483647,1),none)],[((68,8),(0,0,0),none),((68,9),(0,0,0),none)]), [], [(some (.inl ((0,0,0),none)),[],[])])
def ddX10_takeBack : List (Nat × Instr × Nat) := [(0,.iload_n 1,1),(1,.ifCond .lt 21,3),(4,.iload_n 1,1),(5,.aload_n 0,1),(6,.getfield 31,3),(9,.if_icmp .ge 13,3),(12,.aload_n 0,1),(13,.getfield 25,3),(16,.iload_n 1,1),(17,.iaload,1),(18,.iconst (-1),1),(19,.if_icmp .eq 5,3),(22,.iconst 0,1),(23,.ireturn,1),(24,.aload_n 0,1),(25,.getfield 25,3),(28,.iload_n 1,1),(29,.aload_n 0,1),(30,.getfield 35,3),(33,.iastore,1),(34,.iconst 1,1),(35,.ireturn,1)]
set_option maxRecDepth 100000 in
theorem dkX10_takeBack : rf_decs prog_12_method_5_code ddX10_takeBack := rf_decs_of (by decide +kernel)
def q450_P : rfP := (flX10,csX10,lcX10,spX10,[],[],[],([],[]))
def q450_U : rfU := []
set_option maxHeartbeats 8000000 in
def q450_N : List rfB := [(0,([(0,.inr (.inl [68])),(1,.inl (((-2147483648),2147483647,1),none))],[],[((68,8),(0,0,0),some ((68,8),0,0)),((68,9),(0,0,0),some ((68,9),0,0))]),(7,[]),0)]
set_option maxRecDepth 100000 in
theorem q450_ok : rf_chkB q450_P q450_U wLay q450_M ddX10_takeBack [] [] [0] 13 q450_N = true := by decide +kernel
set_option maxHeartbeats 4000000 in
theorem q450_met {G : rfG} (h : okG G) : rf_met G q450_M := rf_methodB h.1 (P := q450_P) (U := q450_U) (N := q450_N) ⟨wflT h flokX10, wcsT h csokX10, wlcT h lcokX10, spokX10 h, fun _ h => absurd h List.not_mem_nil, fun _ h => absurd h List.not_mem_nil, fun _ h => absurd h List.not_mem_nil, fun _ h => absurd h List.not_mem_nil, fun _ h => absurd h List.not_mem_nil⟩ dkX10_takeBack (by decide +kernel) (by rw [h.2.2.1]; exact q450_ok)
/-- NearSpell.untell -/
def q451_M : rfM := ((⟨"NearSpell", "untell", "(I)Z"⟩, prog_1_method_42_code, 2, (some .boolean)), (1,21), ([.inr (.inl [70]),.inl (((-2147483648),2147483647,1),none)],[((68,8),(0,0,0),none),((68,9),(0,0,0),none)]), [], [(some (.inl ((0,0,0),none)),[],[])])
def ddX11_untell : List (Nat × Instr × Nat) := [(0,.aload_n 0,1),(1,.getfield 92,3),(4,.iload_n 1,1),(5,.invokevirtual 322,3),(8,.ireturn,1)]
set_option maxRecDepth 100000 in
theorem dkX11_untell : rf_decs prog_1_method_42_code ddX11_untell := rf_decs_of (by decide +kernel)
def q451_P : rfP := (flX11,csX11,lcX11,spX11,[q450_M],[],[(322,0,10)],([],[]))
def q451_U : rfU := []
set_option maxHeartbeats 8000000 in
def q451_N : List rfB := [(0,([(0,.inr (.inl [70])),(1,.inl (((-2147483648),2147483647,1),none))],[],[((68,8),(0,0,0),some ((68,8),0,0)),((68,9),(0,0,0),some ((68,9),0,0))]),(4,[]),0)]
set_option maxRecDepth 100000 in
theorem q451_ok : rf_chkB q451_P q451_U wLay q451_M ddX11_untell [(5,[0])] [] [0] 600 q451_N = true := by decide +kernel
set_option maxHeartbeats 4000000 in
theorem q451_met {G : rfG} (h : okG G) : rf_met G q451_M := rf_methodB h.1 (P := q451_P) (U := q451_U) (N := q451_N) ⟨wflT h flokX11, wcsT h csokX11, wlcT h lcokX11, spokX11 h, List.forall_mem_cons.mpr ⟨q450_met h, fun _ h => absurd h List.not_mem_nil⟩, fun _ h => absurd h List.not_mem_nil, List.forall_mem_cons.mpr ⟨fun M hM => Option.some.inj (show some q450_M = some M from hM) ▸ wlkV (lkX11_322 h) q450_M rfl rfl, fun _ h => absurd h List.not_mem_nil⟩, fun _ h => absurd h List.not_mem_nil, fun _ h => absurd h List.not_mem_nil⟩ dkX11_untell (by decide +kernel) (by rw [h.2.2.1]; exact q451_ok)
/-- NearSpellModel.untell -/
def q452_M : rfM := ((⟨"NearSpellModel", "untell", "(I)Z"⟩, prog_14_method_118_code, 2, (some .boolean)), (1,22), ([.inr (.inl [114]),.inl (((-2147483648),2147483647,1),none)],[((114,63),(0,0,0),none),((114,64),(0,0,0),none)]), [], [(some (.inl ((0,0,0),none)),[],[])])
def ddX12_untell : List (Nat × Instr × Nat) := [(0,.iload_n 1,1),(1,.iconst 0,1),(2,.aload_n 0,1),(3,.getfield 344,3),(6,.iconst 1,1),(7,.isub,1),(8,.invokestatic 334,3),(11,.ifCond .eq 12,3),(14,.aload_n 0,1),(15,.getfield 132,3),(18,.iload_n 1,1),(19,.iaload,1),(20,.ifCond .lt 5,3),(23,.iconst 0,1),(24,.ireturn,1),(25,.aload_n 0,1),(26,.getfield 132,3),(29,.iload_n 1,1),(30,.aload_n 0,1),(31,.getfield 483,3),(34,.iastore,1),(35,.iconst 1,1),(36,.ireturn,1)]
set_option maxRecDepth 100000 in
theorem dkX12_untell : rf_decs prog_14_method_118_code ddX12_untell := rf_decs_of (by decide +kernel)
def q452_P : rfP := (flX12,csX12,lcX12,spX12,[q40_M],[(334,0)],[],([],[]))
def q452_U : rfU := []
set_option maxHeartbeats 8000000 in
def q452_N : List rfB := [(0,([(0,.inr (.inl [114])),(1,.inl (((-2147483648),2147483647,1),none))],[],[((114,63),(0,0,0),some ((114,63),0,0)),((114,64),(0,0,0),some ((114,64),0,0))]),(9,[]),0)]
set_option maxRecDepth 100000 in
theorem q452_ok : rf_chkB q452_P q452_U wLay q452_M ddX12_untell [(8,[0])] [] [0] 600 q452_N = true := by decide +kernel
set_option maxHeartbeats 4000000 in
theorem q452_met {G : rfG} (h : okG G) : rf_met G q452_M := rf_methodB h.1 (P := q452_P) (U := q452_U) (N := q452_N) ⟨wflT h flokX12, wcsT h csokX12, wlcT h lcokX12, spokX12 h, List.forall_mem_cons.mpr ⟨q40_met h, fun _ h => absurd h List.not_mem_nil⟩, List.forall_mem_cons.mpr ⟨fun M hM => Option.some.inj (show some q40_M = some M from hM) ▸ wlkS (lkX12_334 h) q40_M rfl rfl, fun _ h => absurd h List.not_mem_nil⟩, fun _ h => absurd h List.not_mem_nil, fun _ h => absurd h List.not_mem_nil, fun _ h => absurd h List.not_mem_nil⟩ dkX12_untell (by decide +kernel) (by rw [h.2.2.1]; exact q452_ok)
/-- NearSpell.Witness.fitting -/
def q453_M : rfM := ((⟨"NearSpell$Witness", "fitting", "(I)I"⟩, prog_12_method_7_code, 4, (some .int)), (0,0), ([.inr (.inl [68]),.inl (((-2147483648),2147483647,1),none)],[((5,4),(0,0,0),none),((10,4),(0,0,0),none),((20,3),(0,0,0),none),((20,4),(0,0,0),none),((68,8),(0,0,0),none)]), [], [(some (.inl ((0,0,0),none)),[],[])])
def ddX10_fitting : List (Nat × Instr × Nat) := [(0,.iconst 0,1),(1,.istore_n 2,1),(2,.iconst 0,1),(3,.istore_n 3,1),(4,.iload_n 3,1),(5,.aload_n 0,1),(6,.getfield 38,3),(9,.getfield 47,3),(12,.if_icmp .ge 32,3),(15,.aload_n 0,1),(16,.aload_n 0,1),(17,.getfield 38,3),(20,.getfield 52,3),(23,.iload_n 3,1),(24,.iaload,1),(25,.iload_n 1,1),(26,.invokevirtual 55,3),(29,.ifCond .eq 9,3),(32,.iload_n 2,1),(33,.iconst 1,1),(34,.iload_n 3,1),(35,.ishl,1),(36,.ior,1),(37,.istore_n 2,1),(38,.iinc 3 1,3),(41,.goto (-37),3),(44,.iload_n 2,1),(45,.ireturn,1)]
set_option maxRecDepth 100000 in
theorem dkX10_fitting : rf_decs prog_12_method_7_code ddX10_fitting := rf_decs_of (by decide +kernel)
def q453_P : rfP := (flX10,csX10,lcX10,spX10,[],[],[],([],[]))
def q453_U : rfU := []
set_option maxHeartbeats 8000000 in
def q453_N : List rfB := [(0,([(0,.inr (.inl [68])),(1,.inl (((-2147483648),2147483647,1),none))],[],[((5,4),(0,0,0),some ((5,4),0,0)),((10,4),(0,0,0),some ((10,4),0,0)),((20,3),(0,0,0),some ((20,3),0,0)),((20,4),(0,0,0),some ((20,4),0,0)),((68,8),(0,0,0),some ((68,8),0,0))]),(10,[]),0)]
set_option maxRecDepth 100000 in
theorem q453_ok : rf_chkB q453_P q453_U wLay q453_M ddX10_fitting [] [] [0] 600 q453_N = true := by decide +kernel
set_option maxHeartbeats 4000000 in
theorem q453_met {G : rfG} (h : okG G) : rf_met G q453_M := rf_methodB h.1 (P := q453_P) (U := q453_U) (N := q453_N) ⟨wflT h flokX10, wcsT h csokX10, wlcT h lcokX10, spokX10 h, fun _ h => absurd h List.not_mem_nil, fun _ h => absurd h List.not_mem_nil, fun _ h => absurd h List.not_mem_nil, fun _ h => absurd h List.not_mem_nil, fun _ h => absurd h List.not_mem_nil⟩ dkX10_fitting (by decide +kernel) (by rw [h.2.2.1]; exact q453_ok)
/-- NearSpell.fits -/
def q454_M : rfM := ((⟨"NearSpell", "fits", "(I)I"⟩, prog_1_method_44_code, 2, (some .int)), (1,23), ([.inr (.inl [70]),.inl (((-2147483648),2147483647,1),none)],[((5,4),(0,0,0),none),((10,4),(0,0,0),none),((20,3),(0,0,0),none),((20,4),(0,0,0),none),((68,8),(0,0,0),none)]), [], [(some (.inl ((0,0,0),none)),[],[])])
def ddX11_fits : List (Nat × Instr × Nat) := [(0,.aload_n 0,1),(1,.getfield 92,3),(4,.iload_n 1,1),(5,.invokevirtual 327,3),(8,.ireturn,1)]
set_option maxRecDepth 100000 in
theorem dkX11_fits : rf_decs prog_1_method_44_code ddX11_fits := rf_decs_of (by decide +kernel)
def q454_P : rfP := (flX11,csX11,lcX11,spX11,[q453_M],[],[(327,0,10)],([],[]))
def q454_U : rfU := []
set_option maxHeartbeats 8000000 in
def q454_N : List rfB := [(0,([(0,.inr (.inl [70])),(1,.inl (((-2147483648),2147483647,1),none))],[],[((5,4),(0,0,0),some ((5,4),0,0)),((10,4),(0,0,0),some ((10,4),0,0)),((20,3),(0,0,0),some ((20,3),0,0)),((20,4),(0,0,0),some ((20,4),0,0)),((68,8),(0,0,0),some ((68,8),0,0))]),(4,[]),0)]
set_option maxRecDepth 100000 in
theorem q454_ok : rf_chkB q454_P q454_U wLay q454_M ddX11_fits [(5,[0])] [] [0] 600 q454_N = true := by decide +kernel
set_option maxHeartbeats 4000000 in
theorem q454_met {G : rfG} (h : okG G) : rf_met G q454_M := rf_methodB h.1 (P := q454_P) (U := q454_U) (N := q454_N) ⟨wflT h flokX11, wcsT h csokX11, wlcT h lcokX11, spokX11 h, List.forall_mem_cons.mpr ⟨q453_met h, fun _ h => absurd h List.not_mem_nil⟩, fun _ h => absurd h List.not_mem_nil, List.forall_mem_cons.mpr ⟨fun M hM => Option.some.inj (show some q453_M = some M from hM) ▸ wlkV (lkX11_327 h) q453_M rfl rfl, fun _ h => absurd h List.not_mem_nil⟩, fun _ h => absurd h List.not_mem_nil, fun _ h => absurd h List.not_mem_nil⟩ dkX11_fits (by decide +kernel) (by rw [h.2.2.1]; exact q454_ok)
/-- NearSpellModel.fits -/
def q455_M : rfM := ((⟨"NearSpellModel", "fits", "(I)I"⟩, prog_14_method_122_code, 4, (some .int)), (0,0), ([.inr (.inl [114]),.inl (((-2147483648),2147483647,1),none)],[((73,0),(0,0,0),none),((114,28),(0,0,0),none),((114,44),(0,0,0),none),((114,45),(0,0,0),none),((114,63),(0,0,0),none)]), [], [(some (.inl ((0,0,0),none)),[],[])])
def ddX12_fits : List (Nat × Instr × Nat) := [(0,.iconst 0,1),(1,.istore_n 2,1),(2,.iconst 0,1),(3,.istore_n 3,1),(4,.iload_n 3,1),(5,.aload_n 0,1),(6,.getfield 20,3),(9,.aload_n 0,1),(10,.getfield 242,3),(13,.iaload,1),(14,.if_icmp .ge 24,3),(17,.aload_n 0,1),(18,.iload_n 3,1),(19,.iload_n 1,1),(20,.invokevirtual 493,3),(23,.ifCond .eq 9,3),(26,.iload_n 2,1),(27,.iconst 1,1),(28,.iload_n 3,1),(29,.ishl,1),(30,.ior,1),(31,.istore_n 2,1),(32,.iinc 3 1,3),(35,.goto (-31),3),(38,.iload_n 2,1),(39,.ireturn,1)]
set_option maxRecDepth 100000 in
theorem dkX12_fits : rf_decs prog_14_method_122_code ddX12_fits := rf_decs_of (by decide +kernel)
def q455_P : rfP := (flX12,csX12,lcX12,spX12,[],[],[],([],[]))
def q455_U : rfU := []
set_option maxHeartbeats 8000000 in
def q455_N : List rfB := [(0,([(0,.inr (.inl [114])),(1,.inl (((-2147483648),2147483647,1),none))],[],[((73,0),(0,0,0),some ((73,0),0,0)),((114,28),(0,0,0),some ((114,28),0,0)),((114,44),(0,0,0),some ((114,44),0,0)),((114,45),(0,0,0),some ((114,45),0,0)),((114,63),(0,0,0),some ((114,63),0,0))]),(12,[]),0)]
set_option maxRecDepth 100000 in
theorem q455_ok : rf_chkB q455_P q455_U wLay q455_M ddX12_fits [] [] [0] 600 q455_N = true := by decide +kernel
set_option maxHeartbeats 4000000 in
theorem q455_met {G : rfG} (h : okG G) : rf_met G q455_M := rf_methodB h.1 (P := q455_P) (U := q455_U) (N := q455_N) ⟨wflT h flokX12, wcsT h csokX12, wlcT h lcokX12, spokX12 h, fun _ h => absurd h List.not_mem_nil, fun _ h => absurd h List.not_mem_nil, fun _ h => absurd h List.not_mem_nil, fun _ h => absurd h List.not_mem_nil, fun _ h => absurd h List.not_mem_nil⟩ dkX12_fits (by decide +kernel) (by rw [h.2.2.1]; exact q455_ok)
/-- NearSpell.Witness.bestToAsk -/
def q456_M : rfM := ((⟨"NearSpell$Witness", "bestToAsk", "(II)I"⟩, prog_12_method_9_code, 8, (some .int)), (1,23), ([.inr (.inl [68]),.inl ((0,1,1),none),.inl (((-2147483648),2147483647,1),none)],[((5,4),(0,0,0),none),((10,4),(0,0,0),none),((20,3),(0,0,0),none),((20,4),(0,0,0),none),((68,8),(0,0,0),none)]), [], [(some (.inl (((-1),(-1),0),none)),[],[])])
def ddX10_bestToAsk : List (Nat × Instr × Nat) := [(0,.aload_n 0,1),(1,.iload_n 2,1),(2,.invokevirtual 72,3),(5,.istore_n 3,1),(6,.iload_n 3,1),(7,.ifCond .ne 5,3),(10,.iconst (-1),1),(11,.ireturn,1),(12,.iconst (-1),1),(13,.istore 4,2),(15,.bipush 11,2),(17,.istore 5,2),(19,.iconst 0,1),(20,.istore 6,2),(22,.iload 6,2),(24,.aload_n 0,1),(25,.getfield 38,3),(28,.getfield 47,3),(31,.if_icmp .ge 41,3),(34,.aload_n 0,1),(35,.aload_n 0,1),(36,.getfield 38,3),(39,.getfield 52,3),(42,.iload 6,2),(44,.iaload,1),(45,.iload_n 3,1),(46,.invokevirtual 75,3),(49,.istore 7,2),(51,.iload 7,2),(53,.iload 5,2),(55,.if_icmp .ge 11,3),(58,.iload 6,2),(60,.istore 4,2),(62,.iload 7,2),(64,.istore 5,2),(66,.iinc 6 1,3),(69,.goto (-47),3),(72,.iload_n 1,1),(73,.ifCond .ne 8,3),(76,.iload 4,2),(78,.goto 5,3),(81,.iload 5,2),(83,.ireturn,1)]
set_option maxRecDepth 100000 in
theorem dkX10_bestToAsk : rf_decs prog_12_method_9_code ddX10_bestToAsk := rf_decs_of (by decide +kernel)
def q456_P : rfP := (flX10,csX10,lcX10,spX10,[q453_M],[],[(72,0,10)],([],[]))
def q456_U : rfU := []
set_option maxHeartbeats 8000000 in
def q456_N : List rfB := [(0,([(0,.inr (.inl [68])),(1,.inl ((0,1,1),none)),(2,.inl (((-2147483648),2147483647,1),none))],[],[((5,4),(0,0,0),some ((5,4),0,0)),((10,4),(0,0,0),some ((10,4),0,0)),((20,3),(0,0,0),some ((20,3),0,0)),((20,4),(0,0,0),some ((20,4),0,0)),((68,8),(0,0,0),some ((68,8),0,0))]),(7,[]),0)]
set_option maxRecDepth 100000 in
theorem q456_ok : rf_chkB q456_P q456_U wLay q456_M ddX10_bestToAsk [(2,[0])] [] [0] 600 q456_N = true := by decide +kernel
set_option maxHeartbeats 4000000 in
theorem q456_met {G : rfG} (h : okG G) : rf_met G q456_M := rf_methodB h.1 (P := q456_P) (U := q456_U) (N := q456_N) ⟨wflT h flokX10, wcsT h csokX10, wlcT h lcokX10, spokX10 h, List.forall_mem_cons.mpr ⟨q453_met h, fun _ h => absurd h List.not_mem_nil⟩, fun _ h => absurd h List.not_mem_nil, List.forall_mem_cons.mpr ⟨fun M hM => Option.some.inj (show some q453_M = some M from hM) ▸ wlkV (lkX10_72 h) q453_M rfl rfl, fun _ h => absurd h List.not_mem_nil⟩, fun _ h => absurd h List.not_mem_nil, fun _ h => absurd h List.not_mem_nil⟩ dkX10_bestToAsk (by decide +kernel) (by rw [h.2.2.1]; exact q456_ok)
/-- NearSpell.ask -/
def q457_M : rfM := ((⟨"NearSpell", "ask", "(II)I"⟩, prog_1_method_45_code, 3, (some .int)), (2,50), ([.inr (.inl [70]),.inl (((-2147483648),2147483647,1),none),.inl (((-2147483648),2147483647,1),none)],[((5,4),(0,0,0),none),((10,4),(0,0,0),none),((20,3),(0,0,0),none),((20,4),(0,0,0),none),((68,8),(0,0,0),none)]), [], [(some (.inl (((-1),(-1),0),none)),[],[])])
def ddX11_ask : List (Nat × Instr × Nat) := [(0,.iload_n 1,1),(1,.ifCond .lt 8,3),(4,.iload_n 1,1),(5,.iconst 1,1),(6,.if_icmp .le 5,3),(9,.iconst (-1),1),(10,.ireturn,1),(11,.aload_n 0,1),(12,.getfield 92,3),(15,.iload_n 1,1),(16,.iload_n 2,1),(17,.invokevirtual 330,3),(20,.ireturn,1)]
set_option maxRecDepth 100000 in
theorem dkX11_ask : rf_decs prog_1_method_45_code ddX11_ask := rf_decs_of (by decide +kernel)
def q457_P : rfP := (flX11,csX11,lcX11,spX11,[q456_M],[],[(330,0,10)],([],[]))
def q457_U : rfU := []
set_option maxHeartbeats 8000000 in
def q457_N : List rfB := [(0,([(0,.inr (.inl [70])),(1,.inl (((-2147483648),2147483647,1),none)),(2,.inl (((-2147483648),2147483647,1),none))],[],[((5,4),(0,0,0),some ((5,4),0,0)),((10,4),(0,0,0),some ((10,4),0,0)),((20,3),(0,0,0),some ((20,3),0,0)),((20,4),(0,0,0),some ((20,4),0,0)),((68,8),(0,0,0),some ((68,8),0,0))]),(12,[]),0)]
set_option maxRecDepth 100000 in
theorem q457_ok : rf_chkB q457_P q457_U wLay q457_M ddX11_ask [(17,[0])] [] [0] 16 q457_N = true := by decide +kernel
set_option maxHeartbeats 4000000 in
theorem q457_met {G : rfG} (h : okG G) : rf_met G q457_M := rf_methodB h.1 (P := q457_P) (U := q457_U) (N := q457_N) ⟨wflT h flokX11, wcsT h csokX11, wlcT h lcokX11, spokX11 h, List.forall_mem_cons.mpr ⟨q456_met h, fun _ h => absurd h List.not_mem_nil⟩, fun _ h => absurd h List.not_mem_nil, List.forall_mem_cons.mpr ⟨fun M hM => Option.some.inj (show some q456_M = some M from hM) ▸ wlkV (lkX11_330 h) q456_M rfl rfl, fun _ h => absurd h List.not_mem_nil⟩, fun _ h => absurd h List.not_mem_nil, fun _ h => absurd h List.not_mem_nil⟩ dkX11_ask (by decide +kernel) (by rw [h.2.2.1]; exact q457_ok)
/-- NearSpellModel.isIn -/
def q458_M : rfM := ((⟨"NearSpellModel", "isIn", "(III)Z"⟩, prog_14_method_35_code, 3, (some .boolean)), (0,0), ([.inl (((-2147483648),2147483647,1),none),.inl ((0,0,0),none),.inl ((1,1,0),none)],[]), [], [(some (.inl ((1,1,0),none)),[(0,0,1)],[]),(some (.inl ((0,0,0),none)),[],[])])
def q458_P : rfP := (flX12,csX12,lcX12,spX12,[],[],[],([],[]))
def q458_U : rfU := []
set_option maxHeartbeats 8000000 in
def q458_N : List rfB := [(0,([(0,.inl (((-2147483648),2147483647,1),none)),(1,.inl ((0,0,0),none)),(2,.inl ((1,1,0),none))],[],[]),(10,[]),0)]
set_option maxRecDepth 100000 in
theorem q458_ok : rf_chkB q458_P q458_U wLay q458_M ddX12_isIn [] [] [0] 14 q458_N = true := by decide +kernel
set_option maxHeartbeats 4000000 in
theorem q458_met {G : rfG} (h : okG G) : rf_met G q458_M := rf_methodB h.1 (P := q458_P) (U := q458_U) (N := q458_N) ⟨wflT h flokX12, wcsT h csokX12, wlcT h lcokX12, spokX12 h, fun _ h => absurd h List.not_mem_nil, fun _ h => absurd h List.not_mem_nil, fun _ h => absurd h List.not_mem_nil, fun _ h => absurd h List.not_mem_nil, fun _ h => absurd h List.not_mem_nil⟩ dkX12_isIn (by decide +kernel) (by rw [h.2.2.1]; exact q458_ok)
/-- NearSpellModel.ask -/
def q459_M : rfM := ((⟨"NearSpellModel", "ask", "(II)I"⟩, prog_14_method_124_code, 8, (some .int)), (1,23), ([.inr (.inl [114]),.inl (((-2147483648),2147483647,1),none),.inl (((-2147483648),2147483647,1),none)],[((73,0),(0,0,0),none),((114,28),(0,0,0),none),((114,44),(0,0,0),none),((114,45),(0,0,0),none),((114,63),(0,0,0),none)]), [], [(some (.inl (((-1),(-1),0),none)),[],[])])
def ddX12_ask : List (Nat × Instr × Nat) := [(0,.aload_n 0,1),(1,.iload_n 2,1),(2,.invokevirtual 496,3),(5,.istore_n 3,1),(6,.iload_n 1,1),(7,.iconst 0,1),(8,.iconst 1,1),(9,.invokestatic 334,3),(12,.ifCond .eq 7,3),(15,.iload_n 3,1),(16,.ifCond .ne 5,3),(19,.iconst (-1),1),(20,.ireturn,1),(21,.iconst (-1),1),(22,.istore 4,2),(24,.sipush 1000,3),(27,.istore 5,2),(29,.iconst 0,1),(30,.istore 6,2),(32,.iload 6,2),(34,.aload_n 0,1),(35,.getfield 20,3),(38,.aload_n 0,1),(39,.getfield 242,3),(42,.iaload,1),(43,.if_icmp .ge 36,3),(46,.aload_n 0,1),(47,.iload 6,2),(49,.iload_n 3,1),(50,.invokevirtual 499,3),(53,.istore 7,2),(55,.iload 7,2),(57,.iload 5,2),(59,.if_icmp .lt 6,3),(62,.goto 11,3),(65,.iload 6,2),(67,.istore 4,2),(69,.iload 7,2),(71,.istore 5,2),(73,.iinc 6 1,3),(76,.goto (-44),3),(79,.iload_n 1,1),(80,.ifCond .ne 8,3),(83,.iload 4,2),(85,.goto 5,3),(88,.iload 5,2),(90,.ireturn,1)]
set_option maxRecDepth 100000 in
theorem dkX12_ask : rf_decs prog_14_method_124_code ddX12_ask := rf_decs_of (by decide +kernel)
def q459_P : rfP := (flX12,csX12,lcX12,spX12,[q455_M,q458_M],[(334,1)],[(496,0,12)],([],[]))
def q459_U : rfU := []
set_option maxHeartbeats 8000000 in
def q459_N : List rfB := [(0,([(0,.inr (.inl [114])),(1,.inl (((-2147483648),2147483647,1),none)),(2,.inl (((-2147483648),2147483647,1),none))],[],[((73,0),(0,0,0),some ((73,0),0,0)),((114,28),(0,0,0),some ((114,28),0,0)),((114,44),(0,0,0),some ((114,44),0,0)),((114,45),(0,0,0),some ((114,45),0,0)),((114,63),(0,0,0),some ((114,63),0,0))]),(13,[]),0)]
set_option maxRecDepth 100000 in
theorem q459_ok : rf_chkB q459_P q459_U wLay q459_M ddX12_ask [(2,[0]),(9,[1])] [] [0] 18 q459_N = true := by decide +kernel
set_option maxHeartbeats 4000000 in
theorem q459_met {G : rfG} (h : okG G) : rf_met G q459_M := rf_methodB h.1 (P := q459_P) (U := q459_U) (N := q459_N) ⟨wflT h flokX12, wcsT h csokX12, wlcT h lcokX12, spokX12 h, List.forall_mem_cons.mpr ⟨q455_met h, List.forall_mem_cons.mpr ⟨q458_met h, fun _ h => absurd h List.not_mem_nil⟩⟩, List.forall_mem_cons.mpr ⟨fun M hM => Option.some.inj (show some q458_M = some M from hM) ▸ wlkS (lkX12_334 h) q458_M rfl rfl, fun _ h => absurd h List.not_mem_nil⟩, List.forall_mem_cons.mpr ⟨fun M hM => Option.some.inj (show some q455_M = some M from hM) ▸ wlkV (lkX12_496 h) q455_M rfl rfl, fun _ h => absurd h List.not_mem_nil⟩, fun _ h => absurd h List.not_mem_nil, fun _ h => absurd h List.not_mem_nil⟩ dkX12_ask (by decide +kernel) (by rw [h.2.2.1]; exact q459_ok)
/-- NearSpell.image -/
def q460_M : rfM := ((⟨"NearSpell", "image", "(I)I"⟩, prog_1_method_46_code, 2, (some .int)), (0,0), ([.inr (.inl [70]),.inl (((-2147483648),(-1),1),none)],[((12,34),(0,0,0),none),((12,35),(0,0,0),none),((12,36),(0,0,0),none),((16,2),(0,0,0),none)]), [], [(some (.inl (((-1),(-1),0),none)),[],[])])
def ddX11_image : List (Nat × Instr × Nat) := [(0,.iload_n 1,1),(1,.ifCond .lt 8,3),(4,.iload_n 1,1),(5,.iconst 3,1),(6,.if_icmp .lt 5,3),(9,.iconst (-1),1),(10,.ireturn,1),(11,.aload_n 0,1),(12,.getfield 42,3),(15,.iload_n 1,1),(16,.aload_n 0,1),(17,.getfield 35,3),(20,.invokevirtual 333,3),(23,.aload_n 0,1),(24,.getfield 35,3),(27,.invokevirtual 183,3),(30,.ireturn,1)]
set_option maxRecDepth 100000 in
theorem dkX11_image : rf_decs prog_1_method_46_code ddX11_image := rf_decs_of (by decide +kernel)
def q460_P : rfP := (flX11,csX11,lcX11,spX11,[],[],[],([],[]))
def q460_U : rfU := []
set_option maxHeartbeats 8000000 in
def q460_N : List rfB := [(0,([(0,.inr (.inl [70])),(1,.inl (((-2147483648),(-1),1),none))],[],[((12,34),(0,0,0),some ((12,34),0,0)),((12,35),(0,0,0),some ((12,35),0,0)),((12,36),(0,0,0),some ((12,36),0,0)),((16,2),(0,0,0),some ((16,2),0,0))]),(3,[]),0)]
set_option maxRecDepth 100000 in
theorem q460_ok : rf_chkB q460_P q460_U wLay q460_M ddX11_image [] [] [0] 600 q460_N = true := by decide +kernel
set_option maxHeartbeats 4000000 in
theorem q460_met {G : rfG} (h : okG G) : rf_met G q460_M := rf_methodB h.1 (P := q460_P) (U := q460_U) (N := q460_N) ⟨wflT h flokX11, wcsT h csokX11, wlcT h lcokX11, spokX11 h, fun _ h => absurd h List.not_mem_nil, fun _ h => absurd h List.not_mem_nil, fun _ h => absurd h List.not_mem_nil, fun _ h => absurd h List.not_mem_nil, fun _ h => absurd h List.not_mem_nil⟩ dkX11_image (by decide +kernel) (by rw [h.2.2.1]; exact q460_ok)
/-- NearSpellModel.image -/
def q461_M : rfM := ((⟨"NearSpellModel", "image", "(I)I"⟩, prog_14_method_125_code, 3, (some .int)), (1,22), ([.inr (.inl [114]),.inl (((-2147483648),(-1),1),none)],[((90,28),(0,0,0),none),((90,29),(0,0,0),none),((90,36),(0,0,0),none),((113,0),(0,0,0),none),((113,1),(0,0,0),none),((113,2),(0,0,0),none)]), [], [(some (.inl (((-1),(-1),0),none)),[],[])])
def ddX12_image : List (Nat × Instr × Nat) := [(0,.iload_n 1,1),(1,.iconst 0,1),(2,.iconst 2,1),(3,.invokestatic 334,3),(6,.ifCond .ne 5,3),(9,.iconst (-1),1),(10,.ireturn,1),(11,.iconst 0,1),(12,.istore_n 2,1),(13,.iload_n 2,1),(14,.bipush 37,2),(16,.if_icmp .ge 26,3),(19,.aload_n 0,1),(20,.getfield 138,3),(23,.bipush 37,2),(25,.iload_n 1,1),(26,.imul,1),(27,.iload_n 2,1),(28,.iadd,1),(29,.aload_n 0,1),(30,.getfield 72,3),(33,.iload_n 2,1),(34,.iaload,1),(35,.iastore,1),(36,.iinc 2 1,3),(39,.goto (-26),3),(42,.aload_n 0,1),(43,.getfield 141,3),(46,.iload_n 1,1),(47,.iconst 1,1),(48,.bastore,1),(49,.aload_n 0,1),(50,.invokevirtual 423,3),(53,.invokestatic 356,3),(56,.ireturn,1)]
set_option maxRecDepth 100000 in
theorem dkX12_image : rf_decs prog_14_method_125_code ddX12_image := rf_decs_of (by decide +kernel)
def q461_P : rfP := (flX12,csX12,lcX12,spX12,[q188_M],[(334,0)],[],([],[]))
def q461_U : rfU := []
set_option maxHeartbeats 8000000 in
def q461_N : List rfB := [(0,([(0,.inr (.inl [114])),(1,.inl (((-2147483648),(-1),1),none))],[],[((90,28),(0,0,0),some ((90,28),0,0)),((90,29),(0,0,0),some ((90,29),0,0)),((90,36),(0,0,0),some ((90,36),0,0)),((113,0),(0,0,0),some ((113,0),0,0)),((113,1),(0,0,0),some ((113,1),0,0)),((113,2),(0,0,0),some ((113,2),0,0))]),(6,[]),0)]
set_option maxRecDepth 100000 in
theorem q461_ok : rf_chkB q461_P q461_U wLay q461_M ddX12_image [(3,[0])] [] [0] 600 q461_N = true := by decide +kernel
set_option maxHeartbeats 4000000 in
theorem q461_met {G : rfG} (h : okG G) : rf_met G q461_M := rf_methodB h.1 (P := q461_P) (U := q461_U) (N := q461_N) ⟨wflT h flokX12, wcsT h csokX12, wlcT h lcokX12, spokX12 h, List.forall_mem_cons.mpr ⟨q188_met h, fun _ h => absurd h List.not_mem_nil⟩, List.forall_mem_cons.mpr ⟨fun M hM => Option.some.inj (show some q188_M = some M from hM) ▸ wlkS (lkX12_334 h) q188_M rfl rfl, fun _ h => absurd h List.not_mem_nil⟩, fun _ h => absurd h List.not_mem_nil, fun _ h => absurd h List.not_mem_nil, fun _ h => absurd h List.not_mem_nil⟩ dkX12_image (by decide +kernel) (by rw [h.2.2.1]; exact q461_ok)
/-- NearSpell.Archive.keepBox -/
def q462_M : rfM := ((⟨"NearSpell$Archive", "keepBox", "(ILNearSpell$State;)V"⟩, prog_2_method_10_code, 3, none), (1,18), ([.inr (.inl [16]),.inl ((0,0,0),none),.inr (.inl [13])],[((12,34),(0,0,0),none),((12,35),(0,0,0),none),((12,36),(0,0,0),none),((16,2),(0,0,0),none)]), [(15,0),(16,3)], [(none,[],[((16,2),(0,1,1),none)])])
def ddX0_keepBox : List (Nat × Instr × Nat) := [(0,.iload_n 1,1),(1,.ifCond .lt 38,3),(4,.iload_n 1,1),(5,.iconst 3,1),(6,.if_icmp .ge 33,3),(9,.aload_n 2,1),(10,.getfield 40,3),(13,.iconst 0,1),(14,.aload_n 0,1),(15,.getfield 17,3),(18,.iload_n 1,1),(19,.bipush 37,2),(21,.imul,1),(22,.bipush 37,2),(24,.invokestatic 47,3),(27,.aload_n 0,1),(28,.dup,1),(29,.getfield 20,3),(32,.iconst 1,1),(33,.iload_n 1,1),(34,.ishl,1),(35,.ior,1),(36,.putfield 20,3),(39,.return_,1)]
set_option maxRecDepth 100000 in
theorem dkX0_keepBox : rf_decs prog_2_method_10_code ddX0_keepBox := rf_decs_of (by decide +kernel)
def q462_P : rfP := (flX0,csX0,lcX0,spX0,[],[],[],([47],[]))
def q462_U : rfU := []
set_option maxHeartbeats 8000000 in
def q462_N : List rfB := [(0,([(0,.inr (.inl [16])),(1,.inl ((0,0,0),none)),(2,.inr (.inl [13]))],[],[((12,34),(0,0,0),some ((12,34),0,0)),((12,35),(0,0,0),some ((12,35),0,0)),((12,36),(0,0,0),some ((12,36),0,0)),((16,2),(0,0,0),some ((16,2),0,0))]),(23,[]),0)]
set_option maxRecDepth 100000 in
theorem q462_ok : rf_chkB q462_P q462_U wLay q462_M ddX0_keepBox [] [] [0] 600 q462_N = true := by decide +kernel
set_option maxHeartbeats 4000000 in
theorem q462_met {G : rfG} (h : okG G) : rf_met G q462_M := rf_methodB h.1 (P := q462_P) (U := q462_U) (N := q462_N) ⟨wflT h flokX0, wcsT h csokX0, wlcT h lcokX0, spokX0 h, fun _ h => absurd h List.not_mem_nil, fun _ h => absurd h List.not_mem_nil, fun _ h => absurd h List.not_mem_nil, List.forall_mem_cons.mpr ⟨⟨wmT h (wm776), wmT h (wm755), wmT h (wm754), wmT h (wm136)⟩, fun _ h => absurd h List.not_mem_nil⟩, fun _ h => absurd h List.not_mem_nil⟩ dkX0_keepBox (by decide +kernel) (by rw [h.2.2.1]; exact q462_ok)
/-- NearSpell.image -/
def q463_M : rfM := ((⟨"NearSpell", "image", "(I)I"⟩, prog_1_method_46_code, 2, (some .int)), (2,40), ([.inr (.inl [70]),.inl ((0,0,0),none)],[((12,34),(0,0,0),none),((12,35),(0,0,0),none),((12,36),(0,0,0),none),((16,2),(0,0,0),none)]), [(15,0),(16,3)], [(some (.inl ((0,0,0),none)),[],[((16,2),(0,1,1),none)])])
def q463_P : rfP := (flX11,csX11,lcX11,spX11,[q462_M,q227_M],[],[(183,1,8),(333,0,0)],([],[]))
def q463_U : rfU := []
set_option maxHeartbeats 8000000 in
def q463_N : List rfB := [(0,([(0,.inr (.inl [70])),(1,.inl ((0,0,0),none))],[],[((12,34),(0,0,0),some ((12,34),0,0)),((12,35),(0,0,0),some ((12,35),0,0)),((12,36),(0,0,0),some ((12,36),0,0)),((16,2),(0,0,0),some ((16,2),0,0))]),(14,[]),0)]
set_option maxRecDepth 100000 in
theorem q463_ok : rf_chkB q463_P q463_U wLay q463_M ddX11_image [(20,[0]),(27,[1])] [] [0] 600 q463_N = true := by decide +kernel
set_option maxHeartbeats 4000000 in
theorem q463_met {G : rfG} (h : okG G) : rf_met G q463_M := rf_methodB h.1 (P := q463_P) (U := q463_U) (N := q463_N) ⟨wflT h flokX11, wcsT h csokX11, wlcT h lcokX11, spokX11 h, List.forall_mem_cons.mpr ⟨q462_met h, List.forall_mem_cons.mpr ⟨q227_met h, fun _ h => absurd h List.not_mem_nil⟩⟩, fun _ h => absurd h List.not_mem_nil, List.forall_mem_cons.mpr ⟨fun M hM => Option.some.inj (show some q227_M = some M from hM) ▸ wlkV (lkX11_183 h) q227_M rfl rfl, List.forall_mem_cons.mpr ⟨fun M hM => Option.some.inj (show some q462_M = some M from hM) ▸ wlkV (lkX11_333 h) q462_M rfl rfl, fun _ h => absurd h List.not_mem_nil⟩⟩, fun _ h => absurd h List.not_mem_nil, fun _ h => absurd h List.not_mem_nil⟩ dkX11_image (by decide +kernel) (by rw [h.2.2.1]; exact q463_ok)
/-- NearSpellModel.image -/
def q464_M : rfM := ((⟨"NearSpellModel", "image", "(I)I"⟩, prog_14_method_125_code, 3, (some .int)), (3,65), ([.inr (.inl [114]),.inl ((0,0,0),none)],[((90,28),(0,0,0),none),((90,29),(0,0,0),none),((90,36),(0,0,0),none),((113,0),(0,0,0),none),((113,1),(0,0,0),none),((113,2),(0,0,0),none)]), [(112,0),(113,0)], [(some (.inl ((0,0,0),none)),[],[((112,28),(0,0,0),some ((90,28),0,0)),((112,29),(0,0,0),some ((90,29),0,0)),((112,36),(0,0,0),some ((90,36),0,0)),((113,1),(0,0,0),some ((113,1),0,0)),((113,2),(0,0,0),some ((113,2),0,0))])])
def q464_P : rfP := (flX12,csX12,lcX12,spX12,[q173_M,q199_M,q131_M],[(334,0),(356,2)],[(423,1,12)],([],[]))
def q464_U : rfU := []
set_option maxHeartbeats 8000000 in
def q464_N : List rfB := [(0,([(0,.inr (.inl [114])),(1,.inl ((0,0,0),none))],[],[((90,28),(0,0,0),some ((90,28),0,0)),((90,29),(0,0,0),some ((90,29),0,0)),((90,36),(0,0,0),some ((90,36),0,0)),((113,0),(0,0,0),some ((113,0),0,0)),((113,1),(0,0,0),some ((113,1),0,0)),((113,2),(0,0,0),some ((113,2),0,0))]),(647,[]),0)]
set_option maxRecDepth 100000 in
theorem q464_ok : rf_chkB q464_P q464_U wLay q464_M ddX12_image [(3,[0]),(50,[1]),(53,[2])] [] [0] 653 q464_N = true := by decide +kernel
set_option maxHeartbeats 4000000 in
theorem q464_met {G : rfG} (h : okG G) : rf_met G q464_M := rf_methodB h.1 (P := q464_P) (U := q464_U) (N := q464_N) ⟨wflT h flokX12, wcsT h csokX12, wlcT h lcokX12, spokX12 h, List.forall_mem_cons.mpr ⟨q173_met h, List.forall_mem_cons.mpr ⟨q199_met h, List.forall_mem_cons.mpr ⟨q131_met h, fun _ h => absurd h List.not_mem_nil⟩⟩⟩, List.forall_mem_cons.mpr ⟨fun M hM => Option.some.inj (show some q173_M = some M from hM) ▸ wlkS (lkX12_334 h) q173_M rfl rfl, List.forall_mem_cons.mpr ⟨fun M hM => Option.some.inj (show some q131_M = some M from hM) ▸ wlkS (lkX12_356 h) q131_M rfl rfl, fun _ h => absurd h List.not_mem_nil⟩⟩, List.forall_mem_cons.mpr ⟨fun M hM => Option.some.inj (show some q199_M = some M from hM) ▸ wlkV (lkX12_423 h) q199_M rfl rfl, fun _ h => absurd h List.not_mem_nil⟩, fun _ h => absurd h List.not_mem_nil, fun _ h => absurd h List.not_mem_nil⟩ dkX12_image (by decide +kernel) (by rw [h.2.2.1]; exact q464_ok)
/-- NearSpell.Archive.keepBox -/
def q465_M : rfM := ((⟨"NearSpell$Archive", "keepBox", "(ILNearSpell$State;)V"⟩, prog_2_method_10_code, 3, none), (1,18), ([.inr (.inl [16]),.inl ((1,1,0),none),.inr (.inl [13])],[((12,34),(0,0,0),none),((12,35),(0,0,0),none),((12,36),(0,0,0),none),((16,2),(0,0,0),none)]), [(15,0),(16,3)], [(none,[],[((16,2),(0,3,1),none)])])
def q465_P : rfP := (flX0,csX0,lcX0,spX0,[],[],[],([47],[]))
def q465_U : rfU := []
set_option maxHeartbeats 8000000 in
def q465_N : List rfB := [(0,([(0,.inr (.inl [16])),(1,.inl ((1,1,0),none)),(2,.inr (.inl [13]))],[],[((12,34),(0,0,0),some ((12,34),0,0)),((12,35),(0,0,0),some ((12,35),0,0)),((12,36),(0,0,0),some ((12,36),0,0)),((16,2),(0,0,0),some ((16,2),0,0))]),(23,[]),0)]
set_option maxRecDepth 100000 in
theorem q465_ok : rf_chkB q465_P q465_U wLay q465_M ddX0_keepBox [] [] [0] 600 q465_N = true := by decide +kernel
set_option maxHeartbeats 4000000 in
theorem q465_met {G : rfG} (h : okG G) : rf_met G q465_M := rf_methodB h.1 (P := q465_P) (U := q465_U) (N := q465_N) ⟨wflT h flokX0, wcsT h csokX0, wlcT h lcokX0, spokX0 h, fun _ h => absurd h List.not_mem_nil, fun _ h => absurd h List.not_mem_nil, fun _ h => absurd h List.not_mem_nil, List.forall_mem_cons.mpr ⟨⟨wmT h (wm776), wmT h (wm755), wmT h (wm754), wmT h (wm136)⟩, fun _ h => absurd h List.not_mem_nil⟩, fun _ h => absurd h List.not_mem_nil⟩ dkX0_keepBox (by decide +kernel) (by rw [h.2.2.1]; exact q465_ok)
/-- NearSpell.image -/
def q466_M : rfM := ((⟨"NearSpell", "image", "(I)I"⟩, prog_1_method_46_code, 2, (some .int)), (2,40), ([.inr (.inl [70]),.inl ((1,1,0),none)],[((12,34),(0,0,0),none),((12,35),(0,0,0),none),((12,36),(0,0,0),none),((16,2),(0,0,0),none)]), [(15,0),(16,3)], [(some (.inl ((0,0,0),none)),[],[((16,2),(0,3,1),none)])])
def q466_P : rfP := (flX11,csX11,lcX11,spX11,[q465_M,q227_M],[],[(183,1,8),(333,0,0)],([],[]))
def q466_U : rfU := []
set_option maxHeartbeats 8000000 in
def q466_N : List rfB := [(0,([(0,.inr (.inl [70])),(1,.inl ((1,1,0),none))],[],[((12,34),(0,0,0),some ((12,34),0,0)),((12,35),(0,0,0),some ((12,35),0,0)),((12,36),(0,0,0),some ((12,36),0,0)),((16,2),(0,0,0),some ((16,2),0,0))]),(14,[]),0)]
set_option maxRecDepth 100000 in
theorem q466_ok : rf_chkB q466_P q466_U wLay q466_M ddX11_image [(20,[0]),(27,[1])] [] [0] 600 q466_N = true := by decide +kernel
set_option maxHeartbeats 4000000 in
theorem q466_met {G : rfG} (h : okG G) : rf_met G q466_M := rf_methodB h.1 (P := q466_P) (U := q466_U) (N := q466_N) ⟨wflT h flokX11, wcsT h csokX11, wlcT h lcokX11, spokX11 h, List.forall_mem_cons.mpr ⟨q465_met h, List.forall_mem_cons.mpr ⟨q227_met h, fun _ h => absurd h List.not_mem_nil⟩⟩, fun _ h => absurd h List.not_mem_nil, List.forall_mem_cons.mpr ⟨fun M hM => Option.some.inj (show some q227_M = some M from hM) ▸ wlkV (lkX11_183 h) q227_M rfl rfl, List.forall_mem_cons.mpr ⟨fun M hM => Option.some.inj (show some q465_M = some M from hM) ▸ wlkV (lkX11_333 h) q465_M rfl rfl, fun _ h => absurd h List.not_mem_nil⟩⟩, fun _ h => absurd h List.not_mem_nil, fun _ h => absurd h List.not_mem_nil⟩ dkX11_image (by decide +kernel) (by rw [h.2.2.1]; exact q466_ok)
/-- NearSpellModel.image -/
def q467_M : rfM := ((⟨"NearSpellModel", "image", "(I)I"⟩, prog_14_method_125_code, 3, (some .int)), (3,65), ([.inr (.inl [114]),.inl ((1,1,0),none)],[((90,28),(0,0,0),none),((90,29),(0,0,0),none),((90,36),(0,0,0),none),((113,0),(0,0,0),none),((113,1),(0,0,0),none),((113,2),(0,0,0),none)]), [(112,0),(113,0)], [(some (.inl ((0,0,0),none)),[],[((112,65),(0,0,0),some ((90,28),0,0)),((112,66),(0,0,0),some ((90,29),0,0)),((112,73),(0,0,0),some ((90,36),0,0)),((113,0),(0,0,0),some ((113,0),0,0)),((113,2),(0,0,0),some ((113,2),0,0))])])
def q467_P : rfP := (flX12,csX12,lcX12,spX12,[q179_M,q199_M,q131_M],[(334,0),(356,2)],[(423,1,12)],([],[]))
def q467_U : rfU := []
set_option maxHeartbeats 8000000 in
def q467_N : List rfB := [(0,([(0,.inr (.inl [114])),(1,.inl ((1,1,0),none))],[],[((90,28),(0,0,0),some ((90,28),0,0)),((90,29),(0,0,0),some ((90,29),0,0)),((90,36),(0,0,0),some ((90,36),0,0)),((113,0),(0,0,0),some ((113,0),0,0)),((113,1),(0,0,0),some ((113,1),0,0)),((113,2),(0,0,0),some ((113,2),0,0))]),(647,[]),0)]
set_option maxRecDepth 100000 in
theorem q467_ok : rf_chkB q467_P q467_U wLay q467_M ddX12_image [(3,[0]),(50,[1]),(53,[2])] [] [0] 653 q467_N = true := by decide +kernel
set_option maxHeartbeats 4000000 in
theorem q467_met {G : rfG} (h : okG G) : rf_met G q467_M := rf_methodB h.1 (P := q467_P) (U := q467_U) (N := q467_N) ⟨wflT h flokX12, wcsT h csokX12, wlcT h lcokX12, spokX12 h, List.forall_mem_cons.mpr ⟨q179_met h, List.forall_mem_cons.mpr ⟨q199_met h, List.forall_mem_cons.mpr ⟨q131_met h, fun _ h => absurd h List.not_mem_nil⟩⟩⟩, List.forall_mem_cons.mpr ⟨fun M hM => Option.some.inj (show some q179_M = some M from hM) ▸ wlkS (lkX12_334 h) q179_M rfl rfl, List.forall_mem_cons.mpr ⟨fun M hM => Option.some.inj (show some q131_M = some M from hM) ▸ wlkS (lkX12_356 h) q131_M rfl rfl, fun _ h => absurd h List.not_mem_nil⟩⟩, List.forall_mem_cons.mpr ⟨fun M hM => Option.some.inj (show some q199_M = some M from hM) ▸ wlkV (lkX12_423 h) q199_M rfl rfl, fun _ h => absurd h List.not_mem_nil⟩, fun _ h => absurd h List.not_mem_nil, fun _ h => absurd h List.not_mem_nil⟩ dkX12_image (by decide +kernel) (by rw [h.2.2.1]; exact q467_ok)
/-- NearSpell.Archive.keepBox -/
def q468_M : rfM := ((⟨"NearSpell$Archive", "keepBox", "(ILNearSpell$State;)V"⟩, prog_2_method_10_code, 3, none), (1,18), ([.inr (.inl [16]),.inl ((2,2,0),none),.inr (.inl [13])],[((12,34),(0,0,0),none),((12,35),(0,0,0),none),((12,36),(0,0,0),none),((16,2),(0,0,0),none)]), [(15,0),(16,3)], [(none,[],[((16,2),(0,7,1),none)])])
def q468_P : rfP := (flX0,csX0,lcX0,spX0,[],[],[],([47],[]))
def q468_U : rfU := []
set_option maxHeartbeats 8000000 in
def q468_N : List rfB := [(0,([(0,.inr (.inl [16])),(1,.inl ((2,2,0),none)),(2,.inr (.inl [13]))],[],[((12,34),(0,0,0),some ((12,34),0,0)),((12,35),(0,0,0),some ((12,35),0,0)),((12,36),(0,0,0),some ((12,36),0,0)),((16,2),(0,0,0),some ((16,2),0,0))]),(23,[]),0)]
set_option maxRecDepth 100000 in
theorem q468_ok : rf_chkB q468_P q468_U wLay q468_M ddX0_keepBox [] [] [0] 600 q468_N = true := by decide +kernel
set_option maxHeartbeats 4000000 in
theorem q468_met {G : rfG} (h : okG G) : rf_met G q468_M := rf_methodB h.1 (P := q468_P) (U := q468_U) (N := q468_N) ⟨wflT h flokX0, wcsT h csokX0, wlcT h lcokX0, spokX0 h, fun _ h => absurd h List.not_mem_nil, fun _ h => absurd h List.not_mem_nil, fun _ h => absurd h List.not_mem_nil, List.forall_mem_cons.mpr ⟨⟨wmT h (wm776), wmT h (wm755), wmT h (wm754), wmT h (wm136)⟩, fun _ h => absurd h List.not_mem_nil⟩, fun _ h => absurd h List.not_mem_nil⟩ dkX0_keepBox (by decide +kernel) (by rw [h.2.2.1]; exact q468_ok)
/-- NearSpell.image -/
def q469_M : rfM := ((⟨"NearSpell", "image", "(I)I"⟩, prog_1_method_46_code, 2, (some .int)), (2,40), ([.inr (.inl [70]),.inl ((2,2,0),none)],[((12,34),(0,0,0),none),((12,35),(0,0,0),none),((12,36),(0,0,0),none),((16,2),(0,0,0),none)]), [(15,0),(16,3)], [(some (.inl ((0,0,0),none)),[],[((16,2),(0,7,1),none)])])
def q469_P : rfP := (flX11,csX11,lcX11,spX11,[q468_M,q227_M],[],[(183,1,8),(333,0,0)],([],[]))
def q469_U : rfU := []
set_option maxHeartbeats 8000000 in
def q469_N : List rfB := [(0,([(0,.inr (.inl [70])),(1,.inl ((2,2,0),none))],[],[((12,34),(0,0,0),some ((12,34),0,0)),((12,35),(0,0,0),some ((12,35),0,0)),((12,36),(0,0,0),some ((12,36),0,0)),((16,2),(0,0,0),some ((16,2),0,0))]),(14,[]),0)]
set_option maxRecDepth 100000 in
theorem q469_ok : rf_chkB q469_P q469_U wLay q469_M ddX11_image [(20,[0]),(27,[1])] [] [0] 600 q469_N = true := by decide +kernel
set_option maxHeartbeats 4000000 in
theorem q469_met {G : rfG} (h : okG G) : rf_met G q469_M := rf_methodB h.1 (P := q469_P) (U := q469_U) (N := q469_N) ⟨wflT h flokX11, wcsT h csokX11, wlcT h lcokX11, spokX11 h, List.forall_mem_cons.mpr ⟨q468_met h, List.forall_mem_cons.mpr ⟨q227_met h, fun _ h => absurd h List.not_mem_nil⟩⟩, fun _ h => absurd h List.not_mem_nil, List.forall_mem_cons.mpr ⟨fun M hM => Option.some.inj (show some q227_M = some M from hM) ▸ wlkV (lkX11_183 h) q227_M rfl rfl, List.forall_mem_cons.mpr ⟨fun M hM => Option.some.inj (show some q468_M = some M from hM) ▸ wlkV (lkX11_333 h) q468_M rfl rfl, fun _ h => absurd h List.not_mem_nil⟩⟩, fun _ h => absurd h List.not_mem_nil, fun _ h => absurd h List.not_mem_nil⟩ dkX11_image (by decide +kernel) (by rw [h.2.2.1]; exact q469_ok)
/-- NearSpellModel.image -/
def q470_M : rfM := ((⟨"NearSpellModel", "image", "(I)I"⟩, prog_14_method_125_code, 3, (some .int)), (3,65), ([.inr (.inl [114]),.inl ((2,2,0),none)],[((90,28),(0,0,0),none),((90,29),(0,0,0),none),((90,36),(0,0,0),none),((113,0),(0,0,0),none),((113,1),(0,0,0),none),((113,2),(0,0,0),none)]), [(112,0),(113,0)], [(some (.inl ((0,0,0),none)),[],[((112,102),(0,0,0),some ((90,28),0,0)),((112,103),(0,0,0),some ((90,29),0,0)),((112,110),(0,0,0),some ((90,36),0,0)),((113,0),(0,0,0),some ((113,0),0,0)),((113,1),(0,0,0),some ((113,1),0,0))])])
def q470_P : rfP := (flX12,csX12,lcX12,spX12,[q183_M,q199_M,q131_M],[(334,0),(356,2)],[(423,1,12)],([],[]))
def q470_U : rfU := []
set_option maxHeartbeats 8000000 in
def q470_N : List rfB := [(0,([(0,.inr (.inl [114])),(1,.inl ((2,2,0),none))],[],[((90,28),(0,0,0),some ((90,28),0,0)),((90,29),(0,0,0),some ((90,29),0,0)),((90,36),(0,0,0),some ((90,36),0,0)),((113,0),(0,0,0),some ((113,0),0,0)),((113,1),(0,0,0),some ((113,1),0,0)),((113,2),(0,0,0),some ((113,2),0,0))]),(647,[]),0)]
set_option maxRecDepth 100000 in
theorem q470_ok : rf_chkB q470_P q470_U wLay q470_M ddX12_image [(3,[0]),(50,[1]),(53,[2])] [] [0] 653 q470_N = true := by decide +kernel
set_option maxHeartbeats 4000000 in
theorem q470_met {G : rfG} (h : okG G) : rf_met G q470_M := rf_methodB h.1 (P := q470_P) (U := q470_U) (N := q470_N) ⟨wflT h flokX12, wcsT h csokX12, wlcT h lcokX12, spokX12 h, List.forall_mem_cons.mpr ⟨q183_met h, List.forall_mem_cons.mpr ⟨q199_met h, List.forall_mem_cons.mpr ⟨q131_met h, fun _ h => absurd h List.not_mem_nil⟩⟩⟩, List.forall_mem_cons.mpr ⟨fun M hM => Option.some.inj (show some q183_M = some M from hM) ▸ wlkS (lkX12_334 h) q183_M rfl rfl, List.forall_mem_cons.mpr ⟨fun M hM => Option.some.inj (show some q131_M = some M from hM) ▸ wlkS (lkX12_356 h) q131_M rfl rfl, fun _ h => absurd h List.not_mem_nil⟩⟩, List.forall_mem_cons.mpr ⟨fun M hM => Option.some.inj (show some q199_M = some M from hM) ▸ wlkV (lkX12_423 h) q199_M rfl rfl, fun _ h => absurd h List.not_mem_nil⟩, fun _ h => absurd h List.not_mem_nil, fun _ h => absurd h List.not_mem_nil⟩ dkX12_image (by decide +kernel) (by rw [h.2.2.1]; exact q470_ok)
/-- NearSpell.image -/
def q471_M : rfM := ((⟨"NearSpell", "image", "(I)I"⟩, prog_1_method_46_code, 2, (some .int)), (0,0), ([.inr (.inl [70]),.inl ((3,2147483647,1),none)],[((12,34),(0,0,0),none),((12,35),(0,0,0),none),((12,36),(0,0,0),none),((16,2),(0,0,0),none)]), [], [(some (.inl (((-1),(-1),0),none)),[],[])])
def q471_P : rfP := (flX11,csX11,lcX11,spX11,[],[],[],([],[]))
def q471_U : rfU := []
set_option maxHeartbeats 8000000 in
def q471_N : List rfB := [(0,([(0,.inr (.inl [70])),(1,.inl ((3,2147483647,1),none))],[],[((12,34),(0,0,0),some ((12,34),0,0)),((12,35),(0,0,0),some ((12,35),0,0)),((12,36),(0,0,0),some ((12,36),0,0)),((16,2),(0,0,0),some ((16,2),0,0))]),(6,[]),0)]
set_option maxRecDepth 100000 in
theorem q471_ok : rf_chkB q471_P q471_U wLay q471_M ddX11_image [] [] [0] 600 q471_N = true := by decide +kernel
set_option maxHeartbeats 4000000 in
theorem q471_met {G : rfG} (h : okG G) : rf_met G q471_M := rf_methodB h.1 (P := q471_P) (U := q471_U) (N := q471_N) ⟨wflT h flokX11, wcsT h csokX11, wlcT h lcokX11, spokX11 h, fun _ h => absurd h List.not_mem_nil, fun _ h => absurd h List.not_mem_nil, fun _ h => absurd h List.not_mem_nil, fun _ h => absurd h List.not_mem_nil, fun _ h => absurd h List.not_mem_nil⟩ dkX11_image (by decide +kernel) (by rw [h.2.2.1]; exact q471_ok)
/-- NearSpellModel.image -/
def q472_M : rfM := ((⟨"NearSpellModel", "image", "(I)I"⟩, prog_14_method_125_code, 3, (some .int)), (1,22), ([.inr (.inl [114]),.inl ((3,2147483647,1),none)],[((90,28),(0,0,0),none),((90,29),(0,0,0),none),((90,36),(0,0,0),none),((113,0),(0,0,0),none),((113,1),(0,0,0),none),((113,2),(0,0,0),none)]), [], [(some (.inl (((-1),(-1),0),none)),[],[])])
def q472_P : rfP := (flX12,csX12,lcX12,spX12,[q191_M],[(334,0)],[],([],[]))
def q472_U : rfU := []
set_option maxHeartbeats 8000000 in
def q472_N : List rfB := [(0,([(0,.inr (.inl [114])),(1,.inl ((3,2147483647,1),none))],[],[((90,28),(0,0,0),some ((90,28),0,0)),((90,29),(0,0,0),some ((90,29),0,0)),((90,36),(0,0,0),some ((90,36),0,0)),((113,0),(0,0,0),some ((113,0),0,0)),((113,1),(0,0,0),some ((113,1),0,0)),((113,2),(0,0,0),some ((113,2),0,0))]),(6,[]),0)]
set_option maxRecDepth 100000 in
theorem q472_ok : rf_chkB q472_P q472_U wLay q472_M ddX12_image [(3,[0])] [] [0] 600 q472_N = true := by decide +kernel
set_option maxHeartbeats 4000000 in
theorem q472_met {G : rfG} (h : okG G) : rf_met G q472_M := rf_methodB h.1 (P := q472_P) (U := q472_U) (N := q472_N) ⟨wflT h flokX12, wcsT h csokX12, wlcT h lcokX12, spokX12 h, List.forall_mem_cons.mpr ⟨q191_met h, fun _ h => absurd h List.not_mem_nil⟩, List.forall_mem_cons.mpr ⟨fun M hM => Option.some.inj (show some q191_M = some M from hM) ▸ wlkS (lkX12_334 h) q191_M rfl rfl, fun _ h => absurd h List.not_mem_nil⟩, fun _ h => absurd h List.not_mem_nil, fun _ h => absurd h List.not_mem_nil, fun _ h => absurd h List.not_mem_nil⟩ dkX12_image (by decide +kernel) (by rw [h.2.2.1]; exact q472_ok)
/-- NearSpell.Archive.openBox -/
def q473_M : rfM := ((⟨"NearSpell$Archive", "openBox", "(ILNearSpell$State;)Z"⟩, prog_2_method_11_code, 3, (some .boolean)), (0,0), ([.inr (.inl [16]),.inl (((-2147483648),0,1),none),.inr (.inl [13])],[((12,34),(0,0,0),none),((12,35),(0,0,0),none),((12,36),(0,0,0),none),((16,2),(0,0,0),none)]), [], [(some (.inl ((0,0,0),none)),[],[])])
def ddX0_openBox : List (Nat × Instr × Nat) := [(0,.iload_n 1,1),(1,.ifCond .lt 19,3),(4,.iload_n 1,1),(5,.iconst 3,1),(6,.if_icmp .ge 14,3),(9,.aload_n 0,1),(10,.getfield 20,3),(13,.iload_n 1,1),(14,.ishr,1),(15,.iconst 1,1),(16,.iand,1),(17,.ifCond .ne 5,3),(20,.iconst 0,1),(21,.ireturn,1),(22,.aload_n 0,1),(23,.getfield 17,3),(26,.iload_n 1,1),(27,.bipush 37,2),(29,.imul,1),(30,.aload_n 2,1),(31,.getfield 40,3),(34,.iconst 0,1),(35,.bipush 37,2),(37,.invokestatic 47,3),(40,.iconst 1,1),(41,.ireturn,1)]
set_option maxRecDepth 100000 in
theorem dkX0_openBox : rf_decs prog_2_method_11_code ddX0_openBox := rf_decs_of (by decide +kernel)
def q473_P : rfP := (flX0,csX0,lcX0,spX0,[],[],[],([],[]))
def q473_U : rfU := []
set_option maxHeartbeats 8000000 in
def q473_N : List rfB := [(0,([(0,.inr (.inl [16])),(1,.inl (((-2147483648),0,1),none)),(2,.inr (.inl [13]))],[],[((12,34),(0,0,0),some ((12,34),0,0)),((12,35),(0,0,0),some ((12,35),0,0)),((12,36),(0,0,0),some ((12,36),0,0)),((16,2),(0,0,0),some ((16,2),0,0))]),(13,[]),0)]
set_option maxRecDepth 100000 in
theorem q473_ok : rf_chkB q473_P q473_U wLay q473_M ddX0_openBox [] [] [0] 19 q473_N = true := by decide +kernel
set_option maxHeartbeats 4000000 in
theorem q473_met {G : rfG} (h : okG G) : rf_met G q473_M := rf_methodB h.1 (P := q473_P) (U := q473_U) (N := q473_N) ⟨wflT h flokX0, wcsT h csokX0, wlcT h lcokX0, spokX0 h, fun _ h => absurd h List.not_mem_nil, fun _ h => absurd h List.not_mem_nil, fun _ h => absurd h List.not_mem_nil, fun _ h => absurd h List.not_mem_nil, fun _ h => absurd h List.not_mem_nil⟩ dkX0_openBox (by decide +kernel) (by rw [h.2.2.1]; exact q473_ok)
/-- NearSpell.back -/
def q474_M : rfM := ((⟨"NearSpell", "back", "(I)I"⟩, prog_1_method_47_code, 2, (some .int)), (1,22), ([.inr (.inl [70]),.inl (((-2147483648),(-1),1),none)],[((12,34),(0,0,0),none),((12,35),(0,0,0),none),((12,36),(0,0,0),none),((16,2),(0,0,0),none),((16,3),(0,0,0),none),((16,4),(0,0,0),none)]), [], [(some (.inl (((-1),(-1),0),none)),[],[])])
def ddX11_back : List (Nat × Instr × Nat) := [(0,.aload_n 0,1),(1,.getfield 42,3),(4,.iload_n 1,1),(5,.aload_n 0,1),(6,.getfield 35,3),(9,.invokevirtual 337,3),(12,.ifCond .ne 5,3),(15,.iconst (-1),1),(16,.ireturn,1),(17,.aload_n 0,1),(18,.getfield 42,3),(21,.aload_n 0,1),(22,.getfield 35,3),(25,.invokevirtual 122,3),(28,.aload_n 0,1),(29,.getfield 35,3),(32,.invokevirtual 183,3),(35,.ireturn,1)]
set_option maxRecDepth 100000 in
theorem dkX11_back : rf_decs prog_1_method_47_code ddX11_back := rf_decs_of (by decide +kernel)
def q474_P : rfP := (flX11,csX11,lcX11,spX11,[q473_M],[],[(337,0,0)],([],[]))
def q474_U : rfU := []
set_option maxHeartbeats 8000000 in
def q474_N : List rfB := [(0,([(0,.inr (.inl [70])),(1,.inl (((-2147483648),(-1),1),none))],[],[((12,34),(0,0,0),some ((12,34),0,0)),((12,35),(0,0,0),some ((12,35),0,0)),((12,36),(0,0,0),some ((12,36),0,0)),((16,2),(0,0,0),some ((16,2),0,0)),((16,3),(0,0,0),some ((16,3),0,0)),((16,4),(0,0,0),some ((16,4),0,0))]),(8,[]),0)]
set_option maxRecDepth 100000 in
theorem q474_ok : rf_chkB q474_P q474_U wLay q474_M ddX11_back [(9,[0])] [] [0] 600 q474_N = true := by decide +kernel
set_option maxHeartbeats 4000000 in
theorem q474_met {G : rfG} (h : okG G) : rf_met G q474_M := rf_methodB h.1 (P := q474_P) (U := q474_U) (N := q474_N) ⟨wflT h flokX11, wcsT h csokX11, wlcT h lcokX11, spokX11 h, List.forall_mem_cons.mpr ⟨q473_met h, fun _ h => absurd h List.not_mem_nil⟩, fun _ h => absurd h List.not_mem_nil, List.forall_mem_cons.mpr ⟨fun M hM => Option.some.inj (show some q473_M = some M from hM) ▸ wlkV (lkX11_337 h) q473_M rfl rfl, fun _ h => absurd h List.not_mem_nil⟩, fun _ h => absurd h List.not_mem_nil, fun _ h => absurd h List.not_mem_nil⟩ dkX11_back (by decide +kernel) (by rw [h.2.2.1]; exact q474_ok)
/-- NearSpellModel.back -/
def q475_M : rfM := ((⟨"NearSpellModel", "back", "(I)I"⟩, prog_14_method_126_code, 3, (some .int)), (1,22), ([.inr (.inl [114]),.inl (((-2147483648),(-1),1),none)],[((90,28),(0,0,0),none),((90,29),(0,0,0),none),((90,36),(0,0,0),none),((113,0),(0,0,0),none),((113,1),(0,0,0),none),((113,2),(0,0,0),none)]), [], [(some (.inl (((-1),(-1),0),none)),[],[])])
def ddX12_back : List (Nat × Instr × Nat) := [(0,.iload_n 1,1),(1,.iconst 0,1),(2,.iconst 2,1),(3,.invokestatic 334,3),(6,.ifCond .eq 12,3),(9,.aload_n 0,1),(10,.getfield 141,3),(13,.iload_n 1,1),(14,.baload,1),(15,.ifCond .ne 5,3),(18,.iconst (-1),1),(19,.ireturn,1),(20,.iconst 0,1),(21,.istore_n 2,1),(22,.iload_n 2,1),(23,.bipush 37,2),(25,.if_icmp .ge 26,3),(28,.aload_n 0,1),(29,.getfield 72,3),(32,.iload_n 2,1),(33,.aload_n 0,1),(34,.getfield 138,3),(37,.bipush 37,2),(39,.iload_n 1,1),(40,.imul,1),(41,.iload_n 2,1),(42,.iadd,1),(43,.iaload,1),(44,.iastore,1),(45,.iinc 2 1,3),(48,.goto (-26),3),(51,.aload_n 0,1),(52,.iconst 0,1),(53,.putfield 338,3),(56,.aload_n 0,1),(57,.iconst 0,1),(58,.putfield 341,3),(61,.aload_n 0,1),(62,.invokevirtual 423,3),(65,.invokestatic 356,3),(68,.ireturn,1)]
set_option maxRecDepth 100000 in
theorem dkX12_back : rf_decs prog_14_method_126_code ddX12_back := rf_decs_of (by decide +kernel)
def q475_P : rfP := (flX12,csX12,lcX12,spX12,[q188_M],[(334,0)],[],([],[]))
def q475_U : rfU := []
set_option maxHeartbeats 8000000 in
def q475_N : List rfB := [(0,([(0,.inr (.inl [114])),(1,.inl (((-2147483648),(-1),1),none))],[],[((90,28),(0,0,0),some ((90,28),0,0)),((90,29),(0,0,0),some ((90,29),0,0)),((90,36),(0,0,0),some ((90,36),0,0)),((113,0),(0,0,0),some ((113,0),0,0)),((113,1),(0,0,0),some ((113,1),0,0)),((113,2),(0,0,0),some ((113,2),0,0))]),(6,[]),0)]
set_option maxRecDepth 100000 in
theorem q475_ok : rf_chkB q475_P q475_U wLay q475_M ddX12_back [(3,[0])] [] [0] 600 q475_N = true := by decide +kernel
set_option maxHeartbeats 4000000 in
theorem q475_met {G : rfG} (h : okG G) : rf_met G q475_M := rf_methodB h.1 (P := q475_P) (U := q475_U) (N := q475_N) ⟨wflT h flokX12, wcsT h csokX12, wlcT h lcokX12, spokX12 h, List.forall_mem_cons.mpr ⟨q188_met h, fun _ h => absurd h List.not_mem_nil⟩, List.forall_mem_cons.mpr ⟨fun M hM => Option.some.inj (show some q188_M = some M from hM) ▸ wlkS (lkX12_334 h) q188_M rfl rfl, fun _ h => absurd h List.not_mem_nil⟩, fun _ h => absurd h List.not_mem_nil, fun _ h => absurd h List.not_mem_nil, fun _ h => absurd h List.not_mem_nil⟩ dkX12_back (by decide +kernel) (by rw [h.2.2.1]; exact q475_ok)
/-- NearSpell.Archive.openBox -/
def q476_M : rfM := ((⟨"NearSpell$Archive", "openBox", "(ILNearSpell$State;)Z"⟩, prog_2_method_11_code, 3, (some .boolean)), (0,0), ([.inr (.inl [16]),.inl ((0,0,0),none),.inr (.inl [13])],[((12,34),(0,0,0),none),((12,35),(0,0,0),none),((12,36),(0,0,0),none),((16,2),(0,0,0),none)]), [], [(some (.inl ((0,0,0),none)),[],[])])
def q476_P : rfP := (flX0,csX0,lcX0,spX0,[],[],[],([],[]))
def q476_U : rfU := []
set_option maxHeartbeats 8000000 in
def q476_N : List rfB := [(0,([(0,.inr (.inl [16])),(1,.inl ((0,0,0),none)),(2,.inr (.inl [13]))],[],[((12,34),(0,0,0),some ((12,34),0,0)),((12,35),(0,0,0),some ((12,35),0,0)),((12,36),(0,0,0),some ((12,36),0,0)),((16,2),(0,0,0),some ((16,2),0,0))]),(13,[]),0)]
set_option maxRecDepth 100000 in
theorem q476_ok : rf_chkB q476_P q476_U wLay q476_M ddX0_openBox [] [] [0] 600 q476_N = true := by decide +kernel
set_option maxHeartbeats 4000000 in
theorem q476_met {G : rfG} (h : okG G) : rf_met G q476_M := rf_methodB h.1 (P := q476_P) (U := q476_U) (N := q476_N) ⟨wflT h flokX0, wcsT h csokX0, wlcT h lcokX0, spokX0 h, fun _ h => absurd h List.not_mem_nil, fun _ h => absurd h List.not_mem_nil, fun _ h => absurd h List.not_mem_nil, fun _ h => absurd h List.not_mem_nil, fun _ h => absurd h List.not_mem_nil⟩ dkX0_openBox (by decide +kernel) (by rw [h.2.2.1]; exact q476_ok)
/-- NearSpell.back -/
def q477_M : rfM := ((⟨"NearSpell", "back", "(I)I"⟩, prog_1_method_47_code, 2, (some .int)), (1,22), ([.inr (.inl [70]),.inl ((0,0,0),none)],[((12,34),(0,0,0),none),((12,35),(0,0,0),none),((12,36),(0,0,0),none),((16,2),(0,0,0),none),((16,3),(0,0,0),none),((16,4),(0,0,0),none)]), [], [(some (.inl (((-1),(-1),0),none)),[],[])])
def q477_P : rfP := (flX11,csX11,lcX11,spX11,[q476_M],[],[(337,0,0)],([],[]))
def q477_U : rfU := []
set_option maxHeartbeats 8000000 in
def q477_N : List rfB := [(0,([(0,.inr (.inl [70])),(1,.inl ((0,0,0),none))],[],[((12,34),(0,0,0),some ((12,34),0,0)),((12,35),(0,0,0),some ((12,35),0,0)),((12,36),(0,0,0),some ((12,36),0,0)),((16,2),(0,0,0),some ((16,2),0,0)),((16,3),(0,0,0),some ((16,3),0,0)),((16,4),(0,0,0),some ((16,4),0,0))]),(8,[]),0)]
set_option maxRecDepth 100000 in
theorem q477_ok : rf_chkB q477_P q477_U wLay q477_M ddX11_back [(9,[0])] [] [0] 600 q477_N = true := by decide +kernel
set_option maxHeartbeats 4000000 in
theorem q477_met {G : rfG} (h : okG G) : rf_met G q477_M := rf_methodB h.1 (P := q477_P) (U := q477_U) (N := q477_N) ⟨wflT h flokX11, wcsT h csokX11, wlcT h lcokX11, spokX11 h, List.forall_mem_cons.mpr ⟨q476_met h, fun _ h => absurd h List.not_mem_nil⟩, fun _ h => absurd h List.not_mem_nil, List.forall_mem_cons.mpr ⟨fun M hM => Option.some.inj (show some q476_M = some M from hM) ▸ wlkV (lkX11_337 h) q476_M rfl rfl, fun _ h => absurd h List.not_mem_nil⟩, fun _ h => absurd h List.not_mem_nil, fun _ h => absurd h List.not_mem_nil⟩ dkX11_back (by decide +kernel) (by rw [h.2.2.1]; exact q477_ok)
/-- NearSpellModel.back -/
def q478_M : rfM := ((⟨"NearSpellModel", "back", "(I)I"⟩, prog_14_method_126_code, 3, (some .int)), (1,22), ([.inr (.inl [114]),.inl ((0,0,0),none)],[((90,28),(0,0,0),none),((90,29),(0,0,0),none),((90,36),(0,0,0),none),((113,0),(0,0,0),none),((113,1),(0,0,0),none),((113,2),(0,0,0),none)]), [], [(some (.inl (((-1),(-1),0),none)),[],[])])
def q478_P : rfP := (flX12,csX12,lcX12,spX12,[q173_M],[(334,0)],[],([],[]))
def q478_U : rfU := []
set_option maxHeartbeats 8000000 in
def q478_N : List rfB := [(0,([(0,.inr (.inl [114])),(1,.inl ((0,0,0),none))],[],[((90,28),(0,0,0),some ((90,28),0,0)),((90,29),(0,0,0),some ((90,29),0,0)),((90,36),(0,0,0),some ((90,36),0,0)),((113,0),(0,0,0),some ((113,0),0,0)),((113,1),(0,0,0),some ((113,1),0,0)),((113,2),(0,0,0),some ((113,2),0,0))]),(11,[]),0)]
set_option maxRecDepth 100000 in
theorem q478_ok : rf_chkB q478_P q478_U wLay q478_M ddX12_back [(3,[0])] [] [0] 600 q478_N = true := by decide +kernel
set_option maxHeartbeats 4000000 in
theorem q478_met {G : rfG} (h : okG G) : rf_met G q478_M := rf_methodB h.1 (P := q478_P) (U := q478_U) (N := q478_N) ⟨wflT h flokX12, wcsT h csokX12, wlcT h lcokX12, spokX12 h, List.forall_mem_cons.mpr ⟨q173_met h, fun _ h => absurd h List.not_mem_nil⟩, List.forall_mem_cons.mpr ⟨fun M hM => Option.some.inj (show some q173_M = some M from hM) ▸ wlkS (lkX12_334 h) q173_M rfl rfl, fun _ h => absurd h List.not_mem_nil⟩, fun _ h => absurd h List.not_mem_nil, fun _ h => absurd h List.not_mem_nil, fun _ h => absurd h List.not_mem_nil⟩ dkX12_back (by decide +kernel) (by rw [h.2.2.1]; exact q478_ok)
/-- NearSpell.Archive.openBox -/
def q479_M : rfM := ((⟨"NearSpell$Archive", "openBox", "(ILNearSpell$State;)Z"⟩, prog_2_method_11_code, 3, (some .boolean)), (0,0), ([.inr (.inl [16]),.inl ((1,1,0),none),.inr (.inl [13])],[((12,34),(0,0,0),none),((12,35),(0,0,0),none),((12,36),(0,0,0),none),((16,2),(0,0,0),none)]), [], [(some (.inl ((0,0,0),none)),[],[])])
def q479_P : rfP := (flX0,csX0,lcX0,spX0,[],[],[],([],[]))
def q479_U : rfU := []
set_option maxHeartbeats 8000000 in
def q479_N : List rfB := [(0,([(0,.inr (.inl [16])),(1,.inl ((1,1,0),none)),(2,.inr (.inl [13]))],[],[((12,34),(0,0,0),some ((12,34),0,0)),((12,35),(0,0,0),some ((12,35),0,0)),((12,36),(0,0,0),some ((12,36),0,0)),((16,2),(0,0,0),some ((16,2),0,0))]),(13,[]),0)]
set_option maxRecDepth 100000 in
theorem q479_ok : rf_chkB q479_P q479_U wLay q479_M ddX0_openBox [] [] [0] 600 q479_N = true := by decide +kernel
set_option maxHeartbeats 4000000 in
theorem q479_met {G : rfG} (h : okG G) : rf_met G q479_M := rf_methodB h.1 (P := q479_P) (U := q479_U) (N := q479_N) ⟨wflT h flokX0, wcsT h csokX0, wlcT h lcokX0, spokX0 h, fun _ h => absurd h List.not_mem_nil, fun _ h => absurd h List.not_mem_nil, fun _ h => absurd h List.not_mem_nil, fun _ h => absurd h List.not_mem_nil, fun _ h => absurd h List.not_mem_nil⟩ dkX0_openBox (by decide +kernel) (by rw [h.2.2.1]; exact q479_ok)
/-- NearSpell.back -/
def q480_M : rfM := ((⟨"NearSpell", "back", "(I)I"⟩, prog_1_method_47_code, 2, (some .int)), (1,22), ([.inr (.inl [70]),.inl ((1,1,0),none)],[((12,34),(0,0,0),none),((12,35),(0,0,0),none),((12,36),(0,0,0),none),((16,2),(0,0,0),none),((16,3),(0,0,0),none),((16,4),(0,0,0),none)]), [], [(some (.inl (((-1),(-1),0),none)),[],[])])
def q480_P : rfP := (flX11,csX11,lcX11,spX11,[q479_M],[],[(337,0,0)],([],[]))
def q480_U : rfU := []
set_option maxHeartbeats 8000000 in
def q480_N : List rfB := [(0,([(0,.inr (.inl [70])),(1,.inl ((1,1,0),none))],[],[((12,34),(0,0,0),some ((12,34),0,0)),((12,35),(0,0,0),some ((12,35),0,0)),((12,36),(0,0,0),some ((12,36),0,0)),((16,2),(0,0,0),some ((16,2),0,0)),((16,3),(0,0,0),some ((16,3),0,0)),((16,4),(0,0,0),some ((16,4),0,0))]),(8,[]),0)]
set_option maxRecDepth 100000 in
theorem q480_ok : rf_chkB q480_P q480_U wLay q480_M ddX11_back [(9,[0])] [] [0] 600 q480_N = true := by decide +kernel
set_option maxHeartbeats 4000000 in
theorem q480_met {G : rfG} (h : okG G) : rf_met G q480_M := rf_methodB h.1 (P := q480_P) (U := q480_U) (N := q480_N) ⟨wflT h flokX11, wcsT h csokX11, wlcT h lcokX11, spokX11 h, List.forall_mem_cons.mpr ⟨q479_met h, fun _ h => absurd h List.not_mem_nil⟩, fun _ h => absurd h List.not_mem_nil, List.forall_mem_cons.mpr ⟨fun M hM => Option.some.inj (show some q479_M = some M from hM) ▸ wlkV (lkX11_337 h) q479_M rfl rfl, fun _ h => absurd h List.not_mem_nil⟩, fun _ h => absurd h List.not_mem_nil, fun _ h => absurd h List.not_mem_nil⟩ dkX11_back (by decide +kernel) (by rw [h.2.2.1]; exact q480_ok)
/-- NearSpellModel.back -/
def q481_M : rfM := ((⟨"NearSpellModel", "back", "(I)I"⟩, prog_14_method_126_code, 3, (some .int)), (1,22), ([.inr (.inl [114]),.inl ((1,1,0),none)],[((90,28),(0,0,0),none),((90,29),(0,0,0),none),((90,36),(0,0,0),none),((113,0),(0,0,0),none),((113,1),(0,0,0),none),((113,2),(0,0,0),none)]), [], [(some (.inl (((-1),(-1),0),none)),[],[])])
def q481_P : rfP := (flX12,csX12,lcX12,spX12,[q179_M],[(334,0)],[],([],[]))
def q481_U : rfU := []
set_option maxHeartbeats 8000000 in
def q481_N : List rfB := [(0,([(0,.inr (.inl [114])),(1,.inl ((1,1,0),none))],[],[((90,28),(0,0,0),some ((90,28),0,0)),((90,29),(0,0,0),some ((90,29),0,0)),((90,36),(0,0,0),some ((90,36),0,0)),((113,0),(0,0,0),some ((113,0),0,0)),((113,1),(0,0,0),some ((113,1),0,0)),((113,2),(0,0,0),some ((113,2),0,0))]),(11,[]),0)]
set_option maxRecDepth 100000 in
theorem q481_ok : rf_chkB q481_P q481_U wLay q481_M ddX12_back [(3,[0])] [] [0] 600 q481_N = true := by decide +kernel
set_option maxHeartbeats 4000000 in
theorem q481_met {G : rfG} (h : okG G) : rf_met G q481_M := rf_methodB h.1 (P := q481_P) (U := q481_U) (N := q481_N) ⟨wflT h flokX12, wcsT h csokX12, wlcT h lcokX12, spokX12 h, List.forall_mem_cons.mpr ⟨q179_met h, fun _ h => absurd h List.not_mem_nil⟩, List.forall_mem_cons.mpr ⟨fun M hM => Option.some.inj (show some q179_M = some M from hM) ▸ wlkS (lkX12_334 h) q179_M rfl rfl, fun _ h => absurd h List.not_mem_nil⟩, fun _ h => absurd h List.not_mem_nil, fun _ h => absurd h List.not_mem_nil, fun _ h => absurd h List.not_mem_nil⟩ dkX12_back (by decide +kernel) (by rw [h.2.2.1]; exact q481_ok)
/-- NearSpell.Archive.openBox -/
def q482_M : rfM := ((⟨"NearSpell$Archive", "openBox", "(ILNearSpell$State;)Z"⟩, prog_2_method_11_code, 3, (some .boolean)), (0,0), ([.inr (.inl [16]),.inl ((2,2,0),none),.inr (.inl [13])],[((12,34),(0,0,0),none),((12,35),(0,0,0),none),((12,36),(0,0,0),none),((16,2),(0,0,0),none)]), [], [(some (.inl ((0,0,0),none)),[],[])])
def q482_P : rfP := (flX0,csX0,lcX0,spX0,[],[],[],([],[]))
def q482_U : rfU := []
set_option maxHeartbeats 8000000 in
def q482_N : List rfB := [(0,([(0,.inr (.inl [16])),(1,.inl ((2,2,0),none)),(2,.inr (.inl [13]))],[],[((12,34),(0,0,0),some ((12,34),0,0)),((12,35),(0,0,0),some ((12,35),0,0)),((12,36),(0,0,0),some ((12,36),0,0)),((16,2),(0,0,0),some ((16,2),0,0))]),(13,[]),0)]
set_option maxRecDepth 100000 in
theorem q482_ok : rf_chkB q482_P q482_U wLay q482_M ddX0_openBox [] [] [0] 600 q482_N = true := by decide +kernel
set_option maxHeartbeats 4000000 in
theorem q482_met {G : rfG} (h : okG G) : rf_met G q482_M := rf_methodB h.1 (P := q482_P) (U := q482_U) (N := q482_N) ⟨wflT h flokX0, wcsT h csokX0, wlcT h lcokX0, spokX0 h, fun _ h => absurd h List.not_mem_nil, fun _ h => absurd h List.not_mem_nil, fun _ h => absurd h List.not_mem_nil, fun _ h => absurd h List.not_mem_nil, fun _ h => absurd h List.not_mem_nil⟩ dkX0_openBox (by decide +kernel) (by rw [h.2.2.1]; exact q482_ok)
/-- NearSpell.back -/
def q483_M : rfM := ((⟨"NearSpell", "back", "(I)I"⟩, prog_1_method_47_code, 2, (some .int)), (1,22), ([.inr (.inl [70]),.inl ((2,2,0),none)],[((12,34),(0,0,0),none),((12,35),(0,0,0),none),((12,36),(0,0,0),none),((16,2),(0,0,0),none),((16,3),(0,0,0),none),((16,4),(0,0,0),none)]), [], [(some (.inl (((-1),(-1),0),none)),[],[])])
def q483_P : rfP := (flX11,csX11,lcX11,spX11,[q482_M],[],[(337,0,0)],([],[]))
def q483_U : rfU := []
set_option maxHeartbeats 8000000 in
def q483_N : List rfB := [(0,([(0,.inr (.inl [70])),(1,.inl ((2,2,0),none))],[],[((12,34),(0,0,0),some ((12,34),0,0)),((12,35),(0,0,0),some ((12,35),0,0)),((12,36),(0,0,0),some ((12,36),0,0)),((16,2),(0,0,0),some ((16,2),0,0)),((16,3),(0,0,0),some ((16,3),0,0)),((16,4),(0,0,0),some ((16,4),0,0))]),(8,[]),0)]
set_option maxRecDepth 100000 in
theorem q483_ok : rf_chkB q483_P q483_U wLay q483_M ddX11_back [(9,[0])] [] [0] 600 q483_N = true := by decide +kernel
set_option maxHeartbeats 4000000 in
theorem q483_met {G : rfG} (h : okG G) : rf_met G q483_M := rf_methodB h.1 (P := q483_P) (U := q483_U) (N := q483_N) ⟨wflT h flokX11, wcsT h csokX11, wlcT h lcokX11, spokX11 h, List.forall_mem_cons.mpr ⟨q482_met h, fun _ h => absurd h List.not_mem_nil⟩, fun _ h => absurd h List.not_mem_nil, List.forall_mem_cons.mpr ⟨fun M hM => Option.some.inj (show some q482_M = some M from hM) ▸ wlkV (lkX11_337 h) q482_M rfl rfl, fun _ h => absurd h List.not_mem_nil⟩, fun _ h => absurd h List.not_mem_nil, fun _ h => absurd h List.not_mem_nil⟩ dkX11_back (by decide +kernel) (by rw [h.2.2.1]; exact q483_ok)
/-- NearSpellModel.back -/
def q484_M : rfM := ((⟨"NearSpellModel", "back", "(I)I"⟩, prog_14_method_126_code, 3, (some .int)), (1,22), ([.inr (.inl [114]),.inl ((2,2,0),none)],[((90,28),(0,0,0),none),((90,29),(0,0,0),none),((90,36),(0,0,0),none),((113,0),(0,0,0),none),((113,1),(0,0,0),none),((113,2),(0,0,0),none)]), [], [(some (.inl (((-1),(-1),0),none)),[],[])])
def q484_P : rfP := (flX12,csX12,lcX12,spX12,[q183_M],[(334,0)],[],([],[]))
def q484_U : rfU := []
set_option maxHeartbeats 8000000 in
def q484_N : List rfB := [(0,([(0,.inr (.inl [114])),(1,.inl ((2,2,0),none))],[],[((90,28),(0,0,0),some ((90,28),0,0)),((90,29),(0,0,0),some ((90,29),0,0)),((90,36),(0,0,0),some ((90,36),0,0)),((113,0),(0,0,0),some ((113,0),0,0)),((113,1),(0,0,0),some ((113,1),0,0)),((113,2),(0,0,0),some ((113,2),0,0))]),(11,[]),0)]
set_option maxRecDepth 100000 in
theorem q484_ok : rf_chkB q484_P q484_U wLay q484_M ddX12_back [(3,[0])] [] [0] 600 q484_N = true := by decide +kernel
set_option maxHeartbeats 4000000 in
theorem q484_met {G : rfG} (h : okG G) : rf_met G q484_M := rf_methodB h.1 (P := q484_P) (U := q484_U) (N := q484_N) ⟨wflT h flokX12, wcsT h csokX12, wlcT h lcokX12, spokX12 h, List.forall_mem_cons.mpr ⟨q183_met h, fun _ h => absurd h List.not_mem_nil⟩, List.forall_mem_cons.mpr ⟨fun M hM => Option.some.inj (show some q183_M = some M from hM) ▸ wlkS (lkX12_334 h) q183_M rfl rfl, fun _ h => absurd h List.not_mem_nil⟩, fun _ h => absurd h List.not_mem_nil, fun _ h => absurd h List.not_mem_nil, fun _ h => absurd h List.not_mem_nil⟩ dkX12_back (by decide +kernel) (by rw [h.2.2.1]; exact q484_ok)
/-- NearSpell.Archive.openBox -/
def q485_M : rfM := ((⟨"NearSpell$Archive", "openBox", "(ILNearSpell$State;)Z"⟩, prog_2_method_11_code, 3, (some .boolean)), (0,0), ([.inr (.inl [16]),.inl ((1,2147483647,1),none),.inr (.inl [13])],[((12,34),(0,0,0),none),((12,35),(0,0,0),none),((12,36),(0,0,0),none),((16,2),(0,0,0),none)]), [], [(some (.inl ((0,0,0),none)),[],[])])
def q485_P : rfP := (flX0,csX0,lcX0,spX0,[],[],[],([],[]))
def q485_U : rfU := []
set_option maxHeartbeats 8000000 in
def q485_N : List rfB := [(0,([(0,.inr (.inl [16])),(1,.inl ((1,2147483647,1),none)),(2,.inr (.inl [13]))],[],[((12,34),(0,0,0),some ((12,34),0,0)),((12,35),(0,0,0),some ((12,35),0,0)),((12,36),(0,0,0),some ((12,36),0,0)),((16,2),(0,0,0),some ((16,2),0,0))]),(13,[]),0)]
set_option maxRecDepth 100000 in
theorem q485_ok : rf_chkB q485_P q485_U wLay q485_M ddX0_openBox [] [] [0] 19 q485_N = true := by decide +kernel
set_option maxHeartbeats 4000000 in
theorem q485_met {G : rfG} (h : okG G) : rf_met G q485_M := rf_methodB h.1 (P := q485_P) (U := q485_U) (N := q485_N) ⟨wflT h flokX0, wcsT h csokX0, wlcT h lcokX0, spokX0 h, fun _ h => absurd h List.not_mem_nil, fun _ h => absurd h List.not_mem_nil, fun _ h => absurd h List.not_mem_nil, fun _ h => absurd h List.not_mem_nil, fun _ h => absurd h List.not_mem_nil⟩ dkX0_openBox (by decide +kernel) (by rw [h.2.2.1]; exact q485_ok)
