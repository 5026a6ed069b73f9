/-- NearSpell.lies -/
def q650_M : rfM := ((⟨"NearSpell", "lies", "(I)I"⟩, prog_1_method_40_code, 2, (some .int)), (0,0), ([.inr (.inl [70]),.inl (((-2147483648),2147483647,1),none)],[]), [], [(some (.inl (((-2147483648),2147483647,1),none)),[],[])])
def ddX11_lies : List (Nat × Instr × Nat) := [(0,.iload_n 1,1),(1,.ifCond .lt 29,3),(4,.iload_n 1,1),(5,.aload_n 0,1),(6,.getfield 104,3),(9,.if_icmp .ge 21,3),(12,.iload_n 1,1),(13,.aload_n 0,1),(14,.getfield 96,3),(17,.arraylength,1),(18,.if_icmp .ge 12,3),(21,.aload_n 0,1),(22,.getfield 96,3),(25,.iload_n 1,1),(26,.iaload,1),(27,.goto 5,3),(30,.bipush (-2),2),(32,.ireturn,1)]
set_option maxRecDepth 100000 in
theorem dkX11_lies : rf_decs prog_1_method_40_code ddX11_lies := rf_decs_of (by decide +kernel)
def q650_P : rfP := (flX11,csX11,lcX11,spX11,[],[],[],([],[]))
def q650_U : rfU := []
set_option maxHeartbeats 8000000 in
def q650_N : List rfB := [(0,([(0,.inr (.inl [70])),(1,.inl (((-2147483648),2147483647,1),none))],[],[]),(18,[]),0),
  (30,([(0,.inr (.inl [70])),(1,.inl (((-2147483648),2147483647,1),none))],[],[]),(1,[]),0)]
set_option maxRecDepth 100000 in
theorem q650_ok : rf_chkB q650_P q650_U wLay q650_M ddX11_lies [] [] [0,30] 600 q650_N = true := by decide +kernel
set_option maxHeartbeats 4000000 in
theorem q650_met {G : rfG} (h : okG G) : rf_met G q650_M := rf_methodB h.1 (P := q650_P) (U := q650_U) (N := q650_N) ⟨wflT h flokX11, wcsT h csokX11, wlcT h lcokX11, spokX11 h, fun _ h => absurd h List.not_mem_nil, fun _ h => absurd h List.not_mem_nil, fun _ h => absurd h List.not_mem_nil, fun _ h => absurd h List.not_mem_nil, fun _ h => absurd h List.not_mem_nil⟩ dkX11_lies (by decide +kernel) (by rw [h.2.2.1]; exact q650_ok)
/-- NearSpell.Witness.tell -/
def q651_M : rfM := ((⟨"NearSpell$Witness", "tell", "(IIZ)I"⟩, prog_12_method_4_code, 5, (some .int)), (0,0), ([.inr (.inl [68]),.inl ((0,387420488,1),none),.inl ((0,6,1),none),.inl ((0,1,1),none)],[]), [(62,0),(63,0),(64,0),(65,0),(66,0),(68,9)], [(some (.inl (((-1),29,1),none)),[],[])])
def ddX10_tell : List (Nat × Instr × Nat) := [(0,.aload_n 0,1),(1,.getfield 31,3),(4,.istore 4,2),(6,.aload_n 0,1),(7,.getfield 38,3),(10,.getfield 47,3),(13,.ifCond .eq 10,3),(16,.iload 4,2),(18,.bipush 30,2),(20,.if_icmp .lt 5,3),(23,.iconst (-1),1),(24,.ireturn,1),(25,.aload_n 0,1),(26,.getfield 11,3),(29,.iload 4,2),(31,.iload_n 1,1),(32,.iastore,1),(33,.aload_n 0,1),(34,.getfield 15,3),(37,.iload 4,2),(39,.iload_n 2,1),(40,.iastore,1),(41,.aload_n 0,1),(42,.getfield 18,3),(45,.iload 4,2),(47,.iload_n 3,1),(48,.bastore,1),(49,.aload_n 0,1),(50,.getfield 22,3),(53,.iload 4,2),(55,.aload_n 0,1),(56,.getfield 35,3),(59,.iastore,1),(60,.aload_n 0,1),(61,.getfield 25,3),(64,.iload 4,2),(66,.iconst (-1),1),(67,.iastore,1),(68,.aload_n 0,1),(69,.dup,1),(70,.getfield 31,3),(73,.iconst 1,1),(74,.iadd,1),(75,.putfield 31,3),(78,.iload 4,2),(80,.ireturn,1)]
set_option maxRecDepth 100000 in
theorem dkX10_tell : rf_decs prog_12_method_4_code ddX10_tell := rf_decs_of (by decide +kernel)
def q651_P : rfP := (flX10,csX10,lcX10,spX10,[],[],[],([],[]))
def q651_U : rfU := []
set_option maxHeartbeats 8000000 in
def q651_N : List rfB := [(0,([(0,.inr (.inl [68])),(1,.inl ((0,387420488,1),none)),(2,.inl ((0,6,1),none)),(3,.inl ((0,1,1),none))],[],[]),(45,[]),0),
  (23,([(0,.inr (.inl [68])),(1,.inl ((0,387420488,1),none)),(2,.inl ((0,6,1),none)),(3,.inl ((0,1,1),none)),(4,.inl ((0,30,1),some (.inr (68,8),some 0)))],[],[]),(1,[]),0)]
set_option maxRecDepth 100000 in
theorem q651_ok : rf_chkB q651_P q651_U wLay q651_M ddX10_tell [] [] [0,23] 600 q651_N = true := by decide +kernel
set_option maxHeartbeats 4000000 in
theorem q651_met {G : rfG} (h : okG G) : rf_met G q651_M := rf_methodB h.1 (P := q651_P) (U := q651_U) (N := q651_N) ⟨wflT h flokX10, wcsT h csokX10, wlcT h lcokX10, spokX10 h, fun _ h => absurd h List.not_mem_nil, fun _ h => absurd h List.not_mem_nil, fun _ h => absurd h List.not_mem_nil, fun _ h => absurd h List.not_mem_nil, fun _ h => absurd h List.not_mem_nil⟩ dkX10_tell (by decide +kernel) (by rw [h.2.2.1]; exact q651_ok)
/-- NearSpell.seen -/
def q652_M : rfM := ((⟨"NearSpell", "seen", "(IIZ)I"⟩, prog_1_method_41_code, 4, (some .int)), (1,24), ([.inr (.inl [70]),.inl (((-2147483648),2147483647,1),none),.inl (((-2147483648),2147483647,1),none),.inl ((0,1,1),none)],[]), [(62,0),(63,0),(64,0),(65,0),(66,0),(68,9)], [(some (.inl (((-1),29,1),none)),[],[])])
def ddX11_seen : List (Nat × Instr × Nat) := [(0,.iload_n 1,1),(1,.invokestatic 163,3),(4,.ifCond .eq 10,3),(7,.iload_n 2,1),(8,.invokestatic 232,3),(11,.ifCond .ne 5,3),(14,.iconst (-1),1),(15,.ireturn,1),(16,.aload_n 0,1),(17,.getfield 92,3),(20,.iload_n 1,1),(21,.iload_n 2,1),(22,.iload_n 3,1),(23,.invokevirtual 318,3),(26,.ireturn,1)]
set_option maxRecDepth 100000 in
theorem dkX11_seen : rf_decs prog_1_method_41_code ddX11_seen := rf_decs_of (by decide +kernel)
def q652_P : rfP := (flX11,csX11,lcX11,spX11,[q170_M,q437_M,q651_M],[(163,0),(232,1)],[(318,2,10)],([],[]))
def q652_U : rfU := []
set_option maxHeartbeats 8000000 in
def q652_N : List rfB := [(0,([(0,.inr (.inl [70])),(1,.inl (((-2147483648),2147483647,1),none)),(2,.inl (((-2147483648),2147483647,1),none)),(3,.inl ((0,1,1),none))],[],[]),(16,[]),0),
  (14,([(0,.inr (.inl [70])),(1,.inl (((-2147483648),2147483647,1),none)),(2,.inl (((-2147483648),2147483647,1),none)),(3,.inl ((0,1,1),none))],[],[]),(1,[]),0)]
set_option maxRecDepth 100000 in
theorem q652_ok : rf_chkB q652_P q652_U wLay q652_M ddX11_seen [(1,[0]),(8,[1]),(23,[2])] [] [0,14] 600 q652_N = true := by decide +kernel
set_option maxHeartbeats 4000000 in
theorem q652_met {G : rfG} (h : okG G) : rf_met G q652_M := rf_methodB h.1 (P := q652_P) (U := q652_U) (N := q652_N) ⟨wflT h flokX11, wcsT h csokX11, wlcT h lcokX11, spokX11 h, List.forall_mem_cons.mpr ⟨q170_met h, List.forall_mem_cons.mpr ⟨q437_met h, List.forall_mem_cons.mpr ⟨q651_met h, fun _ h => absurd h List.not_mem_nil⟩⟩⟩, List.forall_mem_cons.mpr ⟨fun M hM => Option.some.inj (show some q170_M = some M from hM) ▸ wlkS (lkX11_163 h) q170_M rfl rfl, List.forall_mem_cons.mpr ⟨fun M hM => Option.some.inj (show some q437_M = some M from hM) ▸ wlkS (lkX11_232 h) q437_M rfl rfl, fun _ h => absurd h List.not_mem_nil⟩⟩, List.forall_mem_cons.mpr ⟨fun M hM => Option.some.inj (show some q651_M = some M from hM) ▸ wlkV (lkX11_318 h) q651_M rfl rfl, fun _ h => absurd h List.not_mem_nil⟩, fun _ h => absurd h List.not_mem_nil, fun _ h => absurd h List.not_mem_nil⟩ dkX11_seen (by decide +kernel) (by rw [h.2.2.1]; exact q652_ok)
/-- NearSpell.Witness.takeBack -/
def q653_M : rfM := ((⟨"NearSpell$Witness", "takeBack", "(I)Z"⟩, prog_12_method_5_code, 2, (some .boolean)), (0,0), ([.inr (.inl [68]),.inl (((-2147483648),2147483647,1),none)],[]), [(66,0)], [(some (.inl ((0,0,0),none)),[],[]),(some (.inl ((1,1,0),none)),[(1,0,29)],[((68,8),(1,30,1),none)])])
def ddX10_takeBack : List (Nat × Instr × Nat) := [(0,.iload_n 1,1),(1,.ifCond .lt 21,3),(4,.iload_n 1,1),(5,.aload_n 0,1),(6,.getfield 31,3),(9,.if_icmp .ge 13,3),(12,.aload_n 0,1),(13,.getfield 25,3),(16,.iload_n 1,1),(17,.iaload,1),(18,.iconst (-1),1),(19,.if_icmp .eq 5,3),(22,.iconst 0,1),(23,.ireturn,1),(24,.aload_n 0,1),(25,.getfield 25,3),(28,.iload_n 1,1),(29,.aload_n 0,1),(30,.getfield 35,3),(33,.iastore,1),(34,.iconst 1,1),(35,.ireturn,1)]
set_option maxRecDepth 100000 in
theorem dkX10_takeBack : rf_decs prog_12_method_5_code ddX10_takeBack := rf_decs_of (by decide +kernel)
def q653_P : rfP := (flX10,csX10,lcX10,spX10,[],[],[],([],[]))
def q653_U : rfU := []
set_option maxHeartbeats 8000000 in
def q653_N : List rfB := [(0,([(0,.inr (.inl [68])),(1,.inl (((-2147483648),2147483647,1),none))],[],[]),(21,[]),0),
  (22,([(0,.inr (.inl [68])),(1,.inl (((-2147483648),2147483647,1),none))],[],[]),(1,[]),0)]
set_option maxRecDepth 100000 in
theorem q653_ok : rf_chkB q653_P q653_U wLay q653_M ddX10_takeBack [] [] [0,22] 600 q653_N = true := by decide +kernel
set_option maxHeartbeats 4000000 in
theorem q653_met {G : rfG} (h : okG G) : rf_met G q653_M := rf_methodB h.1 (P := q653_P) (U := q653_U) (N := q653_N) ⟨wflT h flokX10, wcsT h csokX10, wlcT h lcokX10, spokX10 h, fun _ h => absurd h List.not_mem_nil, fun _ h => absurd h List.not_mem_nil, fun _ h => absurd h List.not_mem_nil, fun _ h => absurd h List.not_mem_nil, fun _ h => absurd h List.not_mem_nil⟩ dkX10_takeBack (by decide +kernel) (by rw [h.2.2.1]; exact q653_ok)
/-- NearSpell.untell -/
def q654_M : rfM := ((⟨"NearSpell", "untell", "(I)Z"⟩, prog_1_method_42_code, 2, (some .boolean)), (1,21), ([.inr (.inl [70]),.inl (((-2147483648),2147483647,1),none)],[]), [(66,0)], [(some (.inl ((1,1,0),none)),[(1,0,29)],[((68,8),(1,30,1),none)]),(some (.inl ((0,0,0),none)),[],[])])
def ddX11_untell : List (Nat × Instr × Nat) := [(0,.aload_n 0,1),(1,.getfield 92,3),(4,.iload_n 1,1),(5,.invokevirtual 322,3),(8,.ireturn,1)]
set_option maxRecDepth 100000 in
theorem dkX11_untell : rf_decs prog_1_method_42_code ddX11_untell := rf_decs_of (by decide +kernel)
def q654_P : rfP := (flX11,csX11,lcX11,spX11,[q653_M],[],[(322,0,10)],([],[]))
def q654_U : rfU := []
set_option maxHeartbeats 8000000 in
def q654_N : List rfB := [(0,([(0,.inr (.inl [70])),(1,.inl (((-2147483648),2147483647,1),none))],[],[]),(5,[]),0)]
set_option maxRecDepth 100000 in
theorem q654_ok : rf_chkB q654_P q654_U wLay q654_M ddX11_untell [(5,[0])] [] [0] 600 q654_N = true := by decide +kernel
set_option maxHeartbeats 4000000 in
theorem q654_met {G : rfG} (h : okG G) : rf_met G q654_M := rf_methodB h.1 (P := q654_P) (U := q654_U) (N := q654_N) ⟨wflT h flokX11, wcsT h csokX11, wlcT h lcokX11, spokX11 h, List.forall_mem_cons.mpr ⟨q653_met h, fun _ h => absurd h List.not_mem_nil⟩, fun _ h => absurd h List.not_mem_nil, List.forall_mem_cons.mpr ⟨fun M hM => Option.some.inj (show some q653_M = some M from hM) ▸ wlkV (lkX11_322 h) q653_M rfl rfl, fun _ h => absurd h List.not_mem_nil⟩, fun _ h => absurd h List.not_mem_nil, fun _ h => absurd h List.not_mem_nil⟩ dkX11_untell (by decide +kernel) (by rw [h.2.2.1]; exact q654_ok)
/-- NearSpell.Witness.countsAt -/
def q655_M : rfM := ((⟨"NearSpell$Witness", "countsAt", "(II)Z"⟩, prog_12_method_6_code, 4, (some .boolean)), (0,0), ([.inr (.inl [68]),.inl ((0,0,0),none),.inl (((-2147483648),2147483647,1),none)],[]), [], [(some (.inl ((1,1,0),none)),[],[]),(some (.inl ((0,0,0),none)),[],[])])
def ddX10_countsAt : List (Nat × Instr × Nat) := [(0,.aload_n 0,1),(1,.getfield 25,3),(4,.iload_n 1,1),(5,.iaload,1),(6,.iconst (-1),1),(7,.if_icmp .eq 17,3),(10,.aload_n 0,1),(11,.getfield 25,3),(14,.iload_n 1,1),(15,.iaload,1),(16,.iload_n 2,1),(17,.if_icmp .gt 7,3),(20,.iconst 1,1),(21,.goto 4,3),(24,.iconst 0,1),(25,.istore_n 3,1),(26,.aload_n 0,1),(27,.getfield 22,3),(30,.iload_n 1,1),(31,.iaload,1),(32,.iload_n 2,1),(33,.if_icmp .gt 11,3),(36,.iload_n 3,1),(37,.ifCond .ne 7,3),(40,.iconst 1,1),(41,.goto 4,3),(44,.iconst 0,1),(45,.ireturn,1)]
set_option maxRecDepth 100000 in
theorem dkX10_countsAt : rf_decs prog_12_method_6_code ddX10_countsAt := rf_decs_of (by decide +kernel)
def q655_P : rfP := (flX10,csX10,lcX10,spX10,[],[],[],([],[]))
def q655_U : rfU := []
set_option maxHeartbeats 8000000 in
def q655_N : List rfB := [(0,([(0,.inr (.inl [68])),(1,.inl ((0,0,0),none)),(2,.inl (((-2147483648),2147483647,1),none))],[],[]),(29,[]),0),
  (24,([(0,.inr (.inl [68])),(1,.inl ((0,0,0),none)),(2,.inl (((-2147483648),2147483647,1),none))],[],[((66,0),((-2147483647),2147483647,1),none)]),(14,[]),0),
  (26,([(0,.inr (.inl [68])),(1,.inl ((0,0,0),none)),(2,.inl (((-2147483648),2147483647,1),none)),(3,.inl ((0,1,1),none))],[],[]),(12,[]),0),
  (44,([(0,.inr (.inl [68])),(1,.inl ((0,0,0),none)),(2,.inl (((-2147483648),2147483647,1),none)),(3,.inl ((0,1,1),none))],[],[]),(1,[]),0)]
set_option maxRecDepth 100000 in
theorem q655_ok : rf_chkB q655_P q655_U wLay q655_M ddX10_countsAt [] [] [0,24,26,44] 600 q655_N = true := by decide +kernel
set_option maxHeartbeats 4000000 in
theorem q655_met {G : rfG} (h : okG G) : rf_met G q655_M := rf_methodB h.1 (P := q655_P) (U := q655_U) (N := q655_N) ⟨wflT h flokX10, wcsT h csokX10, wlcT h lcokX10, spokX10 h, fun _ h => absurd h List.not_mem_nil, fun _ h => absurd h List.not_mem_nil, fun _ h => absurd h List.not_mem_nil, fun _ h => absurd h List.not_mem_nil, fun _ h => absurd h List.not_mem_nil⟩ dkX10_countsAt (by decide +kernel) (by rw [h.2.2.1]; exact q655_ok)
/-- NearSpell.Witness.countsAt -/
def q656_M : rfM := ((⟨"NearSpell$Witness", "countsAt", "(II)Z"⟩, prog_12_method_6_code, 4, (some .boolean)), (0,0), ([.inr (.inl [68]),.inl ((0,1,1),none),.inl (((-2147483648),2147483647,1),none)],[]), [], [(some (.inl ((1,1,0),none)),[],[]),(some (.inl ((0,0,0),none)),[],[])])
def q656_P : rfP := (flX10,csX10,lcX10,spX10,[],[],[],([],[]))
def q656_U : rfU := []
set_option maxHeartbeats 8000000 in
def q656_N : List rfB := [(0,([(0,.inr (.inl [68])),(1,.inl ((0,1,1),none)),(2,.inl (((-2147483648),2147483647,1),none))],[],[]),(29,[]),0),
  (24,([(0,.inr (.inl [68])),(1,.inl ((0,1,1),none)),(2,.inl (((-2147483648),2147483647,1),none))],[],[]),(14,[]),0),
  (26,([(0,.inr (.inl [68])),(1,.inl ((0,1,1),none)),(2,.inl (((-2147483648),2147483647,1),none)),(3,.inl ((0,1,1),none))],[],[]),(12,[]),0),
  (44,([(0,.inr (.inl [68])),(1,.inl ((0,1,1),none)),(2,.inl (((-2147483648),2147483647,1),none)),(3,.inl ((0,1,1),none))],[],[]),(1,[]),0)]
set_option maxRecDepth 100000 in
theorem q656_ok : rf_chkB q656_P q656_U wLay q656_M ddX10_countsAt [] [] [0,24,26,44] 600 q656_N = true := by decide +kernel
set_option maxHeartbeats 4000000 in
theorem q656_met {G : rfG} (h : okG G) : rf_met G q656_M := rf_methodB h.1 (P := q656_P) (U := q656_U) (N := q656_N) ⟨wflT h flokX10, wcsT h csokX10, wlcT h lcokX10, spokX10 h, fun _ h => absurd h List.not_mem_nil, fun _ h => absurd h List.not_mem_nil, fun _ h => absurd h List.not_mem_nil, fun _ h => absurd h List.not_mem_nil, fun _ h => absurd h List.not_mem_nil⟩ dkX10_countsAt (by decide +kernel) (by rw [h.2.2.1]; exact q656_ok)
/-- NearSpell.Witness.countsAt -/
def q657_M : rfM := ((⟨"NearSpell$Witness", "countsAt", "(II)Z"⟩, prog_12_method_6_code, 4, (some .boolean)), (0,0), ([.inr (.inl [68]),.inl ((0,2,1),none),.inl (((-2147483648),2147483647,1),none)],[]), [], [(some (.inl ((1,1,0),none)),[],[]),(some (.inl ((0,0,0),none)),[],[])])
def q657_P : rfP := (flX10,csX10,lcX10,spX10,[],[],[],([],[]))
def q657_U : rfU := []
set_option maxHeartbeats 8000000 in
def q657_N : List rfB := [(0,([(0,.inr (.inl [68])),(1,.inl ((0,2,1),none)),(2,.inl (((-2147483648),2147483647,1),none))],[],[]),(29,[]),0),
  (24,([(0,.inr (.inl [68])),(1,.inl ((0,2,1),none)),(2,.inl (((-2147483648),2147483647,1),none))],[],[]),(14,[]),0),
  (26,([(0,.inr (.inl [68])),(1,.inl ((0,2,1),none)),(2,.inl (((-2147483648),2147483647,1),none)),(3,.inl ((0,1,1),none))],[],[]),(12,[]),0),
  (44,([(0,.inr (.inl [68])),(1,.inl ((0,2,1),none)),(2,.inl (((-2147483648),2147483647,1),none)),(3,.inl ((0,1,1),none))],[],[]),(1,[]),0)]
set_option maxRecDepth 100000 in
theorem q657_ok : rf_chkB q657_P q657_U wLay q657_M ddX10_countsAt [] [] [0,24,26,44] 600 q657_N = true := by decide +kernel
set_option maxHeartbeats 4000000 in
theorem q657_met {G : rfG} (h : okG G) : rf_met G q657_M := rf_methodB h.1 (P := q657_P) (U := q657_U) (N := q657_N) ⟨wflT h flokX10, wcsT h csokX10, wlcT h lcokX10, spokX10 h, fun _ h => absurd h List.not_mem_nil, fun _ h => absurd h List.not_mem_nil, fun _ h => absurd h List.not_mem_nil, fun _ h => absurd h List.not_mem_nil, fun _ h => absurd h List.not_mem_nil⟩ dkX10_countsAt (by decide +kernel) (by rw [h.2.2.1]; exact q657_ok)
/-- NearSpell.Witness.countsAt -/
def q658_M : rfM := ((⟨"NearSpell$Witness", "countsAt", "(II)Z"⟩, prog_12_method_6_code, 4, (some .boolean)), (0,0), ([.inr (.inl [68]),.inl ((0,3,1),none),.inl (((-2147483648),2147483647,1),none)],[]), [], [(some (.inl ((1,1,0),none)),[],[]),(some (.inl ((0,0,0),none)),[],[])])
def q658_P : rfP := (flX10,csX10,lcX10,spX10,[],[],[],([],[]))
def q658_U : rfU := []
set_option maxHeartbeats 8000000 in
def q658_N : List rfB := [(0,([(0,.inr (.inl [68])),(1,.inl ((0,3,1),none)),(2,.inl (((-2147483648),2147483647,1),none))],[],[]),(29,[]),0),
  (24,([(0,.inr (.inl [68])),(1,.inl ((0,3,1),none)),(2,.inl (((-2147483648),2147483647,1),none))],[],[]),(14,[]),0),
  (26,([(0,.inr (.inl [68])),(1,.inl ((0,3,1),none)),(2,.inl (((-2147483648),2147483647,1),none)),(3,.inl ((0,1,1),none))],[],[]),(12,[]),0),
  (44,([(0,.inr (.inl [68])),(1,.inl ((0,3,1),none)),(2,.inl (((-2147483648),2147483647,1),none)),(3,.inl ((0,1,1),none))],[],[]),(1,[]),0)]
set_option maxRecDepth 100000 in
theorem q658_ok : rf_chkB q658_P q658_U wLay q658_M ddX10_countsAt [] [] [0,24,26,44] 600 q658_N = true := by decide +kernel
set_option maxHeartbeats 4000000 in
theorem q658_met {G : rfG} (h : okG G) : rf_met G q658_M := rf_methodB h.1 (P := q658_P) (U := q658_U) (N := q658_N) ⟨wflT h flokX10, wcsT h csokX10, wlcT h lcokX10, spokX10 h, fun _ h => absurd h List.not_mem_nil, fun _ h => absurd h List.not_mem_nil, fun _ h => absurd h List.not_mem_nil, fun _ h => absurd h List.not_mem_nil, fun _ h => absurd h List.not_mem_nil⟩ dkX10_countsAt (by decide +kernel) (by rw [h.2.2.1]; exact q658_ok)
/-- NearSpell.Witness.countsAt -/
def q659_M : rfM := ((⟨"NearSpell$Witness", "countsAt", "(II)Z"⟩, prog_12_method_6_code, 4, (some .boolean)), (0,0), ([.inr (.inl [68]),.inl ((0,12,1),none),.inl (((-2147483648),2147483647,1),none)],[]), [], [(some (.inl ((1,1,0),none)),[],[]),(some (.inl ((0,0,0),none)),[],[])])
def q659_P : rfP := (flX10,csX10,lcX10,spX10,[],[],[],([],[]))
def q659_U : rfU := []
set_option maxHeartbeats 8000000 in
def q659_N : List rfB := [(0,([(0,.inr (.inl [68])),(1,.inl ((0,12,1),none)),(2,.inl (((-2147483648),2147483647,1),none))],[],[]),(29,[]),0),
  (24,([(0,.inr (.inl [68])),(1,.inl ((0,12,1),none)),(2,.inl (((-2147483648),2147483647,1),none))],[],[]),(14,[]),0),
  (26,([(0,.inr (.inl [68])),(1,.inl ((0,12,1),none)),(2,.inl (((-2147483648),2147483647,1),none)),(3,.inl ((0,1,1),none))],[],[]),(12,[]),0),
  (44,([(0,.inr (.inl [68])),(1,.inl ((0,12,1),none)),(2,.inl (((-2147483648),2147483647,1),none)),(3,.inl ((0,1,1),none))],[],[]),(1,[]),0)]
set_option maxRecDepth 100000 in
theorem q659_ok : rf_chkB q659_P q659_U wLay q659_M ddX10_countsAt [] [] [0,24,26,44] 600 q659_N = true := by decide +kernel
set_option maxHeartbeats 4000000 in
theorem q659_met {G : rfG} (h : okG G) : rf_met G q659_M := rf_methodB h.1 (P := q659_P) (U := q659_U) (N := q659_N) ⟨wflT h flokX10, wcsT h csokX10, wlcT h lcokX10, spokX10 h, fun _ h => absurd h List.not_mem_nil, fun _ h => absurd h List.not_mem_nil, fun _ h => absurd h List.not_mem_nil, fun _ h => absurd h List.not_mem_nil, fun _ h => absurd h List.not_mem_nil⟩ dkX10_countsAt (by decide +kernel) (by rw [h.2.2.1]; exact q659_ok)
/-- NearSpell.Witness.countsAt -/
def q660_M : rfM := ((⟨"NearSpell$Witness", "countsAt", "(II)Z"⟩, prog_12_method_6_code, 4, (some .boolean)), (0,0), ([.inr (.inl [68]),.inl ((0,13,1),none),.inl (((-2147483648),2147483647,1),none)],[]), [], [(some (.inl ((1,1,0),none)),[],[]),(some (.inl ((0,0,0),none)),[],[])])
def q660_P : rfP := (flX10,csX10,lcX10,spX10,[],[],[],([],[]))
def q660_U : rfU := []
set_option maxHeartbeats 8000000 in
def q660_N : List rfB := [(0,([(0,.inr (.inl [68])),(1,.inl ((0,13,1),none)),(2,.inl (((-2147483648),2147483647,1),none))],[],[]),(29,[]),0),
  (24,([(0,.inr (.inl [68])),(1,.inl ((0,13,1),none)),(2,.inl (((-2147483648),2147483647,1),none))],[],[]),(14,[]),0),
  (26,([(0,.inr (.inl [68])),(1,.inl ((0,13,1),none)),(2,.inl (((-2147483648),2147483647,1),none)),(3,.inl ((0,1,1),none))],[],[]),(12,[]),0),
  (44,([(0,.inr (.inl [68])),(1,.inl ((0,13,1),none)),(2,.inl (((-2147483648),2147483647,1),none)),(3,.inl ((0,1,1),none))],[],[]),(1,[]),0)]
set_option maxRecDepth 100000 in
theorem q660_ok : rf_chkB q660_P q660_U wLay q660_M ddX10_countsAt [] [] [0,24,26,44] 600 q660_N = true := by decide +kernel
set_option maxHeartbeats 4000000 in
theorem q660_met {G : rfG} (h : okG G) : rf_met G q660_M := rf_methodB h.1 (P := q660_P) (U := q660_U) (N := q660_N) ⟨wflT h flokX10, wcsT h csokX10, wlcT h lcokX10, spokX10 h, fun _ h => absurd h List.not_mem_nil, fun _ h => absurd h List.not_mem_nil, fun _ h => absurd h List.not_mem_nil, fun _ h => absurd h List.not_mem_nil, fun _ h => absurd h List.not_mem_nil⟩ dkX10_countsAt (by decide +kernel) (by rw [h.2.2.1]; exact q660_ok)
/-- NearSpell.Witness.countsAt -/
def q661_M : rfM := ((⟨"NearSpell$Witness", "countsAt", "(II)Z"⟩, prog_12_method_6_code, 4, (some .boolean)), (0,0), ([.inr (.inl [68]),.inl ((0,14,1),none),.inl (((-2147483648),2147483647,1),none)],[]), [], [(some (.inl ((1,1,0),none)),[],[]),(some (.inl ((0,0,0),none)),[],[])])
def q661_P : rfP := (flX10,csX10,lcX10,spX10,[],[],[],([],[]))
def q661_U : rfU := []
set_option maxHeartbeats 8000000 in
def q661_N : List rfB := [(0,([(0,.inr (.inl [68])),(1,.inl ((0,14,1),none)),(2,.inl (((-2147483648),2147483647,1),none))],[],[]),(29,[]),0),
  (24,([(0,.inr (.inl [68])),(1,.inl ((0,14,1),none)),(2,.inl (((-2147483648),2147483647,1),none))],[],[]),(14,[]),0),
  (26,([(0,.inr (.inl [68])),(1,.inl ((0,14,1),none)),(2,.inl (((-2147483648),2147483647,1),none)),(3,.inl ((0,1,1),none))],[],[]),(12,[]),0),
  (44,([(0,.inr (.inl [68])),(1,.inl ((0,14,1),none)),(2,.inl (((-2147483648),2147483647,1),none)),(3,.inl ((0,1,1),none))],[],[]),(1,[]),0)]
set_option maxRecDepth 100000 in
theorem q661_ok : rf_chkB q661_P q661_U wLay q661_M ddX10_countsAt [] [] [0,24,26,44] 600 q661_N = true := by decide +kernel
set_option maxHeartbeats 4000000 in
theorem q661_met {G : rfG} (h : okG G) : rf_met G q661_M := rf_methodB h.1 (P := q661_P) (U := q661_U) (N := q661_N) ⟨wflT h flokX10, wcsT h csokX10, wlcT h lcokX10, spokX10 h, fun _ h => absurd h List.not_mem_nil, fun _ h => absurd h List.not_mem_nil, fun _ h => absurd h List.not_mem_nil, fun _ h => absurd h List.not_mem_nil, fun _ h => absurd h List.not_mem_nil⟩ dkX10_countsAt (by decide +kernel) (by rw [h.2.2.1]; exact q661_ok)
/-- NearSpell.Witness.countsAt -/
def q662_M : rfM := ((⟨"NearSpell$Witness", "countsAt", "(II)Z"⟩, prog_12_method_6_code, 4, (some .boolean)), (0,0), ([.inr (.inl [68]),.inl ((0,26,1),none),.inl (((-2147483648),2147483647,1),none)],[]), [], [(some (.inl ((1,1,0),none)),[],[]),(some (.inl ((0,0,0),none)),[],[])])
def q662_P : rfP := (flX10,csX10,lcX10,spX10,[],[],[],([],[]))
def q662_U : rfU := []
set_option maxHeartbeats 8000000 in
def q662_N : List rfB := [(0,([(0,.inr (.inl [68])),(1,.inl ((0,26,1),none)),(2,.inl (((-2147483648),2147483647,1),none))],[],[]),(29,[]),0),
  (24,([(0,.inr (.inl [68])),(1,.inl ((0,26,1),none)),(2,.inl (((-2147483648),2147483647,1),none))],[],[]),(14,[]),0),
  (26,([(0,.inr (.inl [68])),(1,.inl ((0,26,1),none)),(2,.inl (((-2147483648),2147483647,1),none)),(3,.inl ((0,1,1),none))],[],[]),(12,[]),0),
  (44,([(0,.inr (.inl [68])),(1,.inl ((0,26,1),none)),(2,.inl (((-2147483648),2147483647,1),none)),(3,.inl ((0,1,1),none))],[],[]),(1,[]),0)]
set_option maxRecDepth 100000 in
theorem q662_ok : rf_chkB q662_P q662_U wLay q662_M ddX10_countsAt [] [] [0,24,26,44] 600 q662_N = true := by decide +kernel
set_option maxHeartbeats 4000000 in
theorem q662_met {G : rfG} (h : okG G) : rf_met G q662_M := rf_methodB h.1 (P := q662_P) (U := q662_U) (N := q662_N) ⟨wflT h flokX10, wcsT h csokX10, wlcT h lcokX10, spokX10 h, fun _ h => absurd h List.not_mem_nil, fun _ h => absurd h List.not_mem_nil, fun _ h => absurd h List.not_mem_nil, fun _ h => absurd h List.not_mem_nil, fun _ h => absurd h List.not_mem_nil⟩ dkX10_countsAt (by decide +kernel) (by rw [h.2.2.1]; exact q662_ok)
/-- NearSpell.Witness.countsAt -/
def q663_M : rfM := ((⟨"NearSpell$Witness", "countsAt", "(II)Z"⟩, prog_12_method_6_code, 4, (some .boolean)), (0,0), ([.inr (.inl [68]),.inl ((0,29,1),none),.inl (((-2147483648),2147483647,1),none)],[]), [], [(some (.inl ((1,1,0),none)),[],[]),(some (.inl ((0,0,0),none)),[],[])])
def q663_P : rfP := (flX10,csX10,lcX10,spX10,[],[],[],([],[]))
def q663_U : rfU := []
set_option maxHeartbeats 8000000 in
def q663_N : List rfB := [(0,([(0,.inr (.inl [68])),(1,.inl ((0,29,1),none)),(2,.inl (((-2147483648),2147483647,1),none))],[],[]),(29,[]),0),
  (24,([(0,.inr (.inl [68])),(1,.inl ((0,29,1),none)),(2,.inl (((-2147483648),2147483647,1),none))],[],[]),(14,[]),0),
  (26,([(0,.inr (.inl [68])),(1,.inl ((0,29,1),none)),(2,.inl (((-2147483648),2147483647,1),none)),(3,.inl ((0,1,1),none))],[],[]),(12,[]),0),
  (44,([(0,.inr (.inl [68])),(1,.inl ((0,29,1),none)),(2,.inl (((-2147483648),2147483647,1),none)),(3,.inl ((0,1,1),none))],[],[]),(1,[]),0)]
set_option maxRecDepth 100000 in
theorem q663_ok : rf_chkB q663_P q663_U wLay q663_M ddX10_countsAt [] [] [0,24,26,44] 600 q663_N = true := by decide +kernel
set_option maxHeartbeats 4000000 in
theorem q663_met {G : rfG} (h : okG G) : rf_met G q663_M := rf_methodB h.1 (P := q663_P) (U := q663_U) (N := q663_N) ⟨wflT h flokX10, wcsT h csokX10, wlcT h lcokX10, spokX10 h, fun _ h => absurd h List.not_mem_nil, fun _ h => absurd h List.not_mem_nil, fun _ h => absurd h List.not_mem_nil, fun _ h => absurd h List.not_mem_nil, fun _ h => absurd h List.not_mem_nil⟩ dkX10_countsAt (by decide +kernel) (by rw [h.2.2.1]; exact q663_ok)
/-- NearSpell.Witness.isFitting -/
def q664_M : rfM := ((⟨"NearSpell$Witness", "isFitting", "(II)Z"⟩, prog_12_method_8_code, 4, (some .boolean)), (4,91), ([.inr (.inl [68]),.inl (((-2147483648),2147483647,1),none),.inl (((-2147483648),2147483647,1),none)],[]), [(17,0),(18,0),(19,0),(20,4),(20,5)], [(some (.inl ((0,0,0),none)),[],[((20,3),(0,6,1),none),((20,4),(0,6,1),none),((68,8),(1,30,1),none)]),(some (.inl ((1,1,0),none)),[],[((20,3),(0,6,1),none),((20,4),(0,6,1),none)])])
def ddX10_isFitting : List (Nat × Instr × Nat) := [(0,.aload_n 0,1),(1,.getfield 42,3),(4,.iload_n 1,1),(5,.invokevirtual 59,3),(8,.iconst 0,1),(9,.istore_n 3,1),(10,.iload_n 3,1),(11,.aload_n 0,1),(12,.getfield 31,3),(15,.if_icmp .ge 56,3),(18,.aload_n 0,1),(19,.iload_n 3,1),(20,.iload_n 2,1),(21,.invokevirtual 65,3),(24,.ifCond .eq 41,3),(27,.aload_n 0,1),(28,.getfield 42,3),(31,.aload_n 0,1),(32,.getfield 11,3),(35,.iload_n 3,1),(36,.iaload,1),(37,.invokevirtual 68,3),(40,.aload_n 0,1),(41,.getfield 15,3),(44,.iload_n 3,1),(45,.iaload,1),(46,.if_icmp .gt 7,3),(49,.iconst 1,1),(50,.goto 4,3),(53,.iconst 0,1),(54,.aload_n 0,1),(55,.getfield 18,3),(58,.iload_n 3,1),(59,.baload,1),(60,.if_icmp .eq 5,3),(63,.iconst 0,1),(64,.ireturn,1),(65,.iinc 3 1,3),(68,.goto (-58),3),(71,.iconst 1,1),(72,.ireturn,1)]
set_option maxRecDepth 100000 in
theorem dkX10_isFitting : rf_decs prog_12_method_8_code ddX10_isFitting := rf_decs_of (by decide +kernel)
def q664_P : rfP := (flX10,csX10,lcX10,spX10,[q457_M,q663_M,q208_M],[],[(59,0,7),(65,1,10),(68,2,7)],([],[]))
def q664_U : rfU := []
set_option maxHeartbeats 8000000 in
def q664_N : List rfB := [(0,([(0,.inr (.inl [68])),(1,.inl (((-2147483648),2147483647,1),none)),(2,.inl (((-2147483648),2147483647,1),none))],[],[]),(1187,[0]),0),
  (10,([(0,.inr (.inl [68])),(1,.inl (((-2147483648),2147483647,1),none)),(2,.inl (((-2147483648),2147483647,1),none)),(3,.inl ((0,30,1),none))],[],[((20,3),(0,6,1),none),((20,4),(0,6,1),none)]),(1179,[(-38)]),0),
  (65,([(0,.inr (.inl [68])),(1,.inl (((-2147483648),2147483647,1),none)),(2,.inl (((-2147483648),2147483647,1),none)),(3,.inl ((0,29,1),none))],[],[((20,3),(0,6,1),none),((20,4),(0,6,1),none),((68,8),(1,30,1),none)]),(1144,[(-38)]),0),
  (63,([(0,.inr (.inl [68])),(1,.inl (((-2147483648),2147483647,1),none)),(2,.inl (((-2147483648),2147483647,1),none)),(3,.inl ((0,29,1),none))],[],[((20,3),(0,6,1),none),((20,4),(0,6,1),none),((68,8),(1,30,1),none)]),(3,[0]),0)]
set_option maxRecDepth 100000 in
theorem q664_ok : rf_chkB q664_P q664_U wLay q664_M ddX10_isFitting [(5,[0]),(21,[1]),(37,[2])] [.inl 3] [0,10,63,65] 600 q664_N = true := by decide +kernel
set_option maxHeartbeats 4000000 in
theorem q664_met {G : rfG} (h : okG G) : rf_met G q664_M := rf_methodB h.1 (P := q664_P) (U := q664_U) (N := q664_N) ⟨wflT h flokX10, wcsT h csokX10, wlcT h lcokX10, spokX10 h, List.forall_mem_cons.mpr ⟨q457_met h, List.forall_mem_cons.mpr ⟨q663_met h, List.forall_mem_cons.mpr ⟨q208_met h, fun _ h => absurd h List.not_mem_nil⟩⟩⟩, fun _ h => absurd h List.not_mem_nil, List.forall_mem_cons.mpr ⟨fun M hM => Option.some.inj (show some q457_M = some M from hM) ▸ wlkV (lkX10_59 h) q457_M rfl rfl, List.forall_mem_cons.mpr ⟨fun M hM => Option.some.inj (show some q663_M = some M from hM) ▸ wlkV (lkX10_65 h) q663_M rfl rfl, List.forall_mem_cons.mpr ⟨fun M hM => Option.some.inj (show some q208_M = some M from hM) ▸ wlkV (lkX10_68 h) q208_M rfl rfl, fun _ h => absurd h List.not_mem_nil⟩⟩⟩, fun _ h => absurd h List.not_mem_nil, fun _ h => absurd h List.not_mem_nil⟩ dkX10_isFitting (by decide +kernel) (by rw [h.2.2.1]; exact q664_ok)
/-- NearSpell.Witness.fitting -/
def q665_M : rfM := ((⟨"NearSpell$Witness", "fitting", "(I)I"⟩, prog_12_method_7_code, 4, (some .int)), (5,114), ([.inr (.inl [68]),.inl (((-2147483648),2147483647,1),none)],[]), [(17,0),(18,0),(19,0),(20,4),(20,5)], [(some (.inl ((0,16383,1),none)),[],[])])
def ddX10_fitting : List (Nat × Instr × Nat) := [(0,.iconst 0,1),(1,.istore_n 2,1),(2,.iconst 0,1),(3,.istore_n 3,1),(4,.iload_n 3,1),(5,.aload_n 0,1),(6,.getfield 38,3),(9,.getfield 47,3),(12,.if_icmp .ge 32,3),(15,.aload_n 0,1),(16,.aload_n 0,1),(17,.getfield 38,3),(20,.getfield 52,3),(23,.iload_n 3,1),(24,.iaload,1),(25,.iload_n 1,1),(26,.invokevirtual 55,3),(29,.ifCond .eq 9,3),(32,.iload_n 2,1),(33,.iconst 1,1),(34,.iload_n 3,1),(35,.ishl,1),(36,.ior,1),(37,.istore_n 2,1),(38,.iinc 3 1,3),(41,.goto (-37),3),(44,.iload_n 2,1),(45,.ireturn,1)]
set_option maxRecDepth 100000 in
theorem dkX10_fitting : rf_decs prog_12_method_7_code ddX10_fitting := rf_decs_of (by decide +kernel)
def q665_P : rfP := (flX10,csX10,lcX10,spX10,[q664_M],[],[(55,0,10)],([],[]))
def q665_U : rfU := []
set_option maxHeartbeats 8000000 in
def q665_N : List rfB := [(0,([(0,.inr (.inl [68])),(1,.inl (((-2147483648),2147483647,1),none))],[],[]),(269,[0]),0),
  (4,([(0,.inr (.inl [68])),(1,.inl (((-2147483648),2147483647,1),none)),(2,.inl ((0,16383,1),none)),(3,.inl ((0,10,1),none))],[],[]),(263,[(-24)]),0),
  (38,([(0,.inr (.inl [68])),(1,.inl (((-2147483648),2147483647,1),none)),(2,.inl ((0,16383,1),none)),(3,.inl ((0,9,1),none))],[],[((5,4),(1,10,1),none),((20,3),(0,6,1),none),((20,4),(0,6,1),none)]),(242,[(-24)]),0)]
set_option maxRecDepth 100000 in
theorem q665_ok : rf_chkB q665_P q665_U wLay q665_M ddX10_fitting [(26,[0])] [.inl 3] [0,4,38] 600 q665_N = true := by decide +kernel
set_option maxHeartbeats 4000000 in
theorem q665_met {G : rfG} (h : okG G) : rf_met G q665_M := rf_methodB h.1 (P := q665_P) (U := q665_U) (N := q665_N) ⟨wflT h flokX10, wcsT h csokX10, wlcT h lcokX10, spokX10 h, List.forall_mem_cons.mpr ⟨q664_met h, fun _ h => absurd h List.not_mem_nil⟩, fun _ h => absurd h List.not_mem_nil, List.forall_mem_cons.mpr ⟨fun M hM => Option.some.inj (show some q664_M = some M from hM) ▸ wlkV (lkX10_55 h) q664_M rfl rfl, fun _ h => absurd h List.not_mem_nil⟩, fun _ h => absurd h List.not_mem_nil, fun _ h => absurd h List.not_mem_nil⟩ dkX10_fitting (by decide +kernel) (by rw [h.2.2.1]; exact q665_ok)
/-- NearSpell.fits -/
def q666_M : rfM := ((⟨"NearSpell", "fits", "(I)I"⟩, prog_1_method_44_code, 2, (some .int)), (6,137), ([.inr (.inl [70]),.inl (((-2147483648),2147483647,1),none)],[]), [(17,0),(18,0),(19,0),(20,4),(20,5)], [(some (.inl ((0,16383,1),none)),[],[])])
def ddX11_fits : List (Nat × Instr × Nat) := [(0,.aload_n 0,1),(1,.getfield 92,3),(4,.iload_n 1,1),(5,.invokevirtual 327,3),(8,.ireturn,1)]
set_option maxRecDepth 100000 in
theorem dkX11_fits : rf_decs prog_1_method_44_code ddX11_fits := rf_decs_of (by decide +kernel)
def q666_P : rfP := (flX11,csX11,lcX11,spX11,[q665_M],[],[(327,0,10)],([],[]))
def q666_U : rfU := []
set_option maxHeartbeats 8000000 in
def q666_N : List rfB := [(0,([(0,.inr (.inl [70])),(1,.inl (((-2147483648),2147483647,1),none))],[],[]),(4,[]),0)]
set_option maxRecDepth 100000 in
theorem q666_ok : rf_chkB q666_P q666_U wLay q666_M ddX11_fits [(5,[0])] [] [0] 600 q666_N = true := by decide +kernel
set_option maxHeartbeats 4000000 in
theorem q666_met {G : rfG} (h : okG G) : rf_met G q666_M := rf_methodB h.1 (P := q666_P) (U := q666_U) (N := q666_N) ⟨wflT h flokX11, wcsT h csokX11, wlcT h lcokX11, spokX11 h, List.forall_mem_cons.mpr ⟨q665_met h, fun _ h => absurd h List.not_mem_nil⟩, fun _ h => absurd h List.not_mem_nil, List.forall_mem_cons.mpr ⟨fun M hM => Option.some.inj (show some q665_M = some M from hM) ▸ wlkV (lkX11_327 h) q665_M rfl rfl, fun _ h => absurd h List.not_mem_nil⟩, fun _ h => absurd h List.not_mem_nil, fun _ h => absurd h List.not_mem_nil⟩ dkX11_fits (by decide +kernel) (by rw [h.2.2.1]; exact q666_ok)
/-- NearSpell.Witness.mostLeftBy -/
def q667_M : rfM := ((⟨"NearSpell$Witness", "mostLeftBy", "(II)I"⟩, prog_12_method_10_code, 6, (some .int)), (4,91), ([.inr (.inl [68]),.inl (((-2147483648),2147483647,1),none),.inl ((1,16383,1),none)],[]), [(17,0),(18,0),(19,0),(20,4),(20,5),(67,0)], [(some (.inl ((0,2147483647,1),none)),[],[((20,3),(0,6,1),none),((20,4),(0,6,1),none)])])
def ddX10_mostLeftBy : List (Nat × Instr × Nat) := [(0,.iconst 0,1),(1,.istore_n 3,1),(2,.iload_n 3,1),(3,.aload_n 0,1),(4,.getfield 28,3),(7,.arraylength,1),(8,.if_icmp .ge 16,3),(11,.aload_n 0,1),(12,.getfield 28,3),(15,.iload_n 3,1),(16,.iconst 0,1),(17,.iastore,1),(18,.iinc 3 1,3),(21,.goto (-19),3),(24,.aload_n 0,1),(25,.getfield 42,3),(28,.iload_n 1,1),(29,.invokevirtual 59,3),(32,.iconst 0,1),(33,.istore_n 3,1),(34,.iconst 0,1),(35,.istore 4,2),(37,.iload 4,2),(39,.aload_n 0,1),(40,.getfield 38,3),(43,.getfield 47,3),(46,.if_icmp .ge 79,3),(49,.iload_n 2,1),(50,.iload 4,2),(52,.ishr,1),(53,.iconst 1,1),(54,.iand,1),(55,.ifCond .eq 23,3),(58,.aload_n 0,1),(59,.getfield 42,3),(62,.aload_n 0,1),(63,.getfield 38,3),(66,.getfield 52,3),(69,.iload 4,2),(71,.iaload,1),(72,.invokevirtual 68,3),(75,.goto 4,3),(78,.iconst (-1),1),(79,.istore 5,2),(81,.iload 5,2),(83,.ifCond .lt 36,3),(86,.iload 5,2),(88,.aload_n 0,1),(89,.getfield 28,3),(92,.arraylength,1),(93,.if_icmp .ge 26,3),(96,.aload_n 0,1),(97,.getfield 28,3),(100,.iload 5,2),(102,.dup2,1),(103,.iaload,1),(104,.iconst 1,1),(105,.iadd,1),(106,.iastore,1),(107,.iload_n 3,1),(108,.aload_n 0,1),(109,.getfield 28,3),(112,.iload 5,2),(114,.iaload,1),(115,.invokestatic 79,3),(118,.istore_n 3,1),(119,.iinc 4 1,3),(122,.goto (-85),3),(125,.iload_n 3,1),(126,.ireturn,1)]
set_option maxRecDepth 100000 in
theorem dkX10_mostLeftBy : rf_decs prog_12_method_10_code ddX10_mostLeftBy := rf_decs_of (by decide +kernel)
def q667_P : rfP := (flX10,csX10,lcX10,spX10,[q457_M,q208_M],[],[(59,0,7),(68,1,7)],([],[(79,0)]))
def q667_U : rfU := []
set_option maxHeartbeats 8000000 in
def q667_N : List rfB := [(0,([(0,.inr (.inl [68])),(1,.inl (((-2147483648),2147483647,1),none)),(2,.inl ((1,16383,1),none))],[],[]),(643,[0,0]),0),
  (2,([(0,.inr (.inl [68])),(1,.inl (((-2147483648),2147483647,1),none)),(2,.inl ((1,16383,1),none)),(3,.inl ((0,7,1),none))],[],[]),(639,[(-13),0]),0),
  (37,([(0,.inr (.inl [68])),(1,.inl (((-2147483648),2147483647,1),none)),(2,.inl ((1,16383,1),none)),(3,.inl ((0,2147483647,1),none)),(4,.inl ((0,10,1),none))],[],[((20,3),(0,6,1),none),((20,4),(0,6,1),none)]),(527,[0,(-48)]),0),
  (81,([(0,.inr (.inl [68])),(1,.inl (((-2147483648),2147483647,1),none)),(2,.inl ((1,16383,1),none)),(3,.inl ((0,2147483647,1),none)),(4,.inl ((0,9,1),none)),(5,.inl (((-2147483648),2147483647,1),none))],[],[((5,4),(1,10,1),none),((20,3),(0,6,1),none),((20,4),(0,6,1),none)]),(504,[0,(-48)]),0),
  (119,([(0,.inr (.inl [68])),(1,.inl (((-2147483648),2147483647,1),none)),(2,.inl ((1,16383,1),none)),(3,.inl ((0,2147483647,1),none)),(4,.inl ((0,9,1),none)),(5,.inl (((-2147483648),2147483647,1),none))],[],[((5,4),(1,10,1),none),((20,3),(0,6,1),none),((20,4),(0,6,1),none)]),(482,[0,(-48)]),0)]
set_option maxRecDepth 100000 in
theorem q667_ok : rf_chkB q667_P q667_U wLay q667_M ddX10_mostLeftBy [(29,[0]),(72,[1])] [.inl 3,.inl 4] [0,2,37,81,119] 600 q667_N = true := by decide +kernel
set_option maxHeartbeats 4000000 in
theorem q667_met {G : rfG} (h : okG G) : rf_met G q667_M := rf_methodB h.1 (P := q667_P) (U := q667_U) (N := q667_N) ⟨wflT h flokX10, wcsT h csokX10, wlcT h lcokX10, spokX10 h, List.forall_mem_cons.mpr ⟨q457_met h, List.forall_mem_cons.mpr ⟨q208_met h, fun _ h => absurd h List.not_mem_nil⟩⟩, fun _ h => absurd h List.not_mem_nil, List.forall_mem_cons.mpr ⟨fun M hM => Option.some.inj (show some q457_M = some M from hM) ▸ wlkV (lkX10_59 h) q457_M rfl rfl, List.forall_mem_cons.mpr ⟨fun M hM => Option.some.inj (show some q208_M = some M from hM) ▸ wlkV (lkX10_68 h) q208_M rfl rfl, fun _ h => absurd h List.not_mem_nil⟩⟩, fun _ h => absurd h List.not_mem_nil, List.forall_mem_cons.mpr ⟨⟨wmT h (wm130), fun _ => ⟨wmT h (wm1377), wmT h (wm652), wmT h (wm653)⟩, fun h => absurd h (by decide), fun h => absurd h (by decide)⟩, fun _ h => absurd h List.not_mem_nil⟩⟩ dkX10_mostLeftBy (by decide +kernel) (by rw [h.2.2.1]; exact q667_ok)
/-- NearSpell.Witness.bestToAsk -/
def q668_M : rfM := ((⟨"NearSpell$Witness", "bestToAsk", "(II)I"⟩, prog_12_method_9_code, 8, (some .int)), (6,137), ([.inr (.inl [68]),.inl ((0,1,1),none),.inl (((-2147483648),2147483647,1),none)],[]), [(17,0),(18,0),(19,0),(20,4),(20,5),(67,0)], [(some (.inl (((-1),11,1),none)),[],[])])
def ddX10_bestToAsk : List (Nat × Instr × Nat) := [(0,.aload_n 0,1),(1,.iload_n 2,1),(2,.invokevirtual 72,3),(5,.istore_n 3,1),(6,.iload_n 3,1),(7,.ifCond .ne 5,3),(10,.iconst (-1),1),(11,.ireturn,1),(12,.iconst (-1),1),(13,.istore 4,2),(15,.bipush 11,2),(17,.istore 5,2),(19,.iconst 0,1),(20,.istore 6,2),(22,.iload 6,2),(24,.aload_n 0,1),(25,.getfield 38,3),(28,.getfield 47,3),(31,.if_icmp .ge 41,3),(34,.aload_n 0,1),(35,.aload_n 0,1),(36,.getfield 38,3),(39,.getfield 52,3),(42,.iload 6,2),(44,.iaload,1),(45,.iload_n 3,1),(46,.invokevirtual 75,3),(49,.istore 7,2),(51,.iload 7,2),(53,.iload 5,2),(55,.if_icmp .ge 11,3),(58,.iload 6,2),(60,.istore 4,2),(62,.iload 7,2),(64,.istore 5,2),(66,.iinc 6 1,3),(69,.goto (-47),3),(72,.iload_n 1,1),(73,.ifCond .ne 8,3),(76,.iload 4,2),(78,.goto 5,3),(81,.iload 5,2),(83,.ireturn,1)]
set_option maxRecDepth 100000 in
theorem dkX10_bestToAsk : rf_decs prog_12_method_9_code ddX10_bestToAsk := rf_decs_of (by decide +kernel)
def q668_P : rfP := (flX10,csX10,lcX10,spX10,[q665_M,q667_M],[],[(72,0,10),(75,1,10)],([],[]))
def q668_U : rfU := []
set_option maxHeartbeats 8000000 in
def q668_N : List rfB := [(0,([(0,.inr (.inl [68])),(1,.inl ((0,1,1),none)),(2,.inl (((-2147483648),2147483647,1),none))],[],[]),(283,[0]),0),
  (22,([(0,.inr (.inl [68])),(1,.inl ((0,1,1),none)),(2,.inl (((-2147483648),2147483647,1),none)),(3,.inl ((1,16383,1),none)),(4,.inl (((-1),9,1),none)),(5,.inl ((0,11,1),none)),(6,.inl ((0,10,1),none))],[],[]),(267,[(-24)]),0),
  (66,([(0,.inr (.inl [68])),(1,.inl ((0,1,1),none)),(2,.inl (((-2147483648),2147483647,1),none)),(3,.inl ((1,16383,1),none)),(4,.inl (((-1),9,1),none)),(5,.inl ((0,11,1),none)),(6,.inl ((0,9,1),none)),(7,.inl ((0,2147483647,1),none))],[],[((5,4),(1,10,1),none),((20,3),(0,6,1),none),((20,4),(0,6,1),none)]),(246,[(-24)]),0),
  (83,([(0,.inr (.inl [68])),(1,.inl ((0,1,1),none)),(2,.inl (((-2147483648),2147483647,1),none)),(3,.inl ((1,16383,1),none)),(4,.inl (((-1),9,1),none)),(5,.inl ((0,11,1),none)),(6,.inl ((0,10,1),none))],[.inl (((-1),11,1),none)],[]),(0,[0]),0)]
set_option maxRecDepth 100000 in
theorem q668_ok : rf_chkB q668_P q668_U wLay q668_M ddX10_bestToAsk [(2,[0]),(46,[1])] [.inl 6] [0,22,66,83] 600 q668_N = true := by decide +kernel
set_option maxHeartbeats 4000000 in
theorem q668_met {G : rfG} (h : okG G) : rf_met G q668_M := rf_methodB h.1 (P := q668_P) (U := q668_U) (N := q668_N) ⟨wflT h flokX10, wcsT h csokX10, wlcT h lcokX10, spokX10 h, List.forall_mem_cons.mpr ⟨q665_met h, List.forall_mem_cons.mpr ⟨q667_met h, fun _ h => absurd h List.not_mem_nil⟩⟩, fun _ h => absurd h List.not_mem_nil, List.forall_mem_cons.mpr ⟨fun M hM => Option.some.inj (show some q665_M = some M from hM) ▸ wlkV (lkX10_72 h) q665_M rfl rfl, List.forall_mem_cons.mpr ⟨fun M hM => Option.some.inj (show some q667_M = some M from hM) ▸ wlkV (lkX10_75 h) q667_M rfl rfl, fun _ h => absurd h List.not_mem_nil⟩⟩, fun _ h => absurd h List.not_mem_nil, fun _ h => absurd h List.not_mem_nil⟩ dkX10_bestToAsk (by decide +kernel) (by rw [h.2.2.1]; exact q668_ok)
/-- NearSpell.ask -/
def q669_M : rfM := ((⟨"NearSpell", "ask", "(II)I"⟩, prog_1_method_45_code, 3, (some .int)), (7,164), ([.inr (.inl [70]),.inl (((-2147483648),2147483647,1),none),.inl (((-2147483648),2147483647,1),none)],[]), [(17,0),(18,0),(19,0),(20,4),(20,5),(67,0)], [(some (.inl (((-1),11,1),none)),[],[])])
def ddX11_ask : List (Nat × Instr × Nat) := [(0,.iload_n 1,1),(1,.ifCond .lt 8,3),(4,.iload_n 1,1),(5,.iconst 1,1),(6,.if_icmp .le 5,3),(9,.iconst (-1),1),(10,.ireturn,1),(11,.aload_n 0,1),(12,.getfield 92,3),(15,.iload_n 1,1),(16,.iload_n 2,1),(17,.invokevirtual 330,3),(20,.ireturn,1)]
set_option maxRecDepth 100000 in
theorem dkX11_ask : rf_decs prog_1_method_45_code ddX11_ask := rf_decs_of (by decide +kernel)
def q669_P : rfP := (flX11,csX11,lcX11,spX11,[q668_M],[],[(330,0,10)],([],[]))
def q669_U : rfU := []
set_option maxHeartbeats 8000000 in
def q669_N : List rfB := [(0,([(0,.inr (.inl [70])),(1,.inl (((-2147483648),2147483647,1),none)),(2,.inl (((-2147483648),2147483647,1),none))],[],[]),(12,[]),0),
  (9,([(0,.inr (.inl [70])),(1,.inl (((-2147483648),2147483647,1),none)),(2,.inl (((-2147483648),2147483647,1),none))],[],[]),(1,[]),0)]
set_option maxRecDepth 100000 in
theorem q669_ok : rf_chkB q669_P q669_U wLay q669_M ddX11_ask [(17,[0])] [] [0,9] 600 q669_N = true := by decide +kernel
set_option maxHeartbeats 4000000 in
theorem q669_met {G : rfG} (h : okG G) : rf_met G q669_M := rf_methodB h.1 (P := q669_P) (U := q669_U) (N := q669_N) ⟨wflT h flokX11, wcsT h csokX11, wlcT h lcokX11, spokX11 h, List.forall_mem_cons.mpr ⟨q668_met h, fun _ h => absurd h List.not_mem_nil⟩, fun _ h => absurd h List.not_mem_nil, List.forall_mem_cons.mpr ⟨fun M hM => Option.some.inj (show some q668_M = some M from hM) ▸ wlkV (lkX11_330 h) q668_M rfl rfl, fun _ h => absurd h List.not_mem_nil⟩, fun _ h => absurd h List.not_mem_nil, fun _ h => absurd h List.not_mem_nil⟩ dkX11_ask (by decide +kernel) (by rw [h.2.2.1]; exact q669_ok)
/-- NearSpell.Archive.keepBox -/
def q670_M : rfM := ((⟨"NearSpell$Archive", "keepBox", "(ILNearSpell$State;)V"⟩, prog_2_method_10_code, 3, none), (1,18), ([.inr (.inl [16]),.inl ((0,2,1),none),.inr (.inl [13])],[]), [(15,0),(16,3)], [(none,[],[])])
def ddX0_keepBox : List (Nat × Instr × Nat) := [(0,.iload_n 1,1),(1,.ifCond .lt 38,3),(4,.iload_n 1,1),(5,.iconst 3,1),(6,.if_icmp .ge 33,3),(9,.aload_n 2,1),(10,.getfield 40,3),(13,.iconst 0,1),(14,.aload_n 0,1),(15,.getfield 17,3),(18,.iload_n 1,1),(19,.bipush 37,2),(21,.imul,1),(22,.bipush 37,2),(24,.invokestatic 47,3),(27,.aload_n 0,1),(28,.dup,1),(29,.getfield 20,3),(32,.iconst 1,1),(33,.iload_n 1,1),(34,.ishl,1),(35,.ior,1),(36,.putfield 20,3),(39,.return_,1)]
set_option maxRecDepth 100000 in
theorem dkX0_keepBox : rf_decs prog_2_method_10_code ddX0_keepBox := rf_decs_of (by decide +kernel)
def q670_P : rfP := (flX0,csX0,lcX0,spX0,[],[],[],([47],[]))
def q670_U : rfU := []
set_option maxHeartbeats 8000000 in
def q670_N : List rfB := [(0,([(0,.inr (.inl [16])),(1,.inl ((0,2,1),none)),(2,.inr (.inl [13]))],[],[]),(23,[]),0)]
set_option maxRecDepth 100000 in
theorem q670_ok : rf_chkB q670_P q670_U wLay q670_M ddX0_keepBox [] [] [0] 600 q670_N = true := by decide +kernel
set_option maxHeartbeats 4000000 in
theorem q670_met {G : rfG} (h : okG G) : rf_met G q670_M := rf_methodB h.1 (P := q670_P) (U := q670_U) (N := q670_N) ⟨wflT h flokX0, wcsT h csokX0, wlcT h lcokX0, spokX0 h, fun _ h => absurd h List.not_mem_nil, fun _ h => absurd h List.not_mem_nil, fun _ h => absurd h List.not_mem_nil, List.forall_mem_cons.mpr ⟨⟨wmT h (wm776), wmT h (wm755), wmT h (wm754), wmT h (wm136)⟩, fun _ h => absurd h List.not_mem_nil⟩, fun _ h => absurd h List.not_mem_nil⟩ dkX0_keepBox (by decide +kernel) (by rw [h.2.2.1]; exact q670_ok)
/-- NearSpell.image -/
def q671_M : rfM := ((⟨"NearSpell", "image", "(I)I"⟩, prog_1_method_46_code, 2, (some .int)), (2,43), ([.inr (.inl [70]),.inl (((-2147483648),2147483647,1),none)],[]), [(15,0),(16,3)], [(some (.inl (((-2147483648),2147483647,1),none)),[],[])])
def ddX11_image : List (Nat × Instr × Nat) := [(0,.iload_n 1,1),(1,.ifCond .lt 8,3),(4,.iload_n 1,1),(5,.iconst 3,1),(6,.if_icmp .lt 5,3),(9,.iconst (-1),1),(10,.ireturn,1),(11,.aload_n 0,1),(12,.getfield 42,3),(15,.iload_n 1,1),(16,.aload_n 0,1),(17,.getfield 35,3),(20,.invokevirtual 333,3),(23,.aload_n 0,1),(24,.getfield 35,3),(27,.invokevirtual 183,3),(30,.ireturn,1)]
set_option maxRecDepth 100000 in
theorem dkX11_image : rf_decs prog_1_method_46_code ddX11_image := rf_decs_of (by decide +kernel)
def q671_P : rfP := (flX11,csX11,lcX11,spX11,[q670_M,q192_M],[],[(183,1,8),(333,0,0)],([],[]))
def q671_U : rfU := []
set_option maxHeartbeats 8000000 in
def q671_N : List rfB := [(0,([(0,.inr (.inl [70])),(1,.inl (((-2147483648),2147483647,1),none))],[],[]),(16,[]),0),
  (9,([(0,.inr (.inl [70])),(1,.inl (((-2147483648),2147483647,1),none))],[],[]),(1,[]),0)]
set_option maxRecDepth 100000 in
theorem q671_ok : rf_chkB q671_P q671_U wLay q671_M ddX11_image [(20,[0]),(27,[1])] [] [0,9] 600 q671_N = true := by decide +kernel
set_option maxHeartbeats 4000000 in
theorem q671_met {G : rfG} (h : okG G) : rf_met G q671_M := rf_methodB h.1 (P := q671_P) (U := q671_U) (N := q671_N) ⟨wflT h flokX11, wcsT h csokX11, wlcT h lcokX11, spokX11 h, List.forall_mem_cons.mpr ⟨q670_met h, List.forall_mem_cons.mpr ⟨q192_met h, fun _ h => absurd h List.not_mem_nil⟩⟩, fun _ h => absurd h List.not_mem_nil, List.forall_mem_cons.mpr ⟨fun M hM => Option.some.inj (show some q192_M = some M from hM) ▸ wlkV (lkX11_183 h) q192_M rfl rfl, List.forall_mem_cons.mpr ⟨fun M hM => Option.some.inj (show some q670_M = some M from hM) ▸ wlkV (lkX11_333 h) q670_M rfl rfl, fun _ h => absurd h List.not_mem_nil⟩⟩, fun _ h => absurd h List.not_mem_nil, fun _ h => absurd h List.not_mem_nil⟩ dkX11_image (by decide +kernel) (by rw [h.2.2.1]; exact q671_ok)
/-- NearSpell.Archive.openBox -/
def q672_M : rfM := ((⟨"NearSpell$Archive", "openBox", "(ILNearSpell$State;)Z"⟩, prog_2_method_11_code, 3, (some .boolean)), (1,18), ([.inr (.inl [16]),.inl (((-2147483648),2147483647,1),none),.inr (.inl [13])],[]), [(12,0)], [(some (.inl ((0,0,0),none)),[],[]),(some (.inl ((1,1,0),none)),[(1,0,2)],[])])
def ddX0_openBox : List (Nat × Instr × Nat) := [(0,.iload_n 1,1),(1,.ifCond .lt 19,3),(4,.iload_n 1,1),(5,.iconst 3,1),(6,.if_icmp .ge 14,3),(9,.aload_n 0,1),(10,.getfield 20,3),(13,.iload_n 1,1),(14,.ishr,1),(15,.iconst 1,1),(16,.iand,1),(17,.ifCond .ne 5,3),(20,.iconst 0,1),(21,.ireturn,1),(22,.aload_n 0,1),(23,.getfield 17,3),(26,.iload_n 1,1),(27,.bipush 37,2),(29,.imul,1),(30,.aload_n 2,1),(31,.getfield 40,3),(34,.iconst 0,1),(35,.bipush 37,2),(37,.invokestatic 47,3),(40,.iconst 1,1),(41,.ireturn,1)]
set_option maxRecDepth 100000 in
theorem dkX0_openBox : rf_decs prog_2_method_11_code ddX0_openBox := rf_decs_of (by decide +kernel)
def q672_P : rfP := (flX0,csX0,lcX0,spX0,[],[],[],([47],[]))
def q672_U : rfU := []
set_option maxHeartbeats 8000000 in
def q672_N : List rfB := [(0,([(0,.inr (.inl [16])),(1,.inl (((-2147483648),2147483647,1),none)),(2,.inr (.inl [13]))],[],[]),(25,[]),0),
  (20,([(0,.inr (.inl [16])),(1,.inl (((-2147483648),2147483647,1),none)),(2,.inr (.inl [13]))],[],[]),(1,[]),0)]
set_option maxRecDepth 100000 in
theorem q672_ok : rf_chkB q672_P q672_U wLay q672_M ddX0_openBox [] [] [0,20] 600 q672_N = true := by decide +kernel
set_option maxHeartbeats 4000000 in
theorem q672_met {G : rfG} (h : okG G) : rf_met G q672_M := rf_methodB h.1 (P := q672_P) (U := q672_U) (N := q672_N) ⟨wflT h flokX0, wcsT h csokX0, wlcT h lcokX0, spokX0 h, fun _ h => absurd h List.not_mem_nil, fun _ h => absurd h List.not_mem_nil, fun _ h => absurd h List.not_mem_nil, List.forall_mem_cons.mpr ⟨⟨wmT h (wm776), wmT h (wm755), wmT h (wm754), wmT h (wm136)⟩, fun _ h => absurd h List.not_mem_nil⟩, fun _ h => absurd h List.not_mem_nil⟩ dkX0_openBox (by decide +kernel) (by rw [h.2.2.1]; exact q672_ok)
/-- NearSpell.back -/
def q673_M : rfM := ((⟨"NearSpell", "back", "(I)I"⟩, prog_1_method_47_code, 2, (some .int)), (3,62), ([.inr (.inl [70]),.inl (((-2147483648),2147483647,1),none)],[]), [(12,0),(14,0),(16,4),(16,5),(16,6)], [(some (.inl (((-2147483648),2147483647,1),none)),[],[])])
def ddX11_back : List (Nat × Instr × Nat) := [(0,.aload_n 0,1),(1,.getfield 42,3),(4,.iload_n 1,1),(5,.aload_n 0,1),(6,.getfield 35,3),(9,.invokevirtual 337,3),(12,.ifCond .ne 5,3),(15,.iconst (-1),1),(16,.ireturn,1),(17,.aload_n 0,1),(18,.getfield 42,3),(21,.aload_n 0,1),(22,.getfield 35,3),(25,.invokevirtual 122,3),(28,.aload_n 0,1),(29,.getfield 35,3),(32,.invokevirtual 183,3),(35,.ireturn,1)]
set_option maxRecDepth 100000 in
theorem dkX11_back : rf_decs prog_1_method_47_code ddX11_back := rf_decs_of (by decide +kernel)
def q673_P : rfP := (flX11,csX11,lcX11,spX11,[q672_M,q104_M,q192_M],[],[(122,1,0),(183,2,8),(337,0,0)],([],[]))
def q673_U : rfU := []
set_option maxHeartbeats 8000000 in
def q673_N : List rfB := [(0,([(0,.inr (.inl [70])),(1,.inl (((-2147483648),2147483647,1),none))],[],[]),(18,[]),0)]
set_option maxRecDepth 100000 in
theorem q673_ok : rf_chkB q673_P q673_U wLay q673_M ddX11_back [(9,[0]),(25,[1]),(32,[2])] [] [0] 600 q673_N = true := by decide +kernel
set_option maxHeartbeats 4000000 in
theorem q673_met {G : rfG} (h : okG G) : rf_met G q673_M := rf_methodB h.1 (P := q673_P) (U := q673_U) (N := q673_N) ⟨wflT h flokX11, wcsT h csokX11, wlcT h lcokX11, spokX11 h, List.forall_mem_cons.mpr ⟨q672_met h, List.forall_mem_cons.mpr ⟨q104_met h, List.forall_mem_cons.mpr ⟨q192_met h, fun _ h => absurd h List.not_mem_nil⟩⟩⟩, fun _ h => absurd h List.not_mem_nil, List.forall_mem_cons.mpr ⟨fun M hM => Option.some.inj (show some q104_M = some M from hM) ▸ wlkV (lkX11_122 h) q104_M rfl rfl, List.forall_mem_cons.mpr ⟨fun M hM => Option.some.inj (show some q192_M = some M from hM) ▸ wlkV (lkX11_183 h) q192_M rfl rfl, List.forall_mem_cons.mpr ⟨fun M hM => Option.some.inj (show some q672_M = some M from hM) ▸ wlkV (lkX11_337 h) q672_M rfl rfl, fun _ h => absurd h List.not_mem_nil⟩⟩⟩, fun _ h => absurd h List.not_mem_nil, fun _ h => absurd h List.not_mem_nil⟩ dkX11_back (by decide +kernel) (by rw [h.2.2.1]; exact q673_ok)
/-- NearSpell.State.seed -/
def q674_M : rfM := ((⟨"NearSpell$State", "seed", "()I"⟩, prog_10_method_5_code, 1, (some .int)), (0,0), ([.inr (.inl [13])],[]), [], [(some (.inl (((-2147483648),2147483647,1),none)),[],[])])
def ddX8_seed : List (Nat × Instr × Nat) := [(0,.aload_n 0,1),(1,.getfield 11,3),(4,.bipush 36,2),(6,.iaload,1),(7,.ireturn,1)]
set_option maxRecDepth 100000 in
theorem dkX8_seed : rf_decs prog_10_method_5_code ddX8_seed := rf_decs_of (by decide +kernel)
def q674_P : rfP := (flX8,csX8,lcX8,spX8,[],[],[],([],[]))
def q674_U : rfU := []
set_option maxHeartbeats 8000000 in
def q674_N : List rfB := [(0,([(0,.inr (.inl [13]))],[],[]),(4,[]),0)]
set_option maxRecDepth 100000 in
theorem q674_ok : rf_chkB q674_P q674_U wLay q674_M ddX8_seed [] [] [0] 600 q674_N = true := by decide +kernel
set_option maxHeartbeats 4000000 in
theorem q674_met {G : rfG} (h : okG G) : rf_met G q674_M := rf_methodB h.1 (P := q674_P) (U := q674_U) (N := q674_N) ⟨wflT h flokX8, wcsT h csokX8, wlcT h lcokX8, spokX8 h, fun _ h => absurd h List.not_mem_nil, fun _ h => absurd h List.not_mem_nil, fun _ h => absurd h List.not_mem_nil, fun _ h => absurd h List.not_mem_nil, fun _ h => absurd h List.not_mem_nil⟩ dkX8_seed (by decide +kernel) (by rw [h.2.2.1]; exact q674_ok)
/-- NearSpell.about -/
def q675_M : rfM := ((⟨"NearSpell", "about", "(I)I"⟩, prog_1_method_48_code, 2, (some .int)), (2,43), ([.inr (.inl [70]),.inl (((-2147483648),2147483647,1),none)],[]), [], [(some (.inl (((-2147483648),2147483647,1),none)),[],[])])
def ddX11_about : List (Nat × Instr × Nat) := [(0,.iload_n 1,1),(1,.tableswitch 201 0 15 #[79, 87, 95, 103, 111, 119, 127, 135, 143, 151, 159, 167, 175, 180, 188, 193],79),(80,.aload_n 0,1),(81,.getfield 16,3),(84,.getfield 132,3),(87,.ireturn,1),(88,.aload_n 0,1),(89,.getfield 35,3),(92,.invokevirtual 183,3),(95,.ireturn,1),(96,.aload_n 0,1),(97,.getfield 35,3),(100,.invokevirtual 169,3),(103,.ireturn,1),(104,.aload_n 0,1),(105,.getfield 35,3),(108,.invokevirtual 189,3),(111,.ireturn,1),(112,.aload_n 0,1),(113,.getfield 16,3),(116,.getfield 341,3),(119,.ireturn,1),(120,.aload_n 0,1),(121,.getfield 16,3),(124,.getfield 303,3),(127,.ireturn,1),(128,.aload_n 0,1),(129,.getfield 16,3),(132,.getfield 294,3),(135,.ireturn,1),(136,.aload_n 0,1),(137,.getfield 35,3),(140,.invokevirtual 344,3),(143,.ireturn,1),(144,.aload_n 0,1),(145,.getfield 42,3),(148,.getfield 347,3),(151,.ireturn,1),(152,.aload_n 0,1),(153,.getfield 42,3),(156,.getfield 350,3),(159,.ireturn,1),(160,.aload_n 0,1),(161,.getfield 92,3),(164,.getfield 353,3),(167,.ireturn,1),(168,.aload_n 0,1),(169,.getfield 92,3),(172,.getfield 354,3),(175,.ireturn,1),(176,.aload_n 0,1),(177,.getfield 100,3),(180,.ireturn,1),(181,.aload_n 0,1),(182,.getfield 16,3),(185,.getfield 357,3),(188,.ireturn,1),(189,.aload_n 0,1),(190,.getfield 104,3),(193,.ireturn,1),(194,.aload_n 0,1),(195,.getfield 16,3),(198,.getfield 192,3),(201,.ireturn,1),(202,.iconst (-1),1),(203,.ireturn,1)]
set_option maxRecDepth 100000 in
theorem dkX11_about : rf_decs prog_1_method_48_code ddX11_about := rf_decs_of (by decide +kernel)
def q675_P : rfP := (flX11,csX11,lcX11,spX11,[q192_M,q187_M,q196_M,q674_M],[],[(169,1,8),(183,0,8),(189,2,8),(344,3,8)],([],[]))
def q675_U : rfU := []
set_option maxHeartbeats 8000000 in
def q675_N : List rfB := [(0,([(0,.inr (.inl [70])),(1,.inl (((-2147483648),2147483647,1),none))],[],[]),(65,[]),0)]
set_option maxRecDepth 100000 in
theorem q675_ok : rf_chkB q675_P q675_U wLay q675_M ddX11_about [(92,[0]),(100,[1]),(108,[2]),(140,[3])] [] [0] 600 q675_N = true := by decide +kernel
set_option maxHeartbeats 4000000 in
theorem q675_met {G : rfG} (h : okG G) : rf_met G q675_M := rf_methodB h.1 (P := q675_P) (U := q675_U) (N := q675_N) ⟨wflT h flokX11, wcsT h csokX11, wlcT h lcokX11, spokX11 h, List.forall_mem_cons.mpr ⟨q192_met h, List.forall_mem_cons.mpr ⟨q187_met h, List.forall_mem_cons.mpr ⟨q196_met h, List.forall_mem_cons.mpr ⟨q674_met h, fun _ h => absurd h List.not_mem_nil⟩⟩⟩⟩, fun _ h => absurd h List.not_mem_nil, List.forall_mem_cons.mpr ⟨fun M hM => Option.some.inj (show some q187_M = some M from hM) ▸ wlkV (lkX11_169 h) q187_M rfl rfl, List.forall_mem_cons.mpr ⟨fun M hM => Option.some.inj (show some q192_M = some M from hM) ▸ wlkV (lkX11_183 h) q192_M rfl rfl, List.forall_mem_cons.mpr ⟨fun M hM => Option.some.inj (show some q196_M = some M from hM) ▸ wlkV (lkX11_189 h) q196_M rfl rfl, List.forall_mem_cons.mpr ⟨fun M hM => Option.some.inj (show some q674_M = some M from hM) ▸ wlkV (lkX11_344 h) q674_M rfl rfl, fun _ h => absurd h List.not_mem_nil⟩⟩⟩⟩, fun _ h => absurd h List.not_mem_nil, fun _ h => absurd h List.not_mem_nil⟩ dkX11_about (by decide +kernel) (by rw [h.2.2.1]; exact q675_ok)
/-- NearSpellModel.feed -/
def q676_M : rfM := ((⟨"NearSpellModel", "feed", "(IIIII)I"⟩, prog_14_method_128_code, 8, (some .int)), (0,0), ([.inr (.inl [114]),.inl (((-2147483648),2147483647,1),none),.inl (((-2147483648),2147483647,1),none),.inl (((-2147483648),2147483647,1),none),.inl (((-2147483648),2147483647,1),none),.inl (((-2147483648),2147483647,1),none)],[((114,28),(0,0,0),none),((998,0),(1,1,0),none)]), [(71,0),(114,3)], [(some (.inl (((-1),1600,1),none)),[],[((114,2),(20,1600,1),none)])])
def ddX12_feed : List (Nat × Instr × Nat) := [(0,.aload_n 0,1),(1,.getfield 239,3),(4,.bipush 20,2),(6,.iadd,1),(7,.sipush 1600,3),(10,.if_icmp .le 5,3),(13,.iconst (-1),1),(14,.ireturn,1),(15,.iconst 0,1),(16,.istore 6,2),(18,.iload 6,2),(20,.bipush 20,2),(22,.if_icmp .ge 83,3),(25,.iload 6,2),(27,.iconst 4,1),(28,.if_icmp .ge 7,3),(31,.iload_n 1,1),(32,.goto 39,3),(35,.iload 6,2),(37,.bipush 8,2),(39,.if_icmp .ge 7,3),(42,.iload_n 2,1),(43,.goto 28,3),(46,.iload 6,2),(48,.bipush 12,2),(50,.if_icmp .ge 7,3),(53,.iload_n 3,1),(54,.goto 17,3),(57,.iload 6,2),(59,.bipush 16,2),(61,.if_icmp .ge 8,3),(64,.iload 4,2),(66,.goto 5,3),(69,.iload 5,2),(71,.istore 7,2),(73,.aload_n 0,1),(74,.getfield 7,3),(77,.aload_n 0,1),(78,.getfield 239,3),(81,.iload 6,2),(83,.iadd,1),(84,.iload 7,2),(86,.bipush 24,2),(88,.bipush 8,2),(90,.iload 6,2),(92,.iconst 3,1),(93,.iand,1),(94,.imul,1),(95,.isub,1),(96,.ishr,1),(97,.i2b,1),(98,.bastore,1),(99,.iinc 6 1,3),(102,.goto (-84),3),(105,.aload_n 0,1),(106,.dup,1),(107,.getfield 239,3),(110,.bipush 20,2),(112,.iadd,1),(113,.putfield 239,3),(116,.aload_n 0,1),(117,.getfield 239,3),(120,.ireturn,1)]
set_option maxRecDepth 100000 in
theorem dkX12_feed : rf_decs prog_14_method_128_code ddX12_feed := rf_decs_of (by decide +kernel)
def q676_P : rfP := (flX12,csX12,lcX12,spX12,[],[],[],([],[]))
def q676_U : rfU := []
set_option maxHeartbeats 8000000 in
def q676_N : List rfB := [(0,([(0,.inr (.inl [114])),(1,.inl (((-2147483648),2147483647,1),none)),(2,.inl (((-2147483648),2147483647,1),none)),(3,.inl (((-2147483648),2147483647,1),none)),(4,.inl (((-2147483648),2147483647,1),none)),(5,.inl (((-2147483648),2147483647,1),none))],[],[((114,28),(0,0,0),some ((114,28),0,0)),((998,0),(1,1,0),some ((998,0),0,0))]),(963,[0]),0),
  (18,([(0,.inr (.inl [114])),(1,.inl (((-2147483648),2147483647,1),none)),(2,.inl (((-2147483648),2147483647,1),none)),(3,.inl (((-2147483648),2147483647,1),none)),(4,.inl (((-2147483648),2147483647,1),none)),(5,.inl (((-2147483648),2147483647,1),none)),(6,.inl ((0,20,1),none))],[],[((114,2),(0,1580,1),none),((114,28),(0,0,0),some ((114,28),0,0)),((998,0),(1,1,0),some ((998,0),0,0))]),(951,[(-45)]),0),
  (71,([(0,.inr (.inl [114])),(1,.inl (((-2147483648),2147483647,1),none)),(2,.inl (((-2147483648),2147483647,1),none)),(3,.inl (((-2147483648),2147483647,1),none)),(4,.inl (((-2147483648),2147483647,1),none)),(5,.inl (((-2147483648),2147483647,1),none)),(6,.inl ((0,19,1),none))],[.inl (((-2147483648),2147483647,1),none)],[((114,2),(0,1580,1),none),((114,28),(0,0,0),some ((114,28),0,0)),((998,0),(1,1,0),some ((998,0),0,0))]),(927,[(-45)]),0)]
set_option maxRecDepth 100000 in
theorem q676_ok : rf_chkB q676_P q676_U wLay q676_M ddX12_feed [] [.inl 6] [0,18,71] 600 q676_N = true := by decide +kernel
set_option maxHeartbeats 4000000 in
theorem q676_met {G : rfG} (h : okG G) : rf_met G q676_M := rf_methodB h.1 (P := q676_P) (U := q676_U) (N := q676_N) ⟨wflT h flokX12, wcsT h csokX12, wlcT h lcokX12, spokX12 h, fun _ h => absurd h List.not_mem_nil, fun _ h => absurd h List.not_mem_nil, fun _ h => absurd h List.not_mem_nil, fun _ h => absurd h List.not_mem_nil, fun _ h => absurd h List.not_mem_nil⟩ dkX12_feed (by decide +kernel) (by rw [h.2.2.1]; exact q676_ok)
/-- NearSpellModel.feed -/
def q677_M : rfM := ((⟨"NearSpellModel", "feed", "(IIIII)I"⟩, prog_14_method_128_code, 8, (some .int)), (0,0), ([.inr (.inl [114]),.inl (((-2147483648),2147483647,1),none),.inl (((-2147483648),2147483647,1),none),.inl (((-2147483648),2147483647,1),none),.inl (((-2147483648),2147483647,1),none),.inl (((-2147483648),2147483647,1),none)],[((77,1),(1,31,1),none),((114,28),(1,1,0),none),((998,0),(1,1,0),none)]), [(71,0),(114,3)], [(some (.inl (((-1),1600,1),none)),[],[((114,2),(20,1600,1),none)])])
def q677_P : rfP := (flX12,csX12,lcX12,spX12,[],[],[],([],[]))
def q677_U : rfU := []
set_option maxHeartbeats 8000000 in
def q677_N : List rfB := [(0,([(0,.inr (.inl [114])),(1,.inl (((-2147483648),2147483647,1),none)),(2,.inl (((-2147483648),2147483647,1),none)),(3,.inl (((-2147483648),2147483647,1),none)),(4,.inl (((-2147483648),2147483647,1),none)),(5,.inl (((-2147483648),2147483647,1),none))],[],[((77,1),(1,31,1),some ((77,1),0,0)),((114,28),(1,1,0),some ((114,28),0,0)),((998,0),(1,1,0),some ((998,0),0,0))]),(963,[0]),0),
  (18,([(0,.inr (.inl [114])),(1,.inl (((-2147483648),2147483647,1),none)),(2,.inl (((-2147483648),2147483647,1),none)),(3,.inl (((-2147483648),2147483647,1),none)),(4,.inl (((-2147483648),2147483647,1),none)),(5,.inl (((-2147483648),2147483647,1),none)),(6,.inl ((0,20,1),none))],[],[((77,1),(1,31,1),some ((77,1),0,0)),((114,2),(0,1580,1),none),((114,28),(1,1,0),some ((114,28),0,0)),((998,0),(1,1,0),some ((998,0),0,0))]),(951,[(-45)]),0),
  (71,([(0,.inr (.inl [114])),(1,.inl (((-2147483648),2147483647,1),none)),(2,.inl (((-2147483648),2147483647,1),none)),(3,.inl (((-2147483648),2147483647,1),none)),(4,.inl (((-2147483648),2147483647,1),none)),(5,.inl (((-2147483648),2147483647,1),none)),(6,.inl ((0,19,1),none))],[.inl (((-2147483648),2147483647,1),none)],[((77,1),(1,31,1),some ((77,1),0,0)),((114,2),(0,1580,1),none),((114,28),(1,1,0),some ((114,28),0,0)),((998,0),(1,1,0),some ((998,0),0,0))]),(927,[(-45)]),0)]
set_option maxRecDepth 100000 in
theorem q677_ok : rf_chkB q677_P q677_U wLay q677_M ddX12_feed [] [.inl 6] [0,18,71] 600 q677_N = true := by decide +kernel
set_option maxHeartbeats 4000000 in
theorem q677_met {G : rfG} (h : okG G) : rf_met G q677_M := rf_methodB h.1 (P := q677_P) (U := q677_U) (N := q677_N) ⟨wflT h flokX12, wcsT h csokX12, wlcT h lcokX12, spokX12 h, fun _ h => absurd h List.not_mem_nil, fun _ h => absurd h List.not_mem_nil, fun _ h => absurd h List.not_mem_nil, fun _ h => absurd h List.not_mem_nil, fun _ h => absurd h List.not_mem_nil⟩ dkX12_feed (by decide +kernel) (by rw [h.2.2.1]; exact q677_ok)
/-- NearSpellModel.end -/
def q678_M : rfM := ((⟨"NearSpellModel", "end", "(I)I"⟩, prog_14_method_129_code, 2, (some .int)), (0,0), ([.inr (.inl [114]),.inl (((-2147483648),2147483647,1),none)],[((114,28),(0,0,0),none),((998,0),(1,1,0),none)]), [(114,3)], [(some (.inl (((-1),1600,1),none)),[],[])])
def ddX12_end : List (Nat × Instr × Nat) := [(0,.iload_n 1,1),(1,.ifCond .lt 11,3),(4,.iload_n 1,1),(5,.aload_n 0,1),(6,.getfield 239,3),(9,.if_icmp .le 5,3),(12,.iconst (-1),1),(13,.ireturn,1),(14,.aload_n 0,1),(15,.iload_n 1,1),(16,.putfield 239,3),(19,.iload_n 1,1),(20,.ireturn,1)]
set_option maxRecDepth 100000 in
theorem dkX12_end : rf_decs prog_14_method_129_code ddX12_end := rf_decs_of (by decide +kernel)
def q678_P : rfP := (flX12,csX12,lcX12,spX12,[],[],[],([],[]))
def q678_U : rfU := []
set_option maxHeartbeats 8000000 in
def q678_N : List rfB := [(0,([(0,.inr (.inl [114])),(1,.inl (((-2147483648),2147483647,1),none))],[],[((114,28),(0,0,0),some ((114,28),0,0)),((998,0),(1,1,0),some ((998,0),0,0))]),(12,[]),0),
  (12,([(0,.inr (.inl [114])),(1,.inl (((-2147483648),2147483647,1),none))],[],[((114,28),(0,0,0),some ((114,28),0,0)),((998,0),(1,1,0),some ((998,0),0,0))]),(1,[]),0)]
set_option maxRecDepth 100000 in
theorem q678_ok : rf_chkB q678_P q678_U wLay q678_M ddX12_end [] [] [0,12] 600 q678_N = true := by decide +kernel
set_option maxHeartbeats 4000000 in
theorem q678_met {G : rfG} (h : okG G) : rf_met G q678_M := rf_methodB h.1 (P := q678_P) (U := q678_U) (N := q678_N) ⟨wflT h flokX12, wcsT h csokX12, wlcT h lcokX12, spokX12 h, fun _ h => absurd h List.not_mem_nil, fun _ h => absurd h List.not_mem_nil, fun _ h => absurd h List.not_mem_nil, fun _ h => absurd h List.not_mem_nil, fun _ h => absurd h List.not_mem_nil⟩ dkX12_end (by decide +kernel) (by rw [h.2.2.1]; exact q678_ok)
/-- NearSpellModel.end -/
def q679_M : rfM := ((⟨"NearSpellModel", "end", "(I)I"⟩, prog_14_method_129_code, 2, (some .int)), (0,0), ([.inr (.inl [114]),.inl (((-2147483648),2147483647,1),none)],[((77,1),(1,31,1),none),((114,28),(1,1,0),none),((998,0),(1,1,0),none)]), [(114,3)], [(some (.inl (((-1),1600,1),none)),[],[])])
def q679_P : rfP := (flX12,csX12,lcX12,spX12,[],[],[],([],[]))
def q679_U : rfU := []
set_option maxHeartbeats 8000000 in
def q679_N : List rfB := [(0,([(0,.inr (.inl [114])),(1,.inl (((-2147483648),2147483647,1),none))],[],[((77,1),(1,31,1),some ((77,1),0,0)),((114,28),(1,1,0),some ((114,28),0,0)),((998,0),(1,1,0),some ((998,0),0,0))]),(12,[]),0),
  (12,([(0,.inr (.inl [114])),(1,.inl (((-2147483648),2147483647,1),none))],[],[((77,1),(1,31,1),some ((77,1),0,0)),((114,28),(1,1,0),some ((114,28),0,0)),((998,0),(1,1,0),some ((998,0),0,0))]),(1,[]),0)]
set_option maxRecDepth 100000 in
theorem q679_ok : rf_chkB q679_P q679_U wLay q679_M ddX12_end [] [] [0,12] 600 q679_N = true := by decide +kernel
set_option maxHeartbeats 4000000 in
theorem q679_met {G : rfG} (h : okG G) : rf_met G q679_M := rf_methodB h.1 (P := q679_P) (U := q679_U) (N := q679_N) ⟨wflT h flokX12, wcsT h csokX12, wlcT h lcokX12, spokX12 h, fun _ h => absurd h List.not_mem_nil, fun _ h => absurd h List.not_mem_nil, fun _ h => absurd h List.not_mem_nil, fun _ h => absurd h List.not_mem_nil, fun _ h => absurd h List.not_mem_nil⟩ dkX12_end (by decide +kernel) (by rw [h.2.2.1]; exact q679_ok)
/-- NearSpellModel.isGood -/
def q682_M : rfM := ((⟨"NearSpellModel", "isGood", "()Z"⟩, prog_14_method_6_code, 1, (some .boolean)), (0,0), ([.inr (.inl [114])],[((114,4),(0,0,1),none)]), [], [(some (.inl ((1,1,0),none)),[],[])])
def ddX12_isGood : List (Nat × Instr × Nat) := [(0,.aload_n 0,1),(1,.getfield 154,3),(4,.ifCond .ne 7,3),(7,.iconst 1,1),(8,.goto 4,3),(11,.iconst 0,1),(12,.ireturn,1)]
set_option maxRecDepth 100000 in
theorem dkX12_isGood : rf_decs prog_14_method_6_code ddX12_isGood := rf_decs_of (by decide +kernel)
def q682_P : rfP := (flX12,csX12,lcX12,spX12,[],[],[],([],[]))
def q682_U : rfU := []
set_option maxHeartbeats 8000000 in
def q682_N : List rfB := [(0,([(0,.inr (.inl [114]))],[],[((114,4),(0,0,1),some ((114,4),0,0))]),(5,[]),0)]
set_option maxRecDepth 100000 in
theorem q682_ok : rf_chkB q682_P q682_U wLay q682_M ddX12_isGood [] [] [0] 600 q682_N = true := by decide +kernel
set_option maxHeartbeats 4000000 in
theorem q682_met {G : rfG} (h : okG G) : rf_met G q682_M := rf_methodB h.1 (P := q682_P) (U := q682_U) (N := q682_N) ⟨wflT h flokX12, wcsT h csokX12, wlcT h lcokX12, spokX12 h, fun _ h => absurd h List.not_mem_nil, fun _ h => absurd h List.not_mem_nil, fun _ h => absurd h List.not_mem_nil, fun _ h => absurd h List.not_mem_nil, fun _ h => absurd h List.not_mem_nil⟩ dkX12_isGood (by decide +kernel) (by rw [h.2.2.1]; exact q682_ok)
/-- NearSpellModel.isWord -/
def q683_M : rfM := ((⟨"NearSpellModel", "isWord", "(J)Z"⟩, prog_14_method_11_code, 3, (some .boolean)), (0,0), ([.inr (.inl [114]),.inr (.inr 0)],[((114,8),(1,5,1),none)]), [], [(some (.inl ((1,1,0),none)),[],[((114,8),(3,3,1),none)]),(some (.inl ((0,0,0),none)),[],[])])
def ddX12_isWord : List (Nat × Instr × Nat) := [(0,.aload_n 0,1),(1,.getfield 195,3),(4,.iconst 3,1),(5,.if_icmp .ne 16,3),(8,.aload_n 0,1),(9,.getfield 202,3),(12,.lload_n 1,1),(13,.lcmp,1),(14,.ifCond .ne 7,3),(17,.iconst 1,1),(18,.goto 4,3),(21,.iconst 0,1),(22,.ireturn,1)]
set_option maxRecDepth 100000 in
theorem dkX12_isWord : rf_decs prog_14_method_11_code ddX12_isWord := rf_decs_of (by decide +kernel)
def q683_P : rfP := (flX12,csX12,lcX12,spX12,[],[],[],([],[]))
def q683_U : rfU := []
set_option maxHeartbeats 8000000 in
def q683_N : List rfB := [(0,([(0,.inr (.inl [114])),(1,.inr (.inr 0))],[],[((114,8),(1,5,1),some ((114,8),0,0))]),(13,[]),0),
  (21,([(0,.inr (.inl [114])),(1,.inr (.inr 0))],[],[((114,8),(1,5,1),some ((114,8),0,0))]),(1,[]),0)]
set_option maxRecDepth 100000 in
theorem q683_ok : rf_chkB q683_P q683_U wLay q683_M ddX12_isWord [] [] [0,21] 600 q683_N = true := by decide +kernel
set_option maxHeartbeats 4000000 in
theorem q683_met {G : rfG} (h : okG G) : rf_met G q683_M := rf_methodB h.1 (P := q683_P) (U := q683_U) (N := q683_N) ⟨wflT h flokX12, wcsT h csokX12, wlcT h lcokX12, spokX12 h, fun _ h => absurd h List.not_mem_nil, fun _ h => absurd h List.not_mem_nil, fun _ h => absurd h List.not_mem_nil, fun _ h => absurd h List.not_mem_nil, fun _ h => absurd h List.not_mem_nil⟩ dkX12_isWord (by decide +kernel) (by rw [h.2.2.1]; exact q683_ok)
/-- NearSpellModel.bit -/
def q684_M : rfM := ((⟨"NearSpellModel", "bit", "(II)Z"⟩, prog_14_method_36_code, 2, (some .boolean)), (0,0), ([.inl (((-2147483648),2147483647,1),none),.inl (((-2147483648),2147483647,1),none)],[]), [], [(some (.inl ((1,1,0),none)),[],[]),(some (.inl ((0,0,0),none)),[],[])])
def ddX12_bit : List (Nat × Instr × Nat) := [(0,.iload_n 0,1),(1,.iload_n 1,1),(2,.ishr,1),(3,.iconst 1,1),(4,.iand,1),(5,.iconst 1,1),(6,.if_icmp .ne 7,3),(9,.iconst 1,1),(10,.goto 4,3),(13,.iconst 0,1),(14,.ireturn,1)]
set_option maxRecDepth 100000 in
theorem dkX12_bit : rf_decs prog_14_method_36_code ddX12_bit := rf_decs_of (by decide +kernel)
def q684_P : rfP := (flX12,csX12,lcX12,spX12,[],[],[],([],[]))
def q684_U : rfU := []
set_option maxHeartbeats 8000000 in
def q684_N : List rfB := [(0,([(0,.inl (((-2147483648),2147483647,1),none)),(1,.inl (((-2147483648),2147483647,1),none))],[],[]),(11,[]),0)]
set_option maxRecDepth 100000 in
theorem q684_ok : rf_chkB q684_P q684_U wLay q684_M ddX12_bit [] [] [0] 600 q684_N = true := by decide +kernel
set_option maxHeartbeats 4000000 in
theorem q684_met {G : rfG} (h : okG G) : rf_met G q684_M := rf_methodB h.1 (P := q684_P) (U := q684_U) (N := q684_N) ⟨wflT h flokX12, wcsT h csokX12, wlcT h lcokX12, spokX12 h, fun _ h => absurd h List.not_mem_nil, fun _ h => absurd h List.not_mem_nil, fun _ h => absurd h List.not_mem_nil, fun _ h => absurd h List.not_mem_nil, fun _ h => absurd h List.not_mem_nil⟩ dkX12_bit (by decide +kernel) (by rw [h.2.2.1]; exact q684_ok)
/-- NearSpellModel.isFull -/
def q685_M : rfM := ((⟨"NearSpellModel", "isFull", "()Z"⟩, prog_14_method_17_code, 1, (some .boolean)), (1,22), ([.inr (.inl [114])],[((114,8),(1,5,1),none),((114,29),(1,1,0),none)]), [], [(some (.inl ((1,1,0),none)),[],[]),(some (.inl ((0,0,0),none)),[],[((114,8),(3,3,1),none)])])
def ddX12_isFull : List (Nat × Instr × Nat) := [(0,.aload_n 0,1),(1,.ldc2_w 157,3),(4,.invokevirtual 248,3),(7,.ifCond .eq 23,3),(10,.aload_n 0,1),(11,.getfield 20,3),(14,.aload_n 0,1),(15,.getfield 233,3),(18,.iaload,1),(19,.bipush 10,2),(21,.if_icmp .ne 7,3),(24,.iconst 1,1),(25,.goto 4,3),(28,.iconst 0,1),(29,.ireturn,1),(30,.aload_n 0,1),(31,.ldc2_w 159,3),(34,.invokevirtual 248,3),(37,.ifCond .eq 17,3),(40,.aload_n 0,1),(41,.getfield 42,3),(44,.aload_n 0,1),(45,.getfield 233,3),(48,.iaload,1),(49,.iconst 1,1),(50,.invokestatic 251,3),(53,.ireturn,1),(54,.aload_n 0,1),(55,.ldc2_w 161,3),(58,.invokevirtual 248,3),(61,.ifCond .eq 17,3),(64,.aload_n 0,1),(65,.getfield 42,3),(68,.aload_n 0,1),(69,.getfield 233,3),(72,.iaload,1),(73,.iconst 2,1),(74,.invokestatic 251,3),(77,.ireturn,1),(78,.aload_n 0,1),(79,.ldc2_w 163,3),(82,.invokevirtual 248,3),(85,.ifCond .eq 17,3),(88,.aload_n 0,1),(89,.getfield 42,3),(92,.aload_n 0,1),(93,.getfield 233,3),(96,.iaload,1),(97,.iconst 0,1),(98,.invokestatic 251,3),(101,.ireturn,1),(102,.aload_n 0,1),(103,.ldc2_w 165,3),(106,.invokevirtual 248,3),(109,.ifCond .eq 17,3),(112,.aload_n 0,1),(113,.getfield 42,3),(116,.aload_n 0,1),(117,.getfield 233,3),(120,.iaload,1),(121,.iconst 3,1),(122,.invokestatic 251,3),(125,.ireturn,1),(126,.aload_n 0,1),(127,.ldc2_w 167,3),(130,.invokevirtual 248,3),(133,.ifCond .eq 17,3),(136,.aload_n 0,1),(137,.getfield 42,3),(140,.aload_n 0,1),(141,.getfield 233,3),(144,.iaload,1),(145,.iconst 4,1),(146,.invokestatic 251,3),(149,.ireturn,1),(150,.aload_n 0,1),(151,.ldc2_w 169,3),(154,.invokevirtual 248,3),(157,.ifCond .eq 19,3),(160,.aload_n 0,1),(161,.getfield 42,3),(164,.aload_n 0,1),(165,.getfield 233,3),(168,.iaload,1),(169,.iconst 5,1),(170,.invokestatic 251,3),(173,.ifCond .eq 7,3),(176,.iconst 1,1),(177,.goto 4,3),(180,.iconst 0,1),(181,.ireturn,1)]
set_option maxRecDepth 100000 in
theorem dkX12_isFull : rf_decs prog_14_method_17_code ddX12_isFull := rf_decs_of (by decide +kernel)
def q685_P : rfP := (flX12,csX12,lcX12,spX12,[q683_M,q684_M],[(251,1)],[(248,0,12)],([],[]))
def q685_U : rfU := []
set_option maxHeartbeats 8000000 in
def q685_N : List rfB := [(0,([(0,.inr (.inl [114]))],[],[((114,8),(1,5,1),some ((114,8),0,0)),((114,29),(1,1,0),some ((114,29),0,0))]),(105,[]),0),
  (176,([(0,.inr (.inl [114]))],[],[((114,8),(1,5,1),some ((114,8),0,0)),((114,29),(1,1,0),some ((114,29),0,0))]),(65,[]),0)]
set_option maxRecDepth 100000 in
theorem q685_ok : rf_chkB q685_P q685_U wLay q685_M ddX12_isFull [(4,[0]),(34,[0]),(50,[1]),(58,[0]),(74,[1]),(82,[0]),(98,[1]),(106,[0]),(122,[1]),(130,[0]),(146,[1]),(154,[0]),(170,[1])] [] [0,176] 600 q685_N = true := by decide +kernel
set_option maxHeartbeats 4000000 in
theorem q685_met {G : rfG} (h : okG G) : rf_met G q685_M := rf_methodB h.1 (P := q685_P) (U := q685_U) (N := q685_N) ⟨wflT h flokX12, wcsT h csokX12, wlcT h lcokX12, spokX12 h, List.forall_mem_cons.mpr ⟨q683_met h, List.forall_mem_cons.mpr ⟨q684_met h, fun _ h => absurd h List.not_mem_nil⟩⟩, List.forall_mem_cons.mpr ⟨fun M hM => Option.some.inj (show some q684_M = some M from hM) ▸ wlkS (lkX12_251 h) q684_M rfl rfl, fun _ h => absurd h List.not_mem_nil⟩, List.forall_mem_cons.mpr ⟨fun M hM => Option.some.inj (show some q683_M = some M from hM) ▸ wlkV (lkX12_248 h) q683_M rfl rfl, fun _ h => absurd h List.not_mem_nil⟩, fun _ h => absurd h List.not_mem_nil, fun _ h => absurd h List.not_mem_nil⟩ dkX12_isFull (by decide +kernel) (by rw [h.2.2.1]; exact q685_ok)
/-- NearSpellModel.fails -/
def q686_M : rfM := ((⟨"NearSpellModel", "fails", "(II)V"⟩, prog_14_method_5_code, 3, none), (0,0), ([.inr (.inl [114]),.inl ((1,1,0),none),.inl ((0,1600,1),none)],[((114,4),(0,0,1),none)]), [(114,5),(114,6)], [(none,[],[((114,4),(1,1,0),none),((114,5),(0,1600,1),none)])])
def ddX12_fails : List (Nat × Instr × Nat) := [(0,.aload_n 0,1),(1,.getfield 154,3),(4,.ifCond .le 4,3),(7,.return_,1),(8,.aload_n 0,1),(9,.iload_n 1,1),(10,.putfield 154,3),(13,.aload_n 0,1),(14,.iload_n 2,1),(15,.putfield 16,3),(18,.return_,1)]
set_option maxRecDepth 100000 in
theorem dkX12_fails : rf_decs prog_14_method_5_code ddX12_fails := rf_decs_of (by decide +kernel)
def q686_P : rfP := (flX12,csX12,lcX12,spX12,[],[],[],([],[]))
def q686_U : rfU := []
set_option maxHeartbeats 8000000 in
def q686_N : List rfB := [(0,([(0,.inr (.inl [114])),(1,.inl ((1,1,0),none)),(2,.inl ((0,1600,1),none))],[],[((114,4),(0,0,1),some ((114,4),0,0))]),(9,[]),0)]
set_option maxRecDepth 100000 in
theorem q686_ok : rf_chkB q686_P q686_U wLay q686_M ddX12_fails [] [] [0] 600 q686_N = true := by decide +kernel
set_option maxHeartbeats 4000000 in
theorem q686_met {G : rfG} (h : okG G) : rf_met G q686_M := rf_methodB h.1 (P := q686_P) (U := q686_U) (N := q686_N) ⟨wflT h flokX12, wcsT h csokX12, wlcT h lcokX12, spokX12 h, fun _ h => absurd h List.not_mem_nil, fun _ h => absurd h List.not_mem_nil, fun _ h => absurd h List.not_mem_nil, fun _ h => absurd h List.not_mem_nil, fun _ h => absurd h List.not_mem_nil⟩ dkX12_fails (by decide +kernel) (by rw [h.2.2.1]; exact q686_ok)
/-- NearSpellModel.fails -/
def q687_M : rfM := ((⟨"NearSpellModel", "fails", "(II)V"⟩, prog_14_method_5_code, 3, none), (0,0), ([.inr (.inl [114]),.inl ((2,2,0),none),.inl ((0,1600,1),none)],[((114,4),(0,0,1),none)]), [(114,5),(114,6)], [(none,[],[((114,4),(2,2,0),none),((114,5),(0,1600,1),none)])])
def q687_P : rfP := (flX12,csX12,lcX12,spX12,[],[],[],([],[]))
def q687_U : rfU := []
set_option maxHeartbeats 8000000 in
def q687_N : List rfB := [(0,([(0,.inr (.inl [114])),(1,.inl ((2,2,0),none)),(2,.inl ((0,1600,1),none))],[],[((114,4),(0,0,1),some ((114,4),0,0))]),(9,[]),0)]
set_option maxRecDepth 100000 in
theorem q687_ok : rf_chkB q687_P q687_U wLay q687_M ddX12_fails [] [] [0] 600 q687_N = true := by decide +kernel
set_option maxHeartbeats 4000000 in
theorem q687_met {G : rfG} (h : okG G) : rf_met G q687_M := rf_methodB h.1 (P := q687_P) (U := q687_U) (N := q687_N) ⟨wflT h flokX12, wcsT h csokX12, wlcT h lcokX12, spokX12 h, fun _ h => absurd h List.not_mem_nil, fun _ h => absurd h List.not_mem_nil, fun _ h => absurd h List.not_mem_nil, fun _ h => absurd h List.not_mem_nil, fun _ h => absurd h List.not_mem_nil⟩ dkX12_fails (by decide +kernel) (by rw [h.2.2.1]; exact q687_ok)
/-- NearSpellModel.misplaced -/
def q688_M : rfM := ((⟨"NearSpellModel", "misplaced", "()V"⟩, prog_14_method_12_code, 1, none), (1,22), ([.inr (.inl [114])],[((114,4),(0,0,1),none),((114,8),(1,5,1),none)]), [(114,5),(114,6)], [(none,[],[((114,4),(1,2,1),none),((114,5),(0,1600,1),none)])])
def ddX12_misplaced : List (Nat × Instr × Nat) := [(0,.aload_n 0,1),(1,.aload_n 0,1),(2,.getfield 195,3),(5,.iconst 1,1),(6,.if_icmp .ne 7,3),(9,.iconst 1,1),(10,.goto 4,3),(13,.iconst 2,1),(14,.aload_n 0,1),(15,.getfield 188,3),(18,.invokevirtual 219,3),(21,.return_,1)]
set_option maxRecDepth 100000 in
theorem dkX12_misplaced : rf_decs prog_14_method_12_code ddX12_misplaced := rf_decs_of (by decide +kernel)
def q688_P : rfP := (flX12,csX12,lcX12,spX12,[q686_M,q687_M],[],[(219,0,12),(219,1,12)],([],[]))
def q688_U : rfU := []
set_option maxHeartbeats 8000000 in
def q688_N : List rfB := [(0,([(0,.inr (.inl [114]))],[],[((114,4),(0,0,1),some ((114,4),0,0)),((114,8),(1,5,1),some ((114,8),0,0))]),(14,[]),0),
  (21,([(0,.inr (.inl [114]))],[],[((114,4),(1,2,1),none),((114,5),(0,1600,1),none),((114,8),(1,5,1),some ((114,8),0,0))]),(0,[]),0)]
set_option maxRecDepth 100000 in
theorem q688_ok : rf_chkB q688_P q688_U wLay q688_M ddX12_misplaced [(18,[0,1])] [] [0,21] 600 q688_N = true := by decide +kernel
set_option maxHeartbeats 4000000 in
theorem q688_met {G : rfG} (h : okG G) : rf_met G q688_M := rf_methodB h.1 (P := q688_P) (U := q688_U) (N := q688_N) ⟨wflT h flokX12, wcsT h csokX12, wlcT h lcokX12, spokX12 h, List.forall_mem_cons.mpr ⟨q686_met h, List.forall_mem_cons.mpr ⟨q687_met h, fun _ h => absurd h List.not_mem_nil⟩⟩, fun _ h => absurd h List.not_mem_nil, List.forall_mem_cons.mpr ⟨fun M hM => Option.some.inj (show some q686_M = some M from hM) ▸ wlkV (lkX12_219 h) q686_M rfl rfl, List.forall_mem_cons.mpr ⟨fun M hM => Option.some.inj (show some q687_M = some M from hM) ▸ wlkV (lkX12_219 h) q687_M rfl rfl, fun _ h => absurd h List.not_mem_nil⟩⟩, fun _ h => absurd h List.not_mem_nil, fun _ h => absurd h List.not_mem_nil⟩ dkX12_misplaced (by decide +kernel) (by rw [h.2.2.1]; exact q688_ok)
/-- NearSpellModel.isGood -/
def q689_M : rfM := ((⟨"NearSpellModel", "isGood", "()Z"⟩, prog_14_method_6_code, 1, (some .boolean)), (0,0), ([.inr (.inl [114])],[((114,4),(1,4,1),none)]), [], [(some (.inl ((0,0,0),none)),[],[])])
def q689_P : rfP := (flX12,csX12,lcX12,spX12,[],[],[],([],[]))
def q689_U : rfU := []
set_option maxHeartbeats 8000000 in
def q689_N : List rfB := [(0,([(0,.inr (.inl [114]))],[],[((114,4),(1,4,1),some ((114,4),0,0))]),(4,[]),0)]
set_option maxRecDepth 100000 in
theorem q689_ok : rf_chkB q689_P q689_U wLay q689_M ddX12_isGood [] [] [0] 600 q689_N = true := by decide +kernel
set_option maxHeartbeats 4000000 in
theorem q689_met {G : rfG} (h : okG G) : rf_met G q689_M := rf_methodB h.1 (P := q689_P) (U := q689_U) (N := q689_N) ⟨wflT h flokX12, wcsT h csokX12, wlcT h lcokX12, spokX12 h, fun _ h => absurd h List.not_mem_nil, fun _ h => absurd h List.not_mem_nil, fun _ h => absurd h List.not_mem_nil, fun _ h => absurd h List.not_mem_nil, fun _ h => absurd h List.not_mem_nil⟩ dkX12_isGood (by decide +kernel) (by rw [h.2.2.1]; exact q689_ok)
/-- NearSpellModel.fails -/
def q692_M : rfM := ((⟨"NearSpellModel", "fails", "(II)V"⟩, prog_14_method_5_code, 3, none), (0,0), ([.inr (.inl [114]),.inl ((4,4,0),none),.inl ((0,1600,1),none)],[((114,4),(0,0,1),none)]), [(114,5),(114,6)], [(none,[],[((114,4),(4,4,0),none),((114,5),(0,1600,1),none)])])
def q692_P : rfP := (flX12,csX12,lcX12,spX12,[],[],[],([],[]))
def q692_U : rfU := []
set_option maxHeartbeats 8000000 in
def q692_N : List rfB := [(0,([(0,.inr (.inl [114])),(1,.inl ((4,4,0),none)),(2,.inl ((0,1600,1),none))],[],[((114,4),(0,0,1),some ((114,4),0,0))]),(9,[]),0)]
set_option maxRecDepth 100000 in
theorem q692_ok : rf_chkB q692_P q692_U wLay q692_M ddX12_fails [] [] [0] 600 q692_N = true := by decide +kernel
set_option maxHeartbeats 4000000 in
theorem q692_met {G : rfG} (h : okG G) : rf_met G q692_M := rf_methodB h.1 (P := q692_P) (U := q692_U) (N := q692_N) ⟨wflT h flokX12, wcsT h csokX12, wlcT h lcokX12, spokX12 h, fun _ h => absurd h List.not_mem_nil, fun _ h => absurd h List.not_mem_nil, fun _ h => absurd h List.not_mem_nil, fun _ h => absurd h List.not_mem_nil, fun _ h => absurd h List.not_mem_nil⟩ dkX12_fails (by decide +kernel) (by rw [h.2.2.1]; exact q692_ok)
/-- NearSpellModel.numeral -/
def q693_M : rfM := ((⟨"NearSpellModel", "numeral", "(II)I"⟩, prog_14_method_14_code, 4, (some .int)), (5,322), ([.inr (.inl [114]),.inl ((1,1,0),none),.inl ((6,6,0),none)],[((114,4),(0,0,1),none),((114,7),(0,1600,1),none),((114,8),(1,5,1),none)]), [(114,5),(114,6),(114,7),(114,8),(114,9),(114,10),(114,11),(998,2)], [(some (.inl ((1,6,1),none)),[],[((114,4),(0,0,1),some ((114,4),0,0)),((114,7),(1,1600,1),some ((114,7),1,4294967296)),((114,8),(5,5,0),none),((998,1),(1,1,0),none)]),(some (.inl ((1,6,1),none)),[],[((114,4),(0,0,1),some ((114,4),0,0)),((114,7),(0,1600,1),none),((114,8),(0,0,0),none),((998,1),(1,1,0),none)]),(some (.inl ((1,6,1),none)),[],[((114,4),(0,0,1),some ((114,4),0,0)),((114,7),(1,1600,1),some ((114,7),1,4294967296)),((114,8),(1,4,1),none),((998,1),(1,1,0),none)]),(some (.inl ((1,1,0),none)),[],[((114,4),(1,2,1),none),((114,5),(0,1600,1),none),((114,7),(0,1600,1),some ((114,7),0,0)),((114,8),(1,5,1),some ((114,8),0,0))]),(some (.inl ((1,1,0),none)),[],[((114,4),(4,4,0),none),((114,5),(0,1600,1),none),((114,7),(0,1600,1),some ((114,7),0,0)),((114,8),(4,4,1),some ((114,8),0,0))])])
def ddX12_numeral : List (Nat × Instr × Nat) := [(0,.aload_n 0,1),(1,.invokevirtual 223,3),(4,.ifCond .ne 5,3),(7,.iload_n 1,1),(8,.ireturn,1),(9,.aload_n 0,1),(10,.getfield 195,3),(13,.iconst 4,1),(14,.if_icmp .eq 7,3),(17,.aload_n 0,1),(18,.invokevirtual 230,3),(21,.aload_n 0,1),(22,.invokevirtual 223,3),(25,.ifCond .eq 28,3),(28,.aload_n 0,1),(29,.getfield 213,3),(32,.iload_n 1,1),(33,.if_icmp .lt 11,3),(36,.aload_n 0,1),(37,.getfield 213,3),(40,.iload_n 2,1),(41,.if_icmp .le 12,3),(44,.aload_n 0,1),(45,.iconst 4,1),(46,.aload_n 0,1),(47,.getfield 188,3),(50,.invokevirtual 219,3),(53,.aload_n 0,1),(54,.getfield 213,3),(57,.istore_n 3,1),(58,.aload_n 0,1),(59,.invokevirtual 223,3),(62,.ifCond .eq 7,3),(65,.aload_n 0,1),(66,.invokevirtual 227,3),(69,.aload_n 0,1),(70,.invokevirtual 223,3),(73,.ifCond .eq 7,3),(76,.iload_n 3,1),(77,.goto 4,3),(80,.iload_n 1,1),(81,.ireturn,1)]
set_option maxRecDepth 100000 in
theorem dkX12_numeral : rf_decs prog_14_method_14_code ddX12_numeral := rf_decs_of (by decide +kernel)
def q693_P : rfP := (flX12,csX12,lcX12,spX12,[q682_M,q688_M,q689_M,q692_M,q681_M],[],[(219,3,12),(223,0,12),(223,2,12),(227,4,12),(230,1,12)],([],[]))
def q693_U : rfU := []
set_option maxHeartbeats 8000000 in
def q693_N : List rfB := [(0,([(0,.inr (.inl [114])),(1,.inl ((1,1,0),none)),(2,.inl ((6,6,0),none))],[],[((114,4),(0,0,1),some ((114,4),0,0)),((114,7),(0,1600,1),some ((114,7),0,0)),((114,8),(1,5,1),some ((114,8),0,0))]),(75,[]),0),
  (44,([(0,.inr (.inl [114])),(1,.inl ((1,1,0),none)),(2,.inl ((6,6,0),none))],[],[((114,4),(0,0,1),some ((114,4),0,0)),((114,7),(0,1600,1),some ((114,7),0,0)),((114,8),(4,4,1),some ((114,8),0,0))]),(15,[]),0)]
set_option maxRecDepth 100000 in
theorem q693_ok : rf_chkB q693_P q693_U wLay q693_M ddX12_numeral [(1,[0]),(18,[1]),(22,[0,2]),(50,[3]),(59,[0,2]),(66,[4]),(70,[0,2])] [] [0,44] 600 q693_N = true := by decide +kernel
set_option maxHeartbeats 4000000 in
theorem q693_met {G : rfG} (h : okG G) (hh : w1OK G) : rf_met G q693_M := rf_methodB h.1 (P := q693_P) (U := q693_U) (N := q693_N) ⟨wflT h flokX12, wcsT h csokX12, wlcT h lcokX12, spokX12 h, List.forall_mem_cons.mpr ⟨q682_met h, List.forall_mem_cons.mpr ⟨q688_met h, List.forall_mem_cons.mpr ⟨q689_met h, List.forall_mem_cons.mpr ⟨q692_met h, List.forall_mem_cons.mpr ⟨q681_met h hh, fun _ h => absurd h List.not_mem_nil⟩⟩⟩⟩⟩, fun _ h => absurd h List.not_mem_nil, List.forall_mem_cons.mpr ⟨fun M hM => Option.some.inj (show some q692_M = some M from hM) ▸ wlkV (lkX12_219 h) q692_M rfl rfl, List.forall_mem_cons.mpr ⟨fun M hM => Option.some.inj (show some q682_M = some M from hM) ▸ wlkV (lkX12_223 h) q682_M rfl rfl, List.forall_mem_cons.mpr ⟨fun M hM => Option.some.inj (show some q689_M = some M from hM) ▸ wlkV (lkX12_223 h) q689_M rfl rfl, List.forall_mem_cons.mpr ⟨fun M hM => Option.some.inj (show some q681_M = some M from hM) ▸ wlkV (lkX12_227 h) q681_M rfl rfl, List.forall_mem_cons.mpr ⟨fun M hM => Option.some.inj (show some q688_M = some M from hM) ▸ wlkV (lkX12_230 h) q688_M rfl rfl, fun _ h => absurd h List.not_mem_nil⟩⟩⟩⟩⟩, fun _ h => absurd h List.not_mem_nil, fun _ h => absurd h List.not_mem_nil⟩ dkX12_numeral (by decide +kernel) (by rw [h.2.2.1]; exact q693_ok)
/-- NearSpellModel.once -/
def q694_M : rfM := ((⟨"NearSpellModel", "once", "(III)I"⟩, prog_14_method_18_code, 4, (some .int)), (6,345), ([.inr (.inl [114]),.inl ((1,1,0),none),.inl ((1,1,0),none),.inl ((6,6,0),none)],[((114,4),(0,0,1),none),((114,7),(0,1600,1),none),((114,8),(1,5,1),none),((114,29),(1,1,0),none)]), [(80,0),(114,5),(114,6),(114,7),(114,8),(114,9),(114,10),(114,11),(998,2)], [(some (.inl ((1,1,0),none)),[],[((114,4),(1,2,1),none),((114,5),(0,1600,1),none),((114,7),(0,1600,1),some ((114,7),0,0)),((114,8),(1,5,1),some ((114,8),0,0))]),(some (.inl ((1,6,1),none)),[],[((114,4),(0,0,1),some ((114,4),0,0)),((114,7),(0,1600,1),none),((114,8),(0,0,0),none),((998,1),(1,1,0),none)]),(some (.inl ((1,1,0),none)),[],[((114,4),(4,4,0),none),((114,5),(0,1600,1),none),((114,7),(0,1600,1),some ((114,7),0,0)),((114,8),(4,4,1),some ((114,8),0,0))]),(some (.inl ((1,6,1),none)),[],[((114,4),(0,0,1),some ((114,4),0,0)),((114,7),(1,1600,1),some ((114,7),1,4294967296)),((114,8),(1,4,1),none),((998,1),(1,1,0),none)]),(some (.inl ((1,6,1),none)),[],[((114,4),(0,0,1),some ((114,4),0,0)),((114,7),(1,1600,1),some ((114,7),1,4294967296)),((114,8),(5,5,0),none),((998,1),(1,1,0),none)])])
def ddX12_once : List (Nat × Instr × Nat) := [(0,.aload_n 0,1),(1,.getfield 42,3),(4,.aload_n 0,1),(5,.getfield 233,3),(8,.dup2,1),(9,.iaload,1),(10,.iconst 1,1),(11,.iload_n 1,1),(12,.ishl,1),(13,.ior,1),(14,.iastore,1),(15,.aload_n 0,1),(16,.iload_n 2,1),(17,.iload_n 3,1),(18,.invokevirtual 255,3),(21,.ireturn,1)]
set_option maxRecDepth 100000 in
theorem dkX12_once : rf_decs prog_14_method_18_code ddX12_once := rf_decs_of (by decide +kernel)
def q694_P : rfP := (flX12,csX12,lcX12,spX12,[q693_M],[],[(255,0,12)],([],[]))
def q694_U : rfU := []
set_option maxHeartbeats 8000000 in
def q694_N : List rfB := [(0,([(0,.inr (.inl [114])),(1,.inl ((1,1,0),none)),(2,.inl ((1,1,0),none)),(3,.inl ((6,6,0),none))],[],[((114,4),(0,0,1),some ((114,4),0,0)),((114,7),(0,1600,1),some ((114,7),0,0)),((114,8),(1,5,1),some ((114,8),0,0)),((114,29),(1,1,0),some ((114,29),0,0))]),(19,[]),0)]
set_option maxRecDepth 100000 in
theorem q694_ok : rf_chkB q694_P q694_U wLay q694_M ddX12_once [(18,[0])] [] [0] 600 q694_N = true := by decide +kernel
set_option maxHeartbeats 4000000 in
theorem q694_met {G : rfG} (h : okG G) (hh : w1OK G) : rf_met G q694_M := rf_methodB h.1 (P := q694_P) (U := q694_U) (N := q694_N) ⟨wflT h flokX12, wcsT h csokX12, wlcT h lcokX12, spokX12 h, List.forall_mem_cons.mpr ⟨q693_met h hh, fun _ h => absurd h List.not_mem_nil⟩, fun _ h => absurd h List.not_mem_nil, List.forall_mem_cons.mpr ⟨fun M hM => Option.some.inj (show some q693_M = some M from hM) ▸ wlkV (lkX12_255 h) q693_M rfl rfl, fun _ h => absurd h List.not_mem_nil⟩, fun _ h => absurd h List.not_mem_nil, fun _ h => absurd h List.not_mem_nil⟩ dkX12_once (by decide +kernel) (by rw [h.2.2.1]; exact q694_ok)
/-- NearSpellModel.misplaced -/
def q695_M : rfM := ((⟨"NearSpellModel", "misplaced", "()V"⟩, prog_14_method_12_code, 1, none), (1,22), ([.inr (.inl [114])],[((114,4),(0,0,1),none),((114,8),(0,0,1),none)]), [(114,5),(114,6)], [(none,[],[((114,4),(2,2,0),none),((114,5),(0,1600,1),none)])])
def q695_P : rfP := (flX12,csX12,lcX12,spX12,[q687_M],[],[(219,0,12)],([],[]))
def q695_U : rfU := []
set_option maxHeartbeats 8000000 in
def q695_N : List rfB := [(0,([(0,.inr (.inl [114]))],[],[((114,4),(0,0,1),some ((114,4),0,0)),((114,8),(0,0,1),some ((114,8),0,0))]),(9,[]),0)]
set_option maxRecDepth 100000 in
theorem q695_ok : rf_chkB q695_P q695_U wLay q695_M ddX12_misplaced [(18,[0])] [] [0] 600 q695_N = true := by decide +kernel
set_option maxHeartbeats 4000000 in
theorem q695_met {G : rfG} (h : okG G) : rf_met G q695_M := rf_methodB h.1 (P := q695_P) (U := q695_U) (N := q695_N) ⟨wflT h flokX12, wcsT h csokX12, wlcT h lcokX12, spokX12 h, List.forall_mem_cons.mpr ⟨q687_met h, fun _ h => absurd h List.not_mem_nil⟩, fun _ h => absurd h List.not_mem_nil, List.forall_mem_cons.mpr ⟨fun M hM => Option.some.inj (show some q687_M = some M from hM) ▸ wlkV (lkX12_219 h) q687_M rfl rfl, fun _ h => absurd h List.not_mem_nil⟩, fun _ h => absurd h List.not_mem_nil, fun _ h => absurd h List.not_mem_nil⟩ dkX12_misplaced (by decide +kernel) (by rw [h.2.2.1]; exact q695_ok)
/-- NearSpellModel.numeral -/
def q696_M : rfM := ((⟨"NearSpellModel", "numeral", "(II)I"⟩, prog_14_method_14_code, 4, (some .int)), (2,42), ([.inr (.inl [114]),.inl ((1,1,0),none),.inl ((6,6,0),none)],[((114,4),(0,0,1),none),((114,7),(0,1600,1),none),((114,8),(0,0,1),none)]), [(114,5),(114,6)], [(some (.inl ((1,1,0),none)),[],[((114,4),(2,2,0),none),((114,5),(0,1600,1),none)])])
def q696_P : rfP := (flX12,csX12,lcX12,spX12,[q682_M,q695_M,q689_M],[],[(223,0,12),(223,2,12),(230,1,12)],([],[]))
def q696_U : rfU := []
set_option maxHeartbeats 8000000 in
def q696_N : List rfB := [(0,([(0,.inr (.inl [114])),(1,.inl ((1,1,0),none)),(2,.inl ((6,6,0),none))],[],[((114,4),(0,0,1),some ((114,4),0,0)),((114,7),(0,1600,1),some ((114,7),0,0)),((114,8),(0,0,1),some ((114,8),0,0))]),(22,[]),0)]
set_option maxRecDepth 100000 in
theorem q696_ok : rf_chkB q696_P q696_U wLay q696_M ddX12_numeral [(1,[0]),(18,[1]),(22,[2]),(59,[2]),(70,[2])] [] [0] 600 q696_N = true := by decide +kernel
set_option maxHeartbeats 4000000 in
theorem q696_met {G : rfG} (h : okG G) : rf_met G q696_M := rf_methodB h.1 (P := q696_P) (U := q696_U) (N := q696_N) ⟨wflT h flokX12, wcsT h csokX12, wlcT h lcokX12, spokX12 h, List.forall_mem_cons.mpr ⟨q682_met h, List.forall_mem_cons.mpr ⟨q695_met h, List.forall_mem_cons.mpr ⟨q689_met h, fun _ h => absurd h List.not_mem_nil⟩⟩⟩, fun _ h => absurd h List.not_mem_nil, List.forall_mem_cons.mpr ⟨fun M hM => Option.some.inj (show some q682_M = some M from hM) ▸ wlkV (lkX12_223 h) q682_M rfl rfl, List.forall_mem_cons.mpr ⟨fun M hM => Option.some.inj (show some q689_M = some M from hM) ▸ wlkV (lkX12_223 h) q689_M rfl rfl, List.forall_mem_cons.mpr ⟨fun M hM => Option.some.inj (show some q695_M = some M from hM) ▸ wlkV (lkX12_230 h) q695_M rfl rfl, fun _ h => absurd h List.not_mem_nil⟩⟩⟩, fun _ h => absurd h List.not_mem_nil, fun _ h => absurd h List.not_mem_nil⟩ dkX12_numeral (by decide +kernel) (by rw [h.2.2.1]; exact q696_ok)
/-- NearSpellModel.once -/
def q697_M : rfM := ((⟨"NearSpellModel", "once", "(III)I"⟩, prog_14_method_18_code, 4, (some .int)), (3,65), ([.inr (.inl [114]),.inl ((1,1,0),none),.inl ((1,1,0),none),.inl ((6,6,0),none)],[((114,4),(0,0,1),none),((114,7),(0,1600,1),none),((114,8),(0,0,1),none),((114,29),(1,1,0),none)]), [(80,0),(114,5),(114,6)], [(some (.inl ((1,1,0),none)),[],[((114,4),(2,2,0),none),((114,5),(0,1600,1),none)])])
def q697_P : rfP := (flX12,csX12,lcX12,spX12,[q696_M],[],[(255,0,12)],([],[]))
def q697_U : rfU := []
set_option maxHeartbeats 8000000 in
def q697_N : List rfB := [(0,([(0,.inr (.inl [114])),(1,.inl ((1,1,0),none)),(2,.inl ((1,1,0),none)),(3,.inl ((6,6,0),none))],[],[((114,4),(0,0,1),some ((114,4),0,0)),((114,7),(0,1600,1),some ((114,7),0,0)),((114,8),(0,0,1),some ((114,8),0,0)),((114,29),(1,1,0),some ((114,29),0,0))]),(15,[]),0)]
set_option maxRecDepth 100000 in
theorem q697_ok : rf_chkB q697_P q697_U wLay q697_M ddX12_once [(18,[0])] [] [0] 600 q697_N = true := by decide +kernel
set_option maxHeartbeats 4000000 in
theorem q697_met {G : rfG} (h : okG G) : rf_met G q697_M := rf_methodB h.1 (P := q697_P) (U := q697_U) (N := q697_N) ⟨wflT h flokX12, wcsT h csokX12, wlcT h lcokX12, spokX12 h, List.forall_mem_cons.mpr ⟨q696_met h, fun _ h => absurd h List.not_mem_nil⟩, fun _ h => absurd h List.not_mem_nil, List.forall_mem_cons.mpr ⟨fun M hM => Option.some.inj (show some q696_M = some M from hM) ▸ wlkV (lkX12_255 h) q696_M rfl rfl, fun _ h => absurd h List.not_mem_nil⟩, fun _ h => absurd h List.not_mem_nil, fun _ h => absurd h List.not_mem_nil⟩ dkX12_once (by decide +kernel) (by rw [h.2.2.1]; exact q697_ok)
/-- NearSpellModel.numeral -/
def q698_M : rfM := ((⟨"NearSpellModel", "numeral", "(II)I"⟩, prog_14_method_14_code, 4, (some .int)), (1,20), ([.inr (.inl [114]),.inl ((1,1,0),none),.inl ((6,6,0),none)],[((114,4),(1,4,1),none),((114,7),(0,1600,1),none)]), [], [(some (.inl ((1,1,0),none)),[],[])])
def q698_P : rfP := (flX12,csX12,lcX12,spX12,[q689_M],[],[(223,0,12)],([],[]))
def q698_U : rfU := []
set_option maxHeartbeats 8000000 in
def q698_N : List rfB := [(0,([(0,.inr (.inl [114])),(1,.inl ((1,1,0),none)),(2,.inl ((6,6,0),none))],[],[((114,4),(1,4,1),some ((114,4),0,0)),((114,7),(0,1600,1),some ((114,7),0,0))]),(4,[]),0)]
set_option maxRecDepth 100000 in
theorem q698_ok : rf_chkB q698_P q698_U wLay q698_M ddX12_numeral [(1,[0])] [] [0] 600 q698_N = true := by decide +kernel
set_option maxHeartbeats 4000000 in
theorem q698_met {G : rfG} (h : okG G) : rf_met G q698_M := rf_methodB h.1 (P := q698_P) (U := q698_U) (N := q698_N) ⟨wflT h flokX12, wcsT h csokX12, wlcT h lcokX12, spokX12 h, List.forall_mem_cons.mpr ⟨q689_met h, fun _ h => absurd h List.not_mem_nil⟩, fun _ h => absurd h List.not_mem_nil, List.forall_mem_cons.mpr ⟨fun M hM => Option.some.inj (show some q689_M = some M from hM) ▸ wlkV (lkX12_223 h) q689_M rfl rfl, fun _ h => absurd h List.not_mem_nil⟩, fun _ h => absurd h List.not_mem_nil, fun _ h => absurd h List.not_mem_nil⟩ dkX12_numeral (by decide +kernel) (by rw [h.2.2.1]; exact q698_ok)
/-- NearSpellModel.once -/
def q699_M : rfM := ((⟨"NearSpellModel", "once", "(III)I"⟩, prog_14_method_18_code, 4, (some .int)), (2,43), ([.inr (.inl [114]),.inl ((1,1,0),none),.inl ((1,1,0),none),.inl ((6,6,0),none)],[((114,4),(1,4,1),none),((114,7),(0,1600,1),none),((114,29),(1,1,0),none)]), [(80,0)], [(some (.inl ((1,1,0),none)),[],[])])
def q699_P : rfP := (flX12,csX12,lcX12,spX12,[q698_M],[],[(255,0,12)],([],[]))
def q699_U : rfU := []
set_option maxHeartbeats 8000000 in
def q699_N : List rfB := [(0,([(0,.inr (.inl [114])),(1,.inl ((1,1,0),none)),(2,.inl ((1,1,0),none)),(3,.inl ((6,6,0),none))],[],[((114,4),(1,4,1),some ((114,4),0,0)),((114,7),(0,1600,1),some ((114,7),0,0)),((114,29),(1,1,0),some ((114,29),0,0))]),(15,[]),0)]
set_option maxRecDepth 100000 in
theorem q699_ok : rf_chkB q699_P q699_U wLay q699_M ddX12_once [(18,[0])] [] [0] 600 q699_N = true := by decide +kernel
set_option maxHeartbeats 4000000 in
theorem q699_met {G : rfG} (h : okG G) : rf_met G q699_M := rf_methodB h.1 (P := q699_P) (U := q699_U) (N := q699_N) ⟨wflT h flokX12, wcsT h csokX12, wlcT h lcokX12, spokX12 h, List.forall_mem_cons.mpr ⟨q698_met h, fun _ h => absurd h List.not_mem_nil⟩, fun _ h => absurd h List.not_mem_nil, List.forall_mem_cons.mpr ⟨fun M hM => Option.some.inj (show some q698_M = some M from hM) ▸ wlkV (lkX12_255 h) q698_M rfl rfl, fun _ h => absurd h List.not_mem_nil⟩, fun _ h => absurd h List.not_mem_nil, fun _ h => absurd h List.not_mem_nil⟩ dkX12_once (by decide +kernel) (by rw [h.2.2.1]; exact q699_ok)
/-- NearSpellModel.numeral -/
def q700_M : rfM := ((⟨"NearSpellModel", "numeral", "(II)I"⟩, prog_14_method_14_code, 4, (some .int)), (5,322), ([.inr (.inl [114]),.inl ((0,0,0),none),.inl ((2,2,0),none)],[((114,4),(0,0,1),none),((114,7),(0,1600,1),none),((114,8),(1,5,1),none)]), [(114,5),(114,6),(114,7),(114,8),(114,9),(114,10),(114,11),(998,2)], [(some (.inl ((0,2,1),none)),[],[((114,4),(0,0,1),some ((114,4),0,0)),((114,7),(1,1600,1),some ((114,7),1,4294967296)),((114,8),(5,5,0),none),((998,1),(1,1,0),none)]),(some (.inl ((0,2,1),none)),[],[((114,4),(0,0,1),some ((114,4),0,0)),((114,7),(0,1600,1),none),((114,8),(0,0,0),none),((998,1),(1,1,0),none)]),(some (.inl ((0,2,1),none)),[],[((114,4),(0,0,1),some ((114,4),0,0)),((114,7),(1,1600,1),some ((114,7),1,4294967296)),((114,8),(1,4,1),none),((998,1),(1,1,0),none)]),(some (.inl ((0,0,0),none)),[],[((114,4),(1,2,1),none),((114,5),(0,1600,1),none),((114,7),(0,1600,1),some ((114,7),0,0)),((114,8),(1,5,1),some ((114,8),0,0))]),(some (.inl ((0,0,0),none)),[],[((114,4),(4,4,0),none),((114,5),(0,1600,1),none),((114,7),(0,1600,1),some ((114,7),0,0)),((114,8),(4,4,1),some ((114,8),0,0))])])
def q700_P : rfP := (flX12,csX12,lcX12,spX12,[q682_M,q688_M,q689_M,q692_M,q681_M],[],[(219,3,12),(223,0,12),(223,2,12),(227,4,12),(230,1,12)],([],[]))
def q700_U : rfU := []
set_option maxHeartbeats 8000000 in
def q700_N : List rfB := [(0,([(0,.inr (.inl [114])),(1,.inl ((0,0,0),none)),(2,.inl ((2,2,0),none))],[],[((114,4),(0,0,1),some ((114,4),0,0)),((114,7),(0,1600,1),some ((114,7),0,0)),((114,8),(1,5,1),some ((114,8),0,0))]),(75,[]),0),
  (44,([(0,.inr (.inl [114])),(1,.inl ((0,0,0),none)),(2,.inl ((2,2,0),none))],[],[((114,4),(0,0,1),some ((114,4),0,0)),((114,7),(0,1600,1),some ((114,7),0,0)),((114,8),(4,4,1),some ((114,8),0,0))]),(15,[]),0)]
set_option maxRecDepth 100000 in
theorem q700_ok : rf_chkB q700_P q700_U wLay q700_M ddX12_numeral [(1,[0]),(18,[1]),(22,[0,2]),(50,[3]),(59,[0,2]),(66,[4]),(70,[0,2])] [] [0,44] 600 q700_N = true := by decide +kernel
set_option maxHeartbeats 4000000 in
theorem q700_met {G : rfG} (h : okG G) (hh : w1OK G) : rf_met G q700_M := rf_methodB h.1 (P := q700_P) (U := q700_U) (N := q700_N) ⟨wflT h flokX12, wcsT h csokX12, wlcT h lcokX12, spokX12 h, List.forall_mem_cons.mpr ⟨q682_met h, List.forall_mem_cons.mpr ⟨q688_met h, List.forall_mem_cons.mpr ⟨q689_met h, List.forall_mem_cons.mpr ⟨q692_met h, List.forall_mem_cons.mpr ⟨q681_met h hh, fun _ h => absurd h List.not_mem_nil⟩⟩⟩⟩⟩, fun _ h => absurd h List.not_mem_nil, List.forall_mem_cons.mpr ⟨fun M hM => Option.some.inj (show some q692_M = some M from hM) ▸ wlkV (lkX12_219 h) q692_M rfl rfl, List.forall_mem_cons.mpr ⟨fun M hM => Option.some.inj (show some q682_M = some M from hM) ▸ wlkV (lkX12_223 h) q682_M rfl rfl, List.forall_mem_cons.mpr ⟨fun M hM => Option.some.inj (show some q689_M = some M from hM) ▸ wlkV (lkX12_223 h) q689_M rfl rfl, List.forall_mem_cons.mpr ⟨fun M hM => Option.some.inj (show some q681_M = some M from hM) ▸ wlkV (lkX12_227 h) q681_M rfl rfl, List.forall_mem_cons.mpr ⟨fun M hM => Option.some.inj (show some q688_M = some M from hM) ▸ wlkV (lkX12_230 h) q688_M rfl rfl, fun _ h => absurd h List.not_mem_nil⟩⟩⟩⟩⟩, fun _ h => absurd h List.not_mem_nil, fun _ h => absurd h List.not_mem_nil⟩ dkX12_numeral (by decide +kernel) (by rw [h.2.2.1]; exact q700_ok)
/-- NearSpellModel.once -/
def q701_M : rfM := ((⟨"NearSpellModel", "once", "(III)I"⟩, prog_14_method_18_code, 4, (some .int)), (6,345), ([.inr (.inl [114]),.inl ((2,2,0),none),.inl ((0,0,0),none),.inl ((2,2,0),none)],[((114,4),(0,0,1),none),((114,7),(0,1600,1),none),((114,8),(1,5,1),none),((114,29),(1,1,0),none)]), [(80,0),(114,5),(114,6),(114,7),(114,8),(114,9),(114,10),(114,11),(998,2)], [(some (.inl ((0,2,1),none)),[],[((114,4),(0,0,1),some ((114,4),0,0)),((114,7),(0,1600,1),none),((114,8),(0,0,0),none),((998,1),(1,1,0),none)]),(some (.inl ((0,2,1),none)),[],[((114,4),(0,0,1),some ((114,4),0,0)),((114,7),(1,1600,1),some ((114,7),1,4294967296)),((114,8),(1,4,1),none),((998,1),(1,1,0),none)]),(some (.inl ((0,0,0),none)),[],[((114,4),(1,2,1),none),((114,5),(0,1600,1),none),((114,7),(0,1600,1),some ((114,7),0,0)),((114,8),(1,5,1),some ((114,8),0,0))]),(some (.inl ((0,0,0),none)),[],[((114,4),(4,4,0),none),((114,5),(0,1600,1),none),((114,7),(0,1600,1),some ((114,7),0,0)),((114,8),(4,4,1),some ((114,8),0,0))]),(some (.inl ((0,2,1),none)),[],[((114,4),(0,0,1),some ((114,4),0,0)),((114,7),(1,1600,1),some ((114,7),1,4294967296)),((114,8),(5,5,0),none),((998,1),(1,1,0),none)])])
def q701_P : rfP := (flX12,csX12,lcX12,spX12,[q700_M],[],[(255,0,12)],([],[]))
def q701_U : rfU := []
set_option maxHeartbeats 8000000 in
def q701_N : List rfB := [(0,([(0,.inr (.inl [114])),(1,.inl ((2,2,0),none)),(2,.inl ((0,0,0),none)),(3,.inl ((2,2,0),none))],[],[((114,4),(0,0,1),some ((114,4),0,0)),((114,7),(0,1600,1),some ((114,7),0,0)),((114,8),(1,5,1),some ((114,8),0,0)),((114,29),(1,1,0),some ((114,29),0,0))]),(19,[]),0)]
set_option maxRecDepth 100000 in
theorem q701_ok : rf_chkB q701_P q701_U wLay q701_M ddX12_once [(18,[0])] [] [0] 600 q701_N = true := by decide +kernel
set_option maxHeartbeats 4000000 in
theorem q701_met {G : rfG} (h : okG G) (hh : w1OK G) : rf_met G q701_M := rf_methodB h.1 (P := q701_P) (U := q701_U) (N := q701_N) ⟨wflT h flokX12, wcsT h csokX12, wlcT h lcokX12, spokX12 h, List.forall_mem_cons.mpr ⟨q700_met h hh, fun _ h => absurd h List.not_mem_nil⟩, fun _ h => absurd h List.not_mem_nil, List.forall_mem_cons.mpr ⟨fun M hM => Option.some.inj (show some q700_M = some M from hM) ▸ wlkV (lkX12_255 h) q700_M rfl rfl, fun _ h => absurd h List.not_mem_nil⟩, fun _ h => absurd h List.not_mem_nil, fun _ h => absurd h List.not_mem_nil⟩ dkX12_once (by decide +kernel) (by rw [h.2.2.1]; exact q701_ok)
/-- NearSpellModel.numeral -/
def q702_M : rfM := ((⟨"NearSpellModel", "numeral", "(II)I"⟩, prog_14_method_14_code, 4, (some .int)), (2,42), ([.inr (.inl [114]),.inl ((0,0,0),none),.inl ((2,2,0),none)],[((114,4),(0,0,1),none),((114,7),(0,1600,1),none),((114,8),(0,0,1),none)]), [(114,5),(114,6)], [(some (.inl ((0,0,0),none)),[],[((114,4),(2,2,0),none),((114,5),(0,1600,1),none)])])
def q702_P : rfP := (flX12,csX12,lcX12,spX12,[q682_M,q695_M,q689_M],[],[(223,0,12),(223,2,12),(230,1,12)],([],[]))
def q702_U : rfU := []
set_option maxHeartbeats 8000000 in
def q702_N : List rfB := [(0,([(0,.inr (.inl [114])),(1,.inl ((0,0,0),none)),(2,.inl ((2,2,0),none))],[],[((114,4),(0,0,1),some ((114,4),0,0)),((114,7),(0,1600,1),some ((114,7),0,0)),((114,8),(0,0,1),some ((114,8),0,0))]),(22,[]),0)]
set_option maxRecDepth 100000 in
theorem q702_ok : rf_chkB q702_P q702_U wLay q702_M ddX12_numeral [(1,[0]),(18,[1]),(22,[2]),(59,[2]),(70,[2])] [] [0] 600 q702_N = true := by decide +kernel
set_option maxHeartbeats 4000000 in
theorem q702_met {G : rfG} (h : okG G) : rf_met G q702_M := rf_methodB h.1 (P := q702_P) (U := q702_U) (N := q702_N) ⟨wflT h flokX12, wcsT h csokX12, wlcT h lcokX12, spokX12 h, List.forall_mem_cons.mpr ⟨q682_met h, List.forall_mem_cons.mpr ⟨q695_met h, List.forall_mem_cons.mpr ⟨q689_met h, fun _ h => absurd h List.not_mem_nil⟩⟩⟩, fun _ h => absurd h List.not_mem_nil, List.forall_mem_cons.mpr ⟨fun M hM => Option.some.inj (show some q682_M = some M from hM) ▸ wlkV (lkX12_223 h) q682_M rfl rfl, List.forall_mem_cons.mpr ⟨fun M hM => Option.some.inj (show some q689_M = some M from hM) ▸ wlkV (lkX12_223 h) q689_M rfl rfl, List.forall_mem_cons.mpr ⟨fun M hM => Option.some.inj (show some q695_M = some M from hM) ▸ wlkV (lkX12_230 h) q695_M rfl rfl, fun _ h => absurd h List.not_mem_nil⟩⟩⟩, fun _ h => absurd h List.not_mem_nil, fun _ h => absurd h List.not_mem_nil⟩ dkX12_numeral (by decide +kernel) (by rw [h.2.2.1]; exact q702_ok)
/-- NearSpellModel.once -/
def q703_M : rfM := ((⟨"NearSpellModel", "once", "(III)I"⟩, prog_14_method_18_code, 4, (some .int)), (3,65), ([.inr (.inl [114]),.inl ((2,2,0),none),.inl ((0,0,0),none),.inl ((2,2,0),none)],[((114,4),(0,0,1),none),((114,7),(0,1600,1),none),((114,8),(0,0,1),none),((114,29),(1,1,0),none)]), [(80,0),(114,5),(114,6)], [(some (.inl ((0,0,0),none)),[],[((114,4),(2,2,0),none),((114,5),(0,1600,1),none)])])
def q703_P : rfP := (flX12,csX12,lcX12,spX12,[q702_M],[],[(255,0,12)],([],[]))
def q703_U : rfU := []
set_option maxHeartbeats 8000000 in
def q703_N : List rfB := [(0,([(0,.inr (.inl [114])),(1,.inl ((2,2,0),none)),(2,.inl ((0,0,0),none)),(3,.inl ((2,2,0),none))],[],[((114,4),(0,0,1),some ((114,4),0,0)),((114,7),(0,1600,1),some ((114,7),0,0)),((114,8),(0,0,1),some ((114,8),0,0)),((114,29),(1,1,0),some ((114,29),0,0))]),(15,[]),0)]
set_option maxRecDepth 100000 in
theorem q703_ok : rf_chkB q703_P q703_U wLay q703_M ddX12_once [(18,[0])] [] [0] 600 q703_N = true := by decide +kernel
set_option maxHeartbeats 4000000 in
theorem q703_met {G : rfG} (h : okG G) : rf_met G q703_M := rf_methodB h.1 (P := q703_P) (U := q703_U) (N := q703_N) ⟨wflT h flokX12, wcsT h csokX12, wlcT h lcokX12, spokX12 h, List.forall_mem_cons.mpr ⟨q702_met h, fun _ h => absurd h List.not_mem_nil⟩, fun _ h => absurd h List.not_mem_nil, List.forall_mem_cons.mpr ⟨fun M hM => Option.some.inj (show some q702_M = some M from hM) ▸ wlkV (lkX12_255 h) q702_M rfl rfl, fun _ h => absurd h List.not_mem_nil⟩, fun _ h => absurd h List.not_mem_nil, fun _ h => absurd h List.not_mem_nil⟩ dkX12_once (by decide +kernel) (by rw [h.2.2.1]; exact q703_ok)
