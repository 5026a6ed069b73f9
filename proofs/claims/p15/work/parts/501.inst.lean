/-- NearSpell.Reader.readEither -/
def q50_M : rfM := ((⟨"NearSpell$Reader", "readEither", "(I)V"⟩, prog_8_method_9_code, 3, none), (12,263), ([.inr (.inl [11]),.inl ((7,7,0),none)],[]), [(8,0),(10,11),(10,12),(11,4),(11,5),(11,6),(11,7),(11,9),(11,10)], [(none,[],[])])
def ddX6_readEither : List (Nat × Instr × Nat) := [(0,.aload_n 0,1),(1,.iload_n 1,1),(2,.invokevirtual 106,3),(5,.iconst 0,1),(6,.istore_n 2,1),(7,.iload_n 2,1),(8,.sipush 1600,3),(11,.if_icmp .ge 36,3),(14,.aload_n 0,1),(15,.getfield 49,3),(18,.bipush 7,2),(20,.if_icmp .ne 27,3),(23,.aload_n 0,1),(24,.invokevirtual 46,3),(27,.aload_n 0,1),(28,.iload_n 1,1),(29,.invokevirtual 106,3),(32,.aload_n 0,1),(33,.getfield 15,3),(36,.bipush (-7),2),(38,.invokevirtual 109,3),(41,.iinc 2 1,3),(44,.goto (-37),3),(47,.return_,1)]
set_option maxRecDepth 100000 in
theorem dkX6_readEither : rf_decs prog_8_method_9_code ddX6_readEither := rf_decs_of (by decide +kernel)
def q50_P : rfP := (flX6,csX6,lcX6,spX6,[q48_M,q29_M,q49_M],[],[(46,1,6),(106,0,6),(109,2,1)],([],[]))
def q50_U : rfU := []
set_option maxHeartbeats 8000000 in
def q50_N : List rfB := [(0,([(0,.inr (.inl [11])),(1,.inl ((7,7,0),none))],[],[]),(30424,[0]),0),
  (7,([(0,.inr (.inl [11])),(1,.inl ((7,7,0),none)),(2,.inl ((0,1600,1),none))],[],[]),(30417,[(-19)]),0),
  (47,([(0,.inr (.inl [11])),(1,.inl ((7,7,0),none)),(2,.inl ((0,1600,1),none))],[],[]),(0,[0]),0)]
set_option maxRecDepth 100000 in
theorem q50_ok : rf_chkB q50_P q50_U wLay q50_M ddX6_readEither [(2,[0]),(24,[1]),(29,[0]),(38,[2])] [.inl 2] [0,7,47] 600 q50_N = true := by decide +kernel
set_option maxHeartbeats 4000000 in
theorem q50_met {G : rfG} (h : okG G) : rf_met G q50_M := rf_methodB h.1 (P := q50_P) (U := q50_U) (N := q50_N) ⟨wflT h flokX6, wcsT h csokX6, wlcT h lcokX6, spokX6 h, List.forall_mem_cons.mpr ⟨q48_met h, List.forall_mem_cons.mpr ⟨q29_met h, List.forall_mem_cons.mpr ⟨q49_met h, fun _ h => absurd h List.not_mem_nil⟩⟩⟩, fun _ h => absurd h List.not_mem_nil, List.forall_mem_cons.mpr ⟨fun M hM => Option.some.inj (show some q29_M = some M from hM) ▸ wlkV (lkX6_46 h) q29_M rfl rfl, List.forall_mem_cons.mpr ⟨fun M hM => Option.some.inj (show some q48_M = some M from hM) ▸ wlkV (lkX6_106 h) q48_M rfl rfl, List.forall_mem_cons.mpr ⟨fun M hM => Option.some.inj (show some q49_M = some M from hM) ▸ wlkV (lkX6_109 h) q49_M rfl rfl, fun _ h => absurd h List.not_mem_nil⟩⟩⟩, fun _ h => absurd h List.not_mem_nil, fun _ h => absurd h List.not_mem_nil⟩ dkX6_readEither (by decide +kernel) (by rw [h.2.2.1]; exact q50_ok)
/-- NearSpell.Reader.expect -/
def q51_M : rfM := ((⟨"NearSpell$Reader", "expect", "(I)V"⟩, prog_8_method_8_code, 2, none), (7,150), ([.inr (.inl [11]),.inl ((41,41,0),none)],[]), [(11,4),(11,5),(11,6),(11,7),(11,9),(11,10)], [(none,[],[])])
def ddX6_expect : List (Nat × Instr × Nat) := [(0,.aload_n 0,1),(1,.getfield 49,3),(4,.iload_n 1,1),(5,.if_icmp .ne 10,3),(8,.aload_n 0,1),(9,.invokevirtual 46,3),(12,.goto 8,3),(15,.aload_n 0,1),(16,.iconst 2,1),(17,.invokevirtual 62,3),(20,.return_,1)]
set_option maxRecDepth 100000 in
theorem dkX6_expect : rf_decs prog_8_method_8_code ddX6_expect := rf_decs_of (by decide +kernel)
def q51_P : rfP := (flX6,csX6,lcX6,spX6,[q29_M,q31_M],[],[(46,0,6),(62,1,6)],([],[]))
def q51_U : rfU := []
set_option maxHeartbeats 8000000 in
def q51_N : List rfB := [(0,([(0,.inr (.inl [11])),(1,.inl ((41,41,0),none))],[],[]),(10,[]),0),
  (20,([(0,.inr (.inl [11])),(1,.inl ((41,41,0),none))],[],[]),(0,[]),0)]
set_option maxRecDepth 100000 in
theorem q51_ok : rf_chkB q51_P q51_U wLay q51_M ddX6_expect [(9,[0]),(17,[1])] [] [0,20] 600 q51_N = true := by decide +kernel
set_option maxHeartbeats 4000000 in
theorem q51_met {G : rfG} (h : okG G) : rf_met G q51_M := rf_methodB h.1 (P := q51_P) (U := q51_U) (N := q51_N) ⟨wflT h flokX6, wcsT h csokX6, wlcT h lcokX6, spokX6 h, List.forall_mem_cons.mpr ⟨q29_met h, List.forall_mem_cons.mpr ⟨q31_met h, fun _ h => absurd h List.not_mem_nil⟩⟩, fun _ h => absurd h List.not_mem_nil, List.forall_mem_cons.mpr ⟨fun M hM => Option.some.inj (show some q29_M = some M from hM) ▸ wlkV (lkX6_46 h) q29_M rfl rfl, List.forall_mem_cons.mpr ⟨fun M hM => Option.some.inj (show some q31_M = some M from hM) ▸ wlkV (lkX6_62 h) q31_M rfl rfl, fun _ h => absurd h List.not_mem_nil⟩⟩, fun _ h => absurd h List.not_mem_nil, fun _ h => absurd h List.not_mem_nil⟩ dkX6_expect (by decide +kernel) (by rw [h.2.2.1]; exact q51_ok)
/-- NearSpell.Reader.readUnit -/
def q52_M : rfM := ((⟨"NearSpell$Reader", "readUnit", "(I)V"⟩, prog_8_method_14_code, 4, none), (13,285), ([.inr (.inl [11]),.inl ((6,6,0),none)],[]), [(8,0),(10,11),(10,12),(11,4),(11,5),(11,6),(11,7),(11,9),(11,10)], [(none,[],[])])
def q52_P : rfP := (flX6,csX6,lcX6,spX6,[q31_M,q40_M,q29_M,q50_M,q51_M],[],[(46,2,6),(62,0,6),(78,3,6),(90,4,6),(109,1,1)],([],[]))
def q52_U : rfU := []
set_option maxHeartbeats 8000000 in
def q52_N : List rfB := [(0,([(0,.inr (.inl [11])),(1,.inl ((6,6,0),none))],[],[]),(81,[]),0),
  (15,([(0,.inr (.inl [11])),(1,.inl ((6,6,0),none)),(2,.inl ((0,1,1),none))],[],[]),(72,[]),0),
  (37,([(0,.inr (.inl [11])),(1,.inl ((6,6,0),none)),(2,.inl ((0,1,1),none))],[],[]),(61,[]),0),
  (39,([(0,.inr (.inl [11])),(1,.inl ((6,6,0),none)),(2,.inl ((0,1,1),none)),(3,.inl ((0,1,1),none))],[],[]),(59,[]),0),
  (62,([(0,.inr (.inl [11])),(1,.inl ((6,6,0),none)),(2,.inl ((0,1,1),none)),(3,.inl ((0,1,1),none))],[],[]),(47,[]),0),
  (90,([(0,.inr (.inl [11])),(1,.inl ((6,6,0),none)),(2,.inl ((0,1,1),none)),(3,.inl ((0,1,1),none))],[],[((10,10),(0,29,1),none)]),(37,[]),0),
  (127,([(0,.inr (.inl [11])),(1,.inl ((6,6,0),none)),(2,.inl ((0,0,1),none)),(3,.inl ((0,1,1),none))],[.inl (((-2147483648),2147483647,1),none),.inr (.inl [10])],[((10,10),(1,30,1),none)]),(18,[]),0)]
set_option maxRecDepth 100000 in
theorem q52_ok : rf_chkB q52_P q52_U wLay q52_M ddX6_readUnit [(58,[0]),(86,[0]),(127,[1]),(131,[2]),(136,[2]),(143,[3]),(149,[4])] [] [0,15,37,39,62,90,127] 600 q52_N = true := by decide +kernel
set_option maxHeartbeats 4000000 in
theorem q52_met {G : rfG} (h : okG G) : rf_met G q52_M := rf_methodB h.1 (P := q52_P) (U := q52_U) (N := q52_N) ⟨wflT h flokX6, wcsT h csokX6, wlcT h lcokX6, spokX6 h, List.forall_mem_cons.mpr ⟨q31_met h, List.forall_mem_cons.mpr ⟨q40_met h, List.forall_mem_cons.mpr ⟨q29_met h, List.forall_mem_cons.mpr ⟨q50_met h, List.forall_mem_cons.mpr ⟨q51_met h, fun _ h => absurd h List.not_mem_nil⟩⟩⟩⟩⟩, fun _ h => absurd h List.not_mem_nil, List.forall_mem_cons.mpr ⟨fun M hM => Option.some.inj (show some q29_M = some M from hM) ▸ wlkV (lkX6_46 h) q29_M rfl rfl, List.forall_mem_cons.mpr ⟨fun M hM => Option.some.inj (show some q31_M = some M from hM) ▸ wlkV (lkX6_62 h) q31_M rfl rfl, List.forall_mem_cons.mpr ⟨fun M hM => Option.some.inj (show some q50_M = some M from hM) ▸ wlkV (lkX6_78 h) q50_M rfl rfl, List.forall_mem_cons.mpr ⟨fun M hM => Option.some.inj (show some q51_M = some M from hM) ▸ wlkV (lkX6_90 h) q51_M rfl rfl, List.forall_mem_cons.mpr ⟨fun M hM => Option.some.inj (show some q40_M = some M from hM) ▸ wlkV (lkX6_109 h) q40_M rfl rfl, fun _ h => absurd h List.not_mem_nil⟩⟩⟩⟩⟩, fun _ h => absurd h List.not_mem_nil, fun _ h => absurd h List.not_mem_nil⟩ dkX6_readUnit (by decide +kernel) (by rw [h.2.2.1]; exact q52_ok)
/-- NearSpell.Reader.readTerm -/
def q53_M : rfM := ((⟨"NearSpell$Reader", "readTerm", "(I)V"⟩, prog_8_method_13_code, 4, none), (14,308), ([.inr (.inl [11]),.inl ((6,6,0),none)],[]), [(8,0),(10,11),(10,12),(11,4),(11,5),(11,6),(11,7),(11,9),(11,10)], [(none,[],[])])
def q53_P : rfP := (flX6,csX6,lcX6,spX6,[q52_M,q29_M,q42_M],[],[(46,1,6),(109,2,1),(121,0,6)],([],[]))
def q53_U : rfU := []
set_option maxHeartbeats 8000000 in
def q53_N : List rfB := [(0,([(0,.inr (.inl [11])),(1,.inl ((6,6,0),none))],[],[]),(49636,[0]),0),
  (7,([(0,.inr (.inl [11])),(1,.inl ((6,6,0),none)),(2,.inl ((0,1600,1),none))],[],[]),(49629,[(-31)]),0),
  (41,([(0,.inr (.inl [11])),(1,.inl ((6,6,0),none)),(2,.inl ((0,1599,1),none))],[],[((11,5),(37,47,1),none)]),(49614,[(-31)]),0),
  (70,([(0,.inr (.inl [11])),(1,.inl ((6,6,0),none)),(2,.inl ((0,1600,1),none))],[],[]),(0,[0]),0)]
set_option maxRecDepth 100000 in
theorem q53_ok : rf_chkB q53_P q53_U wLay q53_M ddX6_readTerm [(2,[0]),(47,[1]),(52,[0]),(61,[2])] [.inl 2] [0,7,41,70] 600 q53_N = true := by decide +kernel
set_option maxHeartbeats 4000000 in
theorem q53_met {G : rfG} (h : okG G) : rf_met G q53_M := rf_methodB h.1 (P := q53_P) (U := q53_U) (N := q53_N) ⟨wflT h flokX6, wcsT h csokX6, wlcT h lcokX6, spokX6 h, List.forall_mem_cons.mpr ⟨q52_met h, List.forall_mem_cons.mpr ⟨q29_met h, List.forall_mem_cons.mpr ⟨q42_met h, fun _ h => absurd h List.not_mem_nil⟩⟩⟩, fun _ h => absurd h List.not_mem_nil, List.forall_mem_cons.mpr ⟨fun M hM => Option.some.inj (show some q29_M = some M from hM) ▸ wlkV (lkX6_46 h) q29_M rfl rfl, List.forall_mem_cons.mpr ⟨fun M hM => Option.some.inj (show some q42_M = some M from hM) ▸ wlkV (lkX6_109 h) q42_M rfl rfl, List.forall_mem_cons.mpr ⟨fun M hM => Option.some.inj (show some q52_M = some M from hM) ▸ wlkV (lkX6_121 h) q52_M rfl rfl, fun _ h => absurd h List.not_mem_nil⟩⟩⟩, fun _ h => absurd h List.not_mem_nil, fun _ h => absurd h List.not_mem_nil⟩ dkX6_readTerm (by decide +kernel) (by rw [h.2.2.1]; exact q53_ok)
/-- NearSpell.Reader.readSum -/
def q54_M : rfM := ((⟨"NearSpell$Reader", "readSum", "(I)V"⟩, prog_8_method_12_code, 4, none), (15,331), ([.inr (.inl [11]),.inl ((6,6,0),none)],[]), [(8,0),(10,11),(10,12),(11,4),(11,5),(11,6),(11,7),(11,9),(11,10)], [(none,[],[])])
def q54_P : rfP := (flX6,csX6,lcX6,spX6,[q53_M,q29_M,q42_M],[],[(46,1,6),(109,2,1),(118,0,6)],([],[]))
def q54_U : rfU := []
set_option maxHeartbeats 8000000 in
def q54_N : List rfB := [(0,([(0,.inr (.inl [11])),(1,.inl ((6,6,0),none))],[],[]),(43232,[0]),0),
  (7,([(0,.inr (.inl [11])),(1,.inl ((6,6,0),none)),(2,.inl ((0,1600,1),none))],[],[]),(43225,[(-27)]),0),
  (32,([(0,.inr (.inl [11])),(1,.inl ((6,6,0),none)),(2,.inl ((0,1599,1),none))],[],[((11,5),(43,45,1),none)]),(43214,[(-27)]),0),
  (61,([(0,.inr (.inl [11])),(1,.inl ((6,6,0),none)),(2,.inl ((0,1600,1),none))],[],[]),(0,[0]),0)]
set_option maxRecDepth 100000 in
theorem q54_ok : rf_chkB q54_P q54_U wLay q54_M ddX6_readSum [(2,[0]),(38,[1]),(43,[0]),(52,[2])] [.inl 2] [0,7,32,61] 600 q54_N = true := by decide +kernel
set_option maxHeartbeats 4000000 in
theorem q54_met {G : rfG} (h : okG G) : rf_met G q54_M := rf_methodB h.1 (P := q54_P) (U := q54_U) (N := q54_N) ⟨wflT h flokX6, wcsT h csokX6, wlcT h lcokX6, spokX6 h, List.forall_mem_cons.mpr ⟨q53_met h, List.forall_mem_cons.mpr ⟨q29_met h, List.forall_mem_cons.mpr ⟨q42_met h, fun _ h => absurd h List.not_mem_nil⟩⟩⟩, fun _ h => absurd h List.not_mem_nil, List.forall_mem_cons.mpr ⟨fun M hM => Option.some.inj (show some q29_M = some M from hM) ▸ wlkV (lkX6_46 h) q29_M rfl rfl, List.forall_mem_cons.mpr ⟨fun M hM => Option.some.inj (show some q42_M = some M from hM) ▸ wlkV (lkX6_109 h) q42_M rfl rfl, List.forall_mem_cons.mpr ⟨fun M hM => Option.some.inj (show some q53_M = some M from hM) ▸ wlkV (lkX6_118 h) q53_M rfl rfl, fun _ h => absurd h List.not_mem_nil⟩⟩⟩, fun _ h => absurd h List.not_mem_nil, fun _ h => absurd h List.not_mem_nil⟩ dkX6_readSum (by decide +kernel) (by rw [h.2.2.1]; exact q54_ok)
/-- NearSpell.Reader.readOne -/
def q55_M : rfM := ((⟨"NearSpell$Reader", "readOne", "(I)V"⟩, prog_8_method_11_code, 3, none), (16,354), ([.inr (.inl [11]),.inl ((6,6,0),none)],[]), [(8,0),(10,11),(10,12),(11,4),(11,5),(11,6),(11,7),(11,9),(11,10)], [(none,[],[])])
def q55_P : rfP := (flX6,csX6,lcX6,spX6,[q29_M,q45_M,q46_M,q54_M,q42_M],[],[(46,0,6),(109,2,1),(109,4,1),(112,1,6),(115,3,6)],([],[]))
def q55_U : rfU := []
set_option maxHeartbeats 8000000 in
def q55_N : List rfB := [(0,([(0,.inr (.inl [11])),(1,.inl ((6,6,0),none))],[],[]),(44,[]),0),
  (70,([(0,.inr (.inl [11])),(1,.inl ((6,6,0),none)),(2,.inl ((60,62,1),some (.inr (11,5),some 0)))],[],[((11,5),(60,62,1),none)]),(10,[]),0),
  (88,([(0,.inr (.inl [11])),(1,.inl ((6,6,0),none)),(2,.inl (((-128),127,1),none))],[],[]),(0,[]),0)]
set_option maxRecDepth 100000 in
theorem q55_ok : rf_chkB q55_P q55_U wLay q55_M ddX6_readOne [(22,[0]),(29,[1]),(38,[2]),(44,[3]),(71,[0]),(76,[3]),(85,[4])] [] [0,70,88] 600 q55_N = true := by decide +kernel
set_option maxHeartbeats 4000000 in
theorem q55_met {G : rfG} (h : okG G) : rf_met G q55_M := rf_methodB h.1 (P := q55_P) (U := q55_U) (N := q55_N) ⟨wflT h flokX6, wcsT h csokX6, wlcT h lcokX6, spokX6 h, List.forall_mem_cons.mpr ⟨q29_met h, List.forall_mem_cons.mpr ⟨q45_met h, List.forall_mem_cons.mpr ⟨q46_met h, List.forall_mem_cons.mpr ⟨q54_met h, List.forall_mem_cons.mpr ⟨q42_met h, fun _ h => absurd h List.not_mem_nil⟩⟩⟩⟩⟩, fun _ h => absurd h List.not_mem_nil, List.forall_mem_cons.mpr ⟨fun M hM => Option.some.inj (show some q29_M = some M from hM) ▸ wlkV (lkX6_46 h) q29_M rfl rfl, List.forall_mem_cons.mpr ⟨fun M hM => Option.some.inj (show some q46_M = some M from hM) ▸ wlkV (lkX6_109 h) q46_M rfl rfl, List.forall_mem_cons.mpr ⟨fun M hM => Option.some.inj (show some q42_M = some M from hM) ▸ wlkV (lkX6_109 h) q42_M rfl rfl, List.forall_mem_cons.mpr ⟨fun M hM => Option.some.inj (show some q45_M = some M from hM) ▸ wlkV (lkX6_112 h) q45_M rfl rfl, List.forall_mem_cons.mpr ⟨fun M hM => Option.some.inj (show some q54_M = some M from hM) ▸ wlkV (lkX6_115 h) q54_M rfl rfl, fun _ h => absurd h List.not_mem_nil⟩⟩⟩⟩⟩, fun _ h => absurd h List.not_mem_nil, fun _ h => absurd h List.not_mem_nil⟩ dkX6_readOne (by decide +kernel) (by rw [h.2.2.1]; exact q55_ok)
/-- NearSpell.Reader.readBoth -/
def q56_M : rfM := ((⟨"NearSpell$Reader", "readBoth", "(I)V"⟩, prog_8_method_10_code, 3, none), (17,376), ([.inr (.inl [11]),.inl ((6,6,0),none)],[]), [(8,0),(10,11),(10,12),(11,4),(11,5),(11,6),(11,7),(11,9),(11,10)], [(none,[],[])])
def q56_P : rfP := (flX6,csX6,lcX6,spX6,[q55_M,q29_M,q47_M],[],[(46,1,6),(109,2,1),(112,0,6)],([],[]))
def q56_U : rfU := []
set_option maxHeartbeats 8000000 in
def q56_N : List rfB := [(0,([(0,.inr (.inl [11])),(1,.inl ((6,6,0),none))],[],[]),(30424,[0]),0),
  (7,([(0,.inr (.inl [11])),(1,.inl ((6,6,0),none)),(2,.inl ((0,1600,1),none))],[],[]),(30417,[(-19)]),0),
  (47,([(0,.inr (.inl [11])),(1,.inl ((6,6,0),none)),(2,.inl ((0,1600,1),none))],[],[]),(0,[0]),0)]
set_option maxRecDepth 100000 in
theorem q56_ok : rf_chkB q56_P q56_U wLay q56_M ddX6_readBoth [(2,[0]),(24,[1]),(29,[0]),(38,[2])] [.inl 2] [0,7,47] 600 q56_N = true := by decide +kernel
set_option maxHeartbeats 4000000 in
theorem q56_met {G : rfG} (h : okG G) : rf_met G q56_M := rf_methodB h.1 (P := q56_P) (U := q56_U) (N := q56_N) ⟨wflT h flokX6, wcsT h csokX6, wlcT h lcokX6, spokX6 h, List.forall_mem_cons.mpr ⟨q55_met h, List.forall_mem_cons.mpr ⟨q29_met h, List.forall_mem_cons.mpr ⟨q47_met h, fun _ h => absurd h List.not_mem_nil⟩⟩⟩, fun _ h => absurd h List.not_mem_nil, List.forall_mem_cons.mpr ⟨fun M hM => Option.some.inj (show some q29_M = some M from hM) ▸ wlkV (lkX6_46 h) q29_M rfl rfl, List.forall_mem_cons.mpr ⟨fun M hM => Option.some.inj (show some q47_M = some M from hM) ▸ wlkV (lkX6_109 h) q47_M rfl rfl, List.forall_mem_cons.mpr ⟨fun M hM => Option.some.inj (show some q55_M = some M from hM) ▸ wlkV (lkX6_112 h) q55_M rfl rfl, fun _ h => absurd h List.not_mem_nil⟩⟩⟩, fun _ h => absurd h List.not_mem_nil, fun _ h => absurd h List.not_mem_nil⟩ dkX6_readBoth (by decide +kernel) (by rw [h.2.2.1]; exact q56_ok)
/-- NearSpell.Reader.readEither -/
def q57_M : rfM := ((⟨"NearSpell$Reader", "readEither", "(I)V"⟩, prog_8_method_9_code, 3, none), (18,398), ([.inr (.inl [11]),.inl ((6,6,0),none)],[]), [(8,0),(10,11),(10,12),(11,4),(11,5),(11,6),(11,7),(11,9),(11,10)], [(none,[],[])])
def q57_P : rfP := (flX6,csX6,lcX6,spX6,[q56_M,q29_M,q49_M],[],[(46,1,6),(106,0,6),(109,2,1)],([],[]))
def q57_U : rfU := []
set_option maxHeartbeats 8000000 in
def q57_N : List rfB := [(0,([(0,.inr (.inl [11])),(1,.inl ((6,6,0),none))],[],[]),(30424,[0]),0),
  (7,([(0,.inr (.inl [11])),(1,.inl ((6,6,0),none)),(2,.inl ((0,1600,1),none))],[],[]),(30417,[(-19)]),0),
  (47,([(0,.inr (.inl [11])),(1,.inl ((6,6,0),none)),(2,.inl ((0,1600,1),none))],[],[]),(0,[0]),0)]
set_option maxRecDepth 100000 in
theorem q57_ok : rf_chkB q57_P q57_U wLay q57_M ddX6_readEither [(2,[0]),(24,[1]),(29,[0]),(38,[2])] [.inl 2] [0,7,47] 600 q57_N = true := by decide +kernel
set_option maxHeartbeats 4000000 in
theorem q57_met {G : rfG} (h : okG G) : rf_met G q57_M := rf_methodB h.1 (P := q57_P) (U := q57_U) (N := q57_N) ⟨wflT h flokX6, wcsT h csokX6, wlcT h lcokX6, spokX6 h, List.forall_mem_cons.mpr ⟨q56_met h, List.forall_mem_cons.mpr ⟨q29_met h, List.forall_mem_cons.mpr ⟨q49_met h, fun _ h => absurd h List.not_mem_nil⟩⟩⟩, fun _ h => absurd h List.not_mem_nil, List.forall_mem_cons.mpr ⟨fun M hM => Option.some.inj (show some q29_M = some M from hM) ▸ wlkV (lkX6_46 h) q29_M rfl rfl, List.forall_mem_cons.mpr ⟨fun M hM => Option.some.inj (show some q56_M = some M from hM) ▸ wlkV (lkX6_106 h) q56_M rfl rfl, List.forall_mem_cons.mpr ⟨fun M hM => Option.some.inj (show some q49_M = some M from hM) ▸ wlkV (lkX6_109 h) q49_M rfl rfl, fun _ h => absurd h List.not_mem_nil⟩⟩⟩, fun _ h => absurd h List.not_mem_nil, fun _ h => absurd h List.not_mem_nil⟩ dkX6_readEither (by decide +kernel) (by rw [h.2.2.1]; exact q57_ok)
/-- NearSpell.Reader.readUnit -/
def q58_M : rfM := ((⟨"NearSpell$Reader", "readUnit", "(I)V"⟩, prog_8_method_14_code, 4, none), (19,420), ([.inr (.inl [11]),.inl ((5,5,0),none)],[]), [(8,0),(10,11),(10,12),(11,4),(11,5),(11,6),(11,7),(11,9),(11,10)], [(none,[],[])])
def q58_P : rfP := (flX6,csX6,lcX6,spX6,[q31_M,q40_M,q29_M,q57_M,q51_M],[],[(46,2,6),(62,0,6),(78,3,6),(90,4,6),(109,1,1)],([],[]))
def q58_U : rfU := []
set_option maxHeartbeats 8000000 in
def q58_N : List rfB := [(0,([(0,.inr (.inl [11])),(1,.inl ((5,5,0),none))],[],[]),(81,[]),0),
  (15,([(0,.inr (.inl [11])),(1,.inl ((5,5,0),none)),(2,.inl ((0,1,1),none))],[],[]),(72,[]),0),
  (37,([(0,.inr (.inl [11])),(1,.inl ((5,5,0),none)),(2,.inl ((0,1,1),none))],[],[]),(61,[]),0),
  (39,([(0,.inr (.inl [11])),(1,.inl ((5,5,0),none)),(2,.inl ((0,1,1),none)),(3,.inl ((0,1,1),none))],[],[]),(59,[]),0),
  (62,([(0,.inr (.inl [11])),(1,.inl ((5,5,0),none)),(2,.inl ((0,1,1),none)),(3,.inl ((0,1,1),none))],[],[]),(47,[]),0),
  (90,([(0,.inr (.inl [11])),(1,.inl ((5,5,0),none)),(2,.inl ((0,1,1),none)),(3,.inl ((0,1,1),none))],[],[((10,10),(0,29,1),none)]),(37,[]),0),
  (127,([(0,.inr (.inl [11])),(1,.inl ((5,5,0),none)),(2,.inl ((0,0,1),none)),(3,.inl ((0,1,1),none))],[.inl (((-2147483648),2147483647,1),none),.inr (.inl [10])],[((10,10),(1,30,1),none)]),(18,[]),0)]
set_option maxRecDepth 100000 in
theorem q58_ok : rf_chkB q58_P q58_U wLay q58_M ddX6_readUnit [(58,[0]),(86,[0]),(127,[1]),(131,[2]),(136,[2]),(143,[3]),(149,[4])] [] [0,15,37,39,62,90,127] 600 q58_N = true := by decide +kernel
set_option maxHeartbeats 4000000 in
theorem q58_met {G : rfG} (h : okG G) : rf_met G q58_M := rf_methodB h.1 (P := q58_P) (U := q58_U) (N := q58_N) ⟨wflT h flokX6, wcsT h csokX6, wlcT h lcokX6, spokX6 h, List.forall_mem_cons.mpr ⟨q31_met h, List.forall_mem_cons.mpr ⟨q40_met h, List.forall_mem_cons.mpr ⟨q29_met h, List.forall_mem_cons.mpr ⟨q57_met h, List.forall_mem_cons.mpr ⟨q51_met h, fun _ h => absurd h List.not_mem_nil⟩⟩⟩⟩⟩, fun _ h => absurd h List.not_mem_nil, List.forall_mem_cons.mpr ⟨fun M hM => Option.some.inj (show some q29_M = some M from hM) ▸ wlkV (lkX6_46 h) q29_M rfl rfl, List.forall_mem_cons.mpr ⟨fun M hM => Option.some.inj (show some q31_M = some M from hM) ▸ wlkV (lkX6_62 h) q31_M rfl rfl, List.forall_mem_cons.mpr ⟨fun M hM => Option.some.inj (show some q57_M = some M from hM) ▸ wlkV (lkX6_78 h) q57_M rfl rfl, List.forall_mem_cons.mpr ⟨fun M hM => Option.some.inj (show some q51_M = some M from hM) ▸ wlkV (lkX6_90 h) q51_M rfl rfl, List.forall_mem_cons.mpr ⟨fun M hM => Option.some.inj (show some q40_M = some M from hM) ▸ wlkV (lkX6_109 h) q40_M rfl rfl, fun _ h => absurd h List.not_mem_nil⟩⟩⟩⟩⟩, fun _ h => absurd h List.not_mem_nil, fun _ h => absurd h List.not_mem_nil⟩ dkX6_readUnit (by decide +kernel) (by rw [h.2.2.1]; exact q58_ok)
/-- NearSpell.Reader.readTerm -/
def q59_M : rfM := ((⟨"NearSpell$Reader", "readTerm", "(I)V"⟩, prog_8_method_13_code, 4, none), (20,443), ([.inr (.inl [11]),.inl ((5,5,0),none)],[]), [(8,0),(10,11),(10,12),(11,4),(11,5),(11,6),(11,7),(11,9),(11,10)], [(none,[],[])])
def q59_P : rfP := (flX6,csX6,lcX6,spX6,[q58_M,q29_M,q42_M],[],[(46,1,6),(109,2,1),(121,0,6)],([],[]))
def q59_U : rfU := []
set_option maxHeartbeats 8000000 in
def q59_N : List rfB := [(0,([(0,.inr (.inl [11])),(1,.inl ((5,5,0),none))],[],[]),(49636,[0]),0),
  (7,([(0,.inr (.inl [11])),(1,.inl ((5,5,0),none)),(2,.inl ((0,1600,1),none))],[],[]),(49629,[(-31)]),0),
  (41,([(0,.inr (.inl [11])),(1,.inl ((5,5,0),none)),(2,.inl ((0,1599,1),none))],[],[((11,5),(37,47,1),none)]),(49614,[(-31)]),0),
  (70,([(0,.inr (.inl [11])),(1,.inl ((5,5,0),none)),(2,.inl ((0,1600,1),none))],[],[]),(0,[0]),0)]
set_option maxRecDepth 100000 in
theorem q59_ok : rf_chkB q59_P q59_U wLay q59_M ddX6_readTerm [(2,[0]),(47,[1]),(52,[0]),(61,[2])] [.inl 2] [0,7,41,70] 600 q59_N = true := by decide +kernel
set_option maxHeartbeats 4000000 in
theorem q59_met {G : rfG} (h : okG G) : rf_met G q59_M := rf_methodB h.1 (P := q59_P) (U := q59_U) (N := q59_N) ⟨wflT h flokX6, wcsT h csokX6, wlcT h lcokX6, spokX6 h, List.forall_mem_cons.mpr ⟨q58_met h, List.forall_mem_cons.mpr ⟨q29_met h, List.forall_mem_cons.mpr ⟨q42_met h, fun _ h => absurd h List.not_mem_nil⟩⟩⟩, fun _ h => absurd h List.not_mem_nil, List.forall_mem_cons.mpr ⟨fun M hM => Option.some.inj (show some q29_M = some M from hM) ▸ wlkV (lkX6_46 h) q29_M rfl rfl, List.forall_mem_cons.mpr ⟨fun M hM => Option.some.inj (show some q42_M = some M from hM) ▸ wlkV (lkX6_109 h) q42_M rfl rfl, List.forall_mem_cons.mpr ⟨fun M hM => Option.some.inj (show some q58_M = some M from hM) ▸ wlkV (lkX6_121 h) q58_M rfl rfl, fun _ h => absurd h List.not_mem_nil⟩⟩⟩, fun _ h => absurd h List.not_mem_nil, fun _ h => absurd h List.not_mem_nil⟩ dkX6_readTerm (by decide +kernel) (by rw [h.2.2.1]; exact q59_ok)
/-- NearSpell.Reader.readSum -/
def q60_M : rfM := ((⟨"NearSpell$Reader", "readSum", "(I)V"⟩, prog_8_method_12_code, 4, none), (21,466), ([.inr (.inl [11]),.inl ((5,5,0),none)],[]), [(8,0),(10,11),(10,12),(11,4),(11,5),(11,6),(11,7),(11,9),(11,10)], [(none,[],[])])
def q60_P : rfP := (flX6,csX6,lcX6,spX6,[q59_M,q29_M,q42_M],[],[(46,1,6),(109,2,1),(118,0,6)],([],[]))
def q60_U : rfU := []
set_option maxHeartbeats 8000000 in
def q60_N : List rfB := [(0,([(0,.inr (.inl [11])),(1,.inl ((5,5,0),none))],[],[]),(43232,[0]),0),
  (7,([(0,.inr (.inl [11])),(1,.inl ((5,5,0),none)),(2,.inl ((0,1600,1),none))],[],[]),(43225,[(-27)]),0),
  (32,([(0,.inr (.inl [11])),(1,.inl ((5,5,0),none)),(2,.inl ((0,1599,1),none))],[],[((11,5),(43,45,1),none)]),(43214,[(-27)]),0),
  (61,([(0,.inr (.inl [11])),(1,.inl ((5,5,0),none)),(2,.inl ((0,1600,1),none))],[],[]),(0,[0]),0)]
set_option maxRecDepth 100000 in
theorem q60_ok : rf_chkB q60_P q60_U wLay q60_M ddX6_readSum [(2,[0]),(38,[1]),(43,[0]),(52,[2])] [.inl 2] [0,7,32,61] 600 q60_N = true := by decide +kernel
set_option maxHeartbeats 4000000 in
theorem q60_met {G : rfG} (h : okG G) : rf_met G q60_M := rf_methodB h.1 (P := q60_P) (U := q60_U) (N := q60_N) ⟨wflT h flokX6, wcsT h csokX6, wlcT h lcokX6, spokX6 h, List.forall_mem_cons.mpr ⟨q59_met h, List.forall_mem_cons.mpr ⟨q29_met h, List.forall_mem_cons.mpr ⟨q42_met h, fun _ h => absurd h List.not_mem_nil⟩⟩⟩, fun _ h => absurd h List.not_mem_nil, List.forall_mem_cons.mpr ⟨fun M hM => Option.some.inj (show some q29_M = some M from hM) ▸ wlkV (lkX6_46 h) q29_M rfl rfl, List.forall_mem_cons.mpr ⟨fun M hM => Option.some.inj (show some q42_M = some M from hM) ▸ wlkV (lkX6_109 h) q42_M rfl rfl, List.forall_mem_cons.mpr ⟨fun M hM => Option.some.inj (show some q59_M = some M from hM) ▸ wlkV (lkX6_118 h) q59_M rfl rfl, fun _ h => absurd h List.not_mem_nil⟩⟩⟩, fun _ h => absurd h List.not_mem_nil, fun _ h => absurd h List.not_mem_nil⟩ dkX6_readSum (by decide +kernel) (by rw [h.2.2.1]; exact q60_ok)
/-- NearSpell.Reader.readOne -/
def q61_M : rfM := ((⟨"NearSpell$Reader", "readOne", "(I)V"⟩, prog_8_method_11_code, 3, none), (22,489), ([.inr (.inl [11]),.inl ((5,5,0),none)],[]), [(8,0),(10,11),(10,12),(11,4),(11,5),(11,6),(11,7),(11,9),(11,10)], [(none,[],[])])
def q61_P : rfP := (flX6,csX6,lcX6,spX6,[q29_M,q55_M,q46_M,q60_M,q42_M],[],[(46,0,6),(109,2,1),(109,4,1),(112,1,6),(115,3,6)],([],[]))
def q61_U : rfU := []
set_option maxHeartbeats 8000000 in
def q61_N : List rfB := [(0,([(0,.inr (.inl [11])),(1,.inl ((5,5,0),none))],[],[]),(44,[]),0),
  (70,([(0,.inr (.inl [11])),(1,.inl ((5,5,0),none)),(2,.inl ((60,62,1),some (.inr (11,5),some 0)))],[],[((11,5),(60,62,1),none)]),(10,[]),0),
  (88,([(0,.inr (.inl [11])),(1,.inl ((5,5,0),none)),(2,.inl (((-128),127,1),none))],[],[]),(0,[]),0)]
set_option maxRecDepth 100000 in
theorem q61_ok : rf_chkB q61_P q61_U wLay q61_M ddX6_readOne [(22,[0]),(29,[1]),(38,[2]),(44,[3]),(71,[0]),(76,[3]),(85,[4])] [] [0,70,88] 600 q61_N = true := by decide +kernel
set_option maxHeartbeats 4000000 in
theorem q61_met {G : rfG} (h : okG G) : rf_met G q61_M := rf_methodB h.1 (P := q61_P) (U := q61_U) (N := q61_N) ⟨wflT h flokX6, wcsT h csokX6, wlcT h lcokX6, spokX6 h, List.forall_mem_cons.mpr ⟨q29_met h, List.forall_mem_cons.mpr ⟨q55_met h, List.forall_mem_cons.mpr ⟨q46_met h, List.forall_mem_cons.mpr ⟨q60_met h, List.forall_mem_cons.mpr ⟨q42_met h, fun _ h => absurd h List.not_mem_nil⟩⟩⟩⟩⟩, fun _ h => absurd h List.not_mem_nil, List.forall_mem_cons.mpr ⟨fun M hM => Option.some.inj (show some q29_M = some M from hM) ▸ wlkV (lkX6_46 h) q29_M rfl rfl, List.forall_mem_cons.mpr ⟨fun M hM => Option.some.inj (show some q46_M = some M from hM) ▸ wlkV (lkX6_109 h) q46_M rfl rfl, List.forall_mem_cons.mpr ⟨fun M hM => Option.some.inj (show some q42_M = some M from hM) ▸ wlkV (lkX6_109 h) q42_M rfl rfl, List.forall_mem_cons.mpr ⟨fun M hM => Option.some.inj (show some q55_M = some M from hM) ▸ wlkV (lkX6_112 h) q55_M rfl rfl, List.forall_mem_cons.mpr ⟨fun M hM => Option.some.inj (show some q60_M = some M from hM) ▸ wlkV (lkX6_115 h) q60_M rfl rfl, fun _ h => absurd h List.not_mem_nil⟩⟩⟩⟩⟩, fun _ h => absurd h List.not_mem_nil, fun _ h => absurd h List.not_mem_nil⟩ dkX6_readOne (by decide +kernel) (by rw [h.2.2.1]; exact q61_ok)
/-- NearSpell.Reader.readBoth -/
def q62_M : rfM := ((⟨"NearSpell$Reader", "readBoth", "(I)V"⟩, prog_8_method_10_code, 3, none), (23,511), ([.inr (.inl [11]),.inl ((5,5,0),none)],[]), [(8,0),(10,11),(10,12),(11,4),(11,5),(11,6),(11,7),(11,9),(11,10)], [(none,[],[])])
def q62_P : rfP := (flX6,csX6,lcX6,spX6,[q61_M,q29_M,q47_M],[],[(46,1,6),(109,2,1),(112,0,6)],([],[]))
def q62_U : rfU := []
set_option maxHeartbeats 8000000 in
def q62_N : List rfB := [(0,([(0,.inr (.inl [11])),(1,.inl ((5,5,0),none))],[],[]),(30424,[0]),0),
  (7,([(0,.inr (.inl [11])),(1,.inl ((5,5,0),none)),(2,.inl ((0,1600,1),none))],[],[]),(30417,[(-19)]),0),
  (47,([(0,.inr (.inl [11])),(1,.inl ((5,5,0),none)),(2,.inl ((0,1600,1),none))],[],[]),(0,[0]),0)]
set_option maxRecDepth 100000 in
theorem q62_ok : rf_chkB q62_P q62_U wLay q62_M ddX6_readBoth [(2,[0]),(24,[1]),(29,[0]),(38,[2])] [.inl 2] [0,7,47] 600 q62_N = true := by decide +kernel
set_option maxHeartbeats 4000000 in
theorem q62_met {G : rfG} (h : okG G) : rf_met G q62_M := rf_methodB h.1 (P := q62_P) (U := q62_U) (N := q62_N) ⟨wflT h flokX6, wcsT h csokX6, wlcT h lcokX6, spokX6 h, List.forall_mem_cons.mpr ⟨q61_met h, List.forall_mem_cons.mpr ⟨q29_met h, List.forall_mem_cons.mpr ⟨q47_met h, fun _ h => absurd h List.not_mem_nil⟩⟩⟩, fun _ h => absurd h List.not_mem_nil, List.forall_mem_cons.mpr ⟨fun M hM => Option.some.inj (show some q29_M = some M from hM) ▸ wlkV (lkX6_46 h) q29_M rfl rfl, List.forall_mem_cons.mpr ⟨fun M hM => Option.some.inj (show some q47_M = some M from hM) ▸ wlkV (lkX6_109 h) q47_M rfl rfl, List.forall_mem_cons.mpr ⟨fun M hM => Option.some.inj (show some q61_M = some M from hM) ▸ wlkV (lkX6_112 h) q61_M rfl rfl, fun _ h => absurd h List.not_mem_nil⟩⟩⟩, fun _ h => absurd h List.not_mem_nil, fun _ h => absurd h List.not_mem_nil⟩ dkX6_readBoth (by decide +kernel) (by rw [h.2.2.1]; exact q62_ok)
/-- NearSpell.Reader.readEither -/
def q63_M : rfM := ((⟨"NearSpell$Reader", "readEither", "(I)V"⟩, prog_8_method_9_code, 3, none), (24,533), ([.inr (.inl [11]),.inl ((5,5,0),none)],[]), [(8,0),(10,11),(10,12),(11,4),(11,5),(11,6),(11,7),(11,9),(11,10)], [(none,[],[])])
def q63_P : rfP := (flX6,csX6,lcX6,spX6,[q62_M,q29_M,q49_M],[],[(46,1,6),(106,0,6),(109,2,1)],([],[]))
def q63_U : rfU := []
set_option maxHeartbeats 8000000 in
def q63_N : List rfB := [(0,([(0,.inr (.inl [11])),(1,.inl ((5,5,0),none))],[],[]),(30424,[0]),0),
  (7,([(0,.inr (.inl [11])),(1,.inl ((5,5,0),none)),(2,.inl ((0,1600,1),none))],[],[]),(30417,[(-19)]),0),
  (47,([(0,.inr (.inl [11])),(1,.inl ((5,5,0),none)),(2,.inl ((0,1600,1),none))],[],[]),(0,[0]),0)]
set_option maxRecDepth 100000 in
theorem q63_ok : rf_chkB q63_P q63_U wLay q63_M ddX6_readEither [(2,[0]),(24,[1]),(29,[0]),(38,[2])] [.inl 2] [0,7,47] 600 q63_N = true := by decide +kernel
set_option maxHeartbeats 4000000 in
theorem q63_met {G : rfG} (h : okG G) : rf_met G q63_M := rf_methodB h.1 (P := q63_P) (U := q63_U) (N := q63_N) ⟨wflT h flokX6, wcsT h csokX6, wlcT h lcokX6, spokX6 h, List.forall_mem_cons.mpr ⟨q62_met h, List.forall_mem_cons.mpr ⟨q29_met h, List.forall_mem_cons.mpr ⟨q49_met h, fun _ h => absurd h List.not_mem_nil⟩⟩⟩, fun _ h => absurd h List.not_mem_nil, List.forall_mem_cons.mpr ⟨fun M hM => Option.some.inj (show some q29_M = some M from hM) ▸ wlkV (lkX6_46 h) q29_M rfl rfl, List.forall_mem_cons.mpr ⟨fun M hM => Option.some.inj (show some q62_M = some M from hM) ▸ wlkV (lkX6_106 h) q62_M rfl rfl, List.forall_mem_cons.mpr ⟨fun M hM => Option.some.inj (show some q49_M = some M from hM) ▸ wlkV (lkX6_109 h) q49_M rfl rfl, fun _ h => absurd h List.not_mem_nil⟩⟩⟩, fun _ h => absurd h List.not_mem_nil, fun _ h => absurd h List.not_mem_nil⟩ dkX6_readEither (by decide +kernel) (by rw [h.2.2.1]; exact q63_ok)
/-- NearSpell.Reader.readUnit -/
def q64_M : rfM := ((⟨"NearSpell$Reader", "readUnit", "(I)V"⟩, prog_8_method_14_code, 4, none), (25,555), ([.inr (.inl [11]),.inl ((4,4,0),none)],[]), [(8,0),(10,11),(10,12),(11,4),(11,5),(11,6),(11,7),(11,9),(11,10)], [(none,[],[])])
def q64_P : rfP := (flX6,csX6,lcX6,spX6,[q31_M,q40_M,q29_M,q63_M,q51_M],[],[(46,2,6),(62,0,6),(78,3,6),(90,4,6),(109,1,1)],([],[]))
def q64_U : rfU := []
set_option maxHeartbeats 8000000 in
def q64_N : List rfB := [(0,([(0,.inr (.inl [11])),(1,.inl ((4,4,0),none))],[],[]),(81,[]),0),
  (15,([(0,.inr (.inl [11])),(1,.inl ((4,4,0),none)),(2,.inl ((0,1,1),none))],[],[]),(72,[]),0),
  (37,([(0,.inr (.inl [11])),(1,.inl ((4,4,0),none)),(2,.inl ((0,1,1),none))],[],[]),(61,[]),0),
  (39,([(0,.inr (.inl [11])),(1,.inl ((4,4,0),none)),(2,.inl ((0,1,1),none)),(3,.inl ((0,1,1),none))],[],[]),(59,[]),0),
  (62,([(0,.inr (.inl [11])),(1,.inl ((4,4,0),none)),(2,.inl ((0,1,1),none)),(3,.inl ((0,1,1),none))],[],[]),(47,[]),0),
  (90,([(0,.inr (.inl [11])),(1,.inl ((4,4,0),none)),(2,.inl ((0,1,1),none)),(3,.inl ((0,1,1),none))],[],[((10,10),(0,29,1),none)]),(37,[]),0),
  (127,([(0,.inr (.inl [11])),(1,.inl ((4,4,0),none)),(2,.inl ((0,0,1),none)),(3,.inl ((0,1,1),none))],[.inl (((-2147483648),2147483647,1),none),.inr (.inl [10])],[((10,10),(1,30,1),none)]),(18,[]),0)]
set_option maxRecDepth 100000 in
theorem q64_ok : rf_chkB q64_P q64_U wLay q64_M ddX6_readUnit [(58,[0]),(86,[0]),(127,[1]),(131,[2]),(136,[2]),(143,[3]),(149,[4])] [] [0,15,37,39,62,90,127] 600 q64_N = true := by decide +kernel
set_option maxHeartbeats 4000000 in
theorem q64_met {G : rfG} (h : okG G) : rf_met G q64_M := rf_methodB h.1 (P := q64_P) (U := q64_U) (N := q64_N) ⟨wflT h flokX6, wcsT h csokX6, wlcT h lcokX6, spokX6 h, List.forall_mem_cons.mpr ⟨q31_met h, List.forall_mem_cons.mpr ⟨q40_met h, List.forall_mem_cons.mpr ⟨q29_met h, List.forall_mem_cons.mpr ⟨q63_met h, List.forall_mem_cons.mpr ⟨q51_met h, fun _ h => absurd h List.not_mem_nil⟩⟩⟩⟩⟩, fun _ h => absurd h List.not_mem_nil, List.forall_mem_cons.mpr ⟨fun M hM => Option.some.inj (show some q29_M = some M from hM) ▸ wlkV (lkX6_46 h) q29_M rfl rfl, List.forall_mem_cons.mpr ⟨fun M hM => Option.some.inj (show some q31_M = some M from hM) ▸ wlkV (lkX6_62 h) q31_M rfl rfl, List.forall_mem_cons.mpr ⟨fun M hM => Option.some.inj (show some q63_M = some M from hM) ▸ wlkV (lkX6_78 h) q63_M rfl rfl, List.forall_mem_cons.mpr ⟨fun M hM => Option.some.inj (show some q51_M = some M from hM) ▸ wlkV (lkX6_90 h) q51_M rfl rfl, List.forall_mem_cons.mpr ⟨fun M hM => Option.some.inj (show some q40_M = some M from hM) ▸ wlkV (lkX6_109 h) q40_M rfl rfl, fun _ h => absurd h List.not_mem_nil⟩⟩⟩⟩⟩, fun _ h => absurd h List.not_mem_nil, fun _ h => absurd h List.not_mem_nil⟩ dkX6_readUnit (by decide +kernel) (by rw [h.2.2.1]; exact q64_ok)
/-- NearSpell.Reader.readTerm -/
def q65_M : rfM := ((⟨"NearSpell$Reader", "readTerm", "(I)V"⟩, prog_8_method_13_code, 4, none), (26,578), ([.inr (.inl [11]),.inl ((4,4,0),none)],[]), [(8,0),(10,11),(10,12),(11,4),(11,5),(11,6),(11,7),(11,9),(11,10)], [(none,[],[])])
def q65_P : rfP := (flX6,csX6,lcX6,spX6,[q64_M,q29_M,q42_M],[],[(46,1,6),(109,2,1),(121,0,6)],([],[]))
def q65_U : rfU := []
set_option maxHeartbeats 8000000 in
def q65_N : List rfB := [(0,([(0,.inr (.inl [11])),(1,.inl ((4,4,0),none))],[],[]),(49636,[0]),0),
  (7,([(0,.inr (.inl [11])),(1,.inl ((4,4,0),none)),(2,.inl ((0,1600,1),none))],[],[]),(49629,[(-31)]),0),
  (41,([(0,.inr (.inl [11])),(1,.inl ((4,4,0),none)),(2,.inl ((0,1599,1),none))],[],[((11,5),(37,47,1),none)]),(49614,[(-31)]),0),
  (70,([(0,.inr (.inl [11])),(1,.inl ((4,4,0),none)),(2,.inl ((0,1600,1),none))],[],[]),(0,[0]),0)]
set_option maxRecDepth 100000 in
theorem q65_ok : rf_chkB q65_P q65_U wLay q65_M ddX6_readTerm [(2,[0]),(47,[1]),(52,[0]),(61,[2])] [.inl 2] [0,7,41,70] 600 q65_N = true := by decide +kernel
set_option maxHeartbeats 4000000 in
theorem q65_met {G : rfG} (h : okG G) : rf_met G q65_M := rf_methodB h.1 (P := q65_P) (U := q65_U) (N := q65_N) ⟨wflT h flokX6, wcsT h csokX6, wlcT h lcokX6, spokX6 h, List.forall_mem_cons.mpr ⟨q64_met h, List.forall_mem_cons.mpr ⟨q29_met h, List.forall_mem_cons.mpr ⟨q42_met h, fun _ h => absurd h List.not_mem_nil⟩⟩⟩, fun _ h => absurd h List.not_mem_nil, List.forall_mem_cons.mpr ⟨fun M hM => Option.some.inj (show some q29_M = some M from hM) ▸ wlkV (lkX6_46 h) q29_M rfl rfl, List.forall_mem_cons.mpr ⟨fun M hM => Option.some.inj (show some q42_M = some M from hM) ▸ wlkV (lkX6_109 h) q42_M rfl rfl, List.forall_mem_cons.mpr ⟨fun M hM => Option.some.inj (show some q64_M = some M from hM) ▸ wlkV (lkX6_121 h) q64_M rfl rfl, fun _ h => absurd h List.not_mem_nil⟩⟩⟩, fun _ h => absurd h List.not_mem_nil, fun _ h => absurd h List.not_mem_nil⟩ dkX6_readTerm (by decide +kernel) (by rw [h.2.2.1]; exact q65_ok)
/-- NearSpell.Reader.readSum -/
def q66_M : rfM := ((⟨"NearSpell$Reader", "readSum", "(I)V"⟩, prog_8_method_12_code, 4, none), (27,601), ([.inr (.inl [11]),.inl ((4,4,0),none)],[]), [(8,0),(10,11),(10,12),(11,4),(11,5),(11,6),(11,7),(11,9),(11,10)], [(none,[],[])])
def q66_P : rfP := (flX6,csX6,lcX6,spX6,[q65_M,q29_M,q42_M],[],[(46,1,6),(109,2,1),(118,0,6)],([],[]))
def q66_U : rfU := []
set_option maxHeartbeats 8000000 in
def q66_N : List rfB := [(0,([(0,.inr (.inl [11])),(1,.inl ((4,4,0),none))],[],[]),(43232,[0]),0),
  (7,([(0,.inr (.inl [11])),(1,.inl ((4,4,0),none)),(2,.inl ((0,1600,1),none))],[],[]),(43225,[(-27)]),0),
  (32,([(0,.inr (.inl [11])),(1,.inl ((4,4,0),none)),(2,.inl ((0,1599,1),none))],[],[((11,5),(43,45,1),none)]),(43214,[(-27)]),0),
  (61,([(0,.inr (.inl [11])),(1,.inl ((4,4,0),none)),(2,.inl ((0,1600,1),none))],[],[]),(0,[0]),0)]
set_option maxRecDepth 100000 in
theorem q66_ok : rf_chkB q66_P q66_U wLay q66_M ddX6_readSum [(2,[0]),(38,[1]),(43,[0]),(52,[2])] [.inl 2] [0,7,32,61] 600 q66_N = true := by decide +kernel
set_option maxHeartbeats 4000000 in
theorem q66_met {G : rfG} (h : okG G) : rf_met G q66_M := rf_methodB h.1 (P := q66_P) (U := q66_U) (N := q66_N) ⟨wflT h flokX6, wcsT h csokX6, wlcT h lcokX6, spokX6 h, List.forall_mem_cons.mpr ⟨q65_met h, List.forall_mem_cons.mpr ⟨q29_met h, List.forall_mem_cons.mpr ⟨q42_met h, fun _ h => absurd h List.not_mem_nil⟩⟩⟩, fun _ h => absurd h List.not_mem_nil, List.forall_mem_cons.mpr ⟨fun M hM => Option.some.inj (show some q29_M = some M from hM) ▸ wlkV (lkX6_46 h) q29_M rfl rfl, List.forall_mem_cons.mpr ⟨fun M hM => Option.some.inj (show some q42_M = some M from hM) ▸ wlkV (lkX6_109 h) q42_M rfl rfl, List.forall_mem_cons.mpr ⟨fun M hM => Option.some.inj (show some q65_M = some M from hM) ▸ wlkV (lkX6_118 h) q65_M rfl rfl, fun _ h => absurd h List.not_mem_nil⟩⟩⟩, fun _ h => absurd h List.not_mem_nil, fun _ h => absurd h List.not_mem_nil⟩ dkX6_readSum (by decide +kernel) (by rw [h.2.2.1]; exact q66_ok)
/-- NearSpell.Reader.readOne -/
def q67_M : rfM := ((⟨"NearSpell$Reader", "readOne", "(I)V"⟩, prog_8_method_11_code, 3, none), (28,624), ([.inr (.inl [11]),.inl ((4,4,0),none)],[]), [(8,0),(10,11),(10,12),(11,4),(11,5),(11,6),(11,7),(11,9),(11,10)], [(none,[],[])])
def q67_P : rfP := (flX6,csX6,lcX6,spX6,[q29_M,q61_M,q46_M,q66_M,q42_M],[],[(46,0,6),(109,2,1),(109,4,1),(112,1,6),(115,3,6)],([],[]))
def q67_U : rfU := []
set_option maxHeartbeats 8000000 in
def q67_N : List rfB := [(0,([(0,.inr (.inl [11])),(1,.inl ((4,4,0),none))],[],[]),(44,[]),0),
  (70,([(0,.inr (.inl [11])),(1,.inl ((4,4,0),none)),(2,.inl ((60,62,1),some (.inr (11,5),some 0)))],[],[((11,5),(60,62,1),none)]),(10,[]),0),
  (88,([(0,.inr (.inl [11])),(1,.inl ((4,4,0),none)),(2,.inl (((-128),127,1),none))],[],[]),(0,[]),0)]
set_option maxRecDepth 100000 in
theorem q67_ok : rf_chkB q67_P q67_U wLay q67_M ddX6_readOne [(22,[0]),(29,[1]),(38,[2]),(44,[3]),(71,[0]),(76,[3]),(85,[4])] [] [0,70,88] 600 q67_N = true := by decide +kernel
set_option maxHeartbeats 4000000 in
theorem q67_met {G : rfG} (h : okG G) : rf_met G q67_M := rf_methodB h.1 (P := q67_P) (U := q67_U) (N := q67_N) ⟨wflT h flokX6, wcsT h csokX6, wlcT h lcokX6, spokX6 h, List.forall_mem_cons.mpr ⟨q29_met h, List.forall_mem_cons.mpr ⟨q61_met h, List.forall_mem_cons.mpr ⟨q46_met h, List.forall_mem_cons.mpr ⟨q66_met h, List.forall_mem_cons.mpr ⟨q42_met h, fun _ h => absurd h List.not_mem_nil⟩⟩⟩⟩⟩, fun _ h => absurd h List.not_mem_nil, List.forall_mem_cons.mpr ⟨fun M hM => Option.some.inj (show some q29_M = some M from hM) ▸ wlkV (lkX6_46 h) q29_M rfl rfl, List.forall_mem_cons.mpr ⟨fun M hM => Option.some.inj (show some q46_M = some M from hM) ▸ wlkV (lkX6_109 h) q46_M rfl rfl, List.forall_mem_cons.mpr ⟨fun M hM => Option.some.inj (show some q42_M = some M from hM) ▸ wlkV (lkX6_109 h) q42_M rfl rfl, List.forall_mem_cons.mpr ⟨fun M hM => Option.some.inj (show some q61_M = some M from hM) ▸ wlkV (lkX6_112 h) q61_M rfl rfl, List.forall_mem_cons.mpr ⟨fun M hM => Option.some.inj (show some q66_M = some M from hM) ▸ wlkV (lkX6_115 h) q66_M rfl rfl, fun _ h => absurd h List.not_mem_nil⟩⟩⟩⟩⟩, fun _ h => absurd h List.not_mem_nil, fun _ h => absurd h List.not_mem_nil⟩ dkX6_readOne (by decide +kernel) (by rw [h.2.2.1]; exact q67_ok)
/-- NearSpell.Reader.readBoth -/
def q68_M : rfM := ((⟨"NearSpell$Reader", "readBoth", "(I)V"⟩, prog_8_method_10_code, 3, none), (29,646), ([.inr (.inl [11]),.inl ((4,4,0),none)],[]), [(8,0),(10,11),(10,12),(11,4),(11,5),(11,6),(11,7),(11,9),(11,10)], [(none,[],[])])
def q68_P : rfP := (flX6,csX6,lcX6,spX6,[q67_M,q29_M,q47_M],[],[(46,1,6),(109,2,1),(112,0,6)],([],[]))
def q68_U : rfU := []
set_option maxHeartbeats 8000000 in
def q68_N : List rfB := [(0,([(0,.inr (.inl [11])),(1,.inl ((4,4,0),none))],[],[]),(30424,[0]),0),
  (7,([(0,.inr (.inl [11])),(1,.inl ((4,4,0),none)),(2,.inl ((0,1600,1),none))],[],[]),(30417,[(-19)]),0),
  (47,([(0,.inr (.inl [11])),(1,.inl ((4,4,0),none)),(2,.inl ((0,1600,1),none))],[],[]),(0,[0]),0)]
set_option maxRecDepth 100000 in
theorem q68_ok : rf_chkB q68_P q68_U wLay q68_M ddX6_readBoth [(2,[0]),(24,[1]),(29,[0]),(38,[2])] [.inl 2] [0,7,47] 600 q68_N = true := by decide +kernel
set_option maxHeartbeats 4000000 in
theorem q68_met {G : rfG} (h : okG G) : rf_met G q68_M := rf_methodB h.1 (P := q68_P) (U := q68_U) (N := q68_N) ⟨wflT h flokX6, wcsT h csokX6, wlcT h lcokX6, spokX6 h, List.forall_mem_cons.mpr ⟨q67_met h, List.forall_mem_cons.mpr ⟨q29_met h, List.forall_mem_cons.mpr ⟨q47_met h, fun _ h => absurd h List.not_mem_nil⟩⟩⟩, fun _ h => absurd h List.not_mem_nil, List.forall_mem_cons.mpr ⟨fun M hM => Option.some.inj (show some q29_M = some M from hM) ▸ wlkV (lkX6_46 h) q29_M rfl rfl, List.forall_mem_cons.mpr ⟨fun M hM => Option.some.inj (show some q47_M = some M from hM) ▸ wlkV (lkX6_109 h) q47_M rfl rfl, List.forall_mem_cons.mpr ⟨fun M hM => Option.some.inj (show some q67_M = some M from hM) ▸ wlkV (lkX6_112 h) q67_M rfl rfl, fun _ h => absurd h List.not_mem_nil⟩⟩⟩, fun _ h => absurd h List.not_mem_nil, fun _ h => absurd h List.not_mem_nil⟩ dkX6_readBoth (by decide +kernel) (by rw [h.2.2.1]; exact q68_ok)
/-- NearSpell.Reader.readEither -/
def q69_M : rfM := ((⟨"NearSpell$Reader", "readEither", "(I)V"⟩, prog_8_method_9_code, 3, none), (30,668), ([.inr (.inl [11]),.inl ((4,4,0),none)],[]), [(8,0),(10,11),(10,12),(11,4),(11,5),(11,6),(11,7),(11,9),(11,10)], [(none,[],[])])
def q69_P : rfP := (flX6,csX6,lcX6,spX6,[q68_M,q29_M,q49_M],[],[(46,1,6),(106,0,6),(109,2,1)],([],[]))
def q69_U : rfU := []
set_option maxHeartbeats 8000000 in
def q69_N : List rfB := [(0,([(0,.inr (.inl [11])),(1,.inl ((4,4,0),none))],[],[]),(30424,[0]),0),
  (7,([(0,.inr (.inl [11])),(1,.inl ((4,4,0),none)),(2,.inl ((0,1600,1),none))],[],[]),(30417,[(-19)]),0),
  (47,([(0,.inr (.inl [11])),(1,.inl ((4,4,0),none)),(2,.inl ((0,1600,1),none))],[],[]),(0,[0]),0)]
set_option maxRecDepth 100000 in
theorem q69_ok : rf_chkB q69_P q69_U wLay q69_M ddX6_readEither [(2,[0]),(24,[1]),(29,[0]),(38,[2])] [.inl 2] [0,7,47] 600 q69_N = true := by decide +kernel
set_option maxHeartbeats 4000000 in
theorem q69_met {G : rfG} (h : okG G) : rf_met G q69_M := rf_methodB h.1 (P := q69_P) (U := q69_U) (N := q69_N) ⟨wflT h flokX6, wcsT h csokX6, wlcT h lcokX6, spokX6 h, List.forall_mem_cons.mpr ⟨q68_met h, List.forall_mem_cons.mpr ⟨q29_met h, List.forall_mem_cons.mpr ⟨q49_met h, fun _ h => absurd h List.not_mem_nil⟩⟩⟩, fun _ h => absurd h List.not_mem_nil, List.forall_mem_cons.mpr ⟨fun M hM => Option.some.inj (show some q29_M = some M from hM) ▸ wlkV (lkX6_46 h) q29_M rfl rfl, List.forall_mem_cons.mpr ⟨fun M hM => Option.some.inj (show some q68_M = some M from hM) ▸ wlkV (lkX6_106 h) q68_M rfl rfl, List.forall_mem_cons.mpr ⟨fun M hM => Option.some.inj (show some q49_M = some M from hM) ▸ wlkV (lkX6_109 h) q49_M rfl rfl, fun _ h => absurd h List.not_mem_nil⟩⟩⟩, fun _ h => absurd h List.not_mem_nil, fun _ h => absurd h List.not_mem_nil⟩ dkX6_readEither (by decide +kernel) (by rw [h.2.2.1]; exact q69_ok)
/-- NearSpell.Reader.readUnit -/
def q70_M : rfM := ((⟨"NearSpell$Reader", "readUnit", "(I)V"⟩, prog_8_method_14_code, 4, none), (31,690), ([.inr (.inl [11]),.inl ((3,3,0),none)],[]), [(8,0),(10,11),(10,12),(11,4),(11,5),(11,6),(11,7),(11,9),(11,10)], [(none,[],[])])
def q70_P : rfP := (flX6,csX6,lcX6,spX6,[q31_M,q40_M,q29_M,q69_M,q51_M],[],[(46,2,6),(62,0,6),(78,3,6),(90,4,6),(109,1,1)],([],[]))
def q70_U : rfU := []
set_option maxHeartbeats 8000000 in
def q70_N : List rfB := [(0,([(0,.inr (.inl [11])),(1,.inl ((3,3,0),none))],[],[]),(81,[]),0),
  (15,([(0,.inr (.inl [11])),(1,.inl ((3,3,0),none)),(2,.inl ((0,1,1),none))],[],[]),(72,[]),0),
  (37,([(0,.inr (.inl [11])),(1,.inl ((3,3,0),none)),(2,.inl ((0,1,1),none))],[],[]),(61,[]),0),
  (39,([(0,.inr (.inl [11])),(1,.inl ((3,3,0),none)),(2,.inl ((0,1,1),none)),(3,.inl ((0,1,1),none))],[],[]),(59,[]),0),
  (62,([(0,.inr (.inl [11])),(1,.inl ((3,3,0),none)),(2,.inl ((0,1,1),none)),(3,.inl ((0,1,1),none))],[],[]),(47,[]),0),
  (90,([(0,.inr (.inl [11])),(1,.inl ((3,3,0),none)),(2,.inl ((0,1,1),none)),(3,.inl ((0,1,1),none))],[],[((10,10),(0,29,1),none)]),(37,[]),0),
  (127,([(0,.inr (.inl [11])),(1,.inl ((3,3,0),none)),(2,.inl ((0,0,1),none)),(3,.inl ((0,1,1),none))],[.inl (((-2147483648),2147483647,1),none),.inr (.inl [10])],[((10,10),(1,30,1),none)]),(18,[]),0)]
set_option maxRecDepth 100000 in
theorem q70_ok : rf_chkB q70_P q70_U wLay q70_M ddX6_readUnit [(58,[0]),(86,[0]),(127,[1]),(131,[2]),(136,[2]),(143,[3]),(149,[4])] [] [0,15,37,39,62,90,127] 600 q70_N = true := by decide +kernel
set_option maxHeartbeats 4000000 in
theorem q70_met {G : rfG} (h : okG G) : rf_met G q70_M := rf_methodB h.1 (P := q70_P) (U := q70_U) (N := q70_N) ⟨wflT h flokX6, wcsT h csokX6, wlcT h lcokX6, spokX6 h, List.forall_mem_cons.mpr ⟨q31_met h, List.forall_mem_cons.mpr ⟨q40_met h, List.forall_mem_cons.mpr ⟨q29_met h, List.forall_mem_cons.mpr ⟨q69_met h, List.forall_mem_cons.mpr ⟨q51_met h, fun _ h => absurd h List.not_mem_nil⟩⟩⟩⟩⟩, fun _ h => absurd h List.not_mem_nil, List.forall_mem_cons.mpr ⟨fun M hM => Option.some.inj (show some q29_M = some M from hM) ▸ wlkV (lkX6_46 h) q29_M rfl rfl, List.forall_mem_cons.mpr ⟨fun M hM => Option.some.inj (show some q31_M = some M from hM) ▸ wlkV (lkX6_62 h) q31_M rfl rfl, List.forall_mem_cons.mpr ⟨fun M hM => Option.some.inj (show some q69_M = some M from hM) ▸ wlkV (lkX6_78 h) q69_M rfl rfl, List.forall_mem_cons.mpr ⟨fun M hM => Option.some.inj (show some q51_M = some M from hM) ▸ wlkV (lkX6_90 h) q51_M rfl rfl, List.forall_mem_cons.mpr ⟨fun M hM => Option.some.inj (show some q40_M = some M from hM) ▸ wlkV (lkX6_109 h) q40_M rfl rfl, fun _ h => absurd h List.not_mem_nil⟩⟩⟩⟩⟩, fun _ h => absurd h List.not_mem_nil, fun _ h => absurd h List.not_mem_nil⟩ dkX6_readUnit (by decide +kernel) (by rw [h.2.2.1]; exact q70_ok)
/-- NearSpell.Reader.readTerm -/
def q71_M : rfM := ((⟨"NearSpell$Reader", "readTerm", "(I)V"⟩, prog_8_method_13_code, 4, none), (32,713), ([.inr (.inl [11]),.inl ((3,3,0),none)],[]), [(8,0),(10,11),(10,12),(11,4),(11,5),(11,6),(11,7),(11,9),(11,10)], [(none,[],[])])
def q71_P : rfP := (flX6,csX6,lcX6,spX6,[q70_M,q29_M,q42_M],[],[(46,1,6),(109,2,1),(121,0,6)],([],[]))
def q71_U : rfU := []
set_option maxHeartbeats 8000000 in
def q71_N : List rfB := [(0,([(0,.inr (.inl [11])),(1,.inl ((3,3,0),none))],[],[]),(49636,[0]),0),
  (7,([(0,.inr (.inl [11])),(1,.inl ((3,3,0),none)),(2,.inl ((0,1600,1),none))],[],[]),(49629,[(-31)]),0),
  (41,([(0,.inr (.inl [11])),(1,.inl ((3,3,0),none)),(2,.inl ((0,1599,1),none))],[],[((11,5),(37,47,1),none)]),(49614,[(-31)]),0),
  (70,([(0,.inr (.inl [11])),(1,.inl ((3,3,0),none)),(2,.inl ((0,1600,1),none))],[],[]),(0,[0]),0)]
set_option maxRecDepth 100000 in
theorem q71_ok : rf_chkB q71_P q71_U wLay q71_M ddX6_readTerm [(2,[0]),(47,[1]),(52,[0]),(61,[2])] [.inl 2] [0,7,41,70] 600 q71_N = true := by decide +kernel
set_option maxHeartbeats 4000000 in
theorem q71_met {G : rfG} (h : okG G) : rf_met G q71_M := rf_methodB h.1 (P := q71_P) (U := q71_U) (N := q71_N) ⟨wflT h flokX6, wcsT h csokX6, wlcT h lcokX6, spokX6 h, List.forall_mem_cons.mpr ⟨q70_met h, List.forall_mem_cons.mpr ⟨q29_met h, List.forall_mem_cons.mpr ⟨q42_met h, fun _ h => absurd h List.not_mem_nil⟩⟩⟩, fun _ h => absurd h List.not_mem_nil, List.forall_mem_cons.mpr ⟨fun M hM => Option.some.inj (show some q29_M = some M from hM) ▸ wlkV (lkX6_46 h) q29_M rfl rfl, List.forall_mem_cons.mpr ⟨fun M hM => Option.some.inj (show some q42_M = some M from hM) ▸ wlkV (lkX6_109 h) q42_M rfl rfl, List.forall_mem_cons.mpr ⟨fun M hM => Option.some.inj (show some q70_M = some M from hM) ▸ wlkV (lkX6_121 h) q70_M rfl rfl, fun _ h => absurd h List.not_mem_nil⟩⟩⟩, fun _ h => absurd h List.not_mem_nil, fun _ h => absurd h List.not_mem_nil⟩ dkX6_readTerm (by decide +kernel) (by rw [h.2.2.1]; exact q71_ok)
/-- NearSpell.Reader.readSum -/
def q72_M : rfM := ((⟨"NearSpell$Reader", "readSum", "(I)V"⟩, prog_8_method_12_code, 4, none), (33,736), ([.inr (.inl [11]),.inl ((3,3,0),none)],[]), [(8,0),(10,11),(10,12),(11,4),(11,5),(11,6),(11,7),(11,9),(11,10)], [(none,[],[])])
def q72_P : rfP := (flX6,csX6,lcX6,spX6,[q71_M,q29_M,q42_M],[],[(46,1,6),(109,2,1),(118,0,6)],([],[]))
def q72_U : rfU := []
set_option maxHeartbeats 8000000 in
def q72_N : List rfB := [(0,([(0,.inr (.inl [11])),(1,.inl ((3,3,0),none))],[],[]),(43232,[0]),0),
  (7,([(0,.inr (.inl [11])),(1,.inl ((3,3,0),none)),(2,.inl ((0,1600,1),none))],[],[]),(43225,[(-27)]),0),
  (32,([(0,.inr (.inl [11])),(1,.inl ((3,3,0),none)),(2,.inl ((0,1599,1),none))],[],[((11,5),(43,45,1),none)]),(43214,[(-27)]),0),
  (61,([(0,.inr (.inl [11])),(1,.inl ((3,3,0),none)),(2,.inl ((0,1600,1),none))],[],[]),(0,[0]),0)]
set_option maxRecDepth 100000 in
theorem q72_ok : rf_chkB q72_P q72_U wLay q72_M ddX6_readSum [(2,[0]),(38,[1]),(43,[0]),(52,[2])] [.inl 2] [0,7,32,61] 600 q72_N = true := by decide +kernel
set_option maxHeartbeats 4000000 in
theorem q72_met {G : rfG} (h : okG G) : rf_met G q72_M := rf_methodB h.1 (P := q72_P) (U := q72_U) (N := q72_N) ⟨wflT h flokX6, wcsT h csokX6, wlcT h lcokX6, spokX6 h, List.forall_mem_cons.mpr ⟨q71_met h, List.forall_mem_cons.mpr ⟨q29_met h, List.forall_mem_cons.mpr ⟨q42_met h, fun _ h => absurd h List.not_mem_nil⟩⟩⟩, fun _ h => absurd h List.not_mem_nil, List.forall_mem_cons.mpr ⟨fun M hM => Option.some.inj (show some q29_M = some M from hM) ▸ wlkV (lkX6_46 h) q29_M rfl rfl, List.forall_mem_cons.mpr ⟨fun M hM => Option.some.inj (show some q42_M = some M from hM) ▸ wlkV (lkX6_109 h) q42_M rfl rfl, List.forall_mem_cons.mpr ⟨fun M hM => Option.some.inj (show some q71_M = some M from hM) ▸ wlkV (lkX6_118 h) q71_M rfl rfl, fun _ h => absurd h List.not_mem_nil⟩⟩⟩, fun _ h => absurd h List.not_mem_nil, fun _ h => absurd h List.not_mem_nil⟩ dkX6_readSum (by decide +kernel) (by rw [h.2.2.1]; exact q72_ok)
/-- NearSpell.Reader.readOne -/
def q73_M : rfM := ((⟨"NearSpell$Reader", "readOne", "(I)V"⟩, prog_8_method_11_code, 3, none), (34,759), ([.inr (.inl [11]),.inl ((3,3,0),none)],[]), [(8,0),(10,11),(10,12),(11,4),(11,5),(11,6),(11,7),(11,9),(11,10)], [(none,[],[])])
def q73_P : rfP := (flX6,csX6,lcX6,spX6,[q29_M,q67_M,q46_M,q72_M,q42_M],[],[(46,0,6),(109,2,1),(109,4,1),(112,1,6),(115,3,6)],([],[]))
def q73_U : rfU := []
set_option maxHeartbeats 8000000 in
def q73_N : List rfB := [(0,([(0,.inr (.inl [11])),(1,.inl ((3,3,0),none))],[],[]),(44,[]),0),
  (70,([(0,.inr (.inl [11])),(1,.inl ((3,3,0),none)),(2,.inl ((60,62,1),some (.inr (11,5),some 0)))],[],[((11,5),(60,62,1),none)]),(10,[]),0),
  (88,([(0,.inr (.inl [11])),(1,.inl ((3,3,0),none)),(2,.inl (((-128),127,1),none))],[],[]),(0,[]),0)]
set_option maxRecDepth 100000 in
theorem q73_ok : rf_chkB q73_P q73_U wLay q73_M ddX6_readOne [(22,[0]),(29,[1]),(38,[2]),(44,[3]),(71,[0]),(76,[3]),(85,[4])] [] [0,70,88] 600 q73_N = true := by decide +kernel
set_option maxHeartbeats 4000000 in
theorem q73_met {G : rfG} (h : okG G) : rf_met G q73_M := rf_methodB h.1 (P := q73_P) (U := q73_U) (N := q73_N) ⟨wflT h flokX6, wcsT h csokX6, wlcT h lcokX6, spokX6 h, List.forall_mem_cons.mpr ⟨q29_met h, List.forall_mem_cons.mpr ⟨q67_met h, List.forall_mem_cons.mpr ⟨q46_met h, List.forall_mem_cons.mpr ⟨q72_met h, List.forall_mem_cons.mpr ⟨q42_met h, fun _ h => absurd h List.not_mem_nil⟩⟩⟩⟩⟩, fun _ h => absurd h List.not_mem_nil, List.forall_mem_cons.mpr ⟨fun M hM => Option.some.inj (show some q29_M = some M from hM) ▸ wlkV (lkX6_46 h) q29_M rfl rfl, List.forall_mem_cons.mpr ⟨fun M hM => Option.some.inj (show some q46_M = some M from hM) ▸ wlkV (lkX6_109 h) q46_M rfl rfl, List.forall_mem_cons.mpr ⟨fun M hM => Option.some.inj (show some q42_M = some M from hM) ▸ wlkV (lkX6_109 h) q42_M rfl rfl, List.forall_mem_cons.mpr ⟨fun M hM => Option.some.inj (show some q67_M = some M from hM) ▸ wlkV (lkX6_112 h) q67_M rfl rfl, List.forall_mem_cons.mpr ⟨fun M hM => Option.some.inj (show some q72_M = some M from hM) ▸ wlkV (lkX6_115 h) q72_M rfl rfl, fun _ h => absurd h List.not_mem_nil⟩⟩⟩⟩⟩, fun _ h => absurd h List.not_mem_nil, fun _ h => absurd h List.not_mem_nil⟩ dkX6_readOne (by decide +kernel) (by rw [h.2.2.1]; exact q73_ok)
/-- NearSpell.Reader.readBoth -/
def q74_M : rfM := ((⟨"NearSpell$Reader", "readBoth", "(I)V"⟩, prog_8_method_10_code, 3, none), (35,781), ([.inr (.inl [11]),.inl ((3,3,0),none)],[]), [(8,0),(10,11),(10,12),(11,4),(11,5),(11,6),(11,7),(11,9),(11,10)], [(none,[],[])])
def q74_P : rfP := (flX6,csX6,lcX6,spX6,[q73_M,q29_M,q47_M],[],[(46,1,6),(109,2,1),(112,0,6)],([],[]))
def q74_U : rfU := []
set_option maxHeartbeats 8000000 in
def q74_N : List rfB := [(0,([(0,.inr (.inl [11])),(1,.inl ((3,3,0),none))],[],[]),(30424,[0]),0),
  (7,([(0,.inr (.inl [11])),(1,.inl ((3,3,0),none)),(2,.inl ((0,1600,1),none))],[],[]),(30417,[(-19)]),0),
  (47,([(0,.inr (.inl [11])),(1,.inl ((3,3,0),none)),(2,.inl ((0,1600,1),none))],[],[]),(0,[0]),0)]
set_option maxRecDepth 100000 in
theorem q74_ok : rf_chkB q74_P q74_U wLay q74_M ddX6_readBoth [(2,[0]),(24,[1]),(29,[0]),(38,[2])] [.inl 2] [0,7,47] 600 q74_N = true := by decide +kernel
set_option maxHeartbeats 4000000 in
theorem q74_met {G : rfG} (h : okG G) : rf_met G q74_M := rf_methodB h.1 (P := q74_P) (U := q74_U) (N := q74_N) ⟨wflT h flokX6, wcsT h csokX6, wlcT h lcokX6, spokX6 h, List.forall_mem_cons.mpr ⟨q73_met h, List.forall_mem_cons.mpr ⟨q29_met h, List.forall_mem_cons.mpr ⟨q47_met h, fun _ h => absurd h List.not_mem_nil⟩⟩⟩, fun _ h => absurd h List.not_mem_nil, List.forall_mem_cons.mpr ⟨fun M hM => Option.some.inj (show some q29_M = some M from hM) ▸ wlkV (lkX6_46 h) q29_M rfl rfl, List.forall_mem_cons.mpr ⟨fun M hM => Option.some.inj (show some q47_M = some M from hM) ▸ wlkV (lkX6_109 h) q47_M rfl rfl, List.forall_mem_cons.mpr ⟨fun M hM => Option.some.inj (show some q73_M = some M from hM) ▸ wlkV (lkX6_112 h) q73_M rfl rfl, fun _ h => absurd h List.not_mem_nil⟩⟩⟩, fun _ h => absurd h List.not_mem_nil, fun _ h => absurd h List.not_mem_nil⟩ dkX6_readBoth (by decide +kernel) (by rw [h.2.2.1]; exact q74_ok)
/-- NearSpell.Reader.readEither -/
def q75_M : rfM := ((⟨"NearSpell$Reader", "readEither", "(I)V"⟩, prog_8_method_9_code, 3, none), (36,803), ([.inr (.inl [11]),.inl ((3,3,0),none)],[]), [(8,0),(10,11),(10,12),(11,4),(11,5),(11,6),(11,7),(11,9),(11,10)], [(none,[],[])])
def q75_P : rfP := (flX6,csX6,lcX6,spX6,[q74_M,q29_M,q49_M],[],[(46,1,6),(106,0,6),(109,2,1)],([],[]))
def q75_U : rfU := []
set_option maxHeartbeats 8000000 in
def q75_N : List rfB := [(0,([(0,.inr (.inl [11])),(1,.inl ((3,3,0),none))],[],[]),(30424,[0]),0),
  (7,([(0,.inr (.inl [11])),(1,.inl ((3,3,0),none)),(2,.inl ((0,1600,1),none))],[],[]),(30417,[(-19)]),0),
  (47,([(0,.inr (.inl [11])),(1,.inl ((3,3,0),none)),(2,.inl ((0,1600,1),none))],[],[]),(0,[0]),0)]
set_option maxRecDepth 100000 in
theorem q75_ok : rf_chkB q75_P q75_U wLay q75_M ddX6_readEither [(2,[0]),(24,[1]),(29,[0]),(38,[2])] [.inl 2] [0,7,47] 600 q75_N = true := by decide +kernel
set_option maxHeartbeats 4000000 in
theorem q75_met {G : rfG} (h : okG G) : rf_met G q75_M := rf_methodB h.1 (P := q75_P) (U := q75_U) (N := q75_N) ⟨wflT h flokX6, wcsT h csokX6, wlcT h lcokX6, spokX6 h, List.forall_mem_cons.mpr ⟨q74_met h, List.forall_mem_cons.mpr ⟨q29_met h, List.forall_mem_cons.mpr ⟨q49_met h, fun _ h => absurd h List.not_mem_nil⟩⟩⟩, fun _ h => absurd h List.not_mem_nil, List.forall_mem_cons.mpr ⟨fun M hM => Option.some.inj (show some q29_M = some M from hM) ▸ wlkV (lkX6_46 h) q29_M rfl rfl, List.forall_mem_cons.mpr ⟨fun M hM => Option.some.inj (show some q74_M = some M from hM) ▸ wlkV (lkX6_106 h) q74_M rfl rfl, List.forall_mem_cons.mpr ⟨fun M hM => Option.some.inj (show some q49_M = some M from hM) ▸ wlkV (lkX6_109 h) q49_M rfl rfl, fun _ h => absurd h List.not_mem_nil⟩⟩⟩, fun _ h => absurd h List.not_mem_nil, fun _ h => absurd h List.not_mem_nil⟩ dkX6_readEither (by decide +kernel) (by rw [h.2.2.1]; exact q75_ok)
/-- NearSpell.Reader.readUnit -/
def q76_M : rfM := ((⟨"NearSpell$Reader", "readUnit", "(I)V"⟩, prog_8_method_14_code, 4, none), (37,825), ([.inr (.inl [11]),.inl ((2,2,0),none)],[]), [(8,0),(10,11),(10,12),(11,4),(11,5),(11,6),(11,7),(11,9),(11,10)], [(none,[],[])])
def q76_P : rfP := (flX6,csX6,lcX6,spX6,[q31_M,q40_M,q29_M,q75_M,q51_M],[],[(46,2,6),(62,0,6),(78,3,6),(90,4,6),(109,1,1)],([],[]))
def q76_U : rfU := []
set_option maxHeartbeats 8000000 in
def q76_N : List rfB := [(0,([(0,.inr (.inl [11])),(1,.inl ((2,2,0),none))],[],[]),(81,[]),0),
  (15,([(0,.inr (.inl [11])),(1,.inl ((2,2,0),none)),(2,.inl ((0,1,1),none))],[],[]),(72,[]),0),
  (37,([(0,.inr (.inl [11])),(1,.inl ((2,2,0),none)),(2,.inl ((0,1,1),none))],[],[]),(61,[]),0),
  (39,([(0,.inr (.inl [11])),(1,.inl ((2,2,0),none)),(2,.inl ((0,1,1),none)),(3,.inl ((0,1,1),none))],[],[]),(59,[]),0),
  (62,([(0,.inr (.inl [11])),(1,.inl ((2,2,0),none)),(2,.inl ((0,1,1),none)),(3,.inl ((0,1,1),none))],[],[]),(47,[]),0),
  (90,([(0,.inr (.inl [11])),(1,.inl ((2,2,0),none)),(2,.inl ((0,1,1),none)),(3,.inl ((0,1,1),none))],[],[((10,10),(0,29,1),none)]),(37,[]),0),
  (127,([(0,.inr (.inl [11])),(1,.inl ((2,2,0),none)),(2,.inl ((0,0,1),none)),(3,.inl ((0,1,1),none))],[.inl (((-2147483648),2147483647,1),none),.inr (.inl [10])],[((10,10),(1,30,1),none)]),(18,[]),0)]
set_option maxRecDepth 100000 in
theorem q76_ok : rf_chkB q76_P q76_U wLay q76_M ddX6_readUnit [(58,[0]),(86,[0]),(127,[1]),(131,[2]),(136,[2]),(143,[3]),(149,[4])] [] [0,15,37,39,62,90,127] 600 q76_N = true := by decide +kernel
set_option maxHeartbeats 4000000 in
theorem q76_met {G : rfG} (h : okG G) : rf_met G q76_M := rf_methodB h.1 (P := q76_P) (U := q76_U) (N := q76_N) ⟨wflT h flokX6, wcsT h csokX6, wlcT h lcokX6, spokX6 h, List.forall_mem_cons.mpr ⟨q31_met h, List.forall_mem_cons.mpr ⟨q40_met h, List.forall_mem_cons.mpr ⟨q29_met h, List.forall_mem_cons.mpr ⟨q75_met h, List.forall_mem_cons.mpr ⟨q51_met h, fun _ h => absurd h List.not_mem_nil⟩⟩⟩⟩⟩, fun _ h => absurd h List.not_mem_nil, List.forall_mem_cons.mpr ⟨fun M hM => Option.some.inj (show some q29_M = some M from hM) ▸ wlkV (lkX6_46 h) q29_M rfl rfl, List.forall_mem_cons.mpr ⟨fun M hM => Option.some.inj (show some q31_M = some M from hM) ▸ wlkV (lkX6_62 h) q31_M rfl rfl, List.forall_mem_cons.mpr ⟨fun M hM => Option.some.inj (show some q75_M = some M from hM) ▸ wlkV (lkX6_78 h) q75_M rfl rfl, List.forall_mem_cons.mpr ⟨fun M hM => Option.some.inj (show some q51_M = some M from hM) ▸ wlkV (lkX6_90 h) q51_M rfl rfl, List.forall_mem_cons.mpr ⟨fun M hM => Option.some.inj (show some q40_M = some M from hM) ▸ wlkV (lkX6_109 h) q40_M rfl rfl, fun _ h => absurd h List.not_mem_nil⟩⟩⟩⟩⟩, fun _ h => absurd h List.not_mem_nil, fun _ h => absurd h List.not_mem_nil⟩ dkX6_readUnit (by decide +kernel) (by rw [h.2.2.1]; exact q76_ok)
/-- NearSpell.Reader.readTerm -/
def q77_M : rfM := ((⟨"NearSpell$Reader", "readTerm", "(I)V"⟩, prog_8_method_13_code, 4, none), (38,848), ([.inr (.inl [11]),.inl ((2,2,0),none)],[]), [(8,0),(10,11),(10,12),(11,4),(11,5),(11,6),(11,7),(11,9),(11,10)], [(none,[],[])])
def q77_P : rfP := (flX6,csX6,lcX6,spX6,[q76_M,q29_M,q42_M],[],[(46,1,6),(109,2,1),(121,0,6)],([],[]))
def q77_U : rfU := []
set_option maxHeartbeats 8000000 in
def q77_N : List rfB := [(0,([(0,.inr (.inl [11])),(1,.inl ((2,2,0),none))],[],[]),(49636,[0]),0),
  (7,([(0,.inr (.inl [11])),(1,.inl ((2,2,0),none)),(2,.inl ((0,1600,1),none))],[],[]),(49629,[(-31)]),0),
  (41,([(0,.inr (.inl [11])),(1,.inl ((2,2,0),none)),(2,.inl ((0,1599,1),none))],[],[((11,5),(37,47,1),none)]),(49614,[(-31)]),0),
  (70,([(0,.inr (.inl [11])),(1,.inl ((2,2,0),none)),(2,.inl ((0,1600,1),none))],[],[]),(0,[0]),0)]
set_option maxRecDepth 100000 in
theorem q77_ok : rf_chkB q77_P q77_U wLay q77_M ddX6_readTerm [(2,[0]),(47,[1]),(52,[0]),(61,[2])] [.inl 2] [0,7,41,70] 600 q77_N = true := by decide +kernel
set_option maxHeartbeats 4000000 in
theorem q77_met {G : rfG} (h : okG G) : rf_met G q77_M := rf_methodB h.1 (P := q77_P) (U := q77_U) (N := q77_N) ⟨wflT h flokX6, wcsT h csokX6, wlcT h lcokX6, spokX6 h, List.forall_mem_cons.mpr ⟨q76_met h, List.forall_mem_cons.mpr ⟨q29_met h, List.forall_mem_cons.mpr ⟨q42_met h, fun _ h => absurd h List.not_mem_nil⟩⟩⟩, fun _ h => absurd h List.not_mem_nil, List.forall_mem_cons.mpr ⟨fun M hM => Option.some.inj (show some q29_M = some M from hM) ▸ wlkV (lkX6_46 h) q29_M rfl rfl, List.forall_mem_cons.mpr ⟨fun M hM => Option.some.inj (show some q42_M = some M from hM) ▸ wlkV (lkX6_109 h) q42_M rfl rfl, List.forall_mem_cons.mpr ⟨fun M hM => Option.some.inj (show some q76_M = some M from hM) ▸ wlkV (lkX6_121 h) q76_M rfl rfl, fun _ h => absurd h List.not_mem_nil⟩⟩⟩, fun _ h => absurd h List.not_mem_nil, fun _ h => absurd h List.not_mem_nil⟩ dkX6_readTerm (by decide +kernel) (by rw [h.2.2.1]; exact q77_ok)
/-- NearSpell.Reader.readSum -/
def q78_M : rfM := ((⟨"NearSpell$Reader", "readSum", "(I)V"⟩, prog_8_method_12_code, 4, none), (39,871), ([.inr (.inl [11]),.inl ((2,2,0),none)],[]), [(8,0),(10,11),(10,12),(11,4),(11,5),(11,6),(11,7),(11,9),(11,10)], [(none,[],[])])
def q78_P : rfP := (flX6,csX6,lcX6,spX6,[q77_M,q29_M,q42_M],[],[(46,1,6),(109,2,1),(118,0,6)],([],[]))
def q78_U : rfU := []
set_option maxHeartbeats 8000000 in
def q78_N : List rfB := [(0,([(0,.inr (.inl [11])),(1,.inl ((2,2,0),none))],[],[]),(43232,[0]),0),
  (7,([(0,.inr (.inl [11])),(1,.inl ((2,2,0),none)),(2,.inl ((0,1600,1),none))],[],[]),(43225,[(-27)]),0),
  (32,([(0,.inr (.inl [11])),(1,.inl ((2,2,0),none)),(2,.inl ((0,1599,1),none))],[],[((11,5),(43,45,1),none)]),(43214,[(-27)]),0),
  (61,([(0,.inr (.inl [11])),(1,.inl ((2,2,0),none)),(2,.inl ((0,1600,1),none))],[],[]),(0,[0]),0)]
set_option maxRecDepth 100000 in
theorem q78_ok : rf_chkB q78_P q78_U wLay q78_M ddX6_readSum [(2,[0]),(38,[1]),(43,[0]),(52,[2])] [.inl 2] [0,7,32,61] 600 q78_N = true := by decide +kernel
set_option maxHeartbeats 4000000 in
theorem q78_met {G : rfG} (h : okG G) : rf_met G q78_M := rf_methodB h.1 (P := q78_P) (U := q78_U) (N := q78_N) ⟨wflT h flokX6, wcsT h csokX6, wlcT h lcokX6, spokX6 h, List.forall_mem_cons.mpr ⟨q77_met h, List.forall_mem_cons.mpr ⟨q29_met h, List.forall_mem_cons.mpr ⟨q42_met h, fun _ h => absurd h List.not_mem_nil⟩⟩⟩, fun _ h => absurd h List.not_mem_nil, List.forall_mem_cons.mpr ⟨fun M hM => Option.some.inj (show some q29_M = some M from hM) ▸ wlkV (lkX6_46 h) q29_M rfl rfl, List.forall_mem_cons.mpr ⟨fun M hM => Option.some.inj (show some q42_M = some M from hM) ▸ wlkV (lkX6_109 h) q42_M rfl rfl, List.forall_mem_cons.mpr ⟨fun M hM => Option.some.inj (show some q77_M = some M from hM) ▸ wlkV (lkX6_118 h) q77_M rfl rfl, fun _ h => absurd h List.not_mem_nil⟩⟩⟩, fun _ h => absurd h List.not_mem_nil, fun _ h => absurd h List.not_mem_nil⟩ dkX6_readSum (by decide +kernel) (by rw [h.2.2.1]; exact q78_ok)
/-- NearSpell.Reader.readOne -/
def q79_M : rfM := ((⟨"NearSpell$Reader", "readOne", "(I)V"⟩, prog_8_method_11_code, 3, none), (40,894), ([.inr (.inl [11]),.inl ((2,2,0),none)],[]), [(8,0),(10,11),(10,12),(11,4),(11,5),(11,6),(11,7),(11,9),(11,10)], [(none,[],[])])
def q79_P : rfP := (flX6,csX6,lcX6,spX6,[q29_M,q73_M,q46_M,q78_M,q42_M],[],[(46,0,6),(109,2,1),(109,4,1),(112,1,6),(115,3,6)],([],[]))
def q79_U : rfU := []
set_option maxHeartbeats 8000000 in
def q79_N : List rfB := [(0,([(0,.inr (.inl [11])),(1,.inl ((2,2,0),none))],[],[]),(44,[]),0),
  (70,([(0,.inr (.inl [11])),(1,.inl ((2,2,0),none)),(2,.inl ((60,62,1),some (.inr (11,5),some 0)))],[],[((11,5),(60,62,1),none)]),(10,[]),0),
  (88,([(0,.inr (.inl [11])),(1,.inl ((2,2,0),none)),(2,.inl (((-128),127,1),none))],[],[]),(0,[]),0)]
set_option maxRecDepth 100000 in
theorem q79_ok : rf_chkB q79_P q79_U wLay q79_M ddX6_readOne [(22,[0]),(29,[1]),(38,[2]),(44,[3]),(71,[0]),(76,[3]),(85,[4])] [] [0,70,88] 600 q79_N = true := by decide +kernel
set_option maxHeartbeats 4000000 in
theorem q79_met {G : rfG} (h : okG G) : rf_met G q79_M := rf_methodB h.1 (P := q79_P) (U := q79_U) (N := q79_N) ⟨wflT h flokX6, wcsT h csokX6, wlcT h lcokX6, spokX6 h, List.forall_mem_cons.mpr ⟨q29_met h, List.forall_mem_cons.mpr ⟨q73_met h, List.forall_mem_cons.mpr ⟨q46_met h, List.forall_mem_cons.mpr ⟨q78_met h, List.forall_mem_cons.mpr ⟨q42_met h, fun _ h => absurd h List.not_mem_nil⟩⟩⟩⟩⟩, fun _ h => absurd h List.not_mem_nil, List.forall_mem_cons.mpr ⟨fun M hM => Option.some.inj (show some q29_M = some M from hM) ▸ wlkV (lkX6_46 h) q29_M rfl rfl, List.forall_mem_cons.mpr ⟨fun M hM => Option.some.inj (show some q46_M = some M from hM) ▸ wlkV (lkX6_109 h) q46_M rfl rfl, List.forall_mem_cons.mpr ⟨fun M hM => Option.some.inj (show some q42_M = some M from hM) ▸ wlkV (lkX6_109 h) q42_M rfl rfl, List.forall_mem_cons.mpr ⟨fun M hM => Option.some.inj (show some q73_M = some M from hM) ▸ wlkV (lkX6_112 h) q73_M rfl rfl, List.forall_mem_cons.mpr ⟨fun M hM => Option.some.inj (show some q78_M = some M from hM) ▸ wlkV (lkX6_115 h) q78_M rfl rfl, fun _ h => absurd h List.not_mem_nil⟩⟩⟩⟩⟩, fun _ h => absurd h List.not_mem_nil, fun _ h => absurd h List.not_mem_nil⟩ dkX6_readOne (by decide +kernel) (by rw [h.2.2.1]; exact q79_ok)
/-- NearSpell.Reader.readBoth -/
def q80_M : rfM := ((⟨"NearSpell$Reader", "readBoth", "(I)V"⟩, prog_8_method_10_code, 3, none), (41,916), ([.inr (.inl [11]),.inl ((2,2,0),none)],[]), [(8,0),(10,11),(10,12),(11,4),(11,5),(11,6),(11,7),(11,9),(11,10)], [(none,[],[])])
def q80_P : rfP := (flX6,csX6,lcX6,spX6,[q79_M,q29_M,q47_M],[],[(46,1,6),(109,2,1),(112,0,6)],([],[]))
def q80_U : rfU := []
set_option maxHeartbeats 8000000 in
def q80_N : List rfB := [(0,([(0,.inr (.inl [11])),(1,.inl ((2,2,0),none))],[],[]),(30424,[0]),0),
  (7,([(0,.inr (.inl [11])),(1,.inl ((2,2,0),none)),(2,.inl ((0,1600,1),none))],[],[]),(30417,[(-19)]),0),
  (47,([(0,.inr (.inl [11])),(1,.inl ((2,2,0),none)),(2,.inl ((0,1600,1),none))],[],[]),(0,[0]),0)]
set_option maxRecDepth 100000 in
theorem q80_ok : rf_chkB q80_P q80_U wLay q80_M ddX6_readBoth [(2,[0]),(24,[1]),(29,[0]),(38,[2])] [.inl 2] [0,7,47] 600 q80_N = true := by decide +kernel
set_option maxHeartbeats 4000000 in
theorem q80_met {G : rfG} (h : okG G) : rf_met G q80_M := rf_methodB h.1 (P := q80_P) (U := q80_U) (N := q80_N) ⟨wflT h flokX6, wcsT h csokX6, wlcT h lcokX6, spokX6 h, List.forall_mem_cons.mpr ⟨q79_met h, List.forall_mem_cons.mpr ⟨q29_met h, List.forall_mem_cons.mpr ⟨q47_met h, fun _ h => absurd h List.not_mem_nil⟩⟩⟩, fun _ h => absurd h List.not_mem_nil, List.forall_mem_cons.mpr ⟨fun M hM => Option.some.inj (show some q29_M = some M from hM) ▸ wlkV (lkX6_46 h) q29_M rfl rfl, List.forall_mem_cons.mpr ⟨fun M hM => Option.some.inj (show some q47_M = some M from hM) ▸ wlkV (lkX6_109 h) q47_M rfl rfl, List.forall_mem_cons.mpr ⟨fun M hM => Option.some.inj (show some q79_M = some M from hM) ▸ wlkV (lkX6_112 h) q79_M rfl rfl, fun _ h => absurd h List.not_mem_nil⟩⟩⟩, fun _ h => absurd h List.not_mem_nil, fun _ h => absurd h List.not_mem_nil⟩ dkX6_readBoth (by decide +kernel) (by rw [h.2.2.1]; exact q80_ok)
/-- NearSpell.Reader.readEither -/
def q81_M : rfM := ((⟨"NearSpell$Reader", "readEither", "(I)V"⟩, prog_8_method_9_code, 3, none), (42,938), ([.inr (.inl [11]),.inl ((2,2,0),none)],[]), [(8,0),(10,11),(10,12),(11,4),(11,5),(11,6),(11,7),(11,9),(11,10)], [(none,[],[])])
def q81_P : rfP := (flX6,csX6,lcX6,spX6,[q80_M,q29_M,q49_M],[],[(46,1,6),(106,0,6),(109,2,1)],([],[]))
def q81_U : rfU := []
set_option maxHeartbeats 8000000 in
def q81_N : List rfB := [(0,([(0,.inr (.inl [11])),(1,.inl ((2,2,0),none))],[],[]),(30424,[0]),0),
  (7,([(0,.inr (.inl [11])),(1,.inl ((2,2,0),none)),(2,.inl ((0,1600,1),none))],[],[]),(30417,[(-19)]),0),
  (47,([(0,.inr (.inl [11])),(1,.inl ((2,2,0),none)),(2,.inl ((0,1600,1),none))],[],[]),(0,[0]),0)]
set_option maxRecDepth 100000 in
theorem q81_ok : rf_chkB q81_P q81_U wLay q81_M ddX6_readEither [(2,[0]),(24,[1]),(29,[0]),(38,[2])] [.inl 2] [0,7,47] 600 q81_N = true := by decide +kernel
set_option maxHeartbeats 4000000 in
theorem q81_met {G : rfG} (h : okG G) : rf_met G q81_M := rf_methodB h.1 (P := q81_P) (U := q81_U) (N := q81_N) ⟨wflT h flokX6, wcsT h csokX6, wlcT h lcokX6, spokX6 h, List.forall_mem_cons.mpr ⟨q80_met h, List.forall_mem_cons.mpr ⟨q29_met h, List.forall_mem_cons.mpr ⟨q49_met h, fun _ h => absurd h List.not_mem_nil⟩⟩⟩, fun _ h => absurd h List.not_mem_nil, List.forall_mem_cons.mpr ⟨fun M hM => Option.some.inj (show some q29_M = some M from hM) ▸ wlkV (lkX6_46 h) q29_M rfl rfl, List.forall_mem_cons.mpr ⟨fun M hM => Option.some.inj (show some q80_M = some M from hM) ▸ wlkV (lkX6_106 h) q80_M rfl rfl, List.forall_mem_cons.mpr ⟨fun M hM => Option.some.inj (show some q49_M = some M from hM) ▸ wlkV (lkX6_109 h) q49_M rfl rfl, fun _ h => absurd h List.not_mem_nil⟩⟩⟩, fun _ h => absurd h List.not_mem_nil, fun _ h => absurd h List.not_mem_nil⟩ dkX6_readEither (by decide +kernel) (by rw [h.2.2.1]; exact q81_ok)
/-- NearSpell.Reader.readUnit -/
def q82_M : rfM := ((⟨"NearSpell$Reader", "readUnit", "(I)V"⟩, prog_8_method_14_code, 4, none), (43,960), ([.inr (.inl [11]),.inl ((1,1,0),none)],[]), [(8,0),(10,11),(10,12),(11,4),(11,5),(11,6),(11,7),(11,9),(11,10)], [(none,[],[])])
def q82_P : rfP := (flX6,csX6,lcX6,spX6,[q31_M,q40_M,q29_M,q81_M,q51_M],[],[(46,2,6),(62,0,6),(78,3,6),(90,4,6),(109,1,1)],([],[]))
def q82_U : rfU := []
set_option maxHeartbeats 8000000 in
def q82_N : List rfB := [(0,([(0,.inr (.inl [11])),(1,.inl ((1,1,0),none))],[],[]),(81,[]),0),
  (15,([(0,.inr (.inl [11])),(1,.inl ((1,1,0),none)),(2,.inl ((0,1,1),none))],[],[]),(72,[]),0),
  (37,([(0,.inr (.inl [11])),(1,.inl ((1,1,0),none)),(2,.inl ((0,1,1),none))],[],[]),(61,[]),0),
  (39,([(0,.inr (.inl [11])),(1,.inl ((1,1,0),none)),(2,.inl ((0,1,1),none)),(3,.inl ((0,1,1),none))],[],[]),(59,[]),0),
  (62,([(0,.inr (.inl [11])),(1,.inl ((1,1,0),none)),(2,.inl ((0,1,1),none)),(3,.inl ((0,1,1),none))],[],[]),(47,[]),0),
  (90,([(0,.inr (.inl [11])),(1,.inl ((1,1,0),none)),(2,.inl ((0,1,1),none)),(3,.inl ((0,1,1),none))],[],[((10,10),(0,29,1),none)]),(37,[]),0),
  (127,([(0,.inr (.inl [11])),(1,.inl ((1,1,0),none)),(2,.inl ((0,0,1),none)),(3,.inl ((0,1,1),none))],[.inl (((-2147483648),2147483647,1),none),.inr (.inl [10])],[((10,10),(1,30,1),none)]),(18,[]),0)]
set_option maxRecDepth 100000 in
theorem q82_ok : rf_chkB q82_P q82_U wLay q82_M ddX6_readUnit [(58,[0]),(86,[0]),(127,[1]),(131,[2]),(136,[2]),(143,[3]),(149,[4])] [] [0,15,37,39,62,90,127] 600 q82_N = true := by decide +kernel
set_option maxHeartbeats 4000000 in
theorem q82_met {G : rfG} (h : okG G) : rf_met G q82_M := rf_methodB h.1 (P := q82_P) (U := q82_U) (N := q82_N) ⟨wflT h flokX6, wcsT h csokX6, wlcT h lcokX6, spokX6 h, List.forall_mem_cons.mpr ⟨q31_met h, List.forall_mem_cons.mpr ⟨q40_met h, List.forall_mem_cons.mpr ⟨q29_met h, List.forall_mem_cons.mpr ⟨q81_met h, List.forall_mem_cons.mpr ⟨q51_met h, fun _ h => absurd h List.not_mem_nil⟩⟩⟩⟩⟩, fun _ h => absurd h List.not_mem_nil, List.forall_mem_cons.mpr ⟨fun M hM => Option.some.inj (show some q29_M = some M from hM) ▸ wlkV (lkX6_46 h) q29_M rfl rfl, List.forall_mem_cons.mpr ⟨fun M hM => Option.some.inj (show some q31_M = some M from hM) ▸ wlkV (lkX6_62 h) q31_M rfl rfl, List.forall_mem_cons.mpr ⟨fun M hM => Option.some.inj (show some q81_M = some M from hM) ▸ wlkV (lkX6_78 h) q81_M rfl rfl, List.forall_mem_cons.mpr ⟨fun M hM => Option.some.inj (show some q51_M = some M from hM) ▸ wlkV (lkX6_90 h) q51_M rfl rfl, List.forall_mem_cons.mpr ⟨fun M hM => Option.some.inj (show some q40_M = some M from hM) ▸ wlkV (lkX6_109 h) q40_M rfl rfl, fun _ h => absurd h List.not_mem_nil⟩⟩⟩⟩⟩, fun _ h => absurd h List.not_mem_nil, fun _ h => absurd h List.not_mem_nil⟩ dkX6_readUnit (by decide +kernel) (by rw [h.2.2.1]; exact q82_ok)
/-- NearSpell.Reader.readTerm -/
def q83_M : rfM := ((⟨"NearSpell$Reader", "readTerm", "(I)V"⟩, prog_8_method_13_code, 4, none), (44,983), ([.inr (.inl [11]),.inl ((1,1,0),none)],[]), [(8,0),(10,11),(10,12),(11,4),(11,5),(11,6),(11,7),(11,9),(11,10)], [(none,[],[])])
def q83_P : rfP := (flX6,csX6,lcX6,spX6,[q82_M,q29_M,q42_M],[],[(46,1,6),(109,2,1),(121,0,6)],([],[]))
def q83_U : rfU := []
set_option maxHeartbeats 8000000 in
def q83_N : List rfB := [(0,([(0,.inr (.inl [11])),(1,.inl ((1,1,0),none))],[],[]),(49636,[0]),0),
  (7,([(0,.inr (.inl [11])),(1,.inl ((1,1,0),none)),(2,.inl ((0,1600,1),none))],[],[]),(49629,[(-31)]),0),
  (41,([(0,.inr (.inl [11])),(1,.inl ((1,1,0),none)),(2,.inl ((0,1599,1),none))],[],[((11,5),(37,47,1),none)]),(49614,[(-31)]),0),
  (70,([(0,.inr (.inl [11])),(1,.inl ((1,1,0),none)),(2,.inl ((0,1600,1),none))],[],[]),(0,[0]),0)]
set_option maxRecDepth 100000 in
theorem q83_ok : rf_chkB q83_P q83_U wLay q83_M ddX6_readTerm [(2,[0]),(47,[1]),(52,[0]),(61,[2])] [.inl 2] [0,7,41,70] 600 q83_N = true := by decide +kernel
set_option maxHeartbeats 4000000 in
theorem q83_met {G : rfG} (h : okG G) : rf_met G q83_M := rf_methodB h.1 (P := q83_P) (U := q83_U) (N := q83_N) ⟨wflT h flokX6, wcsT h csokX6, wlcT h lcokX6, spokX6 h, List.forall_mem_cons.mpr ⟨q82_met h, List.forall_mem_cons.mpr ⟨q29_met h, List.forall_mem_cons.mpr ⟨q42_met h, fun _ h => absurd h List.not_mem_nil⟩⟩⟩, fun _ h => absurd h List.not_mem_nil, List.forall_mem_cons.mpr ⟨fun M hM => Option.some.inj (show some q29_M = some M from hM) ▸ wlkV (lkX6_46 h) q29_M rfl rfl, List.forall_mem_cons.mpr ⟨fun M hM => Option.some.inj (show some q42_M = some M from hM) ▸ wlkV (lkX6_109 h) q42_M rfl rfl, List.forall_mem_cons.mpr ⟨fun M hM => Option.some.inj (show some q82_M = some M from hM) ▸ wlkV (lkX6_121 h) q82_M rfl rfl, fun _ h => absurd h List.not_mem_nil⟩⟩⟩, fun _ h => absurd h List.not_mem_nil, fun _ h => absurd h List.not_mem_nil⟩ dkX6_readTerm (by decide +kernel) (by rw [h.2.2.1]; exact q83_ok)
/-- NearSpell.Reader.readSum -/
def q84_M : rfM := ((⟨"NearSpell$Reader", "readSum", "(I)V"⟩, prog_8_method_12_code, 4, none), (45,1006), ([.inr (.inl [11]),.inl ((1,1,0),none)],[]), [(8,0),(10,11),(10,12),(11,4),(11,5),(11,6),(11,7),(11,9),(11,10)], [(none,[],[])])
def q84_P : rfP := (flX6,csX6,lcX6,spX6,[q83_M,q29_M,q42_M],[],[(46,1,6),(109,2,1),(118,0,6)],([],[]))
def q84_U : rfU := []
set_option maxHeartbeats 8000000 in
def q84_N : List rfB := [(0,([(0,.inr (.inl [11])),(1,.inl ((1,1,0),none))],[],[]),(43232,[0]),0),
  (7,([(0,.inr (.inl [11])),(1,.inl ((1,1,0),none)),(2,.inl ((0,1600,1),none))],[],[]),(43225,[(-27)]),0),
  (32,([(0,.inr (.inl [11])),(1,.inl ((1,1,0),none)),(2,.inl ((0,1599,1),none))],[],[((11,5),(43,45,1),none)]),(43214,[(-27)]),0),
  (61,([(0,.inr (.inl [11])),(1,.inl ((1,1,0),none)),(2,.inl ((0,1600,1),none))],[],[]),(0,[0]),0)]
set_option maxRecDepth 100000 in
theorem q84_ok : rf_chkB q84_P q84_U wLay q84_M ddX6_readSum [(2,[0]),(38,[1]),(43,[0]),(52,[2])] [.inl 2] [0,7,32,61] 600 q84_N = true := by decide +kernel
set_option maxHeartbeats 4000000 in
theorem q84_met {G : rfG} (h : okG G) : rf_met G q84_M := rf_methodB h.1 (P := q84_P) (U := q84_U) (N := q84_N) ⟨wflT h flokX6, wcsT h csokX6, wlcT h lcokX6, spokX6 h, List.forall_mem_cons.mpr ⟨q83_met h, List.forall_mem_cons.mpr ⟨q29_met h, List.forall_mem_cons.mpr ⟨q42_met h, fun _ h => absurd h List.not_mem_nil⟩⟩⟩, fun _ h => absurd h List.not_mem_nil, List.forall_mem_cons.mpr ⟨fun M hM => Option.some.inj (show some q29_M = some M from hM) ▸ wlkV (lkX6_46 h) q29_M rfl rfl, List.forall_mem_cons.mpr ⟨fun M hM => Option.some.inj (show some q42_M = some M from hM) ▸ wlkV (lkX6_109 h) q42_M rfl rfl, List.forall_mem_cons.mpr ⟨fun M hM => Option.some.inj (show some q83_M = some M from hM) ▸ wlkV (lkX6_118 h) q83_M rfl rfl, fun _ h => absurd h List.not_mem_nil⟩⟩⟩, fun _ h => absurd h List.not_mem_nil, fun _ h => absurd h List.not_mem_nil⟩ dkX6_readSum (by decide +kernel) (by rw [h.2.2.1]; exact q84_ok)
/-- NearSpell.Reader.readOne -/
def q85_M : rfM := ((⟨"NearSpell$Reader", "readOne", "(I)V"⟩, prog_8_method_11_code, 3, none), (46,1029), ([.inr (.inl [11]),.inl ((1,1,0),none)],[]), [(8,0),(10,11),(10,12),(11,4),(11,5),(11,6),(11,7),(11,9),(11,10)], [(none,[],[])])
def q85_P : rfP := (flX6,csX6,lcX6,spX6,[q29_M,q79_M,q46_M,q84_M,q42_M],[],[(46,0,6),(109,2,1),(109,4,1),(112,1,6),(115,3,6)],([],[]))
def q85_U : rfU := []
set_option maxHeartbeats 8000000 in
def q85_N : List rfB := [(0,([(0,.inr (.inl [11])),(1,.inl ((1,1,0),none))],[],[]),(44,[]),0),
  (70,([(0,.inr (.inl [11])),(1,.inl ((1,1,0),none)),(2,.inl ((60,62,1),some (.inr (11,5),some 0)))],[],[((11,5),(60,62,1),none)]),(10,[]),0),
  (88,([(0,.inr (.inl [11])),(1,.inl ((1,1,0),none)),(2,.inl (((-128),127,1),none))],[],[]),(0,[]),0)]
set_option maxRecDepth 100000 in
theorem q85_ok : rf_chkB q85_P q85_U wLay q85_M ddX6_readOne [(22,[0]),(29,[1]),(38,[2]),(44,[3]),(71,[0]),(76,[3]),(85,[4])] [] [0,70,88] 600 q85_N = true := by decide +kernel
set_option maxHeartbeats 4000000 in
theorem q85_met {G : rfG} (h : okG G) : rf_met G q85_M := rf_methodB h.1 (P := q85_P) (U := q85_U) (N := q85_N) ⟨wflT h flokX6, wcsT h csokX6, wlcT h lcokX6, spokX6 h, List.forall_mem_cons.mpr ⟨q29_met h, List.forall_mem_cons.mpr ⟨q79_met h, List.forall_mem_cons.mpr ⟨q46_met h, List.forall_mem_cons.mpr ⟨q84_met h, List.forall_mem_cons.mpr ⟨q42_met h, fun _ h => absurd h List.not_mem_nil⟩⟩⟩⟩⟩, fun _ h => absurd h List.not_mem_nil, List.forall_mem_cons.mpr ⟨fun M hM => Option.some.inj (show some q29_M = some M from hM) ▸ wlkV (lkX6_46 h) q29_M rfl rfl, List.forall_mem_cons.mpr ⟨fun M hM => Option.some.inj (show some q46_M = some M from hM) ▸ wlkV (lkX6_109 h) q46_M rfl rfl, List.forall_mem_cons.mpr ⟨fun M hM => Option.some.inj (show some q42_M = some M from hM) ▸ wlkV (lkX6_109 h) q42_M rfl rfl, List.forall_mem_cons.mpr ⟨fun M hM => Option.some.inj (show some q79_M = some M from hM) ▸ wlkV (lkX6_112 h) q79_M rfl rfl, List.forall_mem_cons.mpr ⟨fun M hM => Option.some.inj (show some q84_M = some M from hM) ▸ wlkV (lkX6_115 h) q84_M rfl rfl, fun _ h => absurd h List.not_mem_nil⟩⟩⟩⟩⟩, fun _ h => absurd h List.not_mem_nil, fun _ h => absurd h List.not_mem_nil⟩ dkX6_readOne (by decide +kernel) (by rw [h.2.2.1]; exact q85_ok)
/-- NearSpell.Reader.readBoth -/
def q86_M : rfM := ((⟨"NearSpell$Reader", "readBoth", "(I)V"⟩, prog_8_method_10_code, 3, none), (47,1051), ([.inr (.inl [11]),.inl ((1,1,0),none)],[]), [(8,0),(10,11),(10,12),(11,4),(11,5),(11,6),(11,7),(11,9),(11,10)], [(none,[],[])])
def q86_P : rfP := (flX6,csX6,lcX6,spX6,[q85_M,q29_M,q47_M],[],[(46,1,6),(109,2,1),(112,0,6)],([],[]))
def q86_U : rfU := []
set_option maxHeartbeats 8000000 in
def q86_N : List rfB := [(0,([(0,.inr (.inl [11])),(1,.inl ((1,1,0),none))],[],[]),(30424,[0]),0),
  (7,([(0,.inr (.inl [11])),(1,.inl ((1,1,0),none)),(2,.inl ((0,1600,1),none))],[],[]),(30417,[(-19)]),0),
  (47,([(0,.inr (.inl [11])),(1,.inl ((1,1,0),none)),(2,.inl ((0,1600,1),none))],[],[]),(0,[0]),0)]
set_option maxRecDepth 100000 in
theorem q86_ok : rf_chkB q86_P q86_U wLay q86_M ddX6_readBoth [(2,[0]),(24,[1]),(29,[0]),(38,[2])] [.inl 2] [0,7,47] 600 q86_N = true := by decide +kernel
set_option maxHeartbeats 4000000 in
theorem q86_met {G : rfG} (h : okG G) : rf_met G q86_M := rf_methodB h.1 (P := q86_P) (U := q86_U) (N := q86_N) ⟨wflT h flokX6, wcsT h csokX6, wlcT h lcokX6, spokX6 h, List.forall_mem_cons.mpr ⟨q85_met h, List.forall_mem_cons.mpr ⟨q29_met h, List.forall_mem_cons.mpr ⟨q47_met h, fun _ h => absurd h List.not_mem_nil⟩⟩⟩, fun _ h => absurd h List.not_mem_nil, List.forall_mem_cons.mpr ⟨fun M hM => Option.some.inj (show some q29_M = some M from hM) ▸ wlkV (lkX6_46 h) q29_M rfl rfl, List.forall_mem_cons.mpr ⟨fun M hM => Option.some.inj (show some q47_M = some M from hM) ▸ wlkV (lkX6_109 h) q47_M rfl rfl, List.forall_mem_cons.mpr ⟨fun M hM => Option.some.inj (show some q85_M = some M from hM) ▸ wlkV (lkX6_112 h) q85_M rfl rfl, fun _ h => absurd h List.not_mem_nil⟩⟩⟩, fun _ h => absurd h List.not_mem_nil, fun _ h => absurd h List.not_mem_nil⟩ dkX6_readBoth (by decide +kernel) (by rw [h.2.2.1]; exact q86_ok)
/-- NearSpell.Reader.readEither -/
def q87_M : rfM := ((⟨"NearSpell$Reader", "readEither", "(I)V"⟩, prog_8_method_9_code, 3, none), (48,1073), ([.inr (.inl [11]),.inl ((1,1,0),none)],[]), [(8,0),(10,11),(10,12),(11,4),(11,5),(11,6),(11,7),(11,9),(11,10)], [(none,[],[])])
def q87_P : rfP := (flX6,csX6,lcX6,spX6,[q86_M,q29_M,q49_M],[],[(46,1,6),(106,0,6),(109,2,1)],([],[]))
def q87_U : rfU := []
set_option maxHeartbeats 8000000 in
def q87_N : List rfB := [(0,([(0,.inr (.inl [11])),(1,.inl ((1,1,0),none))],[],[]),(30424,[0]),0),
  (7,([(0,.inr (.inl [11])),(1,.inl ((1,1,0),none)),(2,.inl ((0,1600,1),none))],[],[]),(30417,[(-19)]),0),
  (47,([(0,.inr (.inl [11])),(1,.inl ((1,1,0),none)),(2,.inl ((0,1600,1),none))],[],[]),(0,[0]),0)]
set_option maxRecDepth 100000 in
theorem q87_ok : rf_chkB q87_P q87_U wLay q87_M ddX6_readEither [(2,[0]),(24,[1]),(29,[0]),(38,[2])] [.inl 2] [0,7,47] 600 q87_N = true := by decide +kernel
set_option maxHeartbeats 4000000 in
theorem q87_met {G : rfG} (h : okG G) : rf_met G q87_M := rf_methodB h.1 (P := q87_P) (U := q87_U) (N := q87_N) ⟨wflT h flokX6, wcsT h csokX6, wlcT h lcokX6, spokX6 h, List.forall_mem_cons.mpr ⟨q86_met h, List.forall_mem_cons.mpr ⟨q29_met h, List.forall_mem_cons.mpr ⟨q49_met h, fun _ h => absurd h List.not_mem_nil⟩⟩⟩, fun _ h => absurd h List.not_mem_nil, List.forall_mem_cons.mpr ⟨fun M hM => Option.some.inj (show some q29_M = some M from hM) ▸ wlkV (lkX6_46 h) q29_M rfl rfl, List.forall_mem_cons.mpr ⟨fun M hM => Option.some.inj (show some q86_M = some M from hM) ▸ wlkV (lkX6_106 h) q86_M rfl rfl, List.forall_mem_cons.mpr ⟨fun M hM => Option.some.inj (show some q49_M = some M from hM) ▸ wlkV (lkX6_109 h) q49_M rfl rfl, fun _ h => absurd h List.not_mem_nil⟩⟩⟩, fun _ h => absurd h List.not_mem_nil, fun _ h => absurd h List.not_mem_nil⟩ dkX6_readEither (by decide +kernel) (by rw [h.2.2.1]; exact q87_ok)
/-- NearSpell.Reader.readUnit -/
def q88_M : rfM := ((⟨"NearSpell$Reader", "readUnit", "(I)V"⟩, prog_8_method_14_code, 4, none), (49,1095), ([.inr (.inl [11]),.inl ((0,0,0),none)],[]), [(8,0),(10,11),(10,12),(11,4),(11,5),(11,6),(11,7),(11,9),(11,10)], [(none,[],[])])
def q88_P : rfP := (flX6,csX6,lcX6,spX6,[q31_M,q40_M,q29_M,q87_M,q51_M],[],[(46,2,6),(62,0,6),(78,3,6),(90,4,6),(109,1,1)],([],[]))
def q88_U : rfU := []
set_option maxHeartbeats 8000000 in
def q88_N : List rfB := [(0,([(0,.inr (.inl [11])),(1,.inl ((0,0,0),none))],[],[]),(81,[]),0),
  (15,([(0,.inr (.inl [11])),(1,.inl ((0,0,0),none)),(2,.inl ((0,1,1),none))],[],[]),(72,[]),0),
  (37,([(0,.inr (.inl [11])),(1,.inl ((0,0,0),none)),(2,.inl ((0,1,1),none))],[],[]),(61,[]),0),
  (39,([(0,.inr (.inl [11])),(1,.inl ((0,0,0),none)),(2,.inl ((0,1,1),none)),(3,.inl ((0,1,1),none))],[],[]),(59,[]),0),
  (62,([(0,.inr (.inl [11])),(1,.inl ((0,0,0),none)),(2,.inl ((0,1,1),none)),(3,.inl ((0,1,1),none))],[],[]),(47,[]),0),
  (90,([(0,.inr (.inl [11])),(1,.inl ((0,0,0),none)),(2,.inl ((0,1,1),none)),(3,.inl ((0,1,1),none))],[],[((10,10),(0,29,1),none)]),(37,[]),0),
  (127,([(0,.inr (.inl [11])),(1,.inl ((0,0,0),none)),(2,.inl ((0,0,1),none)),(3,.inl ((0,1,1),none))],[.inl (((-2147483648),2147483647,1),none),.inr (.inl [10])],[((10,10),(1,30,1),none)]),(18,[]),0)]
set_option maxRecDepth 100000 in
theorem q88_ok : rf_chkB q88_P q88_U wLay q88_M ddX6_readUnit [(58,[0]),(86,[0]),(127,[1]),(131,[2]),(136,[2]),(143,[3]),(149,[4])] [] [0,15,37,39,62,90,127] 600 q88_N = true := by decide +kernel
set_option maxHeartbeats 4000000 in
theorem q88_met {G : rfG} (h : okG G) : rf_met G q88_M := rf_methodB h.1 (P := q88_P) (U := q88_U) (N := q88_N) ⟨wflT h flokX6, wcsT h csokX6, wlcT h lcokX6, spokX6 h, List.forall_mem_cons.mpr ⟨q31_met h, List.forall_mem_cons.mpr ⟨q40_met h, List.forall_mem_cons.mpr ⟨q29_met h, List.forall_mem_cons.mpr ⟨q87_met h, List.forall_mem_cons.mpr ⟨q51_met h, fun _ h => absurd h List.not_mem_nil⟩⟩⟩⟩⟩, fun _ h => absurd h List.not_mem_nil, List.forall_mem_cons.mpr ⟨fun M hM => Option.some.inj (show some q29_M = some M from hM) ▸ wlkV (lkX6_46 h) q29_M rfl rfl, List.forall_mem_cons.mpr ⟨fun M hM => Option.some.inj (show some q31_M = some M from hM) ▸ wlkV (lkX6_62 h) q31_M rfl rfl, List.forall_mem_cons.mpr ⟨fun M hM => Option.some.inj (show some q87_M = some M from hM) ▸ wlkV (lkX6_78 h) q87_M rfl rfl, List.forall_mem_cons.mpr ⟨fun M hM => Option.some.inj (show some q51_M = some M from hM) ▸ wlkV (lkX6_90 h) q51_M rfl rfl, List.forall_mem_cons.mpr ⟨fun M hM => Option.some.inj (show some q40_M = some M from hM) ▸ wlkV (lkX6_109 h) q40_M rfl rfl, fun _ h => absurd h List.not_mem_nil⟩⟩⟩⟩⟩, fun _ h => absurd h List.not_mem_nil, fun _ h => absurd h List.not_mem_nil⟩ dkX6_readUnit (by decide +kernel) (by rw [h.2.2.1]; exact q88_ok)
/-- NearSpell.Reader.readTerm -/
def q89_M : rfM := ((⟨"NearSpell$Reader", "readTerm", "(I)V"⟩, prog_8_method_13_code, 4, none), (50,1118), ([.inr (.inl [11]),.inl ((0,0,0),none)],[]), [(8,0),(10,11),(10,12),(11,4),(11,5),(11,6),(11,7),(11,9),(11,10)], [(none,[],[])])
def q89_P : rfP := (flX6,csX6,lcX6,spX6,[q88_M,q29_M,q42_M],[],[(46,1,6),(109,2,1),(121,0,6)],([],[]))
def q89_U : rfU := []
set_option maxHeartbeats 8000000 in
def q89_N : List rfB := [(0,([(0,.inr (.inl [11])),(1,.inl ((0,0,0),none))],[],[]),(49636,[0]),0),
  (7,([(0,.inr (.inl [11])),(1,.inl ((0,0,0),none)),(2,.inl ((0,1600,1),none))],[],[]),(49629,[(-31)]),0),
  (41,([(0,.inr (.inl [11])),(1,.inl ((0,0,0),none)),(2,.inl ((0,1599,1),none))],[],[((11,5),(37,47,1),none)]),(49614,[(-31)]),0),
  (70,([(0,.inr (.inl [11])),(1,.inl ((0,0,0),none)),(2,.inl ((0,1600,1),none))],[],[]),(0,[0]),0)]
set_option maxRecDepth 100000 in
theorem q89_ok : rf_chkB q89_P q89_U wLay q89_M ddX6_readTerm [(2,[0]),(47,[1]),(52,[0]),(61,[2])] [.inl 2] [0,7,41,70] 600 q89_N = true := by decide +kernel
set_option maxHeartbeats 4000000 in
theorem q89_met {G : rfG} (h : okG G) : rf_met G q89_M := rf_methodB h.1 (P := q89_P) (U := q89_U) (N := q89_N) ⟨wflT h flokX6, wcsT h csokX6, wlcT h lcokX6, spokX6 h, List.forall_mem_cons.mpr ⟨q88_met h, List.forall_mem_cons.mpr ⟨q29_met h, List.forall_mem_cons.mpr ⟨q42_met h, fun _ h => absurd h List.not_mem_nil⟩⟩⟩, fun _ h => absurd h List.not_mem_nil, List.forall_mem_cons.mpr ⟨fun M hM => Option.some.inj (show some q29_M = some M from hM) ▸ wlkV (lkX6_46 h) q29_M rfl rfl, List.forall_mem_cons.mpr ⟨fun M hM => Option.some.inj (show some q42_M = some M from hM) ▸ wlkV (lkX6_109 h) q42_M rfl rfl, List.forall_mem_cons.mpr ⟨fun M hM => Option.some.inj (show some q88_M = some M from hM) ▸ wlkV (lkX6_121 h) q88_M rfl rfl, fun _ h => absurd h List.not_mem_nil⟩⟩⟩, fun _ h => absurd h List.not_mem_nil, fun _ h => absurd h List.not_mem_nil⟩ dkX6_readTerm (by decide +kernel) (by rw [h.2.2.1]; exact q89_ok)
/-- NearSpell.Reader.readSum -/
def q90_M : rfM := ((⟨"NearSpell$Reader", "readSum", "(I)V"⟩, prog_8_method_12_code, 4, none), (51,1141), ([.inr (.inl [11]),.inl ((0,0,0),none)],[]), [(8,0),(10,11),(10,12),(11,4),(11,5),(11,6),(11,7),(11,9),(11,10)], [(none,[],[])])
def q90_P : rfP := (flX6,csX6,lcX6,spX6,[q89_M,q29_M,q42_M],[],[(46,1,6),(109,2,1),(118,0,6)],([],[]))
def q90_U : rfU := []
set_option maxHeartbeats 8000000 in
def q90_N : List rfB := [(0,([(0,.inr (.inl [11])),(1,.inl ((0,0,0),none))],[],[]),(43232,[0]),0),
  (7,([(0,.inr (.inl [11])),(1,.inl ((0,0,0),none)),(2,.inl ((0,1600,1),none))],[],[]),(43225,[(-27)]),0),
  (32,([(0,.inr (.inl [11])),(1,.inl ((0,0,0),none)),(2,.inl ((0,1599,1),none))],[],[((11,5),(43,45,1),none)]),(43214,[(-27)]),0),
  (61,([(0,.inr (.inl [11])),(1,.inl ((0,0,0),none)),(2,.inl ((0,1600,1),none))],[],[]),(0,[0]),0)]
set_option maxRecDepth 100000 in
theorem q90_ok : rf_chkB q90_P q90_U wLay q90_M ddX6_readSum [(2,[0]),(38,[1]),(43,[0]),(52,[2])] [.inl 2] [0,7,32,61] 600 q90_N = true := by decide +kernel
set_option maxHeartbeats 4000000 in
theorem q90_met {G : rfG} (h : okG G) : rf_met G q90_M := rf_methodB h.1 (P := q90_P) (U := q90_U) (N := q90_N) ⟨wflT h flokX6, wcsT h csokX6, wlcT h lcokX6, spokX6 h, List.forall_mem_cons.mpr ⟨q89_met h, List.forall_mem_cons.mpr ⟨q29_met h, List.forall_mem_cons.mpr ⟨q42_met h, fun _ h => absurd h List.not_mem_nil⟩⟩⟩, fun _ h => absurd h List.not_mem_nil, List.forall_mem_cons.mpr ⟨fun M hM => Option.some.inj (show some q29_M = some M from hM) ▸ wlkV (lkX6_46 h) q29_M rfl rfl, List.forall_mem_cons.mpr ⟨fun M hM => Option.some.inj (show some q42_M = some M from hM) ▸ wlkV (lkX6_109 h) q42_M rfl rfl, List.forall_mem_cons.mpr ⟨fun M hM => Option.some.inj (show some q89_M = some M from hM) ▸ wlkV (lkX6_118 h) q89_M rfl rfl, fun _ h => absurd h List.not_mem_nil⟩⟩⟩, fun _ h => absurd h List.not_mem_nil, fun _ h => absurd h List.not_mem_nil⟩ dkX6_readSum (by decide +kernel) (by rw [h.2.2.1]; exact q90_ok)
/-- NearSpell.Reader.readOne -/
def q91_M : rfM := ((⟨"NearSpell$Reader", "readOne", "(I)V"⟩, prog_8_method_11_code, 3, none), (52,1164), ([.inr (.inl [11]),.inl ((0,0,0),none)],[]), [(8,0),(10,11),(10,12),(11,4),(11,5),(11,6),(11,7),(11,9),(11,10)], [(none,[],[])])
def q91_P : rfP := (flX6,csX6,lcX6,spX6,[q29_M,q85_M,q46_M,q90_M,q42_M],[],[(46,0,6),(109,2,1),(109,4,1),(112,1,6),(115,3,6)],([],[]))
def q91_U : rfU := []
set_option maxHeartbeats 8000000 in
def q91_N : List rfB := [(0,([(0,.inr (.inl [11])),(1,.inl ((0,0,0),none))],[],[]),(44,[]),0),
  (70,([(0,.inr (.inl [11])),(1,.inl ((0,0,0),none)),(2,.inl ((60,62,1),some (.inr (11,5),some 0)))],[],[((11,5),(60,62,1),none)]),(10,[]),0),
  (88,([(0,.inr (.inl [11])),(1,.inl ((0,0,0),none)),(2,.inl (((-128),127,1),none))],[],[]),(0,[]),0)]
set_option maxRecDepth 100000 in
theorem q91_ok : rf_chkB q91_P q91_U wLay q91_M ddX6_readOne [(22,[0]),(29,[1]),(38,[2]),(44,[3]),(71,[0]),(76,[3]),(85,[4])] [] [0,70,88] 600 q91_N = true := by decide +kernel
set_option maxHeartbeats 4000000 in
theorem q91_met {G : rfG} (h : okG G) : rf_met G q91_M := rf_methodB h.1 (P := q91_P) (U := q91_U) (N := q91_N) ⟨wflT h flokX6, wcsT h csokX6, wlcT h lcokX6, spokX6 h, List.forall_mem_cons.mpr ⟨q29_met h, List.forall_mem_cons.mpr ⟨q85_met h, List.forall_mem_cons.mpr ⟨q46_met h, List.forall_mem_cons.mpr ⟨q90_met h, List.forall_mem_cons.mpr ⟨q42_met h, fun _ h => absurd h List.not_mem_nil⟩⟩⟩⟩⟩, fun _ h => absurd h List.not_mem_nil, List.forall_mem_cons.mpr ⟨fun M hM => Option.some.inj (show some q29_M = some M from hM) ▸ wlkV (lkX6_46 h) q29_M rfl rfl, List.forall_mem_cons.mpr ⟨fun M hM => Option.some.inj (show some q46_M = some M from hM) ▸ wlkV (lkX6_109 h) q46_M rfl rfl, List.forall_mem_cons.mpr ⟨fun M hM => Option.some.inj (show some q42_M = some M from hM) ▸ wlkV (lkX6_109 h) q42_M rfl rfl, List.forall_mem_cons.mpr ⟨fun M hM => Option.some.inj (show some q85_M = some M from hM) ▸ wlkV (lkX6_112 h) q85_M rfl rfl, List.forall_mem_cons.mpr ⟨fun M hM => Option.some.inj (show some q90_M = some M from hM) ▸ wlkV (lkX6_115 h) q90_M rfl rfl, fun _ h => absurd h List.not_mem_nil⟩⟩⟩⟩⟩, fun _ h => absurd h List.not_mem_nil, fun _ h => absurd h List.not_mem_nil⟩ dkX6_readOne (by decide +kernel) (by rw [h.2.2.1]; exact q91_ok)
/-- NearSpell.Reader.readBoth -/
def q92_M : rfM := ((⟨"NearSpell$Reader", "readBoth", "(I)V"⟩, prog_8_method_10_code, 3, none), (53,1186), ([.inr (.inl [11]),.inl ((0,0,0),none)],[]), [(8,0),(10,11),(10,12),(11,4),(11,5),(11,6),(11,7),(11,9),(11,10)], [(none,[],[])])
def q92_P : rfP := (flX6,csX6,lcX6,spX6,[q91_M,q29_M,q47_M],[],[(46,1,6),(109,2,1),(112,0,6)],([],[]))
def q92_U : rfU := []
set_option maxHeartbeats 8000000 in
def q92_N : List rfB := [(0,([(0,.inr (.inl [11])),(1,.inl ((0,0,0),none))],[],[]),(30424,[0]),0),
  (7,([(0,.inr (.inl [11])),(1,.inl ((0,0,0),none)),(2,.inl ((0,1600,1),none))],[],[]),(30417,[(-19)]),0),
  (47,([(0,.inr (.inl [11])),(1,.inl ((0,0,0),none)),(2,.inl ((0,1600,1),none))],[],[]),(0,[0]),0)]
set_option maxRecDepth 100000 in
theorem q92_ok : rf_chkB q92_P q92_U wLay q92_M ddX6_readBoth [(2,[0]),(24,[1]),(29,[0]),(38,[2])] [.inl 2] [0,7,47] 600 q92_N = true := by decide +kernel
set_option maxHeartbeats 4000000 in
theorem q92_met {G : rfG} (h : okG G) : rf_met G q92_M := rf_methodB h.1 (P := q92_P) (U := q92_U) (N := q92_N) ⟨wflT h flokX6, wcsT h csokX6, wlcT h lcokX6, spokX6 h, List.forall_mem_cons.mpr ⟨q91_met h, List.forall_mem_cons.mpr ⟨q29_met h, List.forall_mem_cons.mpr ⟨q47_met h, fun _ h => absurd h List.not_mem_nil⟩⟩⟩, fun _ h => absurd h List.not_mem_nil, List.forall_mem_cons.mpr ⟨fun M hM => Option.some.inj (show some q29_M = some M from hM) ▸ wlkV (lkX6_46 h) q29_M rfl rfl, List.forall_mem_cons.mpr ⟨fun M hM => Option.some.inj (show some q47_M = some M from hM) ▸ wlkV (lkX6_109 h) q47_M rfl rfl, List.forall_mem_cons.mpr ⟨fun M hM => Option.some.inj (show some q91_M = some M from hM) ▸ wlkV (lkX6_112 h) q91_M rfl rfl, fun _ h => absurd h List.not_mem_nil⟩⟩⟩, fun _ h => absurd h List.not_mem_nil, fun _ h => absurd h List.not_mem_nil⟩ dkX6_readBoth (by decide +kernel) (by rw [h.2.2.1]; exact q92_ok)
/-- NearSpell.Reader.readEither -/
def q93_M : rfM := ((⟨"NearSpell$Reader", "readEither", "(I)V"⟩, prog_8_method_9_code, 3, none), (54,1208), ([.inr (.inl [11]),.inl ((0,0,0),none)],[]), [(8,0),(10,11),(10,12),(11,4),(11,5),(11,6),(11,7),(11,9),(11,10)], [(none,[],[])])
def q93_P : rfP := (flX6,csX6,lcX6,spX6,[q92_M,q29_M,q49_M],[],[(46,1,6),(106,0,6),(109,2,1)],([],[]))
def q93_U : rfU := []
set_option maxHeartbeats 8000000 in
def q93_N : List rfB := [(0,([(0,.inr (.inl [11])),(1,.inl ((0,0,0),none))],[],[]),(30424,[0]),0),
  (7,([(0,.inr (.inl [11])),(1,.inl ((0,0,0),none)),(2,.inl ((0,1600,1),none))],[],[]),(30417,[(-19)]),0),
  (47,([(0,.inr (.inl [11])),(1,.inl ((0,0,0),none)),(2,.inl ((0,1600,1),none))],[],[]),(0,[0]),0)]
set_option maxRecDepth 100000 in
theorem q93_ok : rf_chkB q93_P q93_U wLay q93_M ddX6_readEither [(2,[0]),(24,[1]),(29,[0]),(38,[2])] [.inl 2] [0,7,47] 600 q93_N = true := by decide +kernel
set_option maxHeartbeats 4000000 in
theorem q93_met {G : rfG} (h : okG G) : rf_met G q93_M := rf_methodB h.1 (P := q93_P) (U := q93_U) (N := q93_N) ⟨wflT h flokX6, wcsT h csokX6, wlcT h lcokX6, spokX6 h, List.forall_mem_cons.mpr ⟨q92_met h, List.forall_mem_cons.mpr ⟨q29_met h, List.forall_mem_cons.mpr ⟨q49_met h, fun _ h => absurd h List.not_mem_nil⟩⟩⟩, fun _ h => absurd h List.not_mem_nil, List.forall_mem_cons.mpr ⟨fun M hM => Option.some.inj (show some q29_M = some M from hM) ▸ wlkV (lkX6_46 h) q29_M rfl rfl, List.forall_mem_cons.mpr ⟨fun M hM => Option.some.inj (show some q92_M = some M from hM) ▸ wlkV (lkX6_106 h) q92_M rfl rfl, List.forall_mem_cons.mpr ⟨fun M hM => Option.some.inj (show some q49_M = some M from hM) ▸ wlkV (lkX6_109 h) q49_M rfl rfl, fun _ h => absurd h List.not_mem_nil⟩⟩⟩, fun _ h => absurd h List.not_mem_nil, fun _ h => absurd h List.not_mem_nil⟩ dkX6_readEither (by decide +kernel) (by rw [h.2.2.1]; exact q93_ok)
/-- NearSpell.Reader.readNumber -/
def q94_M : rfM := ((⟨"NearSpell$Reader", "readNumber", "(II)I"⟩, prog_8_method_7_code, 4, (some .int)), (7,150), ([.inr (.inl [11]),.inl ((1,1,0),none),.inl ((31,31,0),none)],[]), [(11,4),(11,5),(11,6),(11,7),(11,9),(11,10)], [(some (.inl ((1,31,1),none)),[],[])])
def q94_P : rfP := (flX6,csX6,lcX6,spX6,[q31_M,q32_M,q29_M],[],[(46,2,6),(62,0,6),(62,1,6)],([],[]))
def q94_U : rfU := []
set_option maxHeartbeats 8000000 in
def q94_N : List rfB := [(0,([(0,.inr (.inl [11])),(1,.inl ((1,1,0),none)),(2,.inl ((31,31,0),none))],[],[]),(26,[]),0),
  (31,([(0,.inr (.inl [11])),(1,.inl ((1,1,0),none)),(2,.inl ((31,31,0),none)),(3,.inl (((-2147483648),2147483647,1),some (.inr (11,6),some 0)))],[],[((11,5),(15,15,1),none)]),(4,[]),0)]
set_option maxRecDepth 100000 in
theorem q94_ok : rf_chkB q94_P q94_U wLay q94_M ddX6_readNumber [(16,[0]),(33,[1]),(39,[2])] [] [0,31] 600 q94_N = true := by decide +kernel
set_option maxHeartbeats 4000000 in
theorem q94_met {G : rfG} (h : okG G) : rf_met G q94_M := rf_methodB h.1 (P := q94_P) (U := q94_U) (N := q94_N) ⟨wflT h flokX6, wcsT h csokX6, wlcT h lcokX6, spokX6 h, List.forall_mem_cons.mpr ⟨q31_met h, List.forall_mem_cons.mpr ⟨q32_met h, List.forall_mem_cons.mpr ⟨q29_met h, fun _ h => absurd h List.not_mem_nil⟩⟩⟩, fun _ h => absurd h List.not_mem_nil, List.forall_mem_cons.mpr ⟨fun M hM => Option.some.inj (show some q29_M = some M from hM) ▸ wlkV (lkX6_46 h) q29_M rfl rfl, List.forall_mem_cons.mpr ⟨fun M hM => Option.some.inj (show some q31_M = some M from hM) ▸ wlkV (lkX6_62 h) q31_M rfl rfl, List.forall_mem_cons.mpr ⟨fun M hM => Option.some.inj (show some q32_M = some M from hM) ▸ wlkV (lkX6_62 h) q32_M rfl rfl, fun _ h => absurd h List.not_mem_nil⟩⟩⟩, fun _ h => absurd h List.not_mem_nil, fun _ h => absurd h List.not_mem_nil⟩ dkX6_readNumber (by decide +kernel) (by rw [h.2.2.1]; exact q94_ok)
/-- NearSpell.Reader.readNumber -/
def q95_M : rfM := ((⟨"NearSpell$Reader", "readNumber", "(II)I"⟩, prog_8_method_7_code, 4, (some .int)), (7,150), ([.inr (.inl [11]),.inl ((0,0,0),none),.inl ((100,100,0),none)],[]), [(11,4),(11,5),(11,6),(11,7),(11,9),(11,10)], [(some (.inl ((0,100,1),none)),[],[])])
def q95_P : rfP := (flX6,csX6,lcX6,spX6,[q31_M,q32_M,q29_M],[],[(46,2,6),(62,0,6),(62,1,6)],([],[]))
def q95_U : rfU := []
set_option maxHeartbeats 8000000 in
def q95_N : List rfB := [(0,([(0,.inr (.inl [11])),(1,.inl ((0,0,0),none)),(2,.inl ((100,100,0),none))],[],[]),(26,[]),0),
  (31,([(0,.inr (.inl [11])),(1,.inl ((0,0,0),none)),(2,.inl ((100,100,0),none)),(3,.inl (((-2147483648),2147483647,1),some (.inr (11,6),some 0)))],[],[((11,5),(15,15,1),none)]),(4,[]),0)]
set_option maxRecDepth 100000 in
theorem q95_ok : rf_chkB q95_P q95_U wLay q95_M ddX6_readNumber [(16,[0]),(33,[1]),(39,[2])] [] [0,31] 600 q95_N = true := by decide +kernel
set_option maxHeartbeats 4000000 in
theorem q95_met {G : rfG} (h : okG G) : rf_met G q95_M := rf_methodB h.1 (P := q95_P) (U := q95_U) (N := q95_N) ⟨wflT h flokX6, wcsT h csokX6, wlcT h lcokX6, spokX6 h, List.forall_mem_cons.mpr ⟨q31_met h, List.forall_mem_cons.mpr ⟨q32_met h, List.forall_mem_cons.mpr ⟨q29_met h, fun _ h => absurd h List.not_mem_nil⟩⟩⟩, fun _ h => absurd h List.not_mem_nil, List.forall_mem_cons.mpr ⟨fun M hM => Option.some.inj (show some q29_M = some M from hM) ▸ wlkV (lkX6_46 h) q29_M rfl rfl, List.forall_mem_cons.mpr ⟨fun M hM => Option.some.inj (show some q31_M = some M from hM) ▸ wlkV (lkX6_62 h) q31_M rfl rfl, List.forall_mem_cons.mpr ⟨fun M hM => Option.some.inj (show some q32_M = some M from hM) ▸ wlkV (lkX6_62 h) q32_M rfl rfl, fun _ h => absurd h List.not_mem_nil⟩⟩⟩, fun _ h => absurd h List.not_mem_nil, fun _ h => absurd h List.not_mem_nil⟩ dkX6_readNumber (by decide +kernel) (by rw [h.2.2.1]; exact q95_ok)
/-- NearSpell.Reader.expect -/
def q96_M : rfM := ((⟨"NearSpell$Reader", "expect", "(I)V"⟩, prog_8_method_8_code, 2, none), (7,150), ([.inr (.inl [11]),.inl ((59,59,0),none)],[]), [(11,4),(11,5),(11,6),(11,7),(11,9),(11,10)], [(none,[],[])])
def q96_P : rfP := (flX6,csX6,lcX6,spX6,[q29_M,q31_M],[],[(46,0,6),(62,1,6)],([],[]))
def q96_U : rfU := []
set_option maxHeartbeats 8000000 in
def q96_N : List rfB := [(0,([(0,.inr (.inl [11])),(1,.inl ((59,59,0),none))],[],[]),(10,[]),0),
  (20,([(0,.inr (.inl [11])),(1,.inl ((59,59,0),none))],[],[]),(0,[]),0)]
set_option maxRecDepth 100000 in
theorem q96_ok : rf_chkB q96_P q96_U wLay q96_M ddX6_expect [(9,[0]),(17,[1])] [] [0,20] 600 q96_N = true := by decide +kernel
set_option maxHeartbeats 4000000 in
theorem q96_met {G : rfG} (h : okG G) : rf_met G q96_M := rf_methodB h.1 (P := q96_P) (U := q96_U) (N := q96_N) ⟨wflT h flokX6, wcsT h csokX6, wlcT h lcokX6, spokX6 h, List.forall_mem_cons.mpr ⟨q29_met h, List.forall_mem_cons.mpr ⟨q31_met h, fun _ h => absurd h List.not_mem_nil⟩⟩, fun _ h => absurd h List.not_mem_nil, List.forall_mem_cons.mpr ⟨fun M hM => Option.some.inj (show some q29_M = some M from hM) ▸ wlkV (lkX6_46 h) q29_M rfl rfl, List.forall_mem_cons.mpr ⟨fun M hM => Option.some.inj (show some q31_M = some M from hM) ▸ wlkV (lkX6_62 h) q31_M rfl rfl, fun _ h => absurd h List.not_mem_nil⟩⟩, fun _ h => absurd h List.not_mem_nil, fun _ h => absurd h List.not_mem_nil⟩ dkX6_expect (by decide +kernel) (by rw [h.2.2.1]; exact q96_ok)
/-- NearSpell.Reader.readLine -/
def q97_M : rfM := ((⟨"NearSpell$Reader", "readLine", "()V"⟩, prog_8_method_4_code, 2, none), (55,1230), ([.inr (.inl [11])],[]), [(6,0),(7,0),(8,0),(10,5),(10,6),(10,7),(10,8),(10,9),(10,10),(10,11),(10,12),(11,4),(11,5),(11,6),(11,7),(11,8),(11,9),(11,10)], [(none,[],[])])
def ddX6_readLine : List (Nat × Instr × Nat) := [(0,.aload_n 0,1),(1,.getfield 49,3),(4,.istore_n 1,1),(5,.iload_n 1,1),(6,.ifCond .lt 17,3),(9,.iload_n 1,1),(10,.bipush 6,2),(12,.if_icmp .gt 11,3),(15,.aload_n 0,1),(16,.iload_n 1,1),(17,.invokevirtual 58,3),(20,.ifCond .eq 9,3),(23,.aload_n 0,1),(24,.iconst 2,1),(25,.invokevirtual 62,3),(28,.return_,1),(29,.aload_n 0,1),(30,.dup,1),(31,.getfield 43,3),(34,.iconst 1,1),(35,.iload_n 1,1),(36,.ishl,1),(37,.ior,1),(38,.putfield 43,3),(41,.aload_n 0,1),(42,.invokevirtual 46,3),(45,.iload_n 1,1),(46,.tableswitch 120 0 5 #[38, 45, 62, 78, 86, 103],38),(84,.aload_n 0,1),(85,.invokevirtual 66,3),(88,.goto 93,3),(91,.aload_n 0,1),(92,.getfield 15,3),(95,.aload_n 0,1),(96,.iconst 1,1),(97,.bipush 6,2),(99,.invokevirtual 69,3),(102,.putfield 72,3),(105,.goto 76,3),(108,.aload_n 0,1),(109,.getfield 15,3),(112,.aload_n 0,1),(113,.iconst 0,1),(114,.iconst 2,1),(115,.invokevirtual 69,3),(118,.putfield 75,3),(121,.goto 60,3),(124,.aload_n 0,1),(125,.iconst 0,1),(126,.invokevirtual 78,3),(129,.goto 52,3),(132,.aload_n 0,1),(133,.getfield 15,3),(136,.aload_n 0,1),(137,.iconst 1,1),(138,.bipush 31,2),(140,.invokevirtual 69,3),(143,.putfield 81,3),(146,.goto 35,3),(149,.aload_n 0,1),(150,.getfield 15,3),(153,.aload_n 0,1),(154,.iconst 0,1),(155,.bipush 100,2),(157,.invokevirtual 69,3),(160,.putfield 84,3),(163,.goto 18,3),(166,.aload_n 0,1),(167,.getfield 15,3),(170,.aload_n 0,1),(171,.iconst 0,1),(172,.sipush 999,3),(175,.invokevirtual 69,3),(178,.putfield 87,3),(181,.aload_n 0,1),(182,.bipush 59,2),(184,.invokevirtual 90,3),(187,.return_,1)]
set_option maxRecDepth 100000 in
theorem dkX6_readLine : rf_decs prog_8_method_4_code ddX6_readLine := rf_decs_of (by decide +kernel)
def q97_P : rfP := (flX6,csX6,lcX6,spX6,[q30_M,q31_M,q29_M,q37_M,q38_M,q39_M,q93_M,q94_M,q95_M,q35_M,q96_M],[],[(46,2,6),(58,0,6),(62,1,6),(66,3,6),(69,4,6),(69,5,6),(69,7,6),(69,8,6),(69,9,6),(78,6,6),(90,10,6)],([],[]))
def q97_U : rfU := []
set_option maxHeartbeats 8000000 in
def q97_N : List rfB := [(0,([(0,.inr (.inl [11]))],[],[]),(78,[]),0),
  (23,([(0,.inr (.inl [11])),(1,.inl (((-128),127,1),some (.inr (11,5),some 0)))],[],[]),(3,[]),0),
  (181,([(0,.inr (.inl [11])),(1,.inl ((0,6,1),none))],[],[]),(8,[]),0)]
set_option maxRecDepth 100000 in
theorem q97_ok : rf_chkB q97_P q97_U wLay q97_M ddX6_readLine [(17,[0]),(25,[1]),(42,[2]),(85,[3]),(99,[4]),(115,[5]),(126,[6]),(140,[7]),(157,[8]),(175,[9]),(184,[10])] [] [0,23,181] 600 q97_N = true := by decide +kernel
set_option maxHeartbeats 4000000 in
theorem q97_met {G : rfG} (h : okG G) : rf_met G q97_M := rf_methodB h.1 (P := q97_P) (U := q97_U) (N := q97_N) ⟨wflT h flokX6, wcsT h csokX6, wlcT h lcokX6, spokX6 h, List.forall_mem_cons.mpr ⟨q30_met h, List.forall_mem_cons.mpr ⟨q31_met h, List.forall_mem_cons.mpr ⟨q29_met h, List.forall_mem_cons.mpr ⟨q37_met h, List.forall_mem_cons.mpr ⟨q38_met h, List.forall_mem_cons.mpr ⟨q39_met h, List.forall_mem_cons.mpr ⟨q93_met h, List.forall_mem_cons.mpr ⟨q94_met h, List.forall_mem_cons.mpr ⟨q95_met h, List.forall_mem_cons.mpr ⟨q35_met h, List.forall_mem_cons.mpr ⟨q96_met h, fun _ h => absurd h List.not_mem_nil⟩⟩⟩⟩⟩⟩⟩⟩⟩⟩⟩, fun _ h => absurd h List.not_mem_nil, List.forall_mem_cons.mpr ⟨fun M hM => Option.some.inj (show some q29_M = some M from hM) ▸ wlkV (lkX6_46 h) q29_M rfl rfl, List.forall_mem_cons.mpr ⟨fun M hM => Option.some.inj (show some q30_M = some M from hM) ▸ wlkV (lkX6_58 h) q30_M rfl rfl, List.forall_mem_cons.mpr ⟨fun M hM => Option.some.inj (show some q31_M = some M from hM) ▸ wlkV (lkX6_62 h) q31_M rfl rfl, List.forall_mem_cons.mpr ⟨fun M hM => Option.some.inj (show some q37_M = some M from hM) ▸ wlkV (lkX6_66 h) q37_M rfl rfl, List.forall_mem_cons.mpr ⟨fun M hM => Option.some.inj (show some q38_M = some M from hM) ▸ wlkV (lkX6_69 h) q38_M rfl rfl, List.forall_mem_cons.mpr ⟨fun M hM => Option.some.inj (show some q39_M = some M from hM) ▸ wlkV (lkX6_69 h) q39_M rfl rfl, List.forall_mem_cons.mpr ⟨fun M hM => Option.some.inj (show some q94_M = some M from hM) ▸ wlkV (lkX6_69 h) q94_M rfl rfl, List.forall_mem_cons.mpr ⟨fun M hM => Option.some.inj (show some q95_M = some M from hM) ▸ wlkV (lkX6_69 h) q95_M rfl rfl, List.forall_mem_cons.mpr ⟨fun M hM => Option.some.inj (show some q35_M = some M from hM) ▸ wlkV (lkX6_69 h) q35_M rfl rfl, List.forall_mem_cons.mpr ⟨fun M hM => Option.some.inj (show some q93_M = some M from hM) ▸ wlkV (lkX6_78 h) q93_M rfl rfl, List.forall_mem_cons.mpr ⟨fun M hM => Option.some.inj (show some q96_M = some M from hM) ▸ wlkV (lkX6_90 h) q96_M rfl rfl, fun _ h => absurd h List.not_mem_nil⟩⟩⟩⟩⟩⟩⟩⟩⟩⟩⟩, fun _ h => absurd h List.not_mem_nil, fun _ h => absurd h List.not_mem_nil⟩ dkX6_readLine (by decide +kernel) (by rw [h.2.2.1]; exact q97_ok)
/-- NearSpell.Reader.readText -/
def q98_M : rfM := ((⟨"NearSpell$Reader", "readText", "(I)Z"⟩, prog_8_method_2_code, 3, (some .boolean)), (56,1251), ([.inr (.inl [11]),.inl ((0,1600,1),none)],[]), [(6,0),(7,0),(8,0),(10,5),(10,6),(10,7),(10,8),(10,9),(10,10),(10,11),(10,12),(10,13),(11,3),(11,4),(11,5),(11,6),(11,7),(11,8),(11,9),(11,10)], [(some (.inl ((1,1,0),none)),[],[((10,12),(0,0,0),none),((11,8),(0,0,1),none)]),(some (.inl ((0,0,0),none)),[],[((10,12),(0,0,0),none),((11,8),(1,4,1),none)])])
def ddX6_readText : List (Nat × Instr × Nat) := [(0,.aload_n 0,1),(1,.getfield 15,3),(4,.invokevirtual 26,3),(7,.aload_n 0,1),(8,.iload_n 1,1),(9,.aload_n 0,1),(10,.getfield 9,3),(13,.arraylength,1),(14,.invokestatic 31,3),(17,.putfield 37,3),(20,.aload_n 0,1),(21,.iconst 0,1),(22,.putfield 40,3),(25,.aload_n 0,1),(26,.iconst 0,1),(27,.putfield 43,3),(30,.aload_n 0,1),(31,.iconst 0,1),(32,.putfield 19,3),(35,.aload_n 0,1),(36,.iconst (-1),1),(37,.putfield 23,3),(40,.aload_n 0,1),(41,.invokevirtual 46,3),(44,.iconst 0,1),(45,.istore_n 2,1),(46,.iload_n 2,1),(47,.sipush 1600,3),(50,.if_icmp .gt 29,3),(53,.aload_n 0,1),(54,.getfield 49,3),(57,.bipush 16,2),(59,.if_icmp .eq 20,3),(62,.aload_n 0,1),(63,.getfield 19,3),(66,.ifCond .ne 13,3),(69,.aload_n 0,1),(70,.invokevirtual 52,3),(73,.iinc 2 1,3),(76,.goto (-30),3),(79,.aload_n 0,1),(80,.getfield 19,3),(83,.ifCond .ne 7,3),(86,.iconst 1,1),(87,.goto 4,3),(90,.iconst 0,1),(91,.ireturn,1)]
set_option maxRecDepth 100000 in
theorem dkX6_readText : rf_decs prog_8_method_2_code ddX6_readText := rf_decs_of (by decide +kernel)
def q98_P : rfP := (flX6,csX6,lcX6,spX6,[q3_M,q29_M,q97_M],[],[(26,0,1),(46,1,6),(52,2,6)],([],[(31,1)]))
def q98_U : rfU := []
set_option maxHeartbeats 8000000 in
def q98_N : List rfB := [(0,([(0,.inr (.inl [11])),(1,.inl ((0,1600,1),none))],[],[]),(24063,[0]),0),
  (46,([(0,.inr (.inl [11])),(1,.inl ((0,1600,1),none)),(2,.inl ((0,1601,1),none))],[],[((10,12),(0,0,0),none)]),(24035,[(-15)]),0),
  (79,([(0,.inr (.inl [11])),(1,.inl ((0,1600,1),none)),(2,.inl ((0,1601,1),none))],[],[((10,12),(0,0,0),none)]),(7,[0]),0)]
set_option maxRecDepth 100000 in
theorem q98_ok : rf_chkB q98_P q98_U wLay q98_M ddX6_readText [(4,[0]),(41,[1]),(70,[2])] [.inl 2] [0,46,79] 600 q98_N = true := by decide +kernel
set_option maxHeartbeats 4000000 in
theorem q98_met {G : rfG} (h : okG G) : rf_met G q98_M := rf_methodB h.1 (P := q98_P) (U := q98_U) (N := q98_N) ⟨wflT h flokX6, wcsT h csokX6, wlcT h lcokX6, spokX6 h, List.forall_mem_cons.mpr ⟨q3_met h, List.forall_mem_cons.mpr ⟨q29_met h, List.forall_mem_cons.mpr ⟨q97_met h, fun _ h => absurd h List.not_mem_nil⟩⟩⟩, fun _ h => absurd h List.not_mem_nil, List.forall_mem_cons.mpr ⟨fun M hM => Option.some.inj (show some q3_M = some M from hM) ▸ wlkV (lkX6_26 h) q3_M rfl rfl, List.forall_mem_cons.mpr ⟨fun M hM => Option.some.inj (show some q29_M = some M from hM) ▸ wlkV (lkX6_46 h) q29_M rfl rfl, List.forall_mem_cons.mpr ⟨fun M hM => Option.some.inj (show some q97_M = some M from hM) ▸ wlkV (lkX6_52 h) q97_M rfl rfl, fun _ h => absurd h List.not_mem_nil⟩⟩⟩, fun _ h => absurd h List.not_mem_nil, List.forall_mem_cons.mpr ⟨⟨wmT h (wm130), fun h => absurd h (by decide), fun _ => ⟨wmT h (wm556), wmT h (wm557), wmT h (wm558)⟩, fun h => absurd h (by decide)⟩, fun _ h => absurd h List.not_mem_nil⟩⟩ dkX6_readText (by decide +kernel) (by rw [h.2.2.1]; exact q98_ok)
/-- NearSpell.Book.takeOver -/
def q99_M : rfM := ((⟨"NearSpell$Book", "takeOver", "(LNearSpell$Book;)V"⟩, prog_3_method_3_code, 2, none), (1,18), ([.inr (.inl [5]),.inr (.inl [10])],[]), [(1,0),(2,0),(3,0),(5,5),(5,6),(5,7),(5,8),(5,9),(5,10),(5,11),(5,12)], [(none,[],[])])
def ddX1_takeOver : List (Nat × Instr × Nat) := [(0,.aload_n 1,1),(1,.getfield 9,3),(4,.iconst 0,1),(5,.aload_n 0,1),(6,.getfield 9,3),(9,.iconst 0,1),(10,.bipush 10,2),(12,.invokestatic 55,3),(15,.aload_n 1,1),(16,.getfield 15,3),(19,.iconst 0,1),(20,.aload_n 0,1),(21,.getfield 15,3),(24,.iconst 0,1),(25,.bipush 10,2),(27,.invokestatic 55,3),(30,.aload_n 1,1),(31,.getfield 18,3),(34,.iconst 0,1),(35,.aload_n 0,1),(36,.getfield 18,3),(39,.iconst 0,1),(40,.sipush 300,3),(43,.invokestatic 55,3),(46,.aload_n 0,1),(47,.aload_n 1,1),(48,.getfield 27,3),(51,.putfield 27,3),(54,.aload_n 0,1),(55,.aload_n 1,1),(56,.getfield 31,3),(59,.putfield 31,3),(62,.aload_n 0,1),(63,.aload_n 1,1),(64,.getfield 34,3),(67,.putfield 34,3),(70,.aload_n 0,1),(71,.aload_n 1,1),(72,.getfield 37,3),(75,.putfield 37,3),(78,.aload_n 0,1),(79,.aload_n 1,1),(80,.getfield 40,3),(83,.putfield 40,3),(86,.aload_n 0,1),(87,.aload_n 1,1),(88,.getfield 43,3),(91,.putfield 43,3),(94,.aload_n 0,1),(95,.aload_n 1,1),(96,.getfield 46,3),(99,.putfield 46,3),(102,.aload_n 0,1),(103,.aload_n 1,1),(104,.getfield 49,3),(107,.putfield 49,3),(110,.return_,1)]
set_option maxRecDepth 100000 in
theorem dkX1_takeOver : rf_decs prog_3_method_3_code ddX1_takeOver := rf_decs_of (by decide +kernel)
def q99_P : rfP := (flX1,csX1,lcX1,spX1,[],[],[],([55],[]))
def q99_U : rfU := []
set_option maxHeartbeats 8000000 in
def q99_N : List rfB := [(0,([(0,.inr (.inl [5])),(1,.inr (.inl [10]))],[],[]),(56,[]),0)]
set_option maxRecDepth 100000 in
theorem q99_ok : rf_chkB q99_P q99_U wLay q99_M ddX1_takeOver [] [] [0] 600 q99_N = true := by decide +kernel
set_option maxHeartbeats 4000000 in
theorem q99_met {G : rfG} (h : okG G) : rf_met G q99_M := rf_methodB h.1 (P := q99_P) (U := q99_U) (N := q99_N) ⟨wflT h flokX1, wcsT h csokX1, wlcT h lcokX1, spokX1 h, fun _ h => absurd h List.not_mem_nil, fun _ h => absurd h List.not_mem_nil, fun _ h => absurd h List.not_mem_nil, List.forall_mem_cons.mpr ⟨⟨wmT h (wm753), wmT h (wm755), wmT h (wm754), wmT h (wm136)⟩, fun _ h => absurd h List.not_mem_nil⟩, fun _ h => absurd h List.not_mem_nil⟩ dkX1_takeOver (by decide +kernel) (by rw [h.2.2.1]; exact q99_ok)
