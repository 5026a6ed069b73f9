/-- NearSpell.Web.sumFrom -/
def q412_M : rfM := ((⟨"NearSpell$Web", "sumFrom", "(I)I"⟩, prog_11_method_12_code, 4, (some .int)), (1,22), ([.inr (.inl [61]),.inl ((0,12,1),none)],[]), [], [(some (.inl (((-2147483648),2147483647,1),none)),[],[])])
def q412_P : rfP := (flX9,csX9,lcX9,spX9,[q321_M],[],[(50,0,9)],([],[]))
def q412_U : rfU := []
set_option maxHeartbeats 8000000 in
def q412_N : List rfB := [(0,([(0,.inr (.inl [61])),(1,.inl ((0,12,1),none))],[],[]),(410,[0]),0),
  (4,([(0,.inr (.inl [61])),(1,.inl ((0,12,1),none)),(2,.inl (((-2147483648),2147483647,1),none)),(3,.inl ((0,14,1),none))],[],[]),(404,[(-27)]),0),
  (41,([(0,.inr (.inl [61])),(1,.inl ((0,12,1),none)),(2,.inl (((-2147483648),2147483647,1),none)),(3,.inl ((0,13,1),none))],[],[]),(380,[(-27)]),0)]
set_option maxRecDepth 100000 in
theorem q412_ok : rf_chkB q412_P q412_U wLay q412_M ddX9_sumFrom [(21,[0])] [.inl 3] [0,4,41] 600 q412_N = true := by decide +kernel
set_option maxHeartbeats 4000000 in
theorem q412_met {G : rfG} (h : okG G) (hh : wHandOK G) : rf_met G q412_M := rf_methodB h.1 (P := q412_P) (U := q412_U) (N := q412_N) ⟨wflT h flokX9, wcsT h csokX9, wlcT h lcokX9, spokX9 h, List.forall_mem_cons.mpr ⟨q321_met h hh, fun _ h => absurd h List.not_mem_nil⟩, fun _ h => absurd h List.not_mem_nil, List.forall_mem_cons.mpr ⟨fun M hM => Option.some.inj (show some q321_M = some M from hM) ▸ wlkV (lkX9_50 h) q321_M rfl rfl, fun _ h => absurd h List.not_mem_nil⟩, fun _ h => absurd h List.not_mem_nil, fun _ h => absurd h List.not_mem_nil⟩ dkX9_sumFrom (by decide +kernel) (by rw [h.2.2.1]; exact q412_ok)
/-- NearSpell.Web.sumFrom -/
def q413_M : rfM := ((⟨"NearSpell$Web", "sumFrom", "(I)I"⟩, prog_11_method_12_code, 4, (some .int)), (1,22), ([.inr (.inl [61]),.inl ((0,13,1),none)],[]), [], [(some (.inl (((-2147483648),2147483647,1),none)),[],[])])
def q413_P : rfP := (flX9,csX9,lcX9,spX9,[q321_M],[],[(50,0,9)],([],[]))
def q413_U : rfU := []
set_option maxHeartbeats 8000000 in
def q413_N : List rfB := [(0,([(0,.inr (.inl [61])),(1,.inl ((0,13,1),none))],[],[]),(410,[0]),0),
  (4,([(0,.inr (.inl [61])),(1,.inl ((0,13,1),none)),(2,.inl (((-2147483648),2147483647,1),none)),(3,.inl ((0,14,1),none))],[],[]),(404,[(-27)]),0),
  (41,([(0,.inr (.inl [61])),(1,.inl ((0,13,1),none)),(2,.inl (((-2147483648),2147483647,1),none)),(3,.inl ((0,13,1),none))],[],[]),(380,[(-27)]),0)]
set_option maxRecDepth 100000 in
theorem q413_ok : rf_chkB q413_P q413_U wLay q413_M ddX9_sumFrom [(21,[0])] [.inl 3] [0,4,41] 600 q413_N = true := by decide +kernel
set_option maxHeartbeats 4000000 in
theorem q413_met {G : rfG} (h : okG G) (hh : wHandOK G) : rf_met G q413_M := rf_methodB h.1 (P := q413_P) (U := q413_U) (N := q413_N) ⟨wflT h flokX9, wcsT h csokX9, wlcT h lcokX9, spokX9 h, List.forall_mem_cons.mpr ⟨q321_met h hh, fun _ h => absurd h List.not_mem_nil⟩, fun _ h => absurd h List.not_mem_nil, List.forall_mem_cons.mpr ⟨fun M hM => Option.some.inj (show some q321_M = some M from hM) ▸ wlkV (lkX9_50 h) q321_M rfl rfl, fun _ h => absurd h List.not_mem_nil⟩, fun _ h => absurd h List.not_mem_nil, fun _ h => absurd h List.not_mem_nil⟩ dkX9_sumFrom (by decide +kernel) (by rw [h.2.2.1]; exact q413_ok)
/-- NearSpell.Web.middleEntry -/
def q414_M : rfM := ((⟨"NearSpell$Web", "middleEntry", "()I"⟩, prog_11_method_11_code, 5, (some .int)), (5,114), ([.inr (.inl [61])],[]), [(17,0),(18,0),(19,0),(20,4),(20,5),(59,0),(61,5)], [(some (.inl (((-1),13,1),none)),[],[((61,4),(0,2147483647,1),none)])])
def ddX9_middleEntry : List (Nat × Instr × Nat) := [(0,.aload_n 0,1),(1,.invokevirtual 57,3),(4,.iconst (-1),1),(5,.istore_n 1,1),(6,.bipush 85,2),(8,.istore_n 2,1),(9,.iconst 0,1),(10,.istore_n 3,1),(11,.iload_n 3,1),(12,.bipush 14,2),(14,.if_icmp .ge 43,3),(17,.aload_n 0,1),(18,.aload_n 0,1),(19,.getfield 26,3),(22,.iload_n 3,1),(23,.invokevirtual 50,3),(26,.ifCond .eq 11,3),(29,.aload_n 0,1),(30,.iload_n 3,1),(31,.invokevirtual 69,3),(34,.goto 4,3),(37,.iload_n 2,1),(38,.istore 4,2),(40,.iload 4,2),(42,.iload_n 2,1),(43,.if_icmp .ge 8,3),(46,.iload_n 3,1),(47,.istore_n 1,1),(48,.iload 4,2),(50,.istore_n 2,1),(51,.iinc 3 1,3),(54,.goto (-43),3),(57,.iload_n 1,1),(58,.ireturn,1)]
set_option maxRecDepth 100000 in
theorem dkX9_middleEntry : rf_decs prog_11_method_11_code ddX9_middleEntry := rf_decs_of (by decide +kernel)
def q414_P : rfP := (flX9,csX9,lcX9,spX9,[q323_M,q321_M,q413_M],[],[(50,1,9),(57,0,9),(69,2,9)],([],[]))
def q414_U : rfU := []
set_option maxHeartbeats 8000000 in
def q414_N : List rfB := [(0,([(0,.inr (.inl [61]))],[],[]),(399,[0]),0),
  (11,([(0,.inr (.inl [61])),(1,.inl (((-1),13,1),none)),(2,.inl (((-2147483648),85,1),none)),(3,.inl ((0,14,1),none))],[],[((61,4),(0,2147483647,1),none)]),(389,[(-26)]),0),
  (38,([(0,.inr (.inl [61])),(1,.inl (((-1),13,1),none)),(2,.inl (((-2147483648),85,1),none)),(3,.inl ((0,13,1),none))],[.inl (((-2147483648),2147483647,1),none)],[((61,4),(0,2147483647,1),none)]),(374,[(-26)]),0),
  (51,([(0,.inr (.inl [61])),(1,.inl (((-1),13,1),none)),(2,.inl (((-2147483648),85,1),none)),(3,.inl ((0,13,1),none)),(4,.inl (((-2147483648),2147483647,1),none))],[],[((61,4),(0,2147483647,1),none)]),(366,[(-26)]),0)]
set_option maxRecDepth 100000 in
theorem q414_ok : rf_chkB q414_P q414_U wLay q414_M ddX9_middleEntry [(1,[0]),(23,[1]),(31,[2])] [.inl 3] [0,11,38,51] 600 q414_N = true := by decide +kernel
set_option maxHeartbeats 4000000 in
theorem q414_met {G : rfG} (h : okG G) (hh : wHandOK G) : rf_met G q414_M := rf_methodB h.1 (P := q414_P) (U := q414_U) (N := q414_N) ⟨wflT h flokX9, wcsT h csokX9, wlcT h lcokX9, spokX9 h, List.forall_mem_cons.mpr ⟨q323_met h hh, List.forall_mem_cons.mpr ⟨q321_met h hh, List.forall_mem_cons.mpr ⟨q413_met h hh, fun _ h => absurd h List.not_mem_nil⟩⟩⟩, fun _ h => absurd h List.not_mem_nil, List.forall_mem_cons.mpr ⟨fun M hM => Option.some.inj (show some q321_M = some M from hM) ▸ wlkV (lkX9_50 h) q321_M rfl rfl, List.forall_mem_cons.mpr ⟨fun M hM => Option.some.inj (show some q323_M = some M from hM) ▸ wlkV (lkX9_57 h) q323_M rfl rfl, List.forall_mem_cons.mpr ⟨fun M hM => Option.some.inj (show some q413_M = some M from hM) ▸ wlkV (lkX9_69 h) q413_M rfl rfl, fun _ h => absurd h List.not_mem_nil⟩⟩⟩, fun _ h => absurd h List.not_mem_nil, fun _ h => absurd h List.not_mem_nil⟩ dkX9_middleEntry (by decide +kernel) (by rw [h.2.2.1]; exact q414_ok)
/-- NearSpell.middle -/
def q415_M : rfM := ((⟨"NearSpell", "middle", "()I"⟩, prog_1_method_29_code, 1, (some .int)), (6,138), ([.inr (.inl [70])],[]), [(17,0),(18,0),(19,0),(20,4),(20,5),(59,0),(61,5)], [(some (.inl (((-1),13,1),none)),[],[((61,4),(0,2147483647,1),none)])])
def ddX11_middle : List (Nat × Instr × Nat) := [(0,.aload_n 0,1),(1,.getfield 83,3),(4,.invokevirtual 281,3),(7,.ireturn,1)]
set_option maxRecDepth 100000 in
theorem dkX11_middle : rf_decs prog_1_method_29_code ddX11_middle := rf_decs_of (by decide +kernel)
def q415_P : rfP := (flX11,csX11,lcX11,spX11,[q414_M],[],[(281,0,9)],([],[]))
def q415_U : rfU := []
set_option maxHeartbeats 8000000 in
def q415_N : List rfB := [(0,([(0,.inr (.inl [70]))],[],[]),(3,[]),0)]
set_option maxRecDepth 100000 in
theorem q415_ok : rf_chkB q415_P q415_U wLay q415_M ddX11_middle [(4,[0])] [] [0] 600 q415_N = true := by decide +kernel
set_option maxHeartbeats 4000000 in
theorem q415_met {G : rfG} (h : okG G) (hh : wHandOK G) : rf_met G q415_M := rf_methodB h.1 (P := q415_P) (U := q415_U) (N := q415_N) ⟨wflT h flokX11, wcsT h csokX11, wlcT h lcokX11, spokX11 h, List.forall_mem_cons.mpr ⟨q414_met h hh, fun _ h => absurd h List.not_mem_nil⟩, fun _ h => absurd h List.not_mem_nil, List.forall_mem_cons.mpr ⟨fun M hM => Option.some.inj (show some q414_M = some M from hM) ▸ wlkV (lkX11_281 h) q414_M rfl rfl, fun _ h => absurd h List.not_mem_nil⟩, fun _ h => absurd h List.not_mem_nil, fun _ h => absurd h List.not_mem_nil⟩ dkX11_middle (by decide +kernel) (by rw [h.2.2.1]; exact q415_ok)
/-- NearSpell.Web.stepsBetween -/
def q416_M : rfM := ((⟨"NearSpell$Web", "stepsBetween", "(III)I"⟩, prog_11_method_9_code, 6, (some .int)), (6,138), ([.inr (.inl [61]),.inl ((0,13,1),none),.inl ((0,13,1),none),.inl ((0,6,1),none)],[]), [(17,0),(18,0),(19,0),(20,4),(20,5),(59,0),(60,0),(61,5)], [(some (.inl (((-1),14,1),none)),[],[((61,4),(0,2147483647,1),none)])])
def ddX9_stepsBetween : List (Nat × Instr × Nat) := [(0,.aload_n 0,1),(1,.iload_n 3,1),(2,.invokevirtual 60,3),(5,.iconst 1,1),(6,.iload_n 1,1),(7,.ishl,1),(8,.istore 4,2),(10,.iconst 0,1),(11,.istore 5,2),(13,.iload 5,2),(15,.bipush 14,2),(17,.if_icmp .gt 30,3),(20,.aload_n 0,1),(21,.iload 4,2),(23,.iload_n 2,1),(24,.invokevirtual 50,3),(27,.ifCond .eq 6,3),(30,.iload 5,2),(32,.ireturn,1),(33,.aload_n 0,1),(34,.iload 4,2),(36,.invokevirtual 66,3),(39,.istore 4,2),(41,.iinc 5 1,3),(44,.goto (-31),3),(47,.iconst (-1),1),(48,.ireturn,1)]
set_option maxRecDepth 100000 in
theorem dkX9_stepsBetween : rf_decs prog_11_method_9_code ddX9_stepsBetween := rf_decs_of (by decide +kernel)
def q416_P : rfP := (flX9,csX9,lcX9,spX9,[q326_M,q321_M,q328_M],[],[(50,1,9),(60,0,9),(66,2,9)],([],[]))
def q416_U : rfU := []
set_option maxHeartbeats 8000000 in
def q416_N : List rfB := [(0,([(0,.inr (.inl [61])),(1,.inl ((0,13,1),none)),(2,.inl ((0,13,1),none)),(3,.inl ((0,6,1),none))],[],[]),(253,[0]),0),
  (13,([(0,.inr (.inl [61])),(1,.inl ((0,13,1),none)),(2,.inl ((0,13,1),none)),(3,.inl ((0,6,1),none)),(4,.inl (((-2147483648),2147483647,1),none)),(5,.inl ((0,15,1),none))],[],[((61,4),(0,2147483647,1),none)]),(242,[(-15)]),0)]
set_option maxRecDepth 100000 in
theorem q416_ok : rf_chkB q416_P q416_U wLay q416_M ddX9_stepsBetween [(2,[0]),(24,[1]),(36,[2])] [.inl 5] [0,13] 600 q416_N = true := by decide +kernel
set_option maxHeartbeats 4000000 in
theorem q416_met {G : rfG} (h : okG G) (hh : wHandOK G) : rf_met G q416_M := rf_methodB h.1 (P := q416_P) (U := q416_U) (N := q416_N) ⟨wflT h flokX9, wcsT h csokX9, wlcT h lcokX9, spokX9 h, List.forall_mem_cons.mpr ⟨q326_met h hh, List.forall_mem_cons.mpr ⟨q321_met h hh, List.forall_mem_cons.mpr ⟨q328_met h hh, fun _ h => absurd h List.not_mem_nil⟩⟩⟩, fun _ h => absurd h List.not_mem_nil, List.forall_mem_cons.mpr ⟨fun M hM => Option.some.inj (show some q321_M = some M from hM) ▸ wlkV (lkX9_50 h) q321_M rfl rfl, List.forall_mem_cons.mpr ⟨fun M hM => Option.some.inj (show some q326_M = some M from hM) ▸ wlkV (lkX9_60 h) q326_M rfl rfl, List.forall_mem_cons.mpr ⟨fun M hM => Option.some.inj (show some q328_M = some M from hM) ▸ wlkV (lkX9_66 h) q328_M rfl rfl, fun _ h => absurd h List.not_mem_nil⟩⟩⟩, fun _ h => absurd h List.not_mem_nil, fun _ h => absurd h List.not_mem_nil⟩ dkX9_stepsBetween (by decide +kernel) (by rw [h.2.2.1]; exact q416_ok)
/-- NearSpell.chain -/
def q417_M : rfM := ((⟨"NearSpell", "chain", "(III)I"⟩, prog_1_method_30_code, 4, (some .int)), (7,163), ([.inr (.inl [70]),.inl (((-2147483648),2147483647,1),none),.inl (((-2147483648),2147483647,1),none),.inl (((-2147483648),2147483647,1),none)],[]), [(17,0),(18,0),(19,0),(20,4),(20,5),(59,0),(60,0),(61,5)], [(some (.inl (((-1),14,1),none)),[],[])])
def ddX11_chain : List (Nat × Instr × Nat) := [(0,.aload_n 0,1),(1,.getfield 35,3),(4,.iload_n 1,1),(5,.invokevirtual 141,3),(8,.ifCond .eq 21,3),(11,.aload_n 0,1),(12,.getfield 35,3),(15,.iload_n 2,1),(16,.invokevirtual 141,3),(19,.ifCond .eq 10,3),(22,.iload_n 3,1),(23,.invokestatic 232,3),(26,.ifCond .ne 5,3),(29,.iconst (-1),1),(30,.ireturn,1),(31,.aload_n 0,1),(32,.getfield 83,3),(35,.iload_n 1,1),(36,.iload_n 2,1),(37,.iload_n 3,1),(38,.invokevirtual 284,3),(41,.ireturn,1)]
set_option maxRecDepth 100000 in
theorem dkX11_chain : rf_decs prog_1_method_30_code ddX11_chain := rf_decs_of (by decide +kernel)
def q417_P : rfP := (flX11,csX11,lcX11,spX11,[q98_M,q265_M,q416_M],[(232,1)],[(141,0,8),(284,2,9)],([],[]))
def q417_U : rfU := []
set_option maxHeartbeats 8000000 in
def q417_N : List rfB := [(0,([(0,.inr (.inl [70])),(1,.inl (((-2147483648),2147483647,1),none)),(2,.inl (((-2147483648),2147483647,1),none)),(3,.inl (((-2147483648),2147483647,1),none))],[],[]),(24,[]),0),
  (29,([(0,.inr (.inl [70])),(1,.inl (((-2147483648),2147483647,1),none)),(2,.inl (((-2147483648),2147483647,1),none)),(3,.inl (((-2147483648),2147483647,1),none))],[],[]),(9,[]),0)]
set_option maxRecDepth 100000 in
theorem q417_ok : rf_chkB q417_P q417_U wLay q417_M ddX11_chain [(5,[0]),(16,[0]),(23,[1]),(38,[2])] [] [0,29] 600 q417_N = true := by decide +kernel
set_option maxHeartbeats 4000000 in
theorem q417_met {G : rfG} (h : okG G) (hh : wHandOK G) : rf_met G q417_M := rf_methodB h.1 (P := q417_P) (U := q417_U) (N := q417_N) ⟨wflT h flokX11, wcsT h csokX11, wlcT h lcokX11, spokX11 h, List.forall_mem_cons.mpr ⟨q98_met h hh, List.forall_mem_cons.mpr ⟨q265_met h hh, List.forall_mem_cons.mpr ⟨q416_met h hh, fun _ h => absurd h List.not_mem_nil⟩⟩⟩, List.forall_mem_cons.mpr ⟨fun M hM => Option.some.inj (show some q265_M = some M from hM) ▸ wlkS (lkX11_232 h) q265_M rfl rfl, fun _ h => absurd h List.not_mem_nil⟩, List.forall_mem_cons.mpr ⟨fun M hM => Option.some.inj (show some q98_M = some M from hM) ▸ wlkV (lkX11_141 h) q98_M rfl rfl, List.forall_mem_cons.mpr ⟨fun M hM => Option.some.inj (show some q416_M = some M from hM) ▸ wlkV (lkX11_284 h) q416_M rfl rfl, fun _ h => absurd h List.not_mem_nil⟩⟩, fun _ h => absurd h List.not_mem_nil, fun _ h => absurd h List.not_mem_nil⟩ dkX11_chain (by decide +kernel) (by rw [h.2.2.1]; exact q417_ok)
/-- NearSpell.beginningOf -/
def q418_M : rfM := ((⟨"NearSpell", "beginningOf", "(II)I"⟩, prog_1_method_55_code, 3, (some .int)), (1,21), ([.inl (((-2147483648),2147483647,1),none),.inl ((0,6,1),none)],[]), [], [(some (.inl (((-2147483648),2147483647,1),none)),[],[])])
def q418_P : rfP := (flX11,csX11,lcX11,spX11,[q100_M],[(148,0)],[],([],[]))
def q418_U : rfU := []
set_option maxHeartbeats 8000000 in
def q418_N : List rfB := [(0,([(0,.inl (((-2147483648),2147483647,1),none)),(1,.inl ((0,6,1),none))],[],[]),(17,[]),0),
  (28,([(0,.inl (((-2147483648),2147483647,1),none)),(1,.inl ((0,6,1),none)),(2,.inl (((-6),6,1),none))],[.inl (((-2147483648),2147483647,1),none)],[]),(0,[]),0)]
set_option maxRecDepth 100000 in
theorem q418_ok : rf_chkB q418_P q418_U wLay q418_M ddX11_beginningOf [(1,[0])] [] [0,28] 600 q418_N = true := by decide +kernel
set_option maxHeartbeats 4000000 in
theorem q418_met {G : rfG} (h : okG G) (hh : wHandOK G) : rf_met G q418_M := rf_methodB h.1 (P := q418_P) (U := q418_U) (N := q418_N) ⟨wflT h flokX11, wcsT h csokX11, wlcT h lcokX11, spokX11 h, List.forall_mem_cons.mpr ⟨q100_met h hh, fun _ h => absurd h List.not_mem_nil⟩, List.forall_mem_cons.mpr ⟨fun M hM => Option.some.inj (show some q100_M = some M from hM) ▸ wlkS (lkX11_148 h) q100_M rfl rfl, fun _ h => absurd h List.not_mem_nil⟩, fun _ h => absurd h List.not_mem_nil, fun _ h => absurd h List.not_mem_nil, fun _ h => absurd h List.not_mem_nil⟩ dkX11_beginningOf (by decide +kernel) (by rw [h.2.2.1]; exact q418_ok)
/-- NearSpell.Finder.mostUsedFrom -/
def q419_M : rfM := ((⟨"NearSpell$Finder", "mostUsedFrom", "(I)I"⟩, prog_4_method_9_code, 6, (some .int)), (2,43), ([.inr (.inl [55]),.inl ((0,387420488,1),none)],[]), [], [(some (.inl (((-1),13,1),none)),[],[])])
def ddX2_mostUsedFrom : List (Nat × Instr × Nat) := [(0,.iload_n 1,1),(1,.invokestatic 90,3),(4,.istore_n 2,1),(5,.iconst (-1),1),(6,.istore_n 3,1),(7,.iconst 0,1),(8,.istore 4,2),(10,.iload 4,2),(12,.aload_n 0,1),(13,.getfield 15,3),(16,.invokevirtual 43,3),(19,.if_icmp .ge 78,3),(22,.aload_n 0,1),(23,.getfield 15,3),(26,.iload 4,2),(28,.invokevirtual 49,3),(31,.ifCond .eq 24,3),(34,.aload_n 0,1),(35,.getfield 15,3),(38,.iload 4,2),(40,.invokevirtual 66,3),(43,.iload_n 2,1),(44,.invokestatic 93,3),(47,.iload_n 1,1),(48,.if_icmp .ne 7,3),(51,.iconst 1,1),(52,.goto 4,3),(55,.iconst 0,1),(56,.istore 5,2),(58,.iload 5,2),(60,.ifCond .eq 31,3),(63,.iload_n 3,1),(64,.iconst (-1),1),(65,.if_icmp .eq 23,3),(68,.aload_n 0,1),(69,.getfield 15,3),(72,.iload 4,2),(74,.invokevirtual 87,3),(77,.aload_n 0,1),(78,.getfield 15,3),(81,.iload_n 3,1),(82,.invokevirtual 87,3),(85,.if_icmp .le 6,3),(88,.iload 4,2),(90,.istore_n 3,1),(91,.iinc 4 1,3),(94,.goto (-84),3),(97,.iload_n 3,1),(98,.ireturn,1)]
set_option maxRecDepth 100000 in
theorem dkX2_mostUsedFrom : rf_decs prog_4_method_9_code ddX2_mostUsedFrom := rf_decs_of (by decide +kernel)
def q419_P : rfP := (flX2,csX2,lcX2,spX2,[q187_M,q176_M,q174_M,q99_M,q418_M,q101_M],[(90,0),(93,4)],[(43,1,8),(49,2,8),(66,3,8),(87,5,8)],([],[]))
def q419_U : rfU := []
set_option maxHeartbeats 8000000 in
def q419_N : List rfB := [(0,([(0,.inr (.inl [55])),(1,.inl ((0,387420488,1),none))],[],[]),(653,[0]),0),
  (10,([(0,.inr (.inl [55])),(1,.inl ((0,387420488,1),none)),(2,.inl ((0,6,1),none)),(3,.inl (((-1),13,1),none)),(4,.inl ((0,14,1),none))],[],[]),(644,[(-43)]),0),
  (55,([(0,.inr (.inl [55])),(1,.inl ((0,387420488,1),none)),(2,.inl ((0,6,1),none)),(3,.inl (((-1),13,1),none)),(4,.inl ((0,13,1),none))],[],[]),(622,[(-43)]),0),
  (58,([(0,.inr (.inl [55])),(1,.inl ((0,387420488,1),none)),(2,.inl ((0,6,1),none)),(3,.inl (((-1),13,1),none)),(4,.inl ((0,13,1),none)),(5,.inl ((0,1,1),none))],[],[]),(620,[(-43)]),0),
  (91,([(0,.inr (.inl [55])),(1,.inl ((0,387420488,1),none)),(2,.inl ((0,6,1),none)),(3,.inl (((-1),13,1),none)),(4,.inl ((0,13,1),none)),(5,.inl ((0,1,1),none))],[],[]),(604,[(-43)]),0),
  (88,([(0,.inr (.inl [55])),(1,.inl ((0,387420488,1),none)),(2,.inl ((0,6,1),none)),(3,.inl (((-1),13,1),none)),(4,.inl ((0,13,1),none)),(5,.inl ((1,1,1),none))],[],[]),(606,[(-43)]),0)]
set_option maxRecDepth 100000 in
theorem q419_ok : rf_chkB q419_P q419_U wLay q419_M ddX2_mostUsedFrom [(1,[0]),(16,[1]),(28,[2]),(40,[3]),(44,[4]),(74,[5]),(82,[5])] [.inl 4] [0,10,55,58,88,91] 600 q419_N = true := by decide +kernel
set_option maxHeartbeats 4000000 in
theorem q419_met {G : rfG} (h : okG G) (hh : wHandOK G) : rf_met G q419_M := rf_methodB h.1 (P := q419_P) (U := q419_U) (N := q419_N) ⟨wflT h flokX2, wcsT h csokX2, wlcT h lcokX2, spokX2 h, List.forall_mem_cons.mpr ⟨q187_met h hh, List.forall_mem_cons.mpr ⟨q176_met h hh, List.forall_mem_cons.mpr ⟨q174_met h hh, List.forall_mem_cons.mpr ⟨q99_met h hh, List.forall_mem_cons.mpr ⟨q418_met h hh, List.forall_mem_cons.mpr ⟨q101_met h hh, fun _ h => absurd h List.not_mem_nil⟩⟩⟩⟩⟩⟩, List.forall_mem_cons.mpr ⟨fun M hM => Option.some.inj (show some q187_M = some M from hM) ▸ wlkS (lkX2_90 h) q187_M rfl rfl, List.forall_mem_cons.mpr ⟨fun M hM => Option.some.inj (show some q418_M = some M from hM) ▸ wlkS (lkX2_93 h) q418_M rfl rfl, fun _ h => absurd h List.not_mem_nil⟩⟩, List.forall_mem_cons.mpr ⟨fun M hM => Option.some.inj (show some q176_M = some M from hM) ▸ wlkV (lkX2_43 h) q176_M rfl rfl, List.forall_mem_cons.mpr ⟨fun M hM => Option.some.inj (show some q174_M = some M from hM) ▸ wlkV (lkX2_49 h) q174_M rfl rfl, List.forall_mem_cons.mpr ⟨fun M hM => Option.some.inj (show some q99_M = some M from hM) ▸ wlkV (lkX2_66 h) q99_M rfl rfl, List.forall_mem_cons.mpr ⟨fun M hM => Option.some.inj (show some q101_M = some M from hM) ▸ wlkV (lkX2_87 h) q101_M rfl rfl, fun _ h => absurd h List.not_mem_nil⟩⟩⟩⟩, fun _ h => absurd h List.not_mem_nil, fun _ h => absurd h List.not_mem_nil⟩ dkX2_mostUsedFrom (by decide +kernel) (by rw [h.2.2.1]; exact q419_ok)
/-- NearSpell.begins -/
def q420_M : rfM := ((⟨"NearSpell", "begins", "(I)I"⟩, prog_1_method_31_code, 2, (some .int)), (3,68), ([.inr (.inl [70]),.inl (((-2147483648),2147483647,1),none)],[]), [], [(some (.inl (((-1),13,1),none)),[],[])])
def ddX11_begins : List (Nat × Instr × Nat) := [(0,.iload_n 1,1),(1,.invokestatic 163,3),(4,.ifCond .eq 14,3),(7,.aload_n 0,1),(8,.getfield 67,3),(11,.iload_n 1,1),(12,.invokevirtual 288,3),(15,.goto 4,3),(18,.iconst (-1),1),(19,.ireturn,1)]
set_option maxRecDepth 100000 in
theorem dkX11_begins : rf_decs prog_1_method_31_code ddX11_begins := rf_decs_of (by decide +kernel)
def q420_P : rfP := (flX11,csX11,lcX11,spX11,[q159_M,q419_M],[(163,0)],[(288,1,2)],([],[]))
def q420_U : rfU := []
set_option maxHeartbeats 8000000 in
def q420_N : List rfB := [(0,([(0,.inr (.inl [70])),(1,.inl (((-2147483648),2147483647,1),none))],[],[]),(11,[]),0)]
set_option maxRecDepth 100000 in
theorem q420_ok : rf_chkB q420_P q420_U wLay q420_M ddX11_begins [(1,[0]),(12,[1])] [] [0] 600 q420_N = true := by decide +kernel
set_option maxHeartbeats 4000000 in
theorem q420_met {G : rfG} (h : okG G) (hh : wHandOK G) : rf_met G q420_M := rf_methodB h.1 (P := q420_P) (U := q420_U) (N := q420_N) ⟨wflT h flokX11, wcsT h csokX11, wlcT h lcokX11, spokX11 h, List.forall_mem_cons.mpr ⟨q159_met h hh, List.forall_mem_cons.mpr ⟨q419_met h hh, fun _ h => absurd h List.not_mem_nil⟩⟩, List.forall_mem_cons.mpr ⟨fun M hM => Option.some.inj (show some q159_M = some M from hM) ▸ wlkS (lkX11_163 h) q159_M rfl rfl, fun _ h => absurd h List.not_mem_nil⟩, List.forall_mem_cons.mpr ⟨fun M hM => Option.some.inj (show some q419_M = some M from hM) ▸ wlkV (lkX11_288 h) q419_M rfl rfl, fun _ h => absurd h List.not_mem_nil⟩, fun _ h => absurd h List.not_mem_nil, fun _ h => absurd h List.not_mem_nil⟩ dkX11_begins (by decide +kernel) (by rw [h.2.2.1]; exact q420_ok)
/-- NearSpell.Web.countCrowded -/
def q421_M : rfM := ((⟨"NearSpell$Web", "countCrowded", "(I)I"⟩, prog_11_method_10_code, 4, (some .int)), (6,138), ([.inr (.inl [61]),.inl ((0,6,1),none)],[]), [(17,0),(18,0),(19,0),(20,4),(20,5),(59,0),(60,0),(61,5)], [(some (.inl (((-2147483648),2147483647,1),none)),[],[((61,4),(0,2147483647,1),none)])])
def ddX9_countCrowded : List (Nat × Instr × Nat) := [(0,.aload_n 0,1),(1,.iload_n 1,1),(2,.invokevirtual 60,3),(5,.iconst 0,1),(6,.istore_n 2,1),(7,.iconst 0,1),(8,.istore_n 3,1),(9,.iload_n 3,1),(10,.bipush 14,2),(12,.if_icmp .ge 21,3),(15,.aload_n 0,1),(16,.getfield 23,3),(19,.iload_n 3,1),(20,.iaload,1),(21,.ifCond .eq 6,3),(24,.iinc 2 1,3),(27,.iinc 3 1,3),(30,.goto (-21),3),(33,.iload_n 2,1),(34,.ireturn,1)]
set_option maxRecDepth 100000 in
theorem dkX9_countCrowded : rf_decs prog_11_method_10_code ddX9_countCrowded := rf_decs_of (by decide +kernel)
def q421_P : rfP := (flX9,csX9,lcX9,spX9,[q326_M],[],[(60,0,9)],([],[]))
def q421_U : rfU := []
set_option maxHeartbeats 8000000 in
def q421_N : List rfB := [(0,([(0,.inr (.inl [61])),(1,.inl ((0,6,1),none))],[],[]),(188,[0]),0),
  (9,([(0,.inr (.inl [61])),(1,.inl ((0,6,1),none)),(2,.inl (((-2147483648),2147483647,1),none)),(3,.inl ((0,14,1),none))],[],[((61,4),(0,2147483647,1),none)]),(179,[(-12)]),0),
  (27,([(0,.inr (.inl [61])),(1,.inl ((0,6,1),none)),(2,.inl (((-2147483648),2147483647,1),none)),(3,.inl ((0,13,1),none))],[],[((61,4),(0,2147483647,1),none)]),(170,[(-12)]),0)]
set_option maxRecDepth 100000 in
theorem q421_ok : rf_chkB q421_P q421_U wLay q421_M ddX9_countCrowded [(2,[0])] [.inl 3] [0,9,27] 600 q421_N = true := by decide +kernel
set_option maxHeartbeats 4000000 in
theorem q421_met {G : rfG} (h : okG G) (hh : wHandOK G) : rf_met G q421_M := rf_methodB h.1 (P := q421_P) (U := q421_U) (N := q421_N) ⟨wflT h flokX9, wcsT h csokX9, wlcT h lcokX9, spokX9 h, List.forall_mem_cons.mpr ⟨q326_met h hh, fun _ h => absurd h List.not_mem_nil⟩, fun _ h => absurd h List.not_mem_nil, List.forall_mem_cons.mpr ⟨fun M hM => Option.some.inj (show some q326_M = some M from hM) ▸ wlkV (lkX9_60 h) q326_M rfl rfl, fun _ h => absurd h List.not_mem_nil⟩, fun _ h => absurd h List.not_mem_nil, fun _ h => absurd h List.not_mem_nil⟩ dkX9_countCrowded (by decide +kernel) (by rw [h.2.2.1]; exact q421_ok)
/-- NearSpell.crowded -/
def q422_M : rfM := ((⟨"NearSpell", "crowded", "(I)I"⟩, prog_1_method_32_code, 2, (some .int)), (7,161), ([.inr (.inl [70]),.inl (((-2147483648),2147483647,1),none)],[]), [(17,0),(18,0),(19,0),(20,4),(20,5),(59,0),(60,0),(61,5)], [(some (.inl (((-2147483648),2147483647,1),none)),[],[])])
def ddX11_crowded : List (Nat × Instr × Nat) := [(0,.iload_n 1,1),(1,.invokestatic 232,3),(4,.ifCond .eq 14,3),(7,.aload_n 0,1),(8,.getfield 83,3),(11,.iload_n 1,1),(12,.invokevirtual 291,3),(15,.goto 4,3),(18,.iconst (-1),1),(19,.ireturn,1)]
set_option maxRecDepth 100000 in
theorem dkX11_crowded : rf_decs prog_1_method_32_code ddX11_crowded := rf_decs_of (by decide +kernel)
def q422_P : rfP := (flX11,csX11,lcX11,spX11,[q265_M,q421_M],[(232,0)],[(291,1,9)],([],[]))
def q422_U : rfU := []
set_option maxHeartbeats 8000000 in
def q422_N : List rfB := [(0,([(0,.inr (.inl [70])),(1,.inl (((-2147483648),2147483647,1),none))],[],[]),(11,[]),0)]
set_option maxRecDepth 100000 in
theorem q422_ok : rf_chkB q422_P q422_U wLay q422_M ddX11_crowded [(1,[0]),(12,[1])] [] [0] 600 q422_N = true := by decide +kernel
set_option maxHeartbeats 4000000 in
theorem q422_met {G : rfG} (h : okG G) (hh : wHandOK G) : rf_met G q422_M := rf_methodB h.1 (P := q422_P) (U := q422_U) (N := q422_N) ⟨wflT h flokX11, wcsT h csokX11, wlcT h lcokX11, spokX11 h, List.forall_mem_cons.mpr ⟨q265_met h hh, List.forall_mem_cons.mpr ⟨q421_met h hh, fun _ h => absurd h List.not_mem_nil⟩⟩, List.forall_mem_cons.mpr ⟨fun M hM => Option.some.inj (show some q265_M = some M from hM) ▸ wlkS (lkX11_232 h) q265_M rfl rfl, fun _ h => absurd h List.not_mem_nil⟩, List.forall_mem_cons.mpr ⟨fun M hM => Option.some.inj (show some q421_M = some M from hM) ▸ wlkV (lkX11_291 h) q421_M rfl rfl, fun _ h => absurd h List.not_mem_nil⟩, fun _ h => absurd h List.not_mem_nil, fun _ h => absurd h List.not_mem_nil⟩ dkX11_crowded (by decide +kernel) (by rw [h.2.2.1]; exact q422_ok)
/-- NearSpell.State.spellingOf -/
def q423_M : rfM := ((⟨"NearSpell$State", "spellingOf", "(I)I"⟩, prog_10_method_7_code, 2, (some .int)), (0,0), ([.inr (.inl [13]),.inl ((0,5,1),none)],[]), [], [(some (.inl (((-2147483648),2147483647,1),none)),[],[])])
def q423_P : rfP := (flX8,csX8,lcX8,spX8,[],[],[],([],[]))
def q423_U : rfU := []
set_option maxHeartbeats 8000000 in
def q423_N : List rfB := [(0,([(0,.inr (.inl [13])),(1,.inl ((0,5,1),none))],[],[]),(12,[]),0)]
set_option maxRecDepth 100000 in
theorem q423_ok : rf_chkB q423_P q423_U wLay q423_M ddX8_spellingOf [] [] [0] 600 q423_N = true := by decide +kernel
set_option maxHeartbeats 4000000 in
theorem q423_met {G : rfG} (h : okG G) (hh : wHandOK G) : rf_met G q423_M := rf_methodB h.1 (P := q423_P) (U := q423_U) (N := q423_N) ⟨wflT h flokX8, wcsT h csokX8, wlcT h lcokX8, spokX8 h, fun _ h => absurd h List.not_mem_nil, fun _ h => absurd h List.not_mem_nil, fun _ h => absurd h List.not_mem_nil, fun _ h => absurd h List.not_mem_nil, fun _ h => absurd h List.not_mem_nil⟩ dkX8_spellingOf (by decide +kernel) (by rw [h.2.2.1]; exact q423_ok)
/-- NearSpell.Laid.refresh -/
def q424_M : rfM := ((⟨"NearSpell$Laid", "refresh", "()V"⟩, prog_6_method_4_code, 2, none), (3,72), ([.inr (.inl [53])],[]), [(21,0),(22,2),(22,3),(22,4),(22,5),(23,0),(24,2),(24,3),(24,4),(24,5),(25,0),(26,2),(26,3),(26,4),(26,5),(27,0),(28,2),(28,3),(28,4),(28,5),(29,0),(30,2),(30,3),(30,4),(30,5),(31,0),(32,2),(32,3),(32,4),(32,5),(33,0),(34,2),(34,3),(34,4),(34,5),(35,0),(36,2),(36,3),(36,4),(36,5),(37,0),(38,2),(38,3),(38,4),(38,5),(39,0),(40,2),(40,3),(40,4),(40,5),(41,0),(42,2),(42,3),(42,4),(42,5),(43,0),(44,2),(44,3),(44,4),(44,5),(45,0),(46,2),(46,3),(46,4),(46,5),(47,0),(48,2),(48,3),(48,4),(48,5)], [(none,[],[])])
def ddX4_refresh : List (Nat × Instr × Nat) := [(0,.iconst 0,1),(1,.istore_n 1,1),(2,.iload_n 1,1),(3,.aload_n 0,1),(4,.getfield 15,3),(7,.invokevirtual 57,3),(10,.if_icmp .ge 49,3),(13,.iload_n 1,1),(14,.aload_n 0,1),(15,.getfield 21,3),(18,.arraylength,1),(19,.if_icmp .ge 40,3),(22,.aload_n 0,1),(23,.getfield 21,3),(26,.iload_n 1,1),(27,.aaload,1),(28,.aload_n 0,1),(29,.getfield 15,3),(32,.iload_n 1,1),(33,.invokevirtual 51,3),(36,.aload_n 0,1),(37,.getfield 9,3),(40,.getfield 34,3),(43,.aload_n 0,1),(44,.getfield 9,3),(47,.getfield 40,3),(50,.invokevirtual 43,3),(53,.iinc 1 1,3),(56,.goto (-54),3),(59,.return_,1)]
set_option maxRecDepth 100000 in
theorem dkX4_refresh : rf_decs prog_6_method_4_code ddX4_refresh := rf_decs_of (by decide +kernel)
def q424_P : rfP := (flX4,csX4,lcX4,spX4,[q176_M,q99_M,q156_M],[],[(43,2,3),(51,1,8),(57,0,8)],([],[]))
def q424_U : rfU := []
set_option maxHeartbeats 8000000 in
def q424_N : List rfB := [(0,([(0,.inr (.inl [53]))],[],[]),(422,[0]),0),
  (2,([(0,.inr (.inl [53])),(1,.inl ((0,14,1),none))],[],[]),(418,[(-28)]),0)]
set_option maxRecDepth 100000 in
theorem q424_ok : rf_chkB q424_P q424_U wLay q424_M ddX4_refresh [(7,[0]),(33,[1]),(50,[2])] [.inl 1] [0,2] 600 q424_N = true := by decide +kernel
set_option maxHeartbeats 4000000 in
theorem q424_met {G : rfG} (h : okG G) (hh : wHandOK G) : rf_met G q424_M := rf_methodB h.1 (P := q424_P) (U := q424_U) (N := q424_N) ⟨wflT h flokX4, wcsT h csokX4, wlcT h lcokX4, spokX4 h, List.forall_mem_cons.mpr ⟨q176_met h hh, List.forall_mem_cons.mpr ⟨q99_met h hh, List.forall_mem_cons.mpr ⟨q156_met h hh, fun _ h => absurd h List.not_mem_nil⟩⟩⟩, fun _ h => absurd h List.not_mem_nil, List.forall_mem_cons.mpr ⟨fun M hM => Option.some.inj (show some q156_M = some M from hM) ▸ wlkV (lkX4_43 h) q156_M rfl rfl, List.forall_mem_cons.mpr ⟨fun M hM => Option.some.inj (show some q99_M = some M from hM) ▸ wlkV (lkX4_51 h) q99_M rfl rfl, List.forall_mem_cons.mpr ⟨fun M hM => Option.some.inj (show some q176_M = some M from hM) ▸ wlkV (lkX4_57 h) q176_M rfl rfl, fun _ h => absurd h List.not_mem_nil⟩⟩⟩, fun _ h => absurd h List.not_mem_nil, fun _ h => absurd h List.not_mem_nil⟩ dkX4_refresh (by decide +kernel) (by rw [h.2.2.1]; exact q424_ok)
/-- NearSpell.Laid.tallyEntry -/
def q425_M : rfM := ((⟨"NearSpell$Laid", "tallyEntry", "(IZ)V"⟩, prog_6_method_13_code, 7, none), (4,94), ([.inr (.inl [53]),.inl ((0,0,0),none),.inl ((0,0,0),none)],[]), [(4,0),(5,13),(52,0)], [(none,[],[])])
def ddX4_tallyEntry : List (Nat × Instr × Nat) := [(0,.aload_n 0,1),(1,.getfield 21,3),(4,.iload_n 1,1),(5,.aaload,1),(6,.astore_n 3,1),(7,.iconst 0,1),(8,.istore 4,2),(10,.iload 4,2),(12,.aload_n 3,1),(13,.getfield 69,3),(16,.if_icmp .ge 75,3),(19,.aload_n 0,1),(20,.getfield 9,3),(23,.aload_n 3,1),(24,.getfield 78,3),(27,.iload 4,2),(29,.iaload,1),(30,.invokevirtual 92,3),(33,.istore 5,2),(35,.iload_n 2,1),(36,.ifCond .eq 23,3),(39,.aload_n 0,1),(40,.aload_n 3,1),(41,.getfield 78,3),(44,.iload 4,2),(46,.iaload,1),(47,.iload_n 1,1),(48,.iload_n 1,1),(49,.invokevirtual 81,3),(52,.ifCond .eq 7,3),(55,.iconst 1,1),(56,.goto 4,3),(59,.iconst 0,1),(60,.istore 6,2),(62,.iload 6,2),(64,.ifCond .ne 21,3),(67,.iload 5,2),(69,.bipush 31,2),(71,.if_icmp .ge 14,3),(74,.aload_n 0,1),(75,.getfield 30,3),(78,.iload 5,2),(80,.dup2,1),(81,.iaload,1),(82,.iconst 1,1),(83,.iadd,1),(84,.iastore,1),(85,.iinc 4 1,3),(88,.goto (-78),3),(91,.return_,1)]
set_option maxRecDepth 100000 in
theorem dkX4_tallyEntry : rf_decs prog_6_method_13_code ddX4_tallyEntry := rf_decs_of (by decide +kernel)
def q425_P : rfP := (flX4,csX4,lcX4,spX4,[q260_M],[],[(92,0,1)],([],[]))
def q425_U : rfU := []
set_option maxHeartbeats 8000000 in
def q425_N : List rfB := [(0,([(0,.inr (.inl [53])),(1,.inl ((0,0,0),none)),(2,.inl ((0,0,0),none))],[],[]),(743,[0]),0),
  (10,([(0,.inr (.inl [53])),(1,.inl ((0,0,0),none)),(2,.inl ((0,0,0),none)),(3,.inr (.inl [22,24,26,28,30,32,34,36,38,40,42,44,46,48])),(4,.inl ((0,22,1),none))],[],[]),(734,[(-32)]),0)]
set_option maxRecDepth 100000 in
theorem q425_ok : rf_chkB q425_P q425_U wLay q425_M ddX4_tallyEntry [(30,[0])] [.inl 4] [0,10] 600 q425_N = true := by decide +kernel
set_option maxHeartbeats 4000000 in
theorem q425_met {G : rfG} (h : okG G) (hh : wHandOK G) : rf_met G q425_M := rf_methodB h.1 (P := q425_P) (U := q425_U) (N := q425_N) ⟨wflT h flokX4, wcsT h csokX4, wlcT h lcokX4, spokX4 h, List.forall_mem_cons.mpr ⟨q260_met h hh, fun _ h => absurd h List.not_mem_nil⟩, fun _ h => absurd h List.not_mem_nil, List.forall_mem_cons.mpr ⟨fun M hM => Option.some.inj (show some q260_M = some M from hM) ▸ wlkV (lkX4_92 h) q260_M rfl rfl, fun _ h => absurd h List.not_mem_nil⟩, fun _ h => absurd h List.not_mem_nil, fun _ h => absurd h List.not_mem_nil⟩ dkX4_tallyEntry (by decide +kernel) (by rw [h.2.2.1]; exact q425_ok)
/-- NearSpell.Laid.tallyEntry -/
def q426_M : rfM := ((⟨"NearSpell$Laid", "tallyEntry", "(IZ)V"⟩, prog_6_method_13_code, 7, none), (4,94), ([.inr (.inl [53]),.inl ((0,1,1),none),.inl ((0,0,0),none)],[]), [(4,0),(5,13),(52,0)], [(none,[],[])])
def q426_P : rfP := (flX4,csX4,lcX4,spX4,[q260_M],[],[(92,0,1)],([],[]))
def q426_U : rfU := []
set_option maxHeartbeats 8000000 in
def q426_N : List rfB := [(0,([(0,.inr (.inl [53])),(1,.inl ((0,1,1),none)),(2,.inl ((0,0,0),none))],[],[]),(743,[0]),0),
  (10,([(0,.inr (.inl [53])),(1,.inl ((0,1,1),none)),(2,.inl ((0,0,0),none)),(3,.inr (.inl [22,24,26,28,30,32,34,36,38,40,42,44,46,48])),(4,.inl ((0,22,1),none))],[],[]),(734,[(-32)]),0)]
set_option maxRecDepth 100000 in
theorem q426_ok : rf_chkB q426_P q426_U wLay q426_M ddX4_tallyEntry [(30,[0])] [.inl 4] [0,10] 600 q426_N = true := by decide +kernel
set_option maxHeartbeats 4000000 in
theorem q426_met {G : rfG} (h : okG G) (hh : wHandOK G) : rf_met G q426_M := rf_methodB h.1 (P := q426_P) (U := q426_U) (N := q426_N) ⟨wflT h flokX4, wcsT h csokX4, wlcT h lcokX4, spokX4 h, List.forall_mem_cons.mpr ⟨q260_met h hh, fun _ h => absurd h List.not_mem_nil⟩, fun _ h => absurd h List.not_mem_nil, List.forall_mem_cons.mpr ⟨fun M hM => Option.some.inj (show some q260_M = some M from hM) ▸ wlkV (lkX4_92 h) q260_M rfl rfl, fun _ h => absurd h List.not_mem_nil⟩, fun _ h => absurd h List.not_mem_nil, fun _ h => absurd h List.not_mem_nil⟩ dkX4_tallyEntry (by decide +kernel) (by rw [h.2.2.1]; exact q426_ok)
/-- NearSpell.Laid.tallyEntry -/
def q427_M : rfM := ((⟨"NearSpell$Laid", "tallyEntry", "(IZ)V"⟩, prog_6_method_13_code, 7, none), (4,94), ([.inr (.inl [53]),.inl ((0,2,1),none),.inl ((0,0,0),none)],[]), [(4,0),(5,13),(52,0)], [(none,[],[])])
def q427_P : rfP := (flX4,csX4,lcX4,spX4,[q260_M],[],[(92,0,1)],([],[]))
def q427_U : rfU := []
set_option maxHeartbeats 8000000 in
def q427_N : List rfB := [(0,([(0,.inr (.inl [53])),(1,.inl ((0,2,1),none)),(2,.inl ((0,0,0),none))],[],[]),(743,[0]),0),
  (10,([(0,.inr (.inl [53])),(1,.inl ((0,2,1),none)),(2,.inl ((0,0,0),none)),(3,.inr (.inl [22,24,26,28,30,32,34,36,38,40,42,44,46,48])),(4,.inl ((0,22,1),none))],[],[]),(734,[(-32)]),0)]
set_option maxRecDepth 100000 in
theorem q427_ok : rf_chkB q427_P q427_U wLay q427_M ddX4_tallyEntry [(30,[0])] [.inl 4] [0,10] 600 q427_N = true := by decide +kernel
set_option maxHeartbeats 4000000 in
theorem q427_met {G : rfG} (h : okG G) (hh : wHandOK G) : rf_met G q427_M := rf_methodB h.1 (P := q427_P) (U := q427_U) (N := q427_N) ⟨wflT h flokX4, wcsT h csokX4, wlcT h lcokX4, spokX4 h, List.forall_mem_cons.mpr ⟨q260_met h hh, fun _ h => absurd h List.not_mem_nil⟩, fun _ h => absurd h List.not_mem_nil, List.forall_mem_cons.mpr ⟨fun M hM => Option.some.inj (show some q260_M = some M from hM) ▸ wlkV (lkX4_92 h) q260_M rfl rfl, fun _ h => absurd h List.not_mem_nil⟩, fun _ h => absurd h List.not_mem_nil, fun _ h => absurd h List.not_mem_nil⟩ dkX4_tallyEntry (by decide +kernel) (by rw [h.2.2.1]; exact q427_ok)
/-- NearSpell.Laid.tallyEntry -/
def q428_M : rfM := ((⟨"NearSpell$Laid", "tallyEntry", "(IZ)V"⟩, prog_6_method_13_code, 7, none), (4,94), ([.inr (.inl [53]),.inl ((0,3,1),none),.inl ((0,0,0),none)],[]), [(4,0),(5,13),(52,0)], [(none,[],[])])
def q428_P : rfP := (flX4,csX4,lcX4,spX4,[q260_M],[],[(92,0,1)],([],[]))
def q428_U : rfU := []
set_option maxHeartbeats 8000000 in
def q428_N : List rfB := [(0,([(0,.inr (.inl [53])),(1,.inl ((0,3,1),none)),(2,.inl ((0,0,0),none))],[],[]),(743,[0]),0),
  (10,([(0,.inr (.inl [53])),(1,.inl ((0,3,1),none)),(2,.inl ((0,0,0),none)),(3,.inr (.inl [22,24,26,28,30,32,34,36,38,40,42,44,46,48])),(4,.inl ((0,22,1),none))],[],[]),(734,[(-32)]),0)]
set_option maxRecDepth 100000 in
theorem q428_ok : rf_chkB q428_P q428_U wLay q428_M ddX4_tallyEntry [(30,[0])] [.inl 4] [0,10] 600 q428_N = true := by decide +kernel
set_option maxHeartbeats 4000000 in
theorem q428_met {G : rfG} (h : okG G) (hh : wHandOK G) : rf_met G q428_M := rf_methodB h.1 (P := q428_P) (U := q428_U) (N := q428_N) ⟨wflT h flokX4, wcsT h csokX4, wlcT h lcokX4, spokX4 h, List.forall_mem_cons.mpr ⟨q260_met h hh, fun _ h => absurd h List.not_mem_nil⟩, fun _ h => absurd h List.not_mem_nil, List.forall_mem_cons.mpr ⟨fun M hM => Option.some.inj (show some q260_M = some M from hM) ▸ wlkV (lkX4_92 h) q260_M rfl rfl, fun _ h => absurd h List.not_mem_nil⟩, fun _ h => absurd h List.not_mem_nil, fun _ h => absurd h List.not_mem_nil⟩ dkX4_tallyEntry (by decide +kernel) (by rw [h.2.2.1]; exact q428_ok)
/-- NearSpell.Laid.tallyEntry -/
def q429_M : rfM := ((⟨"NearSpell$Laid", "tallyEntry", "(IZ)V"⟩, prog_6_method_13_code, 7, none), (4,94), ([.inr (.inl [53]),.inl ((0,12,1),none),.inl ((0,0,0),none)],[]), [(4,0),(5,13),(52,0)], [(none,[],[])])
def q429_P : rfP := (flX4,csX4,lcX4,spX4,[q260_M],[],[(92,0,1)],([],[]))
def q429_U : rfU := []
set_option maxHeartbeats 8000000 in
def q429_N : List rfB := [(0,([(0,.inr (.inl [53])),(1,.inl ((0,12,1),none)),(2,.inl ((0,0,0),none))],[],[]),(743,[0]),0),
  (10,([(0,.inr (.inl [53])),(1,.inl ((0,12,1),none)),(2,.inl ((0,0,0),none)),(3,.inr (.inl [22,24,26,28,30,32,34,36,38,40,42,44,46,48])),(4,.inl ((0,22,1),none))],[],[]),(734,[(-32)]),0)]
set_option maxRecDepth 100000 in
theorem q429_ok : rf_chkB q429_P q429_U wLay q429_M ddX4_tallyEntry [(30,[0])] [.inl 4] [0,10] 600 q429_N = true := by decide +kernel
set_option maxHeartbeats 4000000 in
theorem q429_met {G : rfG} (h : okG G) (hh : wHandOK G) : rf_met G q429_M := rf_methodB h.1 (P := q429_P) (U := q429_U) (N := q429_N) ⟨wflT h flokX4, wcsT h csokX4, wlcT h lcokX4, spokX4 h, List.forall_mem_cons.mpr ⟨q260_met h hh, fun _ h => absurd h List.not_mem_nil⟩, fun _ h => absurd h List.not_mem_nil, List.forall_mem_cons.mpr ⟨fun M hM => Option.some.inj (show some q260_M = some M from hM) ▸ wlkV (lkX4_92 h) q260_M rfl rfl, fun _ h => absurd h List.not_mem_nil⟩, fun _ h => absurd h List.not_mem_nil, fun _ h => absurd h List.not_mem_nil⟩ dkX4_tallyEntry (by decide +kernel) (by rw [h.2.2.1]; exact q429_ok)
/-- NearSpell.Laid.tallyEntry -/
def q430_M : rfM := ((⟨"NearSpell$Laid", "tallyEntry", "(IZ)V"⟩, prog_6_method_13_code, 7, none), (4,94), ([.inr (.inl [53]),.inl ((0,13,1),none),.inl ((0,0,0),none)],[]), [(4,0),(5,13),(52,0)], [(none,[],[])])
def q430_P : rfP := (flX4,csX4,lcX4,spX4,[q260_M],[],[(92,0,1)],([],[]))
def q430_U : rfU := []
set_option maxHeartbeats 8000000 in
def q430_N : List rfB := [(0,([(0,.inr (.inl [53])),(1,.inl ((0,13,1),none)),(2,.inl ((0,0,0),none))],[],[]),(743,[0]),0),
  (10,([(0,.inr (.inl [53])),(1,.inl ((0,13,1),none)),(2,.inl ((0,0,0),none)),(3,.inr (.inl [22,24,26,28,30,32,34,36,38,40,42,44,46,48])),(4,.inl ((0,22,1),none))],[],[]),(734,[(-32)]),0)]
set_option maxRecDepth 100000 in
theorem q430_ok : rf_chkB q430_P q430_U wLay q430_M ddX4_tallyEntry [(30,[0])] [.inl 4] [0,10] 600 q430_N = true := by decide +kernel
set_option maxHeartbeats 4000000 in
theorem q430_met {G : rfG} (h : okG G) (hh : wHandOK G) : rf_met G q430_M := rf_methodB h.1 (P := q430_P) (U := q430_U) (N := q430_N) ⟨wflT h flokX4, wcsT h csokX4, wlcT h lcokX4, spokX4 h, List.forall_mem_cons.mpr ⟨q260_met h hh, fun _ h => absurd h List.not_mem_nil⟩, fun _ h => absurd h List.not_mem_nil, List.forall_mem_cons.mpr ⟨fun M hM => Option.some.inj (show some q260_M = some M from hM) ▸ wlkV (lkX4_92 h) q260_M rfl rfl, fun _ h => absurd h List.not_mem_nil⟩, fun _ h => absurd h List.not_mem_nil, fun _ h => absurd h List.not_mem_nil⟩ dkX4_tallyEntry (by decide +kernel) (by rw [h.2.2.1]; exact q430_ok)
/-- NearSpell.Laid.tally -/
def q431_M : rfM := ((⟨"NearSpell$Laid", "tally", "(Z)V"⟩, prog_6_method_12_code, 3, none), (5,120), ([.inr (.inl [53]),.inl ((0,0,0),none)],[]), [(4,0),(5,13),(21,0),(22,2),(22,3),(22,4),(22,5),(23,0),(24,2),(24,3),(24,4),(24,5),(25,0),(26,2),(26,3),(26,4),(26,5),(27,0),(28,2),(28,3),(28,4),(28,5),(29,0),(30,2),(30,3),(30,4),(30,5),(31,0),(32,2),(32,3),(32,4),(32,5),(33,0),(34,2),(34,3),(34,4),(34,5),(35,0),(36,2),(36,3),(36,4),(36,5),(37,0),(38,2),(38,3),(38,4),(38,5),(39,0),(40,2),(40,3),(40,4),(40,5),(41,0),(42,2),(42,3),(42,4),(42,5),(43,0),(44,2),(44,3),(44,4),(44,5),(45,0),(46,2),(46,3),(46,4),(46,5),(47,0),(48,2),(48,3),(48,4),(48,5),(52,0)], [(none,[],[])])
def ddX4_tally : List (Nat × Instr × Nat) := [(0,.aload_n 0,1),(1,.invokevirtual 72,3),(4,.iconst 0,1),(5,.istore_n 2,1),(6,.iload_n 2,1),(7,.bipush 31,2),(9,.if_icmp .ge 16,3),(12,.aload_n 0,1),(13,.getfield 30,3),(16,.iload_n 2,1),(17,.iconst 0,1),(18,.iastore,1),(19,.iinc 2 1,3),(22,.goto (-16),3),(25,.iconst 0,1),(26,.istore_n 2,1),(27,.iload_n 2,1),(28,.aload_n 0,1),(29,.getfield 15,3),(32,.invokevirtual 57,3),(35,.if_icmp .ge 26,3),(38,.aload_n 0,1),(39,.getfield 15,3),(42,.iload_n 2,1),(43,.invokevirtual 65,3),(46,.ifCond .eq 9,3),(49,.aload_n 0,1),(50,.iload_n 2,1),(51,.iload_n 1,1),(52,.invokevirtual 88,3),(55,.iinc 2 1,3),(58,.goto (-31),3),(61,.return_,1)]
set_option maxRecDepth 100000 in
theorem dkX4_tally : rf_decs prog_6_method_12_code ddX4_tally := rf_decs_of (by decide +kernel)
def q431_P : rfP := (flX4,csX4,lcX4,spX4,[q424_M,q176_M,q174_M,q430_M],[],[(57,1,8),(65,2,8),(72,0,4),(88,3,4)],([],[]))
def q431_U : rfU := []
set_option maxHeartbeats 8000000 in
def q431_N : List rfB := [(0,([(0,.inr (.inl [53])),(1,.inl ((0,0,0),none))],[],[]),(628,[0]),0),
  (6,([(0,.inr (.inl [53])),(1,.inl ((0,0,0),none)),(2,.inl ((0,31,1),none))],[],[]),(622,[(-11)]),0),
  (27,([(0,.inr (.inl [53])),(1,.inl ((0,0,0),none)),(2,.inl ((0,14,1),none))],[],[]),(268,[(-18)]),0),
  (55,([(0,.inr (.inl [53])),(1,.inl ((0,0,0),none)),(2,.inl ((0,13,1),none))],[],[]),(253,[(-18)]),0)]
set_option maxRecDepth 100000 in
theorem q431_ok : rf_chkB q431_P q431_U wLay q431_M ddX4_tally [(1,[0]),(32,[1]),(43,[2]),(52,[3])] [.inl 2] [0,6,27,55] 600 q431_N = true := by decide +kernel
set_option maxHeartbeats 4000000 in
theorem q431_met {G : rfG} (h : okG G) (hh : wHandOK G) : rf_met G q431_M := rf_methodB h.1 (P := q431_P) (U := q431_U) (N := q431_N) ⟨wflT h flokX4, wcsT h csokX4, wlcT h lcokX4, spokX4 h, List.forall_mem_cons.mpr ⟨q424_met h hh, List.forall_mem_cons.mpr ⟨q176_met h hh, List.forall_mem_cons.mpr ⟨q174_met h hh, List.forall_mem_cons.mpr ⟨q430_met h hh, fun _ h => absurd h List.not_mem_nil⟩⟩⟩⟩, fun _ h => absurd h List.not_mem_nil, List.forall_mem_cons.mpr ⟨fun M hM => Option.some.inj (show some q176_M = some M from hM) ▸ wlkV (lkX4_57 h) q176_M rfl rfl, List.forall_mem_cons.mpr ⟨fun M hM => Option.some.inj (show some q174_M = some M from hM) ▸ wlkV (lkX4_65 h) q174_M rfl rfl, List.forall_mem_cons.mpr ⟨fun M hM => Option.some.inj (show some q424_M = some M from hM) ▸ wlkV (lkX4_72 h) q424_M rfl rfl, List.forall_mem_cons.mpr ⟨fun M hM => Option.some.inj (show some q430_M = some M from hM) ▸ wlkV (lkX4_88 h) q430_M rfl rfl, fun _ h => absurd h List.not_mem_nil⟩⟩⟩⟩, fun _ h => absurd h List.not_mem_nil, fun _ h => absurd h List.not_mem_nil⟩ dkX4_tally (by decide +kernel) (by rw [h.2.2.1]; exact q431_ok)
/-- NearSpell.Laid.countIn -/
def q432_M : rfM := ((⟨"NearSpell$Laid", "countIn", "(I)I"⟩, prog_6_method_5_code, 2, (some .int)), (6,142), ([.inr (.inl [53]),.inl ((0,30,1),none)],[]), [(4,0),(5,13),(21,0),(22,2),(22,3),(22,4),(22,5),(23,0),(24,2),(24,3),(24,4),(24,5),(25,0),(26,2),(26,3),(26,4),(26,5),(27,0),(28,2),(28,3),(28,4),(28,5),(29,0),(30,2),(30,3),(30,4),(30,5),(31,0),(32,2),(32,3),(32,4),(32,5),(33,0),(34,2),(34,3),(34,4),(34,5),(35,0),(36,2),(36,3),(36,4),(36,5),(37,0),(38,2),(38,3),(38,4),(38,5),(39,0),(40,2),(40,3),(40,4),(40,5),(41,0),(42,2),(42,3),(42,4),(42,5),(43,0),(44,2),(44,3),(44,4),(44,5),(45,0),(46,2),(46,3),(46,4),(46,5),(47,0),(48,2),(48,3),(48,4),(48,5),(52,0)], [(some (.inl (((-2147483648),2147483647,1),none)),[],[])])
def ddX4_countIn : List (Nat × Instr × Nat) := [(0,.aload_n 0,1),(1,.iconst 0,1),(2,.invokevirtual 61,3),(5,.iload_n 1,1),(6,.ifCond .lt 18,3),(9,.iload_n 1,1),(10,.bipush 31,2),(12,.if_icmp .ge 12,3),(15,.aload_n 0,1),(16,.getfield 30,3),(19,.iload_n 1,1),(20,.iaload,1),(21,.goto 4,3),(24,.iconst 0,1),(25,.ireturn,1)]
set_option maxRecDepth 100000 in
theorem dkX4_countIn : rf_decs prog_6_method_5_code ddX4_countIn := rf_decs_of (by decide +kernel)
def q432_P : rfP := (flX4,csX4,lcX4,spX4,[q431_M],[],[(61,0,4)],([],[]))
def q432_U : rfU := []
set_option maxHeartbeats 8000000 in
def q432_N : List rfB := [(0,([(0,.inr (.inl [53])),(1,.inl ((0,30,1),none))],[],[]),(13,[]),0)]
set_option maxRecDepth 100000 in
theorem q432_ok : rf_chkB q432_P q432_U wLay q432_M ddX4_countIn [(2,[0])] [] [0] 600 q432_N = true := by decide +kernel
set_option maxHeartbeats 4000000 in
theorem q432_met {G : rfG} (h : okG G) (hh : wHandOK G) : rf_met G q432_M := rf_methodB h.1 (P := q432_P) (U := q432_U) (N := q432_N) ⟨wflT h flokX4, wcsT h csokX4, wlcT h lcokX4, spokX4 h, List.forall_mem_cons.mpr ⟨q431_met h hh, fun _ h => absurd h List.not_mem_nil⟩, fun _ h => absurd h List.not_mem_nil, List.forall_mem_cons.mpr ⟨fun M hM => Option.some.inj (show some q431_M = some M from hM) ▸ wlkV (lkX4_61 h) q431_M rfl rfl, fun _ h => absurd h List.not_mem_nil⟩, fun _ h => absurd h List.not_mem_nil, fun _ h => absurd h List.not_mem_nil⟩ dkX4_countIn (by decide +kernel) (by rw [h.2.2.1]; exact q432_ok)
/-- NearSpell.load -/
def q433_M : rfM := ((⟨"NearSpell", "load", "(I)I"⟩, prog_1_method_33_code, 2, (some .int)), (7,163), ([.inr (.inl [70]),.inl (((-2147483648),2147483647,1),none)],[]), [(4,0),(5,13),(21,0),(22,2),(22,3),(22,4),(22,5),(23,0),(24,2),(24,3),(24,4),(24,5),(25,0),(26,2),(26,3),(26,4),(26,5),(27,0),(28,2),(28,3),(28,4),(28,5),(29,0),(30,2),(30,3),(30,4),(30,5),(31,0),(32,2),(32,3),(32,4),(32,5),(33,0),(34,2),(34,3),(34,4),(34,5),(35,0),(36,2),(36,3),(36,4),(36,5),(37,0),(38,2),(38,3),(38,4),(38,5),(39,0),(40,2),(40,3),(40,4),(40,5),(41,0),(42,2),(42,3),(42,4),(42,5),(43,0),(44,2),(44,3),(44,4),(44,5),(45,0),(46,2),(46,3),(46,4),(46,5),(47,0),(48,2),(48,3),(48,4),(48,5),(52,0)], [(some (.inl (((-2147483648),2147483647,1),none)),[],[])])
def ddX11_load : List (Nat × Instr × Nat) := [(0,.iload_n 1,1),(1,.ifCond .lt 25,3),(4,.iload_n 1,1),(5,.aload_n 0,1),(6,.getfield 16,3),(9,.getfield 294,3),(12,.if_icmp .ge 14,3),(15,.aload_n 0,1),(16,.getfield 58,3),(19,.iload_n 1,1),(20,.invokevirtual 297,3),(23,.goto 4,3),(26,.iconst (-1),1),(27,.ireturn,1)]
set_option maxRecDepth 100000 in
theorem dkX11_load : rf_decs prog_1_method_33_code ddX11_load := rf_decs_of (by decide +kernel)
def q433_P : rfP := (flX11,csX11,lcX11,spX11,[q432_M],[],[(297,0,4)],([],[]))
def q433_U : rfU := []
set_option maxHeartbeats 8000000 in
def q433_N : List rfB := [(0,([(0,.inr (.inl [70])),(1,.inl (((-2147483648),2147483647,1),none))],[],[]),(14,[]),0),
  (26,([(0,.inr (.inl [70])),(1,.inl (((-2147483648),2147483647,1),none))],[],[]),(1,[]),0)]
set_option maxRecDepth 100000 in
theorem q433_ok : rf_chkB q433_P q433_U wLay q433_M ddX11_load [(20,[0])] [] [0,26] 600 q433_N = true := by decide +kernel
set_option maxHeartbeats 4000000 in
theorem q433_met {G : rfG} (h : okG G) (hh : wHandOK G) : rf_met G q433_M := rf_methodB h.1 (P := q433_P) (U := q433_U) (N := q433_N) ⟨wflT h flokX11, wcsT h csokX11, wlcT h lcokX11, spokX11 h, List.forall_mem_cons.mpr ⟨q432_met h hh, fun _ h => absurd h List.not_mem_nil⟩, fun _ h => absurd h List.not_mem_nil, List.forall_mem_cons.mpr ⟨fun M hM => Option.some.inj (show some q432_M = some M from hM) ▸ wlkV (lkX11_297 h) q432_M rfl rfl, fun _ h => absurd h List.not_mem_nil⟩, fun _ h => absurd h List.not_mem_nil, fun _ h => absurd h List.not_mem_nil⟩ dkX11_load (by decide +kernel) (by rw [h.2.2.1]; exact q433_ok)
/-- NearSpell.Laid.fullestBucket -/
def q434_M : rfM := ((⟨"NearSpell$Laid", "fullestBucket", "()I"⟩, prog_6_method_6_code, 3, (some .int)), (6,142), ([.inr (.inl [53])],[]), [(4,0),(5,13),(21,0),(22,2),(22,3),(22,4),(22,5),(23,0),(24,2),(24,3),(24,4),(24,5),(25,0),(26,2),(26,3),(26,4),(26,5),(27,0),(28,2),(28,3),(28,4),(28,5),(29,0),(30,2),(30,3),(30,4),(30,5),(31,0),(32,2),(32,3),(32,4),(32,5),(33,0),(34,2),(34,3),(34,4),(34,5),(35,0),(36,2),(36,3),(36,4),(36,5),(37,0),(38,2),(38,3),(38,4),(38,5),(39,0),(40,2),(40,3),(40,4),(40,5),(41,0),(42,2),(42,3),(42,4),(42,5),(43,0),(44,2),(44,3),(44,4),(44,5),(45,0),(46,2),(46,3),(46,4),(46,5),(47,0),(48,2),(48,3),(48,4),(48,5),(52,0)], [(some (.inl ((0,30,1),none)),[],[])])
def ddX4_fullestBucket : List (Nat × Instr × Nat) := [(0,.aload_n 0,1),(1,.iconst 0,1),(2,.invokevirtual 61,3),(5,.iconst 0,1),(6,.istore_n 1,1),(7,.iconst 1,1),(8,.istore_n 2,1),(9,.iload_n 2,1),(10,.bipush 31,2),(12,.if_icmp .ge 26,3),(15,.aload_n 0,1),(16,.getfield 30,3),(19,.iload_n 2,1),(20,.iaload,1),(21,.aload_n 0,1),(22,.getfield 30,3),(25,.iload_n 1,1),(26,.iaload,1),(27,.if_icmp .le 5,3),(30,.iload_n 2,1),(31,.istore_n 1,1),(32,.iinc 2 1,3),(35,.goto (-26),3),(38,.iload_n 1,1),(39,.ireturn,1)]
set_option maxRecDepth 100000 in
theorem dkX4_fullestBucket : rf_decs prog_6_method_6_code ddX4_fullestBucket := rf_decs_of (by decide +kernel)
def q434_P : rfP := (flX4,csX4,lcX4,spX4,[q431_M],[],[(61,0,4)],([],[]))
def q434_U : rfU := []
set_option maxHeartbeats 8000000 in
def q434_N : List rfB := [(0,([(0,.inr (.inl [53]))],[],[]),(535,[0]),0),
  (9,([(0,.inr (.inl [53])),(1,.inl ((0,30,1),none)),(2,.inl ((1,31,1),none))],[],[]),(543,[(-17)]),0),
  (32,([(0,.inr (.inl [53])),(1,.inl ((0,30,1),none)),(2,.inl ((1,30,1),none))],[],[]),(529,[(-17)]),0)]
set_option maxRecDepth 100000 in
theorem q434_ok : rf_chkB q434_P q434_U wLay q434_M ddX4_fullestBucket [(2,[0])] [.inl 2] [0,9,32] 600 q434_N = true := by decide +kernel
set_option maxHeartbeats 4000000 in
theorem q434_met {G : rfG} (h : okG G) (hh : wHandOK G) : rf_met G q434_M := rf_methodB h.1 (P := q434_P) (U := q434_U) (N := q434_N) ⟨wflT h flokX4, wcsT h csokX4, wlcT h lcokX4, spokX4 h, List.forall_mem_cons.mpr ⟨q431_met h hh, fun _ h => absurd h List.not_mem_nil⟩, fun _ h => absurd h List.not_mem_nil, List.forall_mem_cons.mpr ⟨fun M hM => Option.some.inj (show some q431_M = some M from hM) ▸ wlkV (lkX4_61 h) q431_M rfl rfl, fun _ h => absurd h List.not_mem_nil⟩, fun _ h => absurd h List.not_mem_nil, fun _ h => absurd h List.not_mem_nil⟩ dkX4_fullestBucket (by decide +kernel) (by rw [h.2.2.1]; exact q434_ok)
/-- NearSpell.fullest -/
def q435_M : rfM := ((⟨"NearSpell", "fullest", "()I"⟩, prog_1_method_34_code, 1, (some .int)), (7,164), ([.inr (.inl [70])],[]), [(4,0),(5,13),(21,0),(22,2),(22,3),(22,4),(22,5),(23,0),(24,2),(24,3),(24,4),(24,5),(25,0),(26,2),(26,3),(26,4),(26,5),(27,0),(28,2),(28,3),(28,4),(28,5),(29,0),(30,2),(30,3),(30,4),(30,5),(31,0),(32,2),(32,3),(32,4),(32,5),(33,0),(34,2),(34,3),(34,4),(34,5),(35,0),(36,2),(36,3),(36,4),(36,5),(37,0),(38,2),(38,3),(38,4),(38,5),(39,0),(40,2),(40,3),(40,4),(40,5),(41,0),(42,2),(42,3),(42,4),(42,5),(43,0),(44,2),(44,3),(44,4),(44,5),(45,0),(46,2),(46,3),(46,4),(46,5),(47,0),(48,2),(48,3),(48,4),(48,5),(52,0)], [(some (.inl ((0,30,1),none)),[],[])])
def ddX11_fullest : List (Nat × Instr × Nat) := [(0,.aload_n 0,1),(1,.getfield 58,3),(4,.invokevirtual 300,3),(7,.ireturn,1)]
set_option maxRecDepth 100000 in
theorem dkX11_fullest : rf_decs prog_1_method_34_code ddX11_fullest := rf_decs_of (by decide +kernel)
def q435_P : rfP := (flX11,csX11,lcX11,spX11,[q434_M],[],[(300,0,4)],([],[]))
def q435_U : rfU := []
set_option maxHeartbeats 8000000 in
def q435_N : List rfB := [(0,([(0,.inr (.inl [70]))],[],[]),(3,[]),0)]
set_option maxRecDepth 100000 in
theorem q435_ok : rf_chkB q435_P q435_U wLay q435_M ddX11_fullest [(4,[0])] [] [0] 600 q435_N = true := by decide +kernel
set_option maxHeartbeats 4000000 in
theorem q435_met {G : rfG} (h : okG G) (hh : wHandOK G) : rf_met G q435_M := rf_methodB h.1 (P := q435_P) (U := q435_U) (N := q435_N) ⟨wflT h flokX11, wcsT h csokX11, wlcT h lcokX11, spokX11 h, List.forall_mem_cons.mpr ⟨q434_met h hh, fun _ h => absurd h List.not_mem_nil⟩, fun _ h => absurd h List.not_mem_nil, List.forall_mem_cons.mpr ⟨fun M hM => Option.some.inj (show some q434_M = some M from hM) ▸ wlkV (lkX11_300 h) q434_M rfl rfl, fun _ h => absurd h List.not_mem_nil⟩, fun _ h => absurd h List.not_mem_nil, fun _ h => absurd h List.not_mem_nil⟩ dkX11_fullest (by decide +kernel) (by rw [h.2.2.1]; exact q435_ok)
/-- NearSpell.FormList.fill -/
def q436_M : rfM := ((⟨"NearSpell$FormList", "fill", "(III)V"⟩, prog_5_method_2_code, 5, none), (2,48), ([.inr (.inl [50]),.inl (((-2147483648),2147483647,1),none),.inl ((1,6,1),none),.inl ((0,2,1),none)],[]), [(49,0),(50,2),(50,3),(50,4),(50,5)], [(none,[],[((50,3),(1,6,1),none),((50,4),(0,2,1),none)])])
def q436_P : rfP := (flX3,csX3,lcX3,spX3,[q102_M,q200_M,q202_M],[(28,0)],[(32,1,3),(36,2,3)],([],[]))
def q436_U : rfU := []
set_option maxHeartbeats 8000000 in
def q436_N : List rfB := [(0,([(0,.inr (.inl [50])),(1,.inl (((-2147483648),2147483647,1),none)),(2,.inl ((1,6,1),none)),(3,.inl ((0,2,1),none))],[],[]),(40,[]),0),
  (25,([(0,.inr (.inl [50])),(1,.inl (((-2147483648),2147483647,1),none)),(2,.inl ((1,6,1),none)),(3,.inl ((0,2,1),none))],[],[]),(27,[]),0),
  (77,([(0,.inr (.inl [50])),(1,.inl (((-2147483648),2147483647,1),none)),(2,.inl ((1,6,1),none)),(3,.inl ((0,2,1),none)),(4,.inl (((-2147483648),2147483647,1),none))],[],[((50,3),(1,6,1),none),((50,4),(0,2,1),none)]),(0,[]),0)]
set_option maxRecDepth 100000 in
theorem q436_ok : rf_chkB q436_P q436_U wLay q436_M ddX3_fill [(53,[0]),(61,[1]),(74,[2])] [] [0,25,77] 600 q436_N = true := by decide +kernel
set_option maxHeartbeats 4000000 in
theorem q436_met {G : rfG} (h : okG G) (hh : wHandOK G) : rf_met G q436_M := rf_methodB h.1 (P := q436_P) (U := q436_U) (N := q436_N) ⟨wflT h flokX3, wcsT h csokX3, wlcT h lcokX3, spokX3 h, List.forall_mem_cons.mpr ⟨q102_met h hh, List.forall_mem_cons.mpr ⟨q200_met h hh, List.forall_mem_cons.mpr ⟨q202_met h hh, fun _ h => absurd h List.not_mem_nil⟩⟩⟩, List.forall_mem_cons.mpr ⟨fun M hM => Option.some.inj (show some q102_M = some M from hM) ▸ wlkS (lkX3_28 h) q102_M rfl rfl, fun _ h => absurd h List.not_mem_nil⟩, List.forall_mem_cons.mpr ⟨fun M hM => Option.some.inj (show some q200_M = some M from hM) ▸ wlkV (lkX3_32 h) q200_M rfl rfl, List.forall_mem_cons.mpr ⟨fun M hM => Option.some.inj (show some q202_M = some M from hM) ▸ wlkV (lkX3_36 h) q202_M rfl rfl, fun _ h => absurd h List.not_mem_nil⟩⟩, fun _ h => absurd h List.not_mem_nil, fun _ h => absurd h List.not_mem_nil⟩ dkX3_fill (by decide +kernel) (by rw [h.2.2.1]; exact q436_ok)
/-- NearSpell.State.isEntry -/
def q437_M : rfM := ((⟨"NearSpell$State", "isEntry", "(I)Z"⟩, prog_10_method_6_code, 2, (some .boolean)), (0,0), ([.inr (.inl [13]),.inl ((0,5,1),none)],[]), [], [(some (.inl ((1,1,0),none)),[],[((12,34),(1,14,1),none)]),(some (.inl ((0,0,0),none)),[],[])])
def q437_P : rfP := (flX8,csX8,lcX8,spX8,[],[],[],([],[]))
def q437_U : rfU := []
set_option maxHeartbeats 8000000 in
def q437_N : List rfB := [(0,([(0,.inr (.inl [13])),(1,.inl ((0,5,1),none))],[],[]),(20,[]),0),
  (32,([(0,.inr (.inl [13])),(1,.inl ((0,5,1),none))],[],[]),(1,[]),0)]
set_option maxRecDepth 100000 in
theorem q437_ok : rf_chkB q437_P q437_U wLay q437_M ddX8_isEntry [] [] [0,32] 600 q437_N = true := by decide +kernel
set_option maxHeartbeats 4000000 in
theorem q437_met {G : rfG} (h : okG G) (hh : wHandOK G) : rf_met G q437_M := rf_methodB h.1 (P := q437_P) (U := q437_U) (N := q437_N) ⟨wflT h flokX8, wcsT h csokX8, wlcT h lcokX8, spokX8 h, fun _ h => absurd h List.not_mem_nil, fun _ h => absurd h List.not_mem_nil, fun _ h => absurd h List.not_mem_nil, fun _ h => absurd h List.not_mem_nil, fun _ h => absurd h List.not_mem_nil⟩ dkX8_isEntry (by decide +kernel) (by rw [h.2.2.1]; exact q437_ok)
/-- NearSpell.Laid.countAll -/
def q438_M : rfM := ((⟨"NearSpell$Laid", "countAll", "(I)I"⟩, prog_6_method_7_code, 4, (some .int)), (3,72), ([.inr (.inl [53]),.inl ((0,2,1),none)],[]), [(49,0),(50,2),(50,3),(50,4),(50,5)], [(some (.inl (((-2147483648),2147483647,1),none)),[],[])])
def ddX4_countAll : List (Nat × Instr × Nat) := [(0,.iconst 0,1),(1,.istore_n 2,1),(2,.iconst 0,1),(3,.istore_n 3,1),(4,.iload_n 3,1),(5,.aload_n 0,1),(6,.getfield 15,3),(9,.invokevirtual 57,3),(12,.if_icmp .ge 53,3),(15,.aload_n 0,1),(16,.getfield 15,3),(19,.iload_n 3,1),(20,.invokevirtual 65,3),(23,.ifCond .eq 36,3),(26,.aload_n 0,1),(27,.getfield 26,3),(30,.aload_n 0,1),(31,.getfield 15,3),(34,.iload_n 3,1),(35,.invokevirtual 51,3),(38,.aload_n 0,1),(39,.getfield 9,3),(42,.getfield 34,3),(45,.iload_n 1,1),(46,.invokevirtual 43,3),(49,.iload_n 2,1),(50,.aload_n 0,1),(51,.getfield 26,3),(54,.getfield 69,3),(57,.iadd,1),(58,.istore_n 2,1),(59,.iinc 3 1,3),(62,.goto (-58),3),(65,.iload_n 2,1),(66,.ireturn,1)]
set_option maxRecDepth 100000 in
theorem dkX4_countAll : rf_decs prog_6_method_7_code ddX4_countAll := rf_decs_of (by decide +kernel)
def q438_P : rfP := (flX4,csX4,lcX4,spX4,[q176_M,q174_M,q99_M,q436_M],[],[(43,3,3),(51,2,8),(57,0,8),(65,1,8)],([],[]))
def q438_U : rfU := []
set_option maxHeartbeats 8000000 in
def q438_N : List rfB := [(0,([(0,.inr (.inl [53])),(1,.inl ((0,2,1),none))],[],[]),(470,[0]),0),
  (4,([(0,.inr (.inl [53])),(1,.inl ((0,2,1),none)),(2,.inl (((-2147483648),2147483647,1),none)),(3,.inl ((0,14,1),none))],[],[]),(464,[(-31)]),0),
  (59,([(0,.inr (.inl [53])),(1,.inl ((0,2,1),none)),(2,.inl (((-2147483648),2147483647,1),none)),(3,.inl ((0,13,1),none))],[],[]),(436,[(-31)]),0)]
set_option maxRecDepth 100000 in
theorem q438_ok : rf_chkB q438_P q438_U wLay q438_M ddX4_countAll [(9,[0]),(20,[1]),(35,[2]),(46,[3])] [.inl 3] [0,4,59] 600 q438_N = true := by decide +kernel
set_option maxHeartbeats 4000000 in
theorem q438_met {G : rfG} (h : okG G) (hh : wHandOK G) : rf_met G q438_M := rf_methodB h.1 (P := q438_P) (U := q438_U) (N := q438_N) ⟨wflT h flokX4, wcsT h csokX4, wlcT h lcokX4, spokX4 h, List.forall_mem_cons.mpr ⟨q176_met h hh, List.forall_mem_cons.mpr ⟨q174_met h hh, List.forall_mem_cons.mpr ⟨q99_met h hh, List.forall_mem_cons.mpr ⟨q436_met h hh, fun _ h => absurd h List.not_mem_nil⟩⟩⟩⟩, fun _ h => absurd h List.not_mem_nil, List.forall_mem_cons.mpr ⟨fun M hM => Option.some.inj (show some q436_M = some M from hM) ▸ wlkV (lkX4_43 h) q436_M rfl rfl, List.forall_mem_cons.mpr ⟨fun M hM => Option.some.inj (show some q99_M = some M from hM) ▸ wlkV (lkX4_51 h) q99_M rfl rfl, List.forall_mem_cons.mpr ⟨fun M hM => Option.some.inj (show some q176_M = some M from hM) ▸ wlkV (lkX4_57 h) q176_M rfl rfl, List.forall_mem_cons.mpr ⟨fun M hM => Option.some.inj (show some q174_M = some M from hM) ▸ wlkV (lkX4_65 h) q174_M rfl rfl, fun _ h => absurd h List.not_mem_nil⟩⟩⟩⟩, fun _ h => absurd h List.not_mem_nil, fun _ h => absurd h List.not_mem_nil⟩ dkX4_countAll (by decide +kernel) (by rw [h.2.2.1]; exact q438_ok)
/-- NearSpell.store -/
def q439_M : rfM := ((⟨"NearSpell", "store", "()I"⟩, prog_1_method_35_code, 1, (some .int)), (4,95), ([.inr (.inl [70])],[]), [(49,0),(50,2),(50,3),(50,4),(50,5)], [(some (.inl (((-2147483648),2147483647,1),none)),[],[])])
def ddX11_store : List (Nat × Instr × Nat) := [(0,.aload_n 0,1),(1,.getfield 58,3),(4,.aload_n 0,1),(5,.getfield 16,3),(8,.getfield 303,3),(11,.invokevirtual 306,3),(14,.ireturn,1)]
set_option maxRecDepth 100000 in
theorem dkX11_store : rf_decs prog_1_method_35_code ddX11_store := rf_decs_of (by decide +kernel)
def q439_P : rfP := (flX11,csX11,lcX11,spX11,[q438_M],[],[(306,0,4)],([],[]))
def q439_U : rfU := []
set_option maxHeartbeats 8000000 in
def q439_N : List rfB := [(0,([(0,.inr (.inl [70]))],[],[]),(6,[]),0)]
set_option maxRecDepth 100000 in
theorem q439_ok : rf_chkB q439_P q439_U wLay q439_M ddX11_store [(11,[0])] [] [0] 600 q439_N = true := by decide +kernel
set_option maxHeartbeats 4000000 in
theorem q439_met {G : rfG} (h : okG G) (hh : wHandOK G) : rf_met G q439_M := rf_methodB h.1 (P := q439_P) (U := q439_U) (N := q439_N) ⟨wflT h flokX11, wcsT h csokX11, wlcT h lcokX11, spokX11 h, List.forall_mem_cons.mpr ⟨q438_met h hh, fun _ h => absurd h List.not_mem_nil⟩, fun _ h => absurd h List.not_mem_nil, List.forall_mem_cons.mpr ⟨fun M hM => Option.some.inj (show some q438_M = some M from hM) ▸ wlkV (lkX11_306 h) q438_M rfl rfl, fun _ h => absurd h List.not_mem_nil⟩, fun _ h => absurd h List.not_mem_nil, fun _ h => absurd h List.not_mem_nil⟩ dkX11_store (by decide +kernel) (by rw [h.2.2.1]; exact q439_ok)
/-- NearSpell.Laid.isOfOthers -/
def q440_M : rfM := ((⟨"NearSpell$Laid", "isOfOthers", "(III)Z"⟩, prog_6_method_11_code, 5, (some .boolean)), (0,0), ([.inr (.inl [53]),.inl (((-2147483648),2147483647,1),none),.inl ((0,0,0),none),.inl ((0,0,0),none)],[]), [], [(some (.inl ((0,0,0),none)),[],[])])
def ddX4_isOfOthers : List (Nat × Instr × Nat) := [(0,.iconst 0,1),(1,.istore 4,2),(3,.iload 4,2),(5,.iload_n 3,1),(6,.if_icmp .ge 43,3),(9,.iload 4,2),(11,.iload_n 2,1),(12,.if_icmp .eq 31,3),(15,.aload_n 0,1),(16,.getfield 15,3),(19,.iload 4,2),(21,.invokevirtual 65,3),(24,.ifCond .eq 19,3),(27,.aload_n 0,1),(28,.getfield 21,3),(31,.iload 4,2),(33,.aaload,1),(34,.iload_n 1,1),(35,.invokevirtual 85,3),(38,.ifCond .eq 5,3),(41,.iconst 1,1),(42,.ireturn,1),(43,.iinc 4 1,3),(46,.goto (-43),3),(49,.iconst 0,1),(50,.ireturn,1)]
set_option maxRecDepth 100000 in
theorem dkX4_isOfOthers : rf_decs prog_6_method_11_code ddX4_isOfOthers := rf_decs_of (by decide +kernel)
def q440_P : rfP := (flX4,csX4,lcX4,spX4,[],[],[],([],[]))
def q440_U : rfU := []
set_option maxHeartbeats 8000000 in
def q440_N : List rfB := [(0,([(0,.inr (.inl [53])),(1,.inl (((-2147483648),2147483647,1),none)),(2,.inl ((0,0,0),none)),(3,.inl ((0,0,0),none))],[],[]),(6,[]),0)]
set_option maxRecDepth 100000 in
theorem q440_ok : rf_chkB q440_P q440_U wLay q440_M ddX4_isOfOthers [] [] [0] 600 q440_N = true := by decide +kernel
set_option maxHeartbeats 4000000 in
theorem q440_met {G : rfG} (h : okG G) (hh : wHandOK G) : rf_met G q440_M := rf_methodB h.1 (P := q440_P) (U := q440_U) (N := q440_N) ⟨wflT h flokX4, wcsT h csokX4, wlcT h lcokX4, spokX4 h, fun _ h => absurd h List.not_mem_nil, fun _ h => absurd h List.not_mem_nil, fun _ h => absurd h List.not_mem_nil, fun _ h => absurd h List.not_mem_nil, fun _ h => absurd h List.not_mem_nil⟩ dkX4_isOfOthers (by decide +kernel) (by rw [h.2.2.1]; exact q440_ok)
/-- NearSpell.Laid.tallyEntry -/
def q441_M : rfM := ((⟨"NearSpell$Laid", "tallyEntry", "(IZ)V"⟩, prog_6_method_13_code, 7, none), (4,94), ([.inr (.inl [53]),.inl ((0,0,0),none),.inl ((1,1,0),none)],[]), [(4,0),(5,13),(52,0)], [(none,[],[])])
def q441_P : rfP := (flX4,csX4,lcX4,spX4,[q260_M,q440_M],[],[(81,1,4),(92,0,1)],([],[]))
def q441_U : rfU := []
set_option maxHeartbeats 8000000 in
def q441_N : List rfB := [(0,([(0,.inr (.inl [53])),(1,.inl ((0,0,0),none)),(2,.inl ((1,1,0),none))],[],[]),(950,[0]),0),
  (10,([(0,.inr (.inl [53])),(1,.inl ((0,0,0),none)),(2,.inl ((1,1,0),none)),(3,.inr (.inl [22,24,26,28,30,32,34,36,38,40,42,44,46,48])),(4,.inl ((0,22,1),none))],[],[]),(941,[(-41)]),0)]
set_option maxRecDepth 100000 in
theorem q441_ok : rf_chkB q441_P q441_U wLay q441_M ddX4_tallyEntry [(30,[0]),(49,[1])] [.inl 4] [0,10] 600 q441_N = true := by decide +kernel
set_option maxHeartbeats 4000000 in
theorem q441_met {G : rfG} (h : okG G) (hh : wHandOK G) : rf_met G q441_M := rf_methodB h.1 (P := q441_P) (U := q441_U) (N := q441_N) ⟨wflT h flokX4, wcsT h csokX4, wlcT h lcokX4, spokX4 h, List.forall_mem_cons.mpr ⟨q260_met h hh, List.forall_mem_cons.mpr ⟨q440_met h hh, fun _ h => absurd h List.not_mem_nil⟩⟩, fun _ h => absurd h List.not_mem_nil, List.forall_mem_cons.mpr ⟨fun M hM => Option.some.inj (show some q440_M = some M from hM) ▸ wlkV (lkX4_81 h) q440_M rfl rfl, List.forall_mem_cons.mpr ⟨fun M hM => Option.some.inj (show some q260_M = some M from hM) ▸ wlkV (lkX4_92 h) q260_M rfl rfl, fun _ h => absurd h List.not_mem_nil⟩⟩, fun _ h => absurd h List.not_mem_nil, fun _ h => absurd h List.not_mem_nil⟩ dkX4_tallyEntry (by decide +kernel) (by rw [h.2.2.1]; exact q441_ok)
/-- NearSpell.FormList.has -/
def q442_M : rfM := ((⟨"NearSpell$FormList", "has", "(I)Z"⟩, prog_5_method_5_code, 3, (some .boolean)), (0,0), ([.inr (.inl [22,24,26,28,30,32,34,36,38,40,42,44,46,48]),.inl (((-2147483648),2147483647,1),none)],[]), [], [(some (.inl ((1,1,0),none)),[],[]),(some (.inl ((0,0,0),none)),[],[])])
def q442_P : rfP := (flX3,csX3,lcX3,spX3,[],[],[],([],[]))
def q442_U : rfU := []
set_option maxHeartbeats 8000000 in
def q442_N : List rfB := [(0,([(0,.inr (.inl [22,24,26,28,30,32,34,36,38,40,42,44,46,48])),(1,.inl (((-2147483648),2147483647,1),none))],[],[]),(6202,[0]),2000000),
  (2,([(0,.inr (.inl [40])),(1,.inl (((-2147483648),2147483647,1),none)),(2,.inl ((0,22,1),none))],[],[]),(4425,[(-19)]),0),
  (2,([(0,.inr (.inl [24])),(1,.inl (((-2147483648),2147483647,1),none)),(2,.inl ((0,22,1),none))],[],[]),(881,[(-19)]),0),
  (2,([(0,.inr (.inl [34])),(1,.inl (((-2147483648),2147483647,1),none)),(2,.inl ((0,22,1),none))],[],[]),(3096,[(-19)]),0),
  (2,([(0,.inr (.inl [42])),(1,.inl (((-2147483648),2147483647,1),none)),(2,.inl ((0,22,1),none))],[],[]),(4868,[(-19)]),0),
  (2,([(0,.inr (.inl [32])),(1,.inl (((-2147483648),2147483647,1),none)),(2,.inl ((0,22,1),none))],[],[]),(2653,[(-19)]),0),
  (2,([(0,.inr (.inl [26])),(1,.inl (((-2147483648),2147483647,1),none)),(2,.inl ((0,22,1),none))],[],[]),(1324,[(-19)]),0),
  (2,([(0,.inr (.inl [44])),(1,.inl (((-2147483648),2147483647,1),none)),(2,.inl ((0,22,1),none))],[],[]),(5311,[(-19)]),0),
  (2,([(0,.inr (.inl [22])),(1,.inl (((-2147483648),2147483647,1),none)),(2,.inl ((0,22,1),none))],[],[]),(438,[(-19)]),0),
  (2,([(0,.inr (.inl [46])),(1,.inl (((-2147483648),2147483647,1),none)),(2,.inl ((0,22,1),none))],[],[]),(5754,[(-19)]),0),
  (2,([(0,.inr (.inl [48])),(1,.inl (((-2147483648),2147483647,1),none)),(2,.inl ((0,22,1),none))],[],[]),(6197,[(-19)]),0),
  (2,([(0,.inr (.inl [38])),(1,.inl (((-2147483648),2147483647,1),none)),(2,.inl ((0,22,1),none))],[],[]),(3982,[(-19)]),0),
  (2,([(0,.inr (.inl [30])),(1,.inl (((-2147483648),2147483647,1),none)),(2,.inl ((0,22,1),none))],[],[]),(2210,[(-19)]),0),
  (2,([(0,.inr (.inl [28])),(1,.inl (((-2147483648),2147483647,1),none)),(2,.inl ((0,22,1),none))],[],[]),(1767,[(-19)]),0),
  (2,([(0,.inr (.inl [36])),(1,.inl (((-2147483648),2147483647,1),none)),(2,.inl ((0,22,1),none))],[],[]),(3539,[(-19)]),0),
  (38,([(0,.inr (.inl [40])),(1,.inl (((-2147483648),2147483647,1),none)),(2,.inl ((0,22,1),none))],[],[]),(3988,[0]),0),
  (38,([(0,.inr (.inl [24])),(1,.inl (((-2147483648),2147483647,1),none)),(2,.inl ((0,22,1),none))],[],[]),(444,[0]),0),
  (38,([(0,.inr (.inl [34])),(1,.inl (((-2147483648),2147483647,1),none)),(2,.inl ((0,22,1),none))],[],[]),(2659,[0]),0),
  (38,([(0,.inr (.inl [42])),(1,.inl (((-2147483648),2147483647,1),none)),(2,.inl ((0,22,1),none))],[],[]),(4431,[0]),0),
  (38,([(0,.inr (.inl [32])),(1,.inl (((-2147483648),2147483647,1),none)),(2,.inl ((0,22,1),none))],[],[]),(2216,[0]),0),
  (38,([(0,.inr (.inl [26])),(1,.inl (((-2147483648),2147483647,1),none)),(2,.inl ((0,22,1),none))],[],[]),(887,[0]),0),
  (38,([(0,.inr (.inl [44])),(1,.inl (((-2147483648),2147483647,1),none)),(2,.inl ((0,22,1),none))],[],[]),(4874,[0]),0),
  (38,([(0,.inr (.inl [22])),(1,.inl (((-2147483648),2147483647,1),none)),(2,.inl ((0,22,1),none))],[],[]),(1,[0]),0),
  (38,([(0,.inr (.inl [46])),(1,.inl (((-2147483648),2147483647,1),none)),(2,.inl ((0,22,1),none))],[],[]),(5317,[0]),0),
  (38,([(0,.inr (.inl [48])),(1,.inl (((-2147483648),2147483647,1),none)),(2,.inl ((0,22,1),none))],[],[]),(5760,[0]),0),
  (38,([(0,.inr (.inl [38])),(1,.inl (((-2147483648),2147483647,1),none)),(2,.inl ((0,22,1),none))],[],[]),(3545,[0]),0),
  (38,([(0,.inr (.inl [30])),(1,.inl (((-2147483648),2147483647,1),none)),(2,.inl ((0,22,1),none))],[],[]),(1773,[0]),0),
  (38,([(0,.inr (.inl [28])),(1,.inl (((-2147483648),2147483647,1),none)),(2,.inl ((0,22,1),none))],[],[]),(1330,[0]),0),
  (38,([(0,.inr (.inl [36])),(1,.inl (((-2147483648),2147483647,1),none)),(2,.inl ((0,22,1),none))],[],[]),(3102,[0]),0)]
set_option maxRecDepth 100000 in
theorem q442_ok : rf_chkB q442_P q442_U wLay q442_M ddX3_has [] [.inl 2] [0,2,38] 600 q442_N = true := by decide +kernel
set_option maxHeartbeats 4000000 in
theorem q442_met {G : rfG} (h : okG G) (hh : wHandOK G) : rf_met G q442_M := rf_methodB h.1 (P := q442_P) (U := q442_U) (N := q442_N) ⟨wflT h flokX3, wcsT h csokX3, wlcT h lcokX3, spokX3 h, fun _ h => absurd h List.not_mem_nil, fun _ h => absurd h List.not_mem_nil, fun _ h => absurd h List.not_mem_nil, fun _ h => absurd h List.not_mem_nil, fun _ h => absurd h List.not_mem_nil⟩ dkX3_has (by decide +kernel) (by rw [h.2.2.1]; exact q442_ok)
/-- NearSpell.Laid.isOfOthers -/
def q443_M : rfM := ((⟨"NearSpell$Laid", "isOfOthers", "(III)Z"⟩, prog_6_method_11_code, 5, (some .boolean)), (1,22), ([.inr (.inl [53]),.inl (((-2147483648),2147483647,1),none),.inl ((0,1,1),none),.inl ((0,1,1),none)],[]), [], [(some (.inl ((1,1,0),none)),[(2,1,1),(3,1,1)],[((12,34),(1,14,1),none)]),(some (.inl ((0,0,0),none)),[],[])])
def q443_P : rfP := (flX4,csX4,lcX4,spX4,[q160_M,q442_M],[],[(65,0,8),(85,1,3)],([],[]))
def q443_U : rfU := []
set_option maxHeartbeats 8000000 in
def q443_N : List rfB := [(0,([(0,.inr (.inl [53])),(1,.inl (((-2147483648),2147483647,1),none)),(2,.inl ((0,1,1),none)),(3,.inl ((0,1,1),none))],[],[]),(50,[0]),0),
  (3,([(0,.inr (.inl [53])),(1,.inl (((-2147483648),2147483647,1),none)),(2,.inl ((0,1,1),none)),(3,.inl ((0,1,1),none)),(4,.inl ((0,1,1),none))],[],[]),(46,[(-22)]),0),
  (43,([(0,.inr (.inl [53])),(1,.inl (((-2147483648),2147483647,1),none)),(2,.inl ((0,1,1),none)),(3,.inl ((1,1,1),none)),(4,.inl ((0,0,1),none))],[],[]),(27,[(-22)]),0)]
set_option maxRecDepth 100000 in
theorem q443_ok : rf_chkB q443_P q443_U wLay q443_M ddX4_isOfOthers [(21,[0]),(35,[1])] [.inl 4] [0,3,43] 600 q443_N = true := by decide +kernel
set_option maxHeartbeats 4000000 in
theorem q443_met {G : rfG} (h : okG G) (hh : wHandOK G) : rf_met G q443_M := rf_methodB h.1 (P := q443_P) (U := q443_U) (N := q443_N) ⟨wflT h flokX4, wcsT h csokX4, wlcT h lcokX4, spokX4 h, List.forall_mem_cons.mpr ⟨q160_met h hh, List.forall_mem_cons.mpr ⟨q442_met h hh, fun _ h => absurd h List.not_mem_nil⟩⟩, fun _ h => absurd h List.not_mem_nil, List.forall_mem_cons.mpr ⟨fun M hM => Option.some.inj (show some q160_M = some M from hM) ▸ wlkV (lkX4_65 h) q160_M rfl rfl, List.forall_mem_cons.mpr ⟨fun M hM => Option.some.inj (show some q442_M = some M from hM) ▸ wlkV (lkX4_85 h) q442_M rfl rfl, fun _ h => absurd h List.not_mem_nil⟩⟩, fun _ h => absurd h List.not_mem_nil, fun _ h => absurd h List.not_mem_nil⟩ dkX4_isOfOthers (by decide +kernel) (by rw [h.2.2.1]; exact q443_ok)
/-- NearSpell.Laid.tallyEntry -/
def q444_M : rfM := ((⟨"NearSpell$Laid", "tallyEntry", "(IZ)V"⟩, prog_6_method_13_code, 7, none), (4,94), ([.inr (.inl [53]),.inl ((0,1,1),none),.inl ((1,1,0),none)],[]), [(4,0),(5,13),(52,0)], [(none,[],[])])
def q444_P : rfP := (flX4,csX4,lcX4,spX4,[q260_M,q443_M],[],[(81,1,4),(92,0,1)],([],[]))
def q444_U : rfU := []
set_option maxHeartbeats 8000000 in
def q444_N : List rfB := [(0,([(0,.inr (.inl [53])),(1,.inl ((0,1,1),none)),(2,.inl ((1,1,0),none))],[],[]),(1042,[0]),0),
  (10,([(0,.inr (.inl [53])),(1,.inl ((0,1,1),none)),(2,.inl ((1,1,0),none)),(3,.inr (.inl [22,24,26,28,30,32,34,36,38,40,42,44,46,48])),(4,.inl ((0,22,1),none))],[],[]),(1033,[(-45)]),0),
  (62,([(0,.inr (.inl [53])),(1,.inl ((0,1,1),none)),(2,.inl ((1,1,0),none)),(3,.inr (.inl [22,24,26,28,30,32,34,36,38,40,42,44,46,48])),(4,.inl ((0,21,1),none)),(5,.inl ((0,30,1),none)),(6,.inl ((0,1,1),none))],[],[]),(1004,[(-45)]),0),
  (85,([(0,.inr (.inl [53])),(1,.inl ((0,1,1),none)),(2,.inl ((1,1,0),none)),(3,.inr (.inl [22,24,26,28,30,32,34,36,38,40,42,44,46,48])),(4,.inl ((0,21,1),none)),(5,.inl ((0,30,1),none)),(6,.inl ((0,1,1),none))],[],[]),(991,[(-45)]),0)]
set_option maxRecDepth 100000 in
theorem q444_ok : rf_chkB q444_P q444_U wLay q444_M ddX4_tallyEntry [(30,[0]),(49,[1])] [.inl 4] [0,10,62,85] 600 q444_N = true := by decide +kernel
set_option maxHeartbeats 4000000 in
theorem q444_met {G : rfG} (h : okG G) (hh : wHandOK G) : rf_met G q444_M := rf_methodB h.1 (P := q444_P) (U := q444_U) (N := q444_N) ⟨wflT h flokX4, wcsT h csokX4, wlcT h lcokX4, spokX4 h, List.forall_mem_cons.mpr ⟨q260_met h hh, List.forall_mem_cons.mpr ⟨q443_met h hh, fun _ h => absurd h List.not_mem_nil⟩⟩, fun _ h => absurd h List.not_mem_nil, List.forall_mem_cons.mpr ⟨fun M hM => Option.some.inj (show some q443_M = some M from hM) ▸ wlkV (lkX4_81 h) q443_M rfl rfl, List.forall_mem_cons.mpr ⟨fun M hM => Option.some.inj (show some q260_M = some M from hM) ▸ wlkV (lkX4_92 h) q260_M rfl rfl, fun _ h => absurd h List.not_mem_nil⟩⟩, fun _ h => absurd h List.not_mem_nil, fun _ h => absurd h List.not_mem_nil⟩ dkX4_tallyEntry (by decide +kernel) (by rw [h.2.2.1]; exact q444_ok)
/-- NearSpell.Laid.isOfOthers -/
def q445_M : rfM := ((⟨"NearSpell$Laid", "isOfOthers", "(III)Z"⟩, prog_6_method_11_code, 5, (some .boolean)), (1,22), ([.inr (.inl [53]),.inl (((-2147483648),2147483647,1),none),.inl ((0,2,1),none),.inl ((0,2,1),none)],[]), [], [(some (.inl ((1,1,0),none)),[(3,1,2)],[((12,34),(1,14,1),none)]),(some (.inl ((0,0,0),none)),[],[])])
def q445_P : rfP := (flX4,csX4,lcX4,spX4,[q162_M,q442_M],[],[(65,0,8),(85,1,3)],([],[]))
def q445_U : rfU := []
set_option maxHeartbeats 8000000 in
def q445_N : List rfB := [(0,([(0,.inr (.inl [53])),(1,.inl (((-2147483648),2147483647,1),none)),(2,.inl ((0,2,1),none)),(3,.inl ((0,2,1),none))],[],[]),(72,[0]),0),
  (3,([(0,.inr (.inl [53])),(1,.inl (((-2147483648),2147483647,1),none)),(2,.inl ((0,2,1),none)),(3,.inl ((0,2,1),none)),(4,.inl ((0,2,1),none))],[],[]),(68,[(-22)]),0),
  (43,([(0,.inr (.inl [53])),(1,.inl (((-2147483648),2147483647,1),none)),(2,.inl ((0,2,1),none)),(3,.inl ((1,2,1),none)),(4,.inl ((0,1,1),none))],[],[]),(49,[(-22)]),0)]
set_option maxRecDepth 100000 in
theorem q445_ok : rf_chkB q445_P q445_U wLay q445_M ddX4_isOfOthers [(21,[0]),(35,[1])] [.inl 4] [0,3,43] 600 q445_N = true := by decide +kernel
set_option maxHeartbeats 4000000 in
theorem q445_met {G : rfG} (h : okG G) (hh : wHandOK G) : rf_met G q445_M := rf_methodB h.1 (P := q445_P) (U := q445_U) (N := q445_N) ⟨wflT h flokX4, wcsT h csokX4, wlcT h lcokX4, spokX4 h, List.forall_mem_cons.mpr ⟨q162_met h hh, List.forall_mem_cons.mpr ⟨q442_met h hh, fun _ h => absurd h List.not_mem_nil⟩⟩, fun _ h => absurd h List.not_mem_nil, List.forall_mem_cons.mpr ⟨fun M hM => Option.some.inj (show some q162_M = some M from hM) ▸ wlkV (lkX4_65 h) q162_M rfl rfl, List.forall_mem_cons.mpr ⟨fun M hM => Option.some.inj (show some q442_M = some M from hM) ▸ wlkV (lkX4_85 h) q442_M rfl rfl, fun _ h => absurd h List.not_mem_nil⟩⟩, fun _ h => absurd h List.not_mem_nil, fun _ h => absurd h List.not_mem_nil⟩ dkX4_isOfOthers (by decide +kernel) (by rw [h.2.2.1]; exact q445_ok)
/-- NearSpell.Laid.tallyEntry -/
def q446_M : rfM := ((⟨"NearSpell$Laid", "tallyEntry", "(IZ)V"⟩, prog_6_method_13_code, 7, none), (4,94), ([.inr (.inl [53]),.inl ((0,2,1),none),.inl ((1,1,0),none)],[]), [(4,0),(5,13),(52,0)], [(none,[],[])])
def q446_P : rfP := (flX4,csX4,lcX4,spX4,[q260_M,q445_M],[],[(81,1,4),(92,0,1)],([],[]))
def q446_U : rfU := []
set_option maxHeartbeats 8000000 in
def q446_N : List rfB := [(0,([(0,.inr (.inl [53])),(1,.inl ((0,2,1),none)),(2,.inl ((1,1,0),none))],[],[]),(1042,[0]),0),
  (10,([(0,.inr (.inl [53])),(1,.inl ((0,2,1),none)),(2,.inl ((1,1,0),none)),(3,.inr (.inl [22,24,26,28,30,32,34,36,38,40,42,44,46,48])),(4,.inl ((0,22,1),none))],[],[]),(1033,[(-45)]),0),
  (62,([(0,.inr (.inl [53])),(1,.inl ((0,2,1),none)),(2,.inl ((1,1,0),none)),(3,.inr (.inl [22,24,26,28,30,32,34,36,38,40,42,44,46,48])),(4,.inl ((0,21,1),none)),(5,.inl ((0,30,1),none)),(6,.inl ((0,1,1),none))],[],[]),(1004,[(-45)]),0),
  (85,([(0,.inr (.inl [53])),(1,.inl ((0,2,1),none)),(2,.inl ((1,1,0),none)),(3,.inr (.inl [22,24,26,28,30,32,34,36,38,40,42,44,46,48])),(4,.inl ((0,21,1),none)),(5,.inl ((0,30,1),none)),(6,.inl ((0,1,1),none))],[],[]),(991,[(-45)]),0)]
set_option maxRecDepth 100000 in
theorem q446_ok : rf_chkB q446_P q446_U wLay q446_M ddX4_tallyEntry [(30,[0]),(49,[1])] [.inl 4] [0,10,62,85] 600 q446_N = true := by decide +kernel
set_option maxHeartbeats 4000000 in
theorem q446_met {G : rfG} (h : okG G) (hh : wHandOK G) : rf_met G q446_M := rf_methodB h.1 (P := q446_P) (U := q446_U) (N := q446_N) ⟨wflT h flokX4, wcsT h csokX4, wlcT h lcokX4, spokX4 h, List.forall_mem_cons.mpr ⟨q260_met h hh, List.forall_mem_cons.mpr ⟨q445_met h hh, fun _ h => absurd h List.not_mem_nil⟩⟩, fun _ h => absurd h List.not_mem_nil, List.forall_mem_cons.mpr ⟨fun M hM => Option.some.inj (show some q445_M = some M from hM) ▸ wlkV (lkX4_81 h) q445_M rfl rfl, List.forall_mem_cons.mpr ⟨fun M hM => Option.some.inj (show some q260_M = some M from hM) ▸ wlkV (lkX4_92 h) q260_M rfl rfl, fun _ h => absurd h List.not_mem_nil⟩⟩, fun _ h => absurd h List.not_mem_nil, fun _ h => absurd h List.not_mem_nil⟩ dkX4_tallyEntry (by decide +kernel) (by rw [h.2.2.1]; exact q446_ok)
/-- NearSpell.Laid.isOfOthers -/
def q447_M : rfM := ((⟨"NearSpell$Laid", "isOfOthers", "(III)Z"⟩, prog_6_method_11_code, 5, (some .boolean)), (1,22), ([.inr (.inl [53]),.inl (((-2147483648),2147483647,1),none),.inl ((0,3,1),none),.inl ((0,3,1),none)],[]), [], [(some (.inl ((1,1,0),none)),[(3,1,3)],[((12,34),(1,14,1),none)]),(some (.inl ((0,0,0),none)),[],[])])
def q447_P : rfP := (flX4,csX4,lcX4,spX4,[q164_M,q442_M],[],[(65,0,8),(85,1,3)],([],[]))
def q447_U : rfU := []
set_option maxHeartbeats 8000000 in
def q447_N : List rfB := [(0,([(0,.inr (.inl [53])),(1,.inl (((-2147483648),2147483647,1),none)),(2,.inl ((0,3,1),none)),(3,.inl ((0,3,1),none))],[],[]),(94,[0]),0),
  (3,([(0,.inr (.inl [53])),(1,.inl (((-2147483648),2147483647,1),none)),(2,.inl ((0,3,1),none)),(3,.inl ((0,3,1),none)),(4,.inl ((0,3,1),none))],[],[]),(90,[(-22)]),0),
  (43,([(0,.inr (.inl [53])),(1,.inl (((-2147483648),2147483647,1),none)),(2,.inl ((0,3,1),none)),(3,.inl ((1,3,1),none)),(4,.inl ((0,2,1),none))],[],[]),(71,[(-22)]),0)]
set_option maxRecDepth 100000 in
theorem q447_ok : rf_chkB q447_P q447_U wLay q447_M ddX4_isOfOthers [(21,[0]),(35,[1])] [.inl 4] [0,3,43] 600 q447_N = true := by decide +kernel
set_option maxHeartbeats 4000000 in
theorem q447_met {G : rfG} (h : okG G) (hh : wHandOK G) : rf_met G q447_M := rf_methodB h.1 (P := q447_P) (U := q447_U) (N := q447_N) ⟨wflT h flokX4, wcsT h csokX4, wlcT h lcokX4, spokX4 h, List.forall_mem_cons.mpr ⟨q164_met h hh, List.forall_mem_cons.mpr ⟨q442_met h hh, fun _ h => absurd h List.not_mem_nil⟩⟩, fun _ h => absurd h List.not_mem_nil, List.forall_mem_cons.mpr ⟨fun M hM => Option.some.inj (show some q164_M = some M from hM) ▸ wlkV (lkX4_65 h) q164_M rfl rfl, List.forall_mem_cons.mpr ⟨fun M hM => Option.some.inj (show some q442_M = some M from hM) ▸ wlkV (lkX4_85 h) q442_M rfl rfl, fun _ h => absurd h List.not_mem_nil⟩⟩, fun _ h => absurd h List.not_mem_nil, fun _ h => absurd h List.not_mem_nil⟩ dkX4_isOfOthers (by decide +kernel) (by rw [h.2.2.1]; exact q447_ok)
/-- NearSpell.Laid.tallyEntry -/
def q448_M : rfM := ((⟨"NearSpell$Laid", "tallyEntry", "(IZ)V"⟩, prog_6_method_13_code, 7, none), (4,94), ([.inr (.inl [53]),.inl ((0,3,1),none),.inl ((1,1,0),none)],[]), [(4,0),(5,13),(52,0)], [(none,[],[])])
def q448_P : rfP := (flX4,csX4,lcX4,spX4,[q260_M,q447_M],[],[(81,1,4),(92,0,1)],([],[]))
def q448_U : rfU := []
set_option maxHeartbeats 8000000 in
def q448_N : List rfB := [(0,([(0,.inr (.inl [53])),(1,.inl ((0,3,1),none)),(2,.inl ((1,1,0),none))],[],[]),(1042,[0]),0),
  (10,([(0,.inr (.inl [53])),(1,.inl ((0,3,1),none)),(2,.inl ((1,1,0),none)),(3,.inr (.inl [22,24,26,28,30,32,34,36,38,40,42,44,46,48])),(4,.inl ((0,22,1),none))],[],[]),(1033,[(-45)]),0),
  (62,([(0,.inr (.inl [53])),(1,.inl ((0,3,1),none)),(2,.inl ((1,1,0),none)),(3,.inr (.inl [22,24,26,28,30,32,34,36,38,40,42,44,46,48])),(4,.inl ((0,21,1),none)),(5,.inl ((0,30,1),none)),(6,.inl ((0,1,1),none))],[],[]),(1004,[(-45)]),0),
  (85,([(0,.inr (.inl [53])),(1,.inl ((0,3,1),none)),(2,.inl ((1,1,0),none)),(3,.inr (.inl [22,24,26,28,30,32,34,36,38,40,42,44,46,48])),(4,.inl ((0,21,1),none)),(5,.inl ((0,30,1),none)),(6,.inl ((0,1,1),none))],[],[]),(991,[(-45)]),0)]
set_option maxRecDepth 100000 in
theorem q448_ok : rf_chkB q448_P q448_U wLay q448_M ddX4_tallyEntry [(30,[0]),(49,[1])] [.inl 4] [0,10,62,85] 600 q448_N = true := by decide +kernel
set_option maxHeartbeats 4000000 in
theorem q448_met {G : rfG} (h : okG G) (hh : wHandOK G) : rf_met G q448_M := rf_methodB h.1 (P := q448_P) (U := q448_U) (N := q448_N) ⟨wflT h flokX4, wcsT h csokX4, wlcT h lcokX4, spokX4 h, List.forall_mem_cons.mpr ⟨q260_met h hh, List.forall_mem_cons.mpr ⟨q447_met h hh, fun _ h => absurd h List.not_mem_nil⟩⟩, fun _ h => absurd h List.not_mem_nil, List.forall_mem_cons.mpr ⟨fun M hM => Option.some.inj (show some q447_M = some M from hM) ▸ wlkV (lkX4_81 h) q447_M rfl rfl, List.forall_mem_cons.mpr ⟨fun M hM => Option.some.inj (show some q260_M = some M from hM) ▸ wlkV (lkX4_92 h) q260_M rfl rfl, fun _ h => absurd h List.not_mem_nil⟩⟩, fun _ h => absurd h List.not_mem_nil, fun _ h => absurd h List.not_mem_nil⟩ dkX4_tallyEntry (by decide +kernel) (by rw [h.2.2.1]; exact q448_ok)
/-- NearSpell.Laid.isOfOthers -/
def q449_M : rfM := ((⟨"NearSpell$Laid", "isOfOthers", "(III)Z"⟩, prog_6_method_11_code, 5, (some .boolean)), (1,22), ([.inr (.inl [53]),.inl (((-2147483648),2147483647,1),none),.inl ((0,12,1),none),.inl ((0,12,1),none)],[]), [], [(some (.inl ((1,1,0),none)),[(3,1,12)],[((12,34),(1,14,1),none)]),(some (.inl ((0,0,0),none)),[],[])])
def q449_P : rfP := (flX4,csX4,lcX4,spX4,[q172_M,q442_M],[],[(65,0,8),(85,1,3)],([],[]))
def q449_U : rfU := []
set_option maxHeartbeats 8000000 in
def q449_N : List rfB := [(0,([(0,.inr (.inl [53])),(1,.inl (((-2147483648),2147483647,1),none)),(2,.inl ((0,12,1),none)),(3,.inl ((0,12,1),none))],[],[]),(292,[0]),0),
  (3,([(0,.inr (.inl [53])),(1,.inl (((-2147483648),2147483647,1),none)),(2,.inl ((0,12,1),none)),(3,.inl ((0,12,1),none)),(4,.inl ((0,12,1),none))],[],[]),(288,[(-22)]),0),
  (43,([(0,.inr (.inl [53])),(1,.inl (((-2147483648),2147483647,1),none)),(2,.inl ((0,12,1),none)),(3,.inl ((1,12,1),none)),(4,.inl ((0,11,1),none))],[],[]),(269,[(-22)]),0)]
set_option maxRecDepth 100000 in
theorem q449_ok : rf_chkB q449_P q449_U wLay q449_M ddX4_isOfOthers [(21,[0]),(35,[1])] [.inl 4] [0,3,43] 600 q449_N = true := by decide +kernel
set_option maxHeartbeats 4000000 in
theorem q449_met {G : rfG} (h : okG G) (hh : wHandOK G) : rf_met G q449_M := rf_methodB h.1 (P := q449_P) (U := q449_U) (N := q449_N) ⟨wflT h flokX4, wcsT h csokX4, wlcT h lcokX4, spokX4 h, List.forall_mem_cons.mpr ⟨q172_met h hh, List.forall_mem_cons.mpr ⟨q442_met h hh, fun _ h => absurd h List.not_mem_nil⟩⟩, fun _ h => absurd h List.not_mem_nil, List.forall_mem_cons.mpr ⟨fun M hM => Option.some.inj (show some q172_M = some M from hM) ▸ wlkV (lkX4_65 h) q172_M rfl rfl, List.forall_mem_cons.mpr ⟨fun M hM => Option.some.inj (show some q442_M = some M from hM) ▸ wlkV (lkX4_85 h) q442_M rfl rfl, fun _ h => absurd h List.not_mem_nil⟩⟩, fun _ h => absurd h List.not_mem_nil, fun _ h => absurd h List.not_mem_nil⟩ dkX4_isOfOthers (by decide +kernel) (by rw [h.2.2.1]; exact q449_ok)
/-- NearSpell.Laid.tallyEntry -/
def q450_M : rfM := ((⟨"NearSpell$Laid", "tallyEntry", "(IZ)V"⟩, prog_6_method_13_code, 7, none), (4,94), ([.inr (.inl [53]),.inl ((0,12,1),none),.inl ((1,1,0),none)],[]), [(4,0),(5,13),(52,0)], [(none,[],[])])
def q450_P : rfP := (flX4,csX4,lcX4,spX4,[q260_M,q449_M],[],[(81,1,4),(92,0,1)],([],[]))
def q450_U : rfU := []
set_option maxHeartbeats 8000000 in
def q450_N : List rfB := [(0,([(0,.inr (.inl [53])),(1,.inl ((0,12,1),none)),(2,.inl ((1,1,0),none))],[],[]),(1042,[0]),0),
  (10,([(0,.inr (.inl [53])),(1,.inl ((0,12,1),none)),(2,.inl ((1,1,0),none)),(3,.inr (.inl [22,24,26,28,30,32,34,36,38,40,42,44,46,48])),(4,.inl ((0,22,1),none))],[],[]),(1033,[(-45)]),0),
  (62,([(0,.inr (.inl [53])),(1,.inl ((0,12,1),none)),(2,.inl ((1,1,0),none)),(3,.inr (.inl [22,24,26,28,30,32,34,36,38,40,42,44,46,48])),(4,.inl ((0,21,1),none)),(5,.inl ((0,30,1),none)),(6,.inl ((0,1,1),none))],[],[]),(1004,[(-45)]),0),
  (85,([(0,.inr (.inl [53])),(1,.inl ((0,12,1),none)),(2,.inl ((1,1,0),none)),(3,.inr (.inl [22,24,26,28,30,32,34,36,38,40,42,44,46,48])),(4,.inl ((0,21,1),none)),(5,.inl ((0,30,1),none)),(6,.inl ((0,1,1),none))],[],[]),(991,[(-45)]),0)]
set_option maxRecDepth 100000 in
theorem q450_ok : rf_chkB q450_P q450_U wLay q450_M ddX4_tallyEntry [(30,[0]),(49,[1])] [.inl 4] [0,10,62,85] 600 q450_N = true := by decide +kernel
set_option maxHeartbeats 4000000 in
theorem q450_met {G : rfG} (h : okG G) (hh : wHandOK G) : rf_met G q450_M := rf_methodB h.1 (P := q450_P) (U := q450_U) (N := q450_N) ⟨wflT h flokX4, wcsT h csokX4, wlcT h lcokX4, spokX4 h, List.forall_mem_cons.mpr ⟨q260_met h hh, List.forall_mem_cons.mpr ⟨q449_met h hh, fun _ h => absurd h List.not_mem_nil⟩⟩, fun _ h => absurd h List.not_mem_nil, List.forall_mem_cons.mpr ⟨fun M hM => Option.some.inj (show some q449_M = some M from hM) ▸ wlkV (lkX4_81 h) q449_M rfl rfl, List.forall_mem_cons.mpr ⟨fun M hM => Option.some.inj (show some q260_M = some M from hM) ▸ wlkV (lkX4_92 h) q260_M rfl rfl, fun _ h => absurd h List.not_mem_nil⟩⟩, fun _ h => absurd h List.not_mem_nil, fun _ h => absurd h List.not_mem_nil⟩ dkX4_tallyEntry (by decide +kernel) (by rw [h.2.2.1]; exact q450_ok)
/-- NearSpell.Laid.isOfOthers -/
def q451_M : rfM := ((⟨"NearSpell$Laid", "isOfOthers", "(III)Z"⟩, prog_6_method_11_code, 5, (some .boolean)), (1,22), ([.inr (.inl [53]),.inl (((-2147483648),2147483647,1),none),.inl ((0,13,1),none),.inl ((0,13,1),none)],[]), [], [(some (.inl ((1,1,0),none)),[(3,1,13)],[((12,34),(1,14,1),none)]),(some (.inl ((0,0,0),none)),[],[])])
def q451_P : rfP := (flX4,csX4,lcX4,spX4,[q172_M,q442_M],[],[(65,0,8),(85,1,3)],([],[]))
def q451_U : rfU := []
set_option maxHeartbeats 8000000 in
def q451_N : List rfB := [(0,([(0,.inr (.inl [53])),(1,.inl (((-2147483648),2147483647,1),none)),(2,.inl ((0,13,1),none)),(3,.inl ((0,13,1),none))],[],[]),(314,[0]),0),
  (3,([(0,.inr (.inl [53])),(1,.inl (((-2147483648),2147483647,1),none)),(2,.inl ((0,13,1),none)),(3,.inl ((0,13,1),none)),(4,.inl ((0,13,1),none))],[],[]),(310,[(-22)]),0),
  (43,([(0,.inr (.inl [53])),(1,.inl (((-2147483648),2147483647,1),none)),(2,.inl ((0,13,1),none)),(3,.inl ((1,13,1),none)),(4,.inl ((0,12,1),none))],[],[]),(291,[(-22)]),0)]
set_option maxRecDepth 100000 in
theorem q451_ok : rf_chkB q451_P q451_U wLay q451_M ddX4_isOfOthers [(21,[0]),(35,[1])] [.inl 4] [0,3,43] 600 q451_N = true := by decide +kernel
set_option maxHeartbeats 4000000 in
theorem q451_met {G : rfG} (h : okG G) (hh : wHandOK G) : rf_met G q451_M := rf_methodB h.1 (P := q451_P) (U := q451_U) (N := q451_N) ⟨wflT h flokX4, wcsT h csokX4, wlcT h lcokX4, spokX4 h, List.forall_mem_cons.mpr ⟨q172_met h hh, List.forall_mem_cons.mpr ⟨q442_met h hh, fun _ h => absurd h List.not_mem_nil⟩⟩, fun _ h => absurd h List.not_mem_nil, List.forall_mem_cons.mpr ⟨fun M hM => Option.some.inj (show some q172_M = some M from hM) ▸ wlkV (lkX4_65 h) q172_M rfl rfl, List.forall_mem_cons.mpr ⟨fun M hM => Option.some.inj (show some q442_M = some M from hM) ▸ wlkV (lkX4_85 h) q442_M rfl rfl, fun _ h => absurd h List.not_mem_nil⟩⟩, fun _ h => absurd h List.not_mem_nil, fun _ h => absurd h List.not_mem_nil⟩ dkX4_isOfOthers (by decide +kernel) (by rw [h.2.2.1]; exact q451_ok)
/-- NearSpell.Laid.tallyEntry -/
def q452_M : rfM := ((⟨"NearSpell$Laid", "tallyEntry", "(IZ)V"⟩, prog_6_method_13_code, 7, none), (4,94), ([.inr (.inl [53]),.inl ((0,13,1),none),.inl ((1,1,0),none)],[]), [(4,0),(5,13),(52,0)], [(none,[],[])])
def q452_P : rfP := (flX4,csX4,lcX4,spX4,[q260_M,q451_M],[],[(81,1,4),(92,0,1)],([],[]))
def q452_U : rfU := []
set_option maxHeartbeats 8000000 in
def q452_N : List rfB := [(0,([(0,.inr (.inl [53])),(1,.inl ((0,13,1),none)),(2,.inl ((1,1,0),none))],[],[]),(1042,[0]),0),
  (10,([(0,.inr (.inl [53])),(1,.inl ((0,13,1),none)),(2,.inl ((1,1,0),none)),(3,.inr (.inl [22,24,26,28,30,32,34,36,38,40,42,44,46,48])),(4,.inl ((0,22,1),none))],[],[]),(1033,[(-45)]),0),
  (62,([(0,.inr (.inl [53])),(1,.inl ((0,13,1),none)),(2,.inl ((1,1,0),none)),(3,.inr (.inl [22,24,26,28,30,32,34,36,38,40,42,44,46,48])),(4,.inl ((0,21,1),none)),(5,.inl ((0,30,1),none)),(6,.inl ((0,1,1),none))],[],[]),(1004,[(-45)]),0),
  (85,([(0,.inr (.inl [53])),(1,.inl ((0,13,1),none)),(2,.inl ((1,1,0),none)),(3,.inr (.inl [22,24,26,28,30,32,34,36,38,40,42,44,46,48])),(4,.inl ((0,21,1),none)),(5,.inl ((0,30,1),none)),(6,.inl ((0,1,1),none))],[],[]),(991,[(-45)]),0)]
set_option maxRecDepth 100000 in
theorem q452_ok : rf_chkB q452_P q452_U wLay q452_M ddX4_tallyEntry [(30,[0]),(49,[1])] [.inl 4] [0,10,62,85] 600 q452_N = true := by decide +kernel
set_option maxHeartbeats 4000000 in
theorem q452_met {G : rfG} (h : okG G) (hh : wHandOK G) : rf_met G q452_M := rf_methodB h.1 (P := q452_P) (U := q452_U) (N := q452_N) ⟨wflT h flokX4, wcsT h csokX4, wlcT h lcokX4, spokX4 h, List.forall_mem_cons.mpr ⟨q260_met h hh, List.forall_mem_cons.mpr ⟨q451_met h hh, fun _ h => absurd h List.not_mem_nil⟩⟩, fun _ h => absurd h List.not_mem_nil, List.forall_mem_cons.mpr ⟨fun M hM => Option.some.inj (show some q451_M = some M from hM) ▸ wlkV (lkX4_81 h) q451_M rfl rfl, List.forall_mem_cons.mpr ⟨fun M hM => Option.some.inj (show some q260_M = some M from hM) ▸ wlkV (lkX4_92 h) q260_M rfl rfl, fun _ h => absurd h List.not_mem_nil⟩⟩, fun _ h => absurd h List.not_mem_nil, fun _ h => absurd h List.not_mem_nil⟩ dkX4_tallyEntry (by decide +kernel) (by rw [h.2.2.1]; exact q452_ok)
/-- NearSpell.Laid.tally -/
def q453_M : rfM := ((⟨"NearSpell$Laid", "tally", "(Z)V"⟩, prog_6_method_12_code, 3, none), (5,120), ([.inr (.inl [53]),.inl ((1,1,0),none)],[]), [(4,0),(5,13),(21,0),(22,2),(22,3),(22,4),(22,5),(23,0),(24,2),(24,3),(24,4),(24,5),(25,0),(26,2),(26,3),(26,4),(26,5),(27,0),(28,2),(28,3),(28,4),(28,5),(29,0),(30,2),(30,3),(30,4),(30,5),(31,0),(32,2),(32,3),(32,4),(32,5),(33,0),(34,2),(34,3),(34,4),(34,5),(35,0),(36,2),(36,3),(36,4),(36,5),(37,0),(38,2),(38,3),(38,4),(38,5),(39,0),(40,2),(40,3),(40,4),(40,5),(41,0),(42,2),(42,3),(42,4),(42,5),(43,0),(44,2),(44,3),(44,4),(44,5),(45,0),(46,2),(46,3),(46,4),(46,5),(47,0),(48,2),(48,3),(48,4),(48,5),(52,0)], [(none,[],[])])
def q453_P : rfP := (flX4,csX4,lcX4,spX4,[q424_M,q176_M,q174_M,q452_M],[],[(57,1,8),(65,2,8),(72,0,4),(88,3,4)],([],[]))
def q453_U : rfU := []
set_option maxHeartbeats 8000000 in
def q453_N : List rfB := [(0,([(0,.inr (.inl [53])),(1,.inl ((1,1,0),none))],[],[]),(628,[0]),0),
  (6,([(0,.inr (.inl [53])),(1,.inl ((1,1,0),none)),(2,.inl ((0,31,1),none))],[],[]),(622,[(-11)]),0),
  (27,([(0,.inr (.inl [53])),(1,.inl ((1,1,0),none)),(2,.inl ((0,14,1),none))],[],[]),(268,[(-18)]),0),
  (55,([(0,.inr (.inl [53])),(1,.inl ((1,1,0),none)),(2,.inl ((0,13,1),none))],[],[]),(253,[(-18)]),0)]
set_option maxRecDepth 100000 in
theorem q453_ok : rf_chkB q453_P q453_U wLay q453_M ddX4_tally [(1,[0]),(32,[1]),(43,[2]),(52,[3])] [.inl 2] [0,6,27,55] 600 q453_N = true := by decide +kernel
set_option maxHeartbeats 4000000 in
theorem q453_met {G : rfG} (h : okG G) (hh : wHandOK G) : rf_met G q453_M := rf_methodB h.1 (P := q453_P) (U := q453_U) (N := q453_N) ⟨wflT h flokX4, wcsT h csokX4, wlcT h lcokX4, spokX4 h, List.forall_mem_cons.mpr ⟨q424_met h hh, List.forall_mem_cons.mpr ⟨q176_met h hh, List.forall_mem_cons.mpr ⟨q174_met h hh, List.forall_mem_cons.mpr ⟨q452_met h hh, fun _ h => absurd h List.not_mem_nil⟩⟩⟩⟩, fun _ h => absurd h List.not_mem_nil, List.forall_mem_cons.mpr ⟨fun M hM => Option.some.inj (show some q176_M = some M from hM) ▸ wlkV (lkX4_57 h) q176_M rfl rfl, List.forall_mem_cons.mpr ⟨fun M hM => Option.some.inj (show some q174_M = some M from hM) ▸ wlkV (lkX4_65 h) q174_M rfl rfl, List.forall_mem_cons.mpr ⟨fun M hM => Option.some.inj (show some q424_M = some M from hM) ▸ wlkV (lkX4_72 h) q424_M rfl rfl, List.forall_mem_cons.mpr ⟨fun M hM => Option.some.inj (show some q452_M = some M from hM) ▸ wlkV (lkX4_88 h) q452_M rfl rfl, fun _ h => absurd h List.not_mem_nil⟩⟩⟩⟩, fun _ h => absurd h List.not_mem_nil, fun _ h => absurd h List.not_mem_nil⟩ dkX4_tally (by decide +kernel) (by rw [h.2.2.1]; exact q453_ok)
/-- NearSpell.Laid.countClashes -/
def q454_M : rfM := ((⟨"NearSpell$Laid", "countClashes", "()I"⟩, prog_6_method_8_code, 3, (some .int)), (6,142), ([.inr (.inl [53])],[]), [(4,0),(5,13),(21,0),(22,2),(22,3),(22,4),(22,5),(23,0),(24,2),(24,3),(24,4),(24,5),(25,0),(26,2),(26,3),(26,4),(26,5),(27,0),(28,2),(28,3),(28,4),(28,5),(29,0),(30,2),(30,3),(30,4),(30,5),(31,0),(32,2),(32,3),(32,4),(32,5),(33,0),(34,2),(34,3),(34,4),(34,5),(35,0),(36,2),(36,3),(36,4),(36,5),(37,0),(38,2),(38,3),(38,4),(38,5),(39,0),(40,2),(40,3),(40,4),(40,5),(41,0),(42,2),(42,3),(42,4),(42,5),(43,0),(44,2),(44,3),(44,4),(44,5),(45,0),(46,2),(46,3),(46,4),(46,5),(47,0),(48,2),(48,3),(48,4),(48,5),(52,0)], [(some (.inl (((-2147483648),2147483647,1),none)),[],[])])
def ddX4_countClashes : List (Nat × Instr × Nat) := [(0,.aload_n 0,1),(1,.iconst 1,1),(2,.invokevirtual 61,3),(5,.iconst 0,1),(6,.istore_n 1,1),(7,.iconst 0,1),(8,.istore_n 2,1),(9,.iload_n 2,1),(10,.bipush 31,2),(12,.if_icmp .ge 29,3),(15,.iload_n 1,1),(16,.aload_n 0,1),(17,.getfield 30,3),(20,.iload_n 2,1),(21,.iaload,1),(22,.aload_n 0,1),(23,.getfield 30,3),(26,.iload_n 2,1),(27,.iaload,1),(28,.iconst 1,1),(29,.isub,1),(30,.imul,1),(31,.iconst 2,1),(32,.idiv,1),(33,.iadd,1),(34,.istore_n 1,1),(35,.iinc 2 1,3),(38,.goto (-29),3),(41,.iload_n 1,1),(42,.ireturn,1)]
set_option maxRecDepth 100000 in
theorem dkX4_countClashes : rf_decs prog_6_method_8_code ddX4_countClashes := rf_decs_of (by decide +kernel)
def q454_P : rfP := (flX4,csX4,lcX4,spX4,[q453_M],[],[(61,0,4)],([],[]))
def q454_U : rfU := []
set_option maxHeartbeats 8000000 in
def q454_N : List rfB := [(0,([(0,.inr (.inl [53]))],[],[]),(712,[0]),0),
  (9,([(0,.inr (.inl [53])),(1,.inl (((-2147483648),2147483647,1),none)),(2,.inl ((0,31,1),none))],[],[]),(703,[(-22)]),0)]
set_option maxRecDepth 100000 in
theorem q454_ok : rf_chkB q454_P q454_U wLay q454_M ddX4_countClashes [(2,[0])] [.inl 2] [0,9] 600 q454_N = true := by decide +kernel
set_option maxHeartbeats 4000000 in
theorem q454_met {G : rfG} (h : okG G) (hh : wHandOK G) : rf_met G q454_M := rf_methodB h.1 (P := q454_P) (U := q454_U) (N := q454_N) ⟨wflT h flokX4, wcsT h csokX4, wlcT h lcokX4, spokX4 h, List.forall_mem_cons.mpr ⟨q453_met h hh, fun _ h => absurd h List.not_mem_nil⟩, fun _ h => absurd h List.not_mem_nil, List.forall_mem_cons.mpr ⟨fun M hM => Option.some.inj (show some q453_M = some M from hM) ▸ wlkV (lkX4_61 h) q453_M rfl rfl, fun _ h => absurd h List.not_mem_nil⟩, fun _ h => absurd h List.not_mem_nil, fun _ h => absurd h List.not_mem_nil⟩ dkX4_countClashes (by decide +kernel) (by rw [h.2.2.1]; exact q454_ok)
/-- NearSpell.clashes -/
def q455_M : rfM := ((⟨"NearSpell", "clashes", "()I"⟩, prog_1_method_36_code, 1, (some .int)), (7,164), ([.inr (.inl [70])],[]), [(4,0),(5,13),(21,0),(22,2),(22,3),(22,4),(22,5),(23,0),(24,2),(24,3),(24,4),(24,5),(25,0),(26,2),(26,3),(26,4),(26,5),(27,0),(28,2),(28,3),(28,4),(28,5),(29,0),(30,2),(30,3),(30,4),(30,5),(31,0),(32,2),(32,3),(32,4),(32,5),(33,0),(34,2),(34,3),(34,4),(34,5),(35,0),(36,2),(36,3),(36,4),(36,5),(37,0),(38,2),(38,3),(38,4),(38,5),(39,0),(40,2),(40,3),(40,4),(40,5),(41,0),(42,2),(42,3),(42,4),(42,5),(43,0),(44,2),(44,3),(44,4),(44,5),(45,0),(46,2),(46,3),(46,4),(46,5),(47,0),(48,2),(48,3),(48,4),(48,5),(52,0)], [(some (.inl (((-2147483648),2147483647,1),none)),[],[])])
def ddX11_clashes : List (Nat × Instr × Nat) := [(0,.aload_n 0,1),(1,.getfield 58,3),(4,.invokevirtual 309,3),(7,.ireturn,1)]
set_option maxRecDepth 100000 in
theorem dkX11_clashes : rf_decs prog_1_method_36_code ddX11_clashes := rf_decs_of (by decide +kernel)
def q455_P : rfP := (flX11,csX11,lcX11,spX11,[q454_M],[],[(309,0,4)],([],[]))
def q455_U : rfU := []
set_option maxHeartbeats 8000000 in
def q455_N : List rfB := [(0,([(0,.inr (.inl [70]))],[],[]),(3,[]),0)]
set_option maxRecDepth 100000 in
theorem q455_ok : rf_chkB q455_P q455_U wLay q455_M ddX11_clashes [(4,[0])] [] [0] 600 q455_N = true := by decide +kernel
set_option maxHeartbeats 4000000 in
theorem q455_met {G : rfG} (h : okG G) (hh : wHandOK G) : rf_met G q455_M := rf_methodB h.1 (P := q455_P) (U := q455_U) (N := q455_N) ⟨wflT h flokX11, wcsT h csokX11, wlcT h lcokX11, spokX11 h, List.forall_mem_cons.mpr ⟨q454_met h hh, fun _ h => absurd h List.not_mem_nil⟩, fun _ h => absurd h List.not_mem_nil, List.forall_mem_cons.mpr ⟨fun M hM => Option.some.inj (show some q454_M = some M from hM) ▸ wlkV (lkX11_309 h) q454_M rfl rfl, fun _ h => absurd h List.not_mem_nil⟩, fun _ h => absurd h List.not_mem_nil, fun _ h => absurd h List.not_mem_nil⟩ dkX11_clashes (by decide +kernel) (by rw [h.2.2.1]; exact q455_ok)
/-- NearSpell.State.isEntry -/
def q456_M : rfM := ((⟨"NearSpell$State", "isEntry", "(I)Z"⟩, prog_10_method_6_code, 2, (some .boolean)), (0,0), ([.inr (.inl [13]),.inl ((1,1,0),none)],[]), [], [(some (.inl ((1,1,0),none)),[],[((12,34),(2,14,1),none)]),(some (.inl ((0,0,0),none)),[],[])])
def q456_P : rfP := (flX8,csX8,lcX8,spX8,[],[],[],([],[]))
def q456_U : rfU := []
set_option maxHeartbeats 8000000 in
def q456_N : List rfB := [(0,([(0,.inr (.inl [13])),(1,.inl ((1,1,0),none))],[],[]),(20,[]),0),
  (32,([(0,.inr (.inl [13])),(1,.inl ((1,1,0),none))],[],[]),(1,[]),0)]
set_option maxRecDepth 100000 in
theorem q456_ok : rf_chkB q456_P q456_U wLay q456_M ddX8_isEntry [] [] [0,32] 600 q456_N = true := by decide +kernel
set_option maxHeartbeats 4000000 in
theorem q456_met {G : rfG} (h : okG G) (hh : wHandOK G) : rf_met G q456_M := rf_methodB h.1 (P := q456_P) (U := q456_U) (N := q456_N) ⟨wflT h flokX8, wcsT h csokX8, wlcT h lcokX8, spokX8 h, fun _ h => absurd h List.not_mem_nil, fun _ h => absurd h List.not_mem_nil, fun _ h => absurd h List.not_mem_nil, fun _ h => absurd h List.not_mem_nil, fun _ h => absurd h List.not_mem_nil⟩ dkX8_isEntry (by decide +kernel) (by rw [h.2.2.1]; exact q456_ok)
/-- NearSpell.State.isEntry -/
def q457_M : rfM := ((⟨"NearSpell$State", "isEntry", "(I)Z"⟩, prog_10_method_6_code, 2, (some .boolean)), (0,0), ([.inr (.inl [13]),.inl ((1,2,1),none)],[]), [], [(some (.inl ((1,1,0),none)),[],[((12,34),(2,14,1),none)]),(some (.inl ((0,0,0),none)),[],[])])
def q457_P : rfP := (flX8,csX8,lcX8,spX8,[],[],[],([],[]))
def q457_U : rfU := []
set_option maxHeartbeats 8000000 in
def q457_N : List rfB := [(0,([(0,.inr (.inl [13])),(1,.inl ((1,2,1),none))],[],[]),(20,[]),0),
  (32,([(0,.inr (.inl [13])),(1,.inl ((1,2,1),none))],[],[]),(1,[]),0)]
set_option maxRecDepth 100000 in
theorem q457_ok : rf_chkB q457_P q457_U wLay q457_M ddX8_isEntry [] [] [0,32] 600 q457_N = true := by decide +kernel
set_option maxHeartbeats 4000000 in
theorem q457_met {G : rfG} (h : okG G) (hh : wHandOK G) : rf_met G q457_M := rf_methodB h.1 (P := q457_P) (U := q457_U) (N := q457_N) ⟨wflT h flokX8, wcsT h csokX8, wlcT h lcokX8, spokX8 h, fun _ h => absurd h List.not_mem_nil, fun _ h => absurd h List.not_mem_nil, fun _ h => absurd h List.not_mem_nil, fun _ h => absurd h List.not_mem_nil, fun _ h => absurd h List.not_mem_nil⟩ dkX8_isEntry (by decide +kernel) (by rw [h.2.2.1]; exact q457_ok)
/-- NearSpell.State.isEntry -/
def q458_M : rfM := ((⟨"NearSpell$State", "isEntry", "(I)Z"⟩, prog_10_method_6_code, 2, (some .boolean)), (0,0), ([.inr (.inl [13]),.inl ((1,3,1),none)],[]), [], [(some (.inl ((1,1,0),none)),[],[((12,34),(2,14,1),none)]),(some (.inl ((0,0,0),none)),[],[])])
def q458_P : rfP := (flX8,csX8,lcX8,spX8,[],[],[],([],[]))
def q458_U : rfU := []
set_option maxHeartbeats 8000000 in
def q458_N : List rfB := [(0,([(0,.inr (.inl [13])),(1,.inl ((1,3,1),none))],[],[]),(20,[]),0),
  (32,([(0,.inr (.inl [13])),(1,.inl ((1,3,1),none))],[],[]),(1,[]),0)]
set_option maxRecDepth 100000 in
theorem q458_ok : rf_chkB q458_P q458_U wLay q458_M ddX8_isEntry [] [] [0,32] 600 q458_N = true := by decide +kernel
set_option maxHeartbeats 4000000 in
theorem q458_met {G : rfG} (h : okG G) (hh : wHandOK G) : rf_met G q458_M := rf_methodB h.1 (P := q458_P) (U := q458_U) (N := q458_N) ⟨wflT h flokX8, wcsT h csokX8, wlcT h lcokX8, spokX8 h, fun _ h => absurd h List.not_mem_nil, fun _ h => absurd h List.not_mem_nil, fun _ h => absurd h List.not_mem_nil, fun _ h => absurd h List.not_mem_nil, fun _ h => absurd h List.not_mem_nil⟩ dkX8_isEntry (by decide +kernel) (by rw [h.2.2.1]; exact q458_ok)
/-- NearSpell.State.isEntry -/
def q459_M : rfM := ((⟨"NearSpell$State", "isEntry", "(I)Z"⟩, prog_10_method_6_code, 2, (some .boolean)), (0,0), ([.inr (.inl [13]),.inl ((1,12,1),none)],[]), [], [(some (.inl ((1,1,0),none)),[],[((12,34),(2,14,1),none)]),(some (.inl ((0,0,0),none)),[],[])])
def q459_P : rfP := (flX8,csX8,lcX8,spX8,[],[],[],([],[]))
def q459_U : rfU := []
set_option maxHeartbeats 8000000 in
def q459_N : List rfB := [(0,([(0,.inr (.inl [13])),(1,.inl ((1,12,1),none))],[],[]),(20,[]),0),
  (32,([(0,.inr (.inl [13])),(1,.inl ((1,12,1),none))],[],[]),(1,[]),0)]
set_option maxRecDepth 100000 in
theorem q459_ok : rf_chkB q459_P q459_U wLay q459_M ddX8_isEntry [] [] [0,32] 600 q459_N = true := by decide +kernel
set_option maxHeartbeats 4000000 in
theorem q459_met {G : rfG} (h : okG G) (hh : wHandOK G) : rf_met G q459_M := rf_methodB h.1 (P := q459_P) (U := q459_U) (N := q459_N) ⟨wflT h flokX8, wcsT h csokX8, wlcT h lcokX8, spokX8 h, fun _ h => absurd h List.not_mem_nil, fun _ h => absurd h List.not_mem_nil, fun _ h => absurd h List.not_mem_nil, fun _ h => absurd h List.not_mem_nil, fun _ h => absurd h List.not_mem_nil⟩ dkX8_isEntry (by decide +kernel) (by rw [h.2.2.1]; exact q459_ok)
/-- NearSpell.State.isEntry -/
def q460_M : rfM := ((⟨"NearSpell$State", "isEntry", "(I)Z"⟩, prog_10_method_6_code, 2, (some .boolean)), (0,0), ([.inr (.inl [13]),.inl ((1,13,1),none)],[]), [], [(some (.inl ((1,1,0),none)),[],[((12,34),(2,14,1),none)]),(some (.inl ((0,0,0),none)),[],[])])
def q460_P : rfP := (flX8,csX8,lcX8,spX8,[],[],[],([],[]))
def q460_U : rfU := []
set_option maxHeartbeats 8000000 in
def q460_N : List rfB := [(0,([(0,.inr (.inl [13])),(1,.inl ((1,13,1),none))],[],[]),(20,[]),0),
  (32,([(0,.inr (.inl [13])),(1,.inl ((1,13,1),none))],[],[]),(1,[]),0)]
set_option maxRecDepth 100000 in
theorem q460_ok : rf_chkB q460_P q460_U wLay q460_M ddX8_isEntry [] [] [0,32] 600 q460_N = true := by decide +kernel
set_option maxHeartbeats 4000000 in
theorem q460_met {G : rfG} (h : okG G) (hh : wHandOK G) : rf_met G q460_M := rf_methodB h.1 (P := q460_P) (U := q460_U) (N := q460_N) ⟨wflT h flokX8, wcsT h csokX8, wlcT h lcokX8, spokX8 h, fun _ h => absurd h List.not_mem_nil, fun _ h => absurd h List.not_mem_nil, fun _ h => absurd h List.not_mem_nil, fun _ h => absurd h List.not_mem_nil, fun _ h => absurd h List.not_mem_nil⟩ dkX8_isEntry (by decide +kernel) (by rw [h.2.2.1]; exact q460_ok)
/-- NearSpell.Laid.isOfOthers -/
def q461_M : rfM := ((⟨"NearSpell$Laid", "isOfOthers", "(III)Z"⟩, prog_6_method_11_code, 5, (some .boolean)), (1,22), ([.inr (.inl [53]),.inl (((-2147483648),2147483647,1),none),.inl ((0,0,0),none),.inl ((0,14,1),none)],[]), [], [(some (.inl ((1,1,0),none)),[(3,1,14)],[((12,34),(2,14,1),none)]),(some (.inl ((0,0,0),none)),[],[])])
def q461_P : rfP := (flX4,csX4,lcX4,spX4,[q460_M,q442_M],[],[(65,0,8),(85,1,3)],([],[]))
def q461_U : rfU := []
set_option maxHeartbeats 8000000 in
def q461_N : List rfB := [(0,([(0,.inr (.inl [53])),(1,.inl (((-2147483648),2147483647,1),none)),(2,.inl ((0,0,0),none)),(3,.inl ((0,14,1),none))],[],[]),(336,[0]),0),
  (3,([(0,.inr (.inl [53])),(1,.inl (((-2147483648),2147483647,1),none)),(2,.inl ((0,0,0),none)),(3,.inl ((0,14,1),none)),(4,.inl ((0,14,1),none))],[],[]),(332,[(-22)]),0),
  (43,([(0,.inr (.inl [53])),(1,.inl (((-2147483648),2147483647,1),none)),(2,.inl ((0,0,0),none)),(3,.inl ((1,14,1),none)),(4,.inl ((0,13,1),none))],[],[]),(313,[(-22)]),0)]
set_option maxRecDepth 100000 in
theorem q461_ok : rf_chkB q461_P q461_U wLay q461_M ddX4_isOfOthers [(21,[0]),(35,[1])] [.inl 4] [0,3,43] 600 q461_N = true := by decide +kernel
set_option maxHeartbeats 4000000 in
theorem q461_met {G : rfG} (h : okG G) (hh : wHandOK G) : rf_met G q461_M := rf_methodB h.1 (P := q461_P) (U := q461_U) (N := q461_N) ⟨wflT h flokX4, wcsT h csokX4, wlcT h lcokX4, spokX4 h, List.forall_mem_cons.mpr ⟨q460_met h hh, List.forall_mem_cons.mpr ⟨q442_met h hh, fun _ h => absurd h List.not_mem_nil⟩⟩, fun _ h => absurd h List.not_mem_nil, List.forall_mem_cons.mpr ⟨fun M hM => Option.some.inj (show some q460_M = some M from hM) ▸ wlkV (lkX4_65 h) q460_M rfl rfl, List.forall_mem_cons.mpr ⟨fun M hM => Option.some.inj (show some q442_M = some M from hM) ▸ wlkV (lkX4_85 h) q442_M rfl rfl, fun _ h => absurd h List.not_mem_nil⟩⟩, fun _ h => absurd h List.not_mem_nil, fun _ h => absurd h List.not_mem_nil⟩ dkX4_isOfOthers (by decide +kernel) (by rw [h.2.2.1]; exact q461_ok)
