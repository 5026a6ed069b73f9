/-- NearSpell.Ruler.toLonger -/
def q450_M : rfM := ((⟨"NearSpell$Ruler", "toLonger", "(II)I"⟩, prog_9_method_7_code, 5, (some .int)), (2,46), ([.inr (.inl [20]),.inl ((0,6,1),none),.inl (((-2147483648),2147483647,1),none)],[]), [(18,0),(19,0),(20,5)], [(some (.inl (((-2147483648),2147483647,1),none)),[],[])])
def q450_P : rfP := (flX7,csX7,lcX7,spX7,[q446_M,q449_M],[(36,0)],[(52,1,7)],([],[(44,1),(49,0)]))
def q450_U : rfU := []
set_option maxHeartbeats 8000000 in
def q450_N : List rfB := [(0,([(0,.inr (.inl [20])),(1,.inl ((0,6,1),none)),(2,.inl (((-2147483648),2147483647,1),none))],[],[]),(158,[0]),0),
  (31,([(0,.inr (.inl [20])),(1,.inl ((0,6,1),none)),(2,.inl (((-2147483648),2147483647,1),none)),(3,.inl ((0,6,1),none)),(4,.inl ((1,13,1),none))],[],[]),(148,[(-10)]),0)]
set_option maxRecDepth 100000 in
theorem q450_ok : rf_chkB q450_P q450_U wLay q450_M ddX7_toLonger [(20,[0]),(43,[1])] [.inl 4] [0,31] 600 q450_N = true := by decide +kernel
set_option maxHeartbeats 4000000 in
theorem q450_met {G : rfG} (h : okG G) : rf_met G q450_M := rf_methodB h.1 (P := q450_P) (U := q450_U) (N := q450_N) ⟨wflT h flokX7, wcsT h csokX7, wlcT h lcokX7, spokX7 h, List.forall_mem_cons.mpr ⟨q446_met h, List.forall_mem_cons.mpr ⟨q449_met h, fun _ h => absurd h List.not_mem_nil⟩⟩, List.forall_mem_cons.mpr ⟨fun M hM => Option.some.inj (show some q446_M = some M from hM) ▸ wlkS (lkX7_36 h) q446_M rfl rfl, fun _ h => absurd h List.not_mem_nil⟩, List.forall_mem_cons.mpr ⟨fun M hM => Option.some.inj (show some q449_M = some M from hM) ▸ wlkV (lkX7_52 h) q449_M rfl rfl, fun _ h => absurd h List.not_mem_nil⟩, fun _ h => absurd h List.not_mem_nil, List.forall_mem_cons.mpr ⟨⟨wmT h (wm130), fun h => absurd h (by decide), fun _ => ⟨wmT h (wm919), wmT h (wm557), wmT h (wm558)⟩, fun h => absurd h (by decide)⟩, List.forall_mem_cons.mpr ⟨⟨wmT h (wm130), fun _ => ⟨wmT h (wm920), wmT h (wm652), wmT h (wm653)⟩, fun h => absurd h (by decide), fun h => absurd h (by decide)⟩, fun _ h => absurd h List.not_mem_nil⟩⟩⟩ dkX7_toLonger (by decide +kernel) (by rw [h.2.2.1]; exact q450_ok)
/-- NearSpell.Pieces.note -/
def q451_M : rfM := ((⟨"NearSpell$Pieces", "note", "(III)V"⟩, prog_7_method_6_code, 4, none), (0,0), ([.inr (.inl [58]),.inl (((-2147483648),2147483647,1),none),.inl (((-2147483648),2147483647,1),none),.inl (((-2147483648),2147483647,1),none)],[]), [(58,5),(58,6),(58,7),(58,8)], [(none,[],[])])
def ddX5_note : List (Nat × Instr × Nat) := [(0,.iload_n 3,1),(1,.aload_n 0,1),(2,.getfield 54,3),(5,.if_icmp .ge 26,3),(8,.aload_n 0,1),(9,.iload_n 3,1),(10,.putfield 54,3),(13,.aload_n 0,1),(14,.iload_n 1,1),(15,.putfield 58,3),(18,.aload_n 0,1),(19,.iload_n 2,1),(20,.putfield 61,3),(23,.aload_n 0,1),(24,.iconst 1,1),(25,.putfield 64,3),(28,.goto 21,3),(31,.iload_n 3,1),(32,.aload_n 0,1),(33,.getfield 54,3),(36,.if_icmp .ne 13,3),(39,.aload_n 0,1),(40,.dup,1),(41,.getfield 64,3),(44,.iconst 1,1),(45,.iadd,1),(46,.putfield 64,3),(49,.return_,1)]
set_option maxRecDepth 100000 in
theorem dkX5_note : rf_decs prog_7_method_6_code ddX5_note := rf_decs_of (by decide +kernel)
def q451_P : rfP := (flX5,csX5,lcX5,spX5,[],[],[],([],[]))
def q451_U : rfU := []
set_option maxHeartbeats 8000000 in
def q451_N : List rfB := [(0,([(0,.inr (.inl [58])),(1,.inl (((-2147483648),2147483647,1),none)),(2,.inl (((-2147483648),2147483647,1),none)),(3,.inl (((-2147483648),2147483647,1),none))],[],[]),(27,[]),0),
  (49,([(0,.inr (.inl [58])),(1,.inl (((-2147483648),2147483647,1),none)),(2,.inl (((-2147483648),2147483647,1),none)),(3,.inl (((-2147483648),2147483647,1),none))],[],[]),(0,[]),0)]
set_option maxRecDepth 100000 in
theorem q451_ok : rf_chkB q451_P q451_U wLay q451_M ddX5_note [] [] [0,49] 600 q451_N = true := by decide +kernel
set_option maxHeartbeats 4000000 in
theorem q451_met {G : rfG} (h : okG G) : rf_met G q451_M := rf_methodB h.1 (P := q451_P) (U := q451_U) (N := q451_N) ⟨wflT h flokX5, wcsT h csokX5, wlcT h lcokX5, spokX5 h, fun _ h => absurd h List.not_mem_nil, fun _ h => absurd h List.not_mem_nil, fun _ h => absurd h List.not_mem_nil, fun _ h => absurd h List.not_mem_nil, fun _ h => absurd h List.not_mem_nil⟩ dkX5_note (by decide +kernel) (by rw [h.2.2.1]; exact q451_ok)
/-- NearSpell.Pieces.weighTwo -/
def q452_M : rfM := ((⟨"NearSpell$Pieces", "weighTwo", "(II)V"⟩, prog_7_method_8_code, 7, none), (4,91), ([.inr (.inl [58]),.inl ((0,6,1),none),.inl ((0,0,0),none)],[]), [(18,0),(19,0),(20,5),(58,5),(58,6),(58,7),(58,8)], [(none,[],[])])
def ddX5_weighTwo : List (Nat × Instr × Nat) := [(0,.iconst 0,1),(1,.istore_n 3,1),(2,.iload_n 3,1),(3,.aload_n 0,1),(4,.getfield 9,3),(7,.invokevirtual 67,3),(10,.if_icmp .ge 145,3),(13,.aload_n 0,1),(14,.getfield 9,3),(17,.iload_n 3,1),(18,.invokevirtual 71,3),(21,.ifCond .eq 21,3),(24,.aload_n 0,1),(25,.getfield 15,3),(28,.aload_n 0,1),(29,.getfield 9,3),(32,.iload_n 3,1),(33,.invokevirtual 75,3),(36,.invokevirtual 85,3),(39,.goto 4,3),(42,.iconst 0,1),(43,.istore 4,2),(45,.iconst 0,1),(46,.istore 5,2),(48,.iload 5,2),(50,.aload_n 0,1),(51,.getfield 9,3),(54,.invokevirtual 67,3),(57,.if_icmp .ge 92,3),(60,.aload_n 0,1),(61,.getfield 9,3),(64,.iload_n 3,1),(65,.invokevirtual 71,3),(68,.ifCond .eq 81,3),(71,.iload 4,2),(73,.aload_n 0,1),(74,.getfield 9,3),(77,.iload 5,2),(79,.invokevirtual 75,3),(82,.invokestatic 35,3),(85,.iadd,1),(86,.iload_n 1,1),(87,.isub,1),(88,.invokestatic 88,3),(91,.istore 6,2),(93,.aload_n 0,1),(94,.getfield 9,3),(97,.iload 5,2),(99,.invokevirtual 71,3),(102,.ifCond .eq 41,3),(105,.iload 6,2),(107,.iload_n 2,1),(108,.iadd,1),(109,.aload_n 0,1),(110,.getfield 54,3),(113,.if_icmp .gt 30,3),(116,.aload_n 0,1),(117,.iload_n 3,1),(118,.iload 5,2),(120,.aload_n 0,1),(121,.getfield 15,3),(124,.iload 4,2),(126,.aload_n 0,1),(127,.getfield 9,3),(130,.iload 5,2),(132,.invokevirtual 75,3),(135,.invokevirtual 93,3),(138,.iload_n 2,1),(139,.iadd,1),(140,.invokevirtual 81,3),(143,.iinc 5 1,3),(146,.goto (-98),3),(149,.iinc 3 1,3),(152,.goto (-150),3),(155,.return_,1)]
set_option maxRecDepth 100000 in
theorem dkX5_weighTwo : rf_decs prog_7_method_8_code ddX5_weighTwo := rf_decs_of (by decide +kernel)
def q452_P : rfP := (flX5,csX5,lcX5,spX5,[q187_M,q185_M,q110_M,q445_M,q111_M,q450_M,q451_M],[(35,4)],[(67,0,8),(71,1,8),(75,2,8),(81,6,5),(85,3,7),(93,5,7)],([],[(88,2)]))
def q452_U : rfU := []
set_option maxHeartbeats 8000000 in
def q452_N : List rfB := [(0,([(0,.inr (.inl [58])),(1,.inl ((0,6,1),none)),(2,.inl ((0,0,0),none))],[],[]),(11672,[0,0]),0),
  (2,([(0,.inr (.inl [58])),(1,.inl ((0,6,1),none)),(2,.inl ((0,0,0),none)),(3,.inl ((0,14,1),none))],[],[]),(11668,[(-778),0]),0),
  (48,([(0,.inr (.inl [58])),(1,.inl ((0,6,1),none)),(2,.inl ((0,0,0),none)),(3,.inl ((0,13,1),none)),(4,.inl ((0,6,1),none)),(5,.inl ((0,14,1),none))],[],[]),(11642,[(-778),(-50)]),0),
  (149,([(0,.inr (.inl [58])),(1,.inl ((0,6,1),none)),(2,.inl ((0,0,0),none)),(3,.inl ((0,13,1),none)),(4,.inl ((0,6,1),none)),(5,.inl ((0,14,1),none))],[],[]),(10893,[(-778),0]),0),
  (45,([(0,.inr (.inl [58])),(1,.inl ((0,6,1),none)),(2,.inl ((0,0,0),none)),(3,.inl ((0,13,1),none)),(4,.inl ((0,6,1),none))],[],[]),(11646,[(-778),0]),0),
  (143,([(0,.inr (.inl [58])),(1,.inl ((0,6,1),none)),(2,.inl ((0,0,0),none)),(3,.inl ((0,13,1),none)),(4,.inl ((0,6,1),none)),(5,.inl ((0,13,1),none)),(6,.inl ((0,12,1),none))],[],[((12,34),(1,14,1),none)]),(11595,[(-778),(-50)]),0)]
set_option maxRecDepth 100000 in
theorem q452_ok : rf_chkB q452_P q452_U wLay q452_M ddX5_weighTwo [(7,[0]),(18,[1]),(33,[2]),(36,[3]),(54,[0]),(65,[1]),(79,[2]),(82,[4]),(99,[1]),(132,[2]),(135,[5]),(140,[6])] [.inl 3,.inl 5] [0,2,45,48,143,149] 600 q452_N = true := by decide +kernel
set_option maxHeartbeats 4000000 in
theorem q452_met {G : rfG} (h : okG G) : rf_met G q452_M := rf_methodB h.1 (P := q452_P) (U := q452_U) (N := q452_N) ⟨wflT h flokX5, wcsT h csokX5, wlcT h lcokX5, spokX5 h, List.forall_mem_cons.mpr ⟨q187_met h, List.forall_mem_cons.mpr ⟨q185_met h, List.forall_mem_cons.mpr ⟨q110_met h, List.forall_mem_cons.mpr ⟨q445_met h, List.forall_mem_cons.mpr ⟨q111_met h, List.forall_mem_cons.mpr ⟨q450_met h, List.forall_mem_cons.mpr ⟨q451_met h, fun _ h => absurd h List.not_mem_nil⟩⟩⟩⟩⟩⟩⟩, List.forall_mem_cons.mpr ⟨fun M hM => Option.some.inj (show some q111_M = some M from hM) ▸ wlkS (lkX5_35 h) q111_M rfl rfl, fun _ h => absurd h List.not_mem_nil⟩, List.forall_mem_cons.mpr ⟨fun M hM => Option.some.inj (show some q187_M = some M from hM) ▸ wlkV (lkX5_67 h) q187_M rfl rfl, List.forall_mem_cons.mpr ⟨fun M hM => Option.some.inj (show some q185_M = some M from hM) ▸ wlkV (lkX5_71 h) q185_M rfl rfl, List.forall_mem_cons.mpr ⟨fun M hM => Option.some.inj (show some q110_M = some M from hM) ▸ wlkV (lkX5_75 h) q110_M rfl rfl, List.forall_mem_cons.mpr ⟨fun M hM => Option.some.inj (show some q451_M = some M from hM) ▸ wlkV (lkX5_81 h) q451_M rfl rfl, List.forall_mem_cons.mpr ⟨fun M hM => Option.some.inj (show some q445_M = some M from hM) ▸ wlkV (lkX5_85 h) q445_M rfl rfl, List.forall_mem_cons.mpr ⟨fun M hM => Option.some.inj (show some q450_M = some M from hM) ▸ wlkV (lkX5_93 h) q450_M rfl rfl, fun _ h => absurd h List.not_mem_nil⟩⟩⟩⟩⟩⟩, fun _ h => absurd h List.not_mem_nil, List.forall_mem_cons.mpr ⟨⟨wmT h (wm130), fun h => absurd h (by decide), fun h => absurd h (by decide), fun _ => ⟨wmT h (wm1085), wmT h (wm1086), wmT h (wm1087)⟩⟩, fun _ h => absurd h List.not_mem_nil⟩⟩ dkX5_weighTwo (by decide +kernel) (by rw [h.2.2.1]; exact q452_ok)
/-- NearSpell.Pieces.weighSplit -/
def q453_M : rfM := ((⟨"NearSpell$Pieces", "weighSplit", "(I)V"⟩, prog_7_method_2_code, 2, none), (5,117), ([.inr (.inl [58]),.inl ((0,387420488,1),none)],[]), [(17,0),(18,0),(19,0),(20,4),(20,5),(58,5),(58,6),(58,7),(58,8)], [(none,[],[((20,3),(0,6,1),none)])])
def ddX5_weighSplit : List (Nat × Instr × Nat) := [(0,.aload_n 0,1),(1,.invokevirtual 26,3),(4,.aload_n 0,1),(5,.getfield 15,3),(8,.iload_n 1,1),(9,.invokevirtual 29,3),(12,.aload_n 0,1),(13,.iload_n 1,1),(14,.invokestatic 35,3),(17,.iconst 0,1),(18,.invokevirtual 39,3),(21,.return_,1)]
set_option maxRecDepth 100000 in
theorem dkX5_weighSplit : rf_decs prog_7_method_2_code ddX5_weighSplit := rf_decs_of (by decide +kernel)
def q453_P : rfP := (flX5,csX5,lcX5,spX5,[q444_M,q200_M,q198_M,q452_M],[(35,2)],[(26,0,5),(29,1,7),(39,3,5)],([],[]))
def q453_U : rfU := []
set_option maxHeartbeats 8000000 in
def q453_N : List rfB := [(0,([(0,.inr (.inl [58])),(1,.inl ((0,387420488,1),none))],[],[]),(11,[]),0)]
set_option maxRecDepth 100000 in
theorem q453_ok : rf_chkB q453_P q453_U wLay q453_M ddX5_weighSplit [(1,[0]),(9,[1]),(14,[2]),(18,[3])] [] [0] 600 q453_N = true := by decide +kernel
set_option maxHeartbeats 4000000 in
theorem q453_met {G : rfG} (h : okG G) : rf_met G q453_M := rf_methodB h.1 (P := q453_P) (U := q453_U) (N := q453_N) ⟨wflT h flokX5, wcsT h csokX5, wlcT h lcokX5, spokX5 h, List.forall_mem_cons.mpr ⟨q444_met h, List.forall_mem_cons.mpr ⟨q200_met h, List.forall_mem_cons.mpr ⟨q198_met h, List.forall_mem_cons.mpr ⟨q452_met h, fun _ h => absurd h List.not_mem_nil⟩⟩⟩⟩, List.forall_mem_cons.mpr ⟨fun M hM => Option.some.inj (show some q198_M = some M from hM) ▸ wlkS (lkX5_35 h) q198_M rfl rfl, fun _ h => absurd h List.not_mem_nil⟩, List.forall_mem_cons.mpr ⟨fun M hM => Option.some.inj (show some q444_M = some M from hM) ▸ wlkV (lkX5_26 h) q444_M rfl rfl, List.forall_mem_cons.mpr ⟨fun M hM => Option.some.inj (show some q200_M = some M from hM) ▸ wlkV (lkX5_29 h) q200_M rfl rfl, List.forall_mem_cons.mpr ⟨fun M hM => Option.some.inj (show some q452_M = some M from hM) ▸ wlkV (lkX5_39 h) q452_M rfl rfl, fun _ h => absurd h List.not_mem_nil⟩⟩⟩, fun _ h => absurd h List.not_mem_nil, fun _ h => absurd h List.not_mem_nil⟩ dkX5_weighSplit (by decide +kernel) (by rw [h.2.2.1]; exact q453_ok)
/-- NearSpell.split -/
def q454_M : rfM := ((⟨"NearSpell", "split", "(II)I"⟩, prog_1_method_22_code, 3, (some .int)), (6,138), ([.inr (.inl [70]),.inl (((-2147483648),2147483647,1),none),.inl (((-2147483648),2147483647,1),none)],[]), [(17,0),(18,0),(19,0),(20,4),(20,5),(58,5),(58,6),(58,7),(58,8)], [(some (.inl (((-2147483648),2147483647,1),none)),[],[])])
def ddX11_split : List (Nat × Instr × Nat) := [(0,.iload_n 1,1),(1,.invokestatic 163,3),(4,.ifCond .eq 22,3),(7,.iload_n 2,1),(8,.ifCond .lt 18,3),(11,.iload_n 2,1),(12,.iconst 2,1),(13,.if_icmp .gt 13,3),(16,.aload_n 0,1),(17,.getfield 35,3),(20,.invokevirtual 183,3),(23,.ifCond .ne 5,3),(26,.iconst (-1),1),(27,.ireturn,1),(28,.aload_n 0,1),(29,.getfield 76,3),(32,.iload_n 1,1),(33,.invokevirtual 242,3),(36,.iload_n 2,1),(37,.iconst 2,1),(38,.if_icmp .ne 11,3),(41,.aload_n 0,1),(42,.getfield 76,3),(45,.getfield 245,3),(48,.ireturn,1),(49,.iload_n 2,1),(50,.ifCond .ne 13,3),(53,.aload_n 0,1),(54,.getfield 76,3),(57,.getfield 248,3),(60,.goto 10,3),(63,.aload_n 0,1),(64,.getfield 76,3),(67,.getfield 251,3),(70,.ireturn,1)]
set_option maxRecDepth 100000 in
theorem dkX11_split : rf_decs prog_1_method_22_code ddX11_split := rf_decs_of (by decide +kernel)
def q454_P : rfP := (flX11,csX11,lcX11,spX11,[q170_M,q192_M,q453_M],[(163,0)],[(183,1,8),(242,2,5)],([],[]))
def q454_U : rfU := []
set_option maxHeartbeats 8000000 in
def q454_N : List rfB := [(0,([(0,.inr (.inl [70])),(1,.inl (((-2147483648),2147483647,1),none)),(2,.inl (((-2147483648),2147483647,1),none))],[],[]),(35,[]),0),
  (26,([(0,.inr (.inl [70])),(1,.inl (((-2147483648),2147483647,1),none)),(2,.inl (((-2147483648),2147483647,1),none))],[],[]),(1,[]),0),
  (70,([(0,.inr (.inl [70])),(1,.inl ((0,387420488,1),none)),(2,.inl ((0,1,1),none))],[.inl (((-2147483648),2147483647,1),none)],[((20,3),(0,6,1),none)]),(3,[]),0)]
set_option maxRecDepth 100000 in
theorem q454_ok : rf_chkB q454_P q454_U wLay q454_M ddX11_split [(1,[0]),(20,[1]),(33,[2])] [] [0,26,70] 600 q454_N = true := by decide +kernel
set_option maxHeartbeats 4000000 in
theorem q454_met {G : rfG} (h : okG G) : rf_met G q454_M := rf_methodB h.1 (P := q454_P) (U := q454_U) (N := q454_N) ⟨wflT h flokX11, wcsT h csokX11, wlcT h lcokX11, spokX11 h, List.forall_mem_cons.mpr ⟨q170_met h, List.forall_mem_cons.mpr ⟨q192_met h, List.forall_mem_cons.mpr ⟨q453_met h, fun _ h => absurd h List.not_mem_nil⟩⟩⟩, List.forall_mem_cons.mpr ⟨fun M hM => Option.some.inj (show some q170_M = some M from hM) ▸ wlkS (lkX11_163 h) q170_M rfl rfl, fun _ h => absurd h List.not_mem_nil⟩, List.forall_mem_cons.mpr ⟨fun M hM => Option.some.inj (show some q192_M = some M from hM) ▸ wlkV (lkX11_183 h) q192_M rfl rfl, List.forall_mem_cons.mpr ⟨fun M hM => Option.some.inj (show some q453_M = some M from hM) ▸ wlkV (lkX11_242 h) q453_M rfl rfl, fun _ h => absurd h List.not_mem_nil⟩⟩, fun _ h => absurd h List.not_mem_nil, fun _ h => absurd h List.not_mem_nil⟩ dkX11_split (by decide +kernel) (by rw [h.2.2.1]; exact q454_ok)
/-- NearSpell.State.typedAt -/
def q455_M : rfM := ((⟨"NearSpell$State", "typedAt", "(I)I"⟩, prog_10_method_9_code, 2, (some .int)), (0,0), ([.inr (.inl [13]),.inl ((0,4,1),none)],[]), [], [(some (.inl (((-2147483648),2147483647,1),none)),[],[])])
def q455_P : rfP := (flX8,csX8,lcX8,spX8,[],[],[],([],[]))
def q455_U : rfU := []
set_option maxHeartbeats 8000000 in
def q455_N : List rfB := [(0,([(0,.inr (.inl [13])),(1,.inl ((0,4,1),none))],[],[]),(12,[]),0)]
set_option maxRecDepth 100000 in
theorem q455_ok : rf_chkB q455_P q455_U wLay q455_M ddX8_typedAt [] [] [0] 600 q455_N = true := by decide +kernel
set_option maxHeartbeats 4000000 in
theorem q455_met {G : rfG} (h : okG G) : rf_met G q455_M := rf_methodB h.1 (P := q455_P) (U := q455_U) (N := q455_N) ⟨wflT h flokX8, wcsT h csokX8, wlcT h lcokX8, spokX8 h, fun _ h => absurd h List.not_mem_nil, fun _ h => absurd h List.not_mem_nil, fun _ h => absurd h List.not_mem_nil, fun _ h => absurd h List.not_mem_nil, fun _ h => absurd h List.not_mem_nil⟩ dkX8_typedAt (by decide +kernel) (by rw [h.2.2.1]; exact q455_ok)
/-- NearSpell.Ruler.putLetters -/
def q456_M : rfM := ((⟨"NearSpell$Ruler", "putLetters", "(I[II)I"⟩, prog_9_method_8_code, 6, (some .int)), (1,21), ([.inl (((-2147483648),2147483647,1),none),.inr (.inl [17]),.inl ((0,0,0),none)],[]), [(17,0)], [(some (.inl ((0,6,1),none)),[],[])])
def q456_P : rfP := (flX7,csX7,lcX7,spX7,[q111_M],[(55,0)],[],([],[]))
def q456_U : rfU := []
set_option maxHeartbeats 8000000 in
def q456_N : List rfB := [(0,([(0,.inl (((-2147483648),2147483647,1),none)),(1,.inr (.inl [17])),(2,.inl ((0,0,0),none))],[],[]),(128,[0]),0),
  (23,([(0,.inl (((-2147483648),2147483647,1),none)),(1,.inr (.inl [17])),(2,.inl ((0,0,0),none)),(3,.inl ((0,6,1),none)),(4,.inl (((-2147483648),2147483647,1),none)),(5,.inl (((-1),5,1),none))],[],[]),(31,[16]),0)]
set_option maxRecDepth 100000 in
theorem q456_ok : rf_chkB q456_P q456_U wLay q456_M ddX7_putLetters [(2,[0])] [.inl 5] [0,23] 600 q456_N = true := by decide +kernel
set_option maxHeartbeats 4000000 in
theorem q456_met {G : rfG} (h : okG G) : rf_met G q456_M := rf_methodB h.1 (P := q456_P) (U := q456_U) (N := q456_N) ⟨wflT h flokX7, wcsT h csokX7, wlcT h lcokX7, spokX7 h, List.forall_mem_cons.mpr ⟨q111_met h, fun _ h => absurd h List.not_mem_nil⟩, List.forall_mem_cons.mpr ⟨fun M hM => Option.some.inj (show some q111_M = some M from hM) ▸ wlkS (lkX7_55 h) q111_M rfl rfl, fun _ h => absurd h List.not_mem_nil⟩, fun _ h => absurd h List.not_mem_nil, fun _ h => absurd h List.not_mem_nil, fun _ h => absurd h List.not_mem_nil⟩ dkX7_putLetters (by decide +kernel) (by rw [h.2.2.1]; exact q456_ok)
/-- NearSpell.Ruler.setText -/
def q457_M : rfM := ((⟨"NearSpell$Ruler", "setText", "(I)V"⟩, prog_9_method_3_code, 2, none), (2,46), ([.inr (.inl [20]),.inl (((-2147483648),2147483647,1),none)],[]), [(17,0),(20,4),(20,5)], [(none,[],[((20,3),(0,6,1),none),((20,4),(0,0,0),none)])])
def q457_P : rfP := (flX7,csX7,lcX7,spX7,[q456_M],[(36,0)],[],([],[]))
def q457_U : rfU := []
set_option maxHeartbeats 8000000 in
def q457_N : List rfB := [(0,([(0,.inr (.inl [20])),(1,.inl (((-2147483648),2147483647,1),none))],[],[]),(10,[]),0)]
set_option maxRecDepth 100000 in
theorem q457_ok : rf_chkB q457_P q457_U wLay q457_M ddX7_setText [(7,[0])] [] [0] 600 q457_N = true := by decide +kernel
set_option maxHeartbeats 4000000 in
theorem q457_met {G : rfG} (h : okG G) : rf_met G q457_M := rf_methodB h.1 (P := q457_P) (U := q457_U) (N := q457_N) ⟨wflT h flokX7, wcsT h csokX7, wlcT h lcokX7, spokX7 h, List.forall_mem_cons.mpr ⟨q456_met h, fun _ h => absurd h List.not_mem_nil⟩, List.forall_mem_cons.mpr ⟨fun M hM => Option.some.inj (show some q456_M = some M from hM) ▸ wlkS (lkX7_36 h) q456_M rfl rfl, fun _ h => absurd h List.not_mem_nil⟩, fun _ h => absurd h List.not_mem_nil, fun _ h => absurd h List.not_mem_nil, fun _ h => absurd h List.not_mem_nil⟩ dkX7_setText (by decide +kernel) (by rw [h.2.2.1]; exact q457_ok)
/-- NearSpell.State.typedAt -/
def q458_M : rfM := ((⟨"NearSpell$State", "typedAt", "(I)I"⟩, prog_10_method_9_code, 2, (some .int)), (0,0), ([.inr (.inl [13]),.inl ((1,5,1),none)],[]), [], [(some (.inl (((-2147483648),2147483647,1),none)),[],[])])
def q458_P : rfP := (flX8,csX8,lcX8,spX8,[],[],[],([],[]))
def q458_U : rfU := []
set_option maxHeartbeats 8000000 in
def q458_N : List rfB := [(0,([(0,.inr (.inl [13])),(1,.inl ((1,5,1),none))],[],[]),(12,[]),0)]
set_option maxRecDepth 100000 in
theorem q458_ok : rf_chkB q458_P q458_U wLay q458_M ddX8_typedAt [] [] [0] 600 q458_N = true := by decide +kernel
set_option maxHeartbeats 4000000 in
theorem q458_met {G : rfG} (h : okG G) : rf_met G q458_M := rf_methodB h.1 (P := q458_P) (U := q458_U) (N := q458_N) ⟨wflT h flokX8, wcsT h csokX8, wlcT h lcokX8, spokX8 h, fun _ h => absurd h List.not_mem_nil, fun _ h => absurd h List.not_mem_nil, fun _ h => absurd h List.not_mem_nil, fun _ h => absurd h List.not_mem_nil, fun _ h => absurd h List.not_mem_nil⟩ dkX8_typedAt (by decide +kernel) (by rw [h.2.2.1]; exact q458_ok)
/-- NearSpell.Ruler.putLetters -/
def q459_M : rfM := ((⟨"NearSpell$Ruler", "putLetters", "(I[II)I"⟩, prog_9_method_8_code, 6, (some .int)), (1,21), ([.inl (((-2147483648),2147483647,1),none),.inr (.inl [17]),.inl ((0,12,1),none)],[]), [(17,0)], [(some (.inl ((0,12,1),none)),[],[])])
def q459_P : rfP := (flX7,csX7,lcX7,spX7,[q111_M],[(55,0)],[],([],[]))
def q459_U : rfU := []
set_option maxHeartbeats 8000000 in
def q459_N : List rfB := [(0,([(0,.inl (((-2147483648),2147483647,1),none)),(1,.inr (.inl [17])),(2,.inl ((0,12,1),none))],[],[]),(226,[0]),0),
  (23,([(0,.inl (((-2147483648),2147483647,1),none)),(1,.inr (.inl [17])),(2,.inl ((0,12,1),none)),(3,.inl ((0,12,1),none)),(4,.inl (((-2147483648),2147483647,1),none)),(5,.inl (((-1),11,1),none))],[],[]),(31,[16]),0)]
set_option maxRecDepth 100000 in
theorem q459_ok : rf_chkB q459_P q459_U wLay q459_M ddX7_putLetters [(2,[0])] [.inl 5] [0,23] 600 q459_N = true := by decide +kernel
set_option maxHeartbeats 4000000 in
theorem q459_met {G : rfG} (h : okG G) : rf_met G q459_M := rf_methodB h.1 (P := q459_P) (U := q459_U) (N := q459_N) ⟨wflT h flokX7, wcsT h csokX7, wlcT h lcokX7, spokX7 h, List.forall_mem_cons.mpr ⟨q111_met h, fun _ h => absurd h List.not_mem_nil⟩, List.forall_mem_cons.mpr ⟨fun M hM => Option.some.inj (show some q111_M = some M from hM) ▸ wlkS (lkX7_55 h) q111_M rfl rfl, fun _ h => absurd h List.not_mem_nil⟩, fun _ h => absurd h List.not_mem_nil, fun _ h => absurd h List.not_mem_nil, fun _ h => absurd h List.not_mem_nil⟩ dkX7_putLetters (by decide +kernel) (by rw [h.2.2.1]; exact q459_ok)
/-- NearSpell.Ruler.addText -/
def q460_M : rfM := ((⟨"NearSpell$Ruler", "addText", "(I)V"⟩, prog_9_method_4_code, 2, none), (2,46), ([.inr (.inl [20]),.inl (((-2147483648),2147483647,1),none)],[]), [(17,0),(20,4),(20,5)], [(none,[],[((20,4),(0,0,0),none)])])
def ddX7_addText : List (Nat × Instr × Nat) := [(0,.aload_n 0,1),(1,.iload_n 1,1),(2,.aload_n 0,1),(3,.getfield 11,3),(6,.aload_n 0,1),(7,.getfield 21,3),(10,.invokestatic 36,3),(13,.putfield 21,3),(16,.aload_n 0,1),(17,.iconst 0,1),(18,.putfield 25,3),(21,.return_,1)]
set_option maxRecDepth 100000 in
theorem dkX7_addText : rf_decs prog_9_method_4_code ddX7_addText := rf_decs_of (by decide +kernel)
def q460_P : rfP := (flX7,csX7,lcX7,spX7,[q459_M],[(36,0)],[],([],[]))
def q460_U : rfU := []
set_option maxHeartbeats 8000000 in
def q460_N : List rfB := [(0,([(0,.inr (.inl [20])),(1,.inl (((-2147483648),2147483647,1),none))],[],[]),(11,[]),0)]
set_option maxRecDepth 100000 in
theorem q460_ok : rf_chkB q460_P q460_U wLay q460_M ddX7_addText [(10,[0])] [] [0] 600 q460_N = true := by decide +kernel
set_option maxHeartbeats 4000000 in
theorem q460_met {G : rfG} (h : okG G) : rf_met G q460_M := rf_methodB h.1 (P := q460_P) (U := q460_U) (N := q460_N) ⟨wflT h flokX7, wcsT h csokX7, wlcT h lcokX7, spokX7 h, List.forall_mem_cons.mpr ⟨q459_met h, fun _ h => absurd h List.not_mem_nil⟩, List.forall_mem_cons.mpr ⟨fun M hM => Option.some.inj (show some q459_M = some M from hM) ▸ wlkS (lkX7_36 h) q459_M rfl rfl, fun _ h => absurd h List.not_mem_nil⟩, fun _ h => absurd h List.not_mem_nil, fun _ h => absurd h List.not_mem_nil, fun _ h => absurd h List.not_mem_nil⟩ dkX7_addText (by decide +kernel) (by rw [h.2.2.1]; exact q460_ok)
/-- NearSpell.Pieces.weighSingle -/
def q461_M : rfM := ((⟨"NearSpell$Pieces", "weighSingle", "()V"⟩, prog_7_method_7_code, 2, none), (4,91), ([.inr (.inl [58])],[]), [(18,0),(19,0),(20,5),(58,5),(58,6),(58,7),(58,8)], [(none,[],[])])
def ddX5_weighSingle : List (Nat × Instr × Nat) := [(0,.iconst 0,1),(1,.istore_n 1,1),(2,.iload_n 1,1),(3,.aload_n 0,1),(4,.getfield 9,3),(7,.invokevirtual 67,3),(10,.if_icmp .ge 41,3),(13,.aload_n 0,1),(14,.getfield 9,3),(17,.iload_n 1,1),(18,.invokevirtual 71,3),(21,.ifCond .eq 24,3),(24,.aload_n 0,1),(25,.iload_n 1,1),(26,.iconst (-1),1),(27,.aload_n 0,1),(28,.getfield 15,3),(31,.aload_n 0,1),(32,.getfield 9,3),(35,.iload_n 1,1),(36,.invokevirtual 75,3),(39,.invokevirtual 78,3),(42,.invokevirtual 81,3),(45,.iinc 1 1,3),(48,.goto (-46),3),(51,.return_,1)]
set_option maxRecDepth 100000 in
theorem dkX5_weighSingle : rf_decs prog_7_method_7_code ddX5_weighSingle := rf_decs_of (by decide +kernel)
def q461_P : rfP := (flX5,csX5,lcX5,spX5,[q187_M,q185_M,q110_M,q208_M,q451_M],[],[(67,0,8),(71,1,8),(75,2,8),(78,3,7),(81,4,5)],([],[]))
def q461_U : rfU := []
set_option maxHeartbeats 8000000 in
def q461_N : List rfB := [(0,([(0,.inr (.inl [58]))],[],[]),(377,[0]),0),
  (2,([(0,.inr (.inl [58])),(1,.inl ((0,14,1),none))],[],[]),(373,[(-25)]),0),
  (45,([(0,.inr (.inl [58])),(1,.inl ((0,13,1),none))],[],[]),(351,[(-25)]),0)]
set_option maxRecDepth 100000 in
theorem q461_ok : rf_chkB q461_P q461_U wLay q461_M ddX5_weighSingle [(7,[0]),(18,[1]),(36,[2]),(39,[3]),(42,[4])] [.inl 1] [0,2,45] 600 q461_N = true := by decide +kernel
set_option maxHeartbeats 4000000 in
theorem q461_met {G : rfG} (h : okG G) : rf_met G q461_M := rf_methodB h.1 (P := q461_P) (U := q461_U) (N := q461_N) ⟨wflT h flokX5, wcsT h csokX5, wlcT h lcokX5, spokX5 h, List.forall_mem_cons.mpr ⟨q187_met h, List.forall_mem_cons.mpr ⟨q185_met h, List.forall_mem_cons.mpr ⟨q110_met h, List.forall_mem_cons.mpr ⟨q208_met h, List.forall_mem_cons.mpr ⟨q451_met h, fun _ h => absurd h List.not_mem_nil⟩⟩⟩⟩⟩, fun _ h => absurd h List.not_mem_nil, List.forall_mem_cons.mpr ⟨fun M hM => Option.some.inj (show some q187_M = some M from hM) ▸ wlkV (lkX5_67 h) q187_M rfl rfl, List.forall_mem_cons.mpr ⟨fun M hM => Option.some.inj (show some q185_M = some M from hM) ▸ wlkV (lkX5_71 h) q185_M rfl rfl, List.forall_mem_cons.mpr ⟨fun M hM => Option.some.inj (show some q110_M = some M from hM) ▸ wlkV (lkX5_75 h) q110_M rfl rfl, List.forall_mem_cons.mpr ⟨fun M hM => Option.some.inj (show some q208_M = some M from hM) ▸ wlkV (lkX5_78 h) q208_M rfl rfl, List.forall_mem_cons.mpr ⟨fun M hM => Option.some.inj (show some q451_M = some M from hM) ▸ wlkV (lkX5_81 h) q451_M rfl rfl, fun _ h => absurd h List.not_mem_nil⟩⟩⟩⟩⟩, fun _ h => absurd h List.not_mem_nil, fun _ h => absurd h List.not_mem_nil⟩ dkX5_weighSingle (by decide +kernel) (by rw [h.2.2.1]; exact q461_ok)
/-- NearSpell.Pieces.weighJoined -/
def q462_M : rfM := ((⟨"NearSpell$Pieces", "weighJoined", "(I)V"⟩, prog_7_method_3_code, 2, none), (5,112), ([.inr (.inl [58]),.inl ((0,4,1),none)],[]), [(17,0),(18,0),(19,0),(20,4),(20,5),(58,5),(58,6),(58,7),(58,8)], [(none,[],[])])
def ddX5_weighJoined : List (Nat × Instr × Nat) := [(0,.aload_n 0,1),(1,.invokevirtual 26,3),(4,.aload_n 0,1),(5,.getfield 15,3),(8,.aload_n 0,1),(9,.getfield 9,3),(12,.iload_n 1,1),(13,.invokevirtual 43,3),(16,.invokevirtual 29,3),(19,.aload_n 0,1),(20,.getfield 15,3),(23,.aload_n 0,1),(24,.getfield 9,3),(27,.iload_n 1,1),(28,.iconst 1,1),(29,.iadd,1),(30,.invokevirtual 43,3),(33,.invokevirtual 48,3),(36,.aload_n 0,1),(37,.invokevirtual 51,3),(40,.return_,1)]
set_option maxRecDepth 100000 in
theorem dkX5_weighJoined : rf_decs prog_7_method_3_code ddX5_weighJoined := rf_decs_of (by decide +kernel)
def q462_P : rfP := (flX5,csX5,lcX5,spX5,[q444_M,q455_M,q457_M,q458_M,q460_M,q461_M],[],[(26,0,5),(29,2,7),(43,1,8),(43,3,8),(48,4,7),(51,5,5)],([],[]))
def q462_U : rfU := []
set_option maxHeartbeats 8000000 in
def q462_N : List rfB := [(0,([(0,.inr (.inl [58])),(1,.inl ((0,4,1),none))],[],[]),(20,[]),0)]
set_option maxRecDepth 100000 in
theorem q462_ok : rf_chkB q462_P q462_U wLay q462_M ddX5_weighJoined [(1,[0]),(13,[1]),(16,[2]),(30,[3]),(33,[4]),(37,[5])] [] [0] 600 q462_N = true := by decide +kernel
set_option maxHeartbeats 4000000 in
theorem q462_met {G : rfG} (h : okG G) : rf_met G q462_M := rf_methodB h.1 (P := q462_P) (U := q462_U) (N := q462_N) ⟨wflT h flokX5, wcsT h csokX5, wlcT h lcokX5, spokX5 h, List.forall_mem_cons.mpr ⟨q444_met h, List.forall_mem_cons.mpr ⟨q455_met h, List.forall_mem_cons.mpr ⟨q457_met h, List.forall_mem_cons.mpr ⟨q458_met h, List.forall_mem_cons.mpr ⟨q460_met h, List.forall_mem_cons.mpr ⟨q461_met h, fun _ h => absurd h List.not_mem_nil⟩⟩⟩⟩⟩⟩, fun _ h => absurd h List.not_mem_nil, List.forall_mem_cons.mpr ⟨fun M hM => Option.some.inj (show some q444_M = some M from hM) ▸ wlkV (lkX5_26 h) q444_M rfl rfl, List.forall_mem_cons.mpr ⟨fun M hM => Option.some.inj (show some q457_M = some M from hM) ▸ wlkV (lkX5_29 h) q457_M rfl rfl, List.forall_mem_cons.mpr ⟨fun M hM => Option.some.inj (show some q455_M = some M from hM) ▸ wlkV (lkX5_43 h) q455_M rfl rfl, List.forall_mem_cons.mpr ⟨fun M hM => Option.some.inj (show some q458_M = some M from hM) ▸ wlkV (lkX5_43 h) q458_M rfl rfl, List.forall_mem_cons.mpr ⟨fun M hM => Option.some.inj (show some q460_M = some M from hM) ▸ wlkV (lkX5_48 h) q460_M rfl rfl, List.forall_mem_cons.mpr ⟨fun M hM => Option.some.inj (show some q461_M = some M from hM) ▸ wlkV (lkX5_51 h) q461_M rfl rfl, fun _ h => absurd h List.not_mem_nil⟩⟩⟩⟩⟩⟩, fun _ h => absurd h List.not_mem_nil, fun _ h => absurd h List.not_mem_nil⟩ dkX5_weighJoined (by decide +kernel) (by rw [h.2.2.1]; exact q462_ok)
/-- NearSpell.join -/
def q463_M : rfM := ((⟨"NearSpell", "join", "(II)I"⟩, prog_1_method_23_code, 3, (some .int)), (6,133), ([.inr (.inl [70]),.inl (((-2147483648),2147483647,1),none),.inl (((-2147483648),2147483647,1),none)],[]), [(17,0),(18,0),(19,0),(20,4),(20,5),(58,5),(58,6),(58,7),(58,8)], [(some (.inl (((-2147483648),2147483647,1),none)),[],[])])
def ddX11_join : List (Nat × Instr × Nat) := [(0,.iload_n 1,1),(1,.ifCond .lt 35,3),(4,.iload_n 1,1),(5,.aload_n 0,1),(6,.getfield 35,3),(9,.invokevirtual 189,3),(12,.iconst 1,1),(13,.isub,1),(14,.if_icmp .ge 22,3),(17,.iload_n 2,1),(18,.ifCond .lt 18,3),(21,.iload_n 2,1),(22,.iconst 1,1),(23,.if_icmp .gt 13,3),(26,.aload_n 0,1),(27,.getfield 35,3),(30,.invokevirtual 183,3),(33,.ifCond .ne 5,3),(36,.iconst (-1),1),(37,.ireturn,1),(38,.aload_n 0,1),(39,.getfield 76,3),(42,.iload_n 1,1),(43,.invokevirtual 254,3),(46,.iload_n 2,1),(47,.ifCond .ne 13,3),(50,.aload_n 0,1),(51,.getfield 76,3),(54,.getfield 248,3),(57,.goto 10,3),(60,.aload_n 0,1),(61,.getfield 76,3),(64,.getfield 245,3),(67,.ireturn,1)]
set_option maxRecDepth 100000 in
theorem dkX11_join : rf_decs prog_1_method_23_code ddX11_join := rf_decs_of (by decide +kernel)
def q463_P : rfP := (flX11,csX11,lcX11,spX11,[q196_M,q192_M,q462_M],[],[(183,1,8),(189,0,8),(254,2,5)],([],[]))
def q463_U : rfU := []
set_option maxHeartbeats 8000000 in
def q463_N : List rfB := [(0,([(0,.inr (.inl [70])),(1,.inl (((-2147483648),2147483647,1),none)),(2,.inl (((-2147483648),2147483647,1),none))],[],[]),(33,[]),0),
  (36,([(0,.inr (.inl [70])),(1,.inl (((-2147483648),2147483647,1),none)),(2,.inl (((-2147483648),2147483647,1),none))],[],[]),(1,[]),0),
  (67,([(0,.inr (.inl [70])),(1,.inl ((0,4,1),none)),(2,.inl ((0,1,1),none))],[.inl (((-2147483648),2147483647,1),none)],[]),(2,[]),0)]
set_option maxRecDepth 100000 in
theorem q463_ok : rf_chkB q463_P q463_U wLay q463_M ddX11_join [(9,[0]),(30,[1]),(43,[2])] [] [0,36,67] 600 q463_N = true := by decide +kernel
set_option maxHeartbeats 4000000 in
theorem q463_met {G : rfG} (h : okG G) : rf_met G q463_M := rf_methodB h.1 (P := q463_P) (U := q463_U) (N := q463_N) ⟨wflT h flokX11, wcsT h csokX11, wlcT h lcokX11, spokX11 h, List.forall_mem_cons.mpr ⟨q196_met h, List.forall_mem_cons.mpr ⟨q192_met h, List.forall_mem_cons.mpr ⟨q462_met h, fun _ h => absurd h List.not_mem_nil⟩⟩⟩, fun _ h => absurd h List.not_mem_nil, List.forall_mem_cons.mpr ⟨fun M hM => Option.some.inj (show some q192_M = some M from hM) ▸ wlkV (lkX11_183 h) q192_M rfl rfl, List.forall_mem_cons.mpr ⟨fun M hM => Option.some.inj (show some q196_M = some M from hM) ▸ wlkV (lkX11_189 h) q196_M rfl rfl, List.forall_mem_cons.mpr ⟨fun M hM => Option.some.inj (show some q462_M = some M from hM) ▸ wlkV (lkX11_254 h) q462_M rfl rfl, fun _ h => absurd h List.not_mem_nil⟩⟩⟩, fun _ h => absurd h List.not_mem_nil, fun _ h => absurd h List.not_mem_nil⟩ dkX11_join (by decide +kernel) (by rw [h.2.2.1]; exact q463_ok)
/-- NearSpell.State.typedAt -/
def q464_M : rfM := ((⟨"NearSpell$State", "typedAt", "(I)I"⟩, prog_10_method_9_code, 2, (some .int)), (0,0), ([.inr (.inl [13]),.inl ((0,0,0),none)],[]), [], [(some (.inl (((-2147483648),2147483647,1),none)),[],[])])
def q464_P : rfP := (flX8,csX8,lcX8,spX8,[],[],[],([],[]))
def q464_U : rfU := []
set_option maxHeartbeats 8000000 in
def q464_N : List rfB := [(0,([(0,.inr (.inl [13])),(1,.inl ((0,0,0),none))],[],[]),(12,[]),0)]
set_option maxRecDepth 100000 in
theorem q464_ok : rf_chkB q464_P q464_U wLay q464_M ddX8_typedAt [] [] [0] 600 q464_N = true := by decide +kernel
set_option maxHeartbeats 4000000 in
theorem q464_met {G : rfG} (h : okG G) : rf_met G q464_M := rf_methodB h.1 (P := q464_P) (U := q464_U) (N := q464_N) ⟨wflT h flokX8, wcsT h csokX8, wlcT h lcokX8, spokX8 h, fun _ h => absurd h List.not_mem_nil, fun _ h => absurd h List.not_mem_nil, fun _ h => absurd h List.not_mem_nil, fun _ h => absurd h List.not_mem_nil, fun _ h => absurd h List.not_mem_nil⟩ dkX8_typedAt (by decide +kernel) (by rw [h.2.2.1]; exact q464_ok)
/-- NearSpell.Pieces.weighTwo -/
def q465_M : rfM := ((⟨"NearSpell$Pieces", "weighTwo", "(II)V"⟩, prog_7_method_8_code, 7, none), (4,91), ([.inr (.inl [58]),.inl ((0,6,1),none),.inl ((1,1,0),none)],[]), [(18,0),(19,0),(20,5),(58,5),(58,6),(58,7),(58,8)], [(none,[],[])])
def q465_P : rfP := (flX5,csX5,lcX5,spX5,[q187_M,q185_M,q110_M,q445_M,q111_M,q450_M,q451_M],[(35,4)],[(67,0,8),(71,1,8),(75,2,8),(81,6,5),(85,3,7),(93,5,7)],([],[(88,2)]))
def q465_U : rfU := []
set_option maxHeartbeats 8000000 in
def q465_N : List rfB := [(0,([(0,.inr (.inl [58])),(1,.inl ((0,6,1),none)),(2,.inl ((1,1,0),none))],[],[]),(11672,[0,0]),0),
  (2,([(0,.inr (.inl [58])),(1,.inl ((0,6,1),none)),(2,.inl ((1,1,0),none)),(3,.inl ((0,14,1),none))],[],[]),(11668,[(-778),0]),0),
  (48,([(0,.inr (.inl [58])),(1,.inl ((0,6,1),none)),(2,.inl ((1,1,0),none)),(3,.inl ((0,13,1),none)),(4,.inl ((0,6,1),none)),(5,.inl ((0,14,1),none))],[],[]),(11642,[(-778),(-50)]),0),
  (149,([(0,.inr (.inl [58])),(1,.inl ((0,6,1),none)),(2,.inl ((1,1,0),none)),(3,.inl ((0,13,1),none)),(4,.inl ((0,6,1),none)),(5,.inl ((0,14,1),none))],[],[]),(10893,[(-778),0]),0),
  (45,([(0,.inr (.inl [58])),(1,.inl ((0,6,1),none)),(2,.inl ((1,1,0),none)),(3,.inl ((0,13,1),none)),(4,.inl ((0,6,1),none))],[],[]),(11646,[(-778),0]),0),
  (143,([(0,.inr (.inl [58])),(1,.inl ((0,6,1),none)),(2,.inl ((1,1,0),none)),(3,.inl ((0,13,1),none)),(4,.inl ((0,6,1),none)),(5,.inl ((0,13,1),none)),(6,.inl ((0,12,1),none))],[],[((12,34),(1,14,1),none)]),(11595,[(-778),(-50)]),0)]
set_option maxRecDepth 100000 in
theorem q465_ok : rf_chkB q465_P q465_U wLay q465_M ddX5_weighTwo [(7,[0]),(18,[1]),(33,[2]),(36,[3]),(54,[0]),(65,[1]),(79,[2]),(82,[4]),(99,[1]),(132,[2]),(135,[5]),(140,[6])] [.inl 3,.inl 5] [0,2,45,48,143,149] 600 q465_N = true := by decide +kernel
set_option maxHeartbeats 4000000 in
theorem q465_met {G : rfG} (h : okG G) : rf_met G q465_M := rf_methodB h.1 (P := q465_P) (U := q465_U) (N := q465_N) ⟨wflT h flokX5, wcsT h csokX5, wlcT h lcokX5, spokX5 h, List.forall_mem_cons.mpr ⟨q187_met h, List.forall_mem_cons.mpr ⟨q185_met h, List.forall_mem_cons.mpr ⟨q110_met h, List.forall_mem_cons.mpr ⟨q445_met h, List.forall_mem_cons.mpr ⟨q111_met h, List.forall_mem_cons.mpr ⟨q450_met h, List.forall_mem_cons.mpr ⟨q451_met h, fun _ h => absurd h List.not_mem_nil⟩⟩⟩⟩⟩⟩⟩, List.forall_mem_cons.mpr ⟨fun M hM => Option.some.inj (show some q111_M = some M from hM) ▸ wlkS (lkX5_35 h) q111_M rfl rfl, fun _ h => absurd h List.not_mem_nil⟩, List.forall_mem_cons.mpr ⟨fun M hM => Option.some.inj (show some q187_M = some M from hM) ▸ wlkV (lkX5_67 h) q187_M rfl rfl, List.forall_mem_cons.mpr ⟨fun M hM => Option.some.inj (show some q185_M = some M from hM) ▸ wlkV (lkX5_71 h) q185_M rfl rfl, List.forall_mem_cons.mpr ⟨fun M hM => Option.some.inj (show some q110_M = some M from hM) ▸ wlkV (lkX5_75 h) q110_M rfl rfl, List.forall_mem_cons.mpr ⟨fun M hM => Option.some.inj (show some q451_M = some M from hM) ▸ wlkV (lkX5_81 h) q451_M rfl rfl, List.forall_mem_cons.mpr ⟨fun M hM => Option.some.inj (show some q445_M = some M from hM) ▸ wlkV (lkX5_85 h) q445_M rfl rfl, List.forall_mem_cons.mpr ⟨fun M hM => Option.some.inj (show some q450_M = some M from hM) ▸ wlkV (lkX5_93 h) q450_M rfl rfl, fun _ h => absurd h List.not_mem_nil⟩⟩⟩⟩⟩⟩, fun _ h => absurd h List.not_mem_nil, List.forall_mem_cons.mpr ⟨⟨wmT h (wm130), fun h => absurd h (by decide), fun h => absurd h (by decide), fun _ => ⟨wmT h (wm1085), wmT h (wm1086), wmT h (wm1087)⟩⟩, fun _ h => absurd h List.not_mem_nil⟩⟩ dkX5_weighTwo (by decide +kernel) (by rw [h.2.2.1]; exact q465_ok)
/-- NearSpell.Pieces.weighTyped -/
def q466_M : rfM := ((⟨"NearSpell$Pieces", "weighTyped", "(I)V"⟩, prog_7_method_4_code, 3, none), (5,117), ([.inr (.inl [58]),.inl ((0,0,0),none)],[]), [(17,0),(18,0),(19,0),(20,4),(20,5),(58,5),(58,6),(58,7),(58,8)], [(none,[],[((20,3),(0,6,1),none)])])
def ddX5_weighTyped : List (Nat × Instr × Nat) := [(0,.aload_n 0,1),(1,.getfield 9,3),(4,.iload_n 1,1),(5,.invokevirtual 43,3),(8,.istore_n 2,1),(9,.aload_n 0,1),(10,.invokevirtual 26,3),(13,.aload_n 0,1),(14,.getfield 15,3),(17,.iload_n 2,1),(18,.invokevirtual 29,3),(21,.aload_n 0,1),(22,.invokevirtual 51,3),(25,.aload_n 0,1),(26,.iload_n 2,1),(27,.invokestatic 35,3),(30,.iconst 1,1),(31,.invokevirtual 39,3),(34,.return_,1)]
set_option maxRecDepth 100000 in
theorem dkX5_weighTyped : rf_decs prog_7_method_4_code ddX5_weighTyped := rf_decs_of (by decide +kernel)
def q466_P : rfP := (flX5,csX5,lcX5,spX5,[q464_M,q444_M,q457_M,q461_M,q111_M,q465_M],[(35,4)],[(26,1,5),(29,2,7),(39,5,5),(43,0,8),(51,3,5)],([],[]))
def q466_U : rfU := []
set_option maxHeartbeats 8000000 in
def q466_N : List rfB := [(0,([(0,.inr (.inl [58])),(1,.inl ((0,0,0),none))],[],[]),(18,[]),0)]
set_option maxRecDepth 100000 in
theorem q466_ok : rf_chkB q466_P q466_U wLay q466_M ddX5_weighTyped [(5,[0]),(10,[1]),(18,[2]),(22,[3]),(27,[4]),(31,[5])] [] [0] 600 q466_N = true := by decide +kernel
set_option maxHeartbeats 4000000 in
theorem q466_met {G : rfG} (h : okG G) : rf_met G q466_M := rf_methodB h.1 (P := q466_P) (U := q466_U) (N := q466_N) ⟨wflT h flokX5, wcsT h csokX5, wlcT h lcokX5, spokX5 h, List.forall_mem_cons.mpr ⟨q464_met h, List.forall_mem_cons.mpr ⟨q444_met h, List.forall_mem_cons.mpr ⟨q457_met h, List.forall_mem_cons.mpr ⟨q461_met h, List.forall_mem_cons.mpr ⟨q111_met h, List.forall_mem_cons.mpr ⟨q465_met h, fun _ h => absurd h List.not_mem_nil⟩⟩⟩⟩⟩⟩, List.forall_mem_cons.mpr ⟨fun M hM => Option.some.inj (show some q111_M = some M from hM) ▸ wlkS (lkX5_35 h) q111_M rfl rfl, fun _ h => absurd h List.not_mem_nil⟩, List.forall_mem_cons.mpr ⟨fun M hM => Option.some.inj (show some q444_M = some M from hM) ▸ wlkV (lkX5_26 h) q444_M rfl rfl, List.forall_mem_cons.mpr ⟨fun M hM => Option.some.inj (show some q457_M = some M from hM) ▸ wlkV (lkX5_29 h) q457_M rfl rfl, List.forall_mem_cons.mpr ⟨fun M hM => Option.some.inj (show some q465_M = some M from hM) ▸ wlkV (lkX5_39 h) q465_M rfl rfl, List.forall_mem_cons.mpr ⟨fun M hM => Option.some.inj (show some q464_M = some M from hM) ▸ wlkV (lkX5_43 h) q464_M rfl rfl, List.forall_mem_cons.mpr ⟨fun M hM => Option.some.inj (show some q461_M = some M from hM) ▸ wlkV (lkX5_51 h) q461_M rfl rfl, fun _ h => absurd h List.not_mem_nil⟩⟩⟩⟩⟩, fun _ h => absurd h List.not_mem_nil, fun _ h => absurd h List.not_mem_nil⟩ dkX5_weighTyped (by decide +kernel) (by rw [h.2.2.1]; exact q466_ok)
/-- NearSpell.State.typedAt -/
def q467_M : rfM := ((⟨"NearSpell$State", "typedAt", "(I)I"⟩, prog_10_method_9_code, 2, (some .int)), (0,0), ([.inr (.inl [13]),.inl ((0,1,1),none)],[]), [], [(some (.inl (((-2147483648),2147483647,1),none)),[],[])])
def q467_P : rfP := (flX8,csX8,lcX8,spX8,[],[],[],([],[]))
def q467_U : rfU := []
set_option maxHeartbeats 8000000 in
def q467_N : List rfB := [(0,([(0,.inr (.inl [13])),(1,.inl ((0,1,1),none))],[],[]),(12,[]),0)]
set_option maxRecDepth 100000 in
theorem q467_ok : rf_chkB q467_P q467_U wLay q467_M ddX8_typedAt [] [] [0] 600 q467_N = true := by decide +kernel
set_option maxHeartbeats 4000000 in
theorem q467_met {G : rfG} (h : okG G) : rf_met G q467_M := rf_methodB h.1 (P := q467_P) (U := q467_U) (N := q467_N) ⟨wflT h flokX8, wcsT h csokX8, wlcT h lcokX8, spokX8 h, fun _ h => absurd h List.not_mem_nil, fun _ h => absurd h List.not_mem_nil, fun _ h => absurd h List.not_mem_nil, fun _ h => absurd h List.not_mem_nil, fun _ h => absurd h List.not_mem_nil⟩ dkX8_typedAt (by decide +kernel) (by rw [h.2.2.1]; exact q467_ok)
/-- NearSpell.Pieces.weighTyped -/
def q468_M : rfM := ((⟨"NearSpell$Pieces", "weighTyped", "(I)V"⟩, prog_7_method_4_code, 3, none), (5,117), ([.inr (.inl [58]),.inl ((0,1,1),none)],[]), [(17,0),(18,0),(19,0),(20,4),(20,5),(58,5),(58,6),(58,7),(58,8)], [(none,[],[((20,3),(0,6,1),none)])])
def q468_P : rfP := (flX5,csX5,lcX5,spX5,[q467_M,q444_M,q457_M,q461_M,q111_M,q465_M],[(35,4)],[(26,1,5),(29,2,7),(39,5,5),(43,0,8),(51,3,5)],([],[]))
def q468_U : rfU := []
set_option maxHeartbeats 8000000 in
def q468_N : List rfB := [(0,([(0,.inr (.inl [58])),(1,.inl ((0,1,1),none))],[],[]),(18,[]),0)]
set_option maxRecDepth 100000 in
theorem q468_ok : rf_chkB q468_P q468_U wLay q468_M ddX5_weighTyped [(5,[0]),(10,[1]),(18,[2]),(22,[3]),(27,[4]),(31,[5])] [] [0] 600 q468_N = true := by decide +kernel
set_option maxHeartbeats 4000000 in
theorem q468_met {G : rfG} (h : okG G) : rf_met G q468_M := rf_methodB h.1 (P := q468_P) (U := q468_U) (N := q468_N) ⟨wflT h flokX5, wcsT h csokX5, wlcT h lcokX5, spokX5 h, List.forall_mem_cons.mpr ⟨q467_met h, List.forall_mem_cons.mpr ⟨q444_met h, List.forall_mem_cons.mpr ⟨q457_met h, List.forall_mem_cons.mpr ⟨q461_met h, List.forall_mem_cons.mpr ⟨q111_met h, List.forall_mem_cons.mpr ⟨q465_met h, fun _ h => absurd h List.not_mem_nil⟩⟩⟩⟩⟩⟩, List.forall_mem_cons.mpr ⟨fun M hM => Option.some.inj (show some q111_M = some M from hM) ▸ wlkS (lkX5_35 h) q111_M rfl rfl, fun _ h => absurd h List.not_mem_nil⟩, List.forall_mem_cons.mpr ⟨fun M hM => Option.some.inj (show some q444_M = some M from hM) ▸ wlkV (lkX5_26 h) q444_M rfl rfl, List.forall_mem_cons.mpr ⟨fun M hM => Option.some.inj (show some q457_M = some M from hM) ▸ wlkV (lkX5_29 h) q457_M rfl rfl, List.forall_mem_cons.mpr ⟨fun M hM => Option.some.inj (show some q465_M = some M from hM) ▸ wlkV (lkX5_39 h) q465_M rfl rfl, List.forall_mem_cons.mpr ⟨fun M hM => Option.some.inj (show some q467_M = some M from hM) ▸ wlkV (lkX5_43 h) q467_M rfl rfl, List.forall_mem_cons.mpr ⟨fun M hM => Option.some.inj (show some q461_M = some M from hM) ▸ wlkV (lkX5_51 h) q461_M rfl rfl, fun _ h => absurd h List.not_mem_nil⟩⟩⟩⟩⟩, fun _ h => absurd h List.not_mem_nil, fun _ h => absurd h List.not_mem_nil⟩ dkX5_weighTyped (by decide +kernel) (by rw [h.2.2.1]; exact q468_ok)
/-- NearSpell.State.typedAt -/
def q469_M : rfM := ((⟨"NearSpell$State", "typedAt", "(I)I"⟩, prog_10_method_9_code, 2, (some .int)), (0,0), ([.inr (.inl [13]),.inl ((1,1,0),none)],[]), [], [(some (.inl (((-2147483648),2147483647,1),none)),[],[])])
def q469_P : rfP := (flX8,csX8,lcX8,spX8,[],[],[],([],[]))
def q469_U : rfU := []
set_option maxHeartbeats 8000000 in
def q469_N : List rfB := [(0,([(0,.inr (.inl [13])),(1,.inl ((1,1,0),none))],[],[]),(12,[]),0)]
set_option maxRecDepth 100000 in
theorem q469_ok : rf_chkB q469_P q469_U wLay q469_M ddX8_typedAt [] [] [0] 600 q469_N = true := by decide +kernel
set_option maxHeartbeats 4000000 in
theorem q469_met {G : rfG} (h : okG G) : rf_met G q469_M := rf_methodB h.1 (P := q469_P) (U := q469_U) (N := q469_N) ⟨wflT h flokX8, wcsT h csokX8, wlcT h lcokX8, spokX8 h, fun _ h => absurd h List.not_mem_nil, fun _ h => absurd h List.not_mem_nil, fun _ h => absurd h List.not_mem_nil, fun _ h => absurd h List.not_mem_nil, fun _ h => absurd h List.not_mem_nil⟩ dkX8_typedAt (by decide +kernel) (by rw [h.2.2.1]; exact q469_ok)
/-- NearSpell.Pieces.weighJoined -/
def q470_M : rfM := ((⟨"NearSpell$Pieces", "weighJoined", "(I)V"⟩, prog_7_method_3_code, 2, none), (5,112), ([.inr (.inl [58]),.inl ((0,0,0),none)],[]), [(17,0),(18,0),(19,0),(20,4),(20,5),(58,5),(58,6),(58,7),(58,8)], [(none,[],[])])
def q470_P : rfP := (flX5,csX5,lcX5,spX5,[q444_M,q464_M,q457_M,q469_M,q460_M,q461_M],[],[(26,0,5),(29,2,7),(43,1,8),(43,3,8),(48,4,7),(51,5,5)],([],[]))
def q470_U : rfU := []
set_option maxHeartbeats 8000000 in
def q470_N : List rfB := [(0,([(0,.inr (.inl [58])),(1,.inl ((0,0,0),none))],[],[]),(20,[]),0)]
set_option maxRecDepth 100000 in
theorem q470_ok : rf_chkB q470_P q470_U wLay q470_M ddX5_weighJoined [(1,[0]),(13,[1]),(16,[2]),(30,[3]),(33,[4]),(37,[5])] [] [0] 600 q470_N = true := by decide +kernel
set_option maxHeartbeats 4000000 in
theorem q470_met {G : rfG} (h : okG G) : rf_met G q470_M := rf_methodB h.1 (P := q470_P) (U := q470_U) (N := q470_N) ⟨wflT h flokX5, wcsT h csokX5, wlcT h lcokX5, spokX5 h, List.forall_mem_cons.mpr ⟨q444_met h, List.forall_mem_cons.mpr ⟨q464_met h, List.forall_mem_cons.mpr ⟨q457_met h, List.forall_mem_cons.mpr ⟨q469_met h, List.forall_mem_cons.mpr ⟨q460_met h, List.forall_mem_cons.mpr ⟨q461_met h, fun _ h => absurd h List.not_mem_nil⟩⟩⟩⟩⟩⟩, fun _ h => absurd h List.not_mem_nil, List.forall_mem_cons.mpr ⟨fun M hM => Option.some.inj (show some q444_M = some M from hM) ▸ wlkV (lkX5_26 h) q444_M rfl rfl, List.forall_mem_cons.mpr ⟨fun M hM => Option.some.inj (show some q457_M = some M from hM) ▸ wlkV (lkX5_29 h) q457_M rfl rfl, List.forall_mem_cons.mpr ⟨fun M hM => Option.some.inj (show some q464_M = some M from hM) ▸ wlkV (lkX5_43 h) q464_M rfl rfl, List.forall_mem_cons.mpr ⟨fun M hM => Option.some.inj (show some q469_M = some M from hM) ▸ wlkV (lkX5_43 h) q469_M rfl rfl, List.forall_mem_cons.mpr ⟨fun M hM => Option.some.inj (show some q460_M = some M from hM) ▸ wlkV (lkX5_48 h) q460_M rfl rfl, List.forall_mem_cons.mpr ⟨fun M hM => Option.some.inj (show some q461_M = some M from hM) ▸ wlkV (lkX5_51 h) q461_M rfl rfl, fun _ h => absurd h List.not_mem_nil⟩⟩⟩⟩⟩⟩, fun _ h => absurd h List.not_mem_nil, fun _ h => absurd h List.not_mem_nil⟩ dkX5_weighJoined (by decide +kernel) (by rw [h.2.2.1]; exact q470_ok)
/-- NearSpell.Pieces.takeJoined -/
def q471_M : rfM := ((⟨"NearSpell$Pieces", "takeJoined", "(I)V"⟩, prog_7_method_10_code, 4, none), (0,0), ([.inr (.inl [58]),.inl ((2,2,0),none)],[]), [(56,0),(57,0)], [(none,[],[])])
def ddX5_takeJoined : List (Nat × Instr × Nat) := [(0,.iload_n 1,1),(1,.iconst 2,1),(2,.if_icmp .lt 9,3),(5,.iload_n 1,1),(6,.bipush 6,2),(8,.if_icmp .le 4,3),(11,.return_,1),(12,.aload_n 0,1),(13,.getfield 19,3),(16,.iload_n 1,1),(17,.iconst 2,1),(18,.isub,1),(19,.iaload,1),(20,.aload_n 0,1),(21,.getfield 54,3),(24,.iadd,1),(25,.iconst 1,1),(26,.iadd,1),(27,.istore_n 2,1),(28,.aload_n 0,1),(29,.getfield 23,3),(32,.iload_n 1,1),(33,.iconst 2,1),(34,.isub,1),(35,.iaload,1),(36,.aload_n 0,1),(37,.getfield 64,3),(40,.imul,1),(41,.istore_n 3,1),(42,.iload_n 2,1),(43,.aload_n 0,1),(44,.getfield 19,3),(47,.iload_n 1,1),(48,.iaload,1),(49,.if_icmp .ge 20,3),(52,.aload_n 0,1),(53,.getfield 19,3),(56,.iload_n 1,1),(57,.iload_n 2,1),(58,.iastore,1),(59,.aload_n 0,1),(60,.getfield 23,3),(63,.iload_n 1,1),(64,.iload_n 3,1),(65,.iastore,1),(66,.goto 23,3),(69,.iload_n 2,1),(70,.aload_n 0,1),(71,.getfield 19,3),(74,.iload_n 1,1),(75,.iaload,1),(76,.if_icmp .ne 13,3),(79,.aload_n 0,1),(80,.getfield 23,3),(83,.iload_n 1,1),(84,.dup2,1),(85,.iaload,1),(86,.iload_n 3,1),(87,.iadd,1),(88,.iastore,1),(89,.return_,1)]
set_option maxRecDepth 100000 in
theorem dkX5_takeJoined : rf_decs prog_7_method_10_code ddX5_takeJoined := rf_decs_of (by decide +kernel)
def q471_P : rfP := (flX5,csX5,lcX5,spX5,[],[],[],([],[]))
def q471_U : rfU := []
set_option maxHeartbeats 8000000 in
def q471_N : List rfB := [(0,([(0,.inr (.inl [58])),(1,.inl ((2,2,0),none))],[],[]),(59,[]),0),
  (89,([(0,.inr (.inl [58])),(1,.inl ((2,2,0),none)),(2,.inl (((-2147483648),2147483647,1),none)),(3,.inl (((-2147483648),2147483647,1),none))],[],[]),(0,[]),0)]
set_option maxRecDepth 100000 in
theorem q471_ok : rf_chkB q471_P q471_U wLay q471_M ddX5_takeJoined [] [] [0,89] 600 q471_N = true := by decide +kernel
set_option maxHeartbeats 4000000 in
theorem q471_met {G : rfG} (h : okG G) : rf_met G q471_M := rf_methodB h.1 (P := q471_P) (U := q471_U) (N := q471_N) ⟨wflT h flokX5, wcsT h csokX5, wlcT h lcokX5, spokX5 h, fun _ h => absurd h List.not_mem_nil, fun _ h => absurd h List.not_mem_nil, fun _ h => absurd h List.not_mem_nil, fun _ h => absurd h List.not_mem_nil, fun _ h => absurd h List.not_mem_nil⟩ dkX5_takeJoined (by decide +kernel) (by rw [h.2.2.1]; exact q471_ok)
/-- NearSpell.State.typedAt -/
def q472_M : rfM := ((⟨"NearSpell$State", "typedAt", "(I)I"⟩, prog_10_method_9_code, 2, (some .int)), (0,0), ([.inr (.inl [13]),.inl ((0,2,1),none)],[]), [], [(some (.inl (((-2147483648),2147483647,1),none)),[],[])])
def q472_P : rfP := (flX8,csX8,lcX8,spX8,[],[],[],([],[]))
def q472_U : rfU := []
set_option maxHeartbeats 8000000 in
def q472_N : List rfB := [(0,([(0,.inr (.inl [13])),(1,.inl ((0,2,1),none))],[],[]),(12,[]),0)]
set_option maxRecDepth 100000 in
theorem q472_ok : rf_chkB q472_P q472_U wLay q472_M ddX8_typedAt [] [] [0] 600 q472_N = true := by decide +kernel
set_option maxHeartbeats 4000000 in
theorem q472_met {G : rfG} (h : okG G) : rf_met G q472_M := rf_methodB h.1 (P := q472_P) (U := q472_U) (N := q472_N) ⟨wflT h flokX8, wcsT h csokX8, wlcT h lcokX8, spokX8 h, fun _ h => absurd h List.not_mem_nil, fun _ h => absurd h List.not_mem_nil, fun _ h => absurd h List.not_mem_nil, fun _ h => absurd h List.not_mem_nil, fun _ h => absurd h List.not_mem_nil⟩ dkX8_typedAt (by decide +kernel) (by rw [h.2.2.1]; exact q472_ok)
/-- NearSpell.Pieces.weighTyped -/
def q473_M : rfM := ((⟨"NearSpell$Pieces", "weighTyped", "(I)V"⟩, prog_7_method_4_code, 3, none), (5,117), ([.inr (.inl [58]),.inl ((0,2,1),none)],[]), [(17,0),(18,0),(19,0),(20,4),(20,5),(58,5),(58,6),(58,7),(58,8)], [(none,[],[((20,3),(0,6,1),none)])])
def q473_P : rfP := (flX5,csX5,lcX5,spX5,[q472_M,q444_M,q457_M,q461_M,q111_M,q465_M],[(35,4)],[(26,1,5),(29,2,7),(39,5,5),(43,0,8),(51,3,5)],([],[]))
def q473_U : rfU := []
set_option maxHeartbeats 8000000 in
def q473_N : List rfB := [(0,([(0,.inr (.inl [58])),(1,.inl ((0,2,1),none))],[],[]),(18,[]),0)]
set_option maxRecDepth 100000 in
theorem q473_ok : rf_chkB q473_P q473_U wLay q473_M ddX5_weighTyped [(5,[0]),(10,[1]),(18,[2]),(22,[3]),(27,[4]),(31,[5])] [] [0] 600 q473_N = true := by decide +kernel
set_option maxHeartbeats 4000000 in
theorem q473_met {G : rfG} (h : okG G) : rf_met G q473_M := rf_methodB h.1 (P := q473_P) (U := q473_U) (N := q473_N) ⟨wflT h flokX5, wcsT h csokX5, wlcT h lcokX5, spokX5 h, List.forall_mem_cons.mpr ⟨q472_met h, List.forall_mem_cons.mpr ⟨q444_met h, List.forall_mem_cons.mpr ⟨q457_met h, List.forall_mem_cons.mpr ⟨q461_met h, List.forall_mem_cons.mpr ⟨q111_met h, List.forall_mem_cons.mpr ⟨q465_met h, fun _ h => absurd h List.not_mem_nil⟩⟩⟩⟩⟩⟩, List.forall_mem_cons.mpr ⟨fun M hM => Option.some.inj (show some q111_M = some M from hM) ▸ wlkS (lkX5_35 h) q111_M rfl rfl, fun _ h => absurd h List.not_mem_nil⟩, List.forall_mem_cons.mpr ⟨fun M hM => Option.some.inj (show some q444_M = some M from hM) ▸ wlkV (lkX5_26 h) q444_M rfl rfl, List.forall_mem_cons.mpr ⟨fun M hM => Option.some.inj (show some q457_M = some M from hM) ▸ wlkV (lkX5_29 h) q457_M rfl rfl, List.forall_mem_cons.mpr ⟨fun M hM => Option.some.inj (show some q465_M = some M from hM) ▸ wlkV (lkX5_39 h) q465_M rfl rfl, List.forall_mem_cons.mpr ⟨fun M hM => Option.some.inj (show some q472_M = some M from hM) ▸ wlkV (lkX5_43 h) q472_M rfl rfl, List.forall_mem_cons.mpr ⟨fun M hM => Option.some.inj (show some q461_M = some M from hM) ▸ wlkV (lkX5_51 h) q461_M rfl rfl, fun _ h => absurd h List.not_mem_nil⟩⟩⟩⟩⟩, fun _ h => absurd h List.not_mem_nil, fun _ h => absurd h List.not_mem_nil⟩ dkX5_weighTyped (by decide +kernel) (by rw [h.2.2.1]; exact q473_ok)
/-- NearSpell.State.typedAt -/
def q474_M : rfM := ((⟨"NearSpell$State", "typedAt", "(I)I"⟩, prog_10_method_9_code, 2, (some .int)), (0,0), ([.inr (.inl [13]),.inl ((1,2,1),none)],[]), [], [(some (.inl (((-2147483648),2147483647,1),none)),[],[])])
def q474_P : rfP := (flX8,csX8,lcX8,spX8,[],[],[],([],[]))
def q474_U : rfU := []
set_option maxHeartbeats 8000000 in
def q474_N : List rfB := [(0,([(0,.inr (.inl [13])),(1,.inl ((1,2,1),none))],[],[]),(12,[]),0)]
set_option maxRecDepth 100000 in
theorem q474_ok : rf_chkB q474_P q474_U wLay q474_M ddX8_typedAt [] [] [0] 600 q474_N = true := by decide +kernel
set_option maxHeartbeats 4000000 in
theorem q474_met {G : rfG} (h : okG G) : rf_met G q474_M := rf_methodB h.1 (P := q474_P) (U := q474_U) (N := q474_N) ⟨wflT h flokX8, wcsT h csokX8, wlcT h lcokX8, spokX8 h, fun _ h => absurd h List.not_mem_nil, fun _ h => absurd h List.not_mem_nil, fun _ h => absurd h List.not_mem_nil, fun _ h => absurd h List.not_mem_nil, fun _ h => absurd h List.not_mem_nil⟩ dkX8_typedAt (by decide +kernel) (by rw [h.2.2.1]; exact q474_ok)
/-- NearSpell.Pieces.weighJoined -/
def q475_M : rfM := ((⟨"NearSpell$Pieces", "weighJoined", "(I)V"⟩, prog_7_method_3_code, 2, none), (5,112), ([.inr (.inl [58]),.inl ((0,1,1),none)],[]), [(17,0),(18,0),(19,0),(20,4),(20,5),(58,5),(58,6),(58,7),(58,8)], [(none,[],[])])
def q475_P : rfP := (flX5,csX5,lcX5,spX5,[q444_M,q467_M,q457_M,q474_M,q460_M,q461_M],[],[(26,0,5),(29,2,7),(43,1,8),(43,3,8),(48,4,7),(51,5,5)],([],[]))
def q475_U : rfU := []
set_option maxHeartbeats 8000000 in
def q475_N : List rfB := [(0,([(0,.inr (.inl [58])),(1,.inl ((0,1,1),none))],[],[]),(20,[]),0)]
set_option maxRecDepth 100000 in
theorem q475_ok : rf_chkB q475_P q475_U wLay q475_M ddX5_weighJoined [(1,[0]),(13,[1]),(16,[2]),(30,[3]),(33,[4]),(37,[5])] [] [0] 600 q475_N = true := by decide +kernel
set_option maxHeartbeats 4000000 in
theorem q475_met {G : rfG} (h : okG G) : rf_met G q475_M := rf_methodB h.1 (P := q475_P) (U := q475_U) (N := q475_N) ⟨wflT h flokX5, wcsT h csokX5, wlcT h lcokX5, spokX5 h, List.forall_mem_cons.mpr ⟨q444_met h, List.forall_mem_cons.mpr ⟨q467_met h, List.forall_mem_cons.mpr ⟨q457_met h, List.forall_mem_cons.mpr ⟨q474_met h, List.forall_mem_cons.mpr ⟨q460_met h, List.forall_mem_cons.mpr ⟨q461_met h, fun _ h => absurd h List.not_mem_nil⟩⟩⟩⟩⟩⟩, fun _ h => absurd h List.not_mem_nil, List.forall_mem_cons.mpr ⟨fun M hM => Option.some.inj (show some q444_M = some M from hM) ▸ wlkV (lkX5_26 h) q444_M rfl rfl, List.forall_mem_cons.mpr ⟨fun M hM => Option.some.inj (show some q457_M = some M from hM) ▸ wlkV (lkX5_29 h) q457_M rfl rfl, List.forall_mem_cons.mpr ⟨fun M hM => Option.some.inj (show some q467_M = some M from hM) ▸ wlkV (lkX5_43 h) q467_M rfl rfl, List.forall_mem_cons.mpr ⟨fun M hM => Option.some.inj (show some q474_M = some M from hM) ▸ wlkV (lkX5_43 h) q474_M rfl rfl, List.forall_mem_cons.mpr ⟨fun M hM => Option.some.inj (show some q460_M = some M from hM) ▸ wlkV (lkX5_48 h) q460_M rfl rfl, List.forall_mem_cons.mpr ⟨fun M hM => Option.some.inj (show some q461_M = some M from hM) ▸ wlkV (lkX5_51 h) q461_M rfl rfl, fun _ h => absurd h List.not_mem_nil⟩⟩⟩⟩⟩⟩, fun _ h => absurd h List.not_mem_nil, fun _ h => absurd h List.not_mem_nil⟩ dkX5_weighJoined (by decide +kernel) (by rw [h.2.2.1]; exact q475_ok)
/-- NearSpell.Pieces.takeJoined -/
def q476_M : rfM := ((⟨"NearSpell$Pieces", "takeJoined", "(I)V"⟩, prog_7_method_10_code, 4, none), (0,0), ([.inr (.inl [58]),.inl ((2,3,1),none)],[]), [(56,0),(57,0)], [(none,[],[])])
def q476_P : rfP := (flX5,csX5,lcX5,spX5,[],[],[],([],[]))
def q476_U : rfU := []
set_option maxHeartbeats 8000000 in
def q476_N : List rfB := [(0,([(0,.inr (.inl [58])),(1,.inl ((2,3,1),none))],[],[]),(59,[]),0),
  (89,([(0,.inr (.inl [58])),(1,.inl ((2,3,1),none)),(2,.inl (((-2147483648),2147483647,1),none)),(3,.inl (((-2147483648),2147483647,1),none))],[],[]),(0,[]),0)]
set_option maxRecDepth 100000 in
theorem q476_ok : rf_chkB q476_P q476_U wLay q476_M ddX5_takeJoined [] [] [0,89] 600 q476_N = true := by decide +kernel
set_option maxHeartbeats 4000000 in
theorem q476_met {G : rfG} (h : okG G) : rf_met G q476_M := rf_methodB h.1 (P := q476_P) (U := q476_U) (N := q476_N) ⟨wflT h flokX5, wcsT h csokX5, wlcT h lcokX5, spokX5 h, fun _ h => absurd h List.not_mem_nil, fun _ h => absurd h List.not_mem_nil, fun _ h => absurd h List.not_mem_nil, fun _ h => absurd h List.not_mem_nil, fun _ h => absurd h List.not_mem_nil⟩ dkX5_takeJoined (by decide +kernel) (by rw [h.2.2.1]; exact q476_ok)
/-- NearSpell.State.typedAt -/
def q477_M : rfM := ((⟨"NearSpell$State", "typedAt", "(I)I"⟩, prog_10_method_9_code, 2, (some .int)), (0,0), ([.inr (.inl [13]),.inl ((0,3,1),none)],[]), [], [(some (.inl (((-2147483648),2147483647,1),none)),[],[])])
def q477_P : rfP := (flX8,csX8,lcX8,spX8,[],[],[],([],[]))
def q477_U : rfU := []
set_option maxHeartbeats 8000000 in
def q477_N : List rfB := [(0,([(0,.inr (.inl [13])),(1,.inl ((0,3,1),none))],[],[]),(12,[]),0)]
set_option maxRecDepth 100000 in
theorem q477_ok : rf_chkB q477_P q477_U wLay q477_M ddX8_typedAt [] [] [0] 600 q477_N = true := by decide +kernel
set_option maxHeartbeats 4000000 in
theorem q477_met {G : rfG} (h : okG G) : rf_met G q477_M := rf_methodB h.1 (P := q477_P) (U := q477_U) (N := q477_N) ⟨wflT h flokX8, wcsT h csokX8, wlcT h lcokX8, spokX8 h, fun _ h => absurd h List.not_mem_nil, fun _ h => absurd h List.not_mem_nil, fun _ h => absurd h List.not_mem_nil, fun _ h => absurd h List.not_mem_nil, fun _ h => absurd h List.not_mem_nil⟩ dkX8_typedAt (by decide +kernel) (by rw [h.2.2.1]; exact q477_ok)
/-- NearSpell.Pieces.weighTyped -/
def q478_M : rfM := ((⟨"NearSpell$Pieces", "weighTyped", "(I)V"⟩, prog_7_method_4_code, 3, none), (5,117), ([.inr (.inl [58]),.inl ((0,3,1),none)],[]), [(17,0),(18,0),(19,0),(20,4),(20,5),(58,5),(58,6),(58,7),(58,8)], [(none,[],[((20,3),(0,6,1),none)])])
def q478_P : rfP := (flX5,csX5,lcX5,spX5,[q477_M,q444_M,q457_M,q461_M,q111_M,q465_M],[(35,4)],[(26,1,5),(29,2,7),(39,5,5),(43,0,8),(51,3,5)],([],[]))
def q478_U : rfU := []
set_option maxHeartbeats 8000000 in
def q478_N : List rfB := [(0,([(0,.inr (.inl [58])),(1,.inl ((0,3,1),none))],[],[]),(18,[]),0)]
set_option maxRecDepth 100000 in
theorem q478_ok : rf_chkB q478_P q478_U wLay q478_M ddX5_weighTyped [(5,[0]),(10,[1]),(18,[2]),(22,[3]),(27,[4]),(31,[5])] [] [0] 600 q478_N = true := by decide +kernel
set_option maxHeartbeats 4000000 in
theorem q478_met {G : rfG} (h : okG G) : rf_met G q478_M := rf_methodB h.1 (P := q478_P) (U := q478_U) (N := q478_N) ⟨wflT h flokX5, wcsT h csokX5, wlcT h lcokX5, spokX5 h, List.forall_mem_cons.mpr ⟨q477_met h, List.forall_mem_cons.mpr ⟨q444_met h, List.forall_mem_cons.mpr ⟨q457_met h, List.forall_mem_cons.mpr ⟨q461_met h, List.forall_mem_cons.mpr ⟨q111_met h, List.forall_mem_cons.mpr ⟨q465_met h, fun _ h => absurd h List.not_mem_nil⟩⟩⟩⟩⟩⟩, List.forall_mem_cons.mpr ⟨fun M hM => Option.some.inj (show some q111_M = some M from hM) ▸ wlkS (lkX5_35 h) q111_M rfl rfl, fun _ h => absurd h List.not_mem_nil⟩, List.forall_mem_cons.mpr ⟨fun M hM => Option.some.inj (show some q444_M = some M from hM) ▸ wlkV (lkX5_26 h) q444_M rfl rfl, List.forall_mem_cons.mpr ⟨fun M hM => Option.some.inj (show some q457_M = some M from hM) ▸ wlkV (lkX5_29 h) q457_M rfl rfl, List.forall_mem_cons.mpr ⟨fun M hM => Option.some.inj (show some q465_M = some M from hM) ▸ wlkV (lkX5_39 h) q465_M rfl rfl, List.forall_mem_cons.mpr ⟨fun M hM => Option.some.inj (show some q477_M = some M from hM) ▸ wlkV (lkX5_43 h) q477_M rfl rfl, List.forall_mem_cons.mpr ⟨fun M hM => Option.some.inj (show some q461_M = some M from hM) ▸ wlkV (lkX5_51 h) q461_M rfl rfl, fun _ h => absurd h List.not_mem_nil⟩⟩⟩⟩⟩, fun _ h => absurd h List.not_mem_nil, fun _ h => absurd h List.not_mem_nil⟩ dkX5_weighTyped (by decide +kernel) (by rw [h.2.2.1]; exact q478_ok)
/-- NearSpell.State.typedAt -/
def q479_M : rfM := ((⟨"NearSpell$State", "typedAt", "(I)I"⟩, prog_10_method_9_code, 2, (some .int)), (0,0), ([.inr (.inl [13]),.inl ((1,3,1),none)],[]), [], [(some (.inl (((-2147483648),2147483647,1),none)),[],[])])
def q479_P : rfP := (flX8,csX8,lcX8,spX8,[],[],[],([],[]))
def q479_U : rfU := []
set_option maxHeartbeats 8000000 in
def q479_N : List rfB := [(0,([(0,.inr (.inl [13])),(1,.inl ((1,3,1),none))],[],[]),(12,[]),0)]
set_option maxRecDepth 100000 in
theorem q479_ok : rf_chkB q479_P q479_U wLay q479_M ddX8_typedAt [] [] [0] 600 q479_N = true := by decide +kernel
set_option maxHeartbeats 4000000 in
theorem q479_met {G : rfG} (h : okG G) : rf_met G q479_M := rf_methodB h.1 (P := q479_P) (U := q479_U) (N := q479_N) ⟨wflT h flokX8, wcsT h csokX8, wlcT h lcokX8, spokX8 h, fun _ h => absurd h List.not_mem_nil, fun _ h => absurd h List.not_mem_nil, fun _ h => absurd h List.not_mem_nil, fun _ h => absurd h List.not_mem_nil, fun _ h => absurd h List.not_mem_nil⟩ dkX8_typedAt (by decide +kernel) (by rw [h.2.2.1]; exact q479_ok)
/-- NearSpell.Pieces.weighJoined -/
def q480_M : rfM := ((⟨"NearSpell$Pieces", "weighJoined", "(I)V"⟩, prog_7_method_3_code, 2, none), (5,112), ([.inr (.inl [58]),.inl ((0,2,1),none)],[]), [(17,0),(18,0),(19,0),(20,4),(20,5),(58,5),(58,6),(58,7),(58,8)], [(none,[],[])])
def q480_P : rfP := (flX5,csX5,lcX5,spX5,[q444_M,q472_M,q457_M,q479_M,q460_M,q461_M],[],[(26,0,5),(29,2,7),(43,1,8),(43,3,8),(48,4,7),(51,5,5)],([],[]))
def q480_U : rfU := []
set_option maxHeartbeats 8000000 in
def q480_N : List rfB := [(0,([(0,.inr (.inl [58])),(1,.inl ((0,2,1),none))],[],[]),(20,[]),0)]
set_option maxRecDepth 100000 in
theorem q480_ok : rf_chkB q480_P q480_U wLay q480_M ddX5_weighJoined [(1,[0]),(13,[1]),(16,[2]),(30,[3]),(33,[4]),(37,[5])] [] [0] 600 q480_N = true := by decide +kernel
set_option maxHeartbeats 4000000 in
theorem q480_met {G : rfG} (h : okG G) : rf_met G q480_M := rf_methodB h.1 (P := q480_P) (U := q480_U) (N := q480_N) ⟨wflT h flokX5, wcsT h csokX5, wlcT h lcokX5, spokX5 h, List.forall_mem_cons.mpr ⟨q444_met h, List.forall_mem_cons.mpr ⟨q472_met h, List.forall_mem_cons.mpr ⟨q457_met h, List.forall_mem_cons.mpr ⟨q479_met h, List.forall_mem_cons.mpr ⟨q460_met h, List.forall_mem_cons.mpr ⟨q461_met h, fun _ h => absurd h List.not_mem_nil⟩⟩⟩⟩⟩⟩, fun _ h => absurd h List.not_mem_nil, List.forall_mem_cons.mpr ⟨fun M hM => Option.some.inj (show some q444_M = some M from hM) ▸ wlkV (lkX5_26 h) q444_M rfl rfl, List.forall_mem_cons.mpr ⟨fun M hM => Option.some.inj (show some q457_M = some M from hM) ▸ wlkV (lkX5_29 h) q457_M rfl rfl, List.forall_mem_cons.mpr ⟨fun M hM => Option.some.inj (show some q472_M = some M from hM) ▸ wlkV (lkX5_43 h) q472_M rfl rfl, List.forall_mem_cons.mpr ⟨fun M hM => Option.some.inj (show some q479_M = some M from hM) ▸ wlkV (lkX5_43 h) q479_M rfl rfl, List.forall_mem_cons.mpr ⟨fun M hM => Option.some.inj (show some q460_M = some M from hM) ▸ wlkV (lkX5_48 h) q460_M rfl rfl, List.forall_mem_cons.mpr ⟨fun M hM => Option.some.inj (show some q461_M = some M from hM) ▸ wlkV (lkX5_51 h) q461_M rfl rfl, fun _ h => absurd h List.not_mem_nil⟩⟩⟩⟩⟩⟩, fun _ h => absurd h List.not_mem_nil, fun _ h => absurd h List.not_mem_nil⟩ dkX5_weighJoined (by decide +kernel) (by rw [h.2.2.1]; exact q480_ok)
/-- NearSpell.Pieces.takeJoined -/
def q481_M : rfM := ((⟨"NearSpell$Pieces", "takeJoined", "(I)V"⟩, prog_7_method_10_code, 4, none), (0,0), ([.inr (.inl [58]),.inl ((2,4,1),none)],[]), [(56,0),(57,0)], [(none,[],[])])
def q481_P : rfP := (flX5,csX5,lcX5,spX5,[],[],[],([],[]))
def q481_U : rfU := []
set_option maxHeartbeats 8000000 in
def q481_N : List rfB := [(0,([(0,.inr (.inl [58])),(1,.inl ((2,4,1),none))],[],[]),(59,[]),0),
  (89,([(0,.inr (.inl [58])),(1,.inl ((2,4,1),none)),(2,.inl (((-2147483648),2147483647,1),none)),(3,.inl (((-2147483648),2147483647,1),none))],[],[]),(0,[]),0)]
set_option maxRecDepth 100000 in
theorem q481_ok : rf_chkB q481_P q481_U wLay q481_M ddX5_takeJoined [] [] [0,89] 600 q481_N = true := by decide +kernel
set_option maxHeartbeats 4000000 in
theorem q481_met {G : rfG} (h : okG G) : rf_met G q481_M := rf_methodB h.1 (P := q481_P) (U := q481_U) (N := q481_N) ⟨wflT h flokX5, wcsT h csokX5, wlcT h lcokX5, spokX5 h, fun _ h => absurd h List.not_mem_nil, fun _ h => absurd h List.not_mem_nil, fun _ h => absurd h List.not_mem_nil, fun _ h => absurd h List.not_mem_nil, fun _ h => absurd h List.not_mem_nil⟩ dkX5_takeJoined (by decide +kernel) (by rw [h.2.2.1]; exact q481_ok)
/-- NearSpell.Pieces.weighTyped -/
def q482_M : rfM := ((⟨"NearSpell$Pieces", "weighTyped", "(I)V"⟩, prog_7_method_4_code, 3, none), (5,117), ([.inr (.inl [58]),.inl ((0,4,1),none)],[]), [(17,0),(18,0),(19,0),(20,4),(20,5),(58,5),(58,6),(58,7),(58,8)], [(none,[],[((20,3),(0,6,1),none)])])
def q482_P : rfP := (flX5,csX5,lcX5,spX5,[q455_M,q444_M,q457_M,q461_M,q111_M,q465_M],[(35,4)],[(26,1,5),(29,2,7),(39,5,5),(43,0,8),(51,3,5)],([],[]))
def q482_U : rfU := []
set_option maxHeartbeats 8000000 in
def q482_N : List rfB := [(0,([(0,.inr (.inl [58])),(1,.inl ((0,4,1),none))],[],[]),(18,[]),0)]
set_option maxRecDepth 100000 in
theorem q482_ok : rf_chkB q482_P q482_U wLay q482_M ddX5_weighTyped [(5,[0]),(10,[1]),(18,[2]),(22,[3]),(27,[4]),(31,[5])] [] [0] 600 q482_N = true := by decide +kernel
set_option maxHeartbeats 4000000 in
theorem q482_met {G : rfG} (h : okG G) : rf_met G q482_M := rf_methodB h.1 (P := q482_P) (U := q482_U) (N := q482_N) ⟨wflT h flokX5, wcsT h csokX5, wlcT h lcokX5, spokX5 h, List.forall_mem_cons.mpr ⟨q455_met h, List.forall_mem_cons.mpr ⟨q444_met h, List.forall_mem_cons.mpr ⟨q457_met h, List.forall_mem_cons.mpr ⟨q461_met h, List.forall_mem_cons.mpr ⟨q111_met h, List.forall_mem_cons.mpr ⟨q465_met h, fun _ h => absurd h List.not_mem_nil⟩⟩⟩⟩⟩⟩, List.forall_mem_cons.mpr ⟨fun M hM => Option.some.inj (show some q111_M = some M from hM) ▸ wlkS (lkX5_35 h) q111_M rfl rfl, fun _ h => absurd h List.not_mem_nil⟩, List.forall_mem_cons.mpr ⟨fun M hM => Option.some.inj (show some q444_M = some M from hM) ▸ wlkV (lkX5_26 h) q444_M rfl rfl, List.forall_mem_cons.mpr ⟨fun M hM => Option.some.inj (show some q457_M = some M from hM) ▸ wlkV (lkX5_29 h) q457_M rfl rfl, List.forall_mem_cons.mpr ⟨fun M hM => Option.some.inj (show some q465_M = some M from hM) ▸ wlkV (lkX5_39 h) q465_M rfl rfl, List.forall_mem_cons.mpr ⟨fun M hM => Option.some.inj (show some q455_M = some M from hM) ▸ wlkV (lkX5_43 h) q455_M rfl rfl, List.forall_mem_cons.mpr ⟨fun M hM => Option.some.inj (show some q461_M = some M from hM) ▸ wlkV (lkX5_51 h) q461_M rfl rfl, fun _ h => absurd h List.not_mem_nil⟩⟩⟩⟩⟩, fun _ h => absurd h List.not_mem_nil, fun _ h => absurd h List.not_mem_nil⟩ dkX5_weighTyped (by decide +kernel) (by rw [h.2.2.1]; exact q482_ok)
/-- NearSpell.State.typedAt -/
def q483_M : rfM := ((⟨"NearSpell$State", "typedAt", "(I)I"⟩, prog_10_method_9_code, 2, (some .int)), (0,0), ([.inr (.inl [13]),.inl ((1,4,1),none)],[]), [], [(some (.inl (((-2147483648),2147483647,1),none)),[],[])])
def q483_P : rfP := (flX8,csX8,lcX8,spX8,[],[],[],([],[]))
def q483_U : rfU := []
set_option maxHeartbeats 8000000 in
def q483_N : List rfB := [(0,([(0,.inr (.inl [13])),(1,.inl ((1,4,1),none))],[],[]),(12,[]),0)]
set_option maxRecDepth 100000 in
theorem q483_ok : rf_chkB q483_P q483_U wLay q483_M ddX8_typedAt [] [] [0] 600 q483_N = true := by decide +kernel
set_option maxHeartbeats 4000000 in
theorem q483_met {G : rfG} (h : okG G) : rf_met G q483_M := rf_methodB h.1 (P := q483_P) (U := q483_U) (N := q483_N) ⟨wflT h flokX8, wcsT h csokX8, wlcT h lcokX8, spokX8 h, fun _ h => absurd h List.not_mem_nil, fun _ h => absurd h List.not_mem_nil, fun _ h => absurd h List.not_mem_nil, fun _ h => absurd h List.not_mem_nil, fun _ h => absurd h List.not_mem_nil⟩ dkX8_typedAt (by decide +kernel) (by rw [h.2.2.1]; exact q483_ok)
/-- NearSpell.Pieces.weighJoined -/
def q484_M : rfM := ((⟨"NearSpell$Pieces", "weighJoined", "(I)V"⟩, prog_7_method_3_code, 2, none), (5,112), ([.inr (.inl [58]),.inl ((0,3,1),none)],[]), [(17,0),(18,0),(19,0),(20,4),(20,5),(58,5),(58,6),(58,7),(58,8)], [(none,[],[])])
def q484_P : rfP := (flX5,csX5,lcX5,spX5,[q444_M,q477_M,q457_M,q483_M,q460_M,q461_M],[],[(26,0,5),(29,2,7),(43,1,8),(43,3,8),(48,4,7),(51,5,5)],([],[]))
def q484_U : rfU := []
set_option maxHeartbeats 8000000 in
def q484_N : List rfB := [(0,([(0,.inr (.inl [58])),(1,.inl ((0,3,1),none))],[],[]),(20,[]),0)]
set_option maxRecDepth 100000 in
theorem q484_ok : rf_chkB q484_P q484_U wLay q484_M ddX5_weighJoined [(1,[0]),(13,[1]),(16,[2]),(30,[3]),(33,[4]),(37,[5])] [] [0] 600 q484_N = true := by decide +kernel
set_option maxHeartbeats 4000000 in
theorem q484_met {G : rfG} (h : okG G) : rf_met G q484_M := rf_methodB h.1 (P := q484_P) (U := q484_U) (N := q484_N) ⟨wflT h flokX5, wcsT h csokX5, wlcT h lcokX5, spokX5 h, List.forall_mem_cons.mpr ⟨q444_met h, List.forall_mem_cons.mpr ⟨q477_met h, List.forall_mem_cons.mpr ⟨q457_met h, List.forall_mem_cons.mpr ⟨q483_met h, List.forall_mem_cons.mpr ⟨q460_met h, List.forall_mem_cons.mpr ⟨q461_met h, fun _ h => absurd h List.not_mem_nil⟩⟩⟩⟩⟩⟩, fun _ h => absurd h List.not_mem_nil, List.forall_mem_cons.mpr ⟨fun M hM => Option.some.inj (show some q444_M = some M from hM) ▸ wlkV (lkX5_26 h) q444_M rfl rfl, List.forall_mem_cons.mpr ⟨fun M hM => Option.some.inj (show some q457_M = some M from hM) ▸ wlkV (lkX5_29 h) q457_M rfl rfl, List.forall_mem_cons.mpr ⟨fun M hM => Option.some.inj (show some q477_M = some M from hM) ▸ wlkV (lkX5_43 h) q477_M rfl rfl, List.forall_mem_cons.mpr ⟨fun M hM => Option.some.inj (show some q483_M = some M from hM) ▸ wlkV (lkX5_43 h) q483_M rfl rfl, List.forall_mem_cons.mpr ⟨fun M hM => Option.some.inj (show some q460_M = some M from hM) ▸ wlkV (lkX5_48 h) q460_M rfl rfl, List.forall_mem_cons.mpr ⟨fun M hM => Option.some.inj (show some q461_M = some M from hM) ▸ wlkV (lkX5_51 h) q461_M rfl rfl, fun _ h => absurd h List.not_mem_nil⟩⟩⟩⟩⟩⟩, fun _ h => absurd h List.not_mem_nil, fun _ h => absurd h List.not_mem_nil⟩ dkX5_weighJoined (by decide +kernel) (by rw [h.2.2.1]; exact q484_ok)
/-- NearSpell.Pieces.takeJoined -/
def q485_M : rfM := ((⟨"NearSpell$Pieces", "takeJoined", "(I)V"⟩, prog_7_method_10_code, 4, none), (0,0), ([.inr (.inl [58]),.inl ((2,5,1),none)],[]), [(56,0),(57,0)], [(none,[],[])])
def q485_P : rfP := (flX5,csX5,lcX5,spX5,[],[],[],([],[]))
def q485_U : rfU := []
set_option maxHeartbeats 8000000 in
def q485_N : List rfB := [(0,([(0,.inr (.inl [58])),(1,.inl ((2,5,1),none))],[],[]),(59,[]),0),
  (89,([(0,.inr (.inl [58])),(1,.inl ((2,5,1),none)),(2,.inl (((-2147483648),2147483647,1),none)),(3,.inl (((-2147483648),2147483647,1),none))],[],[]),(0,[]),0)]
set_option maxRecDepth 100000 in
theorem q485_ok : rf_chkB q485_P q485_U wLay q485_M ddX5_takeJoined [] [] [0,89] 600 q485_N = true := by decide +kernel
set_option maxHeartbeats 4000000 in
theorem q485_met {G : rfG} (h : okG G) : rf_met G q485_M := rf_methodB h.1 (P := q485_P) (U := q485_U) (N := q485_N) ⟨wflT h flokX5, wcsT h csokX5, wlcT h lcokX5, spokX5 h, fun _ h => absurd h List.not_mem_nil, fun _ h => absurd h List.not_mem_nil, fun _ h => absurd h List.not_mem_nil, fun _ h => absurd h List.not_mem_nil, fun _ h => absurd h List.not_mem_nil⟩ dkX5_takeJoined (by decide +kernel) (by rw [h.2.2.1]; exact q485_ok)
/-- NearSpell.Pieces.weighTyped -/
def q486_M : rfM := ((⟨"NearSpell$Pieces", "weighTyped", "(I)V"⟩, prog_7_method_4_code, 3, none), (5,117), ([.inr (.inl [58]),.inl ((0,5,1),none)],[]), [(17,0),(18,0),(19,0),(20,4),(20,5),(58,5),(58,6),(58,7),(58,8)], [(none,[],[((20,3),(0,6,1),none)])])
def q486_P : rfP := (flX5,csX5,lcX5,spX5,[q405_M,q444_M,q457_M,q461_M,q111_M,q465_M],[(35,4)],[(26,1,5),(29,2,7),(39,5,5),(43,0,8),(51,3,5)],([],[]))
def q486_U : rfU := []
set_option maxHeartbeats 8000000 in
def q486_N : List rfB := [(0,([(0,.inr (.inl [58])),(1,.inl ((0,5,1),none))],[],[]),(18,[]),0)]
set_option maxRecDepth 100000 in
theorem q486_ok : rf_chkB q486_P q486_U wLay q486_M ddX5_weighTyped [(5,[0]),(10,[1]),(18,[2]),(22,[3]),(27,[4]),(31,[5])] [] [0] 600 q486_N = true := by decide +kernel
set_option maxHeartbeats 4000000 in
theorem q486_met {G : rfG} (h : okG G) : rf_met G q486_M := rf_methodB h.1 (P := q486_P) (U := q486_U) (N := q486_N) ⟨wflT h flokX5, wcsT h csokX5, wlcT h lcokX5, spokX5 h, List.forall_mem_cons.mpr ⟨q405_met h, List.forall_mem_cons.mpr ⟨q444_met h, List.forall_mem_cons.mpr ⟨q457_met h, List.forall_mem_cons.mpr ⟨q461_met h, List.forall_mem_cons.mpr ⟨q111_met h, List.forall_mem_cons.mpr ⟨q465_met h, fun _ h => absurd h List.not_mem_nil⟩⟩⟩⟩⟩⟩, List.forall_mem_cons.mpr ⟨fun M hM => Option.some.inj (show some q111_M = some M from hM) ▸ wlkS (lkX5_35 h) q111_M rfl rfl, fun _ h => absurd h List.not_mem_nil⟩, List.forall_mem_cons.mpr ⟨fun M hM => Option.some.inj (show some q444_M = some M from hM) ▸ wlkV (lkX5_26 h) q444_M rfl rfl, List.forall_mem_cons.mpr ⟨fun M hM => Option.some.inj (show some q457_M = some M from hM) ▸ wlkV (lkX5_29 h) q457_M rfl rfl, List.forall_mem_cons.mpr ⟨fun M hM => Option.some.inj (show some q465_M = some M from hM) ▸ wlkV (lkX5_39 h) q465_M rfl rfl, List.forall_mem_cons.mpr ⟨fun M hM => Option.some.inj (show some q405_M = some M from hM) ▸ wlkV (lkX5_43 h) q405_M rfl rfl, List.forall_mem_cons.mpr ⟨fun M hM => Option.some.inj (show some q461_M = some M from hM) ▸ wlkV (lkX5_51 h) q461_M rfl rfl, fun _ h => absurd h List.not_mem_nil⟩⟩⟩⟩⟩, fun _ h => absurd h List.not_mem_nil, fun _ h => absurd h List.not_mem_nil⟩ dkX5_weighTyped (by decide +kernel) (by rw [h.2.2.1]; exact q486_ok)
/-- NearSpell.Pieces.takeJoined -/
def q487_M : rfM := ((⟨"NearSpell$Pieces", "takeJoined", "(I)V"⟩, prog_7_method_10_code, 4, none), (0,0), ([.inr (.inl [58]),.inl ((2,6,1),none)],[]), [(56,0),(57,0)], [(none,[],[])])
def q487_P : rfP := (flX5,csX5,lcX5,spX5,[],[],[],([],[]))
def q487_U : rfU := []
set_option maxHeartbeats 8000000 in
def q487_N : List rfB := [(0,([(0,.inr (.inl [58])),(1,.inl ((2,6,1),none))],[],[]),(59,[]),0),
  (89,([(0,.inr (.inl [58])),(1,.inl ((2,6,1),none)),(2,.inl (((-2147483648),2147483647,1),none)),(3,.inl (((-2147483648),2147483647,1),none))],[],[]),(0,[]),0)]
set_option maxRecDepth 100000 in
theorem q487_ok : rf_chkB q487_P q487_U wLay q487_M ddX5_takeJoined [] [] [0,89] 600 q487_N = true := by decide +kernel
set_option maxHeartbeats 4000000 in
theorem q487_met {G : rfG} (h : okG G) : rf_met G q487_M := rf_methodB h.1 (P := q487_P) (U := q487_U) (N := q487_N) ⟨wflT h flokX5, wcsT h csokX5, wlcT h lcokX5, spokX5 h, fun _ h => absurd h List.not_mem_nil, fun _ h => absurd h List.not_mem_nil, fun _ h => absurd h List.not_mem_nil, fun _ h => absurd h List.not_mem_nil, fun _ h => absurd h List.not_mem_nil⟩ dkX5_takeJoined (by decide +kernel) (by rw [h.2.2.1]; exact q487_ok)
/-- NearSpell.Pieces.readPhrase -/
def q488_M : rfM := ((⟨"NearSpell$Pieces", "readPhrase", "()Z"⟩, prog_7_method_9_code, 3, (some .boolean)), (6,139), ([.inr (.inl [58])],[]), [(17,0),(18,0),(19,0),(20,4),(20,5),(56,0),(57,0),(58,5),(58,6),(58,7),(58,8)], [(some (.inl ((0,0,0),none)),[],[]),(some (.inl ((1,1,0),none)),[],[])])
def ddX5_readPhrase : List (Nat × Instr × Nat) := [(0,.aload_n 0,1),(1,.getfield 9,3),(4,.invokevirtual 97,3),(7,.istore_n 1,1),(8,.iload_n 1,1),(9,.ifCond .le 15,3),(12,.aload_n 0,1),(13,.getfield 9,3),(16,.invokevirtual 100,3),(19,.ifCond .ne 5,3),(22,.iconst 0,1),(23,.ireturn,1),(24,.aload_n 0,1),(25,.getfield 19,3),(28,.iconst 0,1),(29,.iconst 0,1),(30,.iastore,1),(31,.aload_n 0,1),(32,.getfield 23,3),(35,.iconst 0,1),(36,.iconst 1,1),(37,.iastore,1),(38,.iconst 1,1),(39,.istore_n 2,1),(40,.iload_n 2,1),(41,.iload_n 1,1),(42,.if_icmp .gt 77,3),(45,.iload_n 2,1),(46,.bipush 6,2),(48,.if_icmp .gt 71,3),(51,.aload_n 0,1),(52,.iload_n 2,1),(53,.iconst 1,1),(54,.isub,1),(55,.invokevirtual 103,3),(58,.aload_n 0,1),(59,.getfield 19,3),(62,.iload_n 2,1),(63,.aload_n 0,1),(64,.getfield 19,3),(67,.iload_n 2,1),(68,.iconst 1,1),(69,.isub,1),(70,.iaload,1),(71,.aload_n 0,1),(72,.getfield 54,3),(75,.iadd,1),(76,.iastore,1),(77,.aload_n 0,1),(78,.getfield 23,3),(81,.iload_n 2,1),(82,.aload_n 0,1),(83,.getfield 23,3),(86,.iload_n 2,1),(87,.iconst 1,1),(88,.isub,1),(89,.iaload,1),(90,.aload_n 0,1),(91,.getfield 64,3),(94,.imul,1),(95,.iastore,1),(96,.iload_n 2,1),(97,.iconst 1,1),(98,.if_icmp .le 15,3),(101,.aload_n 0,1),(102,.iload_n 2,1),(103,.iconst 2,1),(104,.isub,1),(105,.invokevirtual 106,3),(108,.aload_n 0,1),(109,.iload_n 2,1),(110,.invokevirtual 109,3),(113,.iinc 2 1,3),(116,.goto (-76),3),(119,.iconst 1,1),(120,.ireturn,1)]
set_option maxRecDepth 100000 in
theorem dkX5_readPhrase : rf_decs prog_7_method_9_code ddX5_readPhrase := rf_decs_of (by decide +kernel)
def q488_P : rfP := (flX5,csX5,lcX5,spX5,[q196_M,q192_M,q486_M,q462_M,q487_M],[],[(97,0,8),(100,1,8),(103,2,5),(106,3,5),(109,4,5)],([],[]))
def q488_U : rfU := []
set_option maxHeartbeats 8000000 in
def q488_N : List rfB := [(0,([(0,.inr (.inl [58]))],[],[]),(382,[0]),0),
  (24,([(0,.inr (.inl [58])),(1,.inl ((0,6,1),none))],[],[]),(370,[0]),0),
  (40,([(0,.inr (.inl [58])),(1,.inl ((0,6,1),none)),(2,.inl ((1,7,1),none))],[],[]),(407,[(-51)]),0),
  (113,([(0,.inr (.inl [58])),(1,.inl ((1,6,1),none)),(2,.inl ((1,6,1),none))],[],[]),(359,[(-51)]),0)]
set_option maxRecDepth 100000 in
theorem q488_ok : rf_chkB q488_P q488_U wLay q488_M ddX5_readPhrase [(4,[0]),(16,[1]),(55,[2]),(105,[3]),(110,[4])] [.inl 2] [0,24,40,113] 600 q488_N = true := by decide +kernel
set_option maxHeartbeats 4000000 in
theorem q488_met {G : rfG} (h : okG G) : rf_met G q488_M := rf_methodB h.1 (P := q488_P) (U := q488_U) (N := q488_N) ⟨wflT h flokX5, wcsT h csokX5, wlcT h lcokX5, spokX5 h, List.forall_mem_cons.mpr ⟨q196_met h, List.forall_mem_cons.mpr ⟨q192_met h, List.forall_mem_cons.mpr ⟨q486_met h, List.forall_mem_cons.mpr ⟨q462_met h, List.forall_mem_cons.mpr ⟨q487_met h, fun _ h => absurd h List.not_mem_nil⟩⟩⟩⟩⟩, fun _ h => absurd h List.not_mem_nil, List.forall_mem_cons.mpr ⟨fun M hM => Option.some.inj (show some q196_M = some M from hM) ▸ wlkV (lkX5_97 h) q196_M rfl rfl, List.forall_mem_cons.mpr ⟨fun M hM => Option.some.inj (show some q192_M = some M from hM) ▸ wlkV (lkX5_100 h) q192_M rfl rfl, List.forall_mem_cons.mpr ⟨fun M hM => Option.some.inj (show some q486_M = some M from hM) ▸ wlkV (lkX5_103 h) q486_M rfl rfl, List.forall_mem_cons.mpr ⟨fun M hM => Option.some.inj (show some q462_M = some M from hM) ▸ wlkV (lkX5_106 h) q462_M rfl rfl, List.forall_mem_cons.mpr ⟨fun M hM => Option.some.inj (show some q487_M = some M from hM) ▸ wlkV (lkX5_109 h) q487_M rfl rfl, fun _ h => absurd h List.not_mem_nil⟩⟩⟩⟩⟩, fun _ h => absurd h List.not_mem_nil, fun _ h => absurd h List.not_mem_nil⟩ dkX5_readPhrase (by decide +kernel) (by rw [h.2.2.1]; exact q488_ok)
/-- NearSpell.Pieces.cost -/
def q489_M : rfM := ((⟨"NearSpell$Pieces", "cost", "()I"⟩, prog_7_method_11_code, 1, (some .int)), (1,20), ([.inr (.inl [58])],[]), [], [(some (.inl (((-2147483648),2147483647,1),none)),[],[])])
def ddX5_cost : List (Nat × Instr × Nat) := [(0,.aload_n 0,1),(1,.getfield 19,3),(4,.aload_n 0,1),(5,.getfield 9,3),(8,.invokevirtual 97,3),(11,.bipush 6,2),(13,.invokestatic 112,3),(16,.iaload,1),(17,.ireturn,1)]
set_option maxRecDepth 100000 in
theorem dkX5_cost : rf_decs prog_7_method_11_code ddX5_cost := rf_decs_of (by decide +kernel)
def q489_P : rfP := (flX5,csX5,lcX5,spX5,[q196_M],[],[(97,0,8)],([],[(112,1)]))
def q489_U : rfU := []
set_option maxHeartbeats 8000000 in
def q489_N : List rfB := [(0,([(0,.inr (.inl [58]))],[],[]),(8,[]),0)]
set_option maxRecDepth 100000 in
theorem q489_ok : rf_chkB q489_P q489_U wLay q489_M ddX5_cost [(8,[0])] [] [0] 600 q489_N = true := by decide +kernel
set_option maxHeartbeats 4000000 in
theorem q489_met {G : rfG} (h : okG G) : rf_met G q489_M := rf_methodB h.1 (P := q489_P) (U := q489_U) (N := q489_N) ⟨wflT h flokX5, wcsT h csokX5, wlcT h lcokX5, spokX5 h, List.forall_mem_cons.mpr ⟨q196_met h, fun _ h => absurd h List.not_mem_nil⟩, fun _ h => absurd h List.not_mem_nil, List.forall_mem_cons.mpr ⟨fun M hM => Option.some.inj (show some q196_M = some M from hM) ▸ wlkV (lkX5_97 h) q196_M rfl rfl, fun _ h => absurd h List.not_mem_nil⟩, fun _ h => absurd h List.not_mem_nil, List.forall_mem_cons.mpr ⟨⟨wmT h (wm130), fun h => absurd h (by decide), fun _ => ⟨wmT h (wm1134), wmT h (wm557), wmT h (wm558)⟩, fun h => absurd h (by decide)⟩, fun _ h => absurd h List.not_mem_nil⟩⟩ dkX5_cost (by decide +kernel) (by rw [h.2.2.1]; exact q489_ok)
/-- NearSpell.reading -/
def q490_M : rfM := ((⟨"NearSpell", "reading", "()I"⟩, prog_1_method_24_code, 1, (some .int)), (7,161), ([.inr (.inl [70])],[]), [(17,0),(18,0),(19,0),(20,4),(20,5),(56,0),(57,0),(58,5),(58,6),(58,7),(58,8)], [(some (.inl (((-2147483648),2147483647,1),none)),[],[])])
def ddX11_reading : List (Nat × Instr × Nat) := [(0,.aload_n 0,1),(1,.getfield 76,3),(4,.invokevirtual 257,3),(7,.ifCond .eq 13,3),(10,.aload_n 0,1),(11,.getfield 76,3),(14,.invokevirtual 261,3),(17,.goto 4,3),(20,.iconst (-1),1),(21,.ireturn,1)]
set_option maxRecDepth 100000 in
theorem dkX11_reading : rf_decs prog_1_method_24_code ddX11_reading := rf_decs_of (by decide +kernel)
def q490_P : rfP := (flX11,csX11,lcX11,spX11,[q488_M,q489_M],[],[(257,0,5),(261,1,5)],([],[]))
def q490_U : rfU := []
set_option maxHeartbeats 8000000 in
def q490_N : List rfB := [(0,([(0,.inr (.inl [70]))],[],[]),(11,[]),0)]
set_option maxRecDepth 100000 in
theorem q490_ok : rf_chkB q490_P q490_U wLay q490_M ddX11_reading [(4,[0]),(14,[1])] [] [0] 600 q490_N = true := by decide +kernel
set_option maxHeartbeats 4000000 in
theorem q490_met {G : rfG} (h : okG G) : rf_met G q490_M := rf_methodB h.1 (P := q490_P) (U := q490_U) (N := q490_N) ⟨wflT h flokX11, wcsT h csokX11, wlcT h lcokX11, spokX11 h, List.forall_mem_cons.mpr ⟨q488_met h, List.forall_mem_cons.mpr ⟨q489_met h, fun _ h => absurd h List.not_mem_nil⟩⟩, fun _ h => absurd h List.not_mem_nil, List.forall_mem_cons.mpr ⟨fun M hM => Option.some.inj (show some q488_M = some M from hM) ▸ wlkV (lkX11_257 h) q488_M rfl rfl, List.forall_mem_cons.mpr ⟨fun M hM => Option.some.inj (show some q489_M = some M from hM) ▸ wlkV (lkX11_261 h) q489_M rfl rfl, fun _ h => absurd h List.not_mem_nil⟩⟩, fun _ h => absurd h List.not_mem_nil, fun _ h => absurd h List.not_mem_nil⟩ dkX11_reading (by decide +kernel) (by rw [h.2.2.1]; exact q490_ok)
/-- NearSpell.Pieces.ways -/
def q491_M : rfM := ((⟨"NearSpell$Pieces", "ways", "()I"⟩, prog_7_method_12_code, 1, (some .int)), (1,20), ([.inr (.inl [58])],[]), [], [(some (.inl (((-2147483648),2147483647,1),none)),[],[])])
def ddX5_ways : List (Nat × Instr × Nat) := [(0,.aload_n 0,1),(1,.getfield 23,3),(4,.aload_n 0,1),(5,.getfield 9,3),(8,.invokevirtual 97,3),(11,.bipush 6,2),(13,.invokestatic 112,3),(16,.iaload,1),(17,.ireturn,1)]
set_option maxRecDepth 100000 in
theorem dkX5_ways : rf_decs prog_7_method_12_code ddX5_ways := rf_decs_of (by decide +kernel)
def q491_P : rfP := (flX5,csX5,lcX5,spX5,[q196_M],[],[(97,0,8)],([],[(112,1)]))
def q491_U : rfU := []
set_option maxHeartbeats 8000000 in
def q491_N : List rfB := [(0,([(0,.inr (.inl [58]))],[],[]),(8,[]),0)]
set_option maxRecDepth 100000 in
theorem q491_ok : rf_chkB q491_P q491_U wLay q491_M ddX5_ways [(8,[0])] [] [0] 600 q491_N = true := by decide +kernel
set_option maxHeartbeats 4000000 in
theorem q491_met {G : rfG} (h : okG G) : rf_met G q491_M := rf_methodB h.1 (P := q491_P) (U := q491_U) (N := q491_N) ⟨wflT h flokX5, wcsT h csokX5, wlcT h lcokX5, spokX5 h, List.forall_mem_cons.mpr ⟨q196_met h, fun _ h => absurd h List.not_mem_nil⟩, fun _ h => absurd h List.not_mem_nil, List.forall_mem_cons.mpr ⟨fun M hM => Option.some.inj (show some q196_M = some M from hM) ▸ wlkV (lkX5_97 h) q196_M rfl rfl, fun _ h => absurd h List.not_mem_nil⟩, fun _ h => absurd h List.not_mem_nil, List.forall_mem_cons.mpr ⟨⟨wmT h (wm130), fun h => absurd h (by decide), fun _ => ⟨wmT h (wm1134), wmT h (wm557), wmT h (wm558)⟩, fun h => absurd h (by decide)⟩, fun _ h => absurd h List.not_mem_nil⟩⟩ dkX5_ways (by decide +kernel) (by rw [h.2.2.1]; exact q491_ok)
/-- NearSpell.readings -/
def q492_M : rfM := ((⟨"NearSpell", "readings", "()I"⟩, prog_1_method_25_code, 1, (some .int)), (7,161), ([.inr (.inl [70])],[]), [(17,0),(18,0),(19,0),(20,4),(20,5),(56,0),(57,0),(58,5),(58,6),(58,7),(58,8)], [(some (.inl (((-2147483648),2147483647,1),none)),[],[])])
def ddX11_readings : List (Nat × Instr × Nat) := [(0,.aload_n 0,1),(1,.getfield 76,3),(4,.invokevirtual 257,3),(7,.ifCond .eq 13,3),(10,.aload_n 0,1),(11,.getfield 76,3),(14,.invokevirtual 264,3),(17,.goto 4,3),(20,.iconst (-1),1),(21,.ireturn,1)]
set_option maxRecDepth 100000 in
theorem dkX11_readings : rf_decs prog_1_method_25_code ddX11_readings := rf_decs_of (by decide +kernel)
def q492_P : rfP := (flX11,csX11,lcX11,spX11,[q488_M,q491_M],[],[(257,0,5),(264,1,5)],([],[]))
def q492_U : rfU := []
set_option maxHeartbeats 8000000 in
def q492_N : List rfB := [(0,([(0,.inr (.inl [70]))],[],[]),(11,[]),0)]
set_option maxRecDepth 100000 in
theorem q492_ok : rf_chkB q492_P q492_U wLay q492_M ddX11_readings [(4,[0]),(14,[1])] [] [0] 600 q492_N = true := by decide +kernel
set_option maxHeartbeats 4000000 in
theorem q492_met {G : rfG} (h : okG G) : rf_met G q492_M := rf_methodB h.1 (P := q492_P) (U := q492_U) (N := q492_N) ⟨wflT h flokX11, wcsT h csokX11, wlcT h lcokX11, spokX11 h, List.forall_mem_cons.mpr ⟨q488_met h, List.forall_mem_cons.mpr ⟨q491_met h, fun _ h => absurd h List.not_mem_nil⟩⟩, fun _ h => absurd h List.not_mem_nil, List.forall_mem_cons.mpr ⟨fun M hM => Option.some.inj (show some q488_M = some M from hM) ▸ wlkV (lkX11_257 h) q488_M rfl rfl, List.forall_mem_cons.mpr ⟨fun M hM => Option.some.inj (show some q491_M = some M from hM) ▸ wlkV (lkX11_264 h) q491_M rfl rfl, fun _ h => absurd h List.not_mem_nil⟩⟩, fun _ h => absurd h List.not_mem_nil, fun _ h => absurd h List.not_mem_nil⟩ dkX11_readings (by decide +kernel) (by rw [h.2.2.1]; exact q492_ok)
/-- NearSpell.Web.isIn -/
def q493_M : rfM := ((⟨"NearSpell$Web", "isIn", "(II)Z"⟩, prog_11_method_3_code, 3, (some .boolean)), (0,0), ([.inr (.inl [61]),.inl (((-2147483648),2147483647,1),none),.inl (((-2147483648),2147483647,1),none)],[]), [], [(some (.inl ((1,1,0),none)),[],[]),(some (.inl ((0,0,0),none)),[],[])])
def ddX9_isIn : List (Nat × Instr × Nat) := [(0,.iload_n 1,1),(1,.iload_n 2,1),(2,.ishr,1),(3,.iconst 1,1),(4,.iand,1),(5,.ifCond .eq 7,3),(8,.iconst 1,1),(9,.goto 4,3),(12,.iconst 0,1),(13,.ireturn,1)]
set_option maxRecDepth 100000 in
theorem dkX9_isIn : rf_decs prog_11_method_3_code ddX9_isIn := rf_decs_of (by decide +kernel)
def q493_P : rfP := (flX9,csX9,lcX9,spX9,[],[],[],([],[]))
def q493_U : rfU := []
set_option maxHeartbeats 8000000 in
def q493_N : List rfB := [(0,([(0,.inr (.inl [61])),(1,.inl (((-2147483648),2147483647,1),none)),(2,.inl (((-2147483648),2147483647,1),none))],[],[]),(10,[]),0)]
set_option maxRecDepth 100000 in
theorem q493_ok : rf_chkB q493_P q493_U wLay q493_M ddX9_isIn [] [] [0] 600 q493_N = true := by decide +kernel
set_option maxHeartbeats 4000000 in
theorem q493_met {G : rfG} (h : okG G) : rf_met G q493_M := rf_methodB h.1 (P := q493_P) (U := q493_U) (N := q493_N) ⟨wflT h flokX9, wcsT h csokX9, wlcT h lcokX9, spokX9 h, fun _ h => absurd h List.not_mem_nil, fun _ h => absurd h List.not_mem_nil, fun _ h => absurd h List.not_mem_nil, fun _ h => absurd h List.not_mem_nil, fun _ h => absurd h List.not_mem_nil⟩ dkX9_isIn (by decide +kernel) (by rw [h.2.2.1]; exact q493_ok)
/-- NearSpell.State.spellingOf -/
def q494_M : rfM := ((⟨"NearSpell$State", "spellingOf", "(I)I"⟩, prog_10_method_7_code, 2, (some .int)), (0,0), ([.inr (.inl [13]),.inl ((0,10,1),none)],[]), [], [(some (.inl (((-2147483648),2147483647,1),none)),[],[])])
def q494_P : rfP := (flX8,csX8,lcX8,spX8,[],[],[],([],[]))
def q494_U : rfU := []
set_option maxHeartbeats 8000000 in
def q494_N : List rfB := [(0,([(0,.inr (.inl [13])),(1,.inl ((0,10,1),none))],[],[]),(12,[]),0)]
set_option maxRecDepth 100000 in
theorem q494_ok : rf_chkB q494_P q494_U wLay q494_M ddX8_spellingOf [] [] [0] 600 q494_N = true := by decide +kernel
set_option maxHeartbeats 4000000 in
theorem q494_met {G : rfG} (h : okG G) : rf_met G q494_M := rf_methodB h.1 (P := q494_P) (U := q494_U) (N := q494_N) ⟨wflT h flokX8, wcsT h csokX8, wlcT h lcokX8, spokX8 h, fun _ h => absurd h List.not_mem_nil, fun _ h => absurd h List.not_mem_nil, fun _ h => absurd h List.not_mem_nil, fun _ h => absurd h List.not_mem_nil, fun _ h => absurd h List.not_mem_nil⟩ dkX8_spellingOf (by decide +kernel) (by rw [h.2.2.1]; exact q494_ok)
/-- NearSpell.Web.measure -/
def q495_M : rfM := ((⟨"NearSpell$Web", "measure", "()V"⟩, prog_11_method_2_code, 4, none), (4,91), ([.inr (.inl [61])],[]), [(17,0),(18,0),(19,0),(20,4),(20,5),(59,0),(61,5)], [(none,[],[((61,4),(0,16383,1),none)])])
def ddX9_measure : List (Nat × Instr × Nat) := [(0,.aload_n 0,1),(1,.iconst 0,1),(2,.putfield 26,3),(5,.iconst 0,1),(6,.istore_n 1,1),(7,.iload_n 1,1),(8,.aload_n 0,1),(9,.getfield 9,3),(12,.invokevirtual 30,3),(15,.if_icmp .ge 119,3),(18,.aload_n 0,1),(19,.getfield 9,3),(22,.iload_n 1,1),(23,.invokevirtual 36,3),(26,.ifCond .ne 6,3),(29,.goto 99,3),(32,.aload_n 0,1),(33,.getfield 15,3),(36,.aload_n 0,1),(37,.getfield 9,3),(40,.iload_n 1,1),(41,.invokevirtual 40,3),(44,.invokevirtual 44,3),(47,.iconst 0,1),(48,.istore_n 2,1),(49,.iload_n 2,1),(50,.iload_n 1,1),(51,.if_icmp .ge 65,3),(54,.aload_n 0,1),(55,.aload_n 0,1),(56,.getfield 26,3),(59,.iload_n 2,1),(60,.invokevirtual 50,3),(63,.ifCond .eq 21,3),(66,.aload_n 0,1),(67,.getfield 15,3),(70,.aload_n 0,1),(71,.getfield 9,3),(74,.iload_n 2,1),(75,.invokevirtual 40,3),(78,.invokevirtual 54,3),(81,.goto 4,3),(84,.iconst 0,1),(85,.istore_n 3,1),(86,.aload_n 0,1),(87,.getfield 19,3),(90,.iload_n 1,1),(91,.bipush 14,2),(93,.imul,1),(94,.iload_n 2,1),(95,.iadd,1),(96,.iload_n 3,1),(97,.iastore,1),(98,.aload_n 0,1),(99,.getfield 19,3),(102,.iload_n 2,1),(103,.bipush 14,2),(105,.imul,1),(106,.iload_n 1,1),(107,.iadd,1),(108,.iload_n 3,1),(109,.iastore,1),(110,.iinc 2 1,3),(113,.goto (-64),3),(116,.aload_n 0,1),(117,.dup,1),(118,.getfield 26,3),(121,.iconst 1,1),(122,.iload_n 1,1),(123,.ishl,1),(124,.ior,1),(125,.putfield 26,3),(128,.iinc 1 1,3),(131,.goto (-124),3),(134,.return_,1)]
set_option maxRecDepth 100000 in
theorem dkX9_measure : rf_decs prog_11_method_2_code ddX9_measure := rf_decs_of (by decide +kernel)
def q495_P : rfP := (flX9,csX9,lcX9,spX9,[q187_M,q185_M,q110_M,q457_M,q493_M,q184_M,q208_M],[],[(30,0,8),(36,1,8),(40,2,8),(40,5,8),(44,3,7),(50,4,9),(54,6,7)],([],[]))
def q495_U : rfU := []
set_option maxHeartbeats 8000000 in
def q495_N : List rfB := [(0,([(0,.inr (.inl [61]))],[],[]),(9305,[0,0]),0),
  (7,([(0,.inr (.inl [61])),(1,.inl ((0,14,1),none))],[],[((61,4),(0,16383,1),none)]),(9298,[(-620),0]),0),
  (128,([(0,.inr (.inl [61])),(1,.inl ((0,13,1),none))],[],[((61,4),(0,16383,1),none)]),(8681,[(-620),0]),0),
  (49,([(0,.inr (.inl [61])),(1,.inl ((0,13,1),none)),(2,.inl ((0,13,1),none))],[],[((12,34),(1,14,1),none),((20,3),(0,6,1),none),((20,4),(0,6,1),none),((61,4),(0,16383,1),none)]),(9277,[(-620),(-42)]),0),
  (86,([(0,.inr (.inl [61])),(1,.inl ((1,13,1),none)),(2,.inl ((0,12,1),none)),(3,.inl (((-2147483648),2147483647,1),none))],[],[((12,34),(1,14,1),none),((20,3),(0,6,1),none),((20,4),(0,6,1),none),((61,4),(0,16383,1),none)]),(9256,[(-620),(-42)]),0)]
set_option maxRecDepth 100000 in
theorem q495_ok : rf_chkB q495_P q495_U wLay q495_M ddX9_measure [(12,[0]),(23,[1]),(41,[2]),(44,[3]),(60,[4]),(75,[5]),(78,[6])] [.inl 1,.inl 2] [0,7,49,86,128] 600 q495_N = true := by decide +kernel
set_option maxHeartbeats 4000000 in
theorem q495_met {G : rfG} (h : okG G) : rf_met G q495_M := rf_methodB h.1 (P := q495_P) (U := q495_U) (N := q495_N) ⟨wflT h flokX9, wcsT h csokX9, wlcT h lcokX9, spokX9 h, List.forall_mem_cons.mpr ⟨q187_met h, List.forall_mem_cons.mpr ⟨q185_met h, List.forall_mem_cons.mpr ⟨q110_met h, List.forall_mem_cons.mpr ⟨q457_met h, List.forall_mem_cons.mpr ⟨q493_met h, List.forall_mem_cons.mpr ⟨q184_met h, List.forall_mem_cons.mpr ⟨q208_met h, fun _ h => absurd h List.not_mem_nil⟩⟩⟩⟩⟩⟩⟩, fun _ h => absurd h List.not_mem_nil, List.forall_mem_cons.mpr ⟨fun M hM => Option.some.inj (show some q187_M = some M from hM) ▸ wlkV (lkX9_30 h) q187_M rfl rfl, List.forall_mem_cons.mpr ⟨fun M hM => Option.some.inj (show some q185_M = some M from hM) ▸ wlkV (lkX9_36 h) q185_M rfl rfl, List.forall_mem_cons.mpr ⟨fun M hM => Option.some.inj (show some q110_M = some M from hM) ▸ wlkV (lkX9_40 h) q110_M rfl rfl, List.forall_mem_cons.mpr ⟨fun M hM => Option.some.inj (show some q184_M = some M from hM) ▸ wlkV (lkX9_40 h) q184_M rfl rfl, List.forall_mem_cons.mpr ⟨fun M hM => Option.some.inj (show some q457_M = some M from hM) ▸ wlkV (lkX9_44 h) q457_M rfl rfl, List.forall_mem_cons.mpr ⟨fun M hM => Option.some.inj (show some q493_M = some M from hM) ▸ wlkV (lkX9_50 h) q493_M rfl rfl, List.forall_mem_cons.mpr ⟨fun M hM => Option.some.inj (show some q208_M = some M from hM) ▸ wlkV (lkX9_54 h) q208_M rfl rfl, fun _ h => absurd h List.not_mem_nil⟩⟩⟩⟩⟩⟩⟩, fun _ h => absurd h List.not_mem_nil, fun _ h => absurd h List.not_mem_nil⟩ dkX9_measure (by decide +kernel) (by rw [h.2.2.1]; exact q495_ok)
/-- NearSpell.Web.closestPair -/
def q496_M : rfM := ((⟨"NearSpell$Web", "closestPair", "(I)I"⟩, prog_11_method_5_code, 8, (some .int)), (5,114), ([.inr (.inl [61]),.inl ((0,2,1),none)],[]), [(17,0),(18,0),(19,0),(20,4),(20,5),(59,0),(61,5)], [(some (.inl (((-2147483648),2147483647,1),none)),[],[((61,4),(0,16383,1),none)])])
def ddX9_closestPair : List (Nat × Instr × Nat) := [(0,.aload_n 0,1),(1,.invokevirtual 57,3),(4,.iconst (-1),1),(5,.istore_n 2,1),(6,.iconst (-1),1),(7,.istore_n 3,1),(8,.bipush 7,2),(10,.istore 4,2),(12,.iconst 0,1),(13,.istore 5,2),(15,.iload 5,2),(17,.bipush 14,2),(19,.if_icmp .ge 105,3),(22,.iload 5,2),(24,.iconst 1,1),(25,.iadd,1),(26,.istore 6,2),(28,.iload 6,2),(30,.bipush 14,2),(32,.if_icmp .ge 86,3),(35,.aload_n 0,1),(36,.aload_n 0,1),(37,.getfield 26,3),(40,.iload 5,2),(42,.invokevirtual 50,3),(45,.ifCond .eq 20,3),(48,.aload_n 0,1),(49,.aload_n 0,1),(50,.getfield 26,3),(53,.iload 6,2),(55,.invokevirtual 50,3),(58,.ifCond .eq 7,3),(61,.iconst 1,1),(62,.goto 4,3),(65,.iconst 0,1),(66,.istore 7,2),(68,.iload 7,2),(70,.ifCond .eq 42,3),(73,.aload_n 0,1),(74,.getfield 19,3),(77,.iload 5,2),(79,.bipush 14,2),(81,.imul,1),(82,.iload 6,2),(84,.iadd,1),(85,.iaload,1),(86,.iload 4,2),(88,.if_icmp .ge 24,3),(91,.iload 5,2),(93,.istore_n 2,1),(94,.iload 6,2),(96,.istore_n 3,1),(97,.aload_n 0,1),(98,.getfield 19,3),(101,.iload 5,2),(103,.bipush 14,2),(105,.imul,1),(106,.iload 6,2),(108,.iadd,1),(109,.iaload,1),(110,.istore 4,2),(112,.iinc 6 1,3),(115,.goto (-87),3),(118,.iinc 5 1,3),(121,.goto (-106),3),(124,.iload_n 1,1),(125,.iconst 2,1),(126,.if_icmp .ne 6,3),(129,.iload 4,2),(131,.ireturn,1),(132,.iload_n 1,1),(133,.ifCond .ne 7,3),(136,.iload_n 2,1),(137,.goto 4,3),(140,.iload_n 3,1),(141,.ireturn,1)]
set_option maxRecDepth 100000 in
theorem dkX9_closestPair : rf_decs prog_11_method_5_code ddX9_closestPair := rf_decs_of (by decide +kernel)
def q496_P : rfP := (flX9,csX9,lcX9,spX9,[q495_M,q493_M],[],[(50,1,9),(57,0,9)],([],[]))
def q496_U : rfU := []
set_option maxHeartbeats 8000000 in
def q496_N : List rfB := [(0,([(0,.inr (.inl [61])),(1,.inl ((0,2,1),none))],[],[]),(10670,[0,0]),0),
  (15,([(0,.inr (.inl [61])),(1,.inl ((0,2,1),none)),(2,.inl (((-1),13,1),none)),(3,.inl (((-1),13,1),none)),(4,.inl (((-2147483648),2147483647,1),none)),(5,.inl ((0,14,1),none))],[],[((61,4),(0,16383,1),none)]),(10658,[(-710),0]),0),
  (28,([(0,.inr (.inl [61])),(1,.inl ((0,2,1),none)),(2,.inl (((-1),13,1),none)),(3,.inl (((-1),13,1),none)),(4,.inl (((-2147483648),2147483647,1),none)),(5,.inl ((0,13,1),none)),(6,.inl ((1,14,1),none))],[],[((61,4),(0,16383,1),none)]),(10699,[(-710),(-50)]),0),
  (65,([(0,.inr (.inl [61])),(1,.inl ((0,2,1),none)),(2,.inl (((-1),13,1),none)),(3,.inl (((-1),13,1),none)),(4,.inl (((-2147483648),2147483647,1),none)),(5,.inl ((0,13,1),none)),(6,.inl ((1,13,1),none))],[],[((61,4),(0,16383,1),none)]),(10679,[(-710),(-50)]),0),
  (68,([(0,.inr (.inl [61])),(1,.inl ((0,2,1),none)),(2,.inl (((-1),13,1),none)),(3,.inl (((-1),13,1),none)),(4,.inl (((-2147483648),2147483647,1),none)),(5,.inl ((0,13,1),none)),(6,.inl ((1,13,1),none)),(7,.inl ((0,1,1),none))],[],[((61,4),(0,16383,1),none)]),(10677,[(-710),(-50)]),0),
  (112,([(0,.inr (.inl [61])),(1,.inl ((0,2,1),none)),(2,.inl (((-1),13,1),none)),(3,.inl (((-1),13,1),none)),(4,.inl (((-2147483648),2147483647,1),none)),(5,.inl ((0,13,1),none)),(6,.inl ((1,13,1),none)),(7,.inl ((0,1,1),none))],[],[((61,4),(0,16383,1),none)]),(10652,[(-710),(-50)]),0),
  (141,([(0,.inr (.inl [61])),(1,.inl ((0,1,1),none)),(2,.inl (((-1),13,1),none)),(3,.inl (((-1),13,1),none)),(4,.inl (((-2147483648),2147483647,1),none)),(5,.inl ((14,14,1),none))],[.inl (((-1),13,1),none)],[((61,4),(0,16383,1),none)]),(0,[0,0]),0)]
set_option maxRecDepth 100000 in
theorem q496_ok : rf_chkB q496_P q496_U wLay q496_M ddX9_closestPair [(1,[0]),(42,[1]),(55,[1])] [.inl 5,.inl 6] [0,15,28,65,68,112,141] 600 q496_N = true := by decide +kernel
set_option maxHeartbeats 4000000 in
theorem q496_met {G : rfG} (h : okG G) : rf_met G q496_M := rf_methodB h.1 (P := q496_P) (U := q496_U) (N := q496_N) ⟨wflT h flokX9, wcsT h csokX9, wlcT h lcokX9, spokX9 h, List.forall_mem_cons.mpr ⟨q495_met h, List.forall_mem_cons.mpr ⟨q493_met h, fun _ h => absurd h List.not_mem_nil⟩⟩, fun _ h => absurd h List.not_mem_nil, List.forall_mem_cons.mpr ⟨fun M hM => Option.some.inj (show some q493_M = some M from hM) ▸ wlkV (lkX9_50 h) q493_M rfl rfl, List.forall_mem_cons.mpr ⟨fun M hM => Option.some.inj (show some q495_M = some M from hM) ▸ wlkV (lkX9_57 h) q495_M rfl rfl, fun _ h => absurd h List.not_mem_nil⟩⟩, fun _ h => absurd h List.not_mem_nil, fun _ h => absurd h List.not_mem_nil⟩ dkX9_closestPair (by decide +kernel) (by rw [h.2.2.1]; exact q496_ok)
/-- NearSpell.closest -/
def q497_M : rfM := ((⟨"NearSpell", "closest", "(I)I"⟩, prog_1_method_26_code, 2, (some .int)), (6,141), ([.inr (.inl [70]),.inl (((-2147483648),2147483647,1),none)],[]), [(17,0),(18,0),(19,0),(20,4),(20,5),(59,0),(61,5)], [(some (.inl (((-2147483648),2147483647,1),none)),[],[])])
def ddX11_closest : List (Nat × Instr × Nat) := [(0,.iload_n 1,1),(1,.ifCond .lt 19,3),(4,.iload_n 1,1),(5,.iconst 2,1),(6,.if_icmp .gt 14,3),(9,.aload_n 0,1),(10,.getfield 35,3),(13,.invokevirtual 183,3),(16,.iconst 2,1),(17,.if_icmp .ge 5,3),(20,.iconst (-1),1),(21,.ireturn,1),(22,.aload_n 0,1),(23,.getfield 83,3),(26,.iload_n 1,1),(27,.invokevirtual 267,3),(30,.ireturn,1)]
set_option maxRecDepth 100000 in
theorem dkX11_closest : rf_decs prog_1_method_26_code ddX11_closest := rf_decs_of (by decide +kernel)
def q497_P : rfP := (flX11,csX11,lcX11,spX11,[q192_M,q496_M],[],[(183,0,8),(267,1,9)],([],[]))
def q497_U : rfU := []
set_option maxHeartbeats 8000000 in
def q497_N : List rfB := [(0,([(0,.inr (.inl [70])),(1,.inl (((-2147483648),2147483647,1),none))],[],[]),(16,[]),0),
  (20,([(0,.inr (.inl [70])),(1,.inl (((-2147483648),2147483647,1),none))],[],[]),(1,[]),0)]
set_option maxRecDepth 100000 in
theorem q497_ok : rf_chkB q497_P q497_U wLay q497_M ddX11_closest [(13,[0]),(27,[1])] [] [0,20] 600 q497_N = true := by decide +kernel
set_option maxHeartbeats 4000000 in
theorem q497_met {G : rfG} (h : okG G) : rf_met G q497_M := rf_methodB h.1 (P := q497_P) (U := q497_U) (N := q497_N) ⟨wflT h flokX11, wcsT h csokX11, wlcT h lcokX11, spokX11 h, List.forall_mem_cons.mpr ⟨q192_met h, List.forall_mem_cons.mpr ⟨q496_met h, fun _ h => absurd h List.not_mem_nil⟩⟩, fun _ h => absurd h List.not_mem_nil, List.forall_mem_cons.mpr ⟨fun M hM => Option.some.inj (show some q192_M = some M from hM) ▸ wlkV (lkX11_183 h) q192_M rfl rfl, List.forall_mem_cons.mpr ⟨fun M hM => Option.some.inj (show some q496_M = some M from hM) ▸ wlkV (lkX11_267 h) q496_M rfl rfl, fun _ h => absurd h List.not_mem_nil⟩⟩, fun _ h => absurd h List.not_mem_nil, fun _ h => absurd h List.not_mem_nil⟩ dkX11_closest (by decide +kernel) (by rw [h.2.2.1]; exact q497_ok)
/-- NearSpell.Web.link -/
def q498_M : rfM := ((⟨"NearSpell$Web", "link", "(I)V"⟩, prog_11_method_4_code, 5, none), (5,114), ([.inr (.inl [61]),.inl ((0,6,1),none)],[]), [(17,0),(18,0),(19,0),(20,4),(20,5),(59,0),(60,0),(61,5)], [(none,[],[((61,4),(0,16383,1),none)])])
def ddX9_link : List (Nat × Instr × Nat) := [(0,.aload_n 0,1),(1,.invokevirtual 57,3),(4,.iconst 0,1),(5,.istore_n 2,1),(6,.iload_n 2,1),(7,.bipush 14,2),(9,.if_icmp .ge 98,3),(12,.aload_n 0,1),(13,.getfield 23,3),(16,.iload_n 2,1),(17,.iconst 0,1),(18,.iastore,1),(19,.iconst 0,1),(20,.istore_n 3,1),(21,.iload_n 3,1),(22,.bipush 14,2),(24,.if_icmp .ge 77,3),(27,.iload_n 3,1),(28,.iload_n 2,1),(29,.if_icmp .eq 31,3),(32,.aload_n 0,1),(33,.aload_n 0,1),(34,.getfield 26,3),(37,.iload_n 2,1),(38,.invokevirtual 50,3),(41,.ifCond .eq 19,3),(44,.aload_n 0,1),(45,.aload_n 0,1),(46,.getfield 26,3),(49,.iload_n 3,1),(50,.invokevirtual 50,3),(53,.ifCond .eq 7,3),(56,.iconst 1,1),(57,.goto 4,3),(60,.iconst 0,1),(61,.istore 4,2),(63,.iload 4,2),(65,.ifCond .eq 30,3),(68,.aload_n 0,1),(69,.getfield 19,3),(72,.iload_n 2,1),(73,.bipush 14,2),(75,.imul,1),(76,.iload_n 3,1),(77,.iadd,1),(78,.iaload,1),(79,.iload_n 1,1),(80,.if_icmp .gt 15,3),(83,.aload_n 0,1),(84,.getfield 23,3),(87,.iload_n 2,1),(88,.dup2,1),(89,.iaload,1),(90,.iconst 1,1),(91,.iload_n 3,1),(92,.ishl,1),(93,.ior,1),(94,.iastore,1),(95,.iinc 3 1,3),(98,.goto (-77),3),(101,.iinc 2 1,3),(104,.goto (-98),3),(107,.return_,1)]
set_option maxRecDepth 100000 in
theorem dkX9_link : rf_decs prog_11_method_4_code ddX9_link := rf_decs_of (by decide +kernel)
def q498_P : rfP := (flX9,csX9,lcX9,spX9,[q495_M,q493_M],[],[(50,1,9),(57,0,9)],([],[]))
def q498_U : rfU := []
set_option maxHeartbeats 8000000 in
def q498_N : List rfB := [(0,([(0,.inr (.inl [61])),(1,.inl ((0,6,1),none))],[],[]),(11449,[0,0]),0),
  (6,([(0,.inr (.inl [61])),(1,.inl ((0,6,1),none)),(2,.inl ((0,14,1),none))],[],[((61,4),(0,16383,1),none)]),(11443,[(-763),0]),0),
  (21,([(0,.inr (.inl [61])),(1,.inl ((0,6,1),none)),(2,.inl ((0,13,1),none)),(3,.inl ((0,14,1),none))],[],[((61,4),(0,16383,1),none)]),(11431,[(-763),(-50)]),0),
  (60,([(0,.inr (.inl [61])),(1,.inl ((0,6,1),none)),(2,.inl ((0,13,1),none)),(3,.inl ((0,13,1),none))],[],[((61,4),(0,16383,1),none)]),(11408,[(-763),(-50)]),0),
  (63,([(0,.inr (.inl [61])),(1,.inl ((0,6,1),none)),(2,.inl ((0,13,1),none)),(3,.inl ((0,13,1),none)),(4,.inl ((0,1,1),none))],[],[((61,4),(0,16383,1),none)]),(11406,[(-763),(-50)]),0),
  (95,([(0,.inr (.inl [61])),(1,.inl ((0,6,1),none)),(2,.inl ((0,13,1),none)),(3,.inl ((0,13,1),none)),(4,.inl ((0,1,1),none))],[],[((61,4),(0,16383,1),none)]),(11384,[(-763),(-50)]),0)]
set_option maxRecDepth 100000 in
theorem q498_ok : rf_chkB q498_P q498_U wLay q498_M ddX9_link [(1,[0]),(38,[1]),(50,[1])] [.inl 2,.inl 3] [0,6,21,60,63,95] 600 q498_N = true := by decide +kernel
set_option maxHeartbeats 4000000 in
theorem q498_met {G : rfG} (h : okG G) : rf_met G q498_M := rf_methodB h.1 (P := q498_P) (U := q498_U) (N := q498_N) ⟨wflT h flokX9, wcsT h csokX9, wlcT h lcokX9, spokX9 h, List.forall_mem_cons.mpr ⟨q495_met h, List.forall_mem_cons.mpr ⟨q493_met h, fun _ h => absurd h List.not_mem_nil⟩⟩, fun _ h => absurd h List.not_mem_nil, List.forall_mem_cons.mpr ⟨fun M hM => Option.some.inj (show some q493_M = some M from hM) ▸ wlkV (lkX9_50 h) q493_M rfl rfl, List.forall_mem_cons.mpr ⟨fun M hM => Option.some.inj (show some q495_M = some M from hM) ▸ wlkV (lkX9_57 h) q495_M rfl rfl, fun _ h => absurd h List.not_mem_nil⟩⟩, fun _ h => absurd h List.not_mem_nil, fun _ h => absurd h List.not_mem_nil⟩ dkX9_link (by decide +kernel) (by rw [h.2.2.1]; exact q498_ok)
/-- NearSpell.Web.stepOn -/
def q499_M : rfM := ((⟨"NearSpell$Web", "stepOn", "(I)I"⟩, prog_11_method_8_code, 4, (some .int)), (1,22), ([.inr (.inl [61]),.inl ((1,1,0),none)],[]), [], [(some (.inl (((-2147483648),2147483647,1),none)),[],[])])
def ddX9_stepOn : List (Nat × Instr × Nat) := [(0,.iload_n 1,1),(1,.istore_n 2,1),(2,.iconst 0,1),(3,.istore_n 3,1),(4,.iload_n 3,1),(5,.bipush 14,2),(7,.if_icmp .ge 27,3),(10,.aload_n 0,1),(11,.iload_n 1,1),(12,.iload_n 3,1),(13,.invokevirtual 50,3),(16,.ifCond .eq 12,3),(19,.iload_n 2,1),(20,.aload_n 0,1),(21,.getfield 23,3),(24,.iload_n 3,1),(25,.iaload,1),(26,.ior,1),(27,.istore_n 2,1),(28,.iinc 3 1,3),(31,.goto (-27),3),(34,.iload_n 2,1),(35,.ireturn,1)]
set_option maxRecDepth 100000 in
theorem dkX9_stepOn : rf_decs prog_11_method_8_code ddX9_stepOn := rf_decs_of (by decide +kernel)
def q499_P : rfP := (flX9,csX9,lcX9,spX9,[q493_M],[],[(50,0,9)],([],[]))
def q499_U : rfU := []
set_option maxHeartbeats 8000000 in
def q499_N : List rfB := [(0,([(0,.inr (.inl [61])),(1,.inl ((1,1,0),none))],[],[]),(290,[0]),0),
  (4,([(0,.inr (.inl [61])),(1,.inl ((1,1,0),none)),(2,.inl (((-2147483648),2147483647,1),none)),(3,.inl ((0,14,1),none))],[],[]),(284,[(-19)]),0),
  (28,([(0,.inr (.inl [61])),(1,.inl ((1,1,0),none)),(2,.inl (((-2147483648),2147483647,1),none)),(3,.inl ((0,13,1),none))],[],[]),(268,[(-19)]),0)]
set_option maxRecDepth 100000 in
theorem q499_ok : rf_chkB q499_P q499_U wLay q499_M ddX9_stepOn [(13,[0])] [.inl 3] [0,4,28] 600 q499_N = true := by decide +kernel
set_option maxHeartbeats 4000000 in
theorem q499_met {G : rfG} (h : okG G) : rf_met G q499_M := rf_methodB h.1 (P := q499_P) (U := q499_U) (N := q499_N) ⟨wflT h flokX9, wcsT h csokX9, wlcT h lcokX9, spokX9 h, List.forall_mem_cons.mpr ⟨q493_met h, fun _ h => absurd h List.not_mem_nil⟩, fun _ h => absurd h List.not_mem_nil, List.forall_mem_cons.mpr ⟨fun M hM => Option.some.inj (show some q493_M = some M from hM) ▸ wlkV (lkX9_50 h) q493_M rfl rfl, fun _ h => absurd h List.not_mem_nil⟩, fun _ h => absurd h List.not_mem_nil, fun _ h => absurd h List.not_mem_nil⟩ dkX9_stepOn (by decide +kernel) (by rw [h.2.2.1]; exact q499_ok)
