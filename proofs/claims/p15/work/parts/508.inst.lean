/-- NearSpell.redo -/
def q400_M : rfM := ((⟨"NearSpell", "redo", "()Z"⟩, prog_1_method_13_code, 1, (some .boolean)), (3,62), ([.inr (.inl [70])],[((16,4),(0,2,1),none),((16,5),(38,38,0),none)]), [(12,0),(16,5),(16,6)], [(some (.inl ((1,1,0),none)),[],[((16,4),(1,3,1),some ((16,4),1,1)),((16,5),(37,37,0),some ((16,5),(-1),(-1)))])])
def q400_P : rfP := (flX11,csX11,lcX11,spX11,[q399_M],[],[(208,0,0)],([],[]))
def q400_U : rfU := []
set_option maxHeartbeats 8000000 in
def q400_N : List rfB := [(0,([(0,.inr (.inl [70]))],[],[((16,4),(0,2,1),some ((16,4),0,0)),((16,5),(38,38,0),some ((16,5),0,0))]),(5,[]),0)]
set_option maxRecDepth 100000 in
theorem q400_ok : rf_chkB q400_P q400_U wLay q400_M ddX11_redo [(8,[0])] [] [0] 600 q400_N = true := by decide +kernel
set_option maxHeartbeats 4000000 in
theorem q400_met {G : rfG} (h : okG G) : rf_met G q400_M := rf_methodB h.1 (P := q400_P) (U := q400_U) (N := q400_N) ⟨wflT h flokX11, wcsT h csokX11, wlcT h lcokX11, spokX11 h, List.forall_mem_cons.mpr ⟨q399_met h, fun _ h => absurd h List.not_mem_nil⟩, fun _ h => absurd h List.not_mem_nil, List.forall_mem_cons.mpr ⟨fun M hM => Option.some.inj (show some q399_M = some M from hM) ▸ wlkV (lkX11_208 h) q399_M rfl rfl, fun _ h => absurd h List.not_mem_nil⟩, fun _ h => absurd h List.not_mem_nil, fun _ h => absurd h List.not_mem_nil⟩ dkX11_redo (by decide +kernel) (by rw [h.2.2.1]; exact q400_ok)
/-- NearSpell.Archive.doAgain -/
def q401_M : rfM := ((⟨"NearSpell$Archive", "doAgain", "(LNearSpell$State;)Z"⟩, prog_2_method_5_code, 2, (some .boolean)), (2,41), ([.inr (.inl [16]),.inr (.inl [13])],[((16,4),(0,1,1),none),((16,5),(39,39,0),none)]), [(12,0),(16,5),(16,6)], [(some (.inl ((1,1,0),none)),[],[((16,4),(1,2,1),some ((16,4),1,1)),((16,5),(38,38,0),some ((16,5),(-1),(-1)))])])
def q401_P : rfP := (flX0,csX0,lcX0,spX0,[q240_M],[],[(37,0,0)],([],[]))
def q401_U : rfU := []
set_option maxHeartbeats 8000000 in
def q401_N : List rfB := [(0,([(0,.inr (.inl [16])),(1,.inr (.inl [13]))],[],[((16,4),(0,1,1),some ((16,4),0,0)),((16,5),(39,39,0),some ((16,5),0,0))]),(19,[]),0)]
set_option maxRecDepth 100000 in
theorem q401_ok : rf_chkB q401_P q401_U wLay q401_M ddX0_doAgain [(31,[0])] [] [0] 600 q401_N = true := by decide +kernel
set_option maxHeartbeats 4000000 in
theorem q401_met {G : rfG} (h : okG G) : rf_met G q401_M := rf_methodB h.1 (P := q401_P) (U := q401_U) (N := q401_N) ⟨wflT h flokX0, wcsT h csokX0, wlcT h lcokX0, spokX0 h, List.forall_mem_cons.mpr ⟨q240_met h, fun _ h => absurd h List.not_mem_nil⟩, fun _ h => absurd h List.not_mem_nil, List.forall_mem_cons.mpr ⟨fun M hM => Option.some.inj (show some q240_M = some M from hM) ▸ wlkV (lkX0_37 h) q240_M rfl rfl, fun _ h => absurd h List.not_mem_nil⟩, fun _ h => absurd h List.not_mem_nil, fun _ h => absurd h List.not_mem_nil⟩ dkX0_doAgain (by decide +kernel) (by rw [h.2.2.1]; exact q401_ok)
/-- NearSpell.redo -/
def q402_M : rfM := ((⟨"NearSpell", "redo", "()Z"⟩, prog_1_method_13_code, 1, (some .boolean)), (3,62), ([.inr (.inl [70])],[((16,4),(0,1,1),none),((16,5),(39,39,0),none)]), [(12,0),(16,5),(16,6)], [(some (.inl ((1,1,0),none)),[],[((16,4),(1,2,1),some ((16,4),1,1)),((16,5),(38,38,0),some ((16,5),(-1),(-1)))])])
def q402_P : rfP := (flX11,csX11,lcX11,spX11,[q401_M],[],[(208,0,0)],([],[]))
def q402_U : rfU := []
set_option maxHeartbeats 8000000 in
def q402_N : List rfB := [(0,([(0,.inr (.inl [70]))],[],[((16,4),(0,1,1),some ((16,4),0,0)),((16,5),(39,39,0),some ((16,5),0,0))]),(5,[]),0)]
set_option maxRecDepth 100000 in
theorem q402_ok : rf_chkB q402_P q402_U wLay q402_M ddX11_redo [(8,[0])] [] [0] 600 q402_N = true := by decide +kernel
set_option maxHeartbeats 4000000 in
theorem q402_met {G : rfG} (h : okG G) : rf_met G q402_M := rf_methodB h.1 (P := q402_P) (U := q402_U) (N := q402_N) ⟨wflT h flokX11, wcsT h csokX11, wlcT h lcokX11, spokX11 h, List.forall_mem_cons.mpr ⟨q401_met h, fun _ h => absurd h List.not_mem_nil⟩, fun _ h => absurd h List.not_mem_nil, List.forall_mem_cons.mpr ⟨fun M hM => Option.some.inj (show some q401_M = some M from hM) ▸ wlkV (lkX11_208 h) q401_M rfl rfl, fun _ h => absurd h List.not_mem_nil⟩, fun _ h => absurd h List.not_mem_nil, fun _ h => absurd h List.not_mem_nil⟩ dkX11_redo (by decide +kernel) (by rw [h.2.2.1]; exact q402_ok)
/-- NearSpell.Archive.doAgain -/
def q403_M : rfM := ((⟨"NearSpell$Archive", "doAgain", "(LNearSpell$State;)Z"⟩, prog_2_method_5_code, 2, (some .boolean)), (2,41), ([.inr (.inl [16]),.inr (.inl [13])],[((16,4),(0,0,0),none),((16,5),(40,40,0),none)]), [(12,0),(16,5),(16,6)], [(some (.inl ((1,1,0),none)),[],[((16,4),(1,1,0),some ((16,4),1,1)),((16,5),(39,39,0),some ((16,5),(-1),(-1)))])])
def q403_P : rfP := (flX0,csX0,lcX0,spX0,[q240_M],[],[(37,0,0)],([],[]))
def q403_U : rfU := []
set_option maxHeartbeats 8000000 in
def q403_N : List rfB := [(0,([(0,.inr (.inl [16])),(1,.inr (.inl [13]))],[],[((16,4),(0,0,0),some ((16,4),0,0)),((16,5),(40,40,0),some ((16,5),0,0))]),(19,[]),0)]
set_option maxRecDepth 100000 in
theorem q403_ok : rf_chkB q403_P q403_U wLay q403_M ddX0_doAgain [(31,[0])] [] [0] 600 q403_N = true := by decide +kernel
set_option maxHeartbeats 4000000 in
theorem q403_met {G : rfG} (h : okG G) : rf_met G q403_M := rf_methodB h.1 (P := q403_P) (U := q403_U) (N := q403_N) ⟨wflT h flokX0, wcsT h csokX0, wlcT h lcokX0, spokX0 h, List.forall_mem_cons.mpr ⟨q240_met h, fun _ h => absurd h List.not_mem_nil⟩, fun _ h => absurd h List.not_mem_nil, List.forall_mem_cons.mpr ⟨fun M hM => Option.some.inj (show some q240_M = some M from hM) ▸ wlkV (lkX0_37 h) q240_M rfl rfl, fun _ h => absurd h List.not_mem_nil⟩, fun _ h => absurd h List.not_mem_nil, fun _ h => absurd h List.not_mem_nil⟩ dkX0_doAgain (by decide +kernel) (by rw [h.2.2.1]; exact q403_ok)
/-- NearSpell.redo -/
def q404_M : rfM := ((⟨"NearSpell", "redo", "()Z"⟩, prog_1_method_13_code, 1, (some .boolean)), (3,62), ([.inr (.inl [70])],[((16,4),(0,0,0),none),((16,5),(40,40,0),none)]), [(12,0),(16,5),(16,6)], [(some (.inl ((1,1,0),none)),[],[((16,4),(1,1,0),some ((16,4),1,1)),((16,5),(39,39,0),some ((16,5),(-1),(-1)))])])
def q404_P : rfP := (flX11,csX11,lcX11,spX11,[q403_M],[],[(208,0,0)],([],[]))
def q404_U : rfU := []
set_option maxHeartbeats 8000000 in
def q404_N : List rfB := [(0,([(0,.inr (.inl [70]))],[],[((16,4),(0,0,0),some ((16,4),0,0)),((16,5),(40,40,0),some ((16,5),0,0))]),(5,[]),0)]
set_option maxRecDepth 100000 in
theorem q404_ok : rf_chkB q404_P q404_U wLay q404_M ddX11_redo [(8,[0])] [] [0] 600 q404_N = true := by decide +kernel
set_option maxHeartbeats 4000000 in
theorem q404_met {G : rfG} (h : okG G) : rf_met G q404_M := rf_methodB h.1 (P := q404_P) (U := q404_U) (N := q404_N) ⟨wflT h flokX11, wcsT h csokX11, wlcT h lcokX11, spokX11 h, List.forall_mem_cons.mpr ⟨q403_met h, fun _ h => absurd h List.not_mem_nil⟩, fun _ h => absurd h List.not_mem_nil, List.forall_mem_cons.mpr ⟨fun M hM => Option.some.inj (show some q403_M = some M from hM) ▸ wlkV (lkX11_208 h) q403_M rfl rfl, fun _ h => absurd h List.not_mem_nil⟩, fun _ h => absurd h List.not_mem_nil, fun _ h => absurd h List.not_mem_nil⟩ dkX11_redo (by decide +kernel) (by rw [h.2.2.1]; exact q404_ok)
/-- NearSpell.State.typedAt -/
def q405_M : rfM := ((⟨"NearSpell$State", "typedAt", "(I)I"⟩, prog_10_method_9_code, 2, (some .int)), (0,0), ([.inr (.inl [13]),.inl ((0,5,1),none)],[]), [], [(some (.inl (((-2147483648),2147483647,1),none)),[],[])])
def ddX8_typedAt : List (Nat × Instr × Nat) := [(0,.iload_n 1,1),(1,.ifCond .lt 21,3),(4,.iload_n 1,1),(5,.bipush 6,2),(7,.if_icmp .ge 15,3),(10,.aload_n 0,1),(11,.getfield 11,3),(14,.bipush 28,2),(16,.iload_n 1,1),(17,.iadd,1),(18,.iaload,1),(19,.goto 4,3),(22,.iconst 0,1),(23,.ireturn,1)]
set_option maxRecDepth 100000 in
theorem dkX8_typedAt : rf_decs prog_10_method_9_code ddX8_typedAt := rf_decs_of (by decide +kernel)
def q405_P : rfP := (flX8,csX8,lcX8,spX8,[],[],[],([],[]))
def q405_U : rfU := []
set_option maxHeartbeats 8000000 in
def q405_N : List rfB := [(0,([(0,.inr (.inl [13])),(1,.inl ((0,5,1),none))],[],[]),(12,[]),0)]
set_option maxRecDepth 100000 in
theorem q405_ok : rf_chkB q405_P q405_U wLay q405_M ddX8_typedAt [] [] [0] 600 q405_N = true := by decide +kernel
set_option maxHeartbeats 4000000 in
theorem q405_met {G : rfG} (h : okG G) : rf_met G q405_M := rf_methodB h.1 (P := q405_P) (U := q405_U) (N := q405_N) ⟨wflT h flokX8, wcsT h csokX8, wlcT h lcokX8, spokX8 h, fun _ h => absurd h List.not_mem_nil, fun _ h => absurd h List.not_mem_nil, fun _ h => absurd h List.not_mem_nil, fun _ h => absurd h List.not_mem_nil, fun _ h => absurd h List.not_mem_nil⟩ dkX8_typedAt (by decide +kernel) (by rw [h.2.2.1]; exact q405_ok)
/-- NearSpell.typed -/
def q406_M : rfM := ((⟨"NearSpell", "typed", "(I)I"⟩, prog_1_method_14_code, 2, (some .int)), (1,21), ([.inr (.inl [70]),.inl (((-2147483648),2147483647,1),none)],[]), [], [(some (.inl (((-2147483648),2147483647,1),none)),[],[])])
def ddX11_typed : List (Nat × Instr × Nat) := [(0,.iload_n 1,1),(1,.ifCond .lt 25,3),(4,.iload_n 1,1),(5,.aload_n 0,1),(6,.getfield 35,3),(9,.invokevirtual 189,3),(12,.if_icmp .ge 14,3),(15,.aload_n 0,1),(16,.getfield 35,3),(19,.iload_n 1,1),(20,.invokevirtual 211,3),(23,.goto 4,3),(26,.iconst (-1),1),(27,.ireturn,1)]
set_option maxRecDepth 100000 in
theorem dkX11_typed : rf_decs prog_1_method_14_code ddX11_typed := rf_decs_of (by decide +kernel)
def q406_P : rfP := (flX11,csX11,lcX11,spX11,[q196_M,q405_M],[],[(189,0,8),(211,1,8)],([],[]))
def q406_U : rfU := []
set_option maxHeartbeats 8000000 in
def q406_N : List rfB := [(0,([(0,.inr (.inl [70])),(1,.inl (((-2147483648),2147483647,1),none))],[],[]),(14,[]),0),
  (26,([(0,.inr (.inl [70])),(1,.inl (((-2147483648),2147483647,1),none))],[],[]),(1,[]),0)]
set_option maxRecDepth 100000 in
theorem q406_ok : rf_chkB q406_P q406_U wLay q406_M ddX11_typed [(9,[0]),(20,[1])] [] [0,26] 600 q406_N = true := by decide +kernel
set_option maxHeartbeats 4000000 in
theorem q406_met {G : rfG} (h : okG G) : rf_met G q406_M := rf_methodB h.1 (P := q406_P) (U := q406_U) (N := q406_N) ⟨wflT h flokX11, wcsT h csokX11, wlcT h lcokX11, spokX11 h, List.forall_mem_cons.mpr ⟨q196_met h, List.forall_mem_cons.mpr ⟨q405_met h, fun _ h => absurd h List.not_mem_nil⟩⟩, fun _ h => absurd h List.not_mem_nil, List.forall_mem_cons.mpr ⟨fun M hM => Option.some.inj (show some q196_M = some M from hM) ▸ wlkV (lkX11_189 h) q196_M rfl rfl, List.forall_mem_cons.mpr ⟨fun M hM => Option.some.inj (show some q405_M = some M from hM) ▸ wlkV (lkX11_211 h) q405_M rfl rfl, fun _ h => absurd h List.not_mem_nil⟩⟩, fun _ h => absurd h List.not_mem_nil, fun _ h => absurd h List.not_mem_nil⟩ dkX11_typed (by decide +kernel) (by rw [h.2.2.1]; exact q406_ok)
/-- NearSpell.Ruler.putLetters -/
def q407_M : rfM := ((⟨"NearSpell$Ruler", "putLetters", "(I[II)I"⟩, prog_9_method_8_code, 6, (some .int)), (1,21), ([.inl ((0,387420488,1),none),.inr (.inl [18]),.inl ((0,0,0),none)],[]), [(18,0)], [(some (.inl ((0,6,1),none)),[],[])])
def q407_P : rfP := (flX7,csX7,lcX7,spX7,[q198_M],[(55,0)],[],([],[]))
def q407_U : rfU := []
set_option maxHeartbeats 8000000 in
def q407_N : List rfB := [(0,([(0,.inl ((0,387420488,1),none)),(1,.inr (.inl [18])),(2,.inl ((0,0,0),none))],[],[]),(128,[0]),0),
  (23,([(0,.inl ((0,387420488,1),none)),(1,.inr (.inl [18])),(2,.inl ((0,0,0),none)),(3,.inl ((0,6,1),none)),(4,.inl ((0,387420488,1),none)),(5,.inl (((-1),5,1),none))],[],[]),(31,[16]),0)]
set_option maxRecDepth 100000 in
theorem q407_ok : rf_chkB q407_P q407_U wLay q407_M ddX7_putLetters [(2,[0])] [.inl 5] [0,23] 600 q407_N = true := by decide +kernel
set_option maxHeartbeats 4000000 in
theorem q407_met {G : rfG} (h : okG G) : rf_met G q407_M := rf_methodB h.1 (P := q407_P) (U := q407_U) (N := q407_N) ⟨wflT h flokX7, wcsT h csokX7, wlcT h lcokX7, spokX7 h, List.forall_mem_cons.mpr ⟨q198_met h, fun _ h => absurd h List.not_mem_nil⟩, List.forall_mem_cons.mpr ⟨fun M hM => Option.some.inj (show some q198_M = some M from hM) ▸ wlkS (lkX7_55 h) q198_M rfl rfl, fun _ h => absurd h List.not_mem_nil⟩, fun _ h => absurd h List.not_mem_nil, fun _ h => absurd h List.not_mem_nil, fun _ h => absurd h List.not_mem_nil⟩ dkX7_putLetters (by decide +kernel) (by rw [h.2.2.1]; exact q407_ok)
/-- NearSpell.Ruler.toLonger -/
def q408_M : rfM := ((⟨"NearSpell$Ruler", "toLonger", "(II)I"⟩, prog_9_method_7_code, 5, (some .int)), (2,46), ([.inr (.inl [20]),.inl ((0,0,0),none),.inl ((0,387420488,1),none)],[]), [(18,0),(19,0),(20,5)], [(some (.inl (((-2147483648),2147483647,1),none)),[],[((20,4),(0,6,1),none)])])
def q408_P : rfP := (flX7,csX7,lcX7,spX7,[q407_M,q206_M],[(36,0)],[(52,1,7)],([],[(44,1),(49,0)]))
def q408_U : rfU := []
set_option maxHeartbeats 8000000 in
def q408_N : List rfB := [(0,([(0,.inr (.inl [20])),(1,.inl ((0,0,0),none)),(2,.inl ((0,387420488,1),none))],[],[]),(138,[0]),0),
  (31,([(0,.inr (.inl [20])),(1,.inl ((0,0,0),none)),(2,.inl ((0,387420488,1),none)),(3,.inl ((0,0,1),none)),(4,.inl ((1,11,1),none))],[],[((20,4),(0,6,1),none)]),(128,[(-10)]),0)]
set_option maxRecDepth 100000 in
theorem q408_ok : rf_chkB q408_P q408_U wLay q408_M ddX7_toLonger [(20,[0]),(43,[1])] [.inl 4] [0,31] 600 q408_N = true := by decide +kernel
set_option maxHeartbeats 4000000 in
theorem q408_met {G : rfG} (h : okG G) : rf_met G q408_M := rf_methodB h.1 (P := q408_P) (U := q408_U) (N := q408_N) ⟨wflT h flokX7, wcsT h csokX7, wlcT h lcokX7, spokX7 h, List.forall_mem_cons.mpr ⟨q407_met h, List.forall_mem_cons.mpr ⟨q206_met h, fun _ h => absurd h List.not_mem_nil⟩⟩, List.forall_mem_cons.mpr ⟨fun M hM => Option.some.inj (show some q407_M = some M from hM) ▸ wlkS (lkX7_36 h) q407_M rfl rfl, fun _ h => absurd h List.not_mem_nil⟩, List.forall_mem_cons.mpr ⟨fun M hM => Option.some.inj (show some q206_M = some M from hM) ▸ wlkV (lkX7_52 h) q206_M rfl rfl, fun _ h => absurd h List.not_mem_nil⟩, fun _ h => absurd h List.not_mem_nil, List.forall_mem_cons.mpr ⟨⟨wmT h (wm130), fun h => absurd h (by decide), fun _ => ⟨wmT h (wm919), wmT h (wm557), wmT h (wm558)⟩, fun h => absurd h (by decide)⟩, List.forall_mem_cons.mpr ⟨⟨wmT h (wm130), fun _ => ⟨wmT h (wm920), wmT h (wm652), wmT h (wm653)⟩, fun h => absurd h (by decide), fun h => absurd h (by decide)⟩, fun _ h => absurd h List.not_mem_nil⟩⟩⟩ dkX7_toLonger (by decide +kernel) (by rw [h.2.2.1]; exact q408_ok)
/-- NearSpell.Ruler.to -/
def q409_M : rfM := ((⟨"NearSpell$Ruler", "to", "(I)I"⟩, prog_9_method_5_code, 2, (some .int)), (3,70), ([.inr (.inl [20]),.inl ((0,387420488,1),none)],[]), [(18,0),(19,0),(20,5)], [(some (.inl (((-2147483648),2147483647,1),none)),[],[((20,4),(0,6,1),none)])])
def q409_P : rfP := (flX7,csX7,lcX7,spX7,[q408_M],[],[(40,0,7)],([],[]))
def q409_U : rfU := []
set_option maxHeartbeats 8000000 in
def q409_N : List rfB := [(0,([(0,.inr (.inl [20])),(1,.inl ((0,387420488,1),none))],[],[]),(4,[]),0)]
set_option maxRecDepth 100000 in
theorem q409_ok : rf_chkB q409_P q409_U wLay q409_M ddX7_to [(3,[0])] [] [0] 600 q409_N = true := by decide +kernel
set_option maxHeartbeats 4000000 in
theorem q409_met {G : rfG} (h : okG G) : rf_met G q409_M := rf_methodB h.1 (P := q409_P) (U := q409_U) (N := q409_N) ⟨wflT h flokX7, wcsT h csokX7, wlcT h lcokX7, spokX7 h, List.forall_mem_cons.mpr ⟨q408_met h, fun _ h => absurd h List.not_mem_nil⟩, fun _ h => absurd h List.not_mem_nil, List.forall_mem_cons.mpr ⟨fun M hM => Option.some.inj (show some q408_M = some M from hM) ▸ wlkV (lkX7_40 h) q408_M rfl rfl, fun _ h => absurd h List.not_mem_nil⟩, fun _ h => absurd h List.not_mem_nil, fun _ h => absurd h List.not_mem_nil⟩ dkX7_to (by decide +kernel) (by rw [h.2.2.1]; exact q409_ok)
/-- NearSpell.Ruler.between -/
def q410_M : rfM := ((⟨"NearSpell$Ruler", "between", "(II)I"⟩, prog_9_method_2_code, 3, (some .int)), (4,91), ([.inr (.inl [20]),.inl ((0,387420488,1),none),.inl ((0,387420488,1),none)],[]), [(17,0),(18,0),(19,0),(20,4),(20,5)], [(some (.inl (((-2147483648),2147483647,1),none)),[],[((20,3),(0,6,1),none),((20,4),(0,6,1),none)])])
def ddX7_between : List (Nat × Instr × Nat) := [(0,.aload_n 0,1),(1,.iload_n 1,1),(2,.invokevirtual 28,3),(5,.aload_n 0,1),(6,.iload_n 2,1),(7,.invokevirtual 32,3),(10,.ireturn,1)]
set_option maxRecDepth 100000 in
theorem dkX7_between : rf_decs prog_9_method_2_code ddX7_between := rf_decs_of (by decide +kernel)
def q410_P : rfP := (flX7,csX7,lcX7,spX7,[q200_M,q409_M],[],[(28,0,7),(32,1,7)],([],[]))
def q410_U : rfU := []
set_option maxHeartbeats 8000000 in
def q410_N : List rfB := [(0,([(0,.inr (.inl [20])),(1,.inl ((0,387420488,1),none)),(2,.inl ((0,387420488,1),none))],[],[]),(6,[]),0)]
set_option maxRecDepth 100000 in
theorem q410_ok : rf_chkB q410_P q410_U wLay q410_M ddX7_between [(2,[0]),(7,[1])] [] [0] 600 q410_N = true := by decide +kernel
set_option maxHeartbeats 4000000 in
theorem q410_met {G : rfG} (h : okG G) : rf_met G q410_M := rf_methodB h.1 (P := q410_P) (U := q410_U) (N := q410_N) ⟨wflT h flokX7, wcsT h csokX7, wlcT h lcokX7, spokX7 h, List.forall_mem_cons.mpr ⟨q200_met h, List.forall_mem_cons.mpr ⟨q409_met h, fun _ h => absurd h List.not_mem_nil⟩⟩, fun _ h => absurd h List.not_mem_nil, List.forall_mem_cons.mpr ⟨fun M hM => Option.some.inj (show some q200_M = some M from hM) ▸ wlkV (lkX7_28 h) q200_M rfl rfl, List.forall_mem_cons.mpr ⟨fun M hM => Option.some.inj (show some q409_M = some M from hM) ▸ wlkV (lkX7_32 h) q409_M rfl rfl, fun _ h => absurd h List.not_mem_nil⟩⟩, fun _ h => absurd h List.not_mem_nil, fun _ h => absurd h List.not_mem_nil⟩ dkX7_between (by decide +kernel) (by rw [h.2.2.1]; exact q410_ok)
/-- NearSpell.distance -/
def q411_M : rfM := ((⟨"NearSpell", "distance", "(II)I"⟩, prog_1_method_15_code, 3, (some .int)), (5,113), ([.inr (.inl [70]),.inl (((-2147483648),2147483647,1),none),.inl (((-2147483648),2147483647,1),none)],[]), [(17,0),(18,0),(19,0),(20,4),(20,5)], [(some (.inl (((-2147483648),2147483647,1),none)),[],[])])
def ddX11_distance : List (Nat × Instr × Nat) := [(0,.iload_n 1,1),(1,.invokestatic 163,3),(4,.ifCond .eq 10,3),(7,.iload_n 2,1),(8,.invokestatic 163,3),(11,.ifCond .ne 5,3),(14,.iconst (-1),1),(15,.ireturn,1),(16,.aload_n 0,1),(17,.getfield 49,3),(20,.iload_n 1,1),(21,.iload_n 2,1),(22,.invokevirtual 214,3),(25,.ireturn,1)]
set_option maxRecDepth 100000 in
theorem dkX11_distance : rf_decs prog_1_method_15_code ddX11_distance := rf_decs_of (by decide +kernel)
def q411_P : rfP := (flX11,csX11,lcX11,spX11,[q170_M,q410_M],[(163,0)],[(214,1,7)],([],[]))
def q411_U : rfU := []
set_option maxHeartbeats 8000000 in
def q411_N : List rfB := [(0,([(0,.inr (.inl [70])),(1,.inl (((-2147483648),2147483647,1),none)),(2,.inl (((-2147483648),2147483647,1),none))],[],[]),(15,[]),0),
  (14,([(0,.inr (.inl [70])),(1,.inl (((-2147483648),2147483647,1),none)),(2,.inl (((-2147483648),2147483647,1),none))],[],[]),(1,[]),0)]
set_option maxRecDepth 100000 in
theorem q411_ok : rf_chkB q411_P q411_U wLay q411_M ddX11_distance [(1,[0]),(8,[0]),(22,[1])] [] [0,14] 600 q411_N = true := by decide +kernel
set_option maxHeartbeats 4000000 in
theorem q411_met {G : rfG} (h : okG G) : rf_met G q411_M := rf_methodB h.1 (P := q411_P) (U := q411_U) (N := q411_N) ⟨wflT h flokX11, wcsT h csokX11, wlcT h lcokX11, spokX11 h, List.forall_mem_cons.mpr ⟨q170_met h, List.forall_mem_cons.mpr ⟨q410_met h, fun _ h => absurd h List.not_mem_nil⟩⟩, List.forall_mem_cons.mpr ⟨fun M hM => Option.some.inj (show some q170_M = some M from hM) ▸ wlkS (lkX11_163 h) q170_M rfl rfl, fun _ h => absurd h List.not_mem_nil⟩, List.forall_mem_cons.mpr ⟨fun M hM => Option.some.inj (show some q410_M = some M from hM) ▸ wlkV (lkX11_214 h) q410_M rfl rfl, fun _ h => absurd h List.not_mem_nil⟩, fun _ h => absurd h List.not_mem_nil, fun _ h => absurd h List.not_mem_nil⟩ dkX11_distance (by decide +kernel) (by rw [h.2.2.1]; exact q411_ok)
/-- NearSpell.forms -/
def q412_M : rfM := ((⟨"NearSpell", "forms", "(I)I"⟩, prog_1_method_16_code, 4, (some .int)), (4,93), ([.inr (.inl [70]),.inl (((-2147483648),2147483647,1),none)],[]), [(49,0),(50,2),(50,3),(50,4),(50,5),(69,0),(70,15)], [(some (.inl (((-1),22,1),none)),[],[])])
def ddX11_forms : List (Nat × Instr × Nat) := [(0,.aload_n 0,1),(1,.iconst 0,1),(2,.putfield 104,3),(5,.iload_n 1,1),(6,.invokestatic 163,3),(9,.ifCond .ne 5,3),(12,.iconst (-1),1),(13,.ireturn,1),(14,.aload_n 0,1),(15,.getfield 58,3),(18,.iload_n 1,1),(19,.invokevirtual 217,3),(22,.astore_n 2,1),(23,.iconst 0,1),(24,.istore_n 3,1),(25,.iload_n 3,1),(26,.aload_n 2,1),(27,.getfield 158,3),(30,.if_icmp .ge 30,3),(33,.iload_n 3,1),(34,.aload_n 0,1),(35,.getfield 96,3),(38,.arraylength,1),(39,.if_icmp .ge 21,3),(42,.aload_n 0,1),(43,.getfield 96,3),(46,.iload_n 3,1),(47,.aload_n 2,1),(48,.getfield 220,3),(51,.iload_n 3,1),(52,.iaload,1),(53,.iastore,1),(54,.iinc 3 1,3),(57,.goto (-32),3),(60,.aload_n 0,1),(61,.aload_n 2,1),(62,.getfield 158,3),(65,.putfield 104,3),(68,.aload_n 0,1),(69,.getfield 104,3),(72,.ireturn,1)]
set_option maxRecDepth 100000 in
theorem dkX11_forms : rf_decs prog_1_method_16_code ddX11_forms := rf_decs_of (by decide +kernel)
def q412_P : rfP := (flX11,csX11,lcX11,spX11,[q170_M,q215_M],[(163,0)],[(217,1,4)],([],[]))
def q412_U : rfU := []
set_option maxHeartbeats 8000000 in
def q412_N : List rfB := [(0,([(0,.inr (.inl [70])),(1,.inl (((-2147483648),2147483647,1),none))],[],[]),(482,[0]),0),
  (25,([(0,.inr (.inl [70])),(1,.inl ((0,387420488,1),none)),(2,.inr (.inl [50])),(3,.inl ((0,22,1),none))],[],[((50,2),(0,387420488,1),none),((50,3),(1,6,1),none),((50,4),(0,2,1),none),((70,14),(0,0,0),none)]),(467,[(-20)]),0)]
set_option maxRecDepth 100000 in
theorem q412_ok : rf_chkB q412_P q412_U wLay q412_M ddX11_forms [(6,[0]),(19,[1])] [.inl 3] [0,25] 600 q412_N = true := by decide +kernel
set_option maxHeartbeats 4000000 in
theorem q412_met {G : rfG} (h : okG G) : rf_met G q412_M := rf_methodB h.1 (P := q412_P) (U := q412_U) (N := q412_N) ⟨wflT h flokX11, wcsT h csokX11, wlcT h lcokX11, spokX11 h, List.forall_mem_cons.mpr ⟨q170_met h, List.forall_mem_cons.mpr ⟨q215_met h, fun _ h => absurd h List.not_mem_nil⟩⟩, List.forall_mem_cons.mpr ⟨fun M hM => Option.some.inj (show some q170_M = some M from hM) ▸ wlkS (lkX11_163 h) q170_M rfl rfl, fun _ h => absurd h List.not_mem_nil⟩, List.forall_mem_cons.mpr ⟨fun M hM => Option.some.inj (show some q215_M = some M from hM) ▸ wlkV (lkX11_217 h) q215_M rfl rfl, fun _ h => absurd h List.not_mem_nil⟩, fun _ h => absurd h List.not_mem_nil, fun _ h => absurd h List.not_mem_nil⟩ dkX11_forms (by decide +kernel) (by rw [h.2.2.1]; exact q412_ok)
/-- NearSpell.totalOf -/
def q413_M : rfM := ((⟨"NearSpell", "totalOf", "(I)I"⟩, prog_1_method_54_code, 4, (some .int)), (0,0), ([.inl ((0,387420488,1),none)],[]), [], [(some (.inl (((-2147483648),2147483647,1),none)),[],[])])
def ddX11_totalOf : List (Nat × Instr × Nat) := [(0,.iconst 0,1),(1,.istore_n 1,1),(2,.iload_n 0,1),(3,.istore_n 2,1),(4,.iconst 0,1),(5,.istore_n 3,1),(6,.iload_n 3,1),(7,.bipush 6,2),(9,.if_icmp .ge 25,3),(12,.iload_n 2,1),(13,.ifCond .eq 21,3),(16,.iload_n 1,1),(17,.iload_n 2,1),(18,.bipush 27,2),(20,.irem,1),(21,.iadd,1),(22,.istore_n 1,1),(23,.iload_n 2,1),(24,.bipush 27,2),(26,.idiv,1),(27,.istore_n 2,1),(28,.iinc 3 1,3),(31,.goto (-25),3),(34,.iload_n 1,1),(35,.ireturn,1)]
set_option maxRecDepth 100000 in
theorem dkX11_totalOf : rf_decs prog_1_method_54_code ddX11_totalOf := rf_decs_of (by decide +kernel)
def q413_P : rfP := (flX11,csX11,lcX11,spX11,[],[],[],([],[]))
def q413_U : rfU := []
set_option maxHeartbeats 8000000 in
def q413_N : List rfB := [(0,([(0,.inl ((0,387420488,1),none))],[],[]),(6973568809,[0]),0),
  (6,([(0,.inl ((0,387420488,1),none)),(1,.inl (((-2147483648),2147483647,1),none)),(2,.inl ((0,387420488,1),none)),(3,.inl ((0,6,1),none))],[],[]),(16,[18]),0),
  (34,([(0,.inl ((0,387420488,1),none)),(1,.inl (((-2147483648),2147483647,1),none)),(2,.inl ((0,387420488,1),none)),(3,.inl ((0,6,1),none))],[],[]),(1,[0]),0)]
set_option maxRecDepth 100000 in
theorem q413_ok : rf_chkB q413_P q413_U wLay q413_M ddX11_totalOf [] [.inl 2] [0,6,34] 600 q413_N = true := by decide +kernel
set_option maxHeartbeats 4000000 in
theorem q413_met {G : rfG} (h : okG G) : rf_met G q413_M := rf_methodB h.1 (P := q413_P) (U := q413_U) (N := q413_N) ⟨wflT h flokX11, wcsT h csokX11, wlcT h lcokX11, spokX11 h, fun _ h => absurd h List.not_mem_nil, fun _ h => absurd h List.not_mem_nil, fun _ h => absurd h List.not_mem_nil, fun _ h => absurd h List.not_mem_nil, fun _ h => absurd h List.not_mem_nil⟩ dkX11_totalOf (by decide +kernel) (by rw [h.2.2.1]; exact q413_ok)
/-- NearSpell.beginningOf -/
def q414_M : rfM := ((⟨"NearSpell", "beginningOf", "(II)I"⟩, prog_1_method_55_code, 3, (some .int)), (1,21), ([.inl ((0,387420488,1),none),.inl ((1,1,0),none)],[]), [], [(some (.inl (((-2147483648),2147483647,1),none)),[],[])])
def q414_P : rfP := (flX11,csX11,lcX11,spX11,[q198_M],[(148,0)],[],([],[]))
def q414_U : rfU := []
set_option maxHeartbeats 8000000 in
def q414_N : List rfB := [(0,([(0,.inl ((0,387420488,1),none)),(1,.inl ((1,1,0),none))],[],[]),(17,[]),0),
  (28,([(0,.inl ((0,387420488,1),none)),(1,.inl ((1,1,0),none)),(2,.inl (((-1),5,1),none))],[.inl (((-2147483648),2147483647,1),none)],[]),(0,[]),0)]
set_option maxRecDepth 100000 in
theorem q414_ok : rf_chkB q414_P q414_U wLay q414_M ddX11_beginningOf [(1,[0])] [] [0,28] 600 q414_N = true := by decide +kernel
set_option maxHeartbeats 4000000 in
theorem q414_met {G : rfG} (h : okG G) : rf_met G q414_M := rf_methodB h.1 (P := q414_P) (U := q414_U) (N := q414_N) ⟨wflT h flokX11, wcsT h csokX11, wlcT h lcokX11, spokX11 h, List.forall_mem_cons.mpr ⟨q198_met h, fun _ h => absurd h List.not_mem_nil⟩, List.forall_mem_cons.mpr ⟨fun M hM => Option.some.inj (show some q198_M = some M from hM) ▸ wlkS (lkX11_148 h) q198_M rfl rfl, fun _ h => absurd h List.not_mem_nil⟩, fun _ h => absurd h List.not_mem_nil, fun _ h => absurd h List.not_mem_nil, fun _ h => absurd h List.not_mem_nil⟩ dkX11_beginningOf (by decide +kernel) (by rw [h.2.2.1]; exact q414_ok)
/-- NearSpell.Book.push -/
def q415_M : rfM := ((⟨"NearSpell$Book", "push", "(I)V"⟩, prog_3_method_9_code, 2, none), (0,0), ([.inr (.inl [5]),.inl ((0,2147483647,1),none)],[]), [(4,0),(5,13)], [(none,[],[((5,12),(1,32,1),none)])])
def ddX1_push : List (Nat × Instr × Nat) := [(0,.aload_n 0,1),(1,.getfield 52,3),(4,.ifCond .lt 32,3),(7,.aload_n 0,1),(8,.getfield 52,3),(11,.bipush 32,2),(13,.if_icmp .ge 23,3),(16,.aload_n 0,1),(17,.getfield 21,3),(20,.aload_n 0,1),(21,.getfield 52,3),(24,.iload_n 1,1),(25,.iastore,1),(26,.aload_n 0,1),(27,.dup,1),(28,.getfield 52,3),(31,.iconst 1,1),(32,.iadd,1),(33,.putfield 52,3),(36,.return_,1)]
set_option maxRecDepth 100000 in
theorem dkX1_push : rf_decs prog_3_method_9_code ddX1_push := rf_decs_of (by decide +kernel)
def q415_P : rfP := (flX1,csX1,lcX1,spX1,[],[],[],([],[]))
def q415_U : rfU := []
set_option maxHeartbeats 8000000 in
def q415_N : List rfB := [(0,([(0,.inr (.inl [5])),(1,.inl ((0,2147483647,1),none))],[],[]),(19,[]),0),
  (36,([(0,.inr (.inl [5])),(1,.inl ((0,2147483647,1),none))],[],[((5,12),(1,32,1),none)]),(0,[]),0)]
set_option maxRecDepth 100000 in
theorem q415_ok : rf_chkB q415_P q415_U wLay q415_M ddX1_push [] [] [0,36] 600 q415_N = true := by decide +kernel
set_option maxHeartbeats 4000000 in
theorem q415_met {G : rfG} (h : okG G) : rf_met G q415_M := rf_methodB h.1 (P := q415_P) (U := q415_U) (N := q415_N) ⟨wflT h flokX1, wcsT h csokX1, wlcT h lcokX1, spokX1 h, fun _ h => absurd h List.not_mem_nil, fun _ h => absurd h List.not_mem_nil, fun _ h => absurd h List.not_mem_nil, fun _ h => absurd h List.not_mem_nil, fun _ h => absurd h List.not_mem_nil⟩ dkX1_push (by decide +kernel) (by rw [h.2.2.1]; exact q415_ok)
/-- NearSpell.Book.push -/
def q416_M : rfM := ((⟨"NearSpell$Book", "push", "(I)V"⟩, prog_3_method_9_code, 2, none), (0,0), ([.inr (.inl [5]),.inl (((-2147483648),2147483647,1),none)],[]), [(4,0),(5,13)], [(none,[],[((5,12),(1,32,1),none)])])
def q416_P : rfP := (flX1,csX1,lcX1,spX1,[],[],[],([],[]))
def q416_U : rfU := []
set_option maxHeartbeats 8000000 in
def q416_N : List rfB := [(0,([(0,.inr (.inl [5])),(1,.inl (((-2147483648),2147483647,1),none))],[],[]),(19,[]),0),
  (36,([(0,.inr (.inl [5])),(1,.inl (((-2147483648),2147483647,1),none))],[],[((5,12),(1,32,1),none)]),(0,[]),0)]
set_option maxRecDepth 100000 in
theorem q416_ok : rf_chkB q416_P q416_U wLay q416_M ddX1_push [] [] [0,36] 600 q416_N = true := by decide +kernel
set_option maxHeartbeats 4000000 in
theorem q416_met {G : rfG} (h : okG G) : rf_met G q416_M := rf_methodB h.1 (P := q416_P) (U := q416_U) (N := q416_N) ⟨wflT h flokX1, wcsT h csokX1, wlcT h lcokX1, spokX1 h, fun _ h => absurd h List.not_mem_nil, fun _ h => absurd h List.not_mem_nil, fun _ h => absurd h List.not_mem_nil, fun _ h => absurd h List.not_mem_nil, fun _ h => absurd h List.not_mem_nil⟩ dkX1_push (by decide +kernel) (by rw [h.2.2.1]; exact q416_ok)
/-- NearSpell.Book.push -/
def q417_M : rfM := ((⟨"NearSpell$Book", "push", "(I)V"⟩, prog_3_method_9_code, 2, none), (0,0), ([.inr (.inl [5]),.inl ((0,6,1),none)],[]), [(4,0),(5,13)], [(none,[],[((5,12),(1,32,1),none)])])
def q417_P : rfP := (flX1,csX1,lcX1,spX1,[],[],[],([],[]))
def q417_U : rfU := []
set_option maxHeartbeats 8000000 in
def q417_N : List rfB := [(0,([(0,.inr (.inl [5])),(1,.inl ((0,6,1),none))],[],[]),(19,[]),0),
  (36,([(0,.inr (.inl [5])),(1,.inl ((0,6,1),none))],[],[((5,12),(1,32,1),none)]),(0,[]),0)]
set_option maxRecDepth 100000 in
theorem q417_ok : rf_chkB q417_P q417_U wLay q417_M ddX1_push [] [] [0,36] 600 q417_N = true := by decide +kernel
set_option maxHeartbeats 4000000 in
theorem q417_met {G : rfG} (h : okG G) : rf_met G q417_M := rf_methodB h.1 (P := q417_P) (U := q417_U) (N := q417_N) ⟨wflT h flokX1, wcsT h csokX1, wlcT h lcokX1, spokX1 h, fun _ h => absurd h List.not_mem_nil, fun _ h => absurd h List.not_mem_nil, fun _ h => absurd h List.not_mem_nil, fun _ h => absurd h List.not_mem_nil, fun _ h => absurd h List.not_mem_nil⟩ dkX1_push (by decide +kernel) (by rw [h.2.2.1]; exact q417_ok)
/-- NearSpell.Book.push -/
def q418_M : rfM := ((⟨"NearSpell$Book", "push", "(I)V"⟩, prog_3_method_9_code, 2, none), (0,0), ([.inr (.inl [5]),.inl ((0,26,1),none)],[]), [(4,0),(5,13)], [(none,[],[((5,12),(1,32,1),none)])])
def q418_P : rfP := (flX1,csX1,lcX1,spX1,[],[],[],([],[]))
def q418_U : rfU := []
set_option maxHeartbeats 8000000 in
def q418_N : List rfB := [(0,([(0,.inr (.inl [5])),(1,.inl ((0,26,1),none))],[],[]),(19,[]),0),
  (36,([(0,.inr (.inl [5])),(1,.inl ((0,26,1),none))],[],[((5,12),(1,32,1),none)]),(0,[]),0)]
set_option maxRecDepth 100000 in
theorem q418_ok : rf_chkB q418_P q418_U wLay q418_M ddX1_push [] [] [0,36] 600 q418_N = true := by decide +kernel
set_option maxHeartbeats 4000000 in
theorem q418_met {G : rfG} (h : okG G) : rf_met G q418_M := rf_methodB h.1 (P := q418_P) (U := q418_U) (N := q418_N) ⟨wflT h flokX1, wcsT h csokX1, wlcT h lcokX1, spokX1 h, fun _ h => absurd h List.not_mem_nil, fun _ h => absurd h List.not_mem_nil, fun _ h => absurd h List.not_mem_nil, fun _ h => absurd h List.not_mem_nil, fun _ h => absurd h List.not_mem_nil⟩ dkX1_push (by decide +kernel) (by rw [h.2.2.1]; exact q418_ok)
/-- NearSpell.Book.pop -/
def q419_M : rfM := ((⟨"NearSpell$Book", "pop", "()I"⟩, prog_3_method_10_code, 1, (some .int)), (0,0), ([.inr (.inl [5])],[]), [(5,13)], [(some (.inl (((-2147483648),2147483647,1),none)),[],[((5,12),(0,31,1),none)])])
def ddX1_pop : List (Nat × Instr × Nat) := [(0,.aload_n 0,1),(1,.getfield 52,3),(4,.ifCond .le 12,3),(7,.aload_n 0,1),(8,.getfield 52,3),(11,.bipush 32,2),(13,.if_icmp .le 5,3),(16,.iconst 0,1),(17,.ireturn,1),(18,.aload_n 0,1),(19,.dup,1),(20,.getfield 52,3),(23,.iconst 1,1),(24,.isub,1),(25,.putfield 52,3),(28,.aload_n 0,1),(29,.getfield 21,3),(32,.aload_n 0,1),(33,.getfield 52,3),(36,.iaload,1),(37,.ireturn,1)]
set_option maxRecDepth 100000 in
theorem dkX1_pop : rf_decs prog_3_method_10_code ddX1_pop := rf_decs_of (by decide +kernel)
def q419_P : rfP := (flX1,csX1,lcX1,spX1,[],[],[],([],[]))
def q419_U : rfU := []
set_option maxHeartbeats 8000000 in
def q419_N : List rfB := [(0,([(0,.inr (.inl [5]))],[],[]),(20,[]),0)]
set_option maxRecDepth 100000 in
theorem q419_ok : rf_chkB q419_P q419_U wLay q419_M ddX1_pop [] [] [0] 600 q419_N = true := by decide +kernel
set_option maxHeartbeats 4000000 in
theorem q419_met {G : rfG} (h : okG G) : rf_met G q419_M := rf_methodB h.1 (P := q419_P) (U := q419_U) (N := q419_N) ⟨wflT h flokX1, wcsT h csokX1, wlcT h lcokX1, spokX1 h, fun _ h => absurd h List.not_mem_nil, fun _ h => absurd h List.not_mem_nil, fun _ h => absurd h List.not_mem_nil, fun _ h => absurd h List.not_mem_nil, fun _ h => absurd h List.not_mem_nil⟩ dkX1_pop (by decide +kernel) (by rw [h.2.2.1]; exact q419_ok)
/-- NearSpell.Book.truth -/
def q420_M : rfM := ((⟨"NearSpell$Book", "truth", "(Z)I"⟩, prog_3_method_11_code, 1, (some .int)), (0,0), ([.inl ((1,1,0),none)],[]), [], [(some (.inl ((1,1,0),none)),[],[])])
def ddX1_truth : List (Nat × Instr × Nat) := [(0,.iload_n 0,1),(1,.ifCond .eq 7,3),(4,.iconst 1,1),(5,.goto 4,3),(8,.iconst 0,1),(9,.ireturn,1)]
set_option maxRecDepth 100000 in
theorem dkX1_truth : rf_decs prog_3_method_11_code ddX1_truth := rf_decs_of (by decide +kernel)
def q420_P : rfP := (flX1,csX1,lcX1,spX1,[],[],[],([],[]))
def q420_U : rfU := []
set_option maxHeartbeats 8000000 in
def q420_N : List rfB := [(0,([(0,.inl ((1,1,0),none))],[],[]),(4,[]),0)]
set_option maxRecDepth 100000 in
theorem q420_ok : rf_chkB q420_P q420_U wLay q420_M ddX1_truth [] [] [0] 600 q420_N = true := by decide +kernel
set_option maxHeartbeats 4000000 in
theorem q420_met {G : rfG} (h : okG G) : rf_met G q420_M := rf_methodB h.1 (P := q420_P) (U := q420_U) (N := q420_N) ⟨wflT h flokX1, wcsT h csokX1, wlcT h lcokX1, spokX1 h, fun _ h => absurd h List.not_mem_nil, fun _ h => absurd h List.not_mem_nil, fun _ h => absurd h List.not_mem_nil, fun _ h => absurd h List.not_mem_nil, fun _ h => absurd h List.not_mem_nil⟩ dkX1_truth (by decide +kernel) (by rw [h.2.2.1]; exact q420_ok)
/-- NearSpell.Book.truth -/
def q421_M : rfM := ((⟨"NearSpell$Book", "truth", "(Z)I"⟩, prog_3_method_11_code, 1, (some .int)), (0,0), ([.inl ((0,0,0),none)],[]), [], [(some (.inl ((0,0,0),none)),[],[])])
def q421_P : rfP := (flX1,csX1,lcX1,spX1,[],[],[],([],[]))
def q421_U : rfU := []
set_option maxHeartbeats 8000000 in
def q421_N : List rfB := [(0,([(0,.inl ((0,0,0),none))],[],[]),(3,[]),0)]
set_option maxRecDepth 100000 in
theorem q421_ok : rf_chkB q421_P q421_U wLay q421_M ddX1_truth [] [] [0] 600 q421_N = true := by decide +kernel
set_option maxHeartbeats 4000000 in
theorem q421_met {G : rfG} (h : okG G) : rf_met G q421_M := rf_methodB h.1 (P := q421_P) (U := q421_U) (N := q421_N) ⟨wflT h flokX1, wcsT h csokX1, wlcT h lcokX1, spokX1 h, fun _ h => absurd h List.not_mem_nil, fun _ h => absurd h List.not_mem_nil, fun _ h => absurd h List.not_mem_nil, fun _ h => absurd h List.not_mem_nil, fun _ h => absurd h List.not_mem_nil⟩ dkX1_truth (by decide +kernel) (by rw [h.2.2.1]; exact q421_ok)
/-- NearSpell.Book.push -/
def q422_M : rfM := ((⟨"NearSpell$Book", "push", "(I)V"⟩, prog_3_method_9_code, 2, none), (0,0), ([.inr (.inl [5]),.inl ((1,1,0),none)],[]), [(4,0),(5,13)], [(none,[],[((5,12),(1,32,1),none)])])
def q422_P : rfP := (flX1,csX1,lcX1,spX1,[],[],[],([],[]))
def q422_U : rfU := []
set_option maxHeartbeats 8000000 in
def q422_N : List rfB := [(0,([(0,.inr (.inl [5])),(1,.inl ((1,1,0),none))],[],[]),(19,[]),0),
  (36,([(0,.inr (.inl [5])),(1,.inl ((1,1,0),none))],[],[((5,12),(1,32,1),none)]),(0,[]),0)]
set_option maxRecDepth 100000 in
theorem q422_ok : rf_chkB q422_P q422_U wLay q422_M ddX1_push [] [] [0,36] 600 q422_N = true := by decide +kernel
set_option maxHeartbeats 4000000 in
theorem q422_met {G : rfG} (h : okG G) : rf_met G q422_M := rf_methodB h.1 (P := q422_P) (U := q422_U) (N := q422_N) ⟨wflT h flokX1, wcsT h csokX1, wlcT h lcokX1, spokX1 h, fun _ h => absurd h List.not_mem_nil, fun _ h => absurd h List.not_mem_nil, fun _ h => absurd h List.not_mem_nil, fun _ h => absurd h List.not_mem_nil, fun _ h => absurd h List.not_mem_nil⟩ dkX1_push (by decide +kernel) (by rw [h.2.2.1]; exact q422_ok)
/-- NearSpell.Book.push -/
def q423_M : rfM := ((⟨"NearSpell$Book", "push", "(I)V"⟩, prog_3_method_9_code, 2, none), (0,0), ([.inr (.inl [5]),.inl ((0,0,0),none)],[]), [(4,0),(5,13)], [(none,[],[((5,12),(1,32,1),none)])])
def q423_P : rfP := (flX1,csX1,lcX1,spX1,[],[],[],([],[]))
def q423_U : rfU := []
set_option maxHeartbeats 8000000 in
def q423_N : List rfB := [(0,([(0,.inr (.inl [5])),(1,.inl ((0,0,0),none))],[],[]),(19,[]),0),
  (36,([(0,.inr (.inl [5])),(1,.inl ((0,0,0),none))],[],[((5,12),(1,32,1),none)]),(0,[]),0)]
set_option maxRecDepth 100000 in
theorem q423_ok : rf_chkB q423_P q423_U wLay q423_M ddX1_push [] [] [0,36] 600 q423_N = true := by decide +kernel
set_option maxHeartbeats 4000000 in
theorem q423_met {G : rfG} (h : okG G) : rf_met G q423_M := rf_methodB h.1 (P := q423_P) (U := q423_U) (N := q423_N) ⟨wflT h flokX1, wcsT h csokX1, wlcT h lcokX1, spokX1 h, fun _ h => absurd h List.not_mem_nil, fun _ h => absurd h List.not_mem_nil, fun _ h => absurd h List.not_mem_nil, fun _ h => absurd h List.not_mem_nil, fun _ h => absurd h List.not_mem_nil⟩ dkX1_push (by decide +kernel) (by rw [h.2.2.1]; exact q423_ok)
/-- NearSpell.Book.combine -/
def q424_M : rfM := ((⟨"NearSpell$Book", "combine", "(III)I"⟩, prog_3_method_12_code, 3, (some .int)), (1,20), ([.inl (((-2147483648),2147483647,1),none),.inl (((-2147483648),2147483647,1),none),.inl (((-2147483648),2147483647,1),none)],[]), [], [(some (.inl (((-2147483648),2147483647,1),none)),[],[])])
def ddX1_combine : List (Nat × Instr × Nat) := [(0,.iload_n 0,1),(1,.lookupswitch 203 #[(7, 186), (8, 169), (37, 115), (42, 99), (43, 91), (45, 95), (47, 103), (60, 127), (61, 155), (62, 141)],91),(92,.iload_n 1,1),(93,.iload_n 2,1),(94,.iadd,1),(95,.ireturn,1),(96,.iload_n 1,1),(97,.iload_n 2,1),(98,.isub,1),(99,.ireturn,1),(100,.iload_n 1,1),(101,.iload_n 2,1),(102,.imul,1),(103,.ireturn,1),(104,.iload_n 2,1),(105,.ifCond .ne 7,3),(108,.iconst 0,1),(109,.goto 6,3),(112,.iload_n 1,1),(113,.iload_n 2,1),(114,.idiv,1),(115,.ireturn,1),(116,.iload_n 2,1),(117,.ifCond .ne 7,3),(120,.iconst 0,1),(121,.goto 6,3),(124,.iload_n 1,1),(125,.iload_n 2,1),(126,.irem,1),(127,.ireturn,1),(128,.iload_n 1,1),(129,.iload_n 2,1),(130,.if_icmp .ge 7,3),(133,.iconst 1,1),(134,.goto 4,3),(137,.iconst 0,1),(138,.invokestatic 85,3),(141,.ireturn,1),(142,.iload_n 1,1),(143,.iload_n 2,1),(144,.if_icmp .le 7,3),(147,.iconst 1,1),(148,.goto 4,3),(151,.iconst 0,1),(152,.invokestatic 85,3),(155,.ireturn,1),(156,.iload_n 1,1),(157,.iload_n 2,1),(158,.if_icmp .ne 7,3),(161,.iconst 1,1),(162,.goto 4,3),(165,.iconst 0,1),(166,.invokestatic 85,3),(169,.ireturn,1),(170,.iload_n 1,1),(171,.ifCond .eq 11,3),(174,.iload_n 2,1),(175,.ifCond .eq 7,3),(178,.iconst 1,1),(179,.goto 4,3),(182,.iconst 0,1),(183,.invokestatic 85,3),(186,.ireturn,1),(187,.iload_n 1,1),(188,.ifCond .ne 7,3),(191,.iload_n 2,1),(192,.ifCond .eq 7,3),(195,.iconst 1,1),(196,.goto 4,3),(199,.iconst 0,1),(200,.invokestatic 85,3),(203,.ireturn,1),(204,.iconst 0,1),(205,.ireturn,1)]
set_option maxRecDepth 100000 in
theorem dkX1_combine : rf_decs prog_3_method_12_code ddX1_combine := rf_decs_of (by decide +kernel)
def q424_P : rfP := (flX1,csX1,lcX1,spX1,[q420_M,q421_M],[(85,0),(85,1)],[],([],[]))
def q424_U : rfU := [(.inl 2,[((-2147483648),(-1)),(0,0),(1,2147483647)])]
set_option maxHeartbeats 8000000 in
def q424_N : List rfB := [(0,([(0,.inl (((-2147483648),2147483647,1),none)),(1,.inl (((-2147483648),2147483647,1),none)),(2,.inl (((-2147483648),2147483647,1),none))],[],[]),(228,[]),1000000),
  (182,([(0,.inl ((8,8,1),none)),(1,.inl ((0,0,1),none)),(2,.inl ((1,2147483647,1),none))],[],[]),(163,[]),0),
  (182,([(0,.inl ((8,8,1),none)),(1,.inl (((-2147483648),2147483647,1),none)),(2,.inl ((0,0,1),none))],[],[]),(92,[]),0),
  (182,([(0,.inl ((8,8,1),none)),(1,.inl ((0,0,1),none)),(2,.inl (((-2147483648),(-1),1),none))],[],[]),(12,[]),0),
  (195,([(0,.inl ((7,7,1),none)),(1,.inl (((-2147483648),2147483647,1),none)),(2,.inl ((1,2147483647,1),none))],[],[]),(156,[]),0),
  (195,([(0,.inl ((7,7,1),none)),(1,.inl (((-2147483648),2147483647,1),none)),(2,.inl ((0,0,1),none))],[],[]),(82,[]),0),
  (195,([(0,.inl ((7,7,1),none)),(1,.inl (((-2147483648),2147483647,1),none)),(2,.inl (((-2147483648),(-1),1),none))],[],[]),(5,[]),0)]
set_option maxRecDepth 100000 in
theorem q424_ok : rf_chkB q424_P q424_U wLay q424_M ddX1_combine [(138,[0,1]),(152,[0,1]),(166,[0,1]),(183,[0,1]),(200,[0,1])] [] [0,182,195] 600 q424_N = true := by decide +kernel
set_option maxHeartbeats 4000000 in
theorem q424_met {G : rfG} (h : okG G) : rf_met G q424_M := rf_methodB h.1 (P := q424_P) (U := q424_U) (N := q424_N) ⟨wflT h flokX1, wcsT h csokX1, wlcT h lcokX1, spokX1 h, List.forall_mem_cons.mpr ⟨q420_met h, List.forall_mem_cons.mpr ⟨q421_met h, fun _ h => absurd h List.not_mem_nil⟩⟩, List.forall_mem_cons.mpr ⟨fun M hM => Option.some.inj (show some q420_M = some M from hM) ▸ wlkS (lkX1_85 h) q420_M rfl rfl, List.forall_mem_cons.mpr ⟨fun M hM => Option.some.inj (show some q421_M = some M from hM) ▸ wlkS (lkX1_85 h) q421_M rfl rfl, fun _ h => absurd h List.not_mem_nil⟩⟩, fun _ h => absurd h List.not_mem_nil, fun _ h => absurd h List.not_mem_nil, fun _ h => absurd h List.not_mem_nil⟩ dkX1_combine (by decide +kernel) (by rw [h.2.2.1]; exact q424_ok)
/-- NearSpell.Book.work -/
def q425_M : rfM := ((⟨"NearSpell$Book", "work", "(I)I"⟩, prog_3_method_8_code, 9, (some .int)), (2,43), ([.inr (.inl [5]),.inl ((0,387420488,1),none)],[]), [(4,0),(5,13)], [(some (.inl (((-2147483648),2147483647,1),none)),[],[((5,12),(0,31,1),none)])])
def ddX1_work : List (Nat × Instr × Nat) := [(0,.iload_n 1,1),(1,.invokestatic 61,3),(4,.istore_n 2,1),(5,.iload_n 1,1),(6,.invokestatic 65,3),(9,.istore_n 3,1),(10,.iload_n 1,1),(11,.iconst 1,1),(12,.invokestatic 71,3),(15,.istore 4,2),(17,.iload_n 1,1),(18,.bipush 27,2),(20,.irem,1),(21,.istore 5,2),(23,.aload_n 0,1),(24,.iconst 0,1),(25,.putfield 52,3),(28,.iconst 0,1),(29,.istore 6,2),(31,.iload 6,2),(33,.aload_n 0,1),(34,.getfield 49,3),(37,.if_icmp .ge 145,3),(40,.aload_n 0,1),(41,.getfield 18,3),(44,.iload 6,2),(46,.iaload,1),(47,.istore 7,2),(49,.iload 7,2),(51,.ifCond .lt 12,3),(54,.aload_n 0,1),(55,.iload 7,2),(57,.invokevirtual 75,3),(60,.goto 116,3),(63,.iload 7,2),(65,.bipush (-10),2),(67,.if_icmp .ne 11,3),(70,.aload_n 0,1),(71,.iload_n 2,1),(72,.invokevirtual 75,3),(75,.goto 101,3),(78,.iload 7,2),(80,.bipush (-11),2),(82,.if_icmp .ne 11,3),(85,.aload_n 0,1),(86,.iload_n 3,1),(87,.invokevirtual 75,3),(90,.goto 86,3),(93,.iload 7,2),(95,.bipush (-12),2),(97,.if_icmp .ne 12,3),(100,.aload_n 0,1),(101,.iload 4,2),(103,.invokevirtual 75,3),(106,.goto 70,3),(109,.iload 7,2),(111,.bipush (-13),2),(113,.if_icmp .ne 12,3),(116,.aload_n 0,1),(117,.iload 5,2),(119,.invokevirtual 75,3),(122,.goto 54,3),(125,.iload 7,2),(127,.bipush (-9),2),(129,.if_icmp .ne 25,3),(132,.aload_n 0,1),(133,.aload_n 0,1),(134,.invokevirtual 81,3),(137,.ifCond .ne 7,3),(140,.iconst 1,1),(141,.goto 4,3),(144,.iconst 0,1),(145,.invokestatic 85,3),(148,.invokevirtual 75,3),(151,.goto 25,3),(154,.aload_n 0,1),(155,.invokevirtual 81,3),(158,.istore 8,2),(160,.aload_n 0,1),(161,.iload 7,2),(163,.ineg,1),(164,.aload_n 0,1),(165,.invokevirtual 81,3),(168,.iload 8,2),(170,.invokestatic 89,3),(173,.invokevirtual 75,3),(176,.iinc 6 1,3),(179,.goto (-148),3),(182,.aload_n 0,1),(183,.invokevirtual 81,3),(186,.ireturn,1)]
set_option maxRecDepth 100000 in
theorem dkX1_work : rf_decs prog_3_method_8_code ddX1_work := rf_decs_of (by decide +kernel)
def q425_P : rfP := (flX1,csX1,lcX1,spX1,[q413_M,q198_M,q414_M,q415_M,q416_M,q417_M,q418_M,q419_M,q420_M,q421_M,q422_M,q423_M,q424_M],[(61,0),(65,1),(71,2),(85,8),(85,9),(89,12)],[(75,3,1),(75,4,1),(75,5,1),(75,6,1),(75,10,1),(75,11,1),(81,7,1)],([],[]))
def q425_U : rfU := []
set_option maxHeartbeats 8000000 in
def q425_N : List rfB := [(0,([(0,.inr (.inl [5])),(1,.inl ((0,387420488,1),none))],[],[]),(21693,[0]),0),
  (31,([(0,.inr (.inl [5])),(1,.inl ((0,387420488,1),none)),(2,.inl (((-2147483648),2147483647,1),none)),(3,.inl ((0,6,1),none)),(4,.inl (((-2147483648),2147483647,1),none)),(5,.inl ((0,26,1),none)),(6,.inl ((0,300,1),none))],[],[]),(21672,[(-72)]),0),
  (176,([(0,.inr (.inl [5])),(1,.inl ((0,387420488,1),none)),(2,.inl (((-2147483648),2147483647,1),none)),(3,.inl ((0,6,1),none)),(4,.inl (((-2147483648),2147483647,1),none)),(5,.inl ((0,26,1),none)),(6,.inl ((0,299,1),none)),(7,.inl (((-2147483648),2147483647,1),none))],[],[((5,11),(1,300,1),none),((5,12),(1,32,1),none)]),(21603,[(-72)]),0),
  (151,([(0,.inr (.inl [5])),(1,.inl ((0,387420488,1),none)),(2,.inl (((-2147483648),2147483647,1),none)),(3,.inl ((0,6,1),none)),(4,.inl (((-2147483648),2147483647,1),none)),(5,.inl ((0,26,1),none)),(6,.inl ((0,299,1),none)),(7,.inl (((-9),(-9),1),none))],[],[((5,11),(1,300,1),none),((5,12),(1,32,1),none)]),(21624,[(-72)]),0)]
set_option maxRecDepth 100000 in
theorem q425_ok : rf_chkB q425_P q425_U wLay q425_M ddX1_work [(1,[0]),(6,[1]),(12,[2]),(57,[3]),(72,[4]),(87,[5]),(103,[4]),(119,[6]),(134,[7]),(145,[8,9]),(148,[10,11]),(155,[7]),(165,[7]),(170,[12]),(173,[4]),(183,[7])] [.inl 6] [0,31,151,176] 600 q425_N = true := by decide +kernel
set_option maxHeartbeats 4000000 in
theorem q425_met {G : rfG} (h : okG G) : rf_met G q425_M := rf_methodB h.1 (P := q425_P) (U := q425_U) (N := q425_N) ⟨wflT h flokX1, wcsT h csokX1, wlcT h lcokX1, spokX1 h, List.forall_mem_cons.mpr ⟨q413_met h, List.forall_mem_cons.mpr ⟨q198_met h, List.forall_mem_cons.mpr ⟨q414_met h, List.forall_mem_cons.mpr ⟨q415_met h, List.forall_mem_cons.mpr ⟨q416_met h, List.forall_mem_cons.mpr ⟨q417_met h, List.forall_mem_cons.mpr ⟨q418_met h, List.forall_mem_cons.mpr ⟨q419_met h, List.forall_mem_cons.mpr ⟨q420_met h, List.forall_mem_cons.mpr ⟨q421_met h, List.forall_mem_cons.mpr ⟨q422_met h, List.forall_mem_cons.mpr ⟨q423_met h, List.forall_mem_cons.mpr ⟨q424_met h, fun _ h => absurd h List.not_mem_nil⟩⟩⟩⟩⟩⟩⟩⟩⟩⟩⟩⟩⟩, List.forall_mem_cons.mpr ⟨fun M hM => Option.some.inj (show some q413_M = some M from hM) ▸ wlkS (lkX1_61 h) q413_M rfl rfl, List.forall_mem_cons.mpr ⟨fun M hM => Option.some.inj (show some q198_M = some M from hM) ▸ wlkS (lkX1_65 h) q198_M rfl rfl, List.forall_mem_cons.mpr ⟨fun M hM => Option.some.inj (show some q414_M = some M from hM) ▸ wlkS (lkX1_71 h) q414_M rfl rfl, List.forall_mem_cons.mpr ⟨fun M hM => Option.some.inj (show some q420_M = some M from hM) ▸ wlkS (lkX1_85 h) q420_M rfl rfl, List.forall_mem_cons.mpr ⟨fun M hM => Option.some.inj (show some q421_M = some M from hM) ▸ wlkS (lkX1_85 h) q421_M rfl rfl, List.forall_mem_cons.mpr ⟨fun M hM => Option.some.inj (show some q424_M = some M from hM) ▸ wlkS (lkX1_89 h) q424_M rfl rfl, fun _ h => absurd h List.not_mem_nil⟩⟩⟩⟩⟩⟩, List.forall_mem_cons.mpr ⟨fun M hM => Option.some.inj (show some q415_M = some M from hM) ▸ wlkV (lkX1_75 h) q415_M rfl rfl, List.forall_mem_cons.mpr ⟨fun M hM => Option.some.inj (show some q416_M = some M from hM) ▸ wlkV (lkX1_75 h) q416_M rfl rfl, List.forall_mem_cons.mpr ⟨fun M hM => Option.some.inj (show some q417_M = some M from hM) ▸ wlkV (lkX1_75 h) q417_M rfl rfl, List.forall_mem_cons.mpr ⟨fun M hM => Option.some.inj (show some q418_M = some M from hM) ▸ wlkV (lkX1_75 h) q418_M rfl rfl, List.forall_mem_cons.mpr ⟨fun M hM => Option.some.inj (show some q422_M = some M from hM) ▸ wlkV (lkX1_75 h) q422_M rfl rfl, List.forall_mem_cons.mpr ⟨fun M hM => Option.some.inj (show some q423_M = some M from hM) ▸ wlkV (lkX1_75 h) q423_M rfl rfl, List.forall_mem_cons.mpr ⟨fun M hM => Option.some.inj (show some q419_M = some M from hM) ▸ wlkV (lkX1_81 h) q419_M rfl rfl, fun _ h => absurd h List.not_mem_nil⟩⟩⟩⟩⟩⟩⟩, fun _ h => absurd h List.not_mem_nil, fun _ h => absurd h List.not_mem_nil⟩ dkX1_work (by decide +kernel) (by rw [h.2.2.1]; exact q425_ok)
/-- NearSpell.Book.bucketOf -/
def q426_M : rfM := ((⟨"NearSpell$Book", "bucketOf", "(I)I"⟩, prog_3_method_7_code, 4, (some .int)), (3,71), ([.inr (.inl [5]),.inl ((0,387420488,1),none)],[]), [(4,0),(5,13)], [(some (.inl ((0,30,1),none)),[],[])])
def ddX1_bucketOf : List (Nat × Instr × Nat) := [(0,.aload_n 0,1),(1,.getfield 49,3),(4,.ifCond .ne 18,3),(7,.iload_n 1,1),(8,.invokestatic 61,3),(11,.bipush 7,2),(13,.imul,1),(14,.iload_n 1,1),(15,.invokestatic 65,3),(18,.iadd,1),(19,.goto 8,3),(22,.aload_n 0,1),(23,.iload_n 1,1),(24,.invokevirtual 68,3),(27,.istore_n 2,1),(28,.aload_n 0,1),(29,.getfield 37,3),(32,.ifCond .gt 5,3),(35,.iconst 0,1),(36,.ireturn,1),(37,.iload_n 2,1),(38,.aload_n 0,1),(39,.getfield 37,3),(42,.irem,1),(43,.istore_n 3,1),(44,.iload_n 3,1),(45,.ifCond .ge 12,3),(48,.iload_n 3,1),(49,.aload_n 0,1),(50,.getfield 37,3),(53,.iadd,1),(54,.goto 4,3),(57,.iload_n 3,1),(58,.ireturn,1)]
set_option maxRecDepth 100000 in
theorem dkX1_bucketOf : rf_decs prog_3_method_7_code ddX1_bucketOf := rf_decs_of (by decide +kernel)
def q426_P : rfP := (flX1,csX1,lcX1,spX1,[q413_M,q198_M,q425_M],[(61,0),(65,1)],[(68,2,1)],([],[]))
def q426_U : rfU := [(.inr (5,7),[(1,1),(2,2),(3,3),(4,4),(5,5),(6,6),(7,7),(8,8),(9,9),(10,10),(11,11),(12,12),(13,13),(14,14),(15,15),(16,16),(17,17),(18,18),(19,19),(20,20),(21,21),(22,22),(23,23),(24,24),(25,25),(26,26),(27,27),(28,28),(29,29),(30,30),(31,31)])]
set_option maxHeartbeats 8000000 in
def q426_N : List rfB := [(0,([(0,.inr (.inl [5])),(1,.inl ((0,387420488,1),none))],[],[]),(988,[]),1000000),
  (27,([(0,.inr (.inl [5])),(1,.inl ((0,387420488,1),none))],[.inl (((-2147483648),2147483647,1),none)],[((5,7),(19,19,1),none)]),(589,[]),0),
  (27,([(0,.inr (.inl [5])),(1,.inl ((0,387420488,1),none))],[.inl (((-2147483648),2147483647,1),none)],[((5,7),(30,30,1),none)]),(941,[]),0),
  (27,([(0,.inr (.inl [5])),(1,.inl ((0,387420488,1),none))],[.inl (((-2147483648),2147483647,1),none)],[((5,7),(5,5,1),none)]),(141,[]),0),
  (27,([(0,.inr (.inl [5])),(1,.inl ((0,387420488,1),none))],[.inl (((-2147483648),2147483647,1),none)],[((5,7),(25,25,1),none)]),(781,[]),0),
  (27,([(0,.inr (.inl [5])),(1,.inl ((0,387420488,1),none))],[.inl (((-2147483648),2147483647,1),none)],[((5,7),(24,24,1),none)]),(749,[]),0),
  (27,([(0,.inr (.inl [5])),(1,.inl ((0,387420488,1),none))],[.inl (((-2147483648),2147483647,1),none)],[((5,7),(20,20,1),none)]),(621,[]),0),
  (27,([(0,.inr (.inl [5])),(1,.inl ((0,387420488,1),none))],[.inl (((-2147483648),2147483647,1),none)],[((5,7),(26,26,1),none)]),(813,[]),0),
  (27,([(0,.inr (.inl [5])),(1,.inl ((0,387420488,1),none))],[.inl (((-2147483648),2147483647,1),none)],[((5,7),(15,15,1),none)]),(461,[]),0),
  (27,([(0,.inr (.inl [5])),(1,.inl ((0,387420488,1),none))],[.inl (((-2147483648),2147483647,1),none)],[((5,7),(1,1,1),none)]),(12,[]),0),
  (27,([(0,.inr (.inl [5])),(1,.inl ((0,387420488,1),none))],[.inl (((-2147483648),2147483647,1),none)],[((5,7),(21,21,1),none)]),(653,[]),0),
  (27,([(0,.inr (.inl [5])),(1,.inl ((0,387420488,1),none))],[.inl (((-2147483648),2147483647,1),none)],[((5,7),(16,16,1),none)]),(493,[]),0),
  (27,([(0,.inr (.inl [5])),(1,.inl ((0,387420488,1),none))],[.inl (((-2147483648),2147483647,1),none)],[((5,7),(22,22,1),none)]),(685,[]),0),
  (27,([(0,.inr (.inl [5])),(1,.inl ((0,387420488,1),none))],[.inl (((-2147483648),2147483647,1),none)],[((5,7),(11,11,1),none)]),(333,[]),0),
  (27,([(0,.inr (.inl [5])),(1,.inl ((0,387420488,1),none))],[.inl (((-2147483648),2147483647,1),none)],[((5,7),(31,31,1),none)]),(973,[]),0),
  (27,([(0,.inr (.inl [5])),(1,.inl ((0,387420488,1),none))],[.inl (((-2147483648),2147483647,1),none)],[((5,7),(6,6,1),none)]),(173,[]),0),
  (27,([(0,.inr (.inl [5])),(1,.inl ((0,387420488,1),none))],[.inl (((-2147483648),2147483647,1),none)],[((5,7),(17,17,1),none)]),(525,[]),0),
  (27,([(0,.inr (.inl [5])),(1,.inl ((0,387420488,1),none))],[.inl (((-2147483648),2147483647,1),none)],[((5,7),(12,12,1),none)]),(365,[]),0),
  (27,([(0,.inr (.inl [5])),(1,.inl ((0,387420488,1),none))],[.inl (((-2147483648),2147483647,1),none)],[((5,7),(18,18,1),none)]),(557,[]),0),
  (27,([(0,.inr (.inl [5])),(1,.inl ((0,387420488,1),none))],[.inl (((-2147483648),2147483647,1),none)],[((5,7),(7,7,1),none)]),(205,[]),0),
  (27,([(0,.inr (.inl [5])),(1,.inl ((0,387420488,1),none))],[.inl (((-2147483648),2147483647,1),none)],[((5,7),(13,13,1),none)]),(397,[]),0),
  (27,([(0,.inr (.inl [5])),(1,.inl ((0,387420488,1),none))],[.inl (((-2147483648),2147483647,1),none)],[((5,7),(27,27,1),none)]),(845,[]),0),
  (27,([(0,.inr (.inl [5])),(1,.inl ((0,387420488,1),none))],[.inl (((-2147483648),2147483647,1),none)],[((5,7),(2,2,1),none)]),(45,[]),0),
  (27,([(0,.inr (.inl [5])),(1,.inl ((0,387420488,1),none))],[.inl (((-2147483648),2147483647,1),none)],[((5,7),(8,8,1),none)]),(237,[]),0),
  (27,([(0,.inr (.inl [5])),(1,.inl ((0,387420488,1),none))],[.inl (((-2147483648),2147483647,1),none)],[((5,7),(28,28,1),none)]),(877,[]),0),
  (27,([(0,.inr (.inl [5])),(1,.inl ((0,387420488,1),none))],[.inl (((-2147483648),2147483647,1),none)],[((5,7),(3,3,1),none)]),(77,[]),0),
  (27,([(0,.inr (.inl [5])),(1,.inl ((0,387420488,1),none))],[.inl (((-2147483648),2147483647,1),none)],[((5,7),(14,14,1),none)]),(429,[]),0),
  (27,([(0,.inr (.inl [5])),(1,.inl ((0,387420488,1),none))],[.inl (((-2147483648),2147483647,1),none)],[((5,7),(23,23,1),none)]),(717,[]),0),
  (27,([(0,.inr (.inl [5])),(1,.inl ((0,387420488,1),none))],[.inl (((-2147483648),2147483647,1),none)],[((5,7),(9,9,1),none)]),(269,[]),0),
  (27,([(0,.inr (.inl [5])),(1,.inl ((0,387420488,1),none))],[.inl (((-2147483648),2147483647,1),none)],[((5,7),(29,29,1),none)]),(909,[]),0),
  (27,([(0,.inr (.inl [5])),(1,.inl ((0,387420488,1),none))],[.inl (((-2147483648),2147483647,1),none)],[((5,7),(4,4,1),none)]),(109,[]),0),
  (27,([(0,.inr (.inl [5])),(1,.inl ((0,387420488,1),none))],[.inl (((-2147483648),2147483647,1),none)],[((5,7),(10,10,1),none)]),(301,[]),0),
  (58,([(0,.inr (.inl [5])),(1,.inl ((0,387420488,1),none)),(2,.inl (((-2147483648),2147483647,1),none)),(3,.inl (((-18),18,1),none))],[.inl ((0,18,1),none)],[((5,7),(19,19,1),none)]),(572,[]),0),
  (58,([(0,.inr (.inl [5])),(1,.inl ((0,387420488,1),none)),(2,.inl (((-2147483648),2147483647,1),none)),(3,.inl (((-29),29,1),none))],[.inl ((0,29,1),none)],[((5,7),(30,30,1),none)]),(924,[]),0),
  (58,([(0,.inr (.inl [5])),(1,.inl ((0,387420488,1),none)),(2,.inl (((-2147483648),2147483647,1),none)),(3,.inl (((-4),4,1),none))],[.inl ((0,4,1),none)],[((5,7),(5,5,1),none)]),(124,[]),0),
  (58,([(0,.inr (.inl [5])),(1,.inl ((0,387420488,1),none)),(2,.inl (((-2147483648),2147483647,1),none)),(3,.inl (((-24),24,1),none))],[.inl ((0,24,1),none)],[((5,7),(25,25,1),none)]),(764,[]),0),
  (58,([(0,.inr (.inl [5])),(1,.inl ((0,387420488,1),none)),(2,.inl (((-2147483648),2147483647,1),none)),(3,.inl (((-23),23,1),none))],[.inl ((0,23,1),none)],[((5,7),(24,24,1),none)]),(732,[]),0),
  (58,([(0,.inr (.inl [5])),(1,.inl ((0,387420488,1),none)),(2,.inl (((-2147483648),2147483647,1),none)),(3,.inl (((-19),19,1),none))],[.inl ((0,19,1),none)],[((5,7),(20,20,1),none)]),(604,[]),0),
  (58,([(0,.inr (.inl [5])),(1,.inl ((0,387420488,1),none)),(2,.inl (((-2147483648),2147483647,1),none)),(3,.inl (((-25),25,1),none))],[.inl ((0,25,1),none)],[((5,7),(26,26,1),none)]),(796,[]),0),
  (58,([(0,.inr (.inl [5])),(1,.inl ((0,387420488,1),none)),(2,.inl (((-2147483648),2147483647,1),none)),(3,.inl (((-14),14,1),none))],[.inl ((0,14,1),none)],[((5,7),(15,15,1),none)]),(444,[]),0),
  (58,([(0,.inr (.inl [5])),(1,.inl ((0,387420488,1),none)),(2,.inl (((-2147483648),2147483647,1),none)),(3,.inl (((-20),20,1),none))],[.inl ((0,20,1),none)],[((5,7),(21,21,1),none)]),(636,[]),0),
  (58,([(0,.inr (.inl [5])),(1,.inl ((0,387420488,1),none)),(2,.inl (((-2147483648),2147483647,1),none)),(3,.inl (((-15),15,1),none))],[.inl ((0,15,1),none)],[((5,7),(16,16,1),none)]),(476,[]),0),
  (58,([(0,.inr (.inl [5])),(1,.inl ((0,387420488,1),none)),(2,.inl (((-2147483648),2147483647,1),none)),(3,.inl (((-21),21,1),none))],[.inl ((0,21,1),none)],[((5,7),(22,22,1),none)]),(668,[]),0),
  (58,([(0,.inr (.inl [5])),(1,.inl ((0,387420488,1),none)),(2,.inl (((-2147483648),2147483647,1),none)),(3,.inl (((-10),10,1),none))],[.inl ((0,10,1),none)],[((5,7),(11,11,1),none)]),(316,[]),0),
  (58,([(0,.inr (.inl [5])),(1,.inl ((0,387420488,1),none)),(2,.inl (((-2147483648),2147483647,1),none)),(3,.inl (((-30),30,1),none))],[.inl ((0,30,1),none)],[((5,7),(31,31,1),none)]),(956,[]),0),
  (58,([(0,.inr (.inl [5])),(1,.inl ((0,387420488,1),none)),(2,.inl (((-2147483648),2147483647,1),none)),(3,.inl (((-5),5,1),none))],[.inl ((0,5,1),none)],[((5,7),(6,6,1),none)]),(156,[]),0),
  (58,([(0,.inr (.inl [5])),(1,.inl ((0,387420488,1),none)),(2,.inl (((-2147483648),2147483647,1),none)),(3,.inl (((-16),16,1),none))],[.inl ((0,16,1),none)],[((5,7),(17,17,1),none)]),(508,[]),0),
  (58,([(0,.inr (.inl [5])),(1,.inl ((0,387420488,1),none)),(2,.inl (((-2147483648),2147483647,1),none)),(3,.inl (((-11),11,1),none))],[.inl ((0,11,1),none)],[((5,7),(12,12,1),none)]),(348,[]),0),
  (58,([(0,.inr (.inl [5])),(1,.inl ((0,387420488,1),none)),(2,.inl (((-2147483648),2147483647,1),none)),(3,.inl (((-17),17,1),none))],[.inl ((0,17,1),none)],[((5,7),(18,18,1),none)]),(540,[]),0),
  (58,([(0,.inr (.inl [5])),(1,.inl ((0,387420488,1),none)),(2,.inl (((-2147483648),2147483647,1),none)),(3,.inl (((-6),6,1),none))],[.inl ((0,6,1),none)],[((5,7),(7,7,1),none)]),(188,[]),0),
  (58,([(0,.inr (.inl [5])),(1,.inl ((0,387420488,1),none)),(2,.inl (((-2147483648),2147483647,1),none)),(3,.inl (((-12),12,1),none))],[.inl ((0,12,1),none)],[((5,7),(13,13,1),none)]),(380,[]),0),
  (58,([(0,.inr (.inl [5])),(1,.inl ((0,387420488,1),none)),(2,.inl (((-2147483648),2147483647,1),none)),(3,.inl (((-26),26,1),none))],[.inl ((0,26,1),none)],[((5,7),(27,27,1),none)]),(828,[]),0),
  (58,([(0,.inr (.inl [5])),(1,.inl ((0,387420488,1),none)),(2,.inl (((-2147483648),2147483647,1),none)),(3,.inl (((-1),(-1),1),none))],[.inl ((1,1,1),some (.inl 3,some 2))],[((5,7),(2,2,1),none)]),(29,[]),0),
  (58,([(0,.inr (.inl [5])),(1,.inl ((0,387420488,1),none)),(2,.inl (((-2147483648),2147483647,1),none)),(3,.inl (((-7),7,1),none))],[.inl ((0,7,1),none)],[((5,7),(8,8,1),none)]),(220,[]),0),
  (58,([(0,.inr (.inl [5])),(1,.inl ((0,387420488,1),none)),(2,.inl (((-2147483648),2147483647,1),none)),(3,.inl (((-27),27,1),none))],[.inl ((0,27,1),none)],[((5,7),(28,28,1),none)]),(860,[]),0),
  (58,([(0,.inr (.inl [5])),(1,.inl ((0,387420488,1),none)),(2,.inl (((-2147483648),2147483647,1),none)),(3,.inl (((-2),2,1),none))],[.inl ((0,2,1),none)],[((5,7),(3,3,1),none)]),(60,[]),0),
  (58,([(0,.inr (.inl [5])),(1,.inl ((0,387420488,1),none)),(2,.inl (((-2147483648),2147483647,1),none)),(3,.inl (((-13),13,1),none))],[.inl ((0,13,1),none)],[((5,7),(14,14,1),none)]),(412,[]),0),
  (58,([(0,.inr (.inl [5])),(1,.inl ((0,387420488,1),none)),(2,.inl (((-2147483648),2147483647,1),none)),(3,.inl (((-22),22,1),none))],[.inl ((0,22,1),none)],[((5,7),(23,23,1),none)]),(700,[]),0),
  (58,([(0,.inr (.inl [5])),(1,.inl ((0,387420488,1),none)),(2,.inl (((-2147483648),2147483647,1),none)),(3,.inl (((-8),8,1),none))],[.inl ((0,8,1),none)],[((5,7),(9,9,1),none)]),(252,[]),0),
  (58,([(0,.inr (.inl [5])),(1,.inl ((0,387420488,1),none)),(2,.inl (((-2147483648),2147483647,1),none)),(3,.inl (((-28),28,1),none))],[.inl ((0,28,1),none)],[((5,7),(29,29,1),none)]),(892,[]),0),
  (58,([(0,.inr (.inl [5])),(1,.inl ((0,387420488,1),none)),(2,.inl (((-2147483648),2147483647,1),none)),(3,.inl (((-3),3,1),none))],[.inl ((0,3,1),none)],[((5,7),(4,4,1),none)]),(92,[]),0),
  (58,([(0,.inr (.inl [5])),(1,.inl ((0,387420488,1),none)),(2,.inl (((-2147483648),2147483647,1),none)),(3,.inl (((-9),9,1),none))],[.inl ((0,9,1),none)],[((5,7),(10,10,1),none)]),(284,[]),0),
  (58,([(0,.inr (.inl [5])),(1,.inl ((0,387420488,1),none)),(2,.inl (((-2147483648),2147483647,1),none)),(3,.inl ((0,0,1),none))],[.inl ((0,0,1),some (.inl 3,some 0))],[((5,7),(1,1,1),none)]),(0,[]),0),
  (58,([(0,.inr (.inl [5])),(1,.inl ((0,387420488,1),none)),(2,.inl (((-2147483648),2147483647,1),none)),(3,.inl ((0,1,1),none))],[.inl ((0,1,1),some (.inl 3,some 0))],[((5,7),(2,2,1),none)]),(27,[]),0)]
set_option maxRecDepth 100000 in
theorem q426_ok : rf_chkB q426_P q426_U wLay q426_M ddX1_bucketOf [(8,[0]),(15,[1]),(24,[2])] [] [0,27,58] 600 q426_N = true := by decide +kernel
set_option maxHeartbeats 4000000 in
theorem q426_met {G : rfG} (h : okG G) : rf_met G q426_M := rf_methodB h.1 (P := q426_P) (U := q426_U) (N := q426_N) ⟨wflT h flokX1, wcsT h csokX1, wlcT h lcokX1, spokX1 h, List.forall_mem_cons.mpr ⟨q413_met h, List.forall_mem_cons.mpr ⟨q198_met h, List.forall_mem_cons.mpr ⟨q425_met h, fun _ h => absurd h List.not_mem_nil⟩⟩⟩, List.forall_mem_cons.mpr ⟨fun M hM => Option.some.inj (show some q413_M = some M from hM) ▸ wlkS (lkX1_61 h) q413_M rfl rfl, List.forall_mem_cons.mpr ⟨fun M hM => Option.some.inj (show some q198_M = some M from hM) ▸ wlkS (lkX1_65 h) q198_M rfl rfl, fun _ h => absurd h List.not_mem_nil⟩⟩, List.forall_mem_cons.mpr ⟨fun M hM => Option.some.inj (show some q425_M = some M from hM) ▸ wlkV (lkX1_68 h) q425_M rfl rfl, fun _ h => absurd h List.not_mem_nil⟩, fun _ h => absurd h List.not_mem_nil, fun _ h => absurd h List.not_mem_nil⟩ dkX1_bucketOf (by decide +kernel) (by rw [h.2.2.1]; exact q426_ok)
/-- NearSpell.bucket -/
def q427_M : rfM := ((⟨"NearSpell", "bucket", "(I)I"⟩, prog_1_method_17_code, 2, (some .int)), (4,94), ([.inr (.inl [70]),.inl (((-2147483648),2147483647,1),none)],[]), [(4,0),(5,13)], [(some (.inl (((-1),30,1),none)),[],[])])
def ddX11_bucket : List (Nat × Instr × Nat) := [(0,.iload_n 1,1),(1,.invokestatic 163,3),(4,.ifCond .eq 14,3),(7,.aload_n 0,1),(8,.getfield 16,3),(11,.iload_n 1,1),(12,.invokevirtual 223,3),(15,.goto 4,3),(18,.iconst (-1),1),(19,.ireturn,1)]
set_option maxRecDepth 100000 in
theorem dkX11_bucket : rf_decs prog_1_method_17_code ddX11_bucket := rf_decs_of (by decide +kernel)
def q427_P : rfP := (flX11,csX11,lcX11,spX11,[q170_M,q426_M],[(163,0)],[(223,1,1)],([],[]))
def q427_U : rfU := []
set_option maxHeartbeats 8000000 in
def q427_N : List rfB := [(0,([(0,.inr (.inl [70])),(1,.inl (((-2147483648),2147483647,1),none))],[],[]),(11,[]),0)]
set_option maxRecDepth 100000 in
theorem q427_ok : rf_chkB q427_P q427_U wLay q427_M ddX11_bucket [(1,[0]),(12,[1])] [] [0] 600 q427_N = true := by decide +kernel
set_option maxHeartbeats 4000000 in
theorem q427_met {G : rfG} (h : okG G) : rf_met G q427_M := rf_methodB h.1 (P := q427_P) (U := q427_U) (N := q427_N) ⟨wflT h flokX11, wcsT h csokX11, wlcT h lcokX11, spokX11 h, List.forall_mem_cons.mpr ⟨q170_met h, List.forall_mem_cons.mpr ⟨q426_met h, fun _ h => absurd h List.not_mem_nil⟩⟩, List.forall_mem_cons.mpr ⟨fun M hM => Option.some.inj (show some q170_M = some M from hM) ▸ wlkS (lkX11_163 h) q170_M rfl rfl, fun _ h => absurd h List.not_mem_nil⟩, List.forall_mem_cons.mpr ⟨fun M hM => Option.some.inj (show some q426_M = some M from hM) ▸ wlkV (lkX11_223 h) q426_M rfl rfl, fun _ h => absurd h List.not_mem_nil⟩, fun _ h => absurd h List.not_mem_nil, fun _ h => absurd h List.not_mem_nil⟩ dkX11_bucket (by decide +kernel) (by rw [h.2.2.1]; exact q427_ok)
/-- NearSpell.totalOf -/
def q428_M : rfM := ((⟨"NearSpell", "totalOf", "(I)I"⟩, prog_1_method_54_code, 4, (some .int)), (0,0), ([.inl (((-2147483648),2147483647,1),none)],[]), [], [(some (.inl (((-2147483648),2147483647,1),none)),[],[])])
def q428_P : rfP := (flX11,csX11,lcX11,spX11,[],[],[],([],[]))
def q428_U : rfU := []
set_option maxHeartbeats 8000000 in
def q428_N : List rfB := [(0,([(0,.inl (((-2147483648),2147483647,1),none))],[],[]),(133,[0]),0),
  (6,([(0,.inl (((-2147483648),2147483647,1),none)),(1,.inl (((-2147483648),2147483647,1),none)),(2,.inl (((-2147483648),2147483647,1),none)),(3,.inl ((0,6,1),none))],[],[]),(125,[(-18)]),0),
  (34,([(0,.inl (((-2147483648),2147483647,1),none)),(1,.inl (((-2147483648),2147483647,1),none)),(2,.inl (((-2147483648),2147483647,1),none)),(3,.inl ((0,6,1),none))],[],[]),(1,[0]),0)]
set_option maxRecDepth 100000 in
theorem q428_ok : rf_chkB q428_P q428_U wLay q428_M ddX11_totalOf [] [.inl 3] [0,6,34] 600 q428_N = true := by decide +kernel
set_option maxHeartbeats 4000000 in
theorem q428_met {G : rfG} (h : okG G) : rf_met G q428_M := rf_methodB h.1 (P := q428_P) (U := q428_U) (N := q428_N) ⟨wflT h flokX11, wcsT h csokX11, wlcT h lcokX11, spokX11 h, fun _ h => absurd h List.not_mem_nil, fun _ h => absurd h List.not_mem_nil, fun _ h => absurd h List.not_mem_nil, fun _ h => absurd h List.not_mem_nil, fun _ h => absurd h List.not_mem_nil⟩ dkX11_totalOf (by decide +kernel) (by rw [h.2.2.1]; exact q428_ok)
/-- NearSpell.beginningOf -/
def q429_M : rfM := ((⟨"NearSpell", "beginningOf", "(II)I"⟩, prog_1_method_55_code, 3, (some .int)), (1,21), ([.inl (((-2147483648),2147483647,1),none),.inl ((1,1,0),none)],[]), [], [(some (.inl (((-2147483648),2147483647,1),none)),[],[])])
def q429_P : rfP := (flX11,csX11,lcX11,spX11,[q111_M],[(148,0)],[],([],[]))
def q429_U : rfU := []
set_option maxHeartbeats 8000000 in
def q429_N : List rfB := [(0,([(0,.inl (((-2147483648),2147483647,1),none)),(1,.inl ((1,1,0),none))],[],[]),(17,[]),0),
  (28,([(0,.inl (((-2147483648),2147483647,1),none)),(1,.inl ((1,1,0),none)),(2,.inl (((-1),5,1),none))],[.inl (((-2147483648),2147483647,1),none)],[]),(0,[]),0)]
set_option maxRecDepth 100000 in
theorem q429_ok : rf_chkB q429_P q429_U wLay q429_M ddX11_beginningOf [(1,[0])] [] [0,28] 600 q429_N = true := by decide +kernel
set_option maxHeartbeats 4000000 in
theorem q429_met {G : rfG} (h : okG G) : rf_met G q429_M := rf_methodB h.1 (P := q429_P) (U := q429_U) (N := q429_N) ⟨wflT h flokX11, wcsT h csokX11, wlcT h lcokX11, spokX11 h, List.forall_mem_cons.mpr ⟨q111_met h, fun _ h => absurd h List.not_mem_nil⟩, List.forall_mem_cons.mpr ⟨fun M hM => Option.some.inj (show some q111_M = some M from hM) ▸ wlkS (lkX11_148 h) q111_M rfl rfl, fun _ h => absurd h List.not_mem_nil⟩, fun _ h => absurd h List.not_mem_nil, fun _ h => absurd h List.not_mem_nil, fun _ h => absurd h List.not_mem_nil⟩ dkX11_beginningOf (by decide +kernel) (by rw [h.2.2.1]; exact q429_ok)
/-- NearSpell.Book.push -/
def q430_M : rfM := ((⟨"NearSpell$Book", "push", "(I)V"⟩, prog_3_method_9_code, 2, none), (0,0), ([.inr (.inl [5]),.inl (((-2147483648),26,1),none)],[]), [(4,0),(5,13)], [(none,[],[((5,12),(1,32,1),none)])])
def q430_P : rfP := (flX1,csX1,lcX1,spX1,[],[],[],([],[]))
def q430_U : rfU := []
set_option maxHeartbeats 8000000 in
def q430_N : List rfB := [(0,([(0,.inr (.inl [5])),(1,.inl (((-2147483648),26,1),none))],[],[]),(19,[]),0),
  (36,([(0,.inr (.inl [5])),(1,.inl (((-2147483648),26,1),none))],[],[((5,12),(1,32,1),none)]),(0,[]),0)]
set_option maxRecDepth 100000 in
theorem q430_ok : rf_chkB q430_P q430_U wLay q430_M ddX1_push [] [] [0,36] 600 q430_N = true := by decide +kernel
set_option maxHeartbeats 4000000 in
theorem q430_met {G : rfG} (h : okG G) : rf_met G q430_M := rf_methodB h.1 (P := q430_P) (U := q430_U) (N := q430_N) ⟨wflT h flokX1, wcsT h csokX1, wlcT h lcokX1, spokX1 h, fun _ h => absurd h List.not_mem_nil, fun _ h => absurd h List.not_mem_nil, fun _ h => absurd h List.not_mem_nil, fun _ h => absurd h List.not_mem_nil, fun _ h => absurd h List.not_mem_nil⟩ dkX1_push (by decide +kernel) (by rw [h.2.2.1]; exact q430_ok)
/-- NearSpell.Book.work -/
def q431_M : rfM := ((⟨"NearSpell$Book", "work", "(I)I"⟩, prog_3_method_8_code, 9, (some .int)), (2,43), ([.inr (.inl [5]),.inl (((-2147483648),2147483647,1),none)],[]), [(4,0),(5,13)], [(some (.inl (((-2147483648),2147483647,1),none)),[],[((5,12),(0,31,1),none)])])
def q431_P : rfP := (flX1,csX1,lcX1,spX1,[q428_M,q111_M,q429_M,q415_M,q416_M,q417_M,q430_M,q419_M,q420_M,q421_M,q422_M,q423_M,q424_M],[(61,0),(65,1),(71,2),(85,8),(85,9),(89,12)],[(75,3,1),(75,4,1),(75,5,1),(75,6,1),(75,10,1),(75,11,1),(81,7,1)],([],[]))
def q431_U : rfU := []
set_option maxHeartbeats 8000000 in
def q431_N : List rfB := [(0,([(0,.inr (.inl [5])),(1,.inl (((-2147483648),2147483647,1),none))],[],[]),(21693,[0]),0),
  (31,([(0,.inr (.inl [5])),(1,.inl (((-2147483648),2147483647,1),none)),(2,.inl (((-2147483648),2147483647,1),none)),(3,.inl ((0,6,1),none)),(4,.inl (((-2147483648),2147483647,1),none)),(5,.inl (((-26),26,1),none)),(6,.inl ((0,300,1),none))],[],[]),(21672,[(-72)]),0),
  (176,([(0,.inr (.inl [5])),(1,.inl (((-2147483648),2147483647,1),none)),(2,.inl (((-2147483648),2147483647,1),none)),(3,.inl ((0,6,1),none)),(4,.inl (((-2147483648),2147483647,1),none)),(5,.inl (((-26),26,1),none)),(6,.inl ((0,299,1),none)),(7,.inl (((-2147483648),2147483647,1),none))],[],[((5,11),(1,300,1),none),((5,12),(1,32,1),none)]),(21603,[(-72)]),0),
  (151,([(0,.inr (.inl [5])),(1,.inl (((-2147483648),2147483647,1),none)),(2,.inl (((-2147483648),2147483647,1),none)),(3,.inl ((0,6,1),none)),(4,.inl (((-2147483648),2147483647,1),none)),(5,.inl (((-26),26,1),none)),(6,.inl ((0,299,1),none)),(7,.inl (((-9),(-9),1),none))],[],[((5,11),(1,300,1),none),((5,12),(1,32,1),none)]),(21624,[(-72)]),0)]
set_option maxRecDepth 100000 in
theorem q431_ok : rf_chkB q431_P q431_U wLay q431_M ddX1_work [(1,[0]),(6,[1]),(12,[2]),(57,[3]),(72,[4]),(87,[5]),(103,[4]),(119,[6]),(134,[7]),(145,[8,9]),(148,[10,11]),(155,[7]),(165,[7]),(170,[12]),(173,[4]),(183,[7])] [.inl 6] [0,31,151,176] 600 q431_N = true := by decide +kernel
set_option maxHeartbeats 4000000 in
theorem q431_met {G : rfG} (h : okG G) : rf_met G q431_M := rf_methodB h.1 (P := q431_P) (U := q431_U) (N := q431_N) ⟨wflT h flokX1, wcsT h csokX1, wlcT h lcokX1, spokX1 h, List.forall_mem_cons.mpr ⟨q428_met h, List.forall_mem_cons.mpr ⟨q111_met h, List.forall_mem_cons.mpr ⟨q429_met h, List.forall_mem_cons.mpr ⟨q415_met h, List.forall_mem_cons.mpr ⟨q416_met h, List.forall_mem_cons.mpr ⟨q417_met h, List.forall_mem_cons.mpr ⟨q430_met h, List.forall_mem_cons.mpr ⟨q419_met h, List.forall_mem_cons.mpr ⟨q420_met h, List.forall_mem_cons.mpr ⟨q421_met h, List.forall_mem_cons.mpr ⟨q422_met h, List.forall_mem_cons.mpr ⟨q423_met h, List.forall_mem_cons.mpr ⟨q424_met h, fun _ h => absurd h List.not_mem_nil⟩⟩⟩⟩⟩⟩⟩⟩⟩⟩⟩⟩⟩, List.forall_mem_cons.mpr ⟨fun M hM => Option.some.inj (show some q428_M = some M from hM) ▸ wlkS (lkX1_61 h) q428_M rfl rfl, List.forall_mem_cons.mpr ⟨fun M hM => Option.some.inj (show some q111_M = some M from hM) ▸ wlkS (lkX1_65 h) q111_M rfl rfl, List.forall_mem_cons.mpr ⟨fun M hM => Option.some.inj (show some q429_M = some M from hM) ▸ wlkS (lkX1_71 h) q429_M rfl rfl, List.forall_mem_cons.mpr ⟨fun M hM => Option.some.inj (show some q420_M = some M from hM) ▸ wlkS (lkX1_85 h) q420_M rfl rfl, List.forall_mem_cons.mpr ⟨fun M hM => Option.some.inj (show some q421_M = some M from hM) ▸ wlkS (lkX1_85 h) q421_M rfl rfl, List.forall_mem_cons.mpr ⟨fun M hM => Option.some.inj (show some q424_M = some M from hM) ▸ wlkS (lkX1_89 h) q424_M rfl rfl, fun _ h => absurd h List.not_mem_nil⟩⟩⟩⟩⟩⟩, List.forall_mem_cons.mpr ⟨fun M hM => Option.some.inj (show some q415_M = some M from hM) ▸ wlkV (lkX1_75 h) q415_M rfl rfl, List.forall_mem_cons.mpr ⟨fun M hM => Option.some.inj (show some q416_M = some M from hM) ▸ wlkV (lkX1_75 h) q416_M rfl rfl, List.forall_mem_cons.mpr ⟨fun M hM => Option.some.inj (show some q417_M = some M from hM) ▸ wlkV (lkX1_75 h) q417_M rfl rfl, List.forall_mem_cons.mpr ⟨fun M hM => Option.some.inj (show some q430_M = some M from hM) ▸ wlkV (lkX1_75 h) q430_M rfl rfl, List.forall_mem_cons.mpr ⟨fun M hM => Option.some.inj (show some q422_M = some M from hM) ▸ wlkV (lkX1_75 h) q422_M rfl rfl, List.forall_mem_cons.mpr ⟨fun M hM => Option.some.inj (show some q423_M = some M from hM) ▸ wlkV (lkX1_75 h) q423_M rfl rfl, List.forall_mem_cons.mpr ⟨fun M hM => Option.some.inj (show some q419_M = some M from hM) ▸ wlkV (lkX1_81 h) q419_M rfl rfl, fun _ h => absurd h List.not_mem_nil⟩⟩⟩⟩⟩⟩⟩, fun _ h => absurd h List.not_mem_nil, fun _ h => absurd h List.not_mem_nil⟩ dkX1_work (by decide +kernel) (by rw [h.2.2.1]; exact q431_ok)
/-- NearSpell.Book.bucketOf -/
def q432_M : rfM := ((⟨"NearSpell$Book", "bucketOf", "(I)I"⟩, prog_3_method_7_code, 4, (some .int)), (3,71), ([.inr (.inl [5]),.inl (((-2147483648),2147483647,1),none)],[]), [(4,0),(5,13)], [(some (.inl ((0,30,1),none)),[],[])])
def q432_P : rfP := (flX1,csX1,lcX1,spX1,[q428_M,q111_M,q431_M],[(61,0),(65,1)],[(68,2,1)],([],[]))
def q432_U : rfU := [(.inr (5,7),[(1,1),(2,2),(3,3),(4,4),(5,5),(6,6),(7,7),(8,8),(9,9),(10,10),(11,11),(12,12),(13,13),(14,14),(15,15),(16,16),(17,17),(18,18),(19,19),(20,20),(21,21),(22,22),(23,23),(24,24),(25,25),(26,26),(27,27),(28,28),(29,29),(30,30),(31,31)])]
set_option maxHeartbeats 8000000 in
def q432_N : List rfB := [(0,([(0,.inr (.inl [5])),(1,.inl (((-2147483648),2147483647,1),none))],[],[]),(988,[]),1000000),
  (27,([(0,.inr (.inl [5])),(1,.inl (((-2147483648),2147483647,1),none))],[.inl (((-2147483648),2147483647,1),none)],[((5,7),(19,19,1),none)]),(589,[]),0),
  (27,([(0,.inr (.inl [5])),(1,.inl (((-2147483648),2147483647,1),none))],[.inl (((-2147483648),2147483647,1),none)],[((5,7),(30,30,1),none)]),(941,[]),0),
  (27,([(0,.inr (.inl [5])),(1,.inl (((-2147483648),2147483647,1),none))],[.inl (((-2147483648),2147483647,1),none)],[((5,7),(5,5,1),none)]),(141,[]),0),
  (27,([(0,.inr (.inl [5])),(1,.inl (((-2147483648),2147483647,1),none))],[.inl (((-2147483648),2147483647,1),none)],[((5,7),(25,25,1),none)]),(781,[]),0),
  (27,([(0,.inr (.inl [5])),(1,.inl (((-2147483648),2147483647,1),none))],[.inl (((-2147483648),2147483647,1),none)],[((5,7),(24,24,1),none)]),(749,[]),0),
  (27,([(0,.inr (.inl [5])),(1,.inl (((-2147483648),2147483647,1),none))],[.inl (((-2147483648),2147483647,1),none)],[((5,7),(20,20,1),none)]),(621,[]),0),
  (27,([(0,.inr (.inl [5])),(1,.inl (((-2147483648),2147483647,1),none))],[.inl (((-2147483648),2147483647,1),none)],[((5,7),(26,26,1),none)]),(813,[]),0),
  (27,([(0,.inr (.inl [5])),(1,.inl (((-2147483648),2147483647,1),none))],[.inl (((-2147483648),2147483647,1),none)],[((5,7),(15,15,1),none)]),(461,[]),0),
  (27,([(0,.inr (.inl [5])),(1,.inl (((-2147483648),2147483647,1),none))],[.inl (((-2147483648),2147483647,1),none)],[((5,7),(1,1,1),none)]),(12,[]),0),
  (27,([(0,.inr (.inl [5])),(1,.inl (((-2147483648),2147483647,1),none))],[.inl (((-2147483648),2147483647,1),none)],[((5,7),(21,21,1),none)]),(653,[]),0),
  (27,([(0,.inr (.inl [5])),(1,.inl (((-2147483648),2147483647,1),none))],[.inl (((-2147483648),2147483647,1),none)],[((5,7),(16,16,1),none)]),(493,[]),0),
  (27,([(0,.inr (.inl [5])),(1,.inl (((-2147483648),2147483647,1),none))],[.inl (((-2147483648),2147483647,1),none)],[((5,7),(22,22,1),none)]),(685,[]),0),
  (27,([(0,.inr (.inl [5])),(1,.inl (((-2147483648),2147483647,1),none))],[.inl (((-2147483648),2147483647,1),none)],[((5,7),(11,11,1),none)]),(333,[]),0),
  (27,([(0,.inr (.inl [5])),(1,.inl (((-2147483648),2147483647,1),none))],[.inl (((-2147483648),2147483647,1),none)],[((5,7),(31,31,1),none)]),(973,[]),0),
  (27,([(0,.inr (.inl [5])),(1,.inl (((-2147483648),2147483647,1),none))],[.inl (((-2147483648),2147483647,1),none)],[((5,7),(6,6,1),none)]),(173,[]),0),
  (27,([(0,.inr (.inl [5])),(1,.inl (((-2147483648),2147483647,1),none))],[.inl (((-2147483648),2147483647,1),none)],[((5,7),(17,17,1),none)]),(525,[]),0),
  (27,([(0,.inr (.inl [5])),(1,.inl (((-2147483648),2147483647,1),none))],[.inl (((-2147483648),2147483647,1),none)],[((5,7),(12,12,1),none)]),(365,[]),0),
  (27,([(0,.inr (.inl [5])),(1,.inl (((-2147483648),2147483647,1),none))],[.inl (((-2147483648),2147483647,1),none)],[((5,7),(18,18,1),none)]),(557,[]),0),
  (27,([(0,.inr (.inl [5])),(1,.inl (((-2147483648),2147483647,1),none))],[.inl (((-2147483648),2147483647,1),none)],[((5,7),(7,7,1),none)]),(205,[]),0),
  (27,([(0,.inr (.inl [5])),(1,.inl (((-2147483648),2147483647,1),none))],[.inl (((-2147483648),2147483647,1),none)],[((5,7),(13,13,1),none)]),(397,[]),0),
  (27,([(0,.inr (.inl [5])),(1,.inl (((-2147483648),2147483647,1),none))],[.inl (((-2147483648),2147483647,1),none)],[((5,7),(27,27,1),none)]),(845,[]),0),
  (27,([(0,.inr (.inl [5])),(1,.inl (((-2147483648),2147483647,1),none))],[.inl (((-2147483648),2147483647,1),none)],[((5,7),(2,2,1),none)]),(45,[]),0),
  (27,([(0,.inr (.inl [5])),(1,.inl (((-2147483648),2147483647,1),none))],[.inl (((-2147483648),2147483647,1),none)],[((5,7),(8,8,1),none)]),(237,[]),0),
  (27,([(0,.inr (.inl [5])),(1,.inl (((-2147483648),2147483647,1),none))],[.inl (((-2147483648),2147483647,1),none)],[((5,7),(28,28,1),none)]),(877,[]),0),
  (27,([(0,.inr (.inl [5])),(1,.inl (((-2147483648),2147483647,1),none))],[.inl (((-2147483648),2147483647,1),none)],[((5,7),(3,3,1),none)]),(77,[]),0),
  (27,([(0,.inr (.inl [5])),(1,.inl (((-2147483648),2147483647,1),none))],[.inl (((-2147483648),2147483647,1),none)],[((5,7),(14,14,1),none)]),(429,[]),0),
  (27,([(0,.inr (.inl [5])),(1,.inl (((-2147483648),2147483647,1),none))],[.inl (((-2147483648),2147483647,1),none)],[((5,7),(23,23,1),none)]),(717,[]),0),
  (27,([(0,.inr (.inl [5])),(1,.inl (((-2147483648),2147483647,1),none))],[.inl (((-2147483648),2147483647,1),none)],[((5,7),(9,9,1),none)]),(269,[]),0),
  (27,([(0,.inr (.inl [5])),(1,.inl (((-2147483648),2147483647,1),none))],[.inl (((-2147483648),2147483647,1),none)],[((5,7),(29,29,1),none)]),(909,[]),0),
  (27,([(0,.inr (.inl [5])),(1,.inl (((-2147483648),2147483647,1),none))],[.inl (((-2147483648),2147483647,1),none)],[((5,7),(4,4,1),none)]),(109,[]),0),
  (27,([(0,.inr (.inl [5])),(1,.inl (((-2147483648),2147483647,1),none))],[.inl (((-2147483648),2147483647,1),none)],[((5,7),(10,10,1),none)]),(301,[]),0),
  (58,([(0,.inr (.inl [5])),(1,.inl (((-2147483648),2147483647,1),none)),(2,.inl (((-2147483648),2147483647,1),none)),(3,.inl (((-18),18,1),none))],[.inl ((0,18,1),none)],[((5,7),(19,19,1),none)]),(572,[]),0),
  (58,([(0,.inr (.inl [5])),(1,.inl (((-2147483648),2147483647,1),none)),(2,.inl (((-2147483648),2147483647,1),none)),(3,.inl (((-29),29,1),none))],[.inl ((0,29,1),none)],[((5,7),(30,30,1),none)]),(924,[]),0),
  (58,([(0,.inr (.inl [5])),(1,.inl (((-2147483648),2147483647,1),none)),(2,.inl (((-2147483648),2147483647,1),none)),(3,.inl (((-4),4,1),none))],[.inl ((0,4,1),none)],[((5,7),(5,5,1),none)]),(124,[]),0),
  (58,([(0,.inr (.inl [5])),(1,.inl (((-2147483648),2147483647,1),none)),(2,.inl (((-2147483648),2147483647,1),none)),(3,.inl (((-24),24,1),none))],[.inl ((0,24,1),none)],[((5,7),(25,25,1),none)]),(764,[]),0),
  (58,([(0,.inr (.inl [5])),(1,.inl (((-2147483648),2147483647,1),none)),(2,.inl (((-2147483648),2147483647,1),none)),(3,.inl (((-23),23,1),none))],[.inl ((0,23,1),none)],[((5,7),(24,24,1),none)]),(732,[]),0),
  (58,([(0,.inr (.inl [5])),(1,.inl (((-2147483648),2147483647,1),none)),(2,.inl (((-2147483648),2147483647,1),none)),(3,.inl (((-19),19,1),none))],[.inl ((0,19,1),none)],[((5,7),(20,20,1),none)]),(604,[]),0),
  (58,([(0,.inr (.inl [5])),(1,.inl (((-2147483648),2147483647,1),none)),(2,.inl (((-2147483648),2147483647,1),none)),(3,.inl (((-25),25,1),none))],[.inl ((0,25,1),none)],[((5,7),(26,26,1),none)]),(796,[]),0),
  (58,([(0,.inr (.inl [5])),(1,.inl (((-2147483648),2147483647,1),none)),(2,.inl (((-2147483648),2147483647,1),none)),(3,.inl (((-14),14,1),none))],[.inl ((0,14,1),none)],[((5,7),(15,15,1),none)]),(444,[]),0),
  (58,([(0,.inr (.inl [5])),(1,.inl (((-2147483648),2147483647,1),none)),(2,.inl (((-2147483648),2147483647,1),none)),(3,.inl (((-20),20,1),none))],[.inl ((0,20,1),none)],[((5,7),(21,21,1),none)]),(636,[]),0),
  (58,([(0,.inr (.inl [5])),(1,.inl (((-2147483648),2147483647,1),none)),(2,.inl (((-2147483648),2147483647,1),none)),(3,.inl (((-15),15,1),none))],[.inl ((0,15,1),none)],[((5,7),(16,16,1),none)]),(476,[]),0),
  (58,([(0,.inr (.inl [5])),(1,.inl (((-2147483648),2147483647,1),none)),(2,.inl (((-2147483648),2147483647,1),none)),(3,.inl (((-21),21,1),none))],[.inl ((0,21,1),none)],[((5,7),(22,22,1),none)]),(668,[]),0),
  (58,([(0,.inr (.inl [5])),(1,.inl (((-2147483648),2147483647,1),none)),(2,.inl (((-2147483648),2147483647,1),none)),(3,.inl (((-10),10,1),none))],[.inl ((0,10,1),none)],[((5,7),(11,11,1),none)]),(316,[]),0),
  (58,([(0,.inr (.inl [5])),(1,.inl (((-2147483648),2147483647,1),none)),(2,.inl (((-2147483648),2147483647,1),none)),(3,.inl (((-30),30,1),none))],[.inl ((0,30,1),none)],[((5,7),(31,31,1),none)]),(956,[]),0),
  (58,([(0,.inr (.inl [5])),(1,.inl (((-2147483648),2147483647,1),none)),(2,.inl (((-2147483648),2147483647,1),none)),(3,.inl (((-5),5,1),none))],[.inl ((0,5,1),none)],[((5,7),(6,6,1),none)]),(156,[]),0),
  (58,([(0,.inr (.inl [5])),(1,.inl (((-2147483648),2147483647,1),none)),(2,.inl (((-2147483648),2147483647,1),none)),(3,.inl (((-16),16,1),none))],[.inl ((0,16,1),none)],[((5,7),(17,17,1),none)]),(508,[]),0),
  (58,([(0,.inr (.inl [5])),(1,.inl (((-2147483648),2147483647,1),none)),(2,.inl (((-2147483648),2147483647,1),none)),(3,.inl (((-11),11,1),none))],[.inl ((0,11,1),none)],[((5,7),(12,12,1),none)]),(348,[]),0),
  (58,([(0,.inr (.inl [5])),(1,.inl (((-2147483648),2147483647,1),none)),(2,.inl (((-2147483648),2147483647,1),none)),(3,.inl (((-17),17,1),none))],[.inl ((0,17,1),none)],[((5,7),(18,18,1),none)]),(540,[]),0),
  (58,([(0,.inr (.inl [5])),(1,.inl (((-2147483648),2147483647,1),none)),(2,.inl (((-2147483648),2147483647,1),none)),(3,.inl (((-6),6,1),none))],[.inl ((0,6,1),none)],[((5,7),(7,7,1),none)]),(188,[]),0),
  (58,([(0,.inr (.inl [5])),(1,.inl (((-2147483648),2147483647,1),none)),(2,.inl (((-2147483648),2147483647,1),none)),(3,.inl (((-12),12,1),none))],[.inl ((0,12,1),none)],[((5,7),(13,13,1),none)]),(380,[]),0),
  (58,([(0,.inr (.inl [5])),(1,.inl (((-2147483648),2147483647,1),none)),(2,.inl (((-2147483648),2147483647,1),none)),(3,.inl (((-26),26,1),none))],[.inl ((0,26,1),none)],[((5,7),(27,27,1),none)]),(828,[]),0),
  (58,([(0,.inr (.inl [5])),(1,.inl (((-2147483648),2147483647,1),none)),(2,.inl (((-2147483648),2147483647,1),none)),(3,.inl (((-1),(-1),1),none))],[.inl ((1,1,1),some (.inl 3,some 2))],[((5,7),(2,2,1),none)]),(29,[]),0),
  (58,([(0,.inr (.inl [5])),(1,.inl (((-2147483648),2147483647,1),none)),(2,.inl (((-2147483648),2147483647,1),none)),(3,.inl (((-7),7,1),none))],[.inl ((0,7,1),none)],[((5,7),(8,8,1),none)]),(220,[]),0),
  (58,([(0,.inr (.inl [5])),(1,.inl (((-2147483648),2147483647,1),none)),(2,.inl (((-2147483648),2147483647,1),none)),(3,.inl (((-27),27,1),none))],[.inl ((0,27,1),none)],[((5,7),(28,28,1),none)]),(860,[]),0),
  (58,([(0,.inr (.inl [5])),(1,.inl (((-2147483648),2147483647,1),none)),(2,.inl (((-2147483648),2147483647,1),none)),(3,.inl (((-2),2,1),none))],[.inl ((0,2,1),none)],[((5,7),(3,3,1),none)]),(60,[]),0),
  (58,([(0,.inr (.inl [5])),(1,.inl (((-2147483648),2147483647,1),none)),(2,.inl (((-2147483648),2147483647,1),none)),(3,.inl (((-13),13,1),none))],[.inl ((0,13,1),none)],[((5,7),(14,14,1),none)]),(412,[]),0),
  (58,([(0,.inr (.inl [5])),(1,.inl (((-2147483648),2147483647,1),none)),(2,.inl (((-2147483648),2147483647,1),none)),(3,.inl (((-22),22,1),none))],[.inl ((0,22,1),none)],[((5,7),(23,23,1),none)]),(700,[]),0),
  (58,([(0,.inr (.inl [5])),(1,.inl (((-2147483648),2147483647,1),none)),(2,.inl (((-2147483648),2147483647,1),none)),(3,.inl (((-8),8,1),none))],[.inl ((0,8,1),none)],[((5,7),(9,9,1),none)]),(252,[]),0),
  (58,([(0,.inr (.inl [5])),(1,.inl (((-2147483648),2147483647,1),none)),(2,.inl (((-2147483648),2147483647,1),none)),(3,.inl (((-28),28,1),none))],[.inl ((0,28,1),none)],[((5,7),(29,29,1),none)]),(892,[]),0),
  (58,([(0,.inr (.inl [5])),(1,.inl (((-2147483648),2147483647,1),none)),(2,.inl (((-2147483648),2147483647,1),none)),(3,.inl (((-3),3,1),none))],[.inl ((0,3,1),none)],[((5,7),(4,4,1),none)]),(92,[]),0),
  (58,([(0,.inr (.inl [5])),(1,.inl (((-2147483648),2147483647,1),none)),(2,.inl (((-2147483648),2147483647,1),none)),(3,.inl (((-9),9,1),none))],[.inl ((0,9,1),none)],[((5,7),(10,10,1),none)]),(284,[]),0),
  (58,([(0,.inr (.inl [5])),(1,.inl (((-2147483648),2147483647,1),none)),(2,.inl (((-2147483648),2147483647,1),none)),(3,.inl ((0,0,1),none))],[.inl ((0,0,1),some (.inl 3,some 0))],[((5,7),(1,1,1),none)]),(0,[]),0),
  (58,([(0,.inr (.inl [5])),(1,.inl (((-2147483648),2147483647,1),none)),(2,.inl (((-2147483648),2147483647,1),none)),(3,.inl ((0,1,1),none))],[.inl ((0,1,1),some (.inl 3,some 0))],[((5,7),(2,2,1),none)]),(27,[]),0)]
set_option maxRecDepth 100000 in
theorem q432_ok : rf_chkB q432_P q432_U wLay q432_M ddX1_bucketOf [(8,[0]),(15,[1]),(24,[2])] [] [0,27,58] 600 q432_N = true := by decide +kernel
set_option maxHeartbeats 4000000 in
theorem q432_met {G : rfG} (h : okG G) : rf_met G q432_M := rf_methodB h.1 (P := q432_P) (U := q432_U) (N := q432_N) ⟨wflT h flokX1, wcsT h csokX1, wlcT h lcokX1, spokX1 h, List.forall_mem_cons.mpr ⟨q428_met h, List.forall_mem_cons.mpr ⟨q111_met h, List.forall_mem_cons.mpr ⟨q431_met h, fun _ h => absurd h List.not_mem_nil⟩⟩⟩, List.forall_mem_cons.mpr ⟨fun M hM => Option.some.inj (show some q428_M = some M from hM) ▸ wlkS (lkX1_61 h) q428_M rfl rfl, List.forall_mem_cons.mpr ⟨fun M hM => Option.some.inj (show some q111_M = some M from hM) ▸ wlkS (lkX1_65 h) q111_M rfl rfl, fun _ h => absurd h List.not_mem_nil⟩⟩, List.forall_mem_cons.mpr ⟨fun M hM => Option.some.inj (show some q431_M = some M from hM) ▸ wlkV (lkX1_68 h) q431_M rfl rfl, fun _ h => absurd h List.not_mem_nil⟩, fun _ h => absurd h List.not_mem_nil, fun _ h => absurd h List.not_mem_nil⟩ dkX1_bucketOf (by decide +kernel) (by rw [h.2.2.1]; exact q432_ok)
/-- NearSpell.FormList.bucketBits -/
def q433_M : rfM := ((⟨"NearSpell$FormList", "bucketBits", "(LNearSpell$Book;)I"⟩, prog_5_method_7_code, 4, (some .int)), (4,94), ([.inr (.inl [50]),.inr (.inl [5])],[]), [(4,0),(5,13)], [(some (.inl ((0,2147483647,1),none)),[],[])])
def ddX3_bucketBits : List (Nat × Instr × Nat) := [(0,.iconst 0,1),(1,.istore_n 2,1),(2,.iconst 0,1),(3,.istore_n 3,1),(4,.iload_n 3,1),(5,.aload_n 0,1),(6,.getfield 15,3),(9,.if_icmp .ge 24,3),(12,.iload_n 2,1),(13,.iconst 1,1),(14,.aload_n 1,1),(15,.aload_n 0,1),(16,.getfield 9,3),(19,.iload_n 3,1),(20,.iaload,1),(21,.invokevirtual 50,3),(24,.ishl,1),(25,.ior,1),(26,.istore_n 2,1),(27,.iinc 3 1,3),(30,.goto (-26),3),(33,.iload_n 2,1),(34,.ireturn,1)]
set_option maxRecDepth 100000 in
theorem dkX3_bucketBits : rf_decs prog_5_method_7_code ddX3_bucketBits := rf_decs_of (by decide +kernel)
def q433_P : rfP := (flX3,csX3,lcX3,spX3,[q432_M],[],[(50,0,1)],([],[]))
def q433_U : rfU := []
set_option maxHeartbeats 8000000 in
def q433_N : List rfB := [(0,([(0,.inr (.inl [50])),(1,.inr (.inl [5]))],[],[]),(419,[0]),0),
  (4,([(0,.inr (.inl [50])),(1,.inr (.inl [5])),(2,.inl ((0,2147483647,1),none)),(3,.inl ((0,22,1),none))],[],[]),(413,[(-18)]),0)]
set_option maxRecDepth 100000 in
theorem q433_ok : rf_chkB q433_P q433_U wLay q433_M ddX3_bucketBits [(21,[0])] [.inl 3] [0,4] 600 q433_N = true := by decide +kernel
set_option maxHeartbeats 4000000 in
theorem q433_met {G : rfG} (h : okG G) : rf_met G q433_M := rf_methodB h.1 (P := q433_P) (U := q433_U) (N := q433_N) ⟨wflT h flokX3, wcsT h csokX3, wlcT h lcokX3, spokX3 h, List.forall_mem_cons.mpr ⟨q432_met h, fun _ h => absurd h List.not_mem_nil⟩, fun _ h => absurd h List.not_mem_nil, List.forall_mem_cons.mpr ⟨fun M hM => Option.some.inj (show some q432_M = some M from hM) ▸ wlkV (lkX3_50 h) q432_M rfl rfl, fun _ h => absurd h List.not_mem_nil⟩, fun _ h => absurd h List.not_mem_nil, fun _ h => absurd h List.not_mem_nil⟩ dkX3_bucketBits (by decide +kernel) (by rw [h.2.2.1]; exact q433_ok)
/-- NearSpell.FormList.bucketBits -/
def q434_M : rfM := ((⟨"NearSpell$FormList", "bucketBits", "(LNearSpell$Book;)I"⟩, prog_5_method_7_code, 4, (some .int)), (4,94), ([.inr (.inl [22,24,26,28,30,32,34,36,38,40,42,44,46,48]),.inr (.inl [5])],[]), [(4,0),(5,13)], [(some (.inl ((0,2147483647,1),none)),[],[])])
def q434_P : rfP := (flX3,csX3,lcX3,spX3,[q432_M],[],[(50,0,1)],([],[]))
def q434_U : rfU := []
set_option maxHeartbeats 8000000 in
def q434_N : List rfB := [(0,([(0,.inr (.inl [22,24,26,28,30,32,34,36,38,40,42,44,46,48])),(1,.inr (.inl [5]))],[],[]),(5880,[0]),2000000),
  (4,([(0,.inr (.inl [40])),(1,.inr (.inl [5])),(2,.inl ((0,2147483647,1),none)),(3,.inl ((0,22,1),none))],[],[]),(4193,[(-18)]),0),
  (4,([(0,.inr (.inl [24])),(1,.inr (.inl [5])),(2,.inl ((0,2147483647,1),none)),(3,.inl ((0,22,1),none))],[],[]),(833,[(-18)]),0),
  (4,([(0,.inr (.inl [34])),(1,.inr (.inl [5])),(2,.inl ((0,2147483647,1),none)),(3,.inl ((0,22,1),none))],[],[]),(2933,[(-18)]),0),
  (4,([(0,.inr (.inl [42])),(1,.inr (.inl [5])),(2,.inl ((0,2147483647,1),none)),(3,.inl ((0,22,1),none))],[],[]),(4613,[(-18)]),0),
  (4,([(0,.inr (.inl [32])),(1,.inr (.inl [5])),(2,.inl ((0,2147483647,1),none)),(3,.inl ((0,22,1),none))],[],[]),(2513,[(-18)]),0),
  (4,([(0,.inr (.inl [26])),(1,.inr (.inl [5])),(2,.inl ((0,2147483647,1),none)),(3,.inl ((0,22,1),none))],[],[]),(1253,[(-18)]),0),
  (4,([(0,.inr (.inl [44])),(1,.inr (.inl [5])),(2,.inl ((0,2147483647,1),none)),(3,.inl ((0,22,1),none))],[],[]),(5033,[(-18)]),0),
  (4,([(0,.inr (.inl [22])),(1,.inr (.inl [5])),(2,.inl ((0,2147483647,1),none)),(3,.inl ((0,22,1),none))],[],[]),(413,[(-18)]),0),
  (4,([(0,.inr (.inl [46])),(1,.inr (.inl [5])),(2,.inl ((0,2147483647,1),none)),(3,.inl ((0,22,1),none))],[],[]),(5453,[(-18)]),0),
  (4,([(0,.inr (.inl [48])),(1,.inr (.inl [5])),(2,.inl ((0,2147483647,1),none)),(3,.inl ((0,22,1),none))],[],[]),(5873,[(-18)]),0),
  (4,([(0,.inr (.inl [38])),(1,.inr (.inl [5])),(2,.inl ((0,2147483647,1),none)),(3,.inl ((0,22,1),none))],[],[]),(3773,[(-18)]),0),
  (4,([(0,.inr (.inl [30])),(1,.inr (.inl [5])),(2,.inl ((0,2147483647,1),none)),(3,.inl ((0,22,1),none))],[],[]),(2093,[(-18)]),0),
  (4,([(0,.inr (.inl [28])),(1,.inr (.inl [5])),(2,.inl ((0,2147483647,1),none)),(3,.inl ((0,22,1),none))],[],[]),(1673,[(-18)]),0),
  (4,([(0,.inr (.inl [36])),(1,.inr (.inl [5])),(2,.inl ((0,2147483647,1),none)),(3,.inl ((0,22,1),none))],[],[]),(3353,[(-18)]),0)]
set_option maxRecDepth 100000 in
theorem q434_ok : rf_chkB q434_P q434_U wLay q434_M ddX3_bucketBits [(21,[0])] [.inl 3] [0,4] 600 q434_N = true := by decide +kernel
set_option maxHeartbeats 4000000 in
theorem q434_met {G : rfG} (h : okG G) : rf_met G q434_M := rf_methodB h.1 (P := q434_P) (U := q434_U) (N := q434_N) ⟨wflT h flokX3, wcsT h csokX3, wlcT h lcokX3, spokX3 h, List.forall_mem_cons.mpr ⟨q432_met h, fun _ h => absurd h List.not_mem_nil⟩, fun _ h => absurd h List.not_mem_nil, List.forall_mem_cons.mpr ⟨fun M hM => Option.some.inj (show some q432_M = some M from hM) ▸ wlkV (lkX3_50 h) q432_M rfl rfl, fun _ h => absurd h List.not_mem_nil⟩, fun _ h => absurd h List.not_mem_nil, fun _ h => absurd h List.not_mem_nil⟩ dkX3_bucketBits (by decide +kernel) (by rw [h.2.2.1]; exact q434_ok)
/-- NearSpell.Finder.metBy -/
def q435_M : rfM := ((⟨"NearSpell$Finder", "metBy", "(I)I"⟩, prog_4_method_2_code, 5, (some .int)), (5,117), ([.inr (.inl [55]),.inl ((0,387420488,1),none)],[]), [(4,0),(5,13),(21,0),(22,2),(22,3),(22,4),(22,5),(23,0),(24,2),(24,3),(24,4),(24,5),(25,0),(26,2),(26,3),(26,4),(26,5),(27,0),(28,2),(28,3),(28,4),(28,5),(29,0),(30,2),(30,3),(30,4),(30,5),(31,0),(32,2),(32,3),(32,4),(32,5),(33,0),(34,2),(34,3),(34,4),(34,5),(35,0),(36,2),(36,3),(36,4),(36,5),(37,0),(38,2),(38,3),(38,4),(38,5),(39,0),(40,2),(40,3),(40,4),(40,5),(41,0),(42,2),(42,3),(42,4),(42,5),(43,0),(44,2),(44,3),(44,4),(44,5),(45,0),(46,2),(46,3),(46,4),(46,5),(47,0),(48,2),(48,3),(48,4),(48,5),(49,0),(50,2),(50,3),(50,4),(50,5)], [(some (.inl ((0,16383,1),none)),[],[((50,2),(0,387420488,1),none),((50,3),(1,6,1),none),((50,4),(0,2,1),none)])])
def ddX2_metBy : List (Nat × Instr × Nat) := [(0,.aload_n 0,1),(1,.getfield 19,3),(4,.iload_n 1,1),(5,.invokevirtual 31,3),(8,.aload_n 0,1),(9,.getfield 9,3),(12,.invokevirtual 37,3),(15,.istore_n 2,1),(16,.iconst 0,1),(17,.istore_n 3,1),(18,.iconst 0,1),(19,.istore 4,2),(21,.iload 4,2),(23,.aload_n 0,1),(24,.getfield 15,3),(27,.invokevirtual 43,3),(30,.if_icmp .ge 49,3),(33,.aload_n 0,1),(34,.getfield 15,3),(37,.iload 4,2),(39,.invokevirtual 49,3),(42,.ifCond .eq 31,3),(45,.aload_n 0,1),(46,.getfield 19,3),(49,.iload 4,2),(51,.invokevirtual 53,3),(54,.aload_n 0,1),(55,.getfield 9,3),(58,.invokevirtual 37,3),(61,.iload_n 2,1),(62,.iand,1),(63,.ifCond .eq 10,3),(66,.iload_n 3,1),(67,.iconst 1,1),(68,.iload 4,2),(70,.ishl,1),(71,.ior,1),(72,.istore_n 3,1),(73,.iinc 4 1,3),(76,.goto (-55),3),(79,.iload_n 3,1),(80,.ireturn,1)]
set_option maxRecDepth 100000 in
theorem dkX2_metBy : rf_decs prog_4_method_2_code ddX2_metBy := rf_decs_of (by decide +kernel)
def q435_P : rfP := (flX2,csX2,lcX2,spX2,[q215_M,q433_M,q187_M,q185_M,q168_M,q434_M],[],[(31,0,4),(37,1,3),(37,5,3),(43,2,8),(49,3,8),(53,4,4)],([],[]))
def q435_U : rfU := []
set_option maxHeartbeats 8000000 in
def q435_N : List rfB := [(0,([(0,.inr (.inl [55])),(1,.inl ((0,387420488,1),none))],[],[]),(463,[0]),0),
  (21,([(0,.inr (.inl [55])),(1,.inl ((0,387420488,1),none)),(2,.inl ((0,2147483647,1),none)),(3,.inl ((0,16383,1),none)),(4,.inl ((0,14,1),none))],[],[((50,2),(0,387420488,1),none),((50,3),(1,6,1),none),((50,4),(0,2,1),none)]),(449,[(-30)]),0),
  (73,([(0,.inr (.inl [55])),(1,.inl ((0,387420488,1),none)),(2,.inl ((0,2147483647,1),none)),(3,.inl ((0,16383,1),none)),(4,.inl ((0,13,1),none))],[],[((50,2),(0,387420488,1),none),((50,3),(1,6,1),none),((50,4),(0,2,1),none)]),(422,[(-30)]),0)]
set_option maxRecDepth 100000 in
theorem q435_ok : rf_chkB q435_P q435_U wLay q435_M ddX2_metBy [(5,[0]),(12,[1]),(27,[2]),(39,[3]),(51,[4]),(58,[5])] [.inl 4] [0,21,73] 600 q435_N = true := by decide +kernel
set_option maxHeartbeats 4000000 in
theorem q435_met {G : rfG} (h : okG G) : rf_met G q435_M := rf_methodB h.1 (P := q435_P) (U := q435_U) (N := q435_N) ⟨wflT h flokX2, wcsT h csokX2, wlcT h lcokX2, spokX2 h, List.forall_mem_cons.mpr ⟨q215_met h, List.forall_mem_cons.mpr ⟨q433_met h, List.forall_mem_cons.mpr ⟨q187_met h, List.forall_mem_cons.mpr ⟨q185_met h, List.forall_mem_cons.mpr ⟨q168_met h, List.forall_mem_cons.mpr ⟨q434_met h, fun _ h => absurd h List.not_mem_nil⟩⟩⟩⟩⟩⟩, fun _ h => absurd h List.not_mem_nil, List.forall_mem_cons.mpr ⟨fun M hM => Option.some.inj (show some q215_M = some M from hM) ▸ wlkV (lkX2_31 h) q215_M rfl rfl, List.forall_mem_cons.mpr ⟨fun M hM => Option.some.inj (show some q433_M = some M from hM) ▸ wlkV (lkX2_37 h) q433_M rfl rfl, List.forall_mem_cons.mpr ⟨fun M hM => Option.some.inj (show some q434_M = some M from hM) ▸ wlkV (lkX2_37 h) q434_M rfl rfl, List.forall_mem_cons.mpr ⟨fun M hM => Option.some.inj (show some q187_M = some M from hM) ▸ wlkV (lkX2_43 h) q187_M rfl rfl, List.forall_mem_cons.mpr ⟨fun M hM => Option.some.inj (show some q185_M = some M from hM) ▸ wlkV (lkX2_49 h) q185_M rfl rfl, List.forall_mem_cons.mpr ⟨fun M hM => Option.some.inj (show some q168_M = some M from hM) ▸ wlkV (lkX2_53 h) q168_M rfl rfl, fun _ h => absurd h List.not_mem_nil⟩⟩⟩⟩⟩⟩, fun _ h => absurd h List.not_mem_nil, fun _ h => absurd h List.not_mem_nil⟩ dkX2_metBy (by decide +kernel) (by rw [h.2.2.1]; exact q435_ok)
/-- NearSpell.met -/
def q436_M : rfM := ((⟨"NearSpell", "met", "(II)I"⟩, prog_1_method_18_code, 3, (some .int)), (6,141), ([.inr (.inl [70]),.inl (((-2147483648),2147483647,1),none),.inl (((-2147483648),2147483647,1),none)],[]), [(4,0),(5,13),(21,0),(22,2),(22,3),(22,4),(22,5),(23,0),(24,2),(24,3),(24,4),(24,5),(25,0),(26,2),(26,3),(26,4),(26,5),(27,0),(28,2),(28,3),(28,4),(28,5),(29,0),(30,2),(30,3),(30,4),(30,5),(31,0),(32,2),(32,3),(32,4),(32,5),(33,0),(34,2),(34,3),(34,4),(34,5),(35,0),(36,2),(36,3),(36,4),(36,5),(37,0),(38,2),(38,3),(38,4),(38,5),(39,0),(40,2),(40,3),(40,4),(40,5),(41,0),(42,2),(42,3),(42,4),(42,5),(43,0),(44,2),(44,3),(44,4),(44,5),(45,0),(46,2),(46,3),(46,4),(46,5),(47,0),(48,2),(48,3),(48,4),(48,5),(49,0),(50,2),(50,3),(50,4),(50,5)], [(some (.inl (((-1),16383,1),none)),[],[])])
def ddX11_met : List (Nat × Instr × Nat) := [(0,.iload_n 1,1),(1,.invokestatic 163,3),(4,.ifCond .ne 5,3),(7,.iconst (-1),1),(8,.ireturn,1),(9,.iload_n 2,1),(10,.tableswitch 64 0 2 #[26, 35, 44],26),(36,.aload_n 0,1),(37,.getfield 67,3),(40,.iload_n 1,1),(41,.invokevirtual 226,3),(44,.ireturn,1),(45,.aload_n 0,1),(46,.getfield 67,3),(49,.iload_n 1,1),(50,.invokevirtual 229,3),(53,.ireturn,1),(54,.aload_n 0,1),(55,.getfield 67,3),(58,.iload_n 1,1),(59,.invokevirtual 226,3),(62,.aload_n 0,1),(63,.getfield 67,3),(66,.iload_n 1,1),(67,.invokevirtual 229,3),(70,.iconst (-1),1),(71,.ixor,1),(72,.iand,1),(73,.ireturn,1),(74,.iconst (-1),1),(75,.ireturn,1)]
set_option maxRecDepth 100000 in
theorem dkX11_met : rf_decs prog_1_method_18_code ddX11_met := rf_decs_of (by decide +kernel)
def q436_P : rfP := (flX11,csX11,lcX11,spX11,[q170_M,q435_M,q223_M],[(163,0)],[(226,1,2),(229,2,2)],([],[]))
def q436_U : rfU := []
set_option maxHeartbeats 8000000 in
def q436_N : List rfB := [(0,([(0,.inr (.inl [70])),(1,.inl (((-2147483648),2147483647,1),none)),(2,.inl (((-2147483648),2147483647,1),none))],[],[]),(31,[]),0)]
set_option maxRecDepth 100000 in
theorem q436_ok : rf_chkB q436_P q436_U wLay q436_M ddX11_met [(1,[0]),(41,[1]),(50,[2]),(59,[1]),(67,[2])] [] [0] 600 q436_N = true := by decide +kernel
set_option maxHeartbeats 4000000 in
theorem q436_met {G : rfG} (h : okG G) : rf_met G q436_M := rf_methodB h.1 (P := q436_P) (U := q436_U) (N := q436_N) ⟨wflT h flokX11, wcsT h csokX11, wlcT h lcokX11, spokX11 h, List.forall_mem_cons.mpr ⟨q170_met h, List.forall_mem_cons.mpr ⟨q435_met h, List.forall_mem_cons.mpr ⟨q223_met h, fun _ h => absurd h List.not_mem_nil⟩⟩⟩, List.forall_mem_cons.mpr ⟨fun M hM => Option.some.inj (show some q170_M = some M from hM) ▸ wlkS (lkX11_163 h) q170_M rfl rfl, fun _ h => absurd h List.not_mem_nil⟩, List.forall_mem_cons.mpr ⟨fun M hM => Option.some.inj (show some q435_M = some M from hM) ▸ wlkV (lkX11_226 h) q435_M rfl rfl, List.forall_mem_cons.mpr ⟨fun M hM => Option.some.inj (show some q223_M = some M from hM) ▸ wlkV (lkX11_229 h) q223_M rfl rfl, fun _ h => absurd h List.not_mem_nil⟩⟩, fun _ h => absurd h List.not_mem_nil, fun _ h => absurd h List.not_mem_nil⟩ dkX11_met (by decide +kernel) (by rw [h.2.2.1]; exact q436_ok)
/-- NearSpell.isApart -/
def q437_M : rfM := ((⟨"NearSpell", "isApart", "(I)Z"⟩, prog_1_method_50_code, 1, (some .boolean)), (0,0), ([.inl (((-2147483648),2147483647,1),none)],[]), [], [(some (.inl ((1,1,0),none)),[(0,0,6)],[]),(some (.inl ((0,0,0),none)),[],[])])
def ddX11_isApart : List (Nat × Instr × Nat) := [(0,.iload_n 0,1),(1,.ifCond .lt 13,3),(4,.iload_n 0,1),(5,.bipush 6,2),(7,.if_icmp .gt 7,3),(10,.iconst 1,1),(11,.goto 4,3),(14,.iconst 0,1),(15,.ireturn,1)]
set_option maxRecDepth 100000 in
theorem dkX11_isApart : rf_decs prog_1_method_50_code ddX11_isApart := rf_decs_of (by decide +kernel)
def q437_P : rfP := (flX11,csX11,lcX11,spX11,[],[],[],([],[]))
def q437_U : rfU := []
set_option maxHeartbeats 8000000 in
def q437_N : List rfB := [(0,([(0,.inl (((-2147483648),2147483647,1),none))],[],[]),(9,[]),0),
  (14,([(0,.inl (((-2147483648),2147483647,1),none))],[],[]),(1,[]),0)]
set_option maxRecDepth 100000 in
theorem q437_ok : rf_chkB q437_P q437_U wLay q437_M ddX11_isApart [] [] [0,14] 600 q437_N = true := by decide +kernel
set_option maxHeartbeats 4000000 in
theorem q437_met {G : rfG} (h : okG G) : rf_met G q437_M := rf_methodB h.1 (P := q437_P) (U := q437_U) (N := q437_N) ⟨wflT h flokX11, wcsT h csokX11, wlcT h lcokX11, spokX11 h, fun _ h => absurd h List.not_mem_nil, fun _ h => absurd h List.not_mem_nil, fun _ h => absurd h List.not_mem_nil, fun _ h => absurd h List.not_mem_nil, fun _ h => absurd h List.not_mem_nil⟩ dkX11_isApart (by decide +kernel) (by rw [h.2.2.1]; exact q437_ok)
/-- NearSpell.Finder.within -/
def q438_M : rfM := ((⟨"NearSpell$Finder", "within", "(II)I"⟩, prog_4_method_4_code, 5, (some .int)), (4,91), ([.inr (.inl [55]),.inl ((0,387420488,1),none),.inl ((0,6,1),none)],[]), [(17,0),(18,0),(19,0),(20,4),(20,5),(54,0)], [(some (.inl ((0,16383,1),none)),[],[((20,3),(0,6,1),none),((20,4),(0,6,1),none)])])
def q438_P : rfP := (flX2,csX2,lcX2,spX2,[q200_M,q187_M,q185_M,q110_M,q208_M],[],[(43,1,8),(49,2,8),(60,0,7),(66,3,8),(70,4,7)],([],[]))
def q438_U : rfU := []
set_option maxHeartbeats 8000000 in
def q438_N : List rfB := [(0,([(0,.inr (.inl [55])),(1,.inl ((0,387420488,1),none)),(2,.inl ((0,6,1),none))],[],[]),(654,[0]),0),
  (13,([(0,.inr (.inl [55])),(1,.inl ((0,387420488,1),none)),(2,.inl ((0,6,1),none)),(3,.inl ((0,16383,1),none)),(4,.inl ((0,14,1),none))],[],[((20,3),(0,6,1),none),((20,4),(0,6,1),none)]),(644,[(-43)]),0),
  (89,([(0,.inr (.inl [55])),(1,.inl ((0,387420488,1),none)),(2,.inl ((0,6,1),none)),(3,.inl ((0,16383,1),none)),(4,.inl ((0,13,1),none))],[],[((20,3),(0,6,1),none),((20,4),(0,6,1),none)]),(604,[(-43)]),0),
  (88,([(0,.inr (.inl [55])),(1,.inl ((0,387420488,1),none)),(2,.inl ((0,6,1),none)),(3,.inl ((0,16383,1),none)),(4,.inl ((0,13,1),none))],[.inl ((0,16383,1),none)],[((12,34),(1,14,1),none),((20,3),(0,6,1),none),((20,4),(0,6,1),none)]),(606,[(-43)]),0)]
set_option maxRecDepth 100000 in
theorem q438_ok : rf_chkB q438_P q438_U wLay q438_M ddX2_within [(5,[0]),(19,[1]),(38,[2]),(60,[3]),(63,[4])] [.inl 4] [0,13,88,89] 600 q438_N = true := by decide +kernel
set_option maxHeartbeats 4000000 in
theorem q438_met {G : rfG} (h : okG G) : rf_met G q438_M := rf_methodB h.1 (P := q438_P) (U := q438_U) (N := q438_N) ⟨wflT h flokX2, wcsT h csokX2, wlcT h lcokX2, spokX2 h, List.forall_mem_cons.mpr ⟨q200_met h, List.forall_mem_cons.mpr ⟨q187_met h, List.forall_mem_cons.mpr ⟨q185_met h, List.forall_mem_cons.mpr ⟨q110_met h, List.forall_mem_cons.mpr ⟨q208_met h, fun _ h => absurd h List.not_mem_nil⟩⟩⟩⟩⟩, fun _ h => absurd h List.not_mem_nil, List.forall_mem_cons.mpr ⟨fun M hM => Option.some.inj (show some q187_M = some M from hM) ▸ wlkV (lkX2_43 h) q187_M rfl rfl, List.forall_mem_cons.mpr ⟨fun M hM => Option.some.inj (show some q185_M = some M from hM) ▸ wlkV (lkX2_49 h) q185_M rfl rfl, List.forall_mem_cons.mpr ⟨fun M hM => Option.some.inj (show some q200_M = some M from hM) ▸ wlkV (lkX2_60 h) q200_M rfl rfl, List.forall_mem_cons.mpr ⟨fun M hM => Option.some.inj (show some q110_M = some M from hM) ▸ wlkV (lkX2_66 h) q110_M rfl rfl, List.forall_mem_cons.mpr ⟨fun M hM => Option.some.inj (show some q208_M = some M from hM) ▸ wlkV (lkX2_70 h) q208_M rfl rfl, fun _ h => absurd h List.not_mem_nil⟩⟩⟩⟩⟩, fun _ h => absurd h List.not_mem_nil, fun _ h => absurd h List.not_mem_nil⟩ dkX2_within (by decide +kernel) (by rw [h.2.2.1]; exact q438_ok)
/-- NearSpell.missed -/
def q439_M : rfM := ((⟨"NearSpell", "missed", "(II)I"⟩, prog_1_method_19_code, 3, (some .int)), (5,117), ([.inr (.inl [70]),.inl (((-2147483648),2147483647,1),none),.inl (((-2147483648),2147483647,1),none)],[]), [(17,0),(18,0),(19,0),(20,4),(20,5),(21,0),(22,2),(22,3),(22,4),(22,5),(23,0),(24,2),(24,3),(24,4),(24,5),(25,0),(26,2),(26,3),(26,4),(26,5),(27,0),(28,2),(28,3),(28,4),(28,5),(29,0),(30,2),(30,3),(30,4),(30,5),(31,0),(32,2),(32,3),(32,4),(32,5),(33,0),(34,2),(34,3),(34,4),(34,5),(35,0),(36,2),(36,3),(36,4),(36,5),(37,0),(38,2),(38,3),(38,4),(38,5),(39,0),(40,2),(40,3),(40,4),(40,5),(41,0),(42,2),(42,3),(42,4),(42,5),(43,0),(44,2),(44,3),(44,4),(44,5),(45,0),(46,2),(46,3),(46,4),(46,5),(47,0),(48,2),(48,3),(48,4),(48,5),(49,0),(50,2),(50,3),(50,4),(50,5),(54,0)], [(some (.inl (((-1),16383,1),none)),[],[])])
def ddX11_missed : List (Nat × Instr × Nat) := [(0,.iload_n 1,1),(1,.invokestatic 163,3),(4,.ifCond .eq 10,3),(7,.iload_n 2,1),(8,.invokestatic 232,3),(11,.ifCond .ne 5,3),(14,.iconst (-1),1),(15,.ireturn,1),(16,.aload_n 0,1),(17,.getfield 67,3),(20,.iload_n 1,1),(21,.iload_n 2,1),(22,.invokevirtual 235,3),(25,.aload_n 0,1),(26,.getfield 67,3),(29,.iload_n 1,1),(30,.invokevirtual 229,3),(33,.iconst (-1),1),(34,.ixor,1),(35,.iand,1),(36,.ireturn,1)]
set_option maxRecDepth 100000 in
theorem dkX11_missed : rf_decs prog_1_method_19_code ddX11_missed := rf_decs_of (by decide +kernel)
def q439_P : rfP := (flX11,csX11,lcX11,spX11,[q170_M,q437_M,q438_M,q223_M],[(163,0),(232,1)],[(229,3,2),(235,2,2)],([],[]))
def q439_U : rfU := []
set_option maxHeartbeats 8000000 in
def q439_N : List rfB := [(0,([(0,.inr (.inl [70])),(1,.inl (((-2147483648),2147483647,1),none)),(2,.inl (((-2147483648),2147483647,1),none))],[],[]),(22,[]),0),
  (14,([(0,.inr (.inl [70])),(1,.inl (((-2147483648),2147483647,1),none)),(2,.inl (((-2147483648),2147483647,1),none))],[],[]),(1,[]),0)]
set_option maxRecDepth 100000 in
theorem q439_ok : rf_chkB q439_P q439_U wLay q439_M ddX11_missed [(1,[0]),(8,[1]),(22,[2]),(30,[3])] [] [0,14] 600 q439_N = true := by decide +kernel
set_option maxHeartbeats 4000000 in
theorem q439_met {G : rfG} (h : okG G) : rf_met G q439_M := rf_methodB h.1 (P := q439_P) (U := q439_U) (N := q439_N) ⟨wflT h flokX11, wcsT h csokX11, wlcT h lcokX11, spokX11 h, List.forall_mem_cons.mpr ⟨q170_met h, List.forall_mem_cons.mpr ⟨q437_met h, List.forall_mem_cons.mpr ⟨q438_met h, List.forall_mem_cons.mpr ⟨q223_met h, fun _ h => absurd h List.not_mem_nil⟩⟩⟩⟩, List.forall_mem_cons.mpr ⟨fun M hM => Option.some.inj (show some q170_M = some M from hM) ▸ wlkS (lkX11_163 h) q170_M rfl rfl, List.forall_mem_cons.mpr ⟨fun M hM => Option.some.inj (show some q437_M = some M from hM) ▸ wlkS (lkX11_232 h) q437_M rfl rfl, fun _ h => absurd h List.not_mem_nil⟩⟩, List.forall_mem_cons.mpr ⟨fun M hM => Option.some.inj (show some q223_M = some M from hM) ▸ wlkV (lkX11_229 h) q223_M rfl rfl, List.forall_mem_cons.mpr ⟨fun M hM => Option.some.inj (show some q438_M = some M from hM) ▸ wlkV (lkX11_235 h) q438_M rfl rfl, fun _ h => absurd h List.not_mem_nil⟩⟩, fun _ h => absurd h List.not_mem_nil, fun _ h => absurd h List.not_mem_nil⟩ dkX11_missed (by decide +kernel) (by rw [h.2.2.1]; exact q439_ok)
/-- NearSpell.nearest -/
def q440_M : rfM := ((⟨"NearSpell", "nearest", "(I)I"⟩, prog_1_method_20_code, 2, (some .int)), (6,139), ([.inr (.inl [70]),.inl (((-2147483648),2147483647,1),none)],[]), [(17,0),(18,0),(19,0),(20,4),(20,5),(21,0),(22,2),(22,3),(22,4),(22,5),(23,0),(24,2),(24,3),(24,4),(24,5),(25,0),(26,2),(26,3),(26,4),(26,5),(27,0),(28,2),(28,3),(28,4),(28,5),(29,0),(30,2),(30,3),(30,4),(30,5),(31,0),(32,2),(32,3),(32,4),(32,5),(33,0),(34,2),(34,3),(34,4),(34,5),(35,0),(36,2),(36,3),(36,4),(36,5),(37,0),(38,2),(38,3),(38,4),(38,5),(39,0),(40,2),(40,3),(40,4),(40,5),(41,0),(42,2),(42,3),(42,4),(42,5),(43,0),(44,2),(44,3),(44,4),(44,5),(45,0),(46,2),(46,3),(46,4),(46,5),(47,0),(48,2),(48,3),(48,4),(48,5),(49,0),(50,2),(50,3),(50,4),(50,5),(54,0)], [(some (.inl (((-1),13,1),none)),[],[])])
def ddX11_nearest : List (Nat × Instr × Nat) := [(0,.iload_n 1,1),(1,.invokestatic 163,3),(4,.ifCond .eq 14,3),(7,.aload_n 0,1),(8,.getfield 67,3),(11,.iload_n 1,1),(12,.invokevirtual 198,3),(15,.goto 4,3),(18,.iconst (-1),1),(19,.ireturn,1)]
set_option maxRecDepth 100000 in
theorem dkX11_nearest : rf_decs prog_1_method_20_code ddX11_nearest := rf_decs_of (by decide +kernel)
def q440_P : rfP := (flX11,csX11,lcX11,spX11,[q170_M,q236_M],[(163,0)],[(198,1,2)],([],[]))
def q440_U : rfU := []
set_option maxHeartbeats 8000000 in
def q440_N : List rfB := [(0,([(0,.inr (.inl [70])),(1,.inl (((-2147483648),2147483647,1),none))],[],[]),(11,[]),0)]
set_option maxRecDepth 100000 in
theorem q440_ok : rf_chkB q440_P q440_U wLay q440_M ddX11_nearest [(1,[0]),(12,[1])] [] [0] 600 q440_N = true := by decide +kernel
set_option maxHeartbeats 4000000 in
theorem q440_met {G : rfG} (h : okG G) : rf_met G q440_M := rf_methodB h.1 (P := q440_P) (U := q440_U) (N := q440_N) ⟨wflT h flokX11, wcsT h csokX11, wlcT h lcokX11, spokX11 h, List.forall_mem_cons.mpr ⟨q170_met h, List.forall_mem_cons.mpr ⟨q236_met h, fun _ h => absurd h List.not_mem_nil⟩⟩, List.forall_mem_cons.mpr ⟨fun M hM => Option.some.inj (show some q170_M = some M from hM) ▸ wlkS (lkX11_163 h) q170_M rfl rfl, fun _ h => absurd h List.not_mem_nil⟩, List.forall_mem_cons.mpr ⟨fun M hM => Option.some.inj (show some q236_M = some M from hM) ▸ wlkV (lkX11_198 h) q236_M rfl rfl, fun _ h => absurd h List.not_mem_nil⟩, fun _ h => absurd h List.not_mem_nil, fun _ h => absurd h List.not_mem_nil⟩ dkX11_nearest (by decide +kernel) (by rw [h.2.2.1]; exact q440_ok)
/-- NearSpell.Finder.firstOf -/
def q441_M : rfM := ((⟨"NearSpell$Finder", "firstOf", "(I)I"⟩, prog_4_method_7_code, 4, (some .int)), (2,43), ([.inr (.inl [55]),.inl ((1,16383,1),none)],[]), [], [(some (.inl (((-1),13,1),none)),[],[])])
def q441_P : rfP := (flX2,csX2,lcX2,spX2,[q234_M],[],[(83,0,2)],([],[]))
def q441_U : rfU := []
set_option maxHeartbeats 8000000 in
def q441_N : List rfB := [(0,([(0,.inr (.inl [55])),(1,.inl ((1,16383,1),none))],[],[]),(350,[0]),0),
  (4,([(0,.inr (.inl [55])),(1,.inl ((1,16383,1),none)),(2,.inl (((-1),13,1),none)),(3,.inl ((0,14,1),none))],[],[]),(344,[(-23)]),0),
  (34,([(0,.inr (.inl [55])),(1,.inl ((1,16383,1),none)),(2,.inl (((-1),13,1),none)),(3,.inl ((0,13,1),none))],[],[]),(324,[(-23)]),0),
  (32,([(0,.inr (.inl [55])),(1,.inl ((1,16383,1),none)),(2,.inl (((-1),13,1),none)),(3,.inl ((0,13,1),none))],[],[]),(327,[(-23)]),0)]
set_option maxRecDepth 100000 in
theorem q441_ok : rf_chkB q441_P q441_U wLay q441_M ddX2_firstOf [(26,[0])] [.inl 3] [0,4,32,34] 600 q441_N = true := by decide +kernel
set_option maxHeartbeats 4000000 in
theorem q441_met {G : rfG} (h : okG G) : rf_met G q441_M := rf_methodB h.1 (P := q441_P) (U := q441_U) (N := q441_N) ⟨wflT h flokX2, wcsT h csokX2, wlcT h lcokX2, spokX2 h, List.forall_mem_cons.mpr ⟨q234_met h, fun _ h => absurd h List.not_mem_nil⟩, fun _ h => absurd h List.not_mem_nil, List.forall_mem_cons.mpr ⟨fun M hM => Option.some.inj (show some q234_M = some M from hM) ▸ wlkV (lkX2_83 h) q234_M rfl rfl, fun _ h => absurd h List.not_mem_nil⟩, fun _ h => absurd h List.not_mem_nil, fun _ h => absurd h List.not_mem_nil⟩ dkX2_firstOf (by decide +kernel) (by rw [h.2.2.1]; exact q441_ok)
/-- NearSpell.Finder.listNear -/
def q442_M : rfM := ((⟨"NearSpell$Finder", "listNear", "(II[I)I"⟩, prog_4_method_6_code, 7, (some .int)), (5,117), ([.inr (.inl [55]),.inl ((0,387420488,1),none),.inl ((0,6,1),none),.inr (.inl [69])],[]), [(17,0),(18,0),(19,0),(20,4),(20,5),(21,0),(22,2),(22,3),(22,4),(22,5),(23,0),(24,2),(24,3),(24,4),(24,5),(25,0),(26,2),(26,3),(26,4),(26,5),(27,0),(28,2),(28,3),(28,4),(28,5),(29,0),(30,2),(30,3),(30,4),(30,5),(31,0),(32,2),(32,3),(32,4),(32,5),(33,0),(34,2),(34,3),(34,4),(34,5),(35,0),(36,2),(36,3),(36,4),(36,5),(37,0),(38,2),(38,3),(38,4),(38,5),(39,0),(40,2),(40,3),(40,4),(40,5),(41,0),(42,2),(42,3),(42,4),(42,5),(43,0),(44,2),(44,3),(44,4),(44,5),(45,0),(46,2),(46,3),(46,4),(46,5),(47,0),(48,2),(48,3),(48,4),(48,5),(49,0),(50,2),(50,3),(50,4),(50,5),(54,0),(69,0)], [(some (.inl ((0,14,1),none)),[],[((20,3),(0,6,1),none),((20,4),(0,6,1),none),((50,2),(0,387420488,1),none),((50,3),(1,6,1),none),((50,4),(0,2,1),none)])])
def ddX2_listNear : List (Nat × Instr × Nat) := [(0,.aload_n 0,1),(1,.iload_n 1,1),(2,.iload_n 2,1),(3,.invokevirtual 73,3),(6,.aload_n 0,1),(7,.iload_n 1,1),(8,.invokevirtual 77,3),(11,.iand,1),(12,.istore 4,2),(14,.iconst 0,1),(15,.istore 5,2),(17,.iconst 0,1),(18,.istore 6,2),(20,.iload 6,2),(22,.bipush 14,2),(24,.if_icmp .ge 47,3),(27,.iload 6,2),(29,.aload_n 3,1),(30,.arraylength,1),(31,.if_icmp .ge 40,3),(34,.iload 4,2),(36,.ifCond .eq 35,3),(39,.aload_n 3,1),(40,.iload 6,2),(42,.aload_n 0,1),(43,.iload 4,2),(45,.invokevirtual 80,3),(48,.iastore,1),(49,.iload 4,2),(51,.iconst 1,1),(52,.aload_n 3,1),(53,.iload 6,2),(55,.iaload,1),(56,.ishl,1),(57,.iconst (-1),1),(58,.ixor,1),(59,.iand,1),(60,.istore 4,2),(62,.iinc 5 1,3),(65,.iinc 6 1,3),(68,.goto (-48),3),(71,.iload 5,2),(73,.ireturn,1)]
set_option maxRecDepth 100000 in
theorem dkX2_listNear : rf_decs prog_4_method_6_code ddX2_listNear := rf_decs_of (by decide +kernel)
def q442_P : rfP := (flX2,csX2,lcX2,spX2,[q438_M,q223_M,q441_M],[],[(73,0,2),(77,1,2),(80,2,2)],([],[]))
def q442_U : rfU := []
set_option maxHeartbeats 8000000 in
def q442_N : List rfB := [(0,([(0,.inr (.inl [55])),(1,.inl ((0,387420488,1),none)),(2,.inl ((0,6,1),none)),(3,.inr (.inl [69]))],[],[]),(437,[]),0),
  (20,([(0,.inr (.inl [55])),(1,.inl ((0,387420488,1),none)),(2,.inl ((0,6,1),none)),(3,.inr (.inl [69])),(4,.inl ((0,16383,1),none)),(5,.inl ((0,0,0),none)),(6,.inl ((0,0,0),none))],[],[((20,3),(0,6,1),none),((20,4),(0,6,1),none),((50,2),(0,387420488,1),none),((50,3),(1,6,1),none),((50,4),(0,2,1),none)]),(424,[]),0),
  (20,([(0,.inr (.inl [55])),(1,.inl ((0,387420488,1),none)),(2,.inl ((0,6,1),none)),(3,.inr (.inl [69])),(4,.inl ((0,16383,1),none)),(5,.inl ((1,1,0),none)),(6,.inl ((1,1,0),none))],[],[((20,3),(0,6,1),none),((20,4),(0,6,1),none),((50,2),(0,387420488,1),none),((50,3),(1,6,1),none),((50,4),(0,2,1),none),((69,0),((-1),13,1),none)]),(396,[]),0),
  (20,([(0,.inr (.inl [55])),(1,.inl ((0,387420488,1),none)),(2,.inl ((0,6,1),none)),(3,.inr (.inl [69])),(4,.inl ((0,16383,1),none)),(5,.inl ((2,2,0),none)),(6,.inl ((2,2,0),none))],[],[((20,3),(0,6,1),none),((20,4),(0,6,1),none),((50,2),(0,387420488,1),none),((50,3),(1,6,1),none),((50,4),(0,2,1),none),((69,0),((-1),13,1),none),((69,1),((-1),13,1),none)]),(368,[]),0),
  (20,([(0,.inr (.inl [55])),(1,.inl ((0,387420488,1),none)),(2,.inl ((0,6,1),none)),(3,.inr (.inl [69])),(4,.inl ((0,16383,1),none)),(5,.inl ((3,3,0),none)),(6,.inl ((3,3,0),none))],[],[((20,3),(0,6,1),none),((20,4),(0,6,1),none),((50,2),(0,387420488,1),none),((50,3),(1,6,1),none),((50,4),(0,2,1),none),((69,0),((-1),13,1),none),((69,1),((-1),13,1),none),((69,2),((-1),13,1),none)]),(340,[]),0),
  (20,([(0,.inr (.inl [55])),(1,.inl ((0,387420488,1),none)),(2,.inl ((0,6,1),none)),(3,.inr (.inl [69])),(4,.inl ((0,16383,1),none)),(5,.inl ((4,4,0),none)),(6,.inl ((4,4,0),none))],[],[((20,3),(0,6,1),none),((20,4),(0,6,1),none),((50,2),(0,387420488,1),none),((50,3),(1,6,1),none),((50,4),(0,2,1),none),((69,0),((-1),13,1),none),((69,1),((-1),13,1),none),((69,2),((-1),13,1),none),((69,3),((-1),13,1),none)]),(312,[]),0),
  (20,([(0,.inr (.inl [55])),(1,.inl ((0,387420488,1),none)),(2,.inl ((0,6,1),none)),(3,.inr (.inl [69])),(4,.inl ((0,16383,1),none)),(5,.inl ((5,5,0),none)),(6,.inl ((5,5,0),none))],[],[((20,3),(0,6,1),none),((20,4),(0,6,1),none),((50,2),(0,387420488,1),none),((50,3),(1,6,1),none),((50,4),(0,2,1),none),((69,0),((-1),13,1),none),((69,1),((-1),13,1),none),((69,2),((-1),13,1),none),((69,3),((-1),13,1),none),((69,4),((-1),13,1),none)]),(284,[]),0),
  (20,([(0,.inr (.inl [55])),(1,.inl ((0,387420488,1),none)),(2,.inl ((0,6,1),none)),(3,.inr (.inl [69])),(4,.inl ((0,16383,1),none)),(5,.inl ((6,6,0),none)),(6,.inl ((6,6,0),none))],[],[((20,3),(0,6,1),none),((20,4),(0,6,1),none),((50,2),(0,387420488,1),none),((50,3),(1,6,1),none),((50,4),(0,2,1),none),((69,0),((-1),13,1),none),((69,1),((-1),13,1),none),((69,2),((-1),13,1),none),((69,3),((-1),13,1),none),((69,4),((-1),13,1),none),((69,5),((-1),13,1),none)]),(256,[]),0),
  (20,([(0,.inr (.inl [55])),(1,.inl ((0,387420488,1),none)),(2,.inl ((0,6,1),none)),(3,.inr (.inl [69])),(4,.inl ((0,16383,1),none)),(5,.inl ((7,7,0),none)),(6,.inl ((7,7,0),none))],[],[((20,3),(0,6,1),none),((20,4),(0,6,1),none),((50,2),(0,387420488,1),none),((50,3),(1,6,1),none),((50,4),(0,2,1),none),((69,0),((-1),13,1),none),((69,1),((-1),13,1),none),((69,2),((-1),13,1),none),((69,3),((-1),13,1),none),((69,4),((-1),13,1),none),((69,5),((-1),13,1),none),((69,6),((-1),13,1),none)]),(228,[]),0),
  (20,([(0,.inr (.inl [55])),(1,.inl ((0,387420488,1),none)),(2,.inl ((0,6,1),none)),(3,.inr (.inl [69])),(4,.inl ((0,16383,1),none)),(5,.inl ((8,8,0),none)),(6,.inl ((8,8,0),none))],[],[((20,3),(0,6,1),none),((20,4),(0,6,1),none),((50,2),(0,387420488,1),none),((50,3),(1,6,1),none),((50,4),(0,2,1),none),((69,0),((-1),13,1),none),((69,1),((-1),13,1),none),((69,2),((-1),13,1),none),((69,3),((-1),13,1),none),((69,4),((-1),13,1),none),((69,5),((-1),13,1),none),((69,6),((-1),13,1),none),((69,7),((-1),13,1),none)]),(200,[]),0),
  (20,([(0,.inr (.inl [55])),(1,.inl ((0,387420488,1),none)),(2,.inl ((0,6,1),none)),(3,.inr (.inl [69])),(4,.inl ((0,16383,1),none)),(5,.inl ((9,9,0),none)),(6,.inl ((9,9,0),none))],[],[((20,3),(0,6,1),none),((20,4),(0,6,1),none),((50,2),(0,387420488,1),none),((50,3),(1,6,1),none),((50,4),(0,2,1),none),((69,0),((-1),13,1),none),((69,1),((-1),13,1),none),((69,2),((-1),13,1),none),((69,3),((-1),13,1),none),((69,4),((-1),13,1),none),((69,5),((-1),13,1),none),((69,6),((-1),13,1),none),((69,7),((-1),13,1),none),((69,8),((-1),13,1),none)]),(172,[]),0),
  (20,([(0,.inr (.inl [55])),(1,.inl ((0,387420488,1),none)),(2,.inl ((0,6,1),none)),(3,.inr (.inl [69])),(4,.inl ((0,16383,1),none)),(5,.inl ((10,10,0),none)),(6,.inl ((10,10,0),none))],[],[((20,3),(0,6,1),none),((20,4),(0,6,1),none),((50,2),(0,387420488,1),none),((50,3),(1,6,1),none),((50,4),(0,2,1),none),((69,0),((-1),13,1),none),((69,1),((-1),13,1),none),((69,2),((-1),13,1),none),((69,3),((-1),13,1),none),((69,4),((-1),13,1),none),((69,5),((-1),13,1),none),((69,6),((-1),13,1),none),((69,7),((-1),13,1),none),((69,8),((-1),13,1),none),((69,9),((-1),13,1),none)]),(144,[]),0),
  (20,([(0,.inr (.inl [55])),(1,.inl ((0,387420488,1),none)),(2,.inl ((0,6,1),none)),(3,.inr (.inl [69])),(4,.inl ((0,16383,1),none)),(5,.inl ((11,11,0),none)),(6,.inl ((11,11,0),none))],[],[((20,3),(0,6,1),none),((20,4),(0,6,1),none),((50,2),(0,387420488,1),none),((50,3),(1,6,1),none),((50,4),(0,2,1),none),((69,0),((-1),13,1),none),((69,1),((-1),13,1),none),((69,2),((-1),13,1),none),((69,3),((-1),13,1),none),((69,4),((-1),13,1),none),((69,5),((-1),13,1),none),((69,6),((-1),13,1),none),((69,7),((-1),13,1),none),((69,8),((-1),13,1),none),((69,9),((-1),13,1),none),((69,10),((-1),13,1),none)]),(116,[]),0),
  (20,([(0,.inr (.inl [55])),(1,.inl ((0,387420488,1),none)),(2,.inl ((0,6,1),none)),(3,.inr (.inl [69])),(4,.inl ((0,16383,1),none)),(5,.inl ((12,12,0),none)),(6,.inl ((12,12,0),none))],[],[((20,3),(0,6,1),none),((20,4),(0,6,1),none),((50,2),(0,387420488,1),none),((50,3),(1,6,1),none),((50,4),(0,2,1),none),((69,0),((-1),13,1),none),((69,1),((-1),13,1),none),((69,2),((-1),13,1),none),((69,3),((-1),13,1),none),((69,4),((-1),13,1),none),((69,5),((-1),13,1),none),((69,6),((-1),13,1),none),((69,7),((-1),13,1),none),((69,8),((-1),13,1),none),((69,9),((-1),13,1),none),((69,10),((-1),13,1),none),((69,11),((-1),13,1),none)]),(88,[]),0),
  (20,([(0,.inr (.inl [55])),(1,.inl ((0,387420488,1),none)),(2,.inl ((0,6,1),none)),(3,.inr (.inl [69])),(4,.inl ((0,16383,1),none)),(5,.inl ((13,13,0),none)),(6,.inl ((13,13,0),none))],[],[((20,3),(0,6,1),none),((20,4),(0,6,1),none),((50,2),(0,387420488,1),none),((50,3),(1,6,1),none),((50,4),(0,2,1),none),((69,0),((-1),13,1),none),((69,1),((-1),13,1),none),((69,2),((-1),13,1),none),((69,3),((-1),13,1),none),((69,4),((-1),13,1),none),((69,5),((-1),13,1),none),((69,6),((-1),13,1),none),((69,7),((-1),13,1),none),((69,8),((-1),13,1),none),((69,9),((-1),13,1),none),((69,10),((-1),13,1),none),((69,11),((-1),13,1),none),((69,12),((-1),13,1),none)]),(60,[]),0),
  (20,([(0,.inr (.inl [55])),(1,.inl ((0,387420488,1),none)),(2,.inl ((0,6,1),none)),(3,.inr (.inl [69])),(4,.inl ((0,16383,1),none)),(5,.inl ((14,14,0),none)),(6,.inl ((14,14,0),none))],[],[((20,3),(0,6,1),none),((20,4),(0,6,1),none),((50,2),(0,387420488,1),none),((50,3),(1,6,1),none),((50,4),(0,2,1),none),((69,0),((-1),13,1),none),((69,1),((-1),13,1),none),((69,2),((-1),13,1),none),((69,3),((-1),13,1),none),((69,4),((-1),13,1),none),((69,5),((-1),13,1),none),((69,6),((-1),13,1),none),((69,7),((-1),13,1),none),((69,8),((-1),13,1),none),((69,9),((-1),13,1),none),((69,10),((-1),13,1),none),((69,11),((-1),13,1),none),((69,12),((-1),13,1),none),((69,13),((-1),13,1),none)]),(32,[]),0)]
set_option maxRecDepth 100000 in
theorem q442_ok : rf_chkB q442_P q442_U wLay q442_M ddX2_listNear [(3,[0]),(8,[1]),(45,[2])] [] [0,20] 600 q442_N = true := by decide +kernel
set_option maxHeartbeats 4000000 in
theorem q442_met {G : rfG} (h : okG G) : rf_met G q442_M := rf_methodB h.1 (P := q442_P) (U := q442_U) (N := q442_N) ⟨wflT h flokX2, wcsT h csokX2, wlcT h lcokX2, spokX2 h, List.forall_mem_cons.mpr ⟨q438_met h, List.forall_mem_cons.mpr ⟨q223_met h, List.forall_mem_cons.mpr ⟨q441_met h, fun _ h => absurd h List.not_mem_nil⟩⟩⟩, fun _ h => absurd h List.not_mem_nil, List.forall_mem_cons.mpr ⟨fun M hM => Option.some.inj (show some q438_M = some M from hM) ▸ wlkV (lkX2_73 h) q438_M rfl rfl, List.forall_mem_cons.mpr ⟨fun M hM => Option.some.inj (show some q223_M = some M from hM) ▸ wlkV (lkX2_77 h) q223_M rfl rfl, List.forall_mem_cons.mpr ⟨fun M hM => Option.some.inj (show some q441_M = some M from hM) ▸ wlkV (lkX2_80 h) q441_M rfl rfl, fun _ h => absurd h List.not_mem_nil⟩⟩⟩, fun _ h => absurd h List.not_mem_nil, fun _ h => absurd h List.not_mem_nil⟩ dkX2_listNear (by decide +kernel) (by rw [h.2.2.1]; exact q442_ok)
/-- NearSpell.near -/
def q443_M : rfM := ((⟨"NearSpell", "near", "(II)I"⟩, prog_1_method_21_code, 3, (some .int)), (6,143), ([.inr (.inl [70]),.inl (((-2147483648),2147483647,1),none),.inl (((-2147483648),2147483647,1),none)],[]), [(17,0),(18,0),(19,0),(20,4),(20,5),(21,0),(22,2),(22,3),(22,4),(22,5),(23,0),(24,2),(24,3),(24,4),(24,5),(25,0),(26,2),(26,3),(26,4),(26,5),(27,0),(28,2),(28,3),(28,4),(28,5),(29,0),(30,2),(30,3),(30,4),(30,5),(31,0),(32,2),(32,3),(32,4),(32,5),(33,0),(34,2),(34,3),(34,4),(34,5),(35,0),(36,2),(36,3),(36,4),(36,5),(37,0),(38,2),(38,3),(38,4),(38,5),(39,0),(40,2),(40,3),(40,4),(40,5),(41,0),(42,2),(42,3),(42,4),(42,5),(43,0),(44,2),(44,3),(44,4),(44,5),(45,0),(46,2),(46,3),(46,4),(46,5),(47,0),(48,2),(48,3),(48,4),(48,5),(49,0),(50,2),(50,3),(50,4),(50,5),(54,0),(69,0),(70,15)], [(some (.inl (((-1),14,1),none)),[],[((70,14),(0,14,1),none)])])
def ddX11_near : List (Nat × Instr × Nat) := [(0,.aload_n 0,1),(1,.iconst 0,1),(2,.putfield 104,3),(5,.iload_n 1,1),(6,.invokestatic 163,3),(9,.ifCond .eq 10,3),(12,.iload_n 2,1),(13,.invokestatic 232,3),(16,.ifCond .ne 5,3),(19,.iconst (-1),1),(20,.ireturn,1),(21,.aload_n 0,1),(22,.aload_n 0,1),(23,.getfield 67,3),(26,.iload_n 1,1),(27,.iload_n 2,1),(28,.aload_n 0,1),(29,.getfield 96,3),(32,.invokevirtual 238,3),(35,.putfield 104,3),(38,.aload_n 0,1),(39,.getfield 104,3),(42,.ireturn,1)]
set_option maxRecDepth 100000 in
theorem dkX11_near : rf_decs prog_1_method_21_code ddX11_near := rf_decs_of (by decide +kernel)
def q443_P : rfP := (flX11,csX11,lcX11,spX11,[q170_M,q437_M,q442_M],[(163,0),(232,1)],[(238,2,2)],([],[]))
def q443_U : rfU := []
set_option maxHeartbeats 8000000 in
def q443_N : List rfB := [(0,([(0,.inr (.inl [70])),(1,.inl (((-2147483648),2147483647,1),none)),(2,.inl (((-2147483648),2147483647,1),none))],[],[]),(24,[]),0),
  (19,([(0,.inr (.inl [70])),(1,.inl (((-2147483648),2147483647,1),none)),(2,.inl (((-2147483648),2147483647,1),none))],[],[((70,14),(0,0,0),none)]),(1,[]),0)]
set_option maxRecDepth 100000 in
theorem q443_ok : rf_chkB q443_P q443_U wLay q443_M ddX11_near [(6,[0]),(13,[1]),(32,[2])] [] [0,19] 600 q443_N = true := by decide +kernel
set_option maxHeartbeats 4000000 in
theorem q443_met {G : rfG} (h : okG G) : rf_met G q443_M := rf_methodB h.1 (P := q443_P) (U := q443_U) (N := q443_N) ⟨wflT h flokX11, wcsT h csokX11, wlcT h lcokX11, spokX11 h, List.forall_mem_cons.mpr ⟨q170_met h, List.forall_mem_cons.mpr ⟨q437_met h, List.forall_mem_cons.mpr ⟨q442_met h, fun _ h => absurd h List.not_mem_nil⟩⟩⟩, List.forall_mem_cons.mpr ⟨fun M hM => Option.some.inj (show some q170_M = some M from hM) ▸ wlkS (lkX11_163 h) q170_M rfl rfl, List.forall_mem_cons.mpr ⟨fun M hM => Option.some.inj (show some q437_M = some M from hM) ▸ wlkS (lkX11_232 h) q437_M rfl rfl, fun _ h => absurd h List.not_mem_nil⟩⟩, List.forall_mem_cons.mpr ⟨fun M hM => Option.some.inj (show some q442_M = some M from hM) ▸ wlkV (lkX11_238 h) q442_M rfl rfl, fun _ h => absurd h List.not_mem_nil⟩, fun _ h => absurd h List.not_mem_nil, fun _ h => absurd h List.not_mem_nil⟩ dkX11_near (by decide +kernel) (by rw [h.2.2.1]; exact q443_ok)
/-- NearSpell.Pieces.forgetLeast -/
def q444_M : rfM := ((⟨"NearSpell$Pieces", "forgetLeast", "()V"⟩, prog_7_method_5_code, 1, none), (0,0), ([.inr (.inl [58])],[]), [(58,5),(58,6),(58,7),(58,8)], [(none,[],[((58,4),(1000,1000,0),none),((58,5),((-1),(-1),0),none),((58,6),((-1),(-1),0),none),((58,7),(0,0,0),none)])])
def ddX5_forgetLeast : List (Nat × Instr × Nat) := [(0,.aload_n 0,1),(1,.sipush 1000,3),(4,.putfield 54,3),(7,.aload_n 0,1),(8,.iconst (-1),1),(9,.putfield 58,3),(12,.aload_n 0,1),(13,.iconst (-1),1),(14,.putfield 61,3),(17,.aload_n 0,1),(18,.iconst 0,1),(19,.putfield 64,3),(22,.return_,1)]
set_option maxRecDepth 100000 in
theorem dkX5_forgetLeast : rf_decs prog_7_method_5_code ddX5_forgetLeast := rf_decs_of (by decide +kernel)
def q444_P : rfP := (flX5,csX5,lcX5,spX5,[],[],[],([],[]))
def q444_U : rfU := []
set_option maxHeartbeats 8000000 in
def q444_N : List rfB := [(0,([(0,.inr (.inl [58]))],[],[]),(12,[]),0)]
set_option maxRecDepth 100000 in
theorem q444_ok : rf_chkB q444_P q444_U wLay q444_M ddX5_forgetLeast [] [] [0] 600 q444_N = true := by decide +kernel
set_option maxHeartbeats 4000000 in
theorem q444_met {G : rfG} (h : okG G) : rf_met G q444_M := rf_methodB h.1 (P := q444_P) (U := q444_U) (N := q444_N) ⟨wflT h flokX5, wcsT h csokX5, wlcT h lcokX5, spokX5 h, fun _ h => absurd h List.not_mem_nil, fun _ h => absurd h List.not_mem_nil, fun _ h => absurd h List.not_mem_nil, fun _ h => absurd h List.not_mem_nil, fun _ h => absurd h List.not_mem_nil⟩ dkX5_forgetLeast (by decide +kernel) (by rw [h.2.2.1]; exact q444_ok)
/-- NearSpell.Ruler.restart -/
def q445_M : rfM := ((⟨"NearSpell$Ruler", "restart", "(I)I"⟩, prog_9_method_6_code, 2, (some .int)), (3,70), ([.inr (.inl [20]),.inl (((-2147483648),2147483647,1),none)],[]), [(18,0),(19,0),(20,5)], [(some (.inl ((0,6,1),none)),[],[((20,4),(0,6,1),none)])])
def ddX7_restart : List (Nat × Instr × Nat) := [(0,.aload_n 0,1),(1,.iconst 0,1),(2,.iload_n 1,1),(3,.invokevirtual 40,3),(6,.pop,1),(7,.aload_n 0,1),(8,.getfield 25,3),(11,.ireturn,1)]
set_option maxRecDepth 100000 in
theorem dkX7_restart : rf_decs prog_9_method_6_code ddX7_restart := rf_decs_of (by decide +kernel)
def q445_P : rfP := (flX7,csX7,lcX7,spX7,[q207_M],[],[(40,0,7)],([],[]))
def q445_U : rfU := []
set_option maxHeartbeats 8000000 in
def q445_N : List rfB := [(0,([(0,.inr (.inl [20])),(1,.inl (((-2147483648),2147483647,1),none))],[],[]),(7,[]),0)]
set_option maxRecDepth 100000 in
theorem q445_ok : rf_chkB q445_P q445_U wLay q445_M ddX7_restart [(3,[0])] [] [0] 600 q445_N = true := by decide +kernel
set_option maxHeartbeats 4000000 in
theorem q445_met {G : rfG} (h : okG G) : rf_met G q445_M := rf_methodB h.1 (P := q445_P) (U := q445_U) (N := q445_N) ⟨wflT h flokX7, wcsT h csokX7, wlcT h lcokX7, spokX7 h, List.forall_mem_cons.mpr ⟨q207_met h, fun _ h => absurd h List.not_mem_nil⟩, fun _ h => absurd h List.not_mem_nil, List.forall_mem_cons.mpr ⟨fun M hM => Option.some.inj (show some q207_M = some M from hM) ▸ wlkV (lkX7_40 h) q207_M rfl rfl, fun _ h => absurd h List.not_mem_nil⟩, fun _ h => absurd h List.not_mem_nil, fun _ h => absurd h List.not_mem_nil⟩ dkX7_restart (by decide +kernel) (by rw [h.2.2.1]; exact q445_ok)
/-- NearSpell.Ruler.putLetters -/
def q446_M : rfM := ((⟨"NearSpell$Ruler", "putLetters", "(I[II)I"⟩, prog_9_method_8_code, 6, (some .int)), (1,21), ([.inl (((-2147483648),2147483647,1),none),.inr (.inl [18]),.inl ((0,6,1),none)],[]), [(18,0)], [(some (.inl ((0,12,1),none)),[],[])])
def q446_P : rfP := (flX7,csX7,lcX7,spX7,[q111_M],[(55,0)],[],([],[]))
def q446_U : rfU := []
set_option maxHeartbeats 8000000 in
def q446_N : List rfB := [(0,([(0,.inl (((-2147483648),2147483647,1),none)),(1,.inr (.inl [18])),(2,.inl ((0,6,1),none))],[],[]),(224,[0]),0),
  (23,([(0,.inl (((-2147483648),2147483647,1),none)),(1,.inr (.inl [18])),(2,.inl ((0,6,1),none)),(3,.inl ((0,12,1),none)),(4,.inl (((-2147483648),2147483647,1),none)),(5,.inl (((-1),11,1),none))],[],[]),(31,[16]),0)]
set_option maxRecDepth 100000 in
theorem q446_ok : rf_chkB q446_P q446_U wLay q446_M ddX7_putLetters [(2,[0])] [.inl 5] [0,23] 600 q446_N = true := by decide +kernel
set_option maxHeartbeats 4000000 in
theorem q446_met {G : rfG} (h : okG G) : rf_met G q446_M := rf_methodB h.1 (P := q446_P) (U := q446_U) (N := q446_N) ⟨wflT h flokX7, wcsT h csokX7, wlcT h lcokX7, spokX7 h, List.forall_mem_cons.mpr ⟨q111_met h, fun _ h => absurd h List.not_mem_nil⟩, List.forall_mem_cons.mpr ⟨fun M hM => Option.some.inj (show some q111_M = some M from hM) ▸ wlkS (lkX7_55 h) q111_M rfl rfl, fun _ h => absurd h List.not_mem_nil⟩, fun _ h => absurd h List.not_mem_nil, fun _ h => absurd h List.not_mem_nil, fun _ h => absurd h List.not_mem_nil⟩ dkX7_putLetters (by decide +kernel) (by rw [h.2.2.1]; exact q446_ok)
/-- NearSpell.Ruler.fillRow -/
def q447_M : rfM := ((⟨"NearSpell$Ruler", "fillRow", "(I)V"⟩, prog_9_method_9_code, 7, none), (1,15), ([.inr (.inl [20]),.inl ((1,9,1),none)],[]), [(19,0)], [(none,[],[])])
def q447_P : rfP := (flX7,csX7,lcX7,spX7,[],[],[],([],[(44,1)]))
def q447_U : rfU := [(.inl 1,[((-2147483648),0),(1,1),(2,12),(13,2147483647)])]
set_option maxHeartbeats 8000000 in
def q447_N : List rfB := [(0,([(0,.inr (.inl [20])),(1,.inl ((1,9,1),none))],[],[]),(1653,[]),1000000),
  (56,([(0,.inr (.inl [20])),(1,.inl ((2,9,1),none)),(2,.inl (((-2147483648),2147483647,1),none)),(3,.inl (((-2147483648),2147483647,1),none)),(4,.inl ((26,117,13),none)),(5,.inl ((1,1,0),none))],[],[]),(1617,[]),0),
  (56,([(0,.inr (.inl [20])),(1,.inl ((1,1,1),none)),(2,.inl (((-2147483648),2147483647,1),some (.inr (18,0),some 0))),(3,.inl ((0,0,0),none)),(4,.inl ((13,13,13),none)),(5,.inl ((1,1,0),none))],[],[((19,13),(1,1,1),none)]),(616,[]),0),
  (184,([(0,.inr (.inl [20])),(1,.inl ((2,9,1),none)),(2,.inl (((-2147483648),2147483647,1),none)),(3,.inl (((-2147483648),2147483647,1),none)),(4,.inl ((27,118,13),none)),(5,.inl ((1,1,0),none)),(6,.inl (((-2147483648),2147483647,1),none))],[],[((20,3),(1,12,1),none)]),(1571,[]),0),
  (184,([(0,.inr (.inl [20])),(1,.inl ((1,1,1),none)),(2,.inl (((-2147483648),2147483647,1),some (.inr (18,0),some 0))),(3,.inl ((0,0,0),none)),(4,.inl ((14,14,13),none)),(5,.inl ((1,1,0),none)),(6,.inl (((-2147483648),2147483647,1),none))],[],[((19,13),(1,1,1),none),((20,3),(1,12,1),none)]),(573,[]),0),
  (56,([(0,.inr (.inl [20])),(1,.inl ((2,9,1),none)),(2,.inl (((-2147483648),2147483647,1),none)),(3,.inl (((-2147483648),2147483647,1),none)),(4,.inl ((27,118,13),none)),(5,.inl ((2,2,0),none)),(6,.inl (((-2147483648),2147483647,1),none))],[],[((20,3),(1,12,1),none)]),(1564,[]),0),
  (184,([(0,.inr (.inl [20])),(1,.inl ((2,9,1),none)),(2,.inl (((-2147483648),2147483647,1),none)),(3,.inl (((-2147483648),2147483647,1),none)),(4,.inl ((28,119,13),none)),(5,.inl ((2,2,0),none)),(6,.inl (((-2147483648),2147483647,1),none))],[],[((20,3),(2,12,1),none)]),(1489,[]),0),
  (56,([(0,.inr (.inl [20])),(1,.inl ((1,1,1),none)),(2,.inl (((-2147483648),2147483647,1),some (.inr (18,0),some 0))),(3,.inl ((0,0,0),none)),(4,.inl ((14,14,13),none)),(5,.inl ((2,2,0),none)),(6,.inl (((-2147483648),2147483647,1),none))],[],[((19,13),(1,1,1),none),((19,14),((-2147483648),2147483647,1),none),((20,3),(1,12,1),none)]),(566,[]),0),
  (184,([(0,.inr (.inl [20])),(1,.inl ((1,1,1),none)),(2,.inl (((-2147483648),2147483647,1),some (.inr (18,0),some 0))),(3,.inl ((0,0,0),none)),(4,.inl ((15,15,13),none)),(5,.inl ((2,2,0),none)),(6,.inl (((-2147483648),2147483647,1),none))],[],[((19,13),(1,1,1),none),((20,3),(2,12,1),none)]),(523,[]),0),
  (56,([(0,.inr (.inl [20])),(1,.inl ((2,9,1),none)),(2,.inl (((-2147483648),2147483647,1),none)),(3,.inl (((-2147483648),2147483647,1),none)),(4,.inl ((28,119,13),none)),(5,.inl ((3,3,0),none)),(6,.inl (((-2147483648),2147483647,1),none))],[],[((20,3),(2,12,1),none)]),(1482,[]),0),
  (184,([(0,.inr (.inl [20])),(1,.inl ((2,9,1),none)),(2,.inl (((-2147483648),2147483647,1),none)),(3,.inl (((-2147483648),2147483647,1),none)),(4,.inl ((29,120,13),none)),(5,.inl ((3,3,0),none)),(6,.inl (((-2147483648),2147483647,1),none))],[],[((20,3),(3,12,1),none)]),(1407,[]),0),
  (56,([(0,.inr (.inl [20])),(1,.inl ((1,1,1),none)),(2,.inl (((-2147483648),2147483647,1),some (.inr (18,0),some 0))),(3,.inl ((0,0,0),none)),(4,.inl ((15,15,13),none)),(5,.inl ((3,3,0),none)),(6,.inl (((-2147483648),2147483647,1),none))],[],[((19,13),(1,1,1),none),((19,15),((-2147483648),2147483647,1),none),((20,3),(2,12,1),none)]),(516,[]),0),
  (184,([(0,.inr (.inl [20])),(1,.inl ((1,1,1),none)),(2,.inl (((-2147483648),2147483647,1),some (.inr (18,0),some 0))),(3,.inl ((0,0,0),none)),(4,.inl ((16,16,13),none)),(5,.inl ((3,3,0),none)),(6,.inl (((-2147483648),2147483647,1),none))],[],[((19,13),(1,1,1),none),((20,3),(3,12,1),none)]),(473,[]),0),
  (56,([(0,.inr (.inl [20])),(1,.inl ((2,9,1),none)),(2,.inl (((-2147483648),2147483647,1),none)),(3,.inl (((-2147483648),2147483647,1),none)),(4,.inl ((29,120,13),none)),(5,.inl ((4,4,0),none)),(6,.inl (((-2147483648),2147483647,1),none))],[],[((20,3),(3,12,1),none)]),(1400,[]),0),
  (184,([(0,.inr (.inl [20])),(1,.inl ((2,9,1),none)),(2,.inl (((-2147483648),2147483647,1),none)),(3,.inl (((-2147483648),2147483647,1),none)),(4,.inl ((30,121,13),none)),(5,.inl ((4,4,0),none)),(6,.inl (((-2147483648),2147483647,1),none))],[],[((20,3),(4,12,1),none)]),(1325,[]),0),
  (56,([(0,.inr (.inl [20])),(1,.inl ((1,1,1),none)),(2,.inl (((-2147483648),2147483647,1),some (.inr (18,0),some 0))),(3,.inl ((0,0,0),none)),(4,.inl ((16,16,13),none)),(5,.inl ((4,4,0),none)),(6,.inl (((-2147483648),2147483647,1),none))],[],[((19,13),(1,1,1),none),((19,16),((-2147483648),2147483647,1),none),((20,3),(3,12,1),none)]),(466,[]),0),
  (184,([(0,.inr (.inl [20])),(1,.inl ((1,1,1),none)),(2,.inl (((-2147483648),2147483647,1),some (.inr (18,0),some 0))),(3,.inl ((0,0,0),none)),(4,.inl ((17,17,13),none)),(5,.inl ((4,4,0),none)),(6,.inl (((-2147483648),2147483647,1),none))],[],[((19,13),(1,1,1),none),((20,3),(4,12,1),none)]),(423,[]),0),
  (56,([(0,.inr (.inl [20])),(1,.inl ((2,9,1),none)),(2,.inl (((-2147483648),2147483647,1),none)),(3,.inl (((-2147483648),2147483647,1),none)),(4,.inl ((30,121,13),none)),(5,.inl ((5,5,0),none)),(6,.inl (((-2147483648),2147483647,1),none))],[],[((20,3),(4,12,1),none)]),(1318,[]),0),
  (184,([(0,.inr (.inl [20])),(1,.inl ((2,9,1),none)),(2,.inl (((-2147483648),2147483647,1),none)),(3,.inl (((-2147483648),2147483647,1),none)),(4,.inl ((31,122,13),none)),(5,.inl ((5,5,0),none)),(6,.inl (((-2147483648),2147483647,1),none))],[],[((20,3),(5,12,1),none)]),(1243,[]),0),
  (56,([(0,.inr (.inl [20])),(1,.inl ((1,1,1),none)),(2,.inl (((-2147483648),2147483647,1),some (.inr (18,0),some 0))),(3,.inl ((0,0,0),none)),(4,.inl ((17,17,13),none)),(5,.inl ((5,5,0),none)),(6,.inl (((-2147483648),2147483647,1),none))],[],[((19,13),(1,1,1),none),((19,17),((-2147483648),2147483647,1),none),((20,3),(4,12,1),none)]),(416,[]),0),
  (184,([(0,.inr (.inl [20])),(1,.inl ((1,1,1),none)),(2,.inl (((-2147483648),2147483647,1),some (.inr (18,0),some 0))),(3,.inl ((0,0,0),none)),(4,.inl ((18,18,13),none)),(5,.inl ((5,5,0),none)),(6,.inl (((-2147483648),2147483647,1),none))],[],[((19,13),(1,1,1),none),((20,3),(5,12,1),none)]),(373,[]),0),
  (56,([(0,.inr (.inl [20])),(1,.inl ((2,9,1),none)),(2,.inl (((-2147483648),2147483647,1),none)),(3,.inl (((-2147483648),2147483647,1),none)),(4,.inl ((31,122,13),none)),(5,.inl ((6,6,0),none)),(6,.inl (((-2147483648),2147483647,1),none))],[],[((20,3),(5,12,1),none)]),(1236,[]),0),
  (184,([(0,.inr (.inl [20])),(1,.inl ((2,9,1),none)),(2,.inl (((-2147483648),2147483647,1),none)),(3,.inl (((-2147483648),2147483647,1),none)),(4,.inl ((32,123,13),none)),(5,.inl ((6,6,0),none)),(6,.inl (((-2147483648),2147483647,1),none))],[],[((20,3),(6,12,1),none)]),(1161,[]),0),
  (56,([(0,.inr (.inl [20])),(1,.inl ((1,1,1),none)),(2,.inl (((-2147483648),2147483647,1),some (.inr (18,0),some 0))),(3,.inl ((0,0,0),none)),(4,.inl ((18,18,13),none)),(5,.inl ((6,6,0),none)),(6,.inl (((-2147483648),2147483647,1),none))],[],[((19,13),(1,1,1),none),((19,18),((-2147483648),2147483647,1),none),((20,3),(5,12,1),none)]),(366,[]),0),
  (184,([(0,.inr (.inl [20])),(1,.inl ((1,1,1),none)),(2,.inl (((-2147483648),2147483647,1),some (.inr (18,0),some 0))),(3,.inl ((0,0,0),none)),(4,.inl ((19,19,13),none)),(5,.inl ((6,6,0),none)),(6,.inl (((-2147483648),2147483647,1),none))],[],[((19,13),(1,1,1),none),((20,3),(6,12,1),none)]),(323,[]),0),
  (56,([(0,.inr (.inl [20])),(1,.inl ((2,9,1),none)),(2,.inl (((-2147483648),2147483647,1),none)),(3,.inl (((-2147483648),2147483647,1),none)),(4,.inl ((32,123,13),none)),(5,.inl ((7,7,0),none)),(6,.inl (((-2147483648),2147483647,1),none))],[],[((20,3),(6,12,1),none)]),(1154,[]),0),
  (184,([(0,.inr (.inl [20])),(1,.inl ((2,9,1),none)),(2,.inl (((-2147483648),2147483647,1),none)),(3,.inl (((-2147483648),2147483647,1),none)),(4,.inl ((33,124,13),none)),(5,.inl ((7,7,0),none)),(6,.inl (((-2147483648),2147483647,1),none))],[],[((20,3),(7,12,1),none)]),(1079,[]),0),
  (56,([(0,.inr (.inl [20])),(1,.inl ((1,1,1),none)),(2,.inl (((-2147483648),2147483647,1),some (.inr (18,0),some 0))),(3,.inl ((0,0,0),none)),(4,.inl ((19,19,13),none)),(5,.inl ((7,7,0),none)),(6,.inl (((-2147483648),2147483647,1),none))],[],[((19,13),(1,1,1),none),((19,19),((-2147483648),2147483647,1),none),((20,3),(6,12,1),none)]),(316,[]),0),
  (184,([(0,.inr (.inl [20])),(1,.inl ((1,1,1),none)),(2,.inl (((-2147483648),2147483647,1),some (.inr (18,0),some 0))),(3,.inl ((0,0,0),none)),(4,.inl ((20,20,13),none)),(5,.inl ((7,7,0),none)),(6,.inl (((-2147483648),2147483647,1),none))],[],[((19,13),(1,1,1),none),((20,3),(7,12,1),none)]),(273,[]),0),
  (56,([(0,.inr (.inl [20])),(1,.inl ((2,9,1),none)),(2,.inl (((-2147483648),2147483647,1),none)),(3,.inl (((-2147483648),2147483647,1),none)),(4,.inl ((33,124,13),none)),(5,.inl ((8,8,0),none)),(6,.inl (((-2147483648),2147483647,1),none))],[],[((20,3),(7,12,1),none)]),(1072,[]),0),
  (184,([(0,.inr (.inl [20])),(1,.inl ((2,9,1),none)),(2,.inl (((-2147483648),2147483647,1),none)),(3,.inl (((-2147483648),2147483647,1),none)),(4,.inl ((34,125,13),none)),(5,.inl ((8,8,0),none)),(6,.inl (((-2147483648),2147483647,1),none))],[],[((20,3),(8,12,1),none)]),(997,[]),0),
  (56,([(0,.inr (.inl [20])),(1,.inl ((1,1,1),none)),(2,.inl (((-2147483648),2147483647,1),some (.inr (18,0),some 0))),(3,.inl ((0,0,0),none)),(4,.inl ((20,20,13),none)),(5,.inl ((8,8,0),none)),(6,.inl (((-2147483648),2147483647,1),none))],[],[((19,13),(1,1,1),none),((19,20),((-2147483648),2147483647,1),none),((20,3),(7,12,1),none)]),(266,[]),0),
  (184,([(0,.inr (.inl [20])),(1,.inl ((1,1,1),none)),(2,.inl (((-2147483648),2147483647,1),some (.inr (18,0),some 0))),(3,.inl ((0,0,0),none)),(4,.inl ((21,21,13),none)),(5,.inl ((8,8,0),none)),(6,.inl (((-2147483648),2147483647,1),none))],[],[((19,13),(1,1,1),none),((20,3),(8,12,1),none)]),(223,[]),0),
  (56,([(0,.inr (.inl [20])),(1,.inl ((2,9,1),none)),(2,.inl (((-2147483648),2147483647,1),none)),(3,.inl (((-2147483648),2147483647,1),none)),(4,.inl ((34,125,13),none)),(5,.inl ((9,9,0),none)),(6,.inl (((-2147483648),2147483647,1),none))],[],[((20,3),(8,12,1),none)]),(990,[]),0),
  (184,([(0,.inr (.inl [20])),(1,.inl ((2,9,1),none)),(2,.inl (((-2147483648),2147483647,1),none)),(3,.inl (((-2147483648),2147483647,1),none)),(4,.inl ((35,126,13),none)),(5,.inl ((9,9,0),none)),(6,.inl (((-2147483648),2147483647,1),none))],[],[((20,3),(9,12,1),none)]),(915,[]),0),
  (56,([(0,.inr (.inl [20])),(1,.inl ((1,1,1),none)),(2,.inl (((-2147483648),2147483647,1),some (.inr (18,0),some 0))),(3,.inl ((0,0,0),none)),(4,.inl ((21,21,13),none)),(5,.inl ((9,9,0),none)),(6,.inl (((-2147483648),2147483647,1),none))],[],[((19,13),(1,1,1),none),((19,21),((-2147483648),2147483647,1),none),((20,3),(8,12,1),none)]),(216,[]),0),
  (184,([(0,.inr (.inl [20])),(1,.inl ((1,1,1),none)),(2,.inl (((-2147483648),2147483647,1),some (.inr (18,0),some 0))),(3,.inl ((0,0,0),none)),(4,.inl ((22,22,13),none)),(5,.inl ((9,9,0),none)),(6,.inl (((-2147483648),2147483647,1),none))],[],[((19,13),(1,1,1),none),((20,3),(9,12,1),none)]),(173,[]),0),
  (56,([(0,.inr (.inl [20])),(1,.inl ((2,9,1),none)),(2,.inl (((-2147483648),2147483647,1),none)),(3,.inl (((-2147483648),2147483647,1),none)),(4,.inl ((35,126,13),none)),(5,.inl ((10,10,0),none)),(6,.inl (((-2147483648),2147483647,1),none))],[],[((20,3),(9,12,1),none)]),(908,[]),0),
  (184,([(0,.inr (.inl [20])),(1,.inl ((2,9,1),none)),(2,.inl (((-2147483648),2147483647,1),none)),(3,.inl (((-2147483648),2147483647,1),none)),(4,.inl ((36,127,13),none)),(5,.inl ((10,10,0),none)),(6,.inl (((-2147483648),2147483647,1),none))],[],[((20,3),(10,12,1),none)]),(833,[]),0),
  (56,([(0,.inr (.inl [20])),(1,.inl ((1,1,1),none)),(2,.inl (((-2147483648),2147483647,1),some (.inr (18,0),some 0))),(3,.inl ((0,0,0),none)),(4,.inl ((22,22,13),none)),(5,.inl ((10,10,0),none)),(6,.inl (((-2147483648),2147483647,1),none))],[],[((19,13),(1,1,1),none),((19,22),((-2147483648),2147483647,1),none),((20,3),(9,12,1),none)]),(166,[]),0),
  (184,([(0,.inr (.inl [20])),(1,.inl ((1,1,1),none)),(2,.inl (((-2147483648),2147483647,1),some (.inr (18,0),some 0))),(3,.inl ((0,0,0),none)),(4,.inl ((23,23,13),none)),(5,.inl ((10,10,0),none)),(6,.inl (((-2147483648),2147483647,1),none))],[],[((19,13),(1,1,1),none),((20,3),(10,12,1),none)]),(123,[]),0),
  (56,([(0,.inr (.inl [20])),(1,.inl ((2,9,1),none)),(2,.inl (((-2147483648),2147483647,1),none)),(3,.inl (((-2147483648),2147483647,1),none)),(4,.inl ((36,127,13),none)),(5,.inl ((11,11,0),none)),(6,.inl (((-2147483648),2147483647,1),none))],[],[((20,3),(10,12,1),none)]),(826,[]),0),
  (184,([(0,.inr (.inl [20])),(1,.inl ((2,9,1),none)),(2,.inl (((-2147483648),2147483647,1),none)),(3,.inl (((-2147483648),2147483647,1),none)),(4,.inl ((37,128,13),none)),(5,.inl ((11,11,0),none)),(6,.inl (((-2147483648),2147483647,1),none))],[],[((20,3),(11,12,1),none)]),(751,[]),0),
  (56,([(0,.inr (.inl [20])),(1,.inl ((1,1,1),none)),(2,.inl (((-2147483648),2147483647,1),some (.inr (18,0),some 0))),(3,.inl ((0,0,0),none)),(4,.inl ((23,23,13),none)),(5,.inl ((11,11,0),none)),(6,.inl (((-2147483648),2147483647,1),none))],[],[((19,13),(1,1,1),none),((19,23),((-2147483648),2147483647,1),none),((20,3),(10,12,1),none)]),(116,[]),0),
  (184,([(0,.inr (.inl [20])),(1,.inl ((1,1,1),none)),(2,.inl (((-2147483648),2147483647,1),some (.inr (18,0),some 0))),(3,.inl ((0,0,0),none)),(4,.inl ((24,24,13),none)),(5,.inl ((11,11,0),none)),(6,.inl (((-2147483648),2147483647,1),none))],[],[((19,13),(1,1,1),none),((20,3),(11,12,1),none)]),(73,[]),0),
  (56,([(0,.inr (.inl [20])),(1,.inl ((2,9,1),none)),(2,.inl (((-2147483648),2147483647,1),none)),(3,.inl (((-2147483648),2147483647,1),none)),(4,.inl ((37,128,13),none)),(5,.inl ((12,12,0),none)),(6,.inl (((-2147483648),2147483647,1),none))],[],[((20,3),(11,12,1),none)]),(744,[]),0),
  (184,([(0,.inr (.inl [20])),(1,.inl ((2,9,1),none)),(2,.inl (((-2147483648),2147483647,1),none)),(3,.inl (((-2147483648),2147483647,1),none)),(4,.inl ((38,129,13),none)),(5,.inl ((12,12,0),none)),(6,.inl (((-2147483648),2147483647,1),none))],[],[((20,3),(12,12,1),none)]),(669,[]),0),
  (56,([(0,.inr (.inl [20])),(1,.inl ((1,1,1),none)),(2,.inl (((-2147483648),2147483647,1),some (.inr (18,0),some 0))),(3,.inl ((0,0,0),none)),(4,.inl ((24,24,13),none)),(5,.inl ((12,12,0),none)),(6,.inl (((-2147483648),2147483647,1),none))],[],[((19,13),(1,1,1),none),((19,24),((-2147483648),2147483647,1),none),((20,3),(11,12,1),none)]),(66,[]),0),
  (184,([(0,.inr (.inl [20])),(1,.inl ((1,1,1),none)),(2,.inl (((-2147483648),2147483647,1),some (.inr (18,0),some 0))),(3,.inl ((0,0,0),none)),(4,.inl ((25,25,13),none)),(5,.inl ((12,12,0),none)),(6,.inl (((-2147483648),2147483647,1),none))],[],[((19,13),(1,1,1),none),((20,3),(12,12,1),none)]),(23,[]),0),
  (56,([(0,.inr (.inl [20])),(1,.inl ((2,9,1),none)),(2,.inl (((-2147483648),2147483647,1),none)),(3,.inl (((-2147483648),2147483647,1),none)),(4,.inl ((38,129,13),none)),(5,.inl ((13,13,0),none)),(6,.inl (((-2147483648),2147483647,1),none))],[],[((20,3),(12,12,1),none)]),(662,[]),0),
  (56,([(0,.inr (.inl [20])),(1,.inl ((1,1,1),none)),(2,.inl (((-2147483648),2147483647,1),some (.inr (18,0),some 0))),(3,.inl ((0,0,0),none)),(4,.inl ((25,25,13),none)),(5,.inl ((13,13,0),none)),(6,.inl (((-2147483648),2147483647,1),none))],[],[((19,13),(1,1,1),none),((19,25),((-2147483648),2147483647,1),none),((20,3),(12,12,1),none)]),(16,[]),0)]
set_option maxRecDepth 100000 in
theorem q447_ok : rf_chkB q447_P q447_U wLay q447_M ddX7_fillRow [] [] [0,56,184] 600 q447_N = true := by decide +kernel
set_option maxHeartbeats 4000000 in
theorem q447_met {G : rfG} (h : okG G) : rf_met G q447_M := rf_methodB h.1 (P := q447_P) (U := q447_U) (N := q447_N) ⟨wflT h flokX7, wcsT h csokX7, wlcT h lcokX7, spokX7 h, fun _ h => absurd h List.not_mem_nil, fun _ h => absurd h List.not_mem_nil, fun _ h => absurd h List.not_mem_nil, fun _ h => absurd h List.not_mem_nil, List.forall_mem_cons.mpr ⟨⟨wmT h (wm130), fun h => absurd h (by decide), fun _ => ⟨wmT h (wm919), wmT h (wm557), wmT h (wm558)⟩, fun h => absurd h (by decide)⟩, fun _ h => absurd h List.not_mem_nil⟩⟩ dkX7_fillRow (by decide +kernel) (by rw [h.2.2.1]; exact q447_ok)
/-- NearSpell.Ruler.fillRow -/
def q448_M : rfM := ((⟨"NearSpell$Ruler", "fillRow", "(I)V"⟩, prog_9_method_9_code, 7, none), (1,15), ([.inr (.inl [20]),.inl ((1,10,1),none)],[]), [(19,0)], [(none,[],[])])
def q448_P : rfP := (flX7,csX7,lcX7,spX7,[],[],[],([],[(44,1)]))
def q448_U : rfU := [(.inl 1,[((-2147483648),0),(1,1),(2,12),(13,2147483647)])]
set_option maxHeartbeats 8000000 in
def q448_N : List rfB := [(0,([(0,.inr (.inl [20])),(1,.inl ((1,10,1),none))],[],[]),(1653,[]),1000000),
  (56,([(0,.inr (.inl [20])),(1,.inl ((2,10,1),none)),(2,.inl (((-2147483648),2147483647,1),none)),(3,.inl (((-2147483648),2147483647,1),none)),(4,.inl ((26,130,13),none)),(5,.inl ((1,1,0),none))],[],[]),(1617,[]),0),
  (56,([(0,.inr (.inl [20])),(1,.inl ((1,1,1),none)),(2,.inl (((-2147483648),2147483647,1),some (.inr (18,0),some 0))),(3,.inl ((0,0,0),none)),(4,.inl ((13,13,13),none)),(5,.inl ((1,1,0),none))],[],[((19,13),(1,1,1),none)]),(616,[]),0),
  (184,([(0,.inr (.inl [20])),(1,.inl ((2,10,1),none)),(2,.inl (((-2147483648),2147483647,1),none)),(3,.inl (((-2147483648),2147483647,1),none)),(4,.inl ((27,131,13),none)),(5,.inl ((1,1,0),none)),(6,.inl (((-2147483648),2147483647,1),none))],[],[((20,3),(1,12,1),none)]),(1571,[]),0),
  (184,([(0,.inr (.inl [20])),(1,.inl ((1,1,1),none)),(2,.inl (((-2147483648),2147483647,1),some (.inr (18,0),some 0))),(3,.inl ((0,0,0),none)),(4,.inl ((14,14,13),none)),(5,.inl ((1,1,0),none)),(6,.inl (((-2147483648),2147483647,1),none))],[],[((19,13),(1,1,1),none),((20,3),(1,12,1),none)]),(573,[]),0),
  (56,([(0,.inr (.inl [20])),(1,.inl ((2,10,1),none)),(2,.inl (((-2147483648),2147483647,1),none)),(3,.inl (((-2147483648),2147483647,1),none)),(4,.inl ((27,131,13),none)),(5,.inl ((2,2,0),none)),(6,.inl (((-2147483648),2147483647,1),none))],[],[((20,3),(1,12,1),none)]),(1564,[]),0),
  (184,([(0,.inr (.inl [20])),(1,.inl ((2,10,1),none)),(2,.inl (((-2147483648),2147483647,1),none)),(3,.inl (((-2147483648),2147483647,1),none)),(4,.inl ((28,132,13),none)),(5,.inl ((2,2,0),none)),(6,.inl (((-2147483648),2147483647,1),none))],[],[((20,3),(2,12,1),none)]),(1489,[]),0),
  (56,([(0,.inr (.inl [20])),(1,.inl ((1,1,1),none)),(2,.inl (((-2147483648),2147483647,1),some (.inr (18,0),some 0))),(3,.inl ((0,0,0),none)),(4,.inl ((14,14,13),none)),(5,.inl ((2,2,0),none)),(6,.inl (((-2147483648),2147483647,1),none))],[],[((19,13),(1,1,1),none),((19,14),((-2147483648),2147483647,1),none),((20,3),(1,12,1),none)]),(566,[]),0),
  (184,([(0,.inr (.inl [20])),(1,.inl ((1,1,1),none)),(2,.inl (((-2147483648),2147483647,1),some (.inr (18,0),some 0))),(3,.inl ((0,0,0),none)),(4,.inl ((15,15,13),none)),(5,.inl ((2,2,0),none)),(6,.inl (((-2147483648),2147483647,1),none))],[],[((19,13),(1,1,1),none),((20,3),(2,12,1),none)]),(523,[]),0),
  (56,([(0,.inr (.inl [20])),(1,.inl ((2,10,1),none)),(2,.inl (((-2147483648),2147483647,1),none)),(3,.inl (((-2147483648),2147483647,1),none)),(4,.inl ((28,132,13),none)),(5,.inl ((3,3,0),none)),(6,.inl (((-2147483648),2147483647,1),none))],[],[((20,3),(2,12,1),none)]),(1482,[]),0),
  (184,([(0,.inr (.inl [20])),(1,.inl ((2,10,1),none)),(2,.inl (((-2147483648),2147483647,1),none)),(3,.inl (((-2147483648),2147483647,1),none)),(4,.inl ((29,133,13),none)),(5,.inl ((3,3,0),none)),(6,.inl (((-2147483648),2147483647,1),none))],[],[((20,3),(3,12,1),none)]),(1407,[]),0),
  (56,([(0,.inr (.inl [20])),(1,.inl ((1,1,1),none)),(2,.inl (((-2147483648),2147483647,1),some (.inr (18,0),some 0))),(3,.inl ((0,0,0),none)),(4,.inl ((15,15,13),none)),(5,.inl ((3,3,0),none)),(6,.inl (((-2147483648),2147483647,1),none))],[],[((19,13),(1,1,1),none),((19,15),((-2147483648),2147483647,1),none),((20,3),(2,12,1),none)]),(516,[]),0),
  (184,([(0,.inr (.inl [20])),(1,.inl ((1,1,1),none)),(2,.inl (((-2147483648),2147483647,1),some (.inr (18,0),some 0))),(3,.inl ((0,0,0),none)),(4,.inl ((16,16,13),none)),(5,.inl ((3,3,0),none)),(6,.inl (((-2147483648),2147483647,1),none))],[],[((19,13),(1,1,1),none),((20,3),(3,12,1),none)]),(473,[]),0),
  (56,([(0,.inr (.inl [20])),(1,.inl ((2,10,1),none)),(2,.inl (((-2147483648),2147483647,1),none)),(3,.inl (((-2147483648),2147483647,1),none)),(4,.inl ((29,133,13),none)),(5,.inl ((4,4,0),none)),(6,.inl (((-2147483648),2147483647,1),none))],[],[((20,3),(3,12,1),none)]),(1400,[]),0),
  (184,([(0,.inr (.inl [20])),(1,.inl ((2,10,1),none)),(2,.inl (((-2147483648),2147483647,1),none)),(3,.inl (((-2147483648),2147483647,1),none)),(4,.inl ((30,134,13),none)),(5,.inl ((4,4,0),none)),(6,.inl (((-2147483648),2147483647,1),none))],[],[((20,3),(4,12,1),none)]),(1325,[]),0),
  (56,([(0,.inr (.inl [20])),(1,.inl ((1,1,1),none)),(2,.inl (((-2147483648),2147483647,1),some (.inr (18,0),some 0))),(3,.inl ((0,0,0),none)),(4,.inl ((16,16,13),none)),(5,.inl ((4,4,0),none)),(6,.inl (((-2147483648),2147483647,1),none))],[],[((19,13),(1,1,1),none),((19,16),((-2147483648),2147483647,1),none),((20,3),(3,12,1),none)]),(466,[]),0),
  (184,([(0,.inr (.inl [20])),(1,.inl ((1,1,1),none)),(2,.inl (((-2147483648),2147483647,1),some (.inr (18,0),some 0))),(3,.inl ((0,0,0),none)),(4,.inl ((17,17,13),none)),(5,.inl ((4,4,0),none)),(6,.inl (((-2147483648),2147483647,1),none))],[],[((19,13),(1,1,1),none),((20,3),(4,12,1),none)]),(423,[]),0),
  (56,([(0,.inr (.inl [20])),(1,.inl ((2,10,1),none)),(2,.inl (((-2147483648),2147483647,1),none)),(3,.inl (((-2147483648),2147483647,1),none)),(4,.inl ((30,134,13),none)),(5,.inl ((5,5,0),none)),(6,.inl (((-2147483648),2147483647,1),none))],[],[((20,3),(4,12,1),none)]),(1318,[]),0),
  (184,([(0,.inr (.inl [20])),(1,.inl ((2,10,1),none)),(2,.inl (((-2147483648),2147483647,1),none)),(3,.inl (((-2147483648),2147483647,1),none)),(4,.inl ((31,135,13),none)),(5,.inl ((5,5,0),none)),(6,.inl (((-2147483648),2147483647,1),none))],[],[((20,3),(5,12,1),none)]),(1243,[]),0),
  (56,([(0,.inr (.inl [20])),(1,.inl ((1,1,1),none)),(2,.inl (((-2147483648),2147483647,1),some (.inr (18,0),some 0))),(3,.inl ((0,0,0),none)),(4,.inl ((17,17,13),none)),(5,.inl ((5,5,0),none)),(6,.inl (((-2147483648),2147483647,1),none))],[],[((19,13),(1,1,1),none),((19,17),((-2147483648),2147483647,1),none),((20,3),(4,12,1),none)]),(416,[]),0),
  (184,([(0,.inr (.inl [20])),(1,.inl ((1,1,1),none)),(2,.inl (((-2147483648),2147483647,1),some (.inr (18,0),some 0))),(3,.inl ((0,0,0),none)),(4,.inl ((18,18,13),none)),(5,.inl ((5,5,0),none)),(6,.inl (((-2147483648),2147483647,1),none))],[],[((19,13),(1,1,1),none),((20,3),(5,12,1),none)]),(373,[]),0),
  (56,([(0,.inr (.inl [20])),(1,.inl ((2,10,1),none)),(2,.inl (((-2147483648),2147483647,1),none)),(3,.inl (((-2147483648),2147483647,1),none)),(4,.inl ((31,135,13),none)),(5,.inl ((6,6,0),none)),(6,.inl (((-2147483648),2147483647,1),none))],[],[((20,3),(5,12,1),none)]),(1236,[]),0),
  (184,([(0,.inr (.inl [20])),(1,.inl ((2,10,1),none)),(2,.inl (((-2147483648),2147483647,1),none)),(3,.inl (((-2147483648),2147483647,1),none)),(4,.inl ((32,136,13),none)),(5,.inl ((6,6,0),none)),(6,.inl (((-2147483648),2147483647,1),none))],[],[((20,3),(6,12,1),none)]),(1161,[]),0),
  (56,([(0,.inr (.inl [20])),(1,.inl ((1,1,1),none)),(2,.inl (((-2147483648),2147483647,1),some (.inr (18,0),some 0))),(3,.inl ((0,0,0),none)),(4,.inl ((18,18,13),none)),(5,.inl ((6,6,0),none)),(6,.inl (((-2147483648),2147483647,1),none))],[],[((19,13),(1,1,1),none),((19,18),((-2147483648),2147483647,1),none),((20,3),(5,12,1),none)]),(366,[]),0),
  (184,([(0,.inr (.inl [20])),(1,.inl ((1,1,1),none)),(2,.inl (((-2147483648),2147483647,1),some (.inr (18,0),some 0))),(3,.inl ((0,0,0),none)),(4,.inl ((19,19,13),none)),(5,.inl ((6,6,0),none)),(6,.inl (((-2147483648),2147483647,1),none))],[],[((19,13),(1,1,1),none),((20,3),(6,12,1),none)]),(323,[]),0),
  (56,([(0,.inr (.inl [20])),(1,.inl ((2,10,1),none)),(2,.inl (((-2147483648),2147483647,1),none)),(3,.inl (((-2147483648),2147483647,1),none)),(4,.inl ((32,136,13),none)),(5,.inl ((7,7,0),none)),(6,.inl (((-2147483648),2147483647,1),none))],[],[((20,3),(6,12,1),none)]),(1154,[]),0),
  (184,([(0,.inr (.inl [20])),(1,.inl ((2,10,1),none)),(2,.inl (((-2147483648),2147483647,1),none)),(3,.inl (((-2147483648),2147483647,1),none)),(4,.inl ((33,137,13),none)),(5,.inl ((7,7,0),none)),(6,.inl (((-2147483648),2147483647,1),none))],[],[((20,3),(7,12,1),none)]),(1079,[]),0),
  (56,([(0,.inr (.inl [20])),(1,.inl ((1,1,1),none)),(2,.inl (((-2147483648),2147483647,1),some (.inr (18,0),some 0))),(3,.inl ((0,0,0),none)),(4,.inl ((19,19,13),none)),(5,.inl ((7,7,0),none)),(6,.inl (((-2147483648),2147483647,1),none))],[],[((19,13),(1,1,1),none),((19,19),((-2147483648),2147483647,1),none),((20,3),(6,12,1),none)]),(316,[]),0),
  (184,([(0,.inr (.inl [20])),(1,.inl ((1,1,1),none)),(2,.inl (((-2147483648),2147483647,1),some (.inr (18,0),some 0))),(3,.inl ((0,0,0),none)),(4,.inl ((20,20,13),none)),(5,.inl ((7,7,0),none)),(6,.inl (((-2147483648),2147483647,1),none))],[],[((19,13),(1,1,1),none),((20,3),(7,12,1),none)]),(273,[]),0),
  (56,([(0,.inr (.inl [20])),(1,.inl ((2,10,1),none)),(2,.inl (((-2147483648),2147483647,1),none)),(3,.inl (((-2147483648),2147483647,1),none)),(4,.inl ((33,137,13),none)),(5,.inl ((8,8,0),none)),(6,.inl (((-2147483648),2147483647,1),none))],[],[((20,3),(7,12,1),none)]),(1072,[]),0),
  (184,([(0,.inr (.inl [20])),(1,.inl ((2,10,1),none)),(2,.inl (((-2147483648),2147483647,1),none)),(3,.inl (((-2147483648),2147483647,1),none)),(4,.inl ((34,138,13),none)),(5,.inl ((8,8,0),none)),(6,.inl (((-2147483648),2147483647,1),none))],[],[((20,3),(8,12,1),none)]),(997,[]),0),
  (56,([(0,.inr (.inl [20])),(1,.inl ((1,1,1),none)),(2,.inl (((-2147483648),2147483647,1),some (.inr (18,0),some 0))),(3,.inl ((0,0,0),none)),(4,.inl ((20,20,13),none)),(5,.inl ((8,8,0),none)),(6,.inl (((-2147483648),2147483647,1),none))],[],[((19,13),(1,1,1),none),((19,20),((-2147483648),2147483647,1),none),((20,3),(7,12,1),none)]),(266,[]),0),
  (184,([(0,.inr (.inl [20])),(1,.inl ((1,1,1),none)),(2,.inl (((-2147483648),2147483647,1),some (.inr (18,0),some 0))),(3,.inl ((0,0,0),none)),(4,.inl ((21,21,13),none)),(5,.inl ((8,8,0),none)),(6,.inl (((-2147483648),2147483647,1),none))],[],[((19,13),(1,1,1),none),((20,3),(8,12,1),none)]),(223,[]),0),
  (56,([(0,.inr (.inl [20])),(1,.inl ((2,10,1),none)),(2,.inl (((-2147483648),2147483647,1),none)),(3,.inl (((-2147483648),2147483647,1),none)),(4,.inl ((34,138,13),none)),(5,.inl ((9,9,0),none)),(6,.inl (((-2147483648),2147483647,1),none))],[],[((20,3),(8,12,1),none)]),(990,[]),0),
  (184,([(0,.inr (.inl [20])),(1,.inl ((2,10,1),none)),(2,.inl (((-2147483648),2147483647,1),none)),(3,.inl (((-2147483648),2147483647,1),none)),(4,.inl ((35,139,13),none)),(5,.inl ((9,9,0),none)),(6,.inl (((-2147483648),2147483647,1),none))],[],[((20,3),(9,12,1),none)]),(915,[]),0),
  (56,([(0,.inr (.inl [20])),(1,.inl ((1,1,1),none)),(2,.inl (((-2147483648),2147483647,1),some (.inr (18,0),some 0))),(3,.inl ((0,0,0),none)),(4,.inl ((21,21,13),none)),(5,.inl ((9,9,0),none)),(6,.inl (((-2147483648),2147483647,1),none))],[],[((19,13),(1,1,1),none),((19,21),((-2147483648),2147483647,1),none),((20,3),(8,12,1),none)]),(216,[]),0),
  (184,([(0,.inr (.inl [20])),(1,.inl ((1,1,1),none)),(2,.inl (((-2147483648),2147483647,1),some (.inr (18,0),some 0))),(3,.inl ((0,0,0),none)),(4,.inl ((22,22,13),none)),(5,.inl ((9,9,0),none)),(6,.inl (((-2147483648),2147483647,1),none))],[],[((19,13),(1,1,1),none),((20,3),(9,12,1),none)]),(173,[]),0),
  (56,([(0,.inr (.inl [20])),(1,.inl ((2,10,1),none)),(2,.inl (((-2147483648),2147483647,1),none)),(3,.inl (((-2147483648),2147483647,1),none)),(4,.inl ((35,139,13),none)),(5,.inl ((10,10,0),none)),(6,.inl (((-2147483648),2147483647,1),none))],[],[((20,3),(9,12,1),none)]),(908,[]),0),
  (184,([(0,.inr (.inl [20])),(1,.inl ((2,10,1),none)),(2,.inl (((-2147483648),2147483647,1),none)),(3,.inl (((-2147483648),2147483647,1),none)),(4,.inl ((36,140,13),none)),(5,.inl ((10,10,0),none)),(6,.inl (((-2147483648),2147483647,1),none))],[],[((20,3),(10,12,1),none)]),(833,[]),0),
  (56,([(0,.inr (.inl [20])),(1,.inl ((1,1,1),none)),(2,.inl (((-2147483648),2147483647,1),some (.inr (18,0),some 0))),(3,.inl ((0,0,0),none)),(4,.inl ((22,22,13),none)),(5,.inl ((10,10,0),none)),(6,.inl (((-2147483648),2147483647,1),none))],[],[((19,13),(1,1,1),none),((19,22),((-2147483648),2147483647,1),none),((20,3),(9,12,1),none)]),(166,[]),0),
  (184,([(0,.inr (.inl [20])),(1,.inl ((1,1,1),none)),(2,.inl (((-2147483648),2147483647,1),some (.inr (18,0),some 0))),(3,.inl ((0,0,0),none)),(4,.inl ((23,23,13),none)),(5,.inl ((10,10,0),none)),(6,.inl (((-2147483648),2147483647,1),none))],[],[((19,13),(1,1,1),none),((20,3),(10,12,1),none)]),(123,[]),0),
  (56,([(0,.inr (.inl [20])),(1,.inl ((2,10,1),none)),(2,.inl (((-2147483648),2147483647,1),none)),(3,.inl (((-2147483648),2147483647,1),none)),(4,.inl ((36,140,13),none)),(5,.inl ((11,11,0),none)),(6,.inl (((-2147483648),2147483647,1),none))],[],[((20,3),(10,12,1),none)]),(826,[]),0),
  (184,([(0,.inr (.inl [20])),(1,.inl ((2,10,1),none)),(2,.inl (((-2147483648),2147483647,1),none)),(3,.inl (((-2147483648),2147483647,1),none)),(4,.inl ((37,141,13),none)),(5,.inl ((11,11,0),none)),(6,.inl (((-2147483648),2147483647,1),none))],[],[((20,3),(11,12,1),none)]),(751,[]),0),
  (56,([(0,.inr (.inl [20])),(1,.inl ((1,1,1),none)),(2,.inl (((-2147483648),2147483647,1),some (.inr (18,0),some 0))),(3,.inl ((0,0,0),none)),(4,.inl ((23,23,13),none)),(5,.inl ((11,11,0),none)),(6,.inl (((-2147483648),2147483647,1),none))],[],[((19,13),(1,1,1),none),((19,23),((-2147483648),2147483647,1),none),((20,3),(10,12,1),none)]),(116,[]),0),
  (184,([(0,.inr (.inl [20])),(1,.inl ((1,1,1),none)),(2,.inl (((-2147483648),2147483647,1),some (.inr (18,0),some 0))),(3,.inl ((0,0,0),none)),(4,.inl ((24,24,13),none)),(5,.inl ((11,11,0),none)),(6,.inl (((-2147483648),2147483647,1),none))],[],[((19,13),(1,1,1),none),((20,3),(11,12,1),none)]),(73,[]),0),
  (56,([(0,.inr (.inl [20])),(1,.inl ((2,10,1),none)),(2,.inl (((-2147483648),2147483647,1),none)),(3,.inl (((-2147483648),2147483647,1),none)),(4,.inl ((37,141,13),none)),(5,.inl ((12,12,0),none)),(6,.inl (((-2147483648),2147483647,1),none))],[],[((20,3),(11,12,1),none)]),(744,[]),0),
  (184,([(0,.inr (.inl [20])),(1,.inl ((2,10,1),none)),(2,.inl (((-2147483648),2147483647,1),none)),(3,.inl (((-2147483648),2147483647,1),none)),(4,.inl ((38,142,13),none)),(5,.inl ((12,12,0),none)),(6,.inl (((-2147483648),2147483647,1),none))],[],[((20,3),(12,12,1),none)]),(669,[]),0),
  (56,([(0,.inr (.inl [20])),(1,.inl ((1,1,1),none)),(2,.inl (((-2147483648),2147483647,1),some (.inr (18,0),some 0))),(3,.inl ((0,0,0),none)),(4,.inl ((24,24,13),none)),(5,.inl ((12,12,0),none)),(6,.inl (((-2147483648),2147483647,1),none))],[],[((19,13),(1,1,1),none),((19,24),((-2147483648),2147483647,1),none),((20,3),(11,12,1),none)]),(66,[]),0),
  (184,([(0,.inr (.inl [20])),(1,.inl ((1,1,1),none)),(2,.inl (((-2147483648),2147483647,1),some (.inr (18,0),some 0))),(3,.inl ((0,0,0),none)),(4,.inl ((25,25,13),none)),(5,.inl ((12,12,0),none)),(6,.inl (((-2147483648),2147483647,1),none))],[],[((19,13),(1,1,1),none),((20,3),(12,12,1),none)]),(23,[]),0),
  (56,([(0,.inr (.inl [20])),(1,.inl ((2,10,1),none)),(2,.inl (((-2147483648),2147483647,1),none)),(3,.inl (((-2147483648),2147483647,1),none)),(4,.inl ((38,142,13),none)),(5,.inl ((13,13,0),none)),(6,.inl (((-2147483648),2147483647,1),none))],[],[((20,3),(12,12,1),none)]),(662,[]),0),
  (56,([(0,.inr (.inl [20])),(1,.inl ((1,1,1),none)),(2,.inl (((-2147483648),2147483647,1),some (.inr (18,0),some 0))),(3,.inl ((0,0,0),none)),(4,.inl ((25,25,13),none)),(5,.inl ((13,13,0),none)),(6,.inl (((-2147483648),2147483647,1),none))],[],[((19,13),(1,1,1),none),((19,25),((-2147483648),2147483647,1),none),((20,3),(12,12,1),none)]),(16,[]),0)]
set_option maxRecDepth 100000 in
theorem q448_ok : rf_chkB q448_P q448_U wLay q448_M ddX7_fillRow [] [] [0,56,184] 600 q448_N = true := by decide +kernel
set_option maxHeartbeats 4000000 in
theorem q448_met {G : rfG} (h : okG G) : rf_met G q448_M := rf_methodB h.1 (P := q448_P) (U := q448_U) (N := q448_N) ⟨wflT h flokX7, wcsT h csokX7, wlcT h lcokX7, spokX7 h, fun _ h => absurd h List.not_mem_nil, fun _ h => absurd h List.not_mem_nil, fun _ h => absurd h List.not_mem_nil, fun _ h => absurd h List.not_mem_nil, List.forall_mem_cons.mpr ⟨⟨wmT h (wm130), fun h => absurd h (by decide), fun _ => ⟨wmT h (wm919), wmT h (wm557), wmT h (wm558)⟩, fun h => absurd h (by decide)⟩, fun _ h => absurd h List.not_mem_nil⟩⟩ dkX7_fillRow (by decide +kernel) (by rw [h.2.2.1]; exact q448_ok)
/-- NearSpell.Ruler.fillRow -/
def q449_M : rfM := ((⟨"NearSpell$Ruler", "fillRow", "(I)V"⟩, prog_9_method_9_code, 7, none), (1,15), ([.inr (.inl [20]),.inl ((1,12,1),none)],[]), [(19,0)], [(none,[],[])])
def q449_P : rfP := (flX7,csX7,lcX7,spX7,[],[],[],([],[(44,1)]))
def q449_U : rfU := [(.inl 1,[((-2147483648),0),(1,1),(2,12),(13,2147483647)])]
set_option maxHeartbeats 8000000 in
def q449_N : List rfB := [(0,([(0,.inr (.inl [20])),(1,.inl ((1,12,1),none))],[],[]),(1653,[]),1000000),
  (56,([(0,.inr (.inl [20])),(1,.inl ((2,12,1),none)),(2,.inl (((-2147483648),2147483647,1),none)),(3,.inl (((-2147483648),2147483647,1),none)),(4,.inl ((26,156,13),none)),(5,.inl ((1,1,0),none))],[],[]),(1617,[]),0),
  (56,([(0,.inr (.inl [20])),(1,.inl ((1,1,1),none)),(2,.inl (((-2147483648),2147483647,1),some (.inr (18,0),some 0))),(3,.inl ((0,0,0),none)),(4,.inl ((13,13,13),none)),(5,.inl ((1,1,0),none))],[],[((19,13),(1,1,1),none)]),(616,[]),0),
  (184,([(0,.inr (.inl [20])),(1,.inl ((2,12,1),none)),(2,.inl (((-2147483648),2147483647,1),none)),(3,.inl (((-2147483648),2147483647,1),none)),(4,.inl ((27,157,13),none)),(5,.inl ((1,1,0),none)),(6,.inl (((-2147483648),2147483647,1),none))],[],[((20,3),(1,12,1),none)]),(1571,[]),0),
  (184,([(0,.inr (.inl [20])),(1,.inl ((1,1,1),none)),(2,.inl (((-2147483648),2147483647,1),some (.inr (18,0),some 0))),(3,.inl ((0,0,0),none)),(4,.inl ((14,14,13),none)),(5,.inl ((1,1,0),none)),(6,.inl (((-2147483648),2147483647,1),none))],[],[((19,13),(1,1,1),none),((20,3),(1,12,1),none)]),(573,[]),0),
  (56,([(0,.inr (.inl [20])),(1,.inl ((2,12,1),none)),(2,.inl (((-2147483648),2147483647,1),none)),(3,.inl (((-2147483648),2147483647,1),none)),(4,.inl ((27,157,13),none)),(5,.inl ((2,2,0),none)),(6,.inl (((-2147483648),2147483647,1),none))],[],[((20,3),(1,12,1),none)]),(1564,[]),0),
  (184,([(0,.inr (.inl [20])),(1,.inl ((2,12,1),none)),(2,.inl (((-2147483648),2147483647,1),none)),(3,.inl (((-2147483648),2147483647,1),none)),(4,.inl ((28,158,13),none)),(5,.inl ((2,2,0),none)),(6,.inl (((-2147483648),2147483647,1),none))],[],[((20,3),(2,12,1),none)]),(1489,[]),0),
  (56,([(0,.inr (.inl [20])),(1,.inl ((1,1,1),none)),(2,.inl (((-2147483648),2147483647,1),some (.inr (18,0),some 0))),(3,.inl ((0,0,0),none)),(4,.inl ((14,14,13),none)),(5,.inl ((2,2,0),none)),(6,.inl (((-2147483648),2147483647,1),none))],[],[((19,13),(1,1,1),none),((19,14),((-2147483648),2147483647,1),none),((20,3),(1,12,1),none)]),(566,[]),0),
  (184,([(0,.inr (.inl [20])),(1,.inl ((1,1,1),none)),(2,.inl (((-2147483648),2147483647,1),some (.inr (18,0),some 0))),(3,.inl ((0,0,0),none)),(4,.inl ((15,15,13),none)),(5,.inl ((2,2,0),none)),(6,.inl (((-2147483648),2147483647,1),none))],[],[((19,13),(1,1,1),none),((20,3),(2,12,1),none)]),(523,[]),0),
  (56,([(0,.inr (.inl [20])),(1,.inl ((2,12,1),none)),(2,.inl (((-2147483648),2147483647,1),none)),(3,.inl (((-2147483648),2147483647,1),none)),(4,.inl ((28,158,13),none)),(5,.inl ((3,3,0),none)),(6,.inl (((-2147483648),2147483647,1),none))],[],[((20,3),(2,12,1),none)]),(1482,[]),0),
  (184,([(0,.inr (.inl [20])),(1,.inl ((2,12,1),none)),(2,.inl (((-2147483648),2147483647,1),none)),(3,.inl (((-2147483648),2147483647,1),none)),(4,.inl ((29,159,13),none)),(5,.inl ((3,3,0),none)),(6,.inl (((-2147483648),2147483647,1),none))],[],[((20,3),(3,12,1),none)]),(1407,[]),0),
  (56,([(0,.inr (.inl [20])),(1,.inl ((1,1,1),none)),(2,.inl (((-2147483648),2147483647,1),some (.inr (18,0),some 0))),(3,.inl ((0,0,0),none)),(4,.inl ((15,15,13),none)),(5,.inl ((3,3,0),none)),(6,.inl (((-2147483648),2147483647,1),none))],[],[((19,13),(1,1,1),none),((19,15),((-2147483648),2147483647,1),none),((20,3),(2,12,1),none)]),(516,[]),0),
  (184,([(0,.inr (.inl [20])),(1,.inl ((1,1,1),none)),(2,.inl (((-2147483648),2147483647,1),some (.inr (18,0),some 0))),(3,.inl ((0,0,0),none)),(4,.inl ((16,16,13),none)),(5,.inl ((3,3,0),none)),(6,.inl (((-2147483648),2147483647,1),none))],[],[((19,13),(1,1,1),none),((20,3),(3,12,1),none)]),(473,[]),0),
  (56,([(0,.inr (.inl [20])),(1,.inl ((2,12,1),none)),(2,.inl (((-2147483648),2147483647,1),none)),(3,.inl (((-2147483648),2147483647,1),none)),(4,.inl ((29,159,13),none)),(5,.inl ((4,4,0),none)),(6,.inl (((-2147483648),2147483647,1),none))],[],[((20,3),(3,12,1),none)]),(1400,[]),0),
  (184,([(0,.inr (.inl [20])),(1,.inl ((2,12,1),none)),(2,.inl (((-2147483648),2147483647,1),none)),(3,.inl (((-2147483648),2147483647,1),none)),(4,.inl ((30,160,13),none)),(5,.inl ((4,4,0),none)),(6,.inl (((-2147483648),2147483647,1),none))],[],[((20,3),(4,12,1),none)]),(1325,[]),0),
  (56,([(0,.inr (.inl [20])),(1,.inl ((1,1,1),none)),(2,.inl (((-2147483648),2147483647,1),some (.inr (18,0),some 0))),(3,.inl ((0,0,0),none)),(4,.inl ((16,16,13),none)),(5,.inl ((4,4,0),none)),(6,.inl (((-2147483648),2147483647,1),none))],[],[((19,13),(1,1,1),none),((19,16),((-2147483648),2147483647,1),none),((20,3),(3,12,1),none)]),(466,[]),0),
  (184,([(0,.inr (.inl [20])),(1,.inl ((1,1,1),none)),(2,.inl (((-2147483648),2147483647,1),some (.inr (18,0),some 0))),(3,.inl ((0,0,0),none)),(4,.inl ((17,17,13),none)),(5,.inl ((4,4,0),none)),(6,.inl (((-2147483648),2147483647,1),none))],[],[((19,13),(1,1,1),none),((20,3),(4,12,1),none)]),(423,[]),0),
  (56,([(0,.inr (.inl [20])),(1,.inl ((2,12,1),none)),(2,.inl (((-2147483648),2147483647,1),none)),(3,.inl (((-2147483648),2147483647,1),none)),(4,.inl ((30,160,13),none)),(5,.inl ((5,5,0),none)),(6,.inl (((-2147483648),2147483647,1),none))],[],[((20,3),(4,12,1),none)]),(1318,[]),0),
  (184,([(0,.inr (.inl [20])),(1,.inl ((2,12,1),none)),(2,.inl (((-2147483648),2147483647,1),none)),(3,.inl (((-2147483648),2147483647,1),none)),(4,.inl ((31,161,13),none)),(5,.inl ((5,5,0),none)),(6,.inl (((-2147483648),2147483647,1),none))],[],[((20,3),(5,12,1),none)]),(1243,[]),0),
  (56,([(0,.inr (.inl [20])),(1,.inl ((1,1,1),none)),(2,.inl (((-2147483648),2147483647,1),some (.inr (18,0),some 0))),(3,.inl ((0,0,0),none)),(4,.inl ((17,17,13),none)),(5,.inl ((5,5,0),none)),(6,.inl (((-2147483648),2147483647,1),none))],[],[((19,13),(1,1,1),none),((19,17),((-2147483648),2147483647,1),none),((20,3),(4,12,1),none)]),(416,[]),0),
  (184,([(0,.inr (.inl [20])),(1,.inl ((1,1,1),none)),(2,.inl (((-2147483648),2147483647,1),some (.inr (18,0),some 0))),(3,.inl ((0,0,0),none)),(4,.inl ((18,18,13),none)),(5,.inl ((5,5,0),none)),(6,.inl (((-2147483648),2147483647,1),none))],[],[((19,13),(1,1,1),none),((20,3),(5,12,1),none)]),(373,[]),0),
  (56,([(0,.inr (.inl [20])),(1,.inl ((2,12,1),none)),(2,.inl (((-2147483648),2147483647,1),none)),(3,.inl (((-2147483648),2147483647,1),none)),(4,.inl ((31,161,13),none)),(5,.inl ((6,6,0),none)),(6,.inl (((-2147483648),2147483647,1),none))],[],[((20,3),(5,12,1),none)]),(1236,[]),0),
  (184,([(0,.inr (.inl [20])),(1,.inl ((2,12,1),none)),(2,.inl (((-2147483648),2147483647,1),none)),(3,.inl (((-2147483648),2147483647,1),none)),(4,.inl ((32,162,13),none)),(5,.inl ((6,6,0),none)),(6,.inl (((-2147483648),2147483647,1),none))],[],[((20,3),(6,12,1),none)]),(1161,[]),0),
  (56,([(0,.inr (.inl [20])),(1,.inl ((1,1,1),none)),(2,.inl (((-2147483648),2147483647,1),some (.inr (18,0),some 0))),(3,.inl ((0,0,0),none)),(4,.inl ((18,18,13),none)),(5,.inl ((6,6,0),none)),(6,.inl (((-2147483648),2147483647,1),none))],[],[((19,13),(1,1,1),none),((19,18),((-2147483648),2147483647,1),none),((20,3),(5,12,1),none)]),(366,[]),0),
  (184,([(0,.inr (.inl [20])),(1,.inl ((1,1,1),none)),(2,.inl (((-2147483648),2147483647,1),some (.inr (18,0),some 0))),(3,.inl ((0,0,0),none)),(4,.inl ((19,19,13),none)),(5,.inl ((6,6,0),none)),(6,.inl (((-2147483648),2147483647,1),none))],[],[((19,13),(1,1,1),none),((20,3),(6,12,1),none)]),(323,[]),0),
  (56,([(0,.inr (.inl [20])),(1,.inl ((2,12,1),none)),(2,.inl (((-2147483648),2147483647,1),none)),(3,.inl (((-2147483648),2147483647,1),none)),(4,.inl ((32,162,13),none)),(5,.inl ((7,7,0),none)),(6,.inl (((-2147483648),2147483647,1),none))],[],[((20,3),(6,12,1),none)]),(1154,[]),0),
  (184,([(0,.inr (.inl [20])),(1,.inl ((2,12,1),none)),(2,.inl (((-2147483648),2147483647,1),none)),(3,.inl (((-2147483648),2147483647,1),none)),(4,.inl ((33,163,13),none)),(5,.inl ((7,7,0),none)),(6,.inl (((-2147483648),2147483647,1),none))],[],[((20,3),(7,12,1),none)]),(1079,[]),0),
  (56,([(0,.inr (.inl [20])),(1,.inl ((1,1,1),none)),(2,.inl (((-2147483648),2147483647,1),some (.inr (18,0),some 0))),(3,.inl ((0,0,0),none)),(4,.inl ((19,19,13),none)),(5,.inl ((7,7,0),none)),(6,.inl (((-2147483648),2147483647,1),none))],[],[((19,13),(1,1,1),none),((19,19),((-2147483648),2147483647,1),none),((20,3),(6,12,1),none)]),(316,[]),0),
  (184,([(0,.inr (.inl [20])),(1,.inl ((1,1,1),none)),(2,.inl (((-2147483648),2147483647,1),some (.inr (18,0),some 0))),(3,.inl ((0,0,0),none)),(4,.inl ((20,20,13),none)),(5,.inl ((7,7,0),none)),(6,.inl (((-2147483648),2147483647,1),none))],[],[((19,13),(1,1,1),none),((20,3),(7,12,1),none)]),(273,[]),0),
  (56,([(0,.inr (.inl [20])),(1,.inl ((2,12,1),none)),(2,.inl (((-2147483648),2147483647,1),none)),(3,.inl (((-2147483648),2147483647,1),none)),(4,.inl ((33,163,13),none)),(5,.inl ((8,8,0),none)),(6,.inl (((-2147483648),2147483647,1),none))],[],[((20,3),(7,12,1),none)]),(1072,[]),0),
  (184,([(0,.inr (.inl [20])),(1,.inl ((2,12,1),none)),(2,.inl (((-2147483648),2147483647,1),none)),(3,.inl (((-2147483648),2147483647,1),none)),(4,.inl ((34,164,13),none)),(5,.inl ((8,8,0),none)),(6,.inl (((-2147483648),2147483647,1),none))],[],[((20,3),(8,12,1),none)]),(997,[]),0),
  (56,([(0,.inr (.inl [20])),(1,.inl ((1,1,1),none)),(2,.inl (((-2147483648),2147483647,1),some (.inr (18,0),some 0))),(3,.inl ((0,0,0),none)),(4,.inl ((20,20,13),none)),(5,.inl ((8,8,0),none)),(6,.inl (((-2147483648),2147483647,1),none))],[],[((19,13),(1,1,1),none),((19,20),((-2147483648),2147483647,1),none),((20,3),(7,12,1),none)]),(266,[]),0),
  (184,([(0,.inr (.inl [20])),(1,.inl ((1,1,1),none)),(2,.inl (((-2147483648),2147483647,1),some (.inr (18,0),some 0))),(3,.inl ((0,0,0),none)),(4,.inl ((21,21,13),none)),(5,.inl ((8,8,0),none)),(6,.inl (((-2147483648),2147483647,1),none))],[],[((19,13),(1,1,1),none),((20,3),(8,12,1),none)]),(223,[]),0),
  (56,([(0,.inr (.inl [20])),(1,.inl ((2,12,1),none)),(2,.inl (((-2147483648),2147483647,1),none)),(3,.inl (((-2147483648),2147483647,1),none)),(4,.inl ((34,164,13),none)),(5,.inl ((9,9,0),none)),(6,.inl (((-2147483648),2147483647,1),none))],[],[((20,3),(8,12,1),none)]),(990,[]),0),
  (184,([(0,.inr (.inl [20])),(1,.inl ((2,12,1),none)),(2,.inl (((-2147483648),2147483647,1),none)),(3,.inl (((-2147483648),2147483647,1),none)),(4,.inl ((35,165,13),none)),(5,.inl ((9,9,0),none)),(6,.inl (((-2147483648),2147483647,1),none))],[],[((20,3),(9,12,1),none)]),(915,[]),0),
  (56,([(0,.inr (.inl [20])),(1,.inl ((1,1,1),none)),(2,.inl (((-2147483648),2147483647,1),some (.inr (18,0),some 0))),(3,.inl ((0,0,0),none)),(4,.inl ((21,21,13),none)),(5,.inl ((9,9,0),none)),(6,.inl (((-2147483648),2147483647,1),none))],[],[((19,13),(1,1,1),none),((19,21),((-2147483648),2147483647,1),none),((20,3),(8,12,1),none)]),(216,[]),0),
  (184,([(0,.inr (.inl [20])),(1,.inl ((1,1,1),none)),(2,.inl (((-2147483648),2147483647,1),some (.inr (18,0),some 0))),(3,.inl ((0,0,0),none)),(4,.inl ((22,22,13),none)),(5,.inl ((9,9,0),none)),(6,.inl (((-2147483648),2147483647,1),none))],[],[((19,13),(1,1,1),none),((20,3),(9,12,1),none)]),(173,[]),0),
  (56,([(0,.inr (.inl [20])),(1,.inl ((2,12,1),none)),(2,.inl (((-2147483648),2147483647,1),none)),(3,.inl (((-2147483648),2147483647,1),none)),(4,.inl ((35,165,13),none)),(5,.inl ((10,10,0),none)),(6,.inl (((-2147483648),2147483647,1),none))],[],[((20,3),(9,12,1),none)]),(908,[]),0),
  (184,([(0,.inr (.inl [20])),(1,.inl ((2,12,1),none)),(2,.inl (((-2147483648),2147483647,1),none)),(3,.inl (((-2147483648),2147483647,1),none)),(4,.inl ((36,166,13),none)),(5,.inl ((10,10,0),none)),(6,.inl (((-2147483648),2147483647,1),none))],[],[((20,3),(10,12,1),none)]),(833,[]),0),
  (56,([(0,.inr (.inl [20])),(1,.inl ((1,1,1),none)),(2,.inl (((-2147483648),2147483647,1),some (.inr (18,0),some 0))),(3,.inl ((0,0,0),none)),(4,.inl ((22,22,13),none)),(5,.inl ((10,10,0),none)),(6,.inl (((-2147483648),2147483647,1),none))],[],[((19,13),(1,1,1),none),((19,22),((-2147483648),2147483647,1),none),((20,3),(9,12,1),none)]),(166,[]),0),
  (184,([(0,.inr (.inl [20])),(1,.inl ((1,1,1),none)),(2,.inl (((-2147483648),2147483647,1),some (.inr (18,0),some 0))),(3,.inl ((0,0,0),none)),(4,.inl ((23,23,13),none)),(5,.inl ((10,10,0),none)),(6,.inl (((-2147483648),2147483647,1),none))],[],[((19,13),(1,1,1),none),((20,3),(10,12,1),none)]),(123,[]),0),
  (56,([(0,.inr (.inl [20])),(1,.inl ((2,12,1),none)),(2,.inl (((-2147483648),2147483647,1),none)),(3,.inl (((-2147483648),2147483647,1),none)),(4,.inl ((36,166,13),none)),(5,.inl ((11,11,0),none)),(6,.inl (((-2147483648),2147483647,1),none))],[],[((20,3),(10,12,1),none)]),(826,[]),0),
  (184,([(0,.inr (.inl [20])),(1,.inl ((2,12,1),none)),(2,.inl (((-2147483648),2147483647,1),none)),(3,.inl (((-2147483648),2147483647,1),none)),(4,.inl ((37,167,13),none)),(5,.inl ((11,11,0),none)),(6,.inl (((-2147483648),2147483647,1),none))],[],[((20,3),(11,12,1),none)]),(751,[]),0),
  (56,([(0,.inr (.inl [20])),(1,.inl ((1,1,1),none)),(2,.inl (((-2147483648),2147483647,1),some (.inr (18,0),some 0))),(3,.inl ((0,0,0),none)),(4,.inl ((23,23,13),none)),(5,.inl ((11,11,0),none)),(6,.inl (((-2147483648),2147483647,1),none))],[],[((19,13),(1,1,1),none),((19,23),((-2147483648),2147483647,1),none),((20,3),(10,12,1),none)]),(116,[]),0),
  (184,([(0,.inr (.inl [20])),(1,.inl ((1,1,1),none)),(2,.inl (((-2147483648),2147483647,1),some (.inr (18,0),some 0))),(3,.inl ((0,0,0),none)),(4,.inl ((24,24,13),none)),(5,.inl ((11,11,0),none)),(6,.inl (((-2147483648),2147483647,1),none))],[],[((19,13),(1,1,1),none),((20,3),(11,12,1),none)]),(73,[]),0),
  (56,([(0,.inr (.inl [20])),(1,.inl ((2,12,1),none)),(2,.inl (((-2147483648),2147483647,1),none)),(3,.inl (((-2147483648),2147483647,1),none)),(4,.inl ((37,167,13),none)),(5,.inl ((12,12,0),none)),(6,.inl (((-2147483648),2147483647,1),none))],[],[((20,3),(11,12,1),none)]),(744,[]),0),
  (184,([(0,.inr (.inl [20])),(1,.inl ((2,12,1),none)),(2,.inl (((-2147483648),2147483647,1),none)),(3,.inl (((-2147483648),2147483647,1),none)),(4,.inl ((38,168,13),none)),(5,.inl ((12,12,0),none)),(6,.inl (((-2147483648),2147483647,1),none))],[],[((20,3),(12,12,1),none)]),(669,[]),0),
  (56,([(0,.inr (.inl [20])),(1,.inl ((1,1,1),none)),(2,.inl (((-2147483648),2147483647,1),some (.inr (18,0),some 0))),(3,.inl ((0,0,0),none)),(4,.inl ((24,24,13),none)),(5,.inl ((12,12,0),none)),(6,.inl (((-2147483648),2147483647,1),none))],[],[((19,13),(1,1,1),none),((19,24),((-2147483648),2147483647,1),none),((20,3),(11,12,1),none)]),(66,[]),0),
  (184,([(0,.inr (.inl [20])),(1,.inl ((1,1,1),none)),(2,.inl (((-2147483648),2147483647,1),some (.inr (18,0),some 0))),(3,.inl ((0,0,0),none)),(4,.inl ((25,25,13),none)),(5,.inl ((12,12,0),none)),(6,.inl (((-2147483648),2147483647,1),none))],[],[((19,13),(1,1,1),none),((20,3),(12,12,1),none)]),(23,[]),0),
  (56,([(0,.inr (.inl [20])),(1,.inl ((2,12,1),none)),(2,.inl (((-2147483648),2147483647,1),none)),(3,.inl (((-2147483648),2147483647,1),none)),(4,.inl ((38,168,13),none)),(5,.inl ((13,13,0),none)),(6,.inl (((-2147483648),2147483647,1),none))],[],[((20,3),(12,12,1),none)]),(662,[]),0),
  (56,([(0,.inr (.inl [20])),(1,.inl ((1,1,1),none)),(2,.inl (((-2147483648),2147483647,1),some (.inr (18,0),some 0))),(3,.inl ((0,0,0),none)),(4,.inl ((25,25,13),none)),(5,.inl ((13,13,0),none)),(6,.inl (((-2147483648),2147483647,1),none))],[],[((19,13),(1,1,1),none),((19,25),((-2147483648),2147483647,1),none),((20,3),(12,12,1),none)]),(16,[]),0)]
set_option maxRecDepth 100000 in
theorem q449_ok : rf_chkB q449_P q449_U wLay q449_M ddX7_fillRow [] [] [0,56,184] 600 q449_N = true := by decide +kernel
set_option maxHeartbeats 4000000 in
theorem q449_met {G : rfG} (h : okG G) : rf_met G q449_M := rf_methodB h.1 (P := q449_P) (U := q449_U) (N := q449_N) ⟨wflT h flokX7, wcsT h csokX7, wlcT h lcokX7, spokX7 h, fun _ h => absurd h List.not_mem_nil, fun _ h => absurd h List.not_mem_nil, fun _ h => absurd h List.not_mem_nil, fun _ h => absurd h List.not_mem_nil, List.forall_mem_cons.mpr ⟨⟨wmT h (wm130), fun h => absurd h (by decide), fun _ => ⟨wmT h (wm919), wmT h (wm557), wmT h (wm558)⟩, fun h => absurd h (by decide)⟩, fun _ h => absurd h List.not_mem_nil⟩⟩ dkX7_fillRow (by decide +kernel) (by rw [h.2.2.1]; exact q449_ok)
