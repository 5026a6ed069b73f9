/-- NearSpell.Finder.comesAhead -/
def q120_M : rfM := ((⟨"NearSpell$Finder", "comesAhead", "(II)Z"⟩, prog_4_method_8_code, 3, (some .boolean)), (1,21), ([.inr (.inl [55]),.inl ((0,3,1),none),.inl ((0,2,1),none)],[]), [], [(some (.inl ((1,1,0),none)),[],[]),(some (.inl ((0,0,0),none)),[],[])])
def q120_P : rfP := (flX2,csX2,lcX2,spX2,[q119_M,q117_M],[],[(87,0,8),(87,1,8)],[])
def q120_U : rfU := []
set_option maxHeartbeats 4000000 in
def q120_N : List rfB := [(0,([(0,.inr (.inl [55])),(1,.inl ((0,3,1),none)),(2,.inl ((0,2,1),none))],[],[]),(36,[]),0)]
set_option maxRecDepth 100000 in
theorem q120_ok : rf_chkB q120_P q120_U wLay q120_M ddX2_comesAhead [(41,[0]),(49,[1])] [] [0] 600 q120_N = true := by decide +kernel
/-- NearSpell.State.usesOf -/
def q121_M : rfM := ((⟨"NearSpell$State", "usesOf", "(I)I"⟩, prog_10_method_8_code, 2, (some .int)), (0,0), ([.inr (.inl [13]),.inl ((0,12,1),none)],[]), [], [(some (.inl (((-2147483648),2147483647,1),none)),[],[])])
def q121_P : rfP := (flX8,csX8,lcX8,spX8,[],[],[],[])
def q121_U : rfU := []
set_option maxHeartbeats 4000000 in
def q121_N : List rfB := [(0,([(0,.inr (.inl [13])),(1,.inl ((0,12,1),none))],[],[]),(12,[]),0)]
set_option maxRecDepth 100000 in
theorem q121_ok : rf_chkB q121_P q121_U wLay q121_M ddX8_usesOf [] [] [0] 600 q121_N = true := by decide +kernel
/-- NearSpell.Finder.comesAhead -/
def q122_M : rfM := ((⟨"NearSpell$Finder", "comesAhead", "(II)Z"⟩, prog_4_method_8_code, 3, (some .boolean)), (1,21), ([.inr (.inl [55]),.inl ((0,12,1),none),.inl ((0,12,1),none)],[]), [], [(some (.inl ((1,1,0),none)),[],[]),(some (.inl ((0,0,0),none)),[],[])])
def q122_P : rfP := (flX2,csX2,lcX2,spX2,[q121_M],[],[(87,0,8)],[])
def q122_U : rfU := []
set_option maxHeartbeats 4000000 in
def q122_N : List rfB := [(0,([(0,.inr (.inl [55])),(1,.inl ((0,12,1),none)),(2,.inl ((0,12,1),none))],[],[]),(36,[]),0)]
set_option maxRecDepth 100000 in
theorem q122_ok : rf_chkB q122_P q122_U wLay q122_M ddX2_comesAhead [(41,[0]),(49,[0])] [] [0] 600 q122_N = true := by decide +kernel
/-- NearSpell.Finder.comesAhead -/
def q123_M : rfM := ((⟨"NearSpell$Finder", "comesAhead", "(II)Z"⟩, prog_4_method_8_code, 3, (some .boolean)), (1,21), ([.inr (.inl [55]),.inl ((0,13,1),none),.inl ((0,12,1),none)],[]), [], [(some (.inl ((1,1,0),none)),[],[]),(some (.inl ((0,0,0),none)),[],[])])
def q123_P : rfP := (flX2,csX2,lcX2,spX2,[q13_M,q121_M],[],[(87,0,8),(87,1,8)],[])
def q123_U : rfU := []
set_option maxHeartbeats 4000000 in
def q123_N : List rfB := [(0,([(0,.inr (.inl [55])),(1,.inl ((0,13,1),none)),(2,.inl ((0,12,1),none))],[],[]),(36,[]),0)]
set_option maxRecDepth 100000 in
theorem q123_ok : rf_chkB q123_P q123_U wLay q123_M ddX2_comesAhead [(41,[0]),(49,[1])] [] [0] 600 q123_N = true := by decide +kernel
/-- NearSpell.Finder.comesAhead -/
def q124_M : rfM := ((⟨"NearSpell$Finder", "comesAhead", "(II)Z"⟩, prog_4_method_8_code, 3, (some .boolean)), (1,21), ([.inr (.inl [55]),.inl ((0,13,1),none),.inl ((0,13,1),none)],[]), [], [(some (.inl ((1,1,0),none)),[],[]),(some (.inl ((0,0,0),none)),[],[])])
def q124_P : rfP := (flX2,csX2,lcX2,spX2,[q13_M],[],[(87,0,8)],[])
def q124_U : rfU := []
set_option maxHeartbeats 4000000 in
def q124_N : List rfB := [(0,([(0,.inr (.inl [55])),(1,.inl ((0,13,1),none)),(2,.inl ((0,13,1),none))],[],[]),(36,[]),0)]
set_option maxRecDepth 100000 in
theorem q124_ok : rf_chkB q124_P q124_U wLay q124_M ddX2_comesAhead [(41,[0]),(49,[0])] [] [0] 600 q124_N = true := by decide +kernel
/-- NearSpell.Finder.firstOf -/
def q125_M : rfM := ((⟨"NearSpell$Finder", "firstOf", "(I)I"⟩, prog_4_method_7_code, 4, (some .int)), (2,43), ([.inr (.inl [55]),.inl ((0,2147483647,1),none)],[]), [], [(some (.inl (((-1),13,1),none)),[],[])])
def ddX2_firstOf : List (Nat × Instr × Nat) := [(0,.iconst (-1),1),(1,.istore_n 2,1),(2,.iconst 0,1),(3,.istore_n 3,1),(4,.iload_n 3,1),(5,.bipush 14,2),(7,.if_icmp .ge 33,3),(10,.iload_n 1,1),(11,.iload_n 3,1),(12,.ishr,1),(13,.iconst 1,1),(14,.iand,1),(15,.ifCond .eq 19,3),(18,.iload_n 2,1),(19,.iconst (-1),1),(20,.if_icmp .eq 12,3),(23,.aload_n 0,1),(24,.iload_n 3,1),(25,.iload_n 2,1),(26,.invokevirtual 83,3),(29,.ifCond .eq 5,3),(32,.iload_n 3,1),(33,.istore_n 2,1),(34,.iinc 3 1,3),(37,.goto (-33),3),(40,.iload_n 2,1),(41,.ireturn,1)]
def q125_P : rfP := (flX2,csX2,lcX2,spX2,[q124_M],[],[(83,0,2)],[])
def q125_U : rfU := []
set_option maxHeartbeats 4000000 in
def q125_N : List rfB := [(0,([(0,.inr (.inl [55])),(1,.inl ((0,2147483647,1),none))],[],[]),(350,[0]),0),
  (4,([(0,.inr (.inl [55])),(1,.inl ((0,2147483647,1),none)),(2,.inl (((-1),13,1),none)),(3,.inl ((0,14,1),none))],[],[]),(344,[(-23)]),0),
  (34,([(0,.inr (.inl [55])),(1,.inl ((0,2147483647,1),none)),(2,.inl (((-1),13,1),none)),(3,.inl ((0,13,1),none))],[],[]),(324,[(-23)]),0),
  (32,([(0,.inr (.inl [55])),(1,.inl ((0,2147483647,1),none)),(2,.inl (((-1),13,1),none)),(3,.inl ((0,13,1),none))],[],[]),(327,[(-23)]),0)]
set_option maxRecDepth 100000 in
theorem q125_ok : rf_chkB q125_P q125_U wLay q125_M ddX2_firstOf [(26,[0])] [.inl 3] [0,4,32,34] 600 q125_N = true := by decide +kernel
/-- NearSpell.Finder.nearestTo -/
def q126_M : rfM := ((⟨"NearSpell$Finder", "nearestTo", "(I)I"⟩, prog_4_method_5_code, 3, (some .int)), (5,117), ([.inr (.inl [55]),.inl ((0,387420488,1),none)],[]), [(17,0),(18,0),(19,0),(20,4),(20,5),(21,0),(22,2),(22,3),(22,4),(22,5),(23,0),(24,2),(24,3),(24,4),(24,5),(25,0),(26,2),(26,3),(26,4),(26,5),(27,0),(28,2),(28,3),(28,4),(28,5),(29,0),(30,2),(30,3),(30,4),(30,5),(31,0),(32,2),(32,3),(32,4),(32,5),(33,0),(34,2),(34,3),(34,4),(34,5),(35,0),(36,2),(36,3),(36,4),(36,5),(37,0),(38,2),(38,3),(38,4),(38,5),(39,0),(40,2),(40,3),(40,4),(40,5),(41,0),(42,2),(42,3),(42,4),(42,5),(43,0),(44,2),(44,3),(44,4),(44,5),(45,0),(46,2),(46,3),(46,4),(46,5),(47,0),(48,2),(48,3),(48,4),(48,5),(49,0),(50,2),(50,3),(50,4),(50,5),(54,0)], [(some (.inl (((-1),13,1),none)),[],[((20,3),(0,6,1),none),((20,4),(0,6,1),none),((50,2),(0,387420488,1),none),((50,3),(1,6,1),none),((50,4),(0,2,1),none)])])
def ddX2_nearestTo : List (Nat × Instr × Nat) := [(0,.aload_n 0,1),(1,.iload_n 1,1),(2,.bipush 6,2),(4,.invokevirtual 73,3),(7,.aload_n 0,1),(8,.iload_n 1,1),(9,.invokevirtual 77,3),(12,.iand,1),(13,.istore_n 2,1),(14,.aload_n 0,1),(15,.iload_n 2,1),(16,.invokevirtual 80,3),(19,.ireturn,1)]
def q126_P : rfP := (flX2,csX2,lcX2,spX2,[q100_M,q113_M,q125_M],[],[(73,0,2),(77,1,2),(80,2,2)],[])
def q126_U : rfU := []
set_option maxHeartbeats 4000000 in
def q126_N : List rfB := [(0,([(0,.inr (.inl [55])),(1,.inl ((0,387420488,1),none))],[],[]),(12,[]),0)]
set_option maxRecDepth 100000 in
theorem q126_ok : rf_chkB q126_P q126_U wLay q126_M ddX2_nearestTo [(4,[0]),(9,[1]),(16,[2])] [] [0] 600 q126_N = true := by decide +kernel
/-- NearSpell.type -/
def q127_M : rfM := ((⟨"NearSpell", "type", "(I)I"⟩, prog_1_method_10_code, 3, (some .int)), (6,139), ([.inr (.inl [70]),.inl (((-2147483648),2147483647,1),none)],[]), [(12,0),(14,0),(16,4),(16,5),(16,6),(17,0),(18,0),(19,0),(20,4),(20,5),(21,0),(22,2),(22,3),(22,4),(22,5),(23,0),(24,2),(24,3),(24,4),(24,5),(25,0),(26,2),(26,3),(26,4),(26,5),(27,0),(28,2),(28,3),(28,4),(28,5),(29,0),(30,2),(30,3),(30,4),(30,5),(31,0),(32,2),(32,3),(32,4),(32,5),(33,0),(34,2),(34,3),(34,4),(34,5),(35,0),(36,2),(36,3),(36,4),(36,5),(37,0),(38,2),(38,3),(38,4),(38,5),(39,0),(40,2),(40,3),(40,4),(40,5),(41,0),(42,2),(42,3),(42,4),(42,5),(43,0),(44,2),(44,3),(44,4),(44,5),(45,0),(46,2),(46,3),(46,4),(46,5),(47,0),(48,2),(48,3),(48,4),(48,5),(49,0),(50,2),(50,3),(50,4),(50,5),(54,0)], [(some (.inl (((-2),13,1),none)),[],[])])
def ddX11_type : List (Nat × Instr × Nat) := [(0,.iload_n 1,1),(1,.invokestatic 163,3),(4,.ifCond .eq 15,3),(7,.aload_n 0,1),(8,.getfield 35,3),(11,.invokevirtual 189,3),(14,.bipush 6,2),(16,.if_icmp .lt 6,3),(19,.bipush (-2),2),(21,.ireturn,1),(22,.aload_n 0,1),(23,.getfield 35,3),(26,.iload_n 1,1),(27,.aload_n 0,1),(28,.getfield 16,3),(31,.getfield 192,3),(34,.invokevirtual 195,3),(37,.istore_n 2,1),(38,.aload_n 0,1),(39,.getfield 42,3),(42,.aload_n 0,1),(43,.getfield 35,3),(46,.invokevirtual 177,3),(49,.aload_n 0,1),(50,.getfield 67,3),(53,.iload_n 2,1),(54,.invokevirtual 198,3),(57,.ireturn,1)]
def q127_P : rfP := (flX11,csX11,lcX11,spX11,[q52_M,q80_M,q81_M,q73_M,q126_M],[(163,0)],[(177,3,0),(189,1,8),(195,2,8),(198,4,2)],[])
def q127_U : rfU := []
set_option maxHeartbeats 4000000 in
def q127_N : List rfB := [(0,([(0,.inr (.inl [70])),(1,.inl (((-2147483648),2147483647,1),none))],[],[]),(28,[]),0),
  (19,([(0,.inr (.inl [70])),(1,.inl (((-2147483648),2147483647,1),none))],[],[]),(1,[]),0)]
set_option maxRecDepth 100000 in
theorem q127_ok : rf_chkB q127_P q127_U wLay q127_M ddX11_type [(1,[0]),(11,[1]),(34,[2]),(46,[3]),(54,[4])] [] [0,19] 600 q127_N = true := by decide +kernel
/-- NearSpell.State.dropPhrase -/
def q128_M : rfM := ((⟨"NearSpell$State", "dropPhrase", "()V"⟩, prog_10_method_16_code, 1, none), (0,0), ([.inr (.inl [13])],[]), [(12,0)], [(none,[],[((12,35),(0,0,0),none)])])
def ddX8_dropPhrase : List (Nat × Instr × Nat) := [(0,.aload_n 0,1),(1,.getfield 11,3),(4,.bipush 35,2),(6,.iconst 0,1),(7,.iastore,1),(8,.return_,1)]
def q128_P : rfP := (flX8,csX8,lcX8,spX8,[],[],[],[])
def q128_U : rfU := []
set_option maxHeartbeats 4000000 in
def q128_N : List rfB := [(0,([(0,.inr (.inl [13]))],[],[]),(5,[]),0)]
set_option maxRecDepth 100000 in
theorem q128_ok : rf_chkB q128_P q128_U wLay q128_M ddX8_dropPhrase [] [] [0] 600 q128_N = true := by decide +kernel
/-- NearSpell.wipe -/
def q129_M : rfM := ((⟨"NearSpell", "wipe", "()I"⟩, prog_1_method_11_code, 2, (some .int)), (3,62), ([.inr (.inl [70])],[]), [(12,0),(14,0),(16,4),(16,5),(16,6)], [(some (.inl (((-1),6,1),none)),[],[])])
def ddX11_wipe : List (Nat × Instr × Nat) := [(0,.aload_n 0,1),(1,.getfield 35,3),(4,.invokevirtual 189,3),(7,.istore_n 1,1),(8,.iload_n 1,1),(9,.ifCond .ne 5,3),(12,.iconst (-1),1),(13,.ireturn,1),(14,.aload_n 0,1),(15,.getfield 35,3),(18,.invokevirtual 201,3),(21,.aload_n 0,1),(22,.getfield 42,3),(25,.aload_n 0,1),(26,.getfield 35,3),(29,.invokevirtual 177,3),(32,.iload_n 1,1),(33,.ireturn,1)]
def q129_P : rfP := (flX11,csX11,lcX11,spX11,[q80_M,q128_M,q73_M],[],[(177,2,0),(189,0,8),(201,1,8)],[])
def q129_U : rfU := []
set_option maxHeartbeats 4000000 in
def q129_N : List rfB := [(0,([(0,.inr (.inl [70]))],[],[]),(17,[]),0)]
set_option maxRecDepth 100000 in
theorem q129_ok : rf_chkB q129_P q129_U wLay q129_M ddX11_wipe [(4,[0]),(18,[1]),(29,[2])] [] [0] 600 q129_N = true := by decide +kernel
/-- NearSpell.Archive.takeBack -/
def q130_M : rfM := ((⟨"NearSpell$Archive", "takeBack", "(LNearSpell$State;)Z"⟩, prog_2_method_4_code, 2, (some .boolean)), (20,2000), ([.inr (.inl [16]),.inr (.inl [13])],[]), [(12,0),(16,5),(16,6)], [(some (.inl ((0,0,0),none)),[],[]),(some (.inl ((1,1,0),none)),[],[])])
/-- NearSpell.undo -/
def q131_M : rfM := ((⟨"NearSpell", "undo", "()Z"⟩, prog_1_method_12_code, 1, (some .boolean)), (21,2021), ([.inr (.inl [70])],[]), [(12,0),(16,5),(16,6)], [(some (.inl ((1,1,0),none)),[],[]),(some (.inl ((0,0,0),none)),[],[])])
def ddX11_undo : List (Nat × Instr × Nat) := [(0,.aload_n 0,1),(1,.getfield 42,3),(4,.aload_n 0,1),(5,.getfield 35,3),(8,.invokevirtual 204,3),(11,.ireturn,1)]
def q131_P : rfP := (flX11,csX11,lcX11,spX11,[q130_M],[],[(204,0,0)],[])
def q131_U : rfU := []
set_option maxHeartbeats 4000000 in
def q131_N : List rfB := [(0,([(0,.inr (.inl [70]))],[],[]),(6,[]),0)]
set_option maxRecDepth 100000 in
theorem q131_ok : rf_chkB q131_P q131_U wLay q131_M ddX11_undo [(8,[0])] [] [0] 600 q131_N = true := by decide +kernel
/-- NearSpell.Archive.doAgain -/
def q132_M : rfM := ((⟨"NearSpell$Archive", "doAgain", "(LNearSpell$State;)Z"⟩, prog_2_method_5_code, 2, (some .boolean)), (20,2000), ([.inr (.inl [16]),.inr (.inl [13])],[]), [(12,0),(16,5),(16,6)], [(some (.inl ((0,0,0),none)),[],[]),(some (.inl ((1,1,0),none)),[],[])])
/-- NearSpell.redo -/
def q133_M : rfM := ((⟨"NearSpell", "redo", "()Z"⟩, prog_1_method_13_code, 1, (some .boolean)), (21,2021), ([.inr (.inl [70])],[]), [(12,0),(16,5),(16,6)], [(some (.inl ((1,1,0),none)),[],[]),(some (.inl ((0,0,0),none)),[],[])])
def ddX11_redo : List (Nat × Instr × Nat) := [(0,.aload_n 0,1),(1,.getfield 42,3),(4,.aload_n 0,1),(5,.getfield 35,3),(8,.invokevirtual 208,3),(11,.ireturn,1)]
def q133_P : rfP := (flX11,csX11,lcX11,spX11,[q132_M],[],[(208,0,0)],[])
def q133_U : rfU := []
set_option maxHeartbeats 4000000 in
def q133_N : List rfB := [(0,([(0,.inr (.inl [70]))],[],[]),(6,[]),0)]
set_option maxRecDepth 100000 in
theorem q133_ok : rf_chkB q133_P q133_U wLay q133_M ddX11_redo [(8,[0])] [] [0] 600 q133_N = true := by decide +kernel
/-- NearSpell.State.typedAt -/
def q134_M : rfM := ((⟨"NearSpell$State", "typedAt", "(I)I"⟩, prog_10_method_9_code, 2, (some .int)), (0,0), ([.inr (.inl [13]),.inl ((0,5,1),none)],[]), [], [(some (.inl (((-2147483648),2147483647,1),none)),[],[])])
def ddX8_typedAt : List (Nat × Instr × Nat) := [(0,.iload_n 1,1),(1,.ifCond .lt 21,3),(4,.iload_n 1,1),(5,.bipush 6,2),(7,.if_icmp .ge 15,3),(10,.aload_n 0,1),(11,.getfield 11,3),(14,.bipush 28,2),(16,.iload_n 1,1),(17,.iadd,1),(18,.iaload,1),(19,.goto 4,3),(22,.iconst 0,1),(23,.ireturn,1)]
def q134_P : rfP := (flX8,csX8,lcX8,spX8,[],[],[],[])
def q134_U : rfU := []
set_option maxHeartbeats 4000000 in
def q134_N : List rfB := [(0,([(0,.inr (.inl [13])),(1,.inl ((0,5,1),none))],[],[]),(12,[]),0)]
set_option maxRecDepth 100000 in
theorem q134_ok : rf_chkB q134_P q134_U wLay q134_M ddX8_typedAt [] [] [0] 600 q134_N = true := by decide +kernel
/-- NearSpell.typed -/
def q135_M : rfM := ((⟨"NearSpell", "typed", "(I)I"⟩, prog_1_method_14_code, 2, (some .int)), (1,21), ([.inr (.inl [70]),.inl (((-2147483648),2147483647,1),none)],[]), [], [(some (.inl (((-2147483648),2147483647,1),none)),[],[])])
def ddX11_typed : List (Nat × Instr × Nat) := [(0,.iload_n 1,1),(1,.ifCond .lt 25,3),(4,.iload_n 1,1),(5,.aload_n 0,1),(6,.getfield 35,3),(9,.invokevirtual 189,3),(12,.if_icmp .ge 14,3),(15,.aload_n 0,1),(16,.getfield 35,3),(19,.iload_n 1,1),(20,.invokevirtual 211,3),(23,.goto 4,3),(26,.iconst (-1),1),(27,.ireturn,1)]
def q135_P : rfP := (flX11,csX11,lcX11,spX11,[q80_M,q134_M],[],[(189,0,8),(211,1,8)],[])
def q135_U : rfU := []
set_option maxHeartbeats 4000000 in
def q135_N : List rfB := [(0,([(0,.inr (.inl [70])),(1,.inl (((-2147483648),2147483647,1),none))],[],[]),(14,[]),0),
  (26,([(0,.inr (.inl [70])),(1,.inl (((-2147483648),2147483647,1),none))],[],[]),(1,[]),0)]
set_option maxRecDepth 100000 in
theorem q135_ok : rf_chkB q135_P q135_U wLay q135_M ddX11_typed [(9,[0]),(20,[1])] [] [0,26] 600 q135_N = true := by decide +kernel
/-- NearSpell.Ruler.putLetters -/
def q136_M : rfM := ((⟨"NearSpell$Ruler", "putLetters", "(I[II)I"⟩, prog_9_method_8_code, 6, (some .int)), (1,21), ([.inl ((0,387420488,1),none),.inr (.inl [18]),.inl ((0,0,0),none)],[]), [(18,0)], [(some (.inl ((0,6,1),none)),[],[])])
def q136_P : rfP := (flX7,csX7,lcX7,spX7,[q82_M],[(55,0)],[],[])
def q136_U : rfU := []
set_option maxHeartbeats 4000000 in
def q136_N : List rfB := [(0,([(0,.inl ((0,387420488,1),none)),(1,.inr (.inl [18])),(2,.inl ((0,0,0),none))],[],[]),(128,[0]),0),
  (23,([(0,.inl ((0,387420488,1),none)),(1,.inr (.inl [18])),(2,.inl ((0,0,0),none)),(3,.inl ((0,6,1),none)),(4,.inl ((0,387420488,1),none)),(5,.inl (((-1),5,1),none))],[],[]),(31,[16]),0)]
set_option maxRecDepth 100000 in
theorem q136_ok : rf_chkB q136_P q136_U wLay q136_M ddX7_putLetters [(2,[0])] [.inl 5] [0,23] 600 q136_N = true := by decide +kernel
/-- NearSpell.Ruler.toLonger -/
def q137_M : rfM := ((⟨"NearSpell$Ruler", "toLonger", "(II)I"⟩, prog_9_method_7_code, 5, (some .int)), (2,47), ([.inr (.inl [20]),.inl ((0,0,0),none),.inl ((0,387420488,1),none)],[]), [(18,0),(19,0),(20,5)], [(some (.inl (((-2147483648),2147483647,1),none)),[],[((20,4),(0,6,1),none)])])
def q137_P : rfP := (flX7,csX7,lcX7,spX7,[q85_M,q86_M,q136_M,q97_M],[(36,2),(44,0),(49,1)],[(52,3,7)],[])
def q137_U : rfU := []
set_option maxHeartbeats 4000000 in
def q137_N : List rfB := [(0,([(0,.inr (.inl [20])),(1,.inl ((0,0,0),none)),(2,.inl ((0,387420488,1),none))],[],[]),(138,[0]),0),
  (31,([(0,.inr (.inl [20])),(1,.inl ((0,0,0),none)),(2,.inl ((0,387420488,1),none)),(3,.inl ((0,0,0),none)),(4,.inl ((1,11,1),none))],[],[((20,4),(0,6,1),none)]),(128,[(-10)]),0)]
set_option maxRecDepth 100000 in
theorem q137_ok : rf_chkB q137_P q137_U wLay q137_M ddX7_toLonger [(6,[0]),(9,[1]),(20,[2]),(43,[3])] [.inl 4] [0,31] 600 q137_N = true := by decide +kernel
/-- NearSpell.Ruler.to -/
def q138_M : rfM := ((⟨"NearSpell$Ruler", "to", "(I)I"⟩, prog_9_method_5_code, 2, (some .int)), (3,71), ([.inr (.inl [20]),.inl ((0,387420488,1),none)],[]), [(18,0),(19,0),(20,5)], [(some (.inl (((-2147483648),2147483647,1),none)),[],[((20,4),(0,6,1),none)])])
def q138_P : rfP := (flX7,csX7,lcX7,spX7,[q137_M],[],[(40,0,7)],[])
def q138_U : rfU := []
set_option maxHeartbeats 4000000 in
def q138_N : List rfB := [(0,([(0,.inr (.inl [20])),(1,.inl ((0,387420488,1),none))],[],[]),(4,[]),0)]
set_option maxRecDepth 100000 in
theorem q138_ok : rf_chkB q138_P q138_U wLay q138_M ddX7_to [(3,[0])] [] [0] 600 q138_N = true := by decide +kernel
/-- NearSpell.Ruler.between -/
def q139_M : rfM := ((⟨"NearSpell$Ruler", "between", "(II)I"⟩, prog_9_method_2_code, 3, (some .int)), (4,92), ([.inr (.inl [20]),.inl ((0,387420488,1),none),.inl ((0,387420488,1),none)],[]), [(17,0),(18,0),(19,0),(20,4),(20,5)], [(some (.inl (((-2147483648),2147483647,1),none)),[],[((20,3),(0,6,1),none),((20,4),(0,6,1),none)])])
def ddX7_between : List (Nat × Instr × Nat) := [(0,.aload_n 0,1),(1,.iload_n 1,1),(2,.invokevirtual 28,3),(5,.aload_n 0,1),(6,.iload_n 2,1),(7,.invokevirtual 32,3),(10,.ireturn,1)]
def q139_P : rfP := (flX7,csX7,lcX7,spX7,[q84_M,q138_M],[],[(28,0,7),(32,1,7)],[])
def q139_U : rfU := []
set_option maxHeartbeats 4000000 in
def q139_N : List rfB := [(0,([(0,.inr (.inl [20])),(1,.inl ((0,387420488,1),none)),(2,.inl ((0,387420488,1),none))],[],[]),(6,[]),0)]
set_option maxRecDepth 100000 in
theorem q139_ok : rf_chkB q139_P q139_U wLay q139_M ddX7_between [(2,[0]),(7,[1])] [] [0] 600 q139_N = true := by decide +kernel
/-- NearSpell.distance -/
def q140_M : rfM := ((⟨"NearSpell", "distance", "(II)I"⟩, prog_1_method_15_code, 3, (some .int)), (5,114), ([.inr (.inl [70]),.inl (((-2147483648),2147483647,1),none),.inl (((-2147483648),2147483647,1),none)],[]), [(17,0),(18,0),(19,0),(20,4),(20,5)], [(some (.inl (((-2147483648),2147483647,1),none)),[],[])])
def ddX11_distance : List (Nat × Instr × Nat) := [(0,.iload_n 1,1),(1,.invokestatic 163,3),(4,.ifCond .eq 10,3),(7,.iload_n 2,1),(8,.invokestatic 163,3),(11,.ifCond .ne 5,3),(14,.iconst (-1),1),(15,.ireturn,1),(16,.aload_n 0,1),(17,.getfield 49,3),(20,.iload_n 1,1),(21,.iload_n 2,1),(22,.invokevirtual 214,3),(25,.ireturn,1)]
def q140_P : rfP := (flX11,csX11,lcX11,spX11,[q52_M,q139_M],[(163,0)],[(214,1,7)],[])
def q140_U : rfU := []
set_option maxHeartbeats 4000000 in
def q140_N : List rfB := [(0,([(0,.inr (.inl [70])),(1,.inl (((-2147483648),2147483647,1),none)),(2,.inl (((-2147483648),2147483647,1),none))],[],[]),(15,[]),0),
  (14,([(0,.inr (.inl [70])),(1,.inl (((-2147483648),2147483647,1),none)),(2,.inl (((-2147483648),2147483647,1),none))],[],[]),(1,[]),0)]
set_option maxRecDepth 100000 in
theorem q140_ok : rf_chkB q140_P q140_U wLay q140_M ddX11_distance [(1,[0]),(8,[0]),(22,[1])] [] [0,14] 600 q140_N = true := by decide +kernel
/-- NearSpell.forms -/
def q141_M : rfM := ((⟨"NearSpell", "forms", "(I)I"⟩, prog_1_method_16_code, 4, (some .int)), (4,93), ([.inr (.inl [70]),.inl (((-2147483648),2147483647,1),none)],[]), [(49,0),(50,2),(50,3),(50,4),(50,5),(69,0),(70,15)], [(some (.inl (((-1),22,1),none)),[],[])])
def ddX11_forms : List (Nat × Instr × Nat) := [(0,.aload_n 0,1),(1,.iconst 0,1),(2,.putfield 104,3),(5,.iload_n 1,1),(6,.invokestatic 163,3),(9,.ifCond .ne 5,3),(12,.iconst (-1),1),(13,.ireturn,1),(14,.aload_n 0,1),(15,.getfield 58,3),(18,.iload_n 1,1),(19,.invokevirtual 217,3),(22,.astore_n 2,1),(23,.iconst 0,1),(24,.istore_n 3,1),(25,.iload_n 3,1),(26,.aload_n 2,1),(27,.getfield 158,3),(30,.if_icmp .ge 30,3),(33,.iload_n 3,1),(34,.aload_n 0,1),(35,.getfield 96,3),(38,.arraylength,1),(39,.if_icmp .ge 21,3),(42,.aload_n 0,1),(43,.getfield 96,3),(46,.iload_n 3,1),(47,.aload_n 2,1),(48,.getfield 220,3),(51,.iload_n 3,1),(52,.iaload,1),(53,.iastore,1),(54,.iinc 3 1,3),(57,.goto (-32),3),(60,.aload_n 0,1),(61,.aload_n 2,1),(62,.getfield 158,3),(65,.putfield 104,3),(68,.aload_n 0,1),(69,.getfield 104,3),(72,.ireturn,1)]
def q141_P : rfP := (flX11,csX11,lcX11,spX11,[q52_M,q105_M],[(163,0)],[(217,1,4)],[])
def q141_U : rfU := []
set_option maxHeartbeats 4000000 in
def q141_N : List rfB := [(0,([(0,.inr (.inl [70])),(1,.inl (((-2147483648),2147483647,1),none))],[],[]),(482,[0]),0),
  (25,([(0,.inr (.inl [70])),(1,.inl ((0,387420488,1),none)),(2,.inr (.inl [50])),(3,.inl ((0,22,1),none))],[],[((50,2),(0,387420488,1),none),((50,3),(1,6,1),none),((50,4),(0,2,1),none),((70,14),(0,0,0),none)]),(467,[(-20)]),0)]
set_option maxRecDepth 100000 in
theorem q141_ok : rf_chkB q141_P q141_U wLay q141_M ddX11_forms [(6,[0]),(19,[1])] [.inl 3] [0,25] 600 q141_N = true := by decide +kernel
/-- NearSpell.totalOf -/
def q142_M : rfM := ((⟨"NearSpell", "totalOf", "(I)I"⟩, prog_1_method_54_code, 4, (some .int)), (0,0), ([.inl ((0,387420488,1),none)],[]), [], [(some (.inl (((-2147483648),2147483647,1),none)),[],[])])
def ddX11_totalOf : List (Nat × Instr × Nat) := [(0,.iconst 0,1),(1,.istore_n 1,1),(2,.iload_n 0,1),(3,.istore_n 2,1),(4,.iconst 0,1),(5,.istore_n 3,1),(6,.iload_n 3,1),(7,.bipush 6,2),(9,.if_icmp .ge 25,3),(12,.iload_n 2,1),(13,.ifCond .eq 21,3),(16,.iload_n 1,1),(17,.iload_n 2,1),(18,.bipush 27,2),(20,.irem,1),(21,.iadd,1),(22,.istore_n 1,1),(23,.iload_n 2,1),(24,.bipush 27,2),(26,.idiv,1),(27,.istore_n 2,1),(28,.iinc 3 1,3),(31,.goto (-25),3),(34,.iload_n 1,1),(35,.ireturn,1)]
def q142_P : rfP := (flX11,csX11,lcX11,spX11,[],[],[],[])
def q142_U : rfU := []
set_option maxHeartbeats 4000000 in
def q142_N : List rfB := [(0,([(0,.inl ((0,387420488,1),none))],[],[]),(6973568809,[0]),0),
  (6,([(0,.inl ((0,387420488,1),none)),(1,.inl (((-2147483648),2147483647,1),none)),(2,.inl ((0,387420488,1),none)),(3,.inl ((0,6,1),none))],[],[]),(16,[18]),0),
  (34,([(0,.inl ((0,387420488,1),none)),(1,.inl (((-2147483648),2147483647,1),none)),(2,.inl ((0,387420488,1),none)),(3,.inl ((0,6,1),none))],[],[]),(1,[0]),0)]
set_option maxRecDepth 100000 in
theorem q142_ok : rf_chkB q142_P q142_U wLay q142_M ddX11_totalOf [] [.inl 2] [0,6,34] 600 q142_N = true := by decide +kernel
/-- NearSpell.beginningOf -/
def q143_M : rfM := ((⟨"NearSpell", "beginningOf", "(II)I"⟩, prog_1_method_55_code, 3, (some .int)), (1,21), ([.inl ((0,387420488,1),none),.inl ((1,1,0),none)],[]), [], [(some (.inl (((-2147483648),2147483647,1),none)),[],[])])
def q143_P : rfP := (flX11,csX11,lcX11,spX11,[q82_M],[(148,0)],[],[])
def q143_U : rfU := []
set_option maxHeartbeats 4000000 in
def q143_N : List rfB := [(0,([(0,.inl ((0,387420488,1),none)),(1,.inl ((1,1,0),none))],[],[]),(17,[]),0),
  (28,([(0,.inl ((0,387420488,1),none)),(1,.inl ((1,1,0),none)),(2,.inl (((-1),5,1),none))],[.inl (((-2147483648),2147483647,1),none)],[]),(0,[]),0)]
set_option maxRecDepth 100000 in
theorem q143_ok : rf_chkB q143_P q143_U wLay q143_M ddX11_beginningOf [(1,[0])] [] [0,28] 600 q143_N = true := by decide +kernel
/-- NearSpell.Book.push -/
def q144_M : rfM := ((⟨"NearSpell$Book", "push", "(I)V"⟩, prog_3_method_9_code, 2, none), (0,0), ([.inr (.inl [5]),.inl ((0,2147483647,1),none)],[]), [(4,0),(5,13)], [(none,[],[((5,12),(1,32,1),none)])])
def ddX1_push : List (Nat × Instr × Nat) := [(0,.aload_n 0,1),(1,.getfield 52,3),(4,.ifCond .lt 32,3),(7,.aload_n 0,1),(8,.getfield 52,3),(11,.bipush 32,2),(13,.if_icmp .ge 23,3),(16,.aload_n 0,1),(17,.getfield 21,3),(20,.aload_n 0,1),(21,.getfield 52,3),(24,.iload_n 1,1),(25,.iastore,1),(26,.aload_n 0,1),(27,.dup,1),(28,.getfield 52,3),(31,.iconst 1,1),(32,.iadd,1),(33,.putfield 52,3),(36,.return_,1)]
def q144_P : rfP := (flX1,csX1,lcX1,spX1,[],[],[],[])
def q144_U : rfU := []
set_option maxHeartbeats 4000000 in
def q144_N : List rfB := [(0,([(0,.inr (.inl [5])),(1,.inl ((0,2147483647,1),none))],[],[]),(19,[]),0),
  (36,([(0,.inr (.inl [5])),(1,.inl ((0,2147483647,1),none))],[],[((5,12),(1,32,1),none)]),(0,[]),0)]
set_option maxRecDepth 100000 in
theorem q144_ok : rf_chkB q144_P q144_U wLay q144_M ddX1_push [] [] [0,36] 600 q144_N = true := by decide +kernel
/-- NearSpell.Book.push -/
def q145_M : rfM := ((⟨"NearSpell$Book", "push", "(I)V"⟩, prog_3_method_9_code, 2, none), (0,0), ([.inr (.inl [5]),.inl (((-2147483648),2147483647,1),none)],[]), [(4,0),(5,13)], [(none,[],[((5,12),(1,32,1),none)])])
def q145_P : rfP := (flX1,csX1,lcX1,spX1,[],[],[],[])
def q145_U : rfU := []
set_option maxHeartbeats 4000000 in
def q145_N : List rfB := [(0,([(0,.inr (.inl [5])),(1,.inl (((-2147483648),2147483647,1),none))],[],[]),(19,[]),0),
  (36,([(0,.inr (.inl [5])),(1,.inl (((-2147483648),2147483647,1),none))],[],[((5,12),(1,32,1),none)]),(0,[]),0)]
set_option maxRecDepth 100000 in
theorem q145_ok : rf_chkB q145_P q145_U wLay q145_M ddX1_push [] [] [0,36] 600 q145_N = true := by decide +kernel
/-- NearSpell.Book.push -/
def q146_M : rfM := ((⟨"NearSpell$Book", "push", "(I)V"⟩, prog_3_method_9_code, 2, none), (0,0), ([.inr (.inl [5]),.inl ((0,6,1),none)],[]), [(4,0),(5,13)], [(none,[],[((5,12),(1,32,1),none)])])
def q146_P : rfP := (flX1,csX1,lcX1,spX1,[],[],[],[])
def q146_U : rfU := []
set_option maxHeartbeats 4000000 in
def q146_N : List rfB := [(0,([(0,.inr (.inl [5])),(1,.inl ((0,6,1),none))],[],[]),(19,[]),0),
  (36,([(0,.inr (.inl [5])),(1,.inl ((0,6,1),none))],[],[((5,12),(1,32,1),none)]),(0,[]),0)]
set_option maxRecDepth 100000 in
theorem q146_ok : rf_chkB q146_P q146_U wLay q146_M ddX1_push [] [] [0,36] 600 q146_N = true := by decide +kernel
/-- NearSpell.Book.push -/
def q147_M : rfM := ((⟨"NearSpell$Book", "push", "(I)V"⟩, prog_3_method_9_code, 2, none), (0,0), ([.inr (.inl [5]),.inl ((0,26,1),none)],[]), [(4,0),(5,13)], [(none,[],[((5,12),(1,32,1),none)])])
def q147_P : rfP := (flX1,csX1,lcX1,spX1,[],[],[],[])
def q147_U : rfU := []
set_option maxHeartbeats 4000000 in
def q147_N : List rfB := [(0,([(0,.inr (.inl [5])),(1,.inl ((0,26,1),none))],[],[]),(19,[]),0),
  (36,([(0,.inr (.inl [5])),(1,.inl ((0,26,1),none))],[],[((5,12),(1,32,1),none)]),(0,[]),0)]
set_option maxRecDepth 100000 in
theorem q147_ok : rf_chkB q147_P q147_U wLay q147_M ddX1_push [] [] [0,36] 600 q147_N = true := by decide +kernel
/-- NearSpell.Book.pop -/
def q148_M : rfM := ((⟨"NearSpell$Book", "pop", "()I"⟩, prog_3_method_10_code, 1, (some .int)), (0,0), ([.inr (.inl [5])],[]), [(5,13)], [(some (.inl (((-2147483648),2147483647,1),none)),[],[((5,12),(0,31,1),none)])])
def ddX1_pop : List (Nat × Instr × Nat) := [(0,.aload_n 0,1),(1,.getfield 52,3),(4,.ifCond .le 12,3),(7,.aload_n 0,1),(8,.getfield 52,3),(11,.bipush 32,2),(13,.if_icmp .le 5,3),(16,.iconst 0,1),(17,.ireturn,1),(18,.aload_n 0,1),(19,.dup,1),(20,.getfield 52,3),(23,.iconst 1,1),(24,.isub,1),(25,.putfield 52,3),(28,.aload_n 0,1),(29,.getfield 21,3),(32,.aload_n 0,1),(33,.getfield 52,3),(36,.iaload,1),(37,.ireturn,1)]
def q148_P : rfP := (flX1,csX1,lcX1,spX1,[],[],[],[])
def q148_U : rfU := []
set_option maxHeartbeats 4000000 in
def q148_N : List rfB := [(0,([(0,.inr (.inl [5]))],[],[]),(20,[]),0)]
set_option maxRecDepth 100000 in
theorem q148_ok : rf_chkB q148_P q148_U wLay q148_M ddX1_pop [] [] [0] 600 q148_N = true := by decide +kernel
/-- NearSpell.Book.truth -/
def q149_M : rfM := ((⟨"NearSpell$Book", "truth", "(Z)I"⟩, prog_3_method_11_code, 1, (some .int)), (0,0), ([.inl ((1,1,0),none)],[]), [], [(some (.inl ((1,1,0),none)),[],[])])
def ddX1_truth : List (Nat × Instr × Nat) := [(0,.iload_n 0,1),(1,.ifCond .eq 7,3),(4,.iconst 1,1),(5,.goto 4,3),(8,.iconst 0,1),(9,.ireturn,1)]
def q149_P : rfP := (flX1,csX1,lcX1,spX1,[],[],[],[])
def q149_U : rfU := []
set_option maxHeartbeats 4000000 in
def q149_N : List rfB := [(0,([(0,.inl ((1,1,0),none))],[],[]),(4,[]),0)]
set_option maxRecDepth 100000 in
theorem q149_ok : rf_chkB q149_P q149_U wLay q149_M ddX1_truth [] [] [0] 600 q149_N = true := by decide +kernel
/-- NearSpell.Book.truth -/
def q150_M : rfM := ((⟨"NearSpell$Book", "truth", "(Z)I"⟩, prog_3_method_11_code, 1, (some .int)), (0,0), ([.inl ((0,0,0),none)],[]), [], [(some (.inl ((0,0,0),none)),[],[])])
def q150_P : rfP := (flX1,csX1,lcX1,spX1,[],[],[],[])
def q150_U : rfU := []
set_option maxHeartbeats 4000000 in
def q150_N : List rfB := [(0,([(0,.inl ((0,0,0),none))],[],[]),(3,[]),0)]
set_option maxRecDepth 100000 in
theorem q150_ok : rf_chkB q150_P q150_U wLay q150_M ddX1_truth [] [] [0] 600 q150_N = true := by decide +kernel
/-- NearSpell.Book.push -/
def q151_M : rfM := ((⟨"NearSpell$Book", "push", "(I)V"⟩, prog_3_method_9_code, 2, none), (0,0), ([.inr (.inl [5]),.inl ((1,1,0),none)],[]), [(4,0),(5,13)], [(none,[],[((5,12),(1,32,1),none)])])
def q151_P : rfP := (flX1,csX1,lcX1,spX1,[],[],[],[])
def q151_U : rfU := []
set_option maxHeartbeats 4000000 in
def q151_N : List rfB := [(0,([(0,.inr (.inl [5])),(1,.inl ((1,1,0),none))],[],[]),(19,[]),0),
  (36,([(0,.inr (.inl [5])),(1,.inl ((1,1,0),none))],[],[((5,12),(1,32,1),none)]),(0,[]),0)]
set_option maxRecDepth 100000 in
theorem q151_ok : rf_chkB q151_P q151_U wLay q151_M ddX1_push [] [] [0,36] 600 q151_N = true := by decide +kernel
/-- NearSpell.Book.push -/
def q152_M : rfM := ((⟨"NearSpell$Book", "push", "(I)V"⟩, prog_3_method_9_code, 2, none), (0,0), ([.inr (.inl [5]),.inl ((0,0,0),none)],[]), [(4,0),(5,13)], [(none,[],[((5,12),(1,32,1),none)])])
def q152_P : rfP := (flX1,csX1,lcX1,spX1,[],[],[],[])
def q152_U : rfU := []
set_option maxHeartbeats 4000000 in
def q152_N : List rfB := [(0,([(0,.inr (.inl [5])),(1,.inl ((0,0,0),none))],[],[]),(19,[]),0),
  (36,([(0,.inr (.inl [5])),(1,.inl ((0,0,0),none))],[],[((5,12),(1,32,1),none)]),(0,[]),0)]
set_option maxRecDepth 100000 in
theorem q152_ok : rf_chkB q152_P q152_U wLay q152_M ddX1_push [] [] [0,36] 600 q152_N = true := by decide +kernel
/-- NearSpell.Book.combine -/
def q153_M : rfM := ((⟨"NearSpell$Book", "combine", "(III)I"⟩, prog_3_method_12_code, 3, (some .int)), (1,20), ([.inl (((-2147483648),2147483647,1),none),.inl (((-2147483648),2147483647,1),none),.inl (((-2147483648),2147483647,1),none)],[]), [], [(some (.inl (((-2147483648),2147483647,1),none)),[],[])])
def ddX1_combine : List (Nat × Instr × Nat) := [(0,.iload_n 0,1),(1,.lookupswitch 203 #[(7, 186), (8, 169), (37, 115), (42, 99), (43, 91), (45, 95), (47, 103), (60, 127), (61, 155), (62, 141)],91),(92,.iload_n 1,1),(93,.iload_n 2,1),(94,.iadd,1),(95,.ireturn,1),(96,.iload_n 1,1),(97,.iload_n 2,1),(98,.isub,1),(99,.ireturn,1),(100,.iload_n 1,1),(101,.iload_n 2,1),(102,.imul,1),(103,.ireturn,1),(104,.iload_n 2,1),(105,.ifCond .ne 7,3),(108,.iconst 0,1),(109,.goto 6,3),(112,.iload_n 1,1),(113,.iload_n 2,1),(114,.idiv,1),(115,.ireturn,1),(116,.iload_n 2,1),(117,.ifCond .ne 7,3),(120,.iconst 0,1),(121,.goto 6,3),(124,.iload_n 1,1),(125,.iload_n 2,1),(126,.irem,1),(127,.ireturn,1),(128,.iload_n 1,1),(129,.iload_n 2,1),(130,.if_icmp .ge 7,3),(133,.iconst 1,1),(134,.goto 4,3),(137,.iconst 0,1),(138,.invokestatic 85,3),(141,.ireturn,1),(142,.iload_n 1,1),(143,.iload_n 2,1),(144,.if_icmp .le 7,3),(147,.iconst 1,1),(148,.goto 4,3),(151,.iconst 0,1),(152,.invokestatic 85,3),(155,.ireturn,1),(156,.iload_n 1,1),(157,.iload_n 2,1),(158,.if_icmp .ne 7,3),(161,.iconst 1,1),(162,.goto 4,3),(165,.iconst 0,1),(166,.invokestatic 85,3),(169,.ireturn,1),(170,.iload_n 1,1),(171,.ifCond .eq 11,3),(174,.iload_n 2,1),(175,.ifCond .eq 7,3),(178,.iconst 1,1),(179,.goto 4,3),(182,.iconst 0,1),(183,.invokestatic 85,3),(186,.ireturn,1),(187,.iload_n 1,1),(188,.ifCond .ne 7,3),(191,.iload_n 2,1),(192,.ifCond .eq 7,3),(195,.iconst 1,1),(196,.goto 4,3),(199,.iconst 0,1),(200,.invokestatic 85,3),(203,.ireturn,1),(204,.iconst 0,1),(205,.ireturn,1)]
def q153_P : rfP := (flX1,csX1,lcX1,spX1,[q149_M,q150_M],[(85,0),(85,1)],[],[])
def q153_U : rfU := [(.inl 2,[((-2147483648),(-1)),(0,0),(1,2147483647)])]
set_option maxHeartbeats 4000000 in
def q153_N : List rfB := [(0,([(0,.inl (((-2147483648),2147483647,1),none)),(1,.inl (((-2147483648),2147483647,1),none)),(2,.inl (((-2147483648),2147483647,1),none))],[],[]),(228,[]),1000000),
  (182,([(0,.inl ((8,8,1),none)),(1,.inl ((0,0,1),none)),(2,.inl ((1,2147483647,1),none))],[],[]),(163,[]),0),
  (182,([(0,.inl ((8,8,1),none)),(1,.inl (((-2147483648),2147483647,1),none)),(2,.inl ((0,0,1),none))],[],[]),(92,[]),0),
  (182,([(0,.inl ((8,8,1),none)),(1,.inl ((0,0,1),none)),(2,.inl (((-2147483648),(-1),1),none))],[],[]),(12,[]),0),
  (195,([(0,.inl ((7,7,1),none)),(1,.inl (((-2147483648),2147483647,1),none)),(2,.inl ((1,2147483647,1),none))],[],[]),(156,[]),0),
  (195,([(0,.inl ((7,7,1),none)),(1,.inl (((-2147483648),2147483647,1),none)),(2,.inl ((0,0,1),none))],[],[]),(82,[]),0),
  (195,([(0,.inl ((7,7,1),none)),(1,.inl (((-2147483648),2147483647,1),none)),(2,.inl (((-2147483648),(-1),1),none))],[],[]),(5,[]),0)]
set_option maxRecDepth 100000 in
theorem q153_ok : rf_chkB q153_P q153_U wLay q153_M ddX1_combine [(138,[0,1]),(152,[0,1]),(166,[0,1]),(183,[0,1]),(200,[0,1])] [] [0,182,195] 600 q153_N = true := by decide +kernel
/-- NearSpell.Book.work -/
def q154_M : rfM := ((⟨"NearSpell$Book", "work", "(I)I"⟩, prog_3_method_8_code, 9, (some .int)), (2,43), ([.inr (.inl [5]),.inl ((0,387420488,1),none)],[]), [(4,0),(5,13)], [(some (.inl (((-2147483648),2147483647,1),none)),[],[((5,12),(0,31,1),none)])])
def ddX1_work : List (Nat × Instr × Nat) := [(0,.iload_n 1,1),(1,.invokestatic 61,3),(4,.istore_n 2,1),(5,.iload_n 1,1),(6,.invokestatic 65,3),(9,.istore_n 3,1),(10,.iload_n 1,1),(11,.iconst 1,1),(12,.invokestatic 71,3),(15,.istore 4,2),(17,.iload_n 1,1),(18,.bipush 27,2),(20,.irem,1),(21,.istore 5,2),(23,.aload_n 0,1),(24,.iconst 0,1),(25,.putfield 52,3),(28,.iconst 0,1),(29,.istore 6,2),(31,.iload 6,2),(33,.aload_n 0,1),(34,.getfield 49,3),(37,.if_icmp .ge 145,3),(40,.aload_n 0,1),(41,.getfield 18,3),(44,.iload 6,2),(46,.iaload,1),(47,.istore 7,2),(49,.iload 7,2),(51,.ifCond .lt 12,3),(54,.aload_n 0,1),(55,.iload 7,2),(57,.invokevirtual 75,3),(60,.goto 116,3),(63,.iload 7,2),(65,.bipush (-10),2),(67,.if_icmp .ne 11,3),(70,.aload_n 0,1),(71,.iload_n 2,1),(72,.invokevirtual 75,3),(75,.goto 101,3),(78,.iload 7,2),(80,.bipush (-11),2),(82,.if_icmp .ne 11,3),(85,.aload_n 0,1),(86,.iload_n 3,1),(87,.invokevirtual 75,3),(90,.goto 86,3),(93,.iload 7,2),(95,.bipush (-12),2),(97,.if_icmp .ne 12,3),(100,.aload_n 0,1),(101,.iload 4,2),(103,.invokevirtual 75,3),(106,.goto 70,3),(109,.iload 7,2),(111,.bipush (-13),2),(113,.if_icmp .ne 12,3),(116,.aload_n 0,1),(117,.iload 5,2),(119,.invokevirtual 75,3),(122,.goto 54,3),(125,.iload 7,2),(127,.bipush (-9),2),(129,.if_icmp .ne 25,3),(132,.aload_n 0,1),(133,.aload_n 0,1),(134,.invokevirtual 81,3),(137,.ifCond .ne 7,3),(140,.iconst 1,1),(141,.goto 4,3),(144,.iconst 0,1),(145,.invokestatic 85,3),(148,.invokevirtual 75,3),(151,.goto 25,3),(154,.aload_n 0,1),(155,.invokevirtual 81,3),(158,.istore 8,2),(160,.aload_n 0,1),(161,.iload 7,2),(163,.ineg,1),(164,.aload_n 0,1),(165,.invokevirtual 81,3),(168,.iload 8,2),(170,.invokestatic 89,3),(173,.invokevirtual 75,3),(176,.iinc 6 1,3),(179,.goto (-148),3),(182,.aload_n 0,1),(183,.invokevirtual 81,3),(186,.ireturn,1)]
def q154_P : rfP := (flX1,csX1,lcX1,spX1,[q142_M,q82_M,q143_M,q144_M,q145_M,q146_M,q147_M,q148_M,q149_M,q150_M,q151_M,q152_M,q153_M],[(61,0),(65,1),(71,2),(85,8),(85,9),(89,12)],[(75,3,1),(75,4,1),(75,5,1),(75,6,1),(75,10,1),(75,11,1),(81,7,1)],[])
def q154_U : rfU := []
set_option maxHeartbeats 4000000 in
def q154_N : List rfB := [(0,([(0,.inr (.inl [5])),(1,.inl ((0,387420488,1),none))],[],[]),(21693,[0]),0),
  (31,([(0,.inr (.inl [5])),(1,.inl ((0,387420488,1),none)),(2,.inl (((-2147483648),2147483647,1),none)),(3,.inl ((0,6,1),none)),(4,.inl (((-2147483648),2147483647,1),none)),(5,.inl ((0,26,1),none)),(6,.inl ((0,300,1),none))],[],[]),(21672,[(-72)]),0),
  (176,([(0,.inr (.inl [5])),(1,.inl ((0,387420488,1),none)),(2,.inl (((-2147483648),2147483647,1),none)),(3,.inl ((0,6,1),none)),(4,.inl (((-2147483648),2147483647,1),none)),(5,.inl ((0,26,1),none)),(6,.inl ((0,299,1),none)),(7,.inl (((-2147483648),2147483647,1),none))],[],[((5,11),(1,300,1),none),((5,12),(1,32,1),none)]),(21603,[(-72)]),0),
  (151,([(0,.inr (.inl [5])),(1,.inl ((0,387420488,1),none)),(2,.inl (((-2147483648),2147483647,1),none)),(3,.inl ((0,6,1),none)),(4,.inl (((-2147483648),2147483647,1),none)),(5,.inl ((0,26,1),none)),(6,.inl ((0,299,1),none)),(7,.inl (((-9),(-9),1),none))],[],[((5,11),(1,300,1),none),((5,12),(1,32,1),none)]),(21624,[(-72)]),0)]
set_option maxRecDepth 100000 in
theorem q154_ok : rf_chkB q154_P q154_U wLay q154_M ddX1_work [(1,[0]),(6,[1]),(12,[2]),(57,[3]),(72,[4]),(87,[5]),(103,[4]),(119,[6]),(134,[7]),(145,[8,9]),(148,[10,11]),(155,[7]),(165,[7]),(170,[12]),(173,[4]),(183,[7])] [.inl 6] [0,31,151,176] 600 q154_N = true := by decide +kernel
/-- NearSpell.Book.bucketOf -/
def q155_M : rfM := ((⟨"NearSpell$Book", "bucketOf", "(I)I"⟩, prog_3_method_7_code, 4, (some .int)), (3,71), ([.inr (.inl [5]),.inl ((0,387420488,1),none)],[]), [(4,0),(5,13)], [(some (.inl ((0,30,1),none)),[],[])])
def ddX1_bucketOf : List (Nat × Instr × Nat) := [(0,.aload_n 0,1),(1,.getfield 49,3),(4,.ifCond .ne 18,3),(7,.iload_n 1,1),(8,.invokestatic 61,3),(11,.bipush 7,2),(13,.imul,1),(14,.iload_n 1,1),(15,.invokestatic 65,3),(18,.iadd,1),(19,.goto 8,3),(22,.aload_n 0,1),(23,.iload_n 1,1),(24,.invokevirtual 68,3),(27,.istore_n 2,1),(28,.aload_n 0,1),(29,.getfield 37,3),(32,.ifCond .gt 5,3),(35,.iconst 0,1),(36,.ireturn,1),(37,.iload_n 2,1),(38,.aload_n 0,1),(39,.getfield 37,3),(42,.irem,1),(43,.istore_n 3,1),(44,.iload_n 3,1),(45,.ifCond .ge 12,3),(48,.iload_n 3,1),(49,.aload_n 0,1),(50,.getfield 37,3),(53,.iadd,1),(54,.goto 4,3),(57,.iload_n 3,1),(58,.ireturn,1)]
def q155_P : rfP := (flX1,csX1,lcX1,spX1,[q142_M,q82_M,q154_M],[(61,0),(65,1)],[(68,2,1)],[])
def q155_U : rfU := [(.inr (5,7),[(1,1),(2,2),(3,3),(4,4),(5,5),(6,6),(7,7),(8,8),(9,9),(10,10),(11,11),(12,12),(13,13),(14,14),(15,15),(16,16),(17,17),(18,18),(19,19),(20,20),(21,21),(22,22),(23,23),(24,24),(25,25),(26,26),(27,27),(28,28),(29,29),(30,30),(31,31)])]
set_option maxHeartbeats 4000000 in
def q155_N : List rfB := [(0,([(0,.inr (.inl [5])),(1,.inl ((0,387420488,1),none))],[],[]),(988,[]),1000000),
  (27,([(0,.inr (.inl [5])),(1,.inl ((0,387420488,1),none))],[.inl (((-2147483648),2147483647,1),none)],[((5,7),(19,19,1),none)]),(589,[]),0),
  (27,([(0,.inr (.inl [5])),(1,.inl ((0,387420488,1),none))],[.inl (((-2147483648),2147483647,1),none)],[((5,7),(30,30,1),none)]),(941,[]),0),
  (27,([(0,.inr (.inl [5])),(1,.inl ((0,387420488,1),none))],[.inl (((-2147483648),2147483647,1),none)],[((5,7),(5,5,1),none)]),(141,[]),0),
  (27,([(0,.inr (.inl [5])),(1,.inl ((0,387420488,1),none))],[.inl (((-2147483648),2147483647,1),none)],[((5,7),(25,25,1),none)]),(781,[]),0),
  (27,([(0,.inr (.inl [5])),(1,.inl ((0,387420488,1),none))],[.inl (((-2147483648),2147483647,1),none)],[((5,7),(24,24,1),none)]),(749,[]),0),
  (27,([(0,.inr (.inl [5])),(1,.inl ((0,387420488,1),none))],[.inl (((-2147483648),2147483647,1),none)],[((5,7),(20,20,1),none)]),(621,[]),0),
  (27,([(0,.inr (.inl [5])),(1,.inl ((0,387420488,1),none))],[.inl (((-2147483648),2147483647,1),none)],[((5,7),(26,26,1),none)]),(813,[]),0),
  (27,([(0,.inr (.inl [5])),(1,.inl ((0,387420488,1),none))],[.inl (((-2147483648),2147483647,1),none)],[((5,7),(15,15,1),none)]),(461,[]),0),
  (27,([(0,.inr (.inl [5])),(1,.inl ((0,387420488,1),none))],[.inl (((-2147483648),2147483647,1),none)],[((5,7),(1,1,1),none)]),(12,[]),0),
  (27,([(0,.inr (.inl [5])),(1,.inl ((0,387420488,1),none))],[.inl (((-2147483648),2147483647,1),none)],[((5,7),(21,21,1),none)]),(653,[]),0),
  (27,([(0,.inr (.inl [5])),(1,.inl ((0,387420488,1),none))],[.inl (((-2147483648),2147483647,1),none)],[((5,7),(16,16,1),none)]),(493,[]),0),
  (27,([(0,.inr (.inl [5])),(1,.inl ((0,387420488,1),none))],[.inl (((-2147483648),2147483647,1),none)],[((5,7),(22,22,1),none)]),(685,[]),0),
  (27,([(0,.inr (.inl [5])),(1,.inl ((0,387420488,1),none))],[.inl (((-2147483648),2147483647,1),none)],[((5,7),(11,11,1),none)]),(333,[]),0),
  (27,([(0,.inr (.inl [5])),(1,.inl ((0,387420488,1),none))],[.inl (((-2147483648),2147483647,1),none)],[((5,7),(31,31,1),none)]),(973,[]),0),
  (27,([(0,.inr (.inl [5])),(1,.inl ((0,387420488,1),none))],[.inl (((-2147483648),2147483647,1),none)],[((5,7),(6,6,1),none)]),(173,[]),0),
  (27,([(0,.inr (.inl [5])),(1,.inl ((0,387420488,1),none))],[.inl (((-2147483648),2147483647,1),none)],[((5,7),(17,17,1),none)]),(525,[]),0),
  (27,([(0,.inr (.inl [5])),(1,.inl ((0,387420488,1),none))],[.inl (((-2147483648),2147483647,1),none)],[((5,7),(12,12,1),none)]),(365,[]),0),
  (27,([(0,.inr (.inl [5])),(1,.inl ((0,387420488,1),none))],[.inl (((-2147483648),2147483647,1),none)],[((5,7),(18,18,1),none)]),(557,[]),0),
  (27,([(0,.inr (.inl [5])),(1,.inl ((0,387420488,1),none))],[.inl (((-2147483648),2147483647,1),none)],[((5,7),(7,7,1),none)]),(205,[]),0),
  (27,([(0,.inr (.inl [5])),(1,.inl ((0,387420488,1),none))],[.inl (((-2147483648),2147483647,1),none)],[((5,7),(13,13,1),none)]),(397,[]),0),
  (27,([(0,.inr (.inl [5])),(1,.inl ((0,387420488,1),none))],[.inl (((-2147483648),2147483647,1),none)],[((5,7),(27,27,1),none)]),(845,[]),0),
  (27,([(0,.inr (.inl [5])),(1,.inl ((0,387420488,1),none))],[.inl (((-2147483648),2147483647,1),none)],[((5,7),(2,2,1),none)]),(45,[]),0),
  (27,([(0,.inr (.inl [5])),(1,.inl ((0,387420488,1),none))],[.inl (((-2147483648),2147483647,1),none)],[((5,7),(8,8,1),none)]),(237,[]),0),
  (27,([(0,.inr (.inl [5])),(1,.inl ((0,387420488,1),none))],[.inl (((-2147483648),2147483647,1),none)],[((5,7),(28,28,1),none)]),(877,[]),0),
  (27,([(0,.inr (.inl [5])),(1,.inl ((0,387420488,1),none))],[.inl (((-2147483648),2147483647,1),none)],[((5,7),(3,3,1),none)]),(77,[]),0),
  (27,([(0,.inr (.inl [5])),(1,.inl ((0,387420488,1),none))],[.inl (((-2147483648),2147483647,1),none)],[((5,7),(14,14,1),none)]),(429,[]),0),
  (27,([(0,.inr (.inl [5])),(1,.inl ((0,387420488,1),none))],[.inl (((-2147483648),2147483647,1),none)],[((5,7),(23,23,1),none)]),(717,[]),0),
  (27,([(0,.inr (.inl [5])),(1,.inl ((0,387420488,1),none))],[.inl (((-2147483648),2147483647,1),none)],[((5,7),(9,9,1),none)]),(269,[]),0),
  (27,([(0,.inr (.inl [5])),(1,.inl ((0,387420488,1),none))],[.inl (((-2147483648),2147483647,1),none)],[((5,7),(29,29,1),none)]),(909,[]),0),
  (27,([(0,.inr (.inl [5])),(1,.inl ((0,387420488,1),none))],[.inl (((-2147483648),2147483647,1),none)],[((5,7),(4,4,1),none)]),(109,[]),0),
  (27,([(0,.inr (.inl [5])),(1,.inl ((0,387420488,1),none))],[.inl (((-2147483648),2147483647,1),none)],[((5,7),(10,10,1),none)]),(301,[]),0),
  (58,([(0,.inr (.inl [5])),(1,.inl ((0,387420488,1),none)),(2,.inl (((-2147483648),2147483647,1),none)),(3,.inl (((-18),18,1),none))],[.inl ((0,18,1),none)],[((5,7),(19,19,1),none)]),(572,[]),0),
  (58,([(0,.inr (.inl [5])),(1,.inl ((0,387420488,1),none)),(2,.inl (((-2147483648),2147483647,1),none)),(3,.inl (((-29),29,1),none))],[.inl ((0,29,1),none)],[((5,7),(30,30,1),none)]),(924,[]),0),
  (58,([(0,.inr (.inl [5])),(1,.inl ((0,387420488,1),none)),(2,.inl (((-2147483648),2147483647,1),none)),(3,.inl (((-4),4,1),none))],[.inl ((0,4,1),none)],[((5,7),(5,5,1),none)]),(124,[]),0),
  (58,([(0,.inr (.inl [5])),(1,.inl ((0,387420488,1),none)),(2,.inl (((-2147483648),2147483647,1),none)),(3,.inl (((-24),24,1),none))],[.inl ((0,24,1),none)],[((5,7),(25,25,1),none)]),(764,[]),0),
  (58,([(0,.inr (.inl [5])),(1,.inl ((0,387420488,1),none)),(2,.inl (((-2147483648),2147483647,1),none)),(3,.inl (((-23),23,1),none))],[.inl ((0,23,1),none)],[((5,7),(24,24,1),none)]),(732,[]),0),
  (58,([(0,.inr (.inl [5])),(1,.inl ((0,387420488,1),none)),(2,.inl (((-2147483648),2147483647,1),none)),(3,.inl (((-19),19,1),none))],[.inl ((0,19,1),none)],[((5,7),(20,20,1),none)]),(604,[]),0),
  (58,([(0,.inr (.inl [5])),(1,.inl ((0,387420488,1),none)),(2,.inl (((-2147483648),2147483647,1),none)),(3,.inl (((-25),25,1),none))],[.inl ((0,25,1),none)],[((5,7),(26,26,1),none)]),(796,[]),0),
  (58,([(0,.inr (.inl [5])),(1,.inl ((0,387420488,1),none)),(2,.inl (((-2147483648),2147483647,1),none)),(3,.inl (((-14),14,1),none))],[.inl ((0,14,1),none)],[((5,7),(15,15,1),none)]),(444,[]),0),
  (58,([(0,.inr (.inl [5])),(1,.inl ((0,387420488,1),none)),(2,.inl (((-2147483648),2147483647,1),none)),(3,.inl (((-20),20,1),none))],[.inl ((0,20,1),none)],[((5,7),(21,21,1),none)]),(636,[]),0),
  (58,([(0,.inr (.inl [5])),(1,.inl ((0,387420488,1),none)),(2,.inl (((-2147483648),2147483647,1),none)),(3,.inl (((-15),15,1),none))],[.inl ((0,15,1),none)],[((5,7),(16,16,1),none)]),(476,[]),0),
  (58,([(0,.inr (.inl [5])),(1,.inl ((0,387420488,1),none)),(2,.inl (((-2147483648),2147483647,1),none)),(3,.inl (((-21),21,1),none))],[.inl ((0,21,1),none)],[((5,7),(22,22,1),none)]),(668,[]),0),
  (58,([(0,.inr (.inl [5])),(1,.inl ((0,387420488,1),none)),(2,.inl (((-2147483648),2147483647,1),none)),(3,.inl (((-10),10,1),none))],[.inl ((0,10,1),none)],[((5,7),(11,11,1),none)]),(316,[]),0),
  (58,([(0,.inr (.inl [5])),(1,.inl ((0,387420488,1),none)),(2,.inl (((-2147483648),2147483647,1),none)),(3,.inl (((-30),30,1),none))],[.inl ((0,30,1),none)],[((5,7),(31,31,1),none)]),(956,[]),0),
  (58,([(0,.inr (.inl [5])),(1,.inl ((0,387420488,1),none)),(2,.inl (((-2147483648),2147483647,1),none)),(3,.inl (((-5),5,1),none))],[.inl ((0,5,1),none)],[((5,7),(6,6,1),none)]),(156,[]),0),
  (58,([(0,.inr (.inl [5])),(1,.inl ((0,387420488,1),none)),(2,.inl (((-2147483648),2147483647,1),none)),(3,.inl (((-16),16,1),none))],[.inl ((0,16,1),none)],[((5,7),(17,17,1),none)]),(508,[]),0),
  (58,([(0,.inr (.inl [5])),(1,.inl ((0,387420488,1),none)),(2,.inl (((-2147483648),2147483647,1),none)),(3,.inl (((-11),11,1),none))],[.inl ((0,11,1),none)],[((5,7),(12,12,1),none)]),(348,[]),0),
  (58,([(0,.inr (.inl [5])),(1,.inl ((0,387420488,1),none)),(2,.inl (((-2147483648),2147483647,1),none)),(3,.inl (((-17),17,1),none))],[.inl ((0,17,1),none)],[((5,7),(18,18,1),none)]),(540,[]),0),
  (58,([(0,.inr (.inl [5])),(1,.inl ((0,387420488,1),none)),(2,.inl (((-2147483648),2147483647,1),none)),(3,.inl (((-6),6,1),none))],[.inl ((0,6,1),none)],[((5,7),(7,7,1),none)]),(188,[]),0),
  (58,([(0,.inr (.inl [5])),(1,.inl ((0,387420488,1),none)),(2,.inl (((-2147483648),2147483647,1),none)),(3,.inl (((-12),12,1),none))],[.inl ((0,12,1),none)],[((5,7),(13,13,1),none)]),(380,[]),0),
  (58,([(0,.inr (.inl [5])),(1,.inl ((0,387420488,1),none)),(2,.inl (((-2147483648),2147483647,1),none)),(3,.inl (((-26),26,1),none))],[.inl ((0,26,1),none)],[((5,7),(27,27,1),none)]),(828,[]),0),
  (58,([(0,.inr (.inl [5])),(1,.inl ((0,387420488,1),none)),(2,.inl (((-2147483648),2147483647,1),none)),(3,.inl (((-1),(-1),1),none))],[.inl ((1,1,1),some (.inl 3,some 2))],[((5,7),(2,2,1),none)]),(29,[]),0),
  (58,([(0,.inr (.inl [5])),(1,.inl ((0,387420488,1),none)),(2,.inl (((-2147483648),2147483647,1),none)),(3,.inl (((-7),7,1),none))],[.inl ((0,7,1),none)],[((5,7),(8,8,1),none)]),(220,[]),0),
  (58,([(0,.inr (.inl [5])),(1,.inl ((0,387420488,1),none)),(2,.inl (((-2147483648),2147483647,1),none)),(3,.inl (((-27),27,1),none))],[.inl ((0,27,1),none)],[((5,7),(28,28,1),none)]),(860,[]),0),
  (58,([(0,.inr (.inl [5])),(1,.inl ((0,387420488,1),none)),(2,.inl (((-2147483648),2147483647,1),none)),(3,.inl (((-2),2,1),none))],[.inl ((0,2,1),none)],[((5,7),(3,3,1),none)]),(60,[]),0),
  (58,([(0,.inr (.inl [5])),(1,.inl ((0,387420488,1),none)),(2,.inl (((-2147483648),2147483647,1),none)),(3,.inl (((-13),13,1),none))],[.inl ((0,13,1),none)],[((5,7),(14,14,1),none)]),(412,[]),0),
  (58,([(0,.inr (.inl [5])),(1,.inl ((0,387420488,1),none)),(2,.inl (((-2147483648),2147483647,1),none)),(3,.inl (((-22),22,1),none))],[.inl ((0,22,1),none)],[((5,7),(23,23,1),none)]),(700,[]),0),
  (58,([(0,.inr (.inl [5])),(1,.inl ((0,387420488,1),none)),(2,.inl (((-2147483648),2147483647,1),none)),(3,.inl (((-8),8,1),none))],[.inl ((0,8,1),none)],[((5,7),(9,9,1),none)]),(252,[]),0),
  (58,([(0,.inr (.inl [5])),(1,.inl ((0,387420488,1),none)),(2,.inl (((-2147483648),2147483647,1),none)),(3,.inl (((-28),28,1),none))],[.inl ((0,28,1),none)],[((5,7),(29,29,1),none)]),(892,[]),0),
  (58,([(0,.inr (.inl [5])),(1,.inl ((0,387420488,1),none)),(2,.inl (((-2147483648),2147483647,1),none)),(3,.inl (((-3),3,1),none))],[.inl ((0,3,1),none)],[((5,7),(4,4,1),none)]),(92,[]),0),
  (58,([(0,.inr (.inl [5])),(1,.inl ((0,387420488,1),none)),(2,.inl (((-2147483648),2147483647,1),none)),(3,.inl (((-9),9,1),none))],[.inl ((0,9,1),none)],[((5,7),(10,10,1),none)]),(284,[]),0),
  (58,([(0,.inr (.inl [5])),(1,.inl ((0,387420488,1),none)),(2,.inl (((-2147483648),2147483647,1),none)),(3,.inl ((0,0,1),none))],[.inl ((0,0,1),some (.inl 3,some 0))],[((5,7),(1,1,1),none)]),(0,[]),0),
  (58,([(0,.inr (.inl [5])),(1,.inl ((0,387420488,1),none)),(2,.inl (((-2147483648),2147483647,1),none)),(3,.inl ((0,1,1),none))],[.inl ((0,1,1),some (.inl 3,some 0))],[((5,7),(2,2,1),none)]),(27,[]),0)]
set_option maxRecDepth 100000 in
theorem q155_ok : rf_chkB q155_P q155_U wLay q155_M ddX1_bucketOf [(8,[0]),(15,[1]),(24,[2])] [] [0,27,58] 600 q155_N = true := by decide +kernel
/-- NearSpell.bucket -/
def q156_M : rfM := ((⟨"NearSpell", "bucket", "(I)I"⟩, prog_1_method_17_code, 2, (some .int)), (4,94), ([.inr (.inl [70]),.inl (((-2147483648),2147483647,1),none)],[]), [(4,0),(5,13)], [(some (.inl (((-1),30,1),none)),[],[])])
def ddX11_bucket : List (Nat × Instr × Nat) := [(0,.iload_n 1,1),(1,.invokestatic 163,3),(4,.ifCond .eq 14,3),(7,.aload_n 0,1),(8,.getfield 16,3),(11,.iload_n 1,1),(12,.invokevirtual 223,3),(15,.goto 4,3),(18,.iconst (-1),1),(19,.ireturn,1)]
def q156_P : rfP := (flX11,csX11,lcX11,spX11,[q52_M,q155_M],[(163,0)],[(223,1,1)],[])
def q156_U : rfU := []
set_option maxHeartbeats 4000000 in
def q156_N : List rfB := [(0,([(0,.inr (.inl [70])),(1,.inl (((-2147483648),2147483647,1),none))],[],[]),(11,[]),0)]
set_option maxRecDepth 100000 in
theorem q156_ok : rf_chkB q156_P q156_U wLay q156_M ddX11_bucket [(1,[0]),(12,[1])] [] [0] 600 q156_N = true := by decide +kernel
/-- NearSpell.totalOf -/
def q157_M : rfM := ((⟨"NearSpell", "totalOf", "(I)I"⟩, prog_1_method_54_code, 4, (some .int)), (0,0), ([.inl (((-2147483648),2147483647,1),none)],[]), [], [(some (.inl (((-2147483648),2147483647,1),none)),[],[])])
def q157_P : rfP := (flX11,csX11,lcX11,spX11,[],[],[],[])
def q157_U : rfU := []
set_option maxHeartbeats 4000000 in
def q157_N : List rfB := [(0,([(0,.inl (((-2147483648),2147483647,1),none))],[],[]),(133,[0]),0),
  (6,([(0,.inl (((-2147483648),2147483647,1),none)),(1,.inl (((-2147483648),2147483647,1),none)),(2,.inl (((-2147483648),2147483647,1),none)),(3,.inl ((0,6,1),none))],[],[]),(125,[(-18)]),0),
  (34,([(0,.inl (((-2147483648),2147483647,1),none)),(1,.inl (((-2147483648),2147483647,1),none)),(2,.inl (((-2147483648),2147483647,1),none)),(3,.inl ((0,6,1),none))],[],[]),(1,[0]),0)]
set_option maxRecDepth 100000 in
theorem q157_ok : rf_chkB q157_P q157_U wLay q157_M ddX11_totalOf [] [.inl 3] [0,6,34] 600 q157_N = true := by decide +kernel
/-- NearSpell.beginningOf -/
def q158_M : rfM := ((⟨"NearSpell", "beginningOf", "(II)I"⟩, prog_1_method_55_code, 3, (some .int)), (1,21), ([.inl (((-2147483648),2147483647,1),none),.inl ((1,1,0),none)],[]), [], [(some (.inl (((-2147483648),2147483647,1),none)),[],[])])
def q158_P : rfP := (flX11,csX11,lcX11,spX11,[q12_M],[(148,0)],[],[])
def q158_U : rfU := []
set_option maxHeartbeats 4000000 in
def q158_N : List rfB := [(0,([(0,.inl (((-2147483648),2147483647,1),none)),(1,.inl ((1,1,0),none))],[],[]),(17,[]),0),
  (28,([(0,.inl (((-2147483648),2147483647,1),none)),(1,.inl ((1,1,0),none)),(2,.inl (((-1),5,1),none))],[.inl (((-2147483648),2147483647,1),none)],[]),(0,[]),0)]
set_option maxRecDepth 100000 in
theorem q158_ok : rf_chkB q158_P q158_U wLay q158_M ddX11_beginningOf [(1,[0])] [] [0,28] 600 q158_N = true := by decide +kernel
/-- NearSpell.Book.push -/
def q159_M : rfM := ((⟨"NearSpell$Book", "push", "(I)V"⟩, prog_3_method_9_code, 2, none), (0,0), ([.inr (.inl [5]),.inl (((-2147483648),26,1),none)],[]), [(4,0),(5,13)], [(none,[],[((5,12),(1,32,1),none)])])
def q159_P : rfP := (flX1,csX1,lcX1,spX1,[],[],[],[])
def q159_U : rfU := []
set_option maxHeartbeats 4000000 in
def q159_N : List rfB := [(0,([(0,.inr (.inl [5])),(1,.inl (((-2147483648),26,1),none))],[],[]),(19,[]),0),
  (36,([(0,.inr (.inl [5])),(1,.inl (((-2147483648),26,1),none))],[],[((5,12),(1,32,1),none)]),(0,[]),0)]
set_option maxRecDepth 100000 in
theorem q159_ok : rf_chkB q159_P q159_U wLay q159_M ddX1_push [] [] [0,36] 600 q159_N = true := by decide +kernel
/-- NearSpell.Book.work -/
def q160_M : rfM := ((⟨"NearSpell$Book", "work", "(I)I"⟩, prog_3_method_8_code, 9, (some .int)), (2,43), ([.inr (.inl [5]),.inl (((-2147483648),2147483647,1),none)],[]), [(4,0),(5,13)], [(some (.inl (((-2147483648),2147483647,1),none)),[],[((5,12),(0,31,1),none)])])
def q160_P : rfP := (flX1,csX1,lcX1,spX1,[q157_M,q12_M,q158_M,q144_M,q145_M,q146_M,q159_M,q148_M,q149_M,q150_M,q151_M,q152_M,q153_M],[(61,0),(65,1),(71,2),(85,8),(85,9),(89,12)],[(75,3,1),(75,4,1),(75,5,1),(75,6,1),(75,10,1),(75,11,1),(81,7,1)],[])
def q160_U : rfU := []
set_option maxHeartbeats 4000000 in
def q160_N : List rfB := [(0,([(0,.inr (.inl [5])),(1,.inl (((-2147483648),2147483647,1),none))],[],[]),(21693,[0]),0),
  (31,([(0,.inr (.inl [5])),(1,.inl (((-2147483648),2147483647,1),none)),(2,.inl (((-2147483648),2147483647,1),none)),(3,.inl ((0,6,1),none)),(4,.inl (((-2147483648),2147483647,1),none)),(5,.inl (((-26),26,1),none)),(6,.inl ((0,300,1),none))],[],[]),(21672,[(-72)]),0),
  (176,([(0,.inr (.inl [5])),(1,.inl (((-2147483648),2147483647,1),none)),(2,.inl (((-2147483648),2147483647,1),none)),(3,.inl ((0,6,1),none)),(4,.inl (((-2147483648),2147483647,1),none)),(5,.inl (((-26),26,1),none)),(6,.inl ((0,299,1),none)),(7,.inl (((-2147483648),2147483647,1),none))],[],[((5,11),(1,300,1),none),((5,12),(1,32,1),none)]),(21603,[(-72)]),0),
  (151,([(0,.inr (.inl [5])),(1,.inl (((-2147483648),2147483647,1),none)),(2,.inl (((-2147483648),2147483647,1),none)),(3,.inl ((0,6,1),none)),(4,.inl (((-2147483648),2147483647,1),none)),(5,.inl (((-26),26,1),none)),(6,.inl ((0,299,1),none)),(7,.inl (((-9),(-9),1),none))],[],[((5,11),(1,300,1),none),((5,12),(1,32,1),none)]),(21624,[(-72)]),0)]
set_option maxRecDepth 100000 in
theorem q160_ok : rf_chkB q160_P q160_U wLay q160_M ddX1_work [(1,[0]),(6,[1]),(12,[2]),(57,[3]),(72,[4]),(87,[5]),(103,[4]),(119,[6]),(134,[7]),(145,[8,9]),(148,[10,11]),(155,[7]),(165,[7]),(170,[12]),(173,[4]),(183,[7])] [.inl 6] [0,31,151,176] 600 q160_N = true := by decide +kernel
/-- NearSpell.Book.bucketOf -/
def q161_M : rfM := ((⟨"NearSpell$Book", "bucketOf", "(I)I"⟩, prog_3_method_7_code, 4, (some .int)), (3,71), ([.inr (.inl [5]),.inl (((-2147483648),2147483647,1),none)],[]), [(4,0),(5,13)], [(some (.inl ((0,30,1),none)),[],[])])
def q161_P : rfP := (flX1,csX1,lcX1,spX1,[q157_M,q12_M,q160_M],[(61,0),(65,1)],[(68,2,1)],[])
def q161_U : rfU := [(.inr (5,7),[(1,1),(2,2),(3,3),(4,4),(5,5),(6,6),(7,7),(8,8),(9,9),(10,10),(11,11),(12,12),(13,13),(14,14),(15,15),(16,16),(17,17),(18,18),(19,19),(20,20),(21,21),(22,22),(23,23),(24,24),(25,25),(26,26),(27,27),(28,28),(29,29),(30,30),(31,31)])]
set_option maxHeartbeats 4000000 in
def q161_N : List rfB := [(0,([(0,.inr (.inl [5])),(1,.inl (((-2147483648),2147483647,1),none))],[],[]),(988,[]),1000000),
  (27,([(0,.inr (.inl [5])),(1,.inl (((-2147483648),2147483647,1),none))],[.inl (((-2147483648),2147483647,1),none)],[((5,7),(19,19,1),none)]),(589,[]),0),
  (27,([(0,.inr (.inl [5])),(1,.inl (((-2147483648),2147483647,1),none))],[.inl (((-2147483648),2147483647,1),none)],[((5,7),(30,30,1),none)]),(941,[]),0),
  (27,([(0,.inr (.inl [5])),(1,.inl (((-2147483648),2147483647,1),none))],[.inl (((-2147483648),2147483647,1),none)],[((5,7),(5,5,1),none)]),(141,[]),0),
  (27,([(0,.inr (.inl [5])),(1,.inl (((-2147483648),2147483647,1),none))],[.inl (((-2147483648),2147483647,1),none)],[((5,7),(25,25,1),none)]),(781,[]),0),
  (27,([(0,.inr (.inl [5])),(1,.inl (((-2147483648),2147483647,1),none))],[.inl (((-2147483648),2147483647,1),none)],[((5,7),(24,24,1),none)]),(749,[]),0),
  (27,([(0,.inr (.inl [5])),(1,.inl (((-2147483648),2147483647,1),none))],[.inl (((-2147483648),2147483647,1),none)],[((5,7),(20,20,1),none)]),(621,[]),0),
  (27,([(0,.inr (.inl [5])),(1,.inl (((-2147483648),2147483647,1),none))],[.inl (((-2147483648),2147483647,1),none)],[((5,7),(26,26,1),none)]),(813,[]),0),
  (27,([(0,.inr (.inl [5])),(1,.inl (((-2147483648),2147483647,1),none))],[.inl (((-2147483648),2147483647,1),none)],[((5,7),(15,15,1),none)]),(461,[]),0),
  (27,([(0,.inr (.inl [5])),(1,.inl (((-2147483648),2147483647,1),none))],[.inl (((-2147483648),2147483647,1),none)],[((5,7),(1,1,1),none)]),(12,[]),0),
  (27,([(0,.inr (.inl [5])),(1,.inl (((-2147483648),2147483647,1),none))],[.inl (((-2147483648),2147483647,1),none)],[((5,7),(21,21,1),none)]),(653,[]),0),
  (27,([(0,.inr (.inl [5])),(1,.inl (((-2147483648),2147483647,1),none))],[.inl (((-2147483648),2147483647,1),none)],[((5,7),(16,16,1),none)]),(493,[]),0),
  (27,([(0,.inr (.inl [5])),(1,.inl (((-2147483648),2147483647,1),none))],[.inl (((-2147483648),2147483647,1),none)],[((5,7),(22,22,1),none)]),(685,[]),0),
  (27,([(0,.inr (.inl [5])),(1,.inl (((-2147483648),2147483647,1),none))],[.inl (((-2147483648),2147483647,1),none)],[((5,7),(11,11,1),none)]),(333,[]),0),
  (27,([(0,.inr (.inl [5])),(1,.inl (((-2147483648),2147483647,1),none))],[.inl (((-2147483648),2147483647,1),none)],[((5,7),(31,31,1),none)]),(973,[]),0),
  (27,([(0,.inr (.inl [5])),(1,.inl (((-2147483648),2147483647,1),none))],[.inl (((-2147483648),2147483647,1),none)],[((5,7),(6,6,1),none)]),(173,[]),0),
  (27,([(0,.inr (.inl [5])),(1,.inl (((-2147483648),2147483647,1),none))],[.inl (((-2147483648),2147483647,1),none)],[((5,7),(17,17,1),none)]),(525,[]),0),
  (27,([(0,.inr (.inl [5])),(1,.inl (((-2147483648),2147483647,1),none))],[.inl (((-2147483648),2147483647,1),none)],[((5,7),(12,12,1),none)]),(365,[]),0),
  (27,([(0,.inr (.inl [5])),(1,.inl (((-2147483648),2147483647,1),none))],[.inl (((-2147483648),2147483647,1),none)],[((5,7),(18,18,1),none)]),(557,[]),0),
  (27,([(0,.inr (.inl [5])),(1,.inl (((-2147483648),2147483647,1),none))],[.inl (((-2147483648),2147483647,1),none)],[((5,7),(7,7,1),none)]),(205,[]),0),
  (27,([(0,.inr (.inl [5])),(1,.inl (((-2147483648),2147483647,1),none))],[.inl (((-2147483648),2147483647,1),none)],[((5,7),(13,13,1),none)]),(397,[]),0),
  (27,([(0,.inr (.inl [5])),(1,.inl (((-2147483648),2147483647,1),none))],[.inl (((-2147483648),2147483647,1),none)],[((5,7),(27,27,1),none)]),(845,[]),0),
  (27,([(0,.inr (.inl [5])),(1,.inl (((-2147483648),2147483647,1),none))],[.inl (((-2147483648),2147483647,1),none)],[((5,7),(2,2,1),none)]),(45,[]),0),
  (27,([(0,.inr (.inl [5])),(1,.inl (((-2147483648),2147483647,1),none))],[.inl (((-2147483648),2147483647,1),none)],[((5,7),(8,8,1),none)]),(237,[]),0),
  (27,([(0,.inr (.inl [5])),(1,.inl (((-2147483648),2147483647,1),none))],[.inl (((-2147483648),2147483647,1),none)],[((5,7),(28,28,1),none)]),(877,[]),0),
  (27,([(0,.inr (.inl [5])),(1,.inl (((-2147483648),2147483647,1),none))],[.inl (((-2147483648),2147483647,1),none)],[((5,7),(3,3,1),none)]),(77,[]),0),
  (27,([(0,.inr (.inl [5])),(1,.inl (((-2147483648),2147483647,1),none))],[.inl (((-2147483648),2147483647,1),none)],[((5,7),(14,14,1),none)]),(429,[]),0),
  (27,([(0,.inr (.inl [5])),(1,.inl (((-2147483648),2147483647,1),none))],[.inl (((-2147483648),2147483647,1),none)],[((5,7),(23,23,1),none)]),(717,[]),0),
  (27,([(0,.inr (.inl [5])),(1,.inl (((-2147483648),2147483647,1),none))],[.inl (((-2147483648),2147483647,1),none)],[((5,7),(9,9,1),none)]),(269,[]),0),
  (27,([(0,.inr (.inl [5])),(1,.inl (((-2147483648),2147483647,1),none))],[.inl (((-2147483648),2147483647,1),none)],[((5,7),(29,29,1),none)]),(909,[]),0),
  (27,([(0,.inr (.inl [5])),(1,.inl (((-2147483648),2147483647,1),none))],[.inl (((-2147483648),2147483647,1),none)],[((5,7),(4,4,1),none)]),(109,[]),0),
  (27,([(0,.inr (.inl [5])),(1,.inl (((-2147483648),2147483647,1),none))],[.inl (((-2147483648),2147483647,1),none)],[((5,7),(10,10,1),none)]),(301,[]),0),
  (58,([(0,.inr (.inl [5])),(1,.inl (((-2147483648),2147483647,1),none)),(2,.inl (((-2147483648),2147483647,1),none)),(3,.inl (((-18),18,1),none))],[.inl ((0,18,1),none)],[((5,7),(19,19,1),none)]),(572,[]),0),
  (58,([(0,.inr (.inl [5])),(1,.inl (((-2147483648),2147483647,1),none)),(2,.inl (((-2147483648),2147483647,1),none)),(3,.inl (((-29),29,1),none))],[.inl ((0,29,1),none)],[((5,7),(30,30,1),none)]),(924,[]),0),
  (58,([(0,.inr (.inl [5])),(1,.inl (((-2147483648),2147483647,1),none)),(2,.inl (((-2147483648),2147483647,1),none)),(3,.inl (((-4),4,1),none))],[.inl ((0,4,1),none)],[((5,7),(5,5,1),none)]),(124,[]),0),
  (58,([(0,.inr (.inl [5])),(1,.inl (((-2147483648),2147483647,1),none)),(2,.inl (((-2147483648),2147483647,1),none)),(3,.inl (((-24),24,1),none))],[.inl ((0,24,1),none)],[((5,7),(25,25,1),none)]),(764,[]),0),
  (58,([(0,.inr (.inl [5])),(1,.inl (((-2147483648),2147483647,1),none)),(2,.inl (((-2147483648),2147483647,1),none)),(3,.inl (((-23),23,1),none))],[.inl ((0,23,1),none)],[((5,7),(24,24,1),none)]),(732,[]),0),
  (58,([(0,.inr (.inl [5])),(1,.inl (((-2147483648),2147483647,1),none)),(2,.inl (((-2147483648),2147483647,1),none)),(3,.inl (((-19),19,1),none))],[.inl ((0,19,1),none)],[((5,7),(20,20,1),none)]),(604,[]),0),
  (58,([(0,.inr (.inl [5])),(1,.inl (((-2147483648),2147483647,1),none)),(2,.inl (((-2147483648),2147483647,1),none)),(3,.inl (((-25),25,1),none))],[.inl ((0,25,1),none)],[((5,7),(26,26,1),none)]),(796,[]),0),
  (58,([(0,.inr (.inl [5])),(1,.inl (((-2147483648),2147483647,1),none)),(2,.inl (((-2147483648),2147483647,1),none)),(3,.inl (((-14),14,1),none))],[.inl ((0,14,1),none)],[((5,7),(15,15,1),none)]),(444,[]),0),
  (58,([(0,.inr (.inl [5])),(1,.inl (((-2147483648),2147483647,1),none)),(2,.inl (((-2147483648),2147483647,1),none)),(3,.inl (((-20),20,1),none))],[.inl ((0,20,1),none)],[((5,7),(21,21,1),none)]),(636,[]),0),
  (58,([(0,.inr (.inl [5])),(1,.inl (((-2147483648),2147483647,1),none)),(2,.inl (((-2147483648),2147483647,1),none)),(3,.inl (((-15),15,1),none))],[.inl ((0,15,1),none)],[((5,7),(16,16,1),none)]),(476,[]),0),
  (58,([(0,.inr (.inl [5])),(1,.inl (((-2147483648),2147483647,1),none)),(2,.inl (((-2147483648),2147483647,1),none)),(3,.inl (((-21),21,1),none))],[.inl ((0,21,1),none)],[((5,7),(22,22,1),none)]),(668,[]),0),
  (58,([(0,.inr (.inl [5])),(1,.inl (((-2147483648),2147483647,1),none)),(2,.inl (((-2147483648),2147483647,1),none)),(3,.inl (((-10),10,1),none))],[.inl ((0,10,1),none)],[((5,7),(11,11,1),none)]),(316,[]),0),
  (58,([(0,.inr (.inl [5])),(1,.inl (((-2147483648),2147483647,1),none)),(2,.inl (((-2147483648),2147483647,1),none)),(3,.inl (((-30),30,1),none))],[.inl ((0,30,1),none)],[((5,7),(31,31,1),none)]),(956,[]),0),
  (58,([(0,.inr (.inl [5])),(1,.inl (((-2147483648),2147483647,1),none)),(2,.inl (((-2147483648),2147483647,1),none)),(3,.inl (((-5),5,1),none))],[.inl ((0,5,1),none)],[((5,7),(6,6,1),none)]),(156,[]),0),
  (58,([(0,.inr (.inl [5])),(1,.inl (((-2147483648),2147483647,1),none)),(2,.inl (((-2147483648),2147483647,1),none)),(3,.inl (((-16),16,1),none))],[.inl ((0,16,1),none)],[((5,7),(17,17,1),none)]),(508,[]),0),
  (58,([(0,.inr (.inl [5])),(1,.inl (((-2147483648),2147483647,1),none)),(2,.inl (((-2147483648),2147483647,1),none)),(3,.inl (((-11),11,1),none))],[.inl ((0,11,1),none)],[((5,7),(12,12,1),none)]),(348,[]),0),
  (58,([(0,.inr (.inl [5])),(1,.inl (((-2147483648),2147483647,1),none)),(2,.inl (((-2147483648),2147483647,1),none)),(3,.inl (((-17),17,1),none))],[.inl ((0,17,1),none)],[((5,7),(18,18,1),none)]),(540,[]),0),
  (58,([(0,.inr (.inl [5])),(1,.inl (((-2147483648),2147483647,1),none)),(2,.inl (((-2147483648),2147483647,1),none)),(3,.inl (((-6),6,1),none))],[.inl ((0,6,1),none)],[((5,7),(7,7,1),none)]),(188,[]),0),
  (58,([(0,.inr (.inl [5])),(1,.inl (((-2147483648),2147483647,1),none)),(2,.inl (((-2147483648),2147483647,1),none)),(3,.inl (((-12),12,1),none))],[.inl ((0,12,1),none)],[((5,7),(13,13,1),none)]),(380,[]),0),
  (58,([(0,.inr (.inl [5])),(1,.inl (((-2147483648),2147483647,1),none)),(2,.inl (((-2147483648),2147483647,1),none)),(3,.inl (((-26),26,1),none))],[.inl ((0,26,1),none)],[((5,7),(27,27,1),none)]),(828,[]),0),
  (58,([(0,.inr (.inl [5])),(1,.inl (((-2147483648),2147483647,1),none)),(2,.inl (((-2147483648),2147483647,1),none)),(3,.inl (((-1),(-1),1),none))],[.inl ((1,1,1),some (.inl 3,some 2))],[((5,7),(2,2,1),none)]),(29,[]),0),
  (58,([(0,.inr (.inl [5])),(1,.inl (((-2147483648),2147483647,1),none)),(2,.inl (((-2147483648),2147483647,1),none)),(3,.inl (((-7),7,1),none))],[.inl ((0,7,1),none)],[((5,7),(8,8,1),none)]),(220,[]),0),
  (58,([(0,.inr (.inl [5])),(1,.inl (((-2147483648),2147483647,1),none)),(2,.inl (((-2147483648),2147483647,1),none)),(3,.inl (((-27),27,1),none))],[.inl ((0,27,1),none)],[((5,7),(28,28,1),none)]),(860,[]),0),
  (58,([(0,.inr (.inl [5])),(1,.inl (((-2147483648),2147483647,1),none)),(2,.inl (((-2147483648),2147483647,1),none)),(3,.inl (((-2),2,1),none))],[.inl ((0,2,1),none)],[((5,7),(3,3,1),none)]),(60,[]),0),
  (58,([(0,.inr (.inl [5])),(1,.inl (((-2147483648),2147483647,1),none)),(2,.inl (((-2147483648),2147483647,1),none)),(3,.inl (((-13),13,1),none))],[.inl ((0,13,1),none)],[((5,7),(14,14,1),none)]),(412,[]),0),
  (58,([(0,.inr (.inl [5])),(1,.inl (((-2147483648),2147483647,1),none)),(2,.inl (((-2147483648),2147483647,1),none)),(3,.inl (((-22),22,1),none))],[.inl ((0,22,1),none)],[((5,7),(23,23,1),none)]),(700,[]),0),
  (58,([(0,.inr (.inl [5])),(1,.inl (((-2147483648),2147483647,1),none)),(2,.inl (((-2147483648),2147483647,1),none)),(3,.inl (((-8),8,1),none))],[.inl ((0,8,1),none)],[((5,7),(9,9,1),none)]),(252,[]),0),
  (58,([(0,.inr (.inl [5])),(1,.inl (((-2147483648),2147483647,1),none)),(2,.inl (((-2147483648),2147483647,1),none)),(3,.inl (((-28),28,1),none))],[.inl ((0,28,1),none)],[((5,7),(29,29,1),none)]),(892,[]),0),
  (58,([(0,.inr (.inl [5])),(1,.inl (((-2147483648),2147483647,1),none)),(2,.inl (((-2147483648),2147483647,1),none)),(3,.inl (((-3),3,1),none))],[.inl ((0,3,1),none)],[((5,7),(4,4,1),none)]),(92,[]),0),
  (58,([(0,.inr (.inl [5])),(1,.inl (((-2147483648),2147483647,1),none)),(2,.inl (((-2147483648),2147483647,1),none)),(3,.inl (((-9),9,1),none))],[.inl ((0,9,1),none)],[((5,7),(10,10,1),none)]),(284,[]),0),
  (58,([(0,.inr (.inl [5])),(1,.inl (((-2147483648),2147483647,1),none)),(2,.inl (((-2147483648),2147483647,1),none)),(3,.inl ((0,0,1),none))],[.inl ((0,0,1),some (.inl 3,some 0))],[((5,7),(1,1,1),none)]),(0,[]),0),
  (58,([(0,.inr (.inl [5])),(1,.inl (((-2147483648),2147483647,1),none)),(2,.inl (((-2147483648),2147483647,1),none)),(3,.inl ((0,1,1),none))],[.inl ((0,1,1),some (.inl 3,some 0))],[((5,7),(2,2,1),none)]),(27,[]),0)]
set_option maxRecDepth 100000 in
theorem q161_ok : rf_chkB q161_P q161_U wLay q161_M ddX1_bucketOf [(8,[0]),(15,[1]),(24,[2])] [] [0,27,58] 600 q161_N = true := by decide +kernel
/-- NearSpell.FormList.bucketBits -/
def q162_M : rfM := ((⟨"NearSpell$FormList", "bucketBits", "(LNearSpell$Book;)I"⟩, prog_5_method_7_code, 4, (some .int)), (4,94), ([.inr (.inl [50]),.inr (.inl [5])],[]), [(4,0),(5,13)], [(some (.inl ((0,2147483647,1),none)),[],[])])
def ddX3_bucketBits : List (Nat × Instr × Nat) := [(0,.iconst 0,1),(1,.istore_n 2,1),(2,.iconst 0,1),(3,.istore_n 3,1),(4,.iload_n 3,1),(5,.aload_n 0,1),(6,.getfield 15,3),(9,.if_icmp .ge 24,3),(12,.iload_n 2,1),(13,.iconst 1,1),(14,.aload_n 1,1),(15,.aload_n 0,1),(16,.getfield 9,3),(19,.iload_n 3,1),(20,.iaload,1),(21,.invokevirtual 50,3),(24,.ishl,1),(25,.ior,1),(26,.istore_n 2,1),(27,.iinc 3 1,3),(30,.goto (-26),3),(33,.iload_n 2,1),(34,.ireturn,1)]
def q162_P : rfP := (flX3,csX3,lcX3,spX3,[q161_M],[],[(50,0,1)],[])
def q162_U : rfU := []
set_option maxHeartbeats 4000000 in
def q162_N : List rfB := [(0,([(0,.inr (.inl [50])),(1,.inr (.inl [5]))],[],[]),(419,[0]),0),
  (4,([(0,.inr (.inl [50])),(1,.inr (.inl [5])),(2,.inl ((0,2147483647,1),none)),(3,.inl ((0,22,1),none))],[],[]),(413,[(-18)]),0)]
set_option maxRecDepth 100000 in
theorem q162_ok : rf_chkB q162_P q162_U wLay q162_M ddX3_bucketBits [(21,[0])] [.inl 3] [0,4] 600 q162_N = true := by decide +kernel
/-- NearSpell.FormList.bucketBits -/
def q163_M : rfM := ((⟨"NearSpell$FormList", "bucketBits", "(LNearSpell$Book;)I"⟩, prog_5_method_7_code, 4, (some .int)), (4,94), ([.inr (.inl [22,24,26,28,30,32,34,36,38,40,42,44,46,48]),.inr (.inl [5])],[]), [(4,0),(5,13)], [(some (.inl ((0,2147483647,1),none)),[],[])])
def q163_P : rfP := (flX3,csX3,lcX3,spX3,[q161_M],[],[(50,0,1)],[])
def q163_U : rfU := []
set_option maxHeartbeats 4000000 in
def q163_N : List rfB := [(0,([(0,.inr (.inl [22,24,26,28,30,32,34,36,38,40,42,44,46,48])),(1,.inr (.inl [5]))],[],[]),(5880,[0]),2000000),
  (4,([(0,.inr (.inl [40])),(1,.inr (.inl [5])),(2,.inl ((0,2147483647,1),none)),(3,.inl ((0,22,1),none))],[],[]),(4193,[(-18)]),0),
  (4,([(0,.inr (.inl [24])),(1,.inr (.inl [5])),(2,.inl ((0,2147483647,1),none)),(3,.inl ((0,22,1),none))],[],[]),(833,[(-18)]),0),
  (4,([(0,.inr (.inl [34])),(1,.inr (.inl [5])),(2,.inl ((0,2147483647,1),none)),(3,.inl ((0,22,1),none))],[],[]),(2933,[(-18)]),0),
  (4,([(0,.inr (.inl [42])),(1,.inr (.inl [5])),(2,.inl ((0,2147483647,1),none)),(3,.inl ((0,22,1),none))],[],[]),(4613,[(-18)]),0),
  (4,([(0,.inr (.inl [32])),(1,.inr (.inl [5])),(2,.inl ((0,2147483647,1),none)),(3,.inl ((0,22,1),none))],[],[]),(2513,[(-18)]),0),
  (4,([(0,.inr (.inl [26])),(1,.inr (.inl [5])),(2,.inl ((0,2147483647,1),none)),(3,.inl ((0,22,1),none))],[],[]),(1253,[(-18)]),0),
  (4,([(0,.inr (.inl [44])),(1,.inr (.inl [5])),(2,.inl ((0,2147483647,1),none)),(3,.inl ((0,22,1),none))],[],[]),(5033,[(-18)]),0),
  (4,([(0,.inr (.inl [22])),(1,.inr (.inl [5])),(2,.inl ((0,2147483647,1),none)),(3,.inl ((0,22,1),none))],[],[]),(413,[(-18)]),0),
  (4,([(0,.inr (.inl [46])),(1,.inr (.inl [5])),(2,.inl ((0,2147483647,1),none)),(3,.inl ((0,22,1),none))],[],[]),(5453,[(-18)]),0),
  (4,([(0,.inr (.inl [48])),(1,.inr (.inl [5])),(2,.inl ((0,2147483647,1),none)),(3,.inl ((0,22,1),none))],[],[]),(5873,[(-18)]),0),
  (4,([(0,.inr (.inl [38])),(1,.inr (.inl [5])),(2,.inl ((0,2147483647,1),none)),(3,.inl ((0,22,1),none))],[],[]),(3773,[(-18)]),0),
  (4,([(0,.inr (.inl [30])),(1,.inr (.inl [5])),(2,.inl ((0,2147483647,1),none)),(3,.inl ((0,22,1),none))],[],[]),(2093,[(-18)]),0),
  (4,([(0,.inr (.inl [28])),(1,.inr (.inl [5])),(2,.inl ((0,2147483647,1),none)),(3,.inl ((0,22,1),none))],[],[]),(1673,[(-18)]),0),
  (4,([(0,.inr (.inl [36])),(1,.inr (.inl [5])),(2,.inl ((0,2147483647,1),none)),(3,.inl ((0,22,1),none))],[],[]),(3353,[(-18)]),0)]
set_option maxRecDepth 100000 in
theorem q163_ok : rf_chkB q163_P q163_U wLay q163_M ddX3_bucketBits [(21,[0])] [.inl 3] [0,4] 600 q163_N = true := by decide +kernel
/-- NearSpell.Finder.metBy -/
def q164_M : rfM := ((⟨"NearSpell$Finder", "metBy", "(I)I"⟩, prog_4_method_2_code, 5, (some .int)), (5,117), ([.inr (.inl [55]),.inl ((0,387420488,1),none)],[]), [(4,0),(5,13),(21,0),(22,2),(22,3),(22,4),(22,5),(23,0),(24,2),(24,3),(24,4),(24,5),(25,0),(26,2),(26,3),(26,4),(26,5),(27,0),(28,2),(28,3),(28,4),(28,5),(29,0),(30,2),(30,3),(30,4),(30,5),(31,0),(32,2),(32,3),(32,4),(32,5),(33,0),(34,2),(34,3),(34,4),(34,5),(35,0),(36,2),(36,3),(36,4),(36,5),(37,0),(38,2),(38,3),(38,4),(38,5),(39,0),(40,2),(40,3),(40,4),(40,5),(41,0),(42,2),(42,3),(42,4),(42,5),(43,0),(44,2),(44,3),(44,4),(44,5),(45,0),(46,2),(46,3),(46,4),(46,5),(47,0),(48,2),(48,3),(48,4),(48,5),(49,0),(50,2),(50,3),(50,4),(50,5)], [(some (.inl ((0,2147483647,1),none)),[],[((50,2),(0,387420488,1),none),((50,3),(1,6,1),none),((50,4),(0,2,1),none)])])
def ddX2_metBy : List (Nat × Instr × Nat) := [(0,.aload_n 0,1),(1,.getfield 19,3),(4,.iload_n 1,1),(5,.invokevirtual 31,3),(8,.aload_n 0,1),(9,.getfield 9,3),(12,.invokevirtual 37,3),(15,.istore_n 2,1),(16,.iconst 0,1),(17,.istore_n 3,1),(18,.iconst 0,1),(19,.istore 4,2),(21,.iload 4,2),(23,.aload_n 0,1),(24,.getfield 15,3),(27,.invokevirtual 43,3),(30,.if_icmp .ge 49,3),(33,.aload_n 0,1),(34,.getfield 15,3),(37,.iload 4,2),(39,.invokevirtual 49,3),(42,.ifCond .eq 31,3),(45,.aload_n 0,1),(46,.getfield 19,3),(49,.iload 4,2),(51,.invokevirtual 53,3),(54,.aload_n 0,1),(55,.getfield 9,3),(58,.invokevirtual 37,3),(61,.iload_n 2,1),(62,.iand,1),(63,.ifCond .eq 10,3),(66,.iload_n 3,1),(67,.iconst 1,1),(68,.iload 4,2),(70,.ishl,1),(71,.ior,1),(72,.istore_n 3,1),(73,.iinc 4 1,3),(76,.goto (-55),3),(79,.iload_n 3,1),(80,.ireturn,1)]
def q164_P : rfP := (flX2,csX2,lcX2,spX2,[q105_M,q162_M,q163_M,q69_M,q67_M,q50_M],[],[(31,0,4),(37,1,3),(37,2,3),(43,3,8),(49,4,8),(53,5,4)],[])
def q164_U : rfU := []
set_option maxHeartbeats 4000000 in
def q164_N : List rfB := [(0,([(0,.inr (.inl [55])),(1,.inl ((0,387420488,1),none))],[],[]),(463,[0]),0),
  (21,([(0,.inr (.inl [55])),(1,.inl ((0,387420488,1),none)),(2,.inl ((0,2147483647,1),none)),(3,.inl ((0,2147483647,1),none)),(4,.inl ((0,14,1),none))],[],[((50,2),(0,387420488,1),none),((50,3),(1,6,1),none),((50,4),(0,2,1),none)]),(449,[(-30)]),0),
  (73,([(0,.inr (.inl [55])),(1,.inl ((0,387420488,1),none)),(2,.inl ((0,2147483647,1),none)),(3,.inl ((0,2147483647,1),none)),(4,.inl ((0,13,1),none))],[],[((50,2),(0,387420488,1),none),((50,3),(1,6,1),none),((50,4),(0,2,1),none)]),(422,[(-30)]),0)]
set_option maxRecDepth 100000 in
theorem q164_ok : rf_chkB q164_P q164_U wLay q164_M ddX2_metBy [(5,[0]),(12,[1]),(27,[3]),(39,[4]),(51,[5]),(58,[2])] [.inl 4] [0,21,73] 600 q164_N = true := by decide +kernel
/-- NearSpell.met -/
def q165_M : rfM := ((⟨"NearSpell", "met", "(II)I"⟩, prog_1_method_18_code, 3, (some .int)), (6,141), ([.inr (.inl [70]),.inl (((-2147483648),2147483647,1),none),.inl (((-2147483648),2147483647,1),none)],[]), [(4,0),(5,13),(21,0),(22,2),(22,3),(22,4),(22,5),(23,0),(24,2),(24,3),(24,4),(24,5),(25,0),(26,2),(26,3),(26,4),(26,5),(27,0),(28,2),(28,3),(28,4),(28,5),(29,0),(30,2),(30,3),(30,4),(30,5),(31,0),(32,2),(32,3),(32,4),(32,5),(33,0),(34,2),(34,3),(34,4),(34,5),(35,0),(36,2),(36,3),(36,4),(36,5),(37,0),(38,2),(38,3),(38,4),(38,5),(39,0),(40,2),(40,3),(40,4),(40,5),(41,0),(42,2),(42,3),(42,4),(42,5),(43,0),(44,2),(44,3),(44,4),(44,5),(45,0),(46,2),(46,3),(46,4),(46,5),(47,0),(48,2),(48,3),(48,4),(48,5),(49,0),(50,2),(50,3),(50,4),(50,5)], [(some (.inl (((-1),2147483647,1),none)),[],[])])
def ddX11_met : List (Nat × Instr × Nat) := [(0,.iload_n 1,1),(1,.invokestatic 163,3),(4,.ifCond .ne 5,3),(7,.iconst (-1),1),(8,.ireturn,1),(9,.iload_n 2,1),(10,.tableswitch 64 0 2 #[26, 35, 44],26),(36,.aload_n 0,1),(37,.getfield 67,3),(40,.iload_n 1,1),(41,.invokevirtual 226,3),(44,.ireturn,1),(45,.aload_n 0,1),(46,.getfield 67,3),(49,.iload_n 1,1),(50,.invokevirtual 229,3),(53,.ireturn,1),(54,.aload_n 0,1),(55,.getfield 67,3),(58,.iload_n 1,1),(59,.invokevirtual 226,3),(62,.aload_n 0,1),(63,.getfield 67,3),(66,.iload_n 1,1),(67,.invokevirtual 229,3),(70,.iconst (-1),1),(71,.ixor,1),(72,.iand,1),(73,.ireturn,1),(74,.iconst (-1),1),(75,.ireturn,1)]
def q165_P : rfP := (flX11,csX11,lcX11,spX11,[q52_M,q164_M,q113_M],[(163,0)],[(226,1,2),(229,2,2)],[])
def q165_U : rfU := []
set_option maxHeartbeats 4000000 in
def q165_N : List rfB := [(0,([(0,.inr (.inl [70])),(1,.inl (((-2147483648),2147483647,1),none)),(2,.inl (((-2147483648),2147483647,1),none))],[],[]),(31,[]),0)]
set_option maxRecDepth 100000 in
theorem q165_ok : rf_chkB q165_P q165_U wLay q165_M ddX11_met [(1,[0]),(41,[1]),(50,[2]),(59,[1]),(67,[2])] [] [0] 600 q165_N = true := by decide +kernel
/-- NearSpell.isApart -/
def q166_M : rfM := ((⟨"NearSpell", "isApart", "(I)Z"⟩, prog_1_method_50_code, 1, (some .boolean)), (0,0), ([.inl (((-2147483648),2147483647,1),none)],[]), [], [(some (.inl ((1,1,0),none)),[(0,0,6)],[]),(some (.inl ((0,0,0),none)),[],[])])
def ddX11_isApart : List (Nat × Instr × Nat) := [(0,.iload_n 0,1),(1,.ifCond .lt 13,3),(4,.iload_n 0,1),(5,.bipush 6,2),(7,.if_icmp .gt 7,3),(10,.iconst 1,1),(11,.goto 4,3),(14,.iconst 0,1),(15,.ireturn,1)]
def q166_P : rfP := (flX11,csX11,lcX11,spX11,[],[],[],[])
def q166_U : rfU := []
set_option maxHeartbeats 4000000 in
def q166_N : List rfB := [(0,([(0,.inl (((-2147483648),2147483647,1),none))],[],[]),(9,[]),0),
  (14,([(0,.inl (((-2147483648),2147483647,1),none))],[],[]),(1,[]),0)]
set_option maxRecDepth 100000 in
theorem q166_ok : rf_chkB q166_P q166_U wLay q166_M ddX11_isApart [] [] [0,14] 600 q166_N = true := by decide +kernel
/-- NearSpell.Finder.within -/
def q167_M : rfM := ((⟨"NearSpell$Finder", "within", "(II)I"⟩, prog_4_method_4_code, 5, (some .int)), (4,92), ([.inr (.inl [55]),.inl ((0,387420488,1),none),.inl ((0,6,1),none)],[]), [(17,0),(18,0),(19,0),(20,4),(20,5),(54,0)], [(some (.inl ((0,2147483647,1),none)),[],[((20,3),(0,6,1),none),((20,4),(0,6,1),none)])])
def q167_P : rfP := (flX2,csX2,lcX2,spX2,[q84_M,q69_M,q67_M,q11_M,q99_M],[],[(43,1,8),(49,2,8),(60,0,7),(66,3,8),(70,4,7)],[])
def q167_U : rfU := []
set_option maxHeartbeats 4000000 in
def q167_N : List rfB := [(0,([(0,.inr (.inl [55])),(1,.inl ((0,387420488,1),none)),(2,.inl ((0,6,1),none))],[],[]),(654,[0]),0),
  (13,([(0,.inr (.inl [55])),(1,.inl ((0,387420488,1),none)),(2,.inl ((0,6,1),none)),(3,.inl ((0,2147483647,1),none)),(4,.inl ((0,14,1),none))],[],[((20,3),(0,6,1),none),((20,4),(0,6,1),none)]),(644,[(-43)]),0),
  (89,([(0,.inr (.inl [55])),(1,.inl ((0,387420488,1),none)),(2,.inl ((0,6,1),none)),(3,.inl ((0,2147483647,1),none)),(4,.inl ((0,13,1),none))],[],[((20,3),(0,6,1),none),((20,4),(0,6,1),none)]),(604,[(-43)]),0),
  (88,([(0,.inr (.inl [55])),(1,.inl ((0,387420488,1),none)),(2,.inl ((0,6,1),none)),(3,.inl ((0,2147483647,1),none)),(4,.inl ((0,13,1),none))],[.inl ((0,2147483647,1),none)],[((12,34),(1,14,1),none),((20,3),(0,6,1),none),((20,4),(0,6,1),none)]),(606,[(-43)]),0)]
set_option maxRecDepth 100000 in
theorem q167_ok : rf_chkB q167_P q167_U wLay q167_M ddX2_within [(5,[0]),(19,[1]),(38,[2]),(60,[3]),(63,[4])] [.inl 4] [0,13,88,89] 600 q167_N = true := by decide +kernel
/-- NearSpell.missed -/
def q168_M : rfM := ((⟨"NearSpell", "missed", "(II)I"⟩, prog_1_method_19_code, 3, (some .int)), (5,117), ([.inr (.inl [70]),.inl (((-2147483648),2147483647,1),none),.inl (((-2147483648),2147483647,1),none)],[]), [(17,0),(18,0),(19,0),(20,4),(20,5),(21,0),(22,2),(22,3),(22,4),(22,5),(23,0),(24,2),(24,3),(24,4),(24,5),(25,0),(26,2),(26,3),(26,4),(26,5),(27,0),(28,2),(28,3),(28,4),(28,5),(29,0),(30,2),(30,3),(30,4),(30,5),(31,0),(32,2),(32,3),(32,4),(32,5),(33,0),(34,2),(34,3),(34,4),(34,5),(35,0),(36,2),(36,3),(36,4),(36,5),(37,0),(38,2),(38,3),(38,4),(38,5),(39,0),(40,2),(40,3),(40,4),(40,5),(41,0),(42,2),(42,3),(42,4),(42,5),(43,0),(44,2),(44,3),(44,4),(44,5),(45,0),(46,2),(46,3),(46,4),(46,5),(47,0),(48,2),(48,3),(48,4),(48,5),(49,0),(50,2),(50,3),(50,4),(50,5),(54,0)], [(some (.inl (((-1),2147483647,1),none)),[],[])])
def ddX11_missed : List (Nat × Instr × Nat) := [(0,.iload_n 1,1),(1,.invokestatic 163,3),(4,.ifCond .eq 10,3),(7,.iload_n 2,1),(8,.invokestatic 232,3),(11,.ifCond .ne 5,3),(14,.iconst (-1),1),(15,.ireturn,1),(16,.aload_n 0,1),(17,.getfield 67,3),(20,.iload_n 1,1),(21,.iload_n 2,1),(22,.invokevirtual 235,3),(25,.aload_n 0,1),(26,.getfield 67,3),(29,.iload_n 1,1),(30,.invokevirtual 229,3),(33,.iconst (-1),1),(34,.ixor,1),(35,.iand,1),(36,.ireturn,1)]
def q168_P : rfP := (flX11,csX11,lcX11,spX11,[q52_M,q166_M,q167_M,q113_M],[(163,0),(232,1)],[(229,3,2),(235,2,2)],[])
def q168_U : rfU := []
set_option maxHeartbeats 4000000 in
def q168_N : List rfB := [(0,([(0,.inr (.inl [70])),(1,.inl (((-2147483648),2147483647,1),none)),(2,.inl (((-2147483648),2147483647,1),none))],[],[]),(22,[]),0),
  (14,([(0,.inr (.inl [70])),(1,.inl (((-2147483648),2147483647,1),none)),(2,.inl (((-2147483648),2147483647,1),none))],[],[]),(1,[]),0)]
set_option maxRecDepth 100000 in
theorem q168_ok : rf_chkB q168_P q168_U wLay q168_M ddX11_missed [(1,[0]),(8,[1]),(22,[2]),(30,[3])] [] [0,14] 600 q168_N = true := by decide +kernel
/-- NearSpell.nearest -/
def q169_M : rfM := ((⟨"NearSpell", "nearest", "(I)I"⟩, prog_1_method_20_code, 2, (some .int)), (6,139), ([.inr (.inl [70]),.inl (((-2147483648),2147483647,1),none)],[]), [(17,0),(18,0),(19,0),(20,4),(20,5),(21,0),(22,2),(22,3),(22,4),(22,5),(23,0),(24,2),(24,3),(24,4),(24,5),(25,0),(26,2),(26,3),(26,4),(26,5),(27,0),(28,2),(28,3),(28,4),(28,5),(29,0),(30,2),(30,3),(30,4),(30,5),(31,0),(32,2),(32,3),(32,4),(32,5),(33,0),(34,2),(34,3),(34,4),(34,5),(35,0),(36,2),(36,3),(36,4),(36,5),(37,0),(38,2),(38,3),(38,4),(38,5),(39,0),(40,2),(40,3),(40,4),(40,5),(41,0),(42,2),(42,3),(42,4),(42,5),(43,0),(44,2),(44,3),(44,4),(44,5),(45,0),(46,2),(46,3),(46,4),(46,5),(47,0),(48,2),(48,3),(48,4),(48,5),(49,0),(50,2),(50,3),(50,4),(50,5),(54,0)], [(some (.inl (((-1),13,1),none)),[],[])])
def ddX11_nearest : List (Nat × Instr × Nat) := [(0,.iload_n 1,1),(1,.invokestatic 163,3),(4,.ifCond .eq 14,3),(7,.aload_n 0,1),(8,.getfield 67,3),(11,.iload_n 1,1),(12,.invokevirtual 198,3),(15,.goto 4,3),(18,.iconst (-1),1),(19,.ireturn,1)]
def q169_P : rfP := (flX11,csX11,lcX11,spX11,[q52_M,q126_M],[(163,0)],[(198,1,2)],[])
def q169_U : rfU := []
set_option maxHeartbeats 4000000 in
def q169_N : List rfB := [(0,([(0,.inr (.inl [70])),(1,.inl (((-2147483648),2147483647,1),none))],[],[]),(11,[]),0)]
set_option maxRecDepth 100000 in
theorem q169_ok : rf_chkB q169_P q169_U wLay q169_M ddX11_nearest [(1,[0]),(12,[1])] [] [0] 600 q169_N = true := by decide +kernel
/-- NearSpell.Finder.firstOf -/
def q170_M : rfM := ((⟨"NearSpell$Finder", "firstOf", "(I)I"⟩, prog_4_method_7_code, 4, (some .int)), (2,43), ([.inr (.inl [55]),.inl ((1,2147483647,1),none)],[]), [], [(some (.inl (((-1),13,1),none)),[],[])])
def q170_P : rfP := (flX2,csX2,lcX2,spX2,[q124_M],[],[(83,0,2)],[])
def q170_U : rfU := []
set_option maxHeartbeats 4000000 in
def q170_N : List rfB := [(0,([(0,.inr (.inl [55])),(1,.inl ((1,2147483647,1),none))],[],[]),(350,[0]),0),
  (4,([(0,.inr (.inl [55])),(1,.inl ((1,2147483647,1),none)),(2,.inl (((-1),13,1),none)),(3,.inl ((0,14,1),none))],[],[]),(344,[(-23)]),0),
  (34,([(0,.inr (.inl [55])),(1,.inl ((1,2147483647,1),none)),(2,.inl (((-1),13,1),none)),(3,.inl ((0,13,1),none))],[],[]),(324,[(-23)]),0),
  (32,([(0,.inr (.inl [55])),(1,.inl ((1,2147483647,1),none)),(2,.inl (((-1),13,1),none)),(3,.inl ((0,13,1),none))],[],[]),(327,[(-23)]),0)]
set_option maxRecDepth 100000 in
theorem q170_ok : rf_chkB q170_P q170_U wLay q170_M ddX2_firstOf [(26,[0])] [.inl 3] [0,4,32,34] 600 q170_N = true := by decide +kernel
/-- NearSpell.Finder.listNear -/
def q171_M : rfM := ((⟨"NearSpell$Finder", "listNear", "(II[I)I"⟩, prog_4_method_6_code, 7, (some .int)), (5,117), ([.inr (.inl [55]),.inl ((0,387420488,1),none),.inl ((0,6,1),none),.inr (.inl [69])],[]), [(17,0),(18,0),(19,0),(20,4),(20,5),(21,0),(22,2),(22,3),(22,4),(22,5),(23,0),(24,2),(24,3),(24,4),(24,5),(25,0),(26,2),(26,3),(26,4),(26,5),(27,0),(28,2),(28,3),(28,4),(28,5),(29,0),(30,2),(30,3),(30,4),(30,5),(31,0),(32,2),(32,3),(32,4),(32,5),(33,0),(34,2),(34,3),(34,4),(34,5),(35,0),(36,2),(36,3),(36,4),(36,5),(37,0),(38,2),(38,3),(38,4),(38,5),(39,0),(40,2),(40,3),(40,4),(40,5),(41,0),(42,2),(42,3),(42,4),(42,5),(43,0),(44,2),(44,3),(44,4),(44,5),(45,0),(46,2),(46,3),(46,4),(46,5),(47,0),(48,2),(48,3),(48,4),(48,5),(49,0),(50,2),(50,3),(50,4),(50,5),(54,0),(69,0)], [(some (.inl ((0,14,1),none)),[],[((20,3),(0,6,1),none),((20,4),(0,6,1),none),((50,2),(0,387420488,1),none),((50,3),(1,6,1),none),((50,4),(0,2,1),none)])])
def ddX2_listNear : List (Nat × Instr × Nat) := [(0,.aload_n 0,1),(1,.iload_n 1,1),(2,.iload_n 2,1),(3,.invokevirtual 73,3),(6,.aload_n 0,1),(7,.iload_n 1,1),(8,.invokevirtual 77,3),(11,.iand,1),(12,.istore 4,2),(14,.iconst 0,1),(15,.istore 5,2),(17,.iconst 0,1),(18,.istore 6,2),(20,.iload 6,2),(22,.bipush 14,2),(24,.if_icmp .ge 47,3),(27,.iload 6,2),(29,.aload_n 3,1),(30,.arraylength,1),(31,.if_icmp .ge 40,3),(34,.iload 4,2),(36,.ifCond .eq 35,3),(39,.aload_n 3,1),(40,.iload 6,2),(42,.aload_n 0,1),(43,.iload 4,2),(45,.invokevirtual 80,3),(48,.iastore,1),(49,.iload 4,2),(51,.iconst 1,1),(52,.aload_n 3,1),(53,.iload 6,2),(55,.iaload,1),(56,.ishl,1),(57,.iconst (-1),1),(58,.ixor,1),(59,.iand,1),(60,.istore 4,2),(62,.iinc 5 1,3),(65,.iinc 6 1,3),(68,.goto (-48),3),(71,.iload 5,2),(73,.ireturn,1)]
def q171_P : rfP := (flX2,csX2,lcX2,spX2,[q167_M,q113_M,q170_M],[],[(73,0,2),(77,1,2),(80,2,2)],[])
def q171_U : rfU := []
set_option maxHeartbeats 4000000 in
def q171_N : List rfB := [(0,([(0,.inr (.inl [55])),(1,.inl ((0,387420488,1),none)),(2,.inl ((0,6,1),none)),(3,.inr (.inl [69]))],[],[]),(437,[]),0),
  (20,([(0,.inr (.inl [55])),(1,.inl ((0,387420488,1),none)),(2,.inl ((0,6,1),none)),(3,.inr (.inl [69])),(4,.inl ((0,2147483647,1),none)),(5,.inl ((0,0,0),none)),(6,.inl ((0,0,0),none))],[],[((20,3),(0,6,1),none),((20,4),(0,6,1),none),((50,2),(0,387420488,1),none),((50,3),(1,6,1),none),((50,4),(0,2,1),none)]),(424,[]),0),
  (20,([(0,.inr (.inl [55])),(1,.inl ((0,387420488,1),none)),(2,.inl ((0,6,1),none)),(3,.inr (.inl [69])),(4,.inl ((0,2147483647,1),none)),(5,.inl ((1,1,0),none)),(6,.inl ((1,1,0),none))],[],[((20,3),(0,6,1),none),((20,4),(0,6,1),none),((50,2),(0,387420488,1),none),((50,3),(1,6,1),none),((50,4),(0,2,1),none),((69,0),((-1),13,1),none)]),(396,[]),0),
  (20,([(0,.inr (.inl [55])),(1,.inl ((0,387420488,1),none)),(2,.inl ((0,6,1),none)),(3,.inr (.inl [69])),(4,.inl ((0,2147483647,1),none)),(5,.inl ((2,2,0),none)),(6,.inl ((2,2,0),none))],[],[((20,3),(0,6,1),none),((20,4),(0,6,1),none),((50,2),(0,387420488,1),none),((50,3),(1,6,1),none),((50,4),(0,2,1),none),((69,0),((-1),13,1),none),((69,1),((-1),13,1),none)]),(368,[]),0),
  (20,([(0,.inr (.inl [55])),(1,.inl ((0,387420488,1),none)),(2,.inl ((0,6,1),none)),(3,.inr (.inl [69])),(4,.inl ((0,2147483647,1),none)),(5,.inl ((3,3,0),none)),(6,.inl ((3,3,0),none))],[],[((20,3),(0,6,1),none),((20,4),(0,6,1),none),((50,2),(0,387420488,1),none),((50,3),(1,6,1),none),((50,4),(0,2,1),none),((69,0),((-1),13,1),none),((69,1),((-1),13,1),none),((69,2),((-1),13,1),none)]),(340,[]),0),
  (20,([(0,.inr (.inl [55])),(1,.inl ((0,387420488,1),none)),(2,.inl ((0,6,1),none)),(3,.inr (.inl [69])),(4,.inl ((0,2147483647,1),none)),(5,.inl ((4,4,0),none)),(6,.inl ((4,4,0),none))],[],[((20,3),(0,6,1),none),((20,4),(0,6,1),none),((50,2),(0,387420488,1),none),((50,3),(1,6,1),none),((50,4),(0,2,1),none),((69,0),((-1),13,1),none),((69,1),((-1),13,1),none),((69,2),((-1),13,1),none),((69,3),((-1),13,1),none)]),(312,[]),0),
  (20,([(0,.inr (.inl [55])),(1,.inl ((0,387420488,1),none)),(2,.inl ((0,6,1),none)),(3,.inr (.inl [69])),(4,.inl ((0,2147483647,1),none)),(5,.inl ((5,5,0),none)),(6,.inl ((5,5,0),none))],[],[((20,3),(0,6,1),none),((20,4),(0,6,1),none),((50,2),(0,387420488,1),none),((50,3),(1,6,1),none),((50,4),(0,2,1),none),((69,0),((-1),13,1),none),((69,1),((-1),13,1),none),((69,2),((-1),13,1),none),((69,3),((-1),13,1),none),((69,4),((-1),13,1),none)]),(284,[]),0),
  (20,([(0,.inr (.inl [55])),(1,.inl ((0,387420488,1),none)),(2,.inl ((0,6,1),none)),(3,.inr (.inl [69])),(4,.inl ((0,2147483647,1),none)),(5,.inl ((6,6,0),none)),(6,.inl ((6,6,0),none))],[],[((20,3),(0,6,1),none),((20,4),(0,6,1),none),((50,2),(0,387420488,1),none),((50,3),(1,6,1),none),((50,4),(0,2,1),none),((69,0),((-1),13,1),none),((69,1),((-1),13,1),none),((69,2),((-1),13,1),none),((69,3),((-1),13,1),none),((69,4),((-1),13,1),none),((69,5),((-1),13,1),none)]),(256,[]),0),
  (20,([(0,.inr (.inl [55])),(1,.inl ((0,387420488,1),none)),(2,.inl ((0,6,1),none)),(3,.inr (.inl [69])),(4,.inl ((0,2147483647,1),none)),(5,.inl ((7,7,0),none)),(6,.inl ((7,7,0),none))],[],[((20,3),(0,6,1),none),((20,4),(0,6,1),none),((50,2),(0,387420488,1),none),((50,3),(1,6,1),none),((50,4),(0,2,1),none),((69,0),((-1),13,1),none),((69,1),((-1),13,1),none),((69,2),((-1),13,1),none),((69,3),((-1),13,1),none),((69,4),((-1),13,1),none),((69,5),((-1),13,1),none),((69,6),((-1),13,1),none)]),(228,[]),0),
  (20,([(0,.inr (.inl [55])),(1,.inl ((0,387420488,1),none)),(2,.inl ((0,6,1),none)),(3,.inr (.inl [69])),(4,.inl ((0,2147483647,1),none)),(5,.inl ((8,8,0),none)),(6,.inl ((8,8,0),none))],[],[((20,3),(0,6,1),none),((20,4),(0,6,1),none),((50,2),(0,387420488,1),none),((50,3),(1,6,1),none),((50,4),(0,2,1),none),((69,0),((-1),13,1),none),((69,1),((-1),13,1),none),((69,2),((-1),13,1),none),((69,3),((-1),13,1),none),((69,4),((-1),13,1),none),((69,5),((-1),13,1),none),((69,6),((-1),13,1),none),((69,7),((-1),13,1),none)]),(200,[]),0),
  (20,([(0,.inr (.inl [55])),(1,.inl ((0,387420488,1),none)),(2,.inl ((0,6,1),none)),(3,.inr (.inl [69])),(4,.inl ((0,2147483647,1),none)),(5,.inl ((9,9,0),none)),(6,.inl ((9,9,0),none))],[],[((20,3),(0,6,1),none),((20,4),(0,6,1),none),((50,2),(0,387420488,1),none),((50,3),(1,6,1),none),((50,4),(0,2,1),none),((69,0),((-1),13,1),none),((69,1),((-1),13,1),none),((69,2),((-1),13,1),none),((69,3),((-1),13,1),none),((69,4),((-1),13,1),none),((69,5),((-1),13,1),none),((69,6),((-1),13,1),none),((69,7),((-1),13,1),none),((69,8),((-1),13,1),none)]),(172,[]),0),
  (20,([(0,.inr (.inl [55])),(1,.inl ((0,387420488,1),none)),(2,.inl ((0,6,1),none)),(3,.inr (.inl [69])),(4,.inl ((0,2147483647,1),none)),(5,.inl ((10,10,0),none)),(6,.inl ((10,10,0),none))],[],[((20,3),(0,6,1),none),((20,4),(0,6,1),none),((50,2),(0,387420488,1),none),((50,3),(1,6,1),none),((50,4),(0,2,1),none),((69,0),((-1),13,1),none),((69,1),((-1),13,1),none),((69,2),((-1),13,1),none),((69,3),((-1),13,1),none),((69,4),((-1),13,1),none),((69,5),((-1),13,1),none),((69,6),((-1),13,1),none),((69,7),((-1),13,1),none),((69,8),((-1),13,1),none),((69,9),((-1),13,1),none)]),(144,[]),0),
  (20,([(0,.inr (.inl [55])),(1,.inl ((0,387420488,1),none)),(2,.inl ((0,6,1),none)),(3,.inr (.inl [69])),(4,.inl ((0,2147483647,1),none)),(5,.inl ((11,11,0),none)),(6,.inl ((11,11,0),none))],[],[((20,3),(0,6,1),none),((20,4),(0,6,1),none),((50,2),(0,387420488,1),none),((50,3),(1,6,1),none),((50,4),(0,2,1),none),((69,0),((-1),13,1),none),((69,1),((-1),13,1),none),((69,2),((-1),13,1),none),((69,3),((-1),13,1),none),((69,4),((-1),13,1),none),((69,5),((-1),13,1),none),((69,6),((-1),13,1),none),((69,7),((-1),13,1),none),((69,8),((-1),13,1),none),((69,9),((-1),13,1),none),((69,10),((-1),13,1),none)]),(116,[]),0),
  (20,([(0,.inr (.inl [55])),(1,.inl ((0,387420488,1),none)),(2,.inl ((0,6,1),none)),(3,.inr (.inl [69])),(4,.inl ((0,2147483647,1),none)),(5,.inl ((12,12,0),none)),(6,.inl ((12,12,0),none))],[],[((20,3),(0,6,1),none),((20,4),(0,6,1),none),((50,2),(0,387420488,1),none),((50,3),(1,6,1),none),((50,4),(0,2,1),none),((69,0),((-1),13,1),none),((69,1),((-1),13,1),none),((69,2),((-1),13,1),none),((69,3),((-1),13,1),none),((69,4),((-1),13,1),none),((69,5),((-1),13,1),none),((69,6),((-1),13,1),none),((69,7),((-1),13,1),none),((69,8),((-1),13,1),none),((69,9),((-1),13,1),none),((69,10),((-1),13,1),none),((69,11),((-1),13,1),none)]),(88,[]),0),
  (20,([(0,.inr (.inl [55])),(1,.inl ((0,387420488,1),none)),(2,.inl ((0,6,1),none)),(3,.inr (.inl [69])),(4,.inl ((0,2147483647,1),none)),(5,.inl ((13,13,0),none)),(6,.inl ((13,13,0),none))],[],[((20,3),(0,6,1),none),((20,4),(0,6,1),none),((50,2),(0,387420488,1),none),((50,3),(1,6,1),none),((50,4),(0,2,1),none),((69,0),((-1),13,1),none),((69,1),((-1),13,1),none),((69,2),((-1),13,1),none),((69,3),((-1),13,1),none),((69,4),((-1),13,1),none),((69,5),((-1),13,1),none),((69,6),((-1),13,1),none),((69,7),((-1),13,1),none),((69,8),((-1),13,1),none),((69,9),((-1),13,1),none),((69,10),((-1),13,1),none),((69,11),((-1),13,1),none),((69,12),((-1),13,1),none)]),(60,[]),0),
  (20,([(0,.inr (.inl [55])),(1,.inl ((0,387420488,1),none)),(2,.inl ((0,6,1),none)),(3,.inr (.inl [69])),(4,.inl ((0,2147483647,1),none)),(5,.inl ((14,14,0),none)),(6,.inl ((14,14,0),none))],[],[((20,3),(0,6,1),none),((20,4),(0,6,1),none),((50,2),(0,387420488,1),none),((50,3),(1,6,1),none),((50,4),(0,2,1),none),((69,0),((-1),13,1),none),((69,1),((-1),13,1),none),((69,2),((-1),13,1),none),((69,3),((-1),13,1),none),((69,4),((-1),13,1),none),((69,5),((-1),13,1),none),((69,6),((-1),13,1),none),((69,7),((-1),13,1),none),((69,8),((-1),13,1),none),((69,9),((-1),13,1),none),((69,10),((-1),13,1),none),((69,11),((-1),13,1),none),((69,12),((-1),13,1),none),((69,13),((-1),13,1),none)]),(32,[]),0)]
set_option maxRecDepth 100000 in
theorem q171_ok : rf_chkB q171_P q171_U wLay q171_M ddX2_listNear [(3,[0]),(8,[1]),(45,[2])] [] [0,20] 600 q171_N = true := by decide +kernel
/-- NearSpell.near -/
def q172_M : rfM := ((⟨"NearSpell", "near", "(II)I"⟩, prog_1_method_21_code, 3, (some .int)), (6,143), ([.inr (.inl [70]),.inl (((-2147483648),2147483647,1),none),.inl (((-2147483648),2147483647,1),none)],[]), [(17,0),(18,0),(19,0),(20,4),(20,5),(21,0),(22,2),(22,3),(22,4),(22,5),(23,0),(24,2),(24,3),(24,4),(24,5),(25,0),(26,2),(26,3),(26,4),(26,5),(27,0),(28,2),(28,3),(28,4),(28,5),(29,0),(30,2),(30,3),(30,4),(30,5),(31,0),(32,2),(32,3),(32,4),(32,5),(33,0),(34,2),(34,3),(34,4),(34,5),(35,0),(36,2),(36,3),(36,4),(36,5),(37,0),(38,2),(38,3),(38,4),(38,5),(39,0),(40,2),(40,3),(40,4),(40,5),(41,0),(42,2),(42,3),(42,4),(42,5),(43,0),(44,2),(44,3),(44,4),(44,5),(45,0),(46,2),(46,3),(46,4),(46,5),(47,0),(48,2),(48,3),(48,4),(48,5),(49,0),(50,2),(50,3),(50,4),(50,5),(54,0),(69,0),(70,15)], [(some (.inl (((-1),14,1),none)),[],[((70,14),(0,14,1),none)])])
def ddX11_near : List (Nat × Instr × Nat) := [(0,.aload_n 0,1),(1,.iconst 0,1),(2,.putfield 104,3),(5,.iload_n 1,1),(6,.invokestatic 163,3),(9,.ifCond .eq 10,3),(12,.iload_n 2,1),(13,.invokestatic 232,3),(16,.ifCond .ne 5,3),(19,.iconst (-1),1),(20,.ireturn,1),(21,.aload_n 0,1),(22,.aload_n 0,1),(23,.getfield 67,3),(26,.iload_n 1,1),(27,.iload_n 2,1),(28,.aload_n 0,1),(29,.getfield 96,3),(32,.invokevirtual 238,3),(35,.putfield 104,3),(38,.aload_n 0,1),(39,.getfield 104,3),(42,.ireturn,1)]
def q172_P : rfP := (flX11,csX11,lcX11,spX11,[q52_M,q166_M,q171_M],[(163,0),(232,1)],[(238,2,2)],[])
def q172_U : rfU := []
set_option maxHeartbeats 4000000 in
def q172_N : List rfB := [(0,([(0,.inr (.inl [70])),(1,.inl (((-2147483648),2147483647,1),none)),(2,.inl (((-2147483648),2147483647,1),none))],[],[]),(24,[]),0),
  (19,([(0,.inr (.inl [70])),(1,.inl (((-2147483648),2147483647,1),none)),(2,.inl (((-2147483648),2147483647,1),none))],[],[((70,14),(0,0,0),none)]),(1,[]),0)]
set_option maxRecDepth 100000 in
theorem q172_ok : rf_chkB q172_P q172_U wLay q172_M ddX11_near [(6,[0]),(13,[1]),(32,[2])] [] [0,19] 600 q172_N = true := by decide +kernel
/-- NearSpell.Pieces.forgetLeast -/
def q173_M : rfM := ((⟨"NearSpell$Pieces", "forgetLeast", "()V"⟩, prog_7_method_5_code, 1, none), (0,0), ([.inr (.inl [58])],[]), [(58,5),(58,6),(58,7),(58,8)], [(none,[],[((58,4),(1000,1000,0),none),((58,5),((-1),(-1),0),none),((58,6),((-1),(-1),0),none),((58,7),(0,0,0),none)])])
def ddX5_forgetLeast : List (Nat × Instr × Nat) := [(0,.aload_n 0,1),(1,.sipush 1000,3),(4,.putfield 54,3),(7,.aload_n 0,1),(8,.iconst (-1),1),(9,.putfield 58,3),(12,.aload_n 0,1),(13,.iconst (-1),1),(14,.putfield 61,3),(17,.aload_n 0,1),(18,.iconst 0,1),(19,.putfield 64,3),(22,.return_,1)]
def q173_P : rfP := (flX5,csX5,lcX5,spX5,[],[],[],[])
def q173_U : rfU := []
set_option maxHeartbeats 4000000 in
def q173_N : List rfB := [(0,([(0,.inr (.inl [58]))],[],[]),(12,[]),0)]
set_option maxRecDepth 100000 in
theorem q173_ok : rf_chkB q173_P q173_U wLay q173_M ddX5_forgetLeast [] [] [0] 600 q173_N = true := by decide +kernel
/-- NearSpell.Ruler.restart -/
def q174_M : rfM := ((⟨"NearSpell$Ruler", "restart", "(I)I"⟩, prog_9_method_6_code, 2, (some .int)), (3,71), ([.inr (.inl [20]),.inl (((-2147483648),2147483647,1),none)],[]), [(18,0),(19,0),(20,5)], [(some (.inl ((0,6,1),none)),[],[((20,4),(0,6,1),none)])])
def ddX7_restart : List (Nat × Instr × Nat) := [(0,.aload_n 0,1),(1,.iconst 0,1),(2,.iload_n 1,1),(3,.invokevirtual 40,3),(6,.pop,1),(7,.aload_n 0,1),(8,.getfield 25,3),(11,.ireturn,1)]
def q174_P : rfP := (flX7,csX7,lcX7,spX7,[q98_M],[],[(40,0,7)],[])
def q174_U : rfU := []
set_option maxHeartbeats 4000000 in
def q174_N : List rfB := [(0,([(0,.inr (.inl [20])),(1,.inl (((-2147483648),2147483647,1),none))],[],[]),(7,[]),0)]
set_option maxRecDepth 100000 in
theorem q174_ok : rf_chkB q174_P q174_U wLay q174_M ddX7_restart [(3,[0])] [] [0] 600 q174_N = true := by decide +kernel
/-- java/lang/Math.abs -/
def q175_M : rfM := ((⟨"java/lang/Math", "abs", "(I)I"⟩, prog_17_method_59_code, 1, (some .int)), (0,0), ([.inl (((-2147483648),12,1),none)],[]), [], [(some (.inl (((-2147483648),2147483647,1),none)),[],[])])
def ddJ9_abs_0f7a4 : List (Nat × Instr × Nat) := [(0,.iload_n 0,1),(1,.ifCond .ge 8,3),(4,.iload_n 0,1),(5,.ineg,1),(6,.goto 4,3),(9,.iload_n 0,1),(10,.ireturn,1)]
def q175_P : rfP := (flJ9,csJ9,lcJ9,spJ9,[],[],[],[])
def q175_U : rfU := []
set_option maxHeartbeats 4000000 in
def q175_N : List rfB := [(0,([(0,.inl (((-2147483648),12,1),none))],[],[]),(6,[]),0),
  (10,([(0,.inl (((-2147483648),12,1),none))],[.inl (((-2147483648),2147483647,1),none)],[]),(0,[]),0)]
set_option maxRecDepth 100000 in
theorem q175_ok : rf_chkB q175_P q175_U wLay q175_M ddJ9_abs_0f7a4 [] [] [0,10] 600 q175_N = true := by decide +kernel
/-- java/lang/Math.min -/
def q176_M : rfM := ((⟨"java/lang/Math", "min", "(II)I"⟩, prog_17_method_69_code, 2, (some .int)), (0,0), ([.inl ((0,6,1),none),.inl ((0,12,1),none)],[]), [], [(some (.inl ((0,6,1),none)),[],[])])
def q176_P : rfP := (flJ9,csJ9,lcJ9,spJ9,[],[],[],[])
def q176_U : rfU := []
set_option maxHeartbeats 4000000 in
def q176_N : List rfB := [(0,([(0,.inl ((0,6,1),none)),(1,.inl ((0,12,1),none))],[],[]),(6,[]),0),
  (10,([(0,.inl ((0,6,1),none)),(1,.inl ((0,12,1),none))],[.inl ((0,6,1),none)],[]),(0,[]),0)]
set_option maxRecDepth 100000 in
theorem q176_ok : rf_chkB q176_P q176_U wLay q176_M ddJ9_min_7cf53 [] [] [0,10] 600 q176_N = true := by decide +kernel
/-- java/lang/Math.max -/
def q177_M : rfM := ((⟨"java/lang/Math", "max", "(II)I"⟩, prog_17_method_65_code, 2, (some .int)), (0,0), ([.inl ((0,0,0),none),.inl ((0,6,1),none)],[]), [], [(some (.inl ((0,6,1),none)),[],[])])
def q177_P : rfP := (flJ9,csJ9,lcJ9,spJ9,[],[],[],[])
def q177_U : rfU := []
set_option maxHeartbeats 4000000 in
def q177_N : List rfB := [(0,([(0,.inl ((0,0,0),none)),(1,.inl ((0,6,1),none))],[],[]),(7,[]),0)]
set_option maxRecDepth 100000 in
theorem q177_ok : rf_chkB q177_P q177_U wLay q177_M ddJ9_max_7cf53 [] [] [0] 600 q177_N = true := by decide +kernel
/-- NearSpell.Ruler.putLetters -/
def q178_M : rfM := ((⟨"NearSpell$Ruler", "putLetters", "(I[II)I"⟩, prog_9_method_8_code, 6, (some .int)), (1,21), ([.inl (((-2147483648),2147483647,1),none),.inr (.inl [18]),.inl ((0,6,1),none)],[]), [(18,0)], [(some (.inl ((0,12,1),none)),[],[])])
def q178_P : rfP := (flX7,csX7,lcX7,spX7,[q12_M],[(55,0)],[],[])
def q178_U : rfU := []
set_option maxHeartbeats 4000000 in
def q178_N : List rfB := [(0,([(0,.inl (((-2147483648),2147483647,1),none)),(1,.inr (.inl [18])),(2,.inl ((0,6,1),none))],[],[]),(224,[0]),0),
  (23,([(0,.inl (((-2147483648),2147483647,1),none)),(1,.inr (.inl [18])),(2,.inl ((0,6,1),none)),(3,.inl ((0,12,1),none)),(4,.inl (((-2147483648),2147483647,1),none)),(5,.inl (((-1),11,1),none))],[],[]),(31,[16]),0)]
set_option maxRecDepth 100000 in
theorem q178_ok : rf_chkB q178_P q178_U wLay q178_M ddX7_putLetters [(2,[0])] [.inl 5] [0,23] 600 q178_N = true := by decide +kernel
/-- NearSpell.Ruler.fillRow -/
def q179_M : rfM := ((⟨"NearSpell$Ruler", "fillRow", "(I)V"⟩, prog_9_method_9_code, 7, none), (1,21), ([.inr (.inl [20]),.inl ((1,9,1),none)],[]), [(19,0)], [(none,[],[])])
def q179_P : rfP := (flX7,csX7,lcX7,spX7,[q90_M,q88_M,q89_M],[(44,0),(44,1),(44,2)],[],[])
def q179_U : rfU := [(.inl 1,[((-2147483648),0),(1,1),(2,12),(13,2147483647)])]
set_option maxHeartbeats 4000000 in
def q179_N : List rfB := [(0,([(0,.inr (.inl [20])),(1,.inl ((1,9,1),none))],[],[]),(1653,[]),1000000),
  (56,([(0,.inr (.inl [20])),(1,.inl ((2,9,1),none)),(2,.inl (((-2147483648),2147483647,1),none)),(3,.inl (((-2147483648),2147483647,1),none)),(4,.inl ((26,117,13),none)),(5,.inl ((1,1,0),none))],[],[]),(1617,[]),0),
  (56,([(0,.inr (.inl [20])),(1,.inl ((1,1,1),none)),(2,.inl (((-2147483648),2147483647,1),some (.inr (18,0),some 0))),(3,.inl ((0,0,0),none)),(4,.inl ((13,13,13),none)),(5,.inl ((1,1,0),none))],[],[((19,13),(1,1,1),none)]),(616,[]),0),
  (184,([(0,.inr (.inl [20])),(1,.inl ((2,9,1),none)),(2,.inl (((-2147483648),2147483647,1),none)),(3,.inl (((-2147483648),2147483647,1),none)),(4,.inl ((27,118,13),none)),(5,.inl ((1,1,0),none)),(6,.inl (((-2147483648),2147483647,1),none))],[],[((20,3),(1,12,1),none)]),(1571,[]),0),
  (184,([(0,.inr (.inl [20])),(1,.inl ((1,1,1),none)),(2,.inl (((-2147483648),2147483647,1),some (.inr (18,0),some 0))),(3,.inl ((0,0,0),none)),(4,.inl ((14,14,13),none)),(5,.inl ((1,1,0),none)),(6,.inl (((-2147483648),2147483647,1),none))],[],[((19,13),(1,1,1),none),((20,3),(1,12,1),none)]),(573,[]),0),
  (56,([(0,.inr (.inl [20])),(1,.inl ((2,9,1),none)),(2,.inl (((-2147483648),2147483647,1),none)),(3,.inl (((-2147483648),2147483647,1),none)),(4,.inl ((27,118,13),none)),(5,.inl ((2,2,0),none)),(6,.inl (((-2147483648),2147483647,1),none))],[],[((20,3),(1,12,1),none)]),(1564,[]),0),
  (184,([(0,.inr (.inl [20])),(1,.inl ((2,9,1),none)),(2,.inl (((-2147483648),2147483647,1),none)),(3,.inl (((-2147483648),2147483647,1),none)),(4,.inl ((28,119,13),none)),(5,.inl ((2,2,0),none)),(6,.inl (((-2147483648),2147483647,1),none))],[],[((20,3),(2,12,1),none)]),(1489,[]),0),
  (56,([(0,.inr (.inl [20])),(1,.inl ((1,1,1),none)),(2,.inl (((-2147483648),2147483647,1),some (.inr (18,0),some 0))),(3,.inl ((0,0,0),none)),(4,.inl ((14,14,13),none)),(5,.inl ((2,2,0),none)),(6,.inl (((-2147483648),2147483647,1),none))],[],[((19,13),(1,1,1),none),((19,14),((-2147483648),2147483647,1),none),((20,3),(1,12,1),none)]),(566,[]),0),
  (184,([(0,.inr (.inl [20])),(1,.inl ((1,1,1),none)),(2,.inl (((-2147483648),2147483647,1),some (.inr (18,0),some 0))),(3,.inl ((0,0,0),none)),(4,.inl ((15,15,13),none)),(5,.inl ((2,2,0),none)),(6,.inl (((-2147483648),2147483647,1),none))],[],[((19,13),(1,1,1),none),((20,3),(2,12,1),none)]),(523,[]),0),
  (56,([(0,.inr (.inl [20])),(1,.inl ((2,9,1),none)),(2,.inl (((-2147483648),2147483647,1),none)),(3,.inl (((-2147483648),2147483647,1),none)),(4,.inl ((28,119,13),none)),(5,.inl ((3,3,0),none)),(6,.inl (((-2147483648),2147483647,1),none))],[],[((20,3),(2,12,1),none)]),(1482,[]),0),
  (184,([(0,.inr (.inl [20])),(1,.inl ((2,9,1),none)),(2,.inl (((-2147483648),2147483647,1),none)),(3,.inl (((-2147483648),2147483647,1),none)),(4,.inl ((29,120,13),none)),(5,.inl ((3,3,0),none)),(6,.inl (((-2147483648),2147483647,1),none))],[],[((20,3),(3,12,1),none)]),(1407,[]),0),
  (56,([(0,.inr (.inl [20])),(1,.inl ((1,1,1),none)),(2,.inl (((-2147483648),2147483647,1),some (.inr (18,0),some 0))),(3,.inl ((0,0,0),none)),(4,.inl ((15,15,13),none)),(5,.inl ((3,3,0),none)),(6,.inl (((-2147483648),2147483647,1),none))],[],[((19,13),(1,1,1),none),((19,15),((-2147483648),2147483647,1),none),((20,3),(2,12,1),none)]),(516,[]),0),
  (184,([(0,.inr (.inl [20])),(1,.inl ((1,1,1),none)),(2,.inl (((-2147483648),2147483647,1),some (.inr (18,0),some 0))),(3,.inl ((0,0,0),none)),(4,.inl ((16,16,13),none)),(5,.inl ((3,3,0),none)),(6,.inl (((-2147483648),2147483647,1),none))],[],[((19,13),(1,1,1),none),((20,3),(3,12,1),none)]),(473,[]),0),
  (56,([(0,.inr (.inl [20])),(1,.inl ((2,9,1),none)),(2,.inl (((-2147483648),2147483647,1),none)),(3,.inl (((-2147483648),2147483647,1),none)),(4,.inl ((29,120,13),none)),(5,.inl ((4,4,0),none)),(6,.inl (((-2147483648),2147483647,1),none))],[],[((20,3),(3,12,1),none)]),(1400,[]),0),
  (184,([(0,.inr (.inl [20])),(1,.inl ((2,9,1),none)),(2,.inl (((-2147483648),2147483647,1),none)),(3,.inl (((-2147483648),2147483647,1),none)),(4,.inl ((30,121,13),none)),(5,.inl ((4,4,0),none)),(6,.inl (((-2147483648),2147483647,1),none))],[],[((20,3),(4,12,1),none)]),(1325,[]),0),
  (56,([(0,.inr (.inl [20])),(1,.inl ((1,1,1),none)),(2,.inl (((-2147483648),2147483647,1),some (.inr (18,0),some 0))),(3,.inl ((0,0,0),none)),(4,.inl ((16,16,13),none)),(5,.inl ((4,4,0),none)),(6,.inl (((-2147483648),2147483647,1),none))],[],[((19,13),(1,1,1),none),((19,16),((-2147483648),2147483647,1),none),((20,3),(3,12,1),none)]),(466,[]),0),
  (184,([(0,.inr (.inl [20])),(1,.inl ((1,1,1),none)),(2,.inl (((-2147483648),2147483647,1),some (.inr (18,0),some 0))),(3,.inl ((0,0,0),none)),(4,.inl ((17,17,13),none)),(5,.inl ((4,4,0),none)),(6,.inl (((-2147483648),2147483647,1),none))],[],[((19,13),(1,1,1),none),((20,3),(4,12,1),none)]),(423,[]),0),
  (56,([(0,.inr (.inl [20])),(1,.inl ((2,9,1),none)),(2,.inl (((-2147483648),2147483647,1),none)),(3,.inl (((-2147483648),2147483647,1),none)),(4,.inl ((30,121,13),none)),(5,.inl ((5,5,0),none)),(6,.inl (((-2147483648),2147483647,1),none))],[],[((20,3),(4,12,1),none)]),(1318,[]),0),
  (184,([(0,.inr (.inl [20])),(1,.inl ((2,9,1),none)),(2,.inl (((-2147483648),2147483647,1),none)),(3,.inl (((-2147483648),2147483647,1),none)),(4,.inl ((31,122,13),none)),(5,.inl ((5,5,0),none)),(6,.inl (((-2147483648),2147483647,1),none))],[],[((20,3),(5,12,1),none)]),(1243,[]),0),
  (56,([(0,.inr (.inl [20])),(1,.inl ((1,1,1),none)),(2,.inl (((-2147483648),2147483647,1),some (.inr (18,0),some 0))),(3,.inl ((0,0,0),none)),(4,.inl ((17,17,13),none)),(5,.inl ((5,5,0),none)),(6,.inl (((-2147483648),2147483647,1),none))],[],[((19,13),(1,1,1),none),((19,17),((-2147483648),2147483647,1),none),((20,3),(4,12,1),none)]),(416,[]),0),
  (184,([(0,.inr (.inl [20])),(1,.inl ((1,1,1),none)),(2,.inl (((-2147483648),2147483647,1),some (.inr (18,0),some 0))),(3,.inl ((0,0,0),none)),(4,.inl ((18,18,13),none)),(5,.inl ((5,5,0),none)),(6,.inl (((-2147483648),2147483647,1),none))],[],[((19,13),(1,1,1),none),((20,3),(5,12,1),none)]),(373,[]),0),
  (56,([(0,.inr (.inl [20])),(1,.inl ((2,9,1),none)),(2,.inl (((-2147483648),2147483647,1),none)),(3,.inl (((-2147483648),2147483647,1),none)),(4,.inl ((31,122,13),none)),(5,.inl ((6,6,0),none)),(6,.inl (((-2147483648),2147483647,1),none))],[],[((20,3),(5,12,1),none)]),(1236,[]),0),
  (184,([(0,.inr (.inl [20])),(1,.inl ((2,9,1),none)),(2,.inl (((-2147483648),2147483647,1),none)),(3,.inl (((-2147483648),2147483647,1),none)),(4,.inl ((32,123,13),none)),(5,.inl ((6,6,0),none)),(6,.inl (((-2147483648),2147483647,1),none))],[],[((20,3),(6,12,1),none)]),(1161,[]),0),
  (56,([(0,.inr (.inl [20])),(1,.inl ((1,1,1),none)),(2,.inl (((-2147483648),2147483647,1),some (.inr (18,0),some 0))),(3,.inl ((0,0,0),none)),(4,.inl ((18,18,13),none)),(5,.inl ((6,6,0),none)),(6,.inl (((-2147483648),2147483647,1),none))],[],[((19,13),(1,1,1),none),((19,18),((-2147483648),2147483647,1),none),((20,3),(5,12,1),none)]),(366,[]),0),
  (184,([(0,.inr (.inl [20])),(1,.inl ((1,1,1),none)),(2,.inl (((-2147483648),2147483647,1),some (.inr (18,0),some 0))),(3,.inl ((0,0,0),none)),(4,.inl ((19,19,13),none)),(5,.inl ((6,6,0),none)),(6,.inl (((-2147483648),2147483647,1),none))],[],[((19,13),(1,1,1),none),((20,3),(6,12,1),none)]),(323,[]),0),
  (56,([(0,.inr (.inl [20])),(1,.inl ((2,9,1),none)),(2,.inl (((-2147483648),2147483647,1),none)),(3,.inl (((-2147483648),2147483647,1),none)),(4,.inl ((32,123,13),none)),(5,.inl ((7,7,0),none)),(6,.inl (((-2147483648),2147483647,1),none))],[],[((20,3),(6,12,1),none)]),(1154,[]),0),
  (184,([(0,.inr (.inl [20])),(1,.inl ((2,9,1),none)),(2,.inl (((-2147483648),2147483647,1),none)),(3,.inl (((-2147483648),2147483647,1),none)),(4,.inl ((33,124,13),none)),(5,.inl ((7,7,0),none)),(6,.inl (((-2147483648),2147483647,1),none))],[],[((20,3),(7,12,1),none)]),(1079,[]),0),
  (56,([(0,.inr (.inl [20])),(1,.inl ((1,1,1),none)),(2,.inl (((-2147483648),2147483647,1),some (.inr (18,0),some 0))),(3,.inl ((0,0,0),none)),(4,.inl ((19,19,13),none)),(5,.inl ((7,7,0),none)),(6,.inl (((-2147483648),2147483647,1),none))],[],[((19,13),(1,1,1),none),((19,19),((-2147483648),2147483647,1),none),((20,3),(6,12,1),none)]),(316,[]),0),
  (184,([(0,.inr (.inl [20])),(1,.inl ((1,1,1),none)),(2,.inl (((-2147483648),2147483647,1),some (.inr (18,0),some 0))),(3,.inl ((0,0,0),none)),(4,.inl ((20,20,13),none)),(5,.inl ((7,7,0),none)),(6,.inl (((-2147483648),2147483647,1),none))],[],[((19,13),(1,1,1),none),((20,3),(7,12,1),none)]),(273,[]),0),
  (56,([(0,.inr (.inl [20])),(1,.inl ((2,9,1),none)),(2,.inl (((-2147483648),2147483647,1),none)),(3,.inl (((-2147483648),2147483647,1),none)),(4,.inl ((33,124,13),none)),(5,.inl ((8,8,0),none)),(6,.inl (((-2147483648),2147483647,1),none))],[],[((20,3),(7,12,1),none)]),(1072,[]),0),
  (184,([(0,.inr (.inl [20])),(1,.inl ((2,9,1),none)),(2,.inl (((-2147483648),2147483647,1),none)),(3,.inl (((-2147483648),2147483647,1),none)),(4,.inl ((34,125,13),none)),(5,.inl ((8,8,0),none)),(6,.inl (((-2147483648),2147483647,1),none))],[],[((20,3),(8,12,1),none)]),(997,[]),0),
  (56,([(0,.inr (.inl [20])),(1,.inl ((1,1,1),none)),(2,.inl (((-2147483648),2147483647,1),some (.inr (18,0),some 0))),(3,.inl ((0,0,0),none)),(4,.inl ((20,20,13),none)),(5,.inl ((8,8,0),none)),(6,.inl (((-2147483648),2147483647,1),none))],[],[((19,13),(1,1,1),none),((19,20),((-2147483648),2147483647,1),none),((20,3),(7,12,1),none)]),(266,[]),0),
  (184,([(0,.inr (.inl [20])),(1,.inl ((1,1,1),none)),(2,.inl (((-2147483648),2147483647,1),some (.inr (18,0),some 0))),(3,.inl ((0,0,0),none)),(4,.inl ((21,21,13),none)),(5,.inl ((8,8,0),none)),(6,.inl (((-2147483648),2147483647,1),none))],[],[((19,13),(1,1,1),none),((20,3),(8,12,1),none)]),(223,[]),0),
  (56,([(0,.inr (.inl [20])),(1,.inl ((2,9,1),none)),(2,.inl (((-2147483648),2147483647,1),none)),(3,.inl (((-2147483648),2147483647,1),none)),(4,.inl ((34,125,13),none)),(5,.inl ((9,9,0),none)),(6,.inl (((-2147483648),2147483647,1),none))],[],[((20,3),(8,12,1),none)]),(990,[]),0),
  (184,([(0,.inr (.inl [20])),(1,.inl ((2,9,1),none)),(2,.inl (((-2147483648),2147483647,1),none)),(3,.inl (((-2147483648),2147483647,1),none)),(4,.inl ((35,126,13),none)),(5,.inl ((9,9,0),none)),(6,.inl (((-2147483648),2147483647,1),none))],[],[((20,3),(9,12,1),none)]),(915,[]),0),
  (56,([(0,.inr (.inl [20])),(1,.inl ((1,1,1),none)),(2,.inl (((-2147483648),2147483647,1),some (.inr (18,0),some 0))),(3,.inl ((0,0,0),none)),(4,.inl ((21,21,13),none)),(5,.inl ((9,9,0),none)),(6,.inl (((-2147483648),2147483647,1),none))],[],[((19,13),(1,1,1),none),((19,21),((-2147483648),2147483647,1),none),((20,3),(8,12,1),none)]),(216,[]),0),
  (184,([(0,.inr (.inl [20])),(1,.inl ((1,1,1),none)),(2,.inl (((-2147483648),2147483647,1),some (.inr (18,0),some 0))),(3,.inl ((0,0,0),none)),(4,.inl ((22,22,13),none)),(5,.inl ((9,9,0),none)),(6,.inl (((-2147483648),2147483647,1),none))],[],[((19,13),(1,1,1),none),((20,3),(9,12,1),none)]),(173,[]),0),
  (56,([(0,.inr (.inl [20])),(1,.inl ((2,9,1),none)),(2,.inl (((-2147483648),2147483647,1),none)),(3,.inl (((-2147483648),2147483647,1),none)),(4,.inl ((35,126,13),none)),(5,.inl ((10,10,0),none)),(6,.inl (((-2147483648),2147483647,1),none))],[],[((20,3),(9,12,1),none)]),(908,[]),0),
  (184,([(0,.inr (.inl [20])),(1,.inl ((2,9,1),none)),(2,.inl (((-2147483648),2147483647,1),none)),(3,.inl (((-2147483648),2147483647,1),none)),(4,.inl ((36,127,13),none)),(5,.inl ((10,10,0),none)),(6,.inl (((-2147483648),2147483647,1),none))],[],[((20,3),(10,12,1),none)]),(833,[]),0),
  (56,([(0,.inr (.inl [20])),(1,.inl ((1,1,1),none)),(2,.inl (((-2147483648),2147483647,1),some (.inr (18,0),some 0))),(3,.inl ((0,0,0),none)),(4,.inl ((22,22,13),none)),(5,.inl ((10,10,0),none)),(6,.inl (((-2147483648),2147483647,1),none))],[],[((19,13),(1,1,1),none),((19,22),((-2147483648),2147483647,1),none),((20,3),(9,12,1),none)]),(166,[]),0),
  (184,([(0,.inr (.inl [20])),(1,.inl ((1,1,1),none)),(2,.inl (((-2147483648),2147483647,1),some (.inr (18,0),some 0))),(3,.inl ((0,0,0),none)),(4,.inl ((23,23,13),none)),(5,.inl ((10,10,0),none)),(6,.inl (((-2147483648),2147483647,1),none))],[],[((19,13),(1,1,1),none),((20,3),(10,12,1),none)]),(123,[]),0),
  (56,([(0,.inr (.inl [20])),(1,.inl ((2,9,1),none)),(2,.inl (((-2147483648),2147483647,1),none)),(3,.inl (((-2147483648),2147483647,1),none)),(4,.inl ((36,127,13),none)),(5,.inl ((11,11,0),none)),(6,.inl (((-2147483648),2147483647,1),none))],[],[((20,3),(10,12,1),none)]),(826,[]),0),
  (184,([(0,.inr (.inl [20])),(1,.inl ((2,9,1),none)),(2,.inl (((-2147483648),2147483647,1),none)),(3,.inl (((-2147483648),2147483647,1),none)),(4,.inl ((37,128,13),none)),(5,.inl ((11,11,0),none)),(6,.inl (((-2147483648),2147483647,1),none))],[],[((20,3),(11,12,1),none)]),(751,[]),0),
  (56,([(0,.inr (.inl [20])),(1,.inl ((1,1,1),none)),(2,.inl (((-2147483648),2147483647,1),some (.inr (18,0),some 0))),(3,.inl ((0,0,0),none)),(4,.inl ((23,23,13),none)),(5,.inl ((11,11,0),none)),(6,.inl (((-2147483648),2147483647,1),none))],[],[((19,13),(1,1,1),none),((19,23),((-2147483648),2147483647,1),none),((20,3),(10,12,1),none)]),(116,[]),0),
  (184,([(0,.inr (.inl [20])),(1,.inl ((1,1,1),none)),(2,.inl (((-2147483648),2147483647,1),some (.inr (18,0),some 0))),(3,.inl ((0,0,0),none)),(4,.inl ((24,24,13),none)),(5,.inl ((11,11,0),none)),(6,.inl (((-2147483648),2147483647,1),none))],[],[((19,13),(1,1,1),none),((20,3),(11,12,1),none)]),(73,[]),0),
  (56,([(0,.inr (.inl [20])),(1,.inl ((2,9,1),none)),(2,.inl (((-2147483648),2147483647,1),none)),(3,.inl (((-2147483648),2147483647,1),none)),(4,.inl ((37,128,13),none)),(5,.inl ((12,12,0),none)),(6,.inl (((-2147483648),2147483647,1),none))],[],[((20,3),(11,12,1),none)]),(744,[]),0),
  (184,([(0,.inr (.inl [20])),(1,.inl ((2,9,1),none)),(2,.inl (((-2147483648),2147483647,1),none)),(3,.inl (((-2147483648),2147483647,1),none)),(4,.inl ((38,129,13),none)),(5,.inl ((12,12,0),none)),(6,.inl (((-2147483648),2147483647,1),none))],[],[((20,3),(12,12,1),none)]),(669,[]),0),
  (56,([(0,.inr (.inl [20])),(1,.inl ((1,1,1),none)),(2,.inl (((-2147483648),2147483647,1),some (.inr (18,0),some 0))),(3,.inl ((0,0,0),none)),(4,.inl ((24,24,13),none)),(5,.inl ((12,12,0),none)),(6,.inl (((-2147483648),2147483647,1),none))],[],[((19,13),(1,1,1),none),((19,24),((-2147483648),2147483647,1),none),((20,3),(11,12,1),none)]),(66,[]),0),
  (184,([(0,.inr (.inl [20])),(1,.inl ((1,1,1),none)),(2,.inl (((-2147483648),2147483647,1),some (.inr (18,0),some 0))),(3,.inl ((0,0,0),none)),(4,.inl ((25,25,13),none)),(5,.inl ((12,12,0),none)),(6,.inl (((-2147483648),2147483647,1),none))],[],[((19,13),(1,1,1),none),((20,3),(12,12,1),none)]),(23,[]),0),
  (56,([(0,.inr (.inl [20])),(1,.inl ((2,9,1),none)),(2,.inl (((-2147483648),2147483647,1),none)),(3,.inl (((-2147483648),2147483647,1),none)),(4,.inl ((38,129,13),none)),(5,.inl ((13,13,0),none)),(6,.inl (((-2147483648),2147483647,1),none))],[],[((20,3),(12,12,1),none)]),(662,[]),0),
  (56,([(0,.inr (.inl [20])),(1,.inl ((1,1,1),none)),(2,.inl (((-2147483648),2147483647,1),some (.inr (18,0),some 0))),(3,.inl ((0,0,0),none)),(4,.inl ((25,25,13),none)),(5,.inl ((13,13,0),none)),(6,.inl (((-2147483648),2147483647,1),none))],[],[((19,13),(1,1,1),none),((19,25),((-2147483648),2147483647,1),none),((20,3),(12,12,1),none)]),(16,[]),0)]
set_option maxRecDepth 100000 in
theorem q179_ok : rf_chkB q179_P q179_U wLay q179_M ddX7_fillRow [(117,[0,1]),(120,[0,2]),(179,[0])] [] [0,56,184] 600 q179_N = true := by decide +kernel
