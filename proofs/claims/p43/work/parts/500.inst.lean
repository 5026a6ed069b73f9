/-- NearSpell.putBytes -/
def q0_M : rfM := ((⟨"NearSpell", "putBytes", "(I)V"⟩, prog_1_method_49_code, 3, none), (0,0), ([.inr (.inl [70]),.inl (((-2147483648),2147483647,1),none)],[]), [(0,0),(70,2)], [(none,[],[])])
def ddX11_putBytes : List (Nat × Instr × Nat) := [(0,.bipush 24,2),(2,.istore_n 2,1),(3,.iload_n 2,1),(4,.ifCond .lt 44,3),(7,.aload_n 0,1),(8,.getfield 100,3),(11,.aload_n 0,1),(12,.getfield 9,3),(15,.arraylength,1),(16,.if_icmp .ge 32,3),(19,.aload_n 0,1),(20,.getfield 9,3),(23,.aload_n 0,1),(24,.getfield 100,3),(27,.iload_n 1,1),(28,.iload_n 2,1),(29,.ishr,1),(30,.i2b,1),(31,.bastore,1),(32,.aload_n 0,1),(33,.dup,1),(34,.getfield 100,3),(37,.iconst 1,1),(38,.iadd,1),(39,.putfield 100,3),(42,.iinc 2 (-8),3),(45,.goto (-42),3),(48,.return_,1)]
def q0_P : rfP := (flX11,csX11,lcX11,spX11,[],[],[],[])
def q0_U : rfU := []
set_option maxHeartbeats 4000000 in
def q0_N : List rfB := [(0,([(0,.inr (.inl [70])),(1,.inl (((-2147483648),2147483647,1),none))],[],[]),(41628,[0]),0),
  (3,([(0,.inr (.inl [70])),(1,.inl (((-2147483648),2147483647,1),none)),(2,.inl (((-24),24,1),none))],[],[]),(41623,[(-26)]),0),
  (48,([(0,.inr (.inl [70])),(1,.inl (((-2147483648),2147483647,1),none)),(2,.inl (((-24),24,1),none))],[],[]),(0,[0]),0)]
set_option maxRecDepth 100000 in
theorem q0_ok : rf_chkB q0_P q0_U wLay q0_M ddX11_putBytes [] [.inr (70,1)] [0,3,48] 600 q0_N = true := by decide +kernel
/-- NearSpell.feed -/
def q1_M : rfM := ((⟨"NearSpell", "feed", "(IIIII)I"⟩, prog_1_method_2_code, 6, (some .int)), (1,22), ([.inr (.inl [70]),.inl (((-2147483648),2147483647,1),none),.inl (((-2147483648),2147483647,1),none),.inl (((-2147483648),2147483647,1),none),.inl (((-2147483648),2147483647,1),none),.inl (((-2147483648),2147483647,1),none)],[]), [(0,0),(70,2)], [(some (.inl (((-1),1600,1),none)),[],[])])
def ddX11_feed : List (Nat × Instr × Nat) := [(0,.aload_n 0,1),(1,.getfield 100,3),(4,.bipush 20,2),(6,.iadd,1),(7,.sipush 1600,3),(10,.if_icmp .le 5,3),(13,.iconst (-1),1),(14,.ireturn,1),(15,.aload_n 0,1),(16,.iload_n 1,1),(17,.invokevirtual 107,3),(20,.aload_n 0,1),(21,.iload_n 2,1),(22,.invokevirtual 107,3),(25,.aload_n 0,1),(26,.iload_n 3,1),(27,.invokevirtual 107,3),(30,.aload_n 0,1),(31,.iload 4,2),(33,.invokevirtual 107,3),(36,.aload_n 0,1),(37,.iload 5,2),(39,.invokevirtual 107,3),(42,.aload_n 0,1),(43,.getfield 100,3),(46,.ireturn,1)]
def q1_P : rfP := (flX11,csX11,lcX11,spX11,[q0_M],[],[(107,0,11)],[])
def q1_U : rfU := []
set_option maxHeartbeats 4000000 in
def q1_N : List rfB := [(0,([(0,.inr (.inl [70])),(1,.inl (((-2147483648),2147483647,1),none)),(2,.inl (((-2147483648),2147483647,1),none)),(3,.inl (((-2147483648),2147483647,1),none)),(4,.inl (((-2147483648),2147483647,1),none)),(5,.inl (((-2147483648),2147483647,1),none))],[],[]),(25,[]),0)]
set_option maxRecDepth 100000 in
theorem q1_ok : rf_chkB q1_P q1_U wLay q1_M ddX11_feed [(17,[0]),(22,[0]),(27,[0]),(33,[0]),(39,[0])] [] [0] 600 q1_N = true := by decide +kernel
/-- NearSpell.end -/
def q2_M : rfM := ((⟨"NearSpell", "end", "(I)I"⟩, prog_1_method_3_code, 2, (some .int)), (0,0), ([.inr (.inl [70]),.inl (((-2147483648),2147483647,1),none)],[]), [(70,2)], [(some (.inl (((-1),1600,1),none)),[],[])])
def ddX11_end : List (Nat × Instr × Nat) := [(0,.iload_n 1,1),(1,.ifCond .lt 11,3),(4,.iload_n 1,1),(5,.aload_n 0,1),(6,.getfield 100,3),(9,.if_icmp .le 5,3),(12,.iconst (-1),1),(13,.ireturn,1),(14,.aload_n 0,1),(15,.iload_n 1,1),(16,.putfield 100,3),(19,.iload_n 1,1),(20,.ireturn,1)]
def q2_P : rfP := (flX11,csX11,lcX11,spX11,[],[],[],[])
def q2_U : rfU := []
set_option maxHeartbeats 4000000 in
def q2_N : List rfB := [(0,([(0,.inr (.inl [70])),(1,.inl (((-2147483648),2147483647,1),none))],[],[]),(12,[]),0),
  (12,([(0,.inr (.inl [70])),(1,.inl (((-2147483648),2147483647,1),none))],[],[]),(1,[]),0)]
set_option maxRecDepth 100000 in
theorem q2_ok : rf_chkB q2_P q2_U wLay q2_M ddX11_end [] [] [0,12] 600 q2_N = true := by decide +kernel
/-- NearSpell.Book.reset -/
def q3_M : rfM := ((⟨"NearSpell$Book", "reset", "()V"⟩, prog_3_method_2_code, 1, none), (0,0), ([.inr (.inl [10])],[]), [(10,5),(10,6),(10,7),(10,8),(10,9),(10,10),(10,11),(10,12),(10,13)], [(none,[],[((10,4),(0,0,0),none),((10,5),(4,4,0),none),((10,6),(2,2,0),none),((10,7),(13,13,0),none),((10,8),(0,0,0),none),((10,9),(0,0,0),none),((10,10),(0,0,0),none),((10,11),(0,0,0),none),((10,12),(0,0,0),none)])])
def ddX1_reset : List (Nat × Instr × Nat) := [(0,.aload_n 0,1),(1,.iconst 0,1),(2,.putfield 27,3),(5,.aload_n 0,1),(6,.iconst 4,1),(7,.putfield 31,3),(10,.aload_n 0,1),(11,.iconst 2,1),(12,.putfield 34,3),(15,.aload_n 0,1),(16,.bipush 13,2),(18,.putfield 37,3),(21,.aload_n 0,1),(22,.iconst 0,1),(23,.putfield 40,3),(26,.aload_n 0,1),(27,.iconst 0,1),(28,.putfield 43,3),(31,.aload_n 0,1),(32,.iconst 0,1),(33,.putfield 46,3),(36,.aload_n 0,1),(37,.iconst 0,1),(38,.putfield 49,3),(41,.aload_n 0,1),(42,.iconst 0,1),(43,.putfield 52,3),(46,.return_,1)]
def q3_P : rfP := (flX1,csX1,lcX1,spX1,[],[],[],[])
def q3_U : rfU := []
set_option maxHeartbeats 4000000 in
def q3_N : List rfB := [(0,([(0,.inr (.inl [10]))],[],[]),(27,[]),0)]
set_option maxRecDepth 100000 in
theorem q3_ok : rf_chkB q3_P q3_U wLay q3_M ddX1_reset [] [] [0] 600 q3_N = true := by decide +kernel
/-- java/lang/Math.min -/
def q4_M : rfM := ((⟨"java/lang/Math", "min", "(II)I"⟩, prog_17_method_69_code, 2, (some .int)), (0,0), ([.inl ((0,1600,1),none),.inl ((1600,1600,0),none)],[]), [], [(some (.inl ((0,1600,1),none)),[],[])])
def ddJ9_min_7cf53 : List (Nat × Instr × Nat) := [(0,.iload_n 0,1),(1,.iload_n 1,1),(2,.if_icmp .gt 7,3),(5,.iload_n 0,1),(6,.goto 4,3),(9,.iload_n 1,1),(10,.ireturn,1)]
def q4_P : rfP := (flJ9,csJ9,lcJ9,spJ9,[],[],[],[])
def q4_U : rfU := []
set_option maxHeartbeats 4000000 in
def q4_N : List rfB := [(0,([(0,.inl ((0,1600,1),none)),(1,.inl ((1600,1600,0),none))],[],[]),(5,[]),0)]
set_option maxRecDepth 100000 in
theorem q4_ok : rf_chkB q4_P q4_U wLay q4_M ddJ9_min_7cf53 [] [] [0] 600 q4_N = true := by decide +kernel
/-- NearSpell.Reader.isLetter -/
def q5_M : rfM := ((⟨"NearSpell$Reader", "isLetter", "(I)Z"⟩, prog_8_method_19_code, 2, (some .boolean)), (0,0), ([.inr (.inl [11]),.inl ((0,1600,1),none)],[]), [], [(some (.inl ((1,1,0),none)),[(1,0,1599)],[((11,2),(1,1600,1),none)]),(some (.inl ((0,0,0),none)),[],[])])
def ddX6_isLetter : List (Nat × Instr × Nat) := [(0,.iload_n 1,1),(1,.aload_n 0,1),(2,.getfield 37,3),(5,.if_icmp .ge 29,3),(8,.aload_n 0,1),(9,.getfield 9,3),(12,.iload_n 1,1),(13,.baload,1),(14,.bipush 97,2),(16,.if_icmp .lt 18,3),(19,.aload_n 0,1),(20,.getfield 9,3),(23,.iload_n 1,1),(24,.baload,1),(25,.bipush 122,2),(27,.if_icmp .gt 7,3),(30,.iconst 1,1),(31,.goto 4,3),(34,.iconst 0,1),(35,.ireturn,1)]
def q5_P : rfP := (flX6,csX6,lcX6,spX6,[],[],[],[])
def q5_U : rfU := []
set_option maxHeartbeats 4000000 in
def q5_N : List rfB := [(0,([(0,.inr (.inl [11])),(1,.inl ((0,1600,1),none))],[],[]),(20,[]),0),
  (34,([(0,.inr (.inl [11])),(1,.inl ((0,1600,1),none))],[],[]),(1,[]),0)]
set_option maxRecDepth 100000 in
theorem q5_ok : rf_chkB q5_P q5_U wLay q5_M ddX6_isLetter [] [] [0,34] 600 q5_N = true := by decide +kernel
/-- NearSpell.Reader.fail -/
def q6_M : rfM := ((⟨"NearSpell$Reader", "fail", "(I)V"⟩, prog_8_method_3_code, 2, none), (0,0), ([.inr (.inl [11]),.inl ((1,1,0),none)],[]), [(11,6),(11,9),(11,10)], [(none,[],[((11,5),(17,17,0),none),((11,8),(1,4,1),none)])])
def ddX6_fail : List (Nat × Instr × Nat) := [(0,.aload_n 0,1),(1,.getfield 19,3),(4,.ifCond .ne 16,3),(7,.aload_n 0,1),(8,.iload_n 1,1),(9,.putfield 19,3),(12,.aload_n 0,1),(13,.aload_n 0,1),(14,.getfield 55,3),(17,.putfield 23,3),(20,.aload_n 0,1),(21,.bipush 17,2),(23,.putfield 49,3),(26,.return_,1)]
def q6_P : rfP := (flX6,csX6,lcX6,spX6,[],[],[],[])
def q6_U : rfU := []
set_option maxHeartbeats 4000000 in
def q6_N : List rfB := [(0,([(0,.inr (.inl [11])),(1,.inl ((1,1,0),none))],[],[]),(13,[]),0),
  (20,([(0,.inr (.inl [11])),(1,.inl ((1,1,0),none))],[],[((11,8),(1,4,1),none)]),(3,[]),0)]
set_option maxRecDepth 100000 in
theorem q6_ok : rf_chkB q6_P q6_U wLay q6_M ddX6_fail [] [] [0,20] 600 q6_N = true := by decide +kernel
/-- java/lang/String.charAt -/
def q7_M : rfM := ((⟨"java/lang/String", "charAt", "(I)C"⟩, prog_18_method_56_code, 2, (some .char)), (20,2000), ([.inr (.inr 2),.inl ((0,0,0),none)],[]), [], [(some (.inl ((0,65535,1),none)),[],[])])
/-- java/lang/String.charAt -/
def q8_M : rfM := ((⟨"java/lang/String", "charAt", "(I)C"⟩, prog_18_method_56_code, 2, (some .char)), (20,2000), ([.inr (.inr 2),.inl ((0,1,1),none)],[]), [], [(some (.inl ((0,65535,1),none)),[],[])])
/-- NearSpell.fault -/
def q9_M : rfM := ((⟨"NearSpell", "fault", "(I)I"⟩, prog_1_method_5_code, 2, (some .int)), (0,0), ([.inr (.inl [70]),.inl (((-2147483648),2147483647,1),none)],[]), [], [(some (.inl (((-1),1600,1),none)),[],[])])
def ddX11_fault : List (Nat × Instr × Nat) := [(0,.iload_n 1,1),(1,.ifCond .ne 11,3),(4,.aload_n 0,1),(5,.getfield 28,3),(8,.getfield 135,3),(11,.ireturn,1),(12,.iload_n 1,1),(13,.iconst 1,1),(14,.if_icmp .ne 13,3),(17,.aload_n 0,1),(18,.getfield 28,3),(21,.getfield 138,3),(24,.goto 4,3),(27,.iconst (-1),1),(28,.ireturn,1)]
def q9_P : rfP := (flX11,csX11,lcX11,spX11,[],[],[],[])
def q9_U : rfU := []
set_option maxHeartbeats 4000000 in
def q9_N : List rfB := [(0,([(0,.inr (.inl [70])),(1,.inl (((-2147483648),2147483647,1),none))],[],[]),(15,[]),0)]
set_option maxRecDepth 100000 in
theorem q9_ok : rf_chkB q9_P q9_U wLay q9_M ddX11_fault [] [] [0] 600 q9_N = true := by decide +kernel
/-- NearSpell.State.isEntry -/
def q10_M : rfM := ((⟨"NearSpell$State", "isEntry", "(I)Z"⟩, prog_10_method_6_code, 2, (some .boolean)), (0,0), ([.inr (.inl [13]),.inl (((-2147483648),2147483647,1),none)],[]), [], [(some (.inl ((1,1,0),none)),[(1,0,13)],[((12,34),(1,14,1),none)]),(some (.inl ((0,0,0),none)),[],[])])
def ddX8_isEntry : List (Nat × Instr × Nat) := [(0,.iload_n 1,1),(1,.ifCond .lt 31,3),(4,.iload_n 1,1),(5,.aload_n 0,1),(6,.getfield 11,3),(9,.bipush 34,2),(11,.iaload,1),(12,.if_icmp .ge 20,3),(15,.aload_n 0,1),(16,.getfield 11,3),(19,.bipush 14,2),(21,.iload_n 1,1),(22,.iadd,1),(23,.iaload,1),(24,.iconst (-1),1),(25,.if_icmp .eq 7,3),(28,.iconst 1,1),(29,.goto 4,3),(32,.iconst 0,1),(33,.ireturn,1)]
def q10_P : rfP := (flX8,csX8,lcX8,spX8,[],[],[],[])
def q10_U : rfU := []
set_option maxHeartbeats 4000000 in
def q10_N : List rfB := [(0,([(0,.inr (.inl [13])),(1,.inl (((-2147483648),2147483647,1),none))],[],[]),(20,[]),0),
  (32,([(0,.inr (.inl [13])),(1,.inl (((-2147483648),2147483647,1),none))],[],[]),(1,[]),0)]
set_option maxRecDepth 100000 in
theorem q10_ok : rf_chkB q10_P q10_U wLay q10_M ddX8_isEntry [] [] [0,32] 600 q10_N = true := by decide +kernel
/-- NearSpell.State.spellingOf -/
def q11_M : rfM := ((⟨"NearSpell$State", "spellingOf", "(I)I"⟩, prog_10_method_7_code, 2, (some .int)), (0,0), ([.inr (.inl [13]),.inl ((0,13,1),none)],[]), [], [(some (.inl (((-2147483648),2147483647,1),none)),[],[])])
def ddX8_spellingOf : List (Nat × Instr × Nat) := [(0,.iload_n 1,1),(1,.ifCond .lt 20,3),(4,.iload_n 1,1),(5,.bipush 14,2),(7,.if_icmp .ge 14,3),(10,.aload_n 0,1),(11,.getfield 11,3),(14,.iconst 0,1),(15,.iload_n 1,1),(16,.iadd,1),(17,.iaload,1),(18,.goto 4,3),(21,.iconst 0,1),(22,.ireturn,1)]
def q11_P : rfP := (flX8,csX8,lcX8,spX8,[],[],[],[])
def q11_U : rfU := []
set_option maxHeartbeats 4000000 in
def q11_N : List rfB := [(0,([(0,.inr (.inl [13])),(1,.inl ((0,13,1),none))],[],[]),(12,[]),0)]
set_option maxRecDepth 100000 in
theorem q11_ok : rf_chkB q11_P q11_U wLay q11_M ddX8_spellingOf [] [] [0] 600 q11_N = true := by decide +kernel
/-- NearSpell.lengthOf -/
def q12_M : rfM := ((⟨"NearSpell", "lengthOf", "(I)I"⟩, prog_1_method_53_code, 2, (some .int)), (0,0), ([.inl (((-2147483648),2147483647,1),none)],[]), [], [(some (.inl ((0,6,1),none)),[],[])])
def ddX11_lengthOf : List (Nat × Instr × Nat) := [(0,.iconst 0,1),(1,.istore_n 1,1),(2,.iload_n 1,1),(3,.bipush 6,2),(5,.if_icmp .ge 18,3),(8,.iload_n 0,1),(9,.getstatic 360,3),(12,.iload_n 1,1),(13,.iaload,1),(14,.if_icmp .lt 9,3),(17,.iinc 1 1,3),(20,.goto (-18),3),(23,.iload_n 1,1),(24,.ireturn,1)]
def q12_P : rfP := (flX11,csX11,lcX11,spX11,[],[],[],[])
def q12_U : rfU := []
set_option maxHeartbeats 4000000 in
def q12_N : List rfB := [(0,([(0,.inl (((-2147483648),2147483647,1),none))],[],[]),(80,[0]),0),
  (2,([(0,.inl (((-2147483648),2147483647,1),none)),(1,.inl ((0,6,1),none))],[],[]),(76,[(-11)]),0),
  (23,([(0,.inl (((-2147483648),2147483647,1),none)),(1,.inl ((0,6,1),none))],[],[]),(1,[0]),0)]
set_option maxRecDepth 100000 in
theorem q12_ok : rf_chkB q12_P q12_U wLay q12_M ddX11_lengthOf [] [.inl 1] [0,2,23] 600 q12_N = true := by decide +kernel
/-- NearSpell.State.usesOf -/
def q13_M : rfM := ((⟨"NearSpell$State", "usesOf", "(I)I"⟩, prog_10_method_8_code, 2, (some .int)), (0,0), ([.inr (.inl [13]),.inl ((0,13,1),none)],[]), [], [(some (.inl (((-2147483648),2147483647,1),none)),[],[])])
def ddX8_usesOf : List (Nat × Instr × Nat) := [(0,.iload_n 1,1),(1,.ifCond .lt 21,3),(4,.iload_n 1,1),(5,.bipush 14,2),(7,.if_icmp .ge 15,3),(10,.aload_n 0,1),(11,.getfield 11,3),(14,.bipush 14,2),(16,.iload_n 1,1),(17,.iadd,1),(18,.iaload,1),(19,.goto 4,3),(22,.iconst 0,1),(23,.ireturn,1)]
def q13_P : rfP := (flX8,csX8,lcX8,spX8,[],[],[],[])
def q13_U : rfU := []
set_option maxHeartbeats 4000000 in
def q13_N : List rfB := [(0,([(0,.inr (.inl [13])),(1,.inl ((0,13,1),none))],[],[]),(12,[]),0)]
set_option maxRecDepth 100000 in
theorem q13_ok : rf_chkB q13_P q13_U wLay q13_M ddX8_usesOf [] [] [0] 600 q13_N = true := by decide +kernel
/-- NearSpell.beginningOf -/
def q14_M : rfM := ((⟨"NearSpell", "beginningOf", "(II)I"⟩, prog_1_method_55_code, 3, (some .int)), (1,21), ([.inl (((-2147483648),2147483647,1),none),.inl ((1,6,1),none)],[]), [], [(some (.inl (((-2147483648),2147483647,1),none)),[],[])])
def ddX11_beginningOf : List (Nat × Instr × Nat) := [(0,.iload_n 0,1),(1,.invokestatic 148,3),(4,.iload_n 1,1),(5,.isub,1),(6,.istore_n 2,1),(7,.iload_n 2,1),(8,.ifCond .le 19,3),(11,.iload_n 2,1),(12,.bipush 6,2),(14,.if_icmp .gt 13,3),(17,.iload_n 0,1),(18,.getstatic 360,3),(21,.iload_n 2,1),(22,.iaload,1),(23,.idiv,1),(24,.goto 4,3),(27,.iload_n 0,1),(28,.ireturn,1)]
def q14_P : rfP := (flX11,csX11,lcX11,spX11,[q12_M],[(148,0)],[],[])
def q14_U : rfU := []
set_option maxHeartbeats 4000000 in
def q14_N : List rfB := [(0,([(0,.inl (((-2147483648),2147483647,1),none)),(1,.inl ((1,6,1),none))],[],[]),(17,[]),0),
  (28,([(0,.inl (((-2147483648),2147483647,1),none)),(1,.inl ((1,6,1),none)),(2,.inl (((-6),5,1),none))],[.inl (((-2147483648),2147483647,1),none)],[]),(0,[]),0)]
set_option maxRecDepth 100000 in
theorem q14_ok : rf_chkB q14_P q14_U wLay q14_M ddX11_beginningOf [(1,[0])] [] [0,28] 600 q14_N = true := by decide +kernel
/-- NearSpell.FormList.add -/
def q15_M : rfM := ((⟨"NearSpell$FormList", "add", "(I)V"⟩, prog_5_method_4_code, 4, none), (0,0), ([.inr (.inl [40]),.inl (((-2147483648),2147483647,1),none)],[]), [(39,0),(40,2)], [(none,[],[])])
def ddX3_add : List (Nat × Instr × Nat) := [(0,.aload_n 0,1),(1,.getfield 15,3),(4,.istore_n 2,1),(5,.iload_n 2,1),(6,.ifCond .le 21,3),(9,.aload_n 0,1),(10,.getfield 9,3),(13,.iload_n 2,1),(14,.iconst 1,1),(15,.isub,1),(16,.iaload,1),(17,.iload_n 1,1),(18,.if_icmp .le 9,3),(21,.iinc 2 (-1),3),(24,.goto (-19),3),(27,.iload_n 2,1),(28,.ifCond .le 15,3),(31,.aload_n 0,1),(32,.getfield 9,3),(35,.iload_n 2,1),(36,.iconst 1,1),(37,.isub,1),(38,.iaload,1),(39,.iload_n 1,1),(40,.if_icmp .eq 15,3),(43,.aload_n 0,1),(44,.getfield 15,3),(47,.aload_n 0,1),(48,.getfield 9,3),(51,.arraylength,1),(52,.if_icmp .lt 4,3),(55,.return_,1),(56,.aload_n 0,1),(57,.getfield 15,3),(60,.istore_n 3,1),(61,.iload_n 3,1),(62,.iload_n 2,1),(63,.if_icmp .le 23,3),(66,.aload_n 0,1),(67,.getfield 9,3),(70,.iload_n 3,1),(71,.aload_n 0,1),(72,.getfield 9,3),(75,.iload_n 3,1),(76,.iconst 1,1),(77,.isub,1),(78,.iaload,1),(79,.iastore,1),(80,.iinc 3 (-1),3),(83,.goto (-22),3),(86,.aload_n 0,1),(87,.getfield 9,3),(90,.iload_n 2,1),(91,.iload_n 1,1),(92,.iastore,1),(93,.aload_n 0,1),(94,.dup,1),(95,.getfield 15,3),(98,.iconst 1,1),(99,.iadd,1),(100,.putfield 15,3),(103,.return_,1)]
def q15_P : rfP := (flX3,csX3,lcX3,spX3,[],[],[],[])
def q15_U : rfU := [(.inr (40,1),[(0,21),(22,22)])]
set_option maxHeartbeats 4000000 in
def q15_N : List rfB := [(0,([(0,.inr (.inl [40])),(1,.inl (((-2147483648),2147483647,1),none))],[],[]),(992,[0,0]),1000000),
  (5,([(0,.inr (.inl [40])),(1,.inl (((-2147483648),2147483647,1),none)),(2,.inl ((0,21,1),none))],[],[((40,1),(0,21,1),none)]),(394,[13,0]),0),
  (5,([(0,.inr (.inl [40])),(1,.inl (((-2147483648),2147483647,1),none)),(2,.inl ((0,22,1),none))],[],[((40,1),(22,22,1),none)]),(700,[13,0]),0),
  (27,([(0,.inr (.inl [40])),(1,.inl (((-2147483648),2147483647,1),none)),(2,.inl ((0,21,1),none))],[],[((40,1),(0,21,1),none)]),(383,[0,0]),0),
  (27,([(0,.inr (.inl [40])),(1,.inl (((-2147483648),2147483647,1),none)),(2,.inl ((0,22,1),none))],[],[((40,1),(22,22,1),none)]),(689,[0,0]),0),
  (43,([(0,.inr (.inl [40])),(1,.inl (((-2147483648),2147483647,1),none)),(2,.inl ((0,21,1),none))],[],[((40,1),(0,21,1),none)]),(372,[0,0]),0),
  (43,([(0,.inr (.inl [40])),(1,.inl (((-2147483648),2147483647,1),none)),(2,.inl ((0,22,1),none))],[],[((40,1),(22,22,1),none)]),(679,[0,0]),0),
  (55,([(0,.inr (.inl [40])),(1,.inl (((-2147483648),2147483647,1),none)),(2,.inl ((1,21,1),none))],[],[((40,1),(0,21,1),none)]),(373,[0,0]),0),
  (55,([(0,.inr (.inl [40])),(1,.inl (((-2147483648),2147483647,1),none)),(2,.inl ((0,22,1),none))],[],[((40,1),(22,22,1),none)]),(673,[0,0]),0),
  (61,([(0,.inr (.inl [40])),(1,.inl (((-2147483648),2147483647,1),none)),(2,.inl ((0,21,1),none)),(3,.inl ((0,21,1),none))],[],[((40,1),(0,21,1),none)]),(25,[0,16]),0)]
set_option maxRecDepth 100000 in
theorem q15_ok : rf_chkB q15_P q15_U wLay q15_M ddX3_add [] [.inl 2,.inl 3] [0,5,27,43,55,61] 600 q15_N = true := by decide +kernel
/-- NearSpell.FormList.add -/
def q16_M : rfM := ((⟨"NearSpell$FormList", "add", "(I)V"⟩, prog_5_method_4_code, 4, none), (0,0), ([.inr (.inl [24]),.inl (((-2147483648),2147483647,1),none)],[]), [(23,0),(24,2)], [(none,[],[])])
def q16_P : rfP := (flX3,csX3,lcX3,spX3,[],[],[],[])
def q16_U : rfU := [(.inr (24,1),[(0,21),(22,22)])]
set_option maxHeartbeats 4000000 in
def q16_N : List rfB := [(0,([(0,.inr (.inl [24])),(1,.inl (((-2147483648),2147483647,1),none))],[],[]),(992,[0,0]),1000000),
  (5,([(0,.inr (.inl [24])),(1,.inl (((-2147483648),2147483647,1),none)),(2,.inl ((0,21,1),none))],[],[((24,1),(0,21,1),none)]),(394,[13,0]),0),
  (5,([(0,.inr (.inl [24])),(1,.inl (((-2147483648),2147483647,1),none)),(2,.inl ((0,22,1),none))],[],[((24,1),(22,22,1),none)]),(700,[13,0]),0),
  (27,([(0,.inr (.inl [24])),(1,.inl (((-2147483648),2147483647,1),none)),(2,.inl ((0,21,1),none))],[],[((24,1),(0,21,1),none)]),(383,[0,0]),0),
  (27,([(0,.inr (.inl [24])),(1,.inl (((-2147483648),2147483647,1),none)),(2,.inl ((0,22,1),none))],[],[((24,1),(22,22,1),none)]),(689,[0,0]),0),
  (43,([(0,.inr (.inl [24])),(1,.inl (((-2147483648),2147483647,1),none)),(2,.inl ((0,21,1),none))],[],[((24,1),(0,21,1),none)]),(372,[0,0]),0),
  (43,([(0,.inr (.inl [24])),(1,.inl (((-2147483648),2147483647,1),none)),(2,.inl ((0,22,1),none))],[],[((24,1),(22,22,1),none)]),(679,[0,0]),0),
  (55,([(0,.inr (.inl [24])),(1,.inl (((-2147483648),2147483647,1),none)),(2,.inl ((1,21,1),none))],[],[((24,1),(0,21,1),none)]),(373,[0,0]),0),
  (55,([(0,.inr (.inl [24])),(1,.inl (((-2147483648),2147483647,1),none)),(2,.inl ((0,22,1),none))],[],[((24,1),(22,22,1),none)]),(673,[0,0]),0),
  (61,([(0,.inr (.inl [24])),(1,.inl (((-2147483648),2147483647,1),none)),(2,.inl ((0,21,1),none)),(3,.inl ((0,21,1),none))],[],[((24,1),(0,21,1),none)]),(25,[0,16]),0)]
set_option maxRecDepth 100000 in
theorem q16_ok : rf_chkB q16_P q16_U wLay q16_M ddX3_add [] [.inl 2,.inl 3] [0,5,27,43,55,61] 600 q16_N = true := by decide +kernel
/-- NearSpell.FormList.add -/
def q17_M : rfM := ((⟨"NearSpell$FormList", "add", "(I)V"⟩, prog_5_method_4_code, 4, none), (0,0), ([.inr (.inl [34]),.inl (((-2147483648),2147483647,1),none)],[]), [(33,0),(34,2)], [(none,[],[])])
def q17_P : rfP := (flX3,csX3,lcX3,spX3,[],[],[],[])
def q17_U : rfU := [(.inr (34,1),[(0,21),(22,22)])]
set_option maxHeartbeats 4000000 in
def q17_N : List rfB := [(0,([(0,.inr (.inl [34])),(1,.inl (((-2147483648),2147483647,1),none))],[],[]),(992,[0,0]),1000000),
  (5,([(0,.inr (.inl [34])),(1,.inl (((-2147483648),2147483647,1),none)),(2,.inl ((0,22,1),none))],[],[((34,1),(22,22,1),none)]),(700,[13,0]),0),
  (5,([(0,.inr (.inl [34])),(1,.inl (((-2147483648),2147483647,1),none)),(2,.inl ((0,21,1),none))],[],[((34,1),(0,21,1),none)]),(394,[13,0]),0),
  (27,([(0,.inr (.inl [34])),(1,.inl (((-2147483648),2147483647,1),none)),(2,.inl ((0,21,1),none))],[],[((34,1),(0,21,1),none)]),(383,[0,0]),0),
  (27,([(0,.inr (.inl [34])),(1,.inl (((-2147483648),2147483647,1),none)),(2,.inl ((0,22,1),none))],[],[((34,1),(22,22,1),none)]),(689,[0,0]),0),
  (43,([(0,.inr (.inl [34])),(1,.inl (((-2147483648),2147483647,1),none)),(2,.inl ((0,21,1),none))],[],[((34,1),(0,21,1),none)]),(372,[0,0]),0),
  (43,([(0,.inr (.inl [34])),(1,.inl (((-2147483648),2147483647,1),none)),(2,.inl ((0,22,1),none))],[],[((34,1),(22,22,1),none)]),(679,[0,0]),0),
  (55,([(0,.inr (.inl [34])),(1,.inl (((-2147483648),2147483647,1),none)),(2,.inl ((1,21,1),none))],[],[((34,1),(0,21,1),none)]),(373,[0,0]),0),
  (55,([(0,.inr (.inl [34])),(1,.inl (((-2147483648),2147483647,1),none)),(2,.inl ((0,22,1),none))],[],[((34,1),(22,22,1),none)]),(673,[0,0]),0),
  (61,([(0,.inr (.inl [34])),(1,.inl (((-2147483648),2147483647,1),none)),(2,.inl ((0,21,1),none)),(3,.inl ((0,21,1),none))],[],[((34,1),(0,21,1),none)]),(25,[0,16]),0)]
set_option maxRecDepth 100000 in
theorem q17_ok : rf_chkB q17_P q17_U wLay q17_M ddX3_add [] [.inl 2,.inl 3] [0,5,27,43,55,61] 600 q17_N = true := by decide +kernel
/-- NearSpell.FormList.add -/
def q18_M : rfM := ((⟨"NearSpell$FormList", "add", "(I)V"⟩, prog_5_method_4_code, 4, none), (0,0), ([.inr (.inl [42]),.inl (((-2147483648),2147483647,1),none)],[]), [(41,0),(42,2)], [(none,[],[])])
def q18_P : rfP := (flX3,csX3,lcX3,spX3,[],[],[],[])
def q18_U : rfU := [(.inr (42,1),[(0,21),(22,22)])]
set_option maxHeartbeats 4000000 in
def q18_N : List rfB := [(0,([(0,.inr (.inl [42])),(1,.inl (((-2147483648),2147483647,1),none))],[],[]),(992,[0,0]),1000000),
  (5,([(0,.inr (.inl [42])),(1,.inl (((-2147483648),2147483647,1),none)),(2,.inl ((0,21,1),none))],[],[((42,1),(0,21,1),none)]),(394,[13,0]),0),
  (5,([(0,.inr (.inl [42])),(1,.inl (((-2147483648),2147483647,1),none)),(2,.inl ((0,22,1),none))],[],[((42,1),(22,22,1),none)]),(700,[13,0]),0),
  (27,([(0,.inr (.inl [42])),(1,.inl (((-2147483648),2147483647,1),none)),(2,.inl ((0,21,1),none))],[],[((42,1),(0,21,1),none)]),(383,[0,0]),0),
  (27,([(0,.inr (.inl [42])),(1,.inl (((-2147483648),2147483647,1),none)),(2,.inl ((0,22,1),none))],[],[((42,1),(22,22,1),none)]),(689,[0,0]),0),
  (43,([(0,.inr (.inl [42])),(1,.inl (((-2147483648),2147483647,1),none)),(2,.inl ((0,21,1),none))],[],[((42,1),(0,21,1),none)]),(372,[0,0]),0),
  (43,([(0,.inr (.inl [42])),(1,.inl (((-2147483648),2147483647,1),none)),(2,.inl ((0,22,1),none))],[],[((42,1),(22,22,1),none)]),(679,[0,0]),0),
  (55,([(0,.inr (.inl [42])),(1,.inl (((-2147483648),2147483647,1),none)),(2,.inl ((1,21,1),none))],[],[((42,1),(0,21,1),none)]),(373,[0,0]),0),
  (55,([(0,.inr (.inl [42])),(1,.inl (((-2147483648),2147483647,1),none)),(2,.inl ((0,22,1),none))],[],[((42,1),(22,22,1),none)]),(673,[0,0]),0),
  (61,([(0,.inr (.inl [42])),(1,.inl (((-2147483648),2147483647,1),none)),(2,.inl ((0,21,1),none)),(3,.inl ((0,21,1),none))],[],[((42,1),(0,21,1),none)]),(25,[0,16]),0)]
set_option maxRecDepth 100000 in
theorem q18_ok : rf_chkB q18_P q18_U wLay q18_M ddX3_add [] [.inl 2,.inl 3] [0,5,27,43,55,61] 600 q18_N = true := by decide +kernel
/-- NearSpell.FormList.add -/
def q19_M : rfM := ((⟨"NearSpell$FormList", "add", "(I)V"⟩, prog_5_method_4_code, 4, none), (0,0), ([.inr (.inl [32]),.inl (((-2147483648),2147483647,1),none)],[]), [(31,0),(32,2)], [(none,[],[])])
def q19_P : rfP := (flX3,csX3,lcX3,spX3,[],[],[],[])
def q19_U : rfU := [(.inr (32,1),[(0,21),(22,22)])]
set_option maxHeartbeats 4000000 in
def q19_N : List rfB := [(0,([(0,.inr (.inl [32])),(1,.inl (((-2147483648),2147483647,1),none))],[],[]),(992,[0,0]),1000000),
  (5,([(0,.inr (.inl [32])),(1,.inl (((-2147483648),2147483647,1),none)),(2,.inl ((0,22,1),none))],[],[((32,1),(22,22,1),none)]),(700,[13,0]),0),
  (5,([(0,.inr (.inl [32])),(1,.inl (((-2147483648),2147483647,1),none)),(2,.inl ((0,21,1),none))],[],[((32,1),(0,21,1),none)]),(394,[13,0]),0),
  (27,([(0,.inr (.inl [32])),(1,.inl (((-2147483648),2147483647,1),none)),(2,.inl ((0,21,1),none))],[],[((32,1),(0,21,1),none)]),(383,[0,0]),0),
  (27,([(0,.inr (.inl [32])),(1,.inl (((-2147483648),2147483647,1),none)),(2,.inl ((0,22,1),none))],[],[((32,1),(22,22,1),none)]),(689,[0,0]),0),
  (43,([(0,.inr (.inl [32])),(1,.inl (((-2147483648),2147483647,1),none)),(2,.inl ((0,21,1),none))],[],[((32,1),(0,21,1),none)]),(372,[0,0]),0),
  (43,([(0,.inr (.inl [32])),(1,.inl (((-2147483648),2147483647,1),none)),(2,.inl ((0,22,1),none))],[],[((32,1),(22,22,1),none)]),(679,[0,0]),0),
  (55,([(0,.inr (.inl [32])),(1,.inl (((-2147483648),2147483647,1),none)),(2,.inl ((1,21,1),none))],[],[((32,1),(0,21,1),none)]),(373,[0,0]),0),
  (55,([(0,.inr (.inl [32])),(1,.inl (((-2147483648),2147483647,1),none)),(2,.inl ((0,22,1),none))],[],[((32,1),(22,22,1),none)]),(673,[0,0]),0),
  (61,([(0,.inr (.inl [32])),(1,.inl (((-2147483648),2147483647,1),none)),(2,.inl ((0,21,1),none)),(3,.inl ((0,21,1),none))],[],[((32,1),(0,21,1),none)]),(25,[0,16]),0)]
set_option maxRecDepth 100000 in
theorem q19_ok : rf_chkB q19_P q19_U wLay q19_M ddX3_add [] [.inl 2,.inl 3] [0,5,27,43,55,61] 600 q19_N = true := by decide +kernel
/-- NearSpell.FormList.add -/
def q20_M : rfM := ((⟨"NearSpell$FormList", "add", "(I)V"⟩, prog_5_method_4_code, 4, none), (0,0), ([.inr (.inl [26]),.inl (((-2147483648),2147483647,1),none)],[]), [(25,0),(26,2)], [(none,[],[])])
def q20_P : rfP := (flX3,csX3,lcX3,spX3,[],[],[],[])
def q20_U : rfU := [(.inr (26,1),[(0,21),(22,22)])]
set_option maxHeartbeats 4000000 in
def q20_N : List rfB := [(0,([(0,.inr (.inl [26])),(1,.inl (((-2147483648),2147483647,1),none))],[],[]),(992,[0,0]),1000000),
  (5,([(0,.inr (.inl [26])),(1,.inl (((-2147483648),2147483647,1),none)),(2,.inl ((0,21,1),none))],[],[((26,1),(0,21,1),none)]),(394,[13,0]),0),
  (5,([(0,.inr (.inl [26])),(1,.inl (((-2147483648),2147483647,1),none)),(2,.inl ((0,22,1),none))],[],[((26,1),(22,22,1),none)]),(700,[13,0]),0),
  (27,([(0,.inr (.inl [26])),(1,.inl (((-2147483648),2147483647,1),none)),(2,.inl ((0,21,1),none))],[],[((26,1),(0,21,1),none)]),(383,[0,0]),0),
  (27,([(0,.inr (.inl [26])),(1,.inl (((-2147483648),2147483647,1),none)),(2,.inl ((0,22,1),none))],[],[((26,1),(22,22,1),none)]),(689,[0,0]),0),
  (43,([(0,.inr (.inl [26])),(1,.inl (((-2147483648),2147483647,1),none)),(2,.inl ((0,21,1),none))],[],[((26,1),(0,21,1),none)]),(372,[0,0]),0),
  (43,([(0,.inr (.inl [26])),(1,.inl (((-2147483648),2147483647,1),none)),(2,.inl ((0,22,1),none))],[],[((26,1),(22,22,1),none)]),(679,[0,0]),0),
  (55,([(0,.inr (.inl [26])),(1,.inl (((-2147483648),2147483647,1),none)),(2,.inl ((1,21,1),none))],[],[((26,1),(0,21,1),none)]),(373,[0,0]),0),
  (55,([(0,.inr (.inl [26])),(1,.inl (((-2147483648),2147483647,1),none)),(2,.inl ((0,22,1),none))],[],[((26,1),(22,22,1),none)]),(673,[0,0]),0),
  (61,([(0,.inr (.inl [26])),(1,.inl (((-2147483648),2147483647,1),none)),(2,.inl ((0,21,1),none)),(3,.inl ((0,21,1),none))],[],[((26,1),(0,21,1),none)]),(25,[0,16]),0)]
set_option maxRecDepth 100000 in
theorem q20_ok : rf_chkB q20_P q20_U wLay q20_M ddX3_add [] [.inl 2,.inl 3] [0,5,27,43,55,61] 600 q20_N = true := by decide +kernel
/-- NearSpell.FormList.add -/
def q21_M : rfM := ((⟨"NearSpell$FormList", "add", "(I)V"⟩, prog_5_method_4_code, 4, none), (0,0), ([.inr (.inl [44]),.inl (((-2147483648),2147483647,1),none)],[]), [(43,0),(44,2)], [(none,[],[])])
def q21_P : rfP := (flX3,csX3,lcX3,spX3,[],[],[],[])
def q21_U : rfU := [(.inr (44,1),[(0,21),(22,22)])]
set_option maxHeartbeats 4000000 in
def q21_N : List rfB := [(0,([(0,.inr (.inl [44])),(1,.inl (((-2147483648),2147483647,1),none))],[],[]),(992,[0,0]),1000000),
  (5,([(0,.inr (.inl [44])),(1,.inl (((-2147483648),2147483647,1),none)),(2,.inl ((0,21,1),none))],[],[((44,1),(0,21,1),none)]),(394,[13,0]),0),
  (5,([(0,.inr (.inl [44])),(1,.inl (((-2147483648),2147483647,1),none)),(2,.inl ((0,22,1),none))],[],[((44,1),(22,22,1),none)]),(700,[13,0]),0),
  (27,([(0,.inr (.inl [44])),(1,.inl (((-2147483648),2147483647,1),none)),(2,.inl ((0,21,1),none))],[],[((44,1),(0,21,1),none)]),(383,[0,0]),0),
  (27,([(0,.inr (.inl [44])),(1,.inl (((-2147483648),2147483647,1),none)),(2,.inl ((0,22,1),none))],[],[((44,1),(22,22,1),none)]),(689,[0,0]),0),
  (43,([(0,.inr (.inl [44])),(1,.inl (((-2147483648),2147483647,1),none)),(2,.inl ((0,21,1),none))],[],[((44,1),(0,21,1),none)]),(372,[0,0]),0),
  (43,([(0,.inr (.inl [44])),(1,.inl (((-2147483648),2147483647,1),none)),(2,.inl ((0,22,1),none))],[],[((44,1),(22,22,1),none)]),(679,[0,0]),0),
  (55,([(0,.inr (.inl [44])),(1,.inl (((-2147483648),2147483647,1),none)),(2,.inl ((1,21,1),none))],[],[((44,1),(0,21,1),none)]),(373,[0,0]),0),
  (55,([(0,.inr (.inl [44])),(1,.inl (((-2147483648),2147483647,1),none)),(2,.inl ((0,22,1),none))],[],[((44,1),(22,22,1),none)]),(673,[0,0]),0),
  (61,([(0,.inr (.inl [44])),(1,.inl (((-2147483648),2147483647,1),none)),(2,.inl ((0,21,1),none)),(3,.inl ((0,21,1),none))],[],[((44,1),(0,21,1),none)]),(25,[0,16]),0)]
set_option maxRecDepth 100000 in
theorem q21_ok : rf_chkB q21_P q21_U wLay q21_M ddX3_add [] [.inl 2,.inl 3] [0,5,27,43,55,61] 600 q21_N = true := by decide +kernel
/-- NearSpell.FormList.add -/
def q22_M : rfM := ((⟨"NearSpell$FormList", "add", "(I)V"⟩, prog_5_method_4_code, 4, none), (0,0), ([.inr (.inl [22]),.inl (((-2147483648),2147483647,1),none)],[]), [(21,0),(22,2)], [(none,[],[])])
def q22_P : rfP := (flX3,csX3,lcX3,spX3,[],[],[],[])
def q22_U : rfU := [(.inr (22,1),[(0,21),(22,22)])]
set_option maxHeartbeats 4000000 in
def q22_N : List rfB := [(0,([(0,.inr (.inl [22])),(1,.inl (((-2147483648),2147483647,1),none))],[],[]),(992,[0,0]),1000000),
  (5,([(0,.inr (.inl [22])),(1,.inl (((-2147483648),2147483647,1),none)),(2,.inl ((0,21,1),none))],[],[((22,1),(0,21,1),none)]),(394,[13,0]),0),
  (5,([(0,.inr (.inl [22])),(1,.inl (((-2147483648),2147483647,1),none)),(2,.inl ((0,22,1),none))],[],[((22,1),(22,22,1),none)]),(700,[13,0]),0),
  (27,([(0,.inr (.inl [22])),(1,.inl (((-2147483648),2147483647,1),none)),(2,.inl ((0,21,1),none))],[],[((22,1),(0,21,1),none)]),(383,[0,0]),0),
  (27,([(0,.inr (.inl [22])),(1,.inl (((-2147483648),2147483647,1),none)),(2,.inl ((0,22,1),none))],[],[((22,1),(22,22,1),none)]),(689,[0,0]),0),
  (43,([(0,.inr (.inl [22])),(1,.inl (((-2147483648),2147483647,1),none)),(2,.inl ((0,21,1),none))],[],[((22,1),(0,21,1),none)]),(372,[0,0]),0),
  (43,([(0,.inr (.inl [22])),(1,.inl (((-2147483648),2147483647,1),none)),(2,.inl ((0,22,1),none))],[],[((22,1),(22,22,1),none)]),(679,[0,0]),0),
  (55,([(0,.inr (.inl [22])),(1,.inl (((-2147483648),2147483647,1),none)),(2,.inl ((1,21,1),none))],[],[((22,1),(0,21,1),none)]),(373,[0,0]),0),
  (55,([(0,.inr (.inl [22])),(1,.inl (((-2147483648),2147483647,1),none)),(2,.inl ((0,22,1),none))],[],[((22,1),(22,22,1),none)]),(673,[0,0]),0),
  (61,([(0,.inr (.inl [22])),(1,.inl (((-2147483648),2147483647,1),none)),(2,.inl ((0,21,1),none)),(3,.inl ((0,21,1),none))],[],[((22,1),(0,21,1),none)]),(25,[0,16]),0)]
set_option maxRecDepth 100000 in
theorem q22_ok : rf_chkB q22_P q22_U wLay q22_M ddX3_add [] [.inl 2,.inl 3] [0,5,27,43,55,61] 600 q22_N = true := by decide +kernel
/-- NearSpell.FormList.add -/
def q23_M : rfM := ((⟨"NearSpell$FormList", "add", "(I)V"⟩, prog_5_method_4_code, 4, none), (0,0), ([.inr (.inl [46]),.inl (((-2147483648),2147483647,1),none)],[]), [(45,0),(46,2)], [(none,[],[])])
def q23_P : rfP := (flX3,csX3,lcX3,spX3,[],[],[],[])
def q23_U : rfU := [(.inr (46,1),[(0,21),(22,22)])]
set_option maxHeartbeats 4000000 in
def q23_N : List rfB := [(0,([(0,.inr (.inl [46])),(1,.inl (((-2147483648),2147483647,1),none))],[],[]),(992,[0,0]),1000000),
  (5,([(0,.inr (.inl [46])),(1,.inl (((-2147483648),2147483647,1),none)),(2,.inl ((0,21,1),none))],[],[((46,1),(0,21,1),none)]),(394,[13,0]),0),
  (5,([(0,.inr (.inl [46])),(1,.inl (((-2147483648),2147483647,1),none)),(2,.inl ((0,22,1),none))],[],[((46,1),(22,22,1),none)]),(700,[13,0]),0),
  (27,([(0,.inr (.inl [46])),(1,.inl (((-2147483648),2147483647,1),none)),(2,.inl ((0,21,1),none))],[],[((46,1),(0,21,1),none)]),(383,[0,0]),0),
  (27,([(0,.inr (.inl [46])),(1,.inl (((-2147483648),2147483647,1),none)),(2,.inl ((0,22,1),none))],[],[((46,1),(22,22,1),none)]),(689,[0,0]),0),
  (43,([(0,.inr (.inl [46])),(1,.inl (((-2147483648),2147483647,1),none)),(2,.inl ((0,21,1),none))],[],[((46,1),(0,21,1),none)]),(372,[0,0]),0),
  (43,([(0,.inr (.inl [46])),(1,.inl (((-2147483648),2147483647,1),none)),(2,.inl ((0,22,1),none))],[],[((46,1),(22,22,1),none)]),(679,[0,0]),0),
  (55,([(0,.inr (.inl [46])),(1,.inl (((-2147483648),2147483647,1),none)),(2,.inl ((1,21,1),none))],[],[((46,1),(0,21,1),none)]),(373,[0,0]),0),
  (55,([(0,.inr (.inl [46])),(1,.inl (((-2147483648),2147483647,1),none)),(2,.inl ((0,22,1),none))],[],[((46,1),(22,22,1),none)]),(673,[0,0]),0),
  (61,([(0,.inr (.inl [46])),(1,.inl (((-2147483648),2147483647,1),none)),(2,.inl ((0,21,1),none)),(3,.inl ((0,21,1),none))],[],[((46,1),(0,21,1),none)]),(25,[0,16]),0)]
set_option maxRecDepth 100000 in
theorem q23_ok : rf_chkB q23_P q23_U wLay q23_M ddX3_add [] [.inl 2,.inl 3] [0,5,27,43,55,61] 600 q23_N = true := by decide +kernel
/-- NearSpell.FormList.add -/
def q24_M : rfM := ((⟨"NearSpell$FormList", "add", "(I)V"⟩, prog_5_method_4_code, 4, none), (0,0), ([.inr (.inl [48]),.inl (((-2147483648),2147483647,1),none)],[]), [(47,0),(48,2)], [(none,[],[])])
def q24_P : rfP := (flX3,csX3,lcX3,spX3,[],[],[],[])
def q24_U : rfU := [(.inr (48,1),[(0,21),(22,22)])]
set_option maxHeartbeats 4000000 in
def q24_N : List rfB := [(0,([(0,.inr (.inl [48])),(1,.inl (((-2147483648),2147483647,1),none))],[],[]),(992,[0,0]),1000000),
  (5,([(0,.inr (.inl [48])),(1,.inl (((-2147483648),2147483647,1),none)),(2,.inl ((0,22,1),none))],[],[((48,1),(22,22,1),none)]),(700,[13,0]),0),
  (5,([(0,.inr (.inl [48])),(1,.inl (((-2147483648),2147483647,1),none)),(2,.inl ((0,21,1),none))],[],[((48,1),(0,21,1),none)]),(394,[13,0]),0),
  (27,([(0,.inr (.inl [48])),(1,.inl (((-2147483648),2147483647,1),none)),(2,.inl ((0,21,1),none))],[],[((48,1),(0,21,1),none)]),(383,[0,0]),0),
  (27,([(0,.inr (.inl [48])),(1,.inl (((-2147483648),2147483647,1),none)),(2,.inl ((0,22,1),none))],[],[((48,1),(22,22,1),none)]),(689,[0,0]),0),
  (43,([(0,.inr (.inl [48])),(1,.inl (((-2147483648),2147483647,1),none)),(2,.inl ((0,21,1),none))],[],[((48,1),(0,21,1),none)]),(372,[0,0]),0),
  (43,([(0,.inr (.inl [48])),(1,.inl (((-2147483648),2147483647,1),none)),(2,.inl ((0,22,1),none))],[],[((48,1),(22,22,1),none)]),(679,[0,0]),0),
  (55,([(0,.inr (.inl [48])),(1,.inl (((-2147483648),2147483647,1),none)),(2,.inl ((1,21,1),none))],[],[((48,1),(0,21,1),none)]),(373,[0,0]),0),
  (55,([(0,.inr (.inl [48])),(1,.inl (((-2147483648),2147483647,1),none)),(2,.inl ((0,22,1),none))],[],[((48,1),(22,22,1),none)]),(673,[0,0]),0),
  (61,([(0,.inr (.inl [48])),(1,.inl (((-2147483648),2147483647,1),none)),(2,.inl ((0,21,1),none)),(3,.inl ((0,21,1),none))],[],[((48,1),(0,21,1),none)]),(25,[0,16]),0)]
set_option maxRecDepth 100000 in
theorem q24_ok : rf_chkB q24_P q24_U wLay q24_M ddX3_add [] [.inl 2,.inl 3] [0,5,27,43,55,61] 600 q24_N = true := by decide +kernel
/-- NearSpell.FormList.add -/
def q25_M : rfM := ((⟨"NearSpell$FormList", "add", "(I)V"⟩, prog_5_method_4_code, 4, none), (0,0), ([.inr (.inl [38]),.inl (((-2147483648),2147483647,1),none)],[]), [(37,0),(38,2)], [(none,[],[])])
def q25_P : rfP := (flX3,csX3,lcX3,spX3,[],[],[],[])
def q25_U : rfU := [(.inr (38,1),[(0,21),(22,22)])]
set_option maxHeartbeats 4000000 in
def q25_N : List rfB := [(0,([(0,.inr (.inl [38])),(1,.inl (((-2147483648),2147483647,1),none))],[],[]),(992,[0,0]),1000000),
  (5,([(0,.inr (.inl [38])),(1,.inl (((-2147483648),2147483647,1),none)),(2,.inl ((0,21,1),none))],[],[((38,1),(0,21,1),none)]),(394,[13,0]),0),
  (5,([(0,.inr (.inl [38])),(1,.inl (((-2147483648),2147483647,1),none)),(2,.inl ((0,22,1),none))],[],[((38,1),(22,22,1),none)]),(700,[13,0]),0),
  (27,([(0,.inr (.inl [38])),(1,.inl (((-2147483648),2147483647,1),none)),(2,.inl ((0,21,1),none))],[],[((38,1),(0,21,1),none)]),(383,[0,0]),0),
  (27,([(0,.inr (.inl [38])),(1,.inl (((-2147483648),2147483647,1),none)),(2,.inl ((0,22,1),none))],[],[((38,1),(22,22,1),none)]),(689,[0,0]),0),
  (43,([(0,.inr (.inl [38])),(1,.inl (((-2147483648),2147483647,1),none)),(2,.inl ((0,21,1),none))],[],[((38,1),(0,21,1),none)]),(372,[0,0]),0),
  (43,([(0,.inr (.inl [38])),(1,.inl (((-2147483648),2147483647,1),none)),(2,.inl ((0,22,1),none))],[],[((38,1),(22,22,1),none)]),(679,[0,0]),0),
  (55,([(0,.inr (.inl [38])),(1,.inl (((-2147483648),2147483647,1),none)),(2,.inl ((1,21,1),none))],[],[((38,1),(0,21,1),none)]),(373,[0,0]),0),
  (55,([(0,.inr (.inl [38])),(1,.inl (((-2147483648),2147483647,1),none)),(2,.inl ((0,22,1),none))],[],[((38,1),(22,22,1),none)]),(673,[0,0]),0),
  (61,([(0,.inr (.inl [38])),(1,.inl (((-2147483648),2147483647,1),none)),(2,.inl ((0,21,1),none)),(3,.inl ((0,21,1),none))],[],[((38,1),(0,21,1),none)]),(25,[0,16]),0)]
set_option maxRecDepth 100000 in
theorem q25_ok : rf_chkB q25_P q25_U wLay q25_M ddX3_add [] [.inl 2,.inl 3] [0,5,27,43,55,61] 600 q25_N = true := by decide +kernel
/-- NearSpell.FormList.add -/
def q26_M : rfM := ((⟨"NearSpell$FormList", "add", "(I)V"⟩, prog_5_method_4_code, 4, none), (0,0), ([.inr (.inl [30]),.inl (((-2147483648),2147483647,1),none)],[]), [(29,0),(30,2)], [(none,[],[])])
def q26_P : rfP := (flX3,csX3,lcX3,spX3,[],[],[],[])
def q26_U : rfU := [(.inr (30,1),[(0,21),(22,22)])]
set_option maxHeartbeats 4000000 in
def q26_N : List rfB := [(0,([(0,.inr (.inl [30])),(1,.inl (((-2147483648),2147483647,1),none))],[],[]),(992,[0,0]),1000000),
  (5,([(0,.inr (.inl [30])),(1,.inl (((-2147483648),2147483647,1),none)),(2,.inl ((0,21,1),none))],[],[((30,1),(0,21,1),none)]),(394,[13,0]),0),
  (5,([(0,.inr (.inl [30])),(1,.inl (((-2147483648),2147483647,1),none)),(2,.inl ((0,22,1),none))],[],[((30,1),(22,22,1),none)]),(700,[13,0]),0),
  (27,([(0,.inr (.inl [30])),(1,.inl (((-2147483648),2147483647,1),none)),(2,.inl ((0,21,1),none))],[],[((30,1),(0,21,1),none)]),(383,[0,0]),0),
  (27,([(0,.inr (.inl [30])),(1,.inl (((-2147483648),2147483647,1),none)),(2,.inl ((0,22,1),none))],[],[((30,1),(22,22,1),none)]),(689,[0,0]),0),
  (43,([(0,.inr (.inl [30])),(1,.inl (((-2147483648),2147483647,1),none)),(2,.inl ((0,21,1),none))],[],[((30,1),(0,21,1),none)]),(372,[0,0]),0),
  (43,([(0,.inr (.inl [30])),(1,.inl (((-2147483648),2147483647,1),none)),(2,.inl ((0,22,1),none))],[],[((30,1),(22,22,1),none)]),(679,[0,0]),0),
  (55,([(0,.inr (.inl [30])),(1,.inl (((-2147483648),2147483647,1),none)),(2,.inl ((1,21,1),none))],[],[((30,1),(0,21,1),none)]),(373,[0,0]),0),
  (55,([(0,.inr (.inl [30])),(1,.inl (((-2147483648),2147483647,1),none)),(2,.inl ((0,22,1),none))],[],[((30,1),(22,22,1),none)]),(673,[0,0]),0),
  (61,([(0,.inr (.inl [30])),(1,.inl (((-2147483648),2147483647,1),none)),(2,.inl ((0,21,1),none)),(3,.inl ((0,21,1),none))],[],[((30,1),(0,21,1),none)]),(25,[0,16]),0)]
set_option maxRecDepth 100000 in
theorem q26_ok : rf_chkB q26_P q26_U wLay q26_M ddX3_add [] [.inl 2,.inl 3] [0,5,27,43,55,61] 600 q26_N = true := by decide +kernel
/-- NearSpell.FormList.add -/
def q27_M : rfM := ((⟨"NearSpell$FormList", "add", "(I)V"⟩, prog_5_method_4_code, 4, none), (0,0), ([.inr (.inl [28]),.inl (((-2147483648),2147483647,1),none)],[]), [(27,0),(28,2)], [(none,[],[])])
def q27_P : rfP := (flX3,csX3,lcX3,spX3,[],[],[],[])
def q27_U : rfU := [(.inr (28,1),[(0,21),(22,22)])]
set_option maxHeartbeats 4000000 in
def q27_N : List rfB := [(0,([(0,.inr (.inl [28])),(1,.inl (((-2147483648),2147483647,1),none))],[],[]),(992,[0,0]),1000000),
  (5,([(0,.inr (.inl [28])),(1,.inl (((-2147483648),2147483647,1),none)),(2,.inl ((0,22,1),none))],[],[((28,1),(22,22,1),none)]),(700,[13,0]),0),
  (5,([(0,.inr (.inl [28])),(1,.inl (((-2147483648),2147483647,1),none)),(2,.inl ((0,21,1),none))],[],[((28,1),(0,21,1),none)]),(394,[13,0]),0),
  (27,([(0,.inr (.inl [28])),(1,.inl (((-2147483648),2147483647,1),none)),(2,.inl ((0,21,1),none))],[],[((28,1),(0,21,1),none)]),(383,[0,0]),0),
  (27,([(0,.inr (.inl [28])),(1,.inl (((-2147483648),2147483647,1),none)),(2,.inl ((0,22,1),none))],[],[((28,1),(22,22,1),none)]),(689,[0,0]),0),
  (43,([(0,.inr (.inl [28])),(1,.inl (((-2147483648),2147483647,1),none)),(2,.inl ((0,21,1),none))],[],[((28,1),(0,21,1),none)]),(372,[0,0]),0),
  (43,([(0,.inr (.inl [28])),(1,.inl (((-2147483648),2147483647,1),none)),(2,.inl ((0,22,1),none))],[],[((28,1),(22,22,1),none)]),(679,[0,0]),0),
  (55,([(0,.inr (.inl [28])),(1,.inl (((-2147483648),2147483647,1),none)),(2,.inl ((1,21,1),none))],[],[((28,1),(0,21,1),none)]),(373,[0,0]),0),
  (55,([(0,.inr (.inl [28])),(1,.inl (((-2147483648),2147483647,1),none)),(2,.inl ((0,22,1),none))],[],[((28,1),(22,22,1),none)]),(673,[0,0]),0),
  (61,([(0,.inr (.inl [28])),(1,.inl (((-2147483648),2147483647,1),none)),(2,.inl ((0,21,1),none)),(3,.inl ((0,21,1),none))],[],[((28,1),(0,21,1),none)]),(25,[0,16]),0)]
set_option maxRecDepth 100000 in
theorem q27_ok : rf_chkB q27_P q27_U wLay q27_M ddX3_add [] [.inl 2,.inl 3] [0,5,27,43,55,61] 600 q27_N = true := by decide +kernel
/-- NearSpell.FormList.add -/
def q28_M : rfM := ((⟨"NearSpell$FormList", "add", "(I)V"⟩, prog_5_method_4_code, 4, none), (0,0), ([.inr (.inl [36]),.inl (((-2147483648),2147483647,1),none)],[]), [(35,0),(36,2)], [(none,[],[])])
def q28_P : rfP := (flX3,csX3,lcX3,spX3,[],[],[],[])
def q28_U : rfU := [(.inr (36,1),[(0,21),(22,22)])]
set_option maxHeartbeats 4000000 in
def q28_N : List rfB := [(0,([(0,.inr (.inl [36])),(1,.inl (((-2147483648),2147483647,1),none))],[],[]),(992,[0,0]),1000000),
  (5,([(0,.inr (.inl [36])),(1,.inl (((-2147483648),2147483647,1),none)),(2,.inl ((0,22,1),none))],[],[((36,1),(22,22,1),none)]),(700,[13,0]),0),
  (5,([(0,.inr (.inl [36])),(1,.inl (((-2147483648),2147483647,1),none)),(2,.inl ((0,21,1),none))],[],[((36,1),(0,21,1),none)]),(394,[13,0]),0),
  (27,([(0,.inr (.inl [36])),(1,.inl (((-2147483648),2147483647,1),none)),(2,.inl ((0,21,1),none))],[],[((36,1),(0,21,1),none)]),(383,[0,0]),0),
  (27,([(0,.inr (.inl [36])),(1,.inl (((-2147483648),2147483647,1),none)),(2,.inl ((0,22,1),none))],[],[((36,1),(22,22,1),none)]),(689,[0,0]),0),
  (43,([(0,.inr (.inl [36])),(1,.inl (((-2147483648),2147483647,1),none)),(2,.inl ((0,21,1),none))],[],[((36,1),(0,21,1),none)]),(372,[0,0]),0),
  (43,([(0,.inr (.inl [36])),(1,.inl (((-2147483648),2147483647,1),none)),(2,.inl ((0,22,1),none))],[],[((36,1),(22,22,1),none)]),(679,[0,0]),0),
  (55,([(0,.inr (.inl [36])),(1,.inl (((-2147483648),2147483647,1),none)),(2,.inl ((1,21,1),none))],[],[((36,1),(0,21,1),none)]),(373,[0,0]),0),
  (55,([(0,.inr (.inl [36])),(1,.inl (((-2147483648),2147483647,1),none)),(2,.inl ((0,22,1),none))],[],[((36,1),(22,22,1),none)]),(673,[0,0]),0),
  (61,([(0,.inr (.inl [36])),(1,.inl (((-2147483648),2147483647,1),none)),(2,.inl ((0,21,1),none)),(3,.inl ((0,21,1),none))],[],[((36,1),(0,21,1),none)]),(25,[0,16]),0)]
set_option maxRecDepth 100000 in
theorem q28_ok : rf_chkB q28_P q28_U wLay q28_M ddX3_add [] [.inl 2,.inl 3] [0,5,27,43,55,61] 600 q28_N = true := by decide +kernel
/-- NearSpell.without -/
def q29_M : rfM := ((⟨"NearSpell", "without", "(II)I"⟩, prog_1_method_56_code, 2, (some .int)), (0,0), ([.inl (((-2147483648),2147483647,1),none),.inl ((0,0,0),none)],[]), [], [(some (.inl (((-2147483648),2147483647,1),none)),[],[])])
def ddX11_without : List (Nat × Instr × Nat) := [(0,.iload_n 1,1),(1,.ifCond .lt 9,3),(4,.iload_n 1,1),(5,.bipush 6,2),(7,.if_icmp .lt 5,3),(10,.iload_n 0,1),(11,.ireturn,1),(12,.iload_n 0,1),(13,.getstatic 360,3),(16,.iload_n 1,1),(17,.iconst 1,1),(18,.iadd,1),(19,.iaload,1),(20,.idiv,1),(21,.getstatic 360,3),(24,.iload_n 1,1),(25,.iaload,1),(26,.imul,1),(27,.iload_n 0,1),(28,.getstatic 360,3),(31,.iload_n 1,1),(32,.iaload,1),(33,.irem,1),(34,.iadd,1),(35,.ireturn,1)]
def q29_P : rfP := (flX11,csX11,lcX11,spX11,[],[],[],[])
def q29_U : rfU := []
set_option maxHeartbeats 4000000 in
def q29_N : List rfB := [(0,([(0,.inl (((-2147483648),2147483647,1),none)),(1,.inl ((0,0,0),none))],[],[]),(22,[]),0)]
set_option maxRecDepth 100000 in
theorem q29_ok : rf_chkB q29_P q29_U wLay q29_M ddX11_without [] [] [0] 600 q29_N = true := by decide +kernel
/-- NearSpell.without -/
def q30_M : rfM := ((⟨"NearSpell", "without", "(II)I"⟩, prog_1_method_56_code, 2, (some .int)), (0,0), ([.inl (((-2147483648),2147483647,1),none),.inl ((0,1,1),none)],[]), [], [(some (.inl (((-2147483648),2147483647,1),none)),[],[])])
def q30_P : rfP := (flX11,csX11,lcX11,spX11,[],[],[],[])
def q30_U : rfU := []
set_option maxHeartbeats 4000000 in
def q30_N : List rfB := [(0,([(0,.inl (((-2147483648),2147483647,1),none)),(1,.inl ((0,1,1),none))],[],[]),(22,[]),0)]
set_option maxRecDepth 100000 in
theorem q30_ok : rf_chkB q30_P q30_U wLay q30_M ddX11_without [] [] [0] 600 q30_N = true := by decide +kernel
/-- NearSpell.without -/
def q31_M : rfM := ((⟨"NearSpell", "without", "(II)I"⟩, prog_1_method_56_code, 2, (some .int)), (0,0), ([.inl (((-2147483648),2147483647,1),none),.inl ((0,2,1),none)],[]), [], [(some (.inl (((-2147483648),2147483647,1),none)),[],[])])
def q31_P : rfP := (flX11,csX11,lcX11,spX11,[],[],[],[])
def q31_U : rfU := []
set_option maxHeartbeats 4000000 in
def q31_N : List rfB := [(0,([(0,.inl (((-2147483648),2147483647,1),none)),(1,.inl ((0,2,1),none))],[],[]),(22,[]),0)]
set_option maxRecDepth 100000 in
theorem q31_ok : rf_chkB q31_P q31_U wLay q31_M ddX11_without [] [] [0] 600 q31_N = true := by decide +kernel
/-- NearSpell.without -/
def q32_M : rfM := ((⟨"NearSpell", "without", "(II)I"⟩, prog_1_method_56_code, 2, (some .int)), (0,0), ([.inl (((-2147483648),2147483647,1),none),.inl ((0,3,1),none)],[]), [], [(some (.inl (((-2147483648),2147483647,1),none)),[],[])])
def q32_P : rfP := (flX11,csX11,lcX11,spX11,[],[],[],[])
def q32_U : rfU := []
set_option maxHeartbeats 4000000 in
def q32_N : List rfB := [(0,([(0,.inl (((-2147483648),2147483647,1),none)),(1,.inl ((0,3,1),none))],[],[]),(22,[]),0)]
set_option maxRecDepth 100000 in
theorem q32_ok : rf_chkB q32_P q32_U wLay q32_M ddX11_without [] [] [0] 600 q32_N = true := by decide +kernel
/-- NearSpell.without -/
def q33_M : rfM := ((⟨"NearSpell", "without", "(II)I"⟩, prog_1_method_56_code, 2, (some .int)), (0,0), ([.inl (((-2147483648),2147483647,1),none),.inl ((0,4,1),none)],[]), [], [(some (.inl (((-2147483648),2147483647,1),none)),[],[])])
def q33_P : rfP := (flX11,csX11,lcX11,spX11,[],[],[],[])
def q33_U : rfU := []
set_option maxHeartbeats 4000000 in
def q33_N : List rfB := [(0,([(0,.inl (((-2147483648),2147483647,1),none)),(1,.inl ((0,4,1),none))],[],[]),(22,[]),0)]
set_option maxRecDepth 100000 in
theorem q33_ok : rf_chkB q33_P q33_U wLay q33_M ddX11_without [] [] [0] 600 q33_N = true := by decide +kernel
/-- NearSpell.without -/
def q34_M : rfM := ((⟨"NearSpell", "without", "(II)I"⟩, prog_1_method_56_code, 2, (some .int)), (0,0), ([.inl (((-2147483648),2147483647,1),none),.inl ((0,5,1),none)],[]), [], [(some (.inl (((-2147483648),2147483647,1),none)),[],[])])
def q34_P : rfP := (flX11,csX11,lcX11,spX11,[],[],[],[])
def q34_U : rfU := []
set_option maxHeartbeats 4000000 in
def q34_N : List rfB := [(0,([(0,.inl (((-2147483648),2147483647,1),none)),(1,.inl ((0,5,1),none))],[],[]),(22,[]),0)]
set_option maxRecDepth 100000 in
theorem q34_ok : rf_chkB q34_P q34_U wLay q34_M ddX11_without [] [] [0] 600 q34_N = true := by decide +kernel
/-- NearSpell.FormList.shorten -/
def q35_M : rfM := ((⟨"NearSpell$FormList", "shorten", "(I)V"⟩, prog_5_method_3_code, 6, none), (1,23), ([.inr (.inl [40]),.inl (((-2147483648),2147483647,1),none)],[]), [(39,0),(40,2)], [(none,[],[])])
def ddX3_shorten : List (Nat × Instr × Nat) := [(0,.iload_n 1,1),(1,.invokestatic 39,3),(4,.istore_n 2,1),(5,.iconst 0,1),(6,.istore_n 3,1),(7,.iload_n 3,1),(8,.iload_n 2,1),(9,.if_icmp .ge 58,3),(12,.iload_n 1,1),(13,.iload_n 3,1),(14,.invokestatic 43,3),(17,.istore 4,2),(19,.aload_n 0,1),(20,.iload 4,2),(22,.invokevirtual 32,3),(25,.iconst 0,1),(26,.istore 5,2),(28,.aload_n 0,1),(29,.getfield 25,3),(32,.iconst 1,1),(33,.if_icmp .le 28,3),(36,.iload 5,2),(38,.iload_n 2,1),(39,.iconst 1,1),(40,.isub,1),(41,.if_icmp .ge 20,3),(44,.aload_n 0,1),(45,.iload 4,2),(47,.iload 5,2),(49,.invokestatic 43,3),(52,.invokevirtual 32,3),(55,.iinc 5 1,3),(58,.goto (-30),3),(61,.iinc 3 1,3),(64,.goto (-57),3),(67,.return_,1)]
def q35_P : rfP := (flX3,csX3,lcX3,spX3,[q12_M,q15_M,q33_M,q34_M],[(39,0),(43,2),(43,3)],[(32,1,3)],[])
def q35_U : rfU := []
set_option maxHeartbeats 4000000 in
def q35_N : List rfB := [(0,([(0,.inr (.inl [40])),(1,.inl (((-2147483648),2147483647,1),none))],[],[]),(2852,[0,0]),0),
  (7,([(0,.inr (.inl [40])),(1,.inl (((-2147483648),2147483647,1),none)),(2,.inl ((0,6,1),none)),(3,.inl ((0,12,1),none))],[],[]),(2845,[(-219),0]),0),
  (28,([(0,.inr (.inl [40])),(1,.inl (((-2147483648),2147483647,1),none)),(2,.inl ((1,6,1),none)),(3,.inl ((0,11,1),none)),(4,.inl (((-2147483648),2147483647,1),none)),(5,.inl ((0,11,1),none))],[],[]),(2831,[(-219),(-17)]),0),
  (61,([(0,.inr (.inl [40])),(1,.inl (((-2147483648),2147483647,1),none)),(2,.inl ((1,6,1),none)),(3,.inl ((0,11,1),none)),(4,.inl (((-2147483648),2147483647,1),none)),(5,.inl ((0,11,1),none))],[],[]),(2629,[(-219),0]),0)]
set_option maxRecDepth 100000 in
theorem q35_ok : rf_chkB q35_P q35_U wLay q35_M ddX3_shorten [(1,[0]),(14,[3]),(22,[1]),(49,[2]),(52,[1])] [.inl 3,.inl 5] [0,7,28,61] 600 q35_N = true := by decide +kernel
/-- NearSpell.FormList.shorten -/
def q36_M : rfM := ((⟨"NearSpell$FormList", "shorten", "(I)V"⟩, prog_5_method_3_code, 6, none), (1,23), ([.inr (.inl [24]),.inl (((-2147483648),2147483647,1),none)],[]), [(23,0),(24,2)], [(none,[],[])])
def q36_P : rfP := (flX3,csX3,lcX3,spX3,[q12_M,q16_M,q33_M,q34_M],[(39,0),(43,2),(43,3)],[(32,1,3)],[])
def q36_U : rfU := []
set_option maxHeartbeats 4000000 in
def q36_N : List rfB := [(0,([(0,.inr (.inl [24])),(1,.inl (((-2147483648),2147483647,1),none))],[],[]),(2852,[0,0]),0),
  (7,([(0,.inr (.inl [24])),(1,.inl (((-2147483648),2147483647,1),none)),(2,.inl ((0,6,1),none)),(3,.inl ((0,12,1),none))],[],[]),(2845,[(-219),0]),0),
  (28,([(0,.inr (.inl [24])),(1,.inl (((-2147483648),2147483647,1),none)),(2,.inl ((1,6,1),none)),(3,.inl ((0,11,1),none)),(4,.inl (((-2147483648),2147483647,1),none)),(5,.inl ((0,11,1),none))],[],[]),(2831,[(-219),(-17)]),0),
  (61,([(0,.inr (.inl [24])),(1,.inl (((-2147483648),2147483647,1),none)),(2,.inl ((1,6,1),none)),(3,.inl ((0,11,1),none)),(4,.inl (((-2147483648),2147483647,1),none)),(5,.inl ((0,11,1),none))],[],[]),(2629,[(-219),0]),0)]
set_option maxRecDepth 100000 in
theorem q36_ok : rf_chkB q36_P q36_U wLay q36_M ddX3_shorten [(1,[0]),(14,[3]),(22,[1]),(49,[2]),(52,[1])] [.inl 3,.inl 5] [0,7,28,61] 600 q36_N = true := by decide +kernel
/-- NearSpell.FormList.shorten -/
def q37_M : rfM := ((⟨"NearSpell$FormList", "shorten", "(I)V"⟩, prog_5_method_3_code, 6, none), (1,23), ([.inr (.inl [34]),.inl (((-2147483648),2147483647,1),none)],[]), [(33,0),(34,2)], [(none,[],[])])
def q37_P : rfP := (flX3,csX3,lcX3,spX3,[q12_M,q17_M,q33_M,q34_M],[(39,0),(43,2),(43,3)],[(32,1,3)],[])
def q37_U : rfU := []
set_option maxHeartbeats 4000000 in
def q37_N : List rfB := [(0,([(0,.inr (.inl [34])),(1,.inl (((-2147483648),2147483647,1),none))],[],[]),(2852,[0,0]),0),
  (7,([(0,.inr (.inl [34])),(1,.inl (((-2147483648),2147483647,1),none)),(2,.inl ((0,6,1),none)),(3,.inl ((0,12,1),none))],[],[]),(2845,[(-219),0]),0),
  (28,([(0,.inr (.inl [34])),(1,.inl (((-2147483648),2147483647,1),none)),(2,.inl ((1,6,1),none)),(3,.inl ((0,11,1),none)),(4,.inl (((-2147483648),2147483647,1),none)),(5,.inl ((0,11,1),none))],[],[]),(2831,[(-219),(-17)]),0),
  (61,([(0,.inr (.inl [34])),(1,.inl (((-2147483648),2147483647,1),none)),(2,.inl ((1,6,1),none)),(3,.inl ((0,11,1),none)),(4,.inl (((-2147483648),2147483647,1),none)),(5,.inl ((0,11,1),none))],[],[]),(2629,[(-219),0]),0)]
set_option maxRecDepth 100000 in
theorem q37_ok : rf_chkB q37_P q37_U wLay q37_M ddX3_shorten [(1,[0]),(14,[3]),(22,[1]),(49,[2]),(52,[1])] [.inl 3,.inl 5] [0,7,28,61] 600 q37_N = true := by decide +kernel
/-- NearSpell.FormList.shorten -/
def q38_M : rfM := ((⟨"NearSpell$FormList", "shorten", "(I)V"⟩, prog_5_method_3_code, 6, none), (1,23), ([.inr (.inl [42]),.inl (((-2147483648),2147483647,1),none)],[]), [(41,0),(42,2)], [(none,[],[])])
def q38_P : rfP := (flX3,csX3,lcX3,spX3,[q12_M,q18_M,q33_M,q34_M],[(39,0),(43,2),(43,3)],[(32,1,3)],[])
def q38_U : rfU := []
set_option maxHeartbeats 4000000 in
def q38_N : List rfB := [(0,([(0,.inr (.inl [42])),(1,.inl (((-2147483648),2147483647,1),none))],[],[]),(2852,[0,0]),0),
  (7,([(0,.inr (.inl [42])),(1,.inl (((-2147483648),2147483647,1),none)),(2,.inl ((0,6,1),none)),(3,.inl ((0,12,1),none))],[],[]),(2845,[(-219),0]),0),
  (28,([(0,.inr (.inl [42])),(1,.inl (((-2147483648),2147483647,1),none)),(2,.inl ((1,6,1),none)),(3,.inl ((0,11,1),none)),(4,.inl (((-2147483648),2147483647,1),none)),(5,.inl ((0,11,1),none))],[],[]),(2831,[(-219),(-17)]),0),
  (61,([(0,.inr (.inl [42])),(1,.inl (((-2147483648),2147483647,1),none)),(2,.inl ((1,6,1),none)),(3,.inl ((0,11,1),none)),(4,.inl (((-2147483648),2147483647,1),none)),(5,.inl ((0,11,1),none))],[],[]),(2629,[(-219),0]),0)]
set_option maxRecDepth 100000 in
theorem q38_ok : rf_chkB q38_P q38_U wLay q38_M ddX3_shorten [(1,[0]),(14,[3]),(22,[1]),(49,[2]),(52,[1])] [.inl 3,.inl 5] [0,7,28,61] 600 q38_N = true := by decide +kernel
/-- NearSpell.FormList.shorten -/
def q39_M : rfM := ((⟨"NearSpell$FormList", "shorten", "(I)V"⟩, prog_5_method_3_code, 6, none), (1,23), ([.inr (.inl [32]),.inl (((-2147483648),2147483647,1),none)],[]), [(31,0),(32,2)], [(none,[],[])])
def q39_P : rfP := (flX3,csX3,lcX3,spX3,[q12_M,q19_M,q33_M,q34_M],[(39,0),(43,2),(43,3)],[(32,1,3)],[])
def q39_U : rfU := []
set_option maxHeartbeats 4000000 in
def q39_N : List rfB := [(0,([(0,.inr (.inl [32])),(1,.inl (((-2147483648),2147483647,1),none))],[],[]),(2852,[0,0]),0),
  (7,([(0,.inr (.inl [32])),(1,.inl (((-2147483648),2147483647,1),none)),(2,.inl ((0,6,1),none)),(3,.inl ((0,12,1),none))],[],[]),(2845,[(-219),0]),0),
  (28,([(0,.inr (.inl [32])),(1,.inl (((-2147483648),2147483647,1),none)),(2,.inl ((1,6,1),none)),(3,.inl ((0,11,1),none)),(4,.inl (((-2147483648),2147483647,1),none)),(5,.inl ((0,11,1),none))],[],[]),(2831,[(-219),(-17)]),0),
  (61,([(0,.inr (.inl [32])),(1,.inl (((-2147483648),2147483647,1),none)),(2,.inl ((1,6,1),none)),(3,.inl ((0,11,1),none)),(4,.inl (((-2147483648),2147483647,1),none)),(5,.inl ((0,11,1),none))],[],[]),(2629,[(-219),0]),0)]
set_option maxRecDepth 100000 in
theorem q39_ok : rf_chkB q39_P q39_U wLay q39_M ddX3_shorten [(1,[0]),(14,[3]),(22,[1]),(49,[2]),(52,[1])] [.inl 3,.inl 5] [0,7,28,61] 600 q39_N = true := by decide +kernel
/-- NearSpell.FormList.shorten -/
def q40_M : rfM := ((⟨"NearSpell$FormList", "shorten", "(I)V"⟩, prog_5_method_3_code, 6, none), (1,23), ([.inr (.inl [26]),.inl (((-2147483648),2147483647,1),none)],[]), [(25,0),(26,2)], [(none,[],[])])
def q40_P : rfP := (flX3,csX3,lcX3,spX3,[q12_M,q20_M,q33_M,q34_M],[(39,0),(43,2),(43,3)],[(32,1,3)],[])
def q40_U : rfU := []
set_option maxHeartbeats 4000000 in
def q40_N : List rfB := [(0,([(0,.inr (.inl [26])),(1,.inl (((-2147483648),2147483647,1),none))],[],[]),(2852,[0,0]),0),
  (7,([(0,.inr (.inl [26])),(1,.inl (((-2147483648),2147483647,1),none)),(2,.inl ((0,6,1),none)),(3,.inl ((0,12,1),none))],[],[]),(2845,[(-219),0]),0),
  (28,([(0,.inr (.inl [26])),(1,.inl (((-2147483648),2147483647,1),none)),(2,.inl ((1,6,1),none)),(3,.inl ((0,11,1),none)),(4,.inl (((-2147483648),2147483647,1),none)),(5,.inl ((0,11,1),none))],[],[]),(2831,[(-219),(-17)]),0),
  (61,([(0,.inr (.inl [26])),(1,.inl (((-2147483648),2147483647,1),none)),(2,.inl ((1,6,1),none)),(3,.inl ((0,11,1),none)),(4,.inl (((-2147483648),2147483647,1),none)),(5,.inl ((0,11,1),none))],[],[]),(2629,[(-219),0]),0)]
set_option maxRecDepth 100000 in
theorem q40_ok : rf_chkB q40_P q40_U wLay q40_M ddX3_shorten [(1,[0]),(14,[3]),(22,[1]),(49,[2]),(52,[1])] [.inl 3,.inl 5] [0,7,28,61] 600 q40_N = true := by decide +kernel
/-- NearSpell.FormList.shorten -/
def q41_M : rfM := ((⟨"NearSpell$FormList", "shorten", "(I)V"⟩, prog_5_method_3_code, 6, none), (1,23), ([.inr (.inl [44]),.inl (((-2147483648),2147483647,1),none)],[]), [(43,0),(44,2)], [(none,[],[])])
def q41_P : rfP := (flX3,csX3,lcX3,spX3,[q12_M,q21_M,q33_M,q34_M],[(39,0),(43,2),(43,3)],[(32,1,3)],[])
def q41_U : rfU := []
set_option maxHeartbeats 4000000 in
def q41_N : List rfB := [(0,([(0,.inr (.inl [44])),(1,.inl (((-2147483648),2147483647,1),none))],[],[]),(2852,[0,0]),0),
  (7,([(0,.inr (.inl [44])),(1,.inl (((-2147483648),2147483647,1),none)),(2,.inl ((0,6,1),none)),(3,.inl ((0,12,1),none))],[],[]),(2845,[(-219),0]),0),
  (28,([(0,.inr (.inl [44])),(1,.inl (((-2147483648),2147483647,1),none)),(2,.inl ((1,6,1),none)),(3,.inl ((0,11,1),none)),(4,.inl (((-2147483648),2147483647,1),none)),(5,.inl ((0,11,1),none))],[],[]),(2831,[(-219),(-17)]),0),
  (61,([(0,.inr (.inl [44])),(1,.inl (((-2147483648),2147483647,1),none)),(2,.inl ((1,6,1),none)),(3,.inl ((0,11,1),none)),(4,.inl (((-2147483648),2147483647,1),none)),(5,.inl ((0,11,1),none))],[],[]),(2629,[(-219),0]),0)]
set_option maxRecDepth 100000 in
theorem q41_ok : rf_chkB q41_P q41_U wLay q41_M ddX3_shorten [(1,[0]),(14,[3]),(22,[1]),(49,[2]),(52,[1])] [.inl 3,.inl 5] [0,7,28,61] 600 q41_N = true := by decide +kernel
/-- NearSpell.FormList.shorten -/
def q42_M : rfM := ((⟨"NearSpell$FormList", "shorten", "(I)V"⟩, prog_5_method_3_code, 6, none), (1,23), ([.inr (.inl [22]),.inl (((-2147483648),2147483647,1),none)],[]), [(21,0),(22,2)], [(none,[],[])])
def q42_P : rfP := (flX3,csX3,lcX3,spX3,[q12_M,q22_M,q33_M,q34_M],[(39,0),(43,2),(43,3)],[(32,1,3)],[])
def q42_U : rfU := []
set_option maxHeartbeats 4000000 in
def q42_N : List rfB := [(0,([(0,.inr (.inl [22])),(1,.inl (((-2147483648),2147483647,1),none))],[],[]),(2852,[0,0]),0),
  (7,([(0,.inr (.inl [22])),(1,.inl (((-2147483648),2147483647,1),none)),(2,.inl ((0,6,1),none)),(3,.inl ((0,12,1),none))],[],[]),(2845,[(-219),0]),0),
  (28,([(0,.inr (.inl [22])),(1,.inl (((-2147483648),2147483647,1),none)),(2,.inl ((1,6,1),none)),(3,.inl ((0,11,1),none)),(4,.inl (((-2147483648),2147483647,1),none)),(5,.inl ((0,11,1),none))],[],[]),(2831,[(-219),(-17)]),0),
  (61,([(0,.inr (.inl [22])),(1,.inl (((-2147483648),2147483647,1),none)),(2,.inl ((1,6,1),none)),(3,.inl ((0,11,1),none)),(4,.inl (((-2147483648),2147483647,1),none)),(5,.inl ((0,11,1),none))],[],[]),(2629,[(-219),0]),0)]
set_option maxRecDepth 100000 in
theorem q42_ok : rf_chkB q42_P q42_U wLay q42_M ddX3_shorten [(1,[0]),(14,[3]),(22,[1]),(49,[2]),(52,[1])] [.inl 3,.inl 5] [0,7,28,61] 600 q42_N = true := by decide +kernel
/-- NearSpell.FormList.shorten -/
def q43_M : rfM := ((⟨"NearSpell$FormList", "shorten", "(I)V"⟩, prog_5_method_3_code, 6, none), (1,23), ([.inr (.inl [46]),.inl (((-2147483648),2147483647,1),none)],[]), [(45,0),(46,2)], [(none,[],[])])
def q43_P : rfP := (flX3,csX3,lcX3,spX3,[q12_M,q23_M,q33_M,q34_M],[(39,0),(43,2),(43,3)],[(32,1,3)],[])
def q43_U : rfU := []
set_option maxHeartbeats 4000000 in
def q43_N : List rfB := [(0,([(0,.inr (.inl [46])),(1,.inl (((-2147483648),2147483647,1),none))],[],[]),(2852,[0,0]),0),
  (7,([(0,.inr (.inl [46])),(1,.inl (((-2147483648),2147483647,1),none)),(2,.inl ((0,6,1),none)),(3,.inl ((0,12,1),none))],[],[]),(2845,[(-219),0]),0),
  (28,([(0,.inr (.inl [46])),(1,.inl (((-2147483648),2147483647,1),none)),(2,.inl ((1,6,1),none)),(3,.inl ((0,11,1),none)),(4,.inl (((-2147483648),2147483647,1),none)),(5,.inl ((0,11,1),none))],[],[]),(2831,[(-219),(-17)]),0),
  (61,([(0,.inr (.inl [46])),(1,.inl (((-2147483648),2147483647,1),none)),(2,.inl ((1,6,1),none)),(3,.inl ((0,11,1),none)),(4,.inl (((-2147483648),2147483647,1),none)),(5,.inl ((0,11,1),none))],[],[]),(2629,[(-219),0]),0)]
set_option maxRecDepth 100000 in
theorem q43_ok : rf_chkB q43_P q43_U wLay q43_M ddX3_shorten [(1,[0]),(14,[3]),(22,[1]),(49,[2]),(52,[1])] [.inl 3,.inl 5] [0,7,28,61] 600 q43_N = true := by decide +kernel
/-- NearSpell.FormList.shorten -/
def q44_M : rfM := ((⟨"NearSpell$FormList", "shorten", "(I)V"⟩, prog_5_method_3_code, 6, none), (1,23), ([.inr (.inl [48]),.inl (((-2147483648),2147483647,1),none)],[]), [(47,0),(48,2)], [(none,[],[])])
def q44_P : rfP := (flX3,csX3,lcX3,spX3,[q12_M,q24_M,q33_M,q34_M],[(39,0),(43,2),(43,3)],[(32,1,3)],[])
def q44_U : rfU := []
set_option maxHeartbeats 4000000 in
def q44_N : List rfB := [(0,([(0,.inr (.inl [48])),(1,.inl (((-2147483648),2147483647,1),none))],[],[]),(2852,[0,0]),0),
  (7,([(0,.inr (.inl [48])),(1,.inl (((-2147483648),2147483647,1),none)),(2,.inl ((0,6,1),none)),(3,.inl ((0,12,1),none))],[],[]),(2845,[(-219),0]),0),
  (28,([(0,.inr (.inl [48])),(1,.inl (((-2147483648),2147483647,1),none)),(2,.inl ((1,6,1),none)),(3,.inl ((0,11,1),none)),(4,.inl (((-2147483648),2147483647,1),none)),(5,.inl ((0,11,1),none))],[],[]),(2831,[(-219),(-17)]),0),
  (61,([(0,.inr (.inl [48])),(1,.inl (((-2147483648),2147483647,1),none)),(2,.inl ((1,6,1),none)),(3,.inl ((0,11,1),none)),(4,.inl (((-2147483648),2147483647,1),none)),(5,.inl ((0,11,1),none))],[],[]),(2629,[(-219),0]),0)]
set_option maxRecDepth 100000 in
theorem q44_ok : rf_chkB q44_P q44_U wLay q44_M ddX3_shorten [(1,[0]),(14,[3]),(22,[1]),(49,[2]),(52,[1])] [.inl 3,.inl 5] [0,7,28,61] 600 q44_N = true := by decide +kernel
/-- NearSpell.FormList.shorten -/
def q45_M : rfM := ((⟨"NearSpell$FormList", "shorten", "(I)V"⟩, prog_5_method_3_code, 6, none), (1,23), ([.inr (.inl [38]),.inl (((-2147483648),2147483647,1),none)],[]), [(37,0),(38,2)], [(none,[],[])])
def q45_P : rfP := (flX3,csX3,lcX3,spX3,[q12_M,q25_M,q33_M,q34_M],[(39,0),(43,2),(43,3)],[(32,1,3)],[])
def q45_U : rfU := []
set_option maxHeartbeats 4000000 in
def q45_N : List rfB := [(0,([(0,.inr (.inl [38])),(1,.inl (((-2147483648),2147483647,1),none))],[],[]),(2852,[0,0]),0),
  (7,([(0,.inr (.inl [38])),(1,.inl (((-2147483648),2147483647,1),none)),(2,.inl ((0,6,1),none)),(3,.inl ((0,12,1),none))],[],[]),(2845,[(-219),0]),0),
  (28,([(0,.inr (.inl [38])),(1,.inl (((-2147483648),2147483647,1),none)),(2,.inl ((1,6,1),none)),(3,.inl ((0,11,1),none)),(4,.inl (((-2147483648),2147483647,1),none)),(5,.inl ((0,11,1),none))],[],[]),(2831,[(-219),(-17)]),0),
  (61,([(0,.inr (.inl [38])),(1,.inl (((-2147483648),2147483647,1),none)),(2,.inl ((1,6,1),none)),(3,.inl ((0,11,1),none)),(4,.inl (((-2147483648),2147483647,1),none)),(5,.inl ((0,11,1),none))],[],[]),(2629,[(-219),0]),0)]
set_option maxRecDepth 100000 in
theorem q45_ok : rf_chkB q45_P q45_U wLay q45_M ddX3_shorten [(1,[0]),(14,[3]),(22,[1]),(49,[2]),(52,[1])] [.inl 3,.inl 5] [0,7,28,61] 600 q45_N = true := by decide +kernel
/-- NearSpell.FormList.shorten -/
def q46_M : rfM := ((⟨"NearSpell$FormList", "shorten", "(I)V"⟩, prog_5_method_3_code, 6, none), (1,23), ([.inr (.inl [30]),.inl (((-2147483648),2147483647,1),none)],[]), [(29,0),(30,2)], [(none,[],[])])
def q46_P : rfP := (flX3,csX3,lcX3,spX3,[q12_M,q26_M,q33_M,q34_M],[(39,0),(43,2),(43,3)],[(32,1,3)],[])
def q46_U : rfU := []
set_option maxHeartbeats 4000000 in
def q46_N : List rfB := [(0,([(0,.inr (.inl [30])),(1,.inl (((-2147483648),2147483647,1),none))],[],[]),(2852,[0,0]),0),
  (7,([(0,.inr (.inl [30])),(1,.inl (((-2147483648),2147483647,1),none)),(2,.inl ((0,6,1),none)),(3,.inl ((0,12,1),none))],[],[]),(2845,[(-219),0]),0),
  (28,([(0,.inr (.inl [30])),(1,.inl (((-2147483648),2147483647,1),none)),(2,.inl ((1,6,1),none)),(3,.inl ((0,11,1),none)),(4,.inl (((-2147483648),2147483647,1),none)),(5,.inl ((0,11,1),none))],[],[]),(2831,[(-219),(-17)]),0),
  (61,([(0,.inr (.inl [30])),(1,.inl (((-2147483648),2147483647,1),none)),(2,.inl ((1,6,1),none)),(3,.inl ((0,11,1),none)),(4,.inl (((-2147483648),2147483647,1),none)),(5,.inl ((0,11,1),none))],[],[]),(2629,[(-219),0]),0)]
set_option maxRecDepth 100000 in
theorem q46_ok : rf_chkB q46_P q46_U wLay q46_M ddX3_shorten [(1,[0]),(14,[3]),(22,[1]),(49,[2]),(52,[1])] [.inl 3,.inl 5] [0,7,28,61] 600 q46_N = true := by decide +kernel
/-- NearSpell.FormList.shorten -/
def q47_M : rfM := ((⟨"NearSpell$FormList", "shorten", "(I)V"⟩, prog_5_method_3_code, 6, none), (1,23), ([.inr (.inl [28]),.inl (((-2147483648),2147483647,1),none)],[]), [(27,0),(28,2)], [(none,[],[])])
def q47_P : rfP := (flX3,csX3,lcX3,spX3,[q12_M,q27_M,q33_M,q34_M],[(39,0),(43,2),(43,3)],[(32,1,3)],[])
def q47_U : rfU := []
set_option maxHeartbeats 4000000 in
def q47_N : List rfB := [(0,([(0,.inr (.inl [28])),(1,.inl (((-2147483648),2147483647,1),none))],[],[]),(2852,[0,0]),0),
  (7,([(0,.inr (.inl [28])),(1,.inl (((-2147483648),2147483647,1),none)),(2,.inl ((0,6,1),none)),(3,.inl ((0,12,1),none))],[],[]),(2845,[(-219),0]),0),
  (28,([(0,.inr (.inl [28])),(1,.inl (((-2147483648),2147483647,1),none)),(2,.inl ((1,6,1),none)),(3,.inl ((0,11,1),none)),(4,.inl (((-2147483648),2147483647,1),none)),(5,.inl ((0,11,1),none))],[],[]),(2831,[(-219),(-17)]),0),
  (61,([(0,.inr (.inl [28])),(1,.inl (((-2147483648),2147483647,1),none)),(2,.inl ((1,6,1),none)),(3,.inl ((0,11,1),none)),(4,.inl (((-2147483648),2147483647,1),none)),(5,.inl ((0,11,1),none))],[],[]),(2629,[(-219),0]),0)]
set_option maxRecDepth 100000 in
theorem q47_ok : rf_chkB q47_P q47_U wLay q47_M ddX3_shorten [(1,[0]),(14,[3]),(22,[1]),(49,[2]),(52,[1])] [.inl 3,.inl 5] [0,7,28,61] 600 q47_N = true := by decide +kernel
/-- NearSpell.FormList.shorten -/
def q48_M : rfM := ((⟨"NearSpell$FormList", "shorten", "(I)V"⟩, prog_5_method_3_code, 6, none), (1,23), ([.inr (.inl [36]),.inl (((-2147483648),2147483647,1),none)],[]), [(35,0),(36,2)], [(none,[],[])])
def q48_P : rfP := (flX3,csX3,lcX3,spX3,[q12_M,q28_M,q33_M,q34_M],[(39,0),(43,2),(43,3)],[(32,1,3)],[])
def q48_U : rfU := []
set_option maxHeartbeats 4000000 in
def q48_N : List rfB := [(0,([(0,.inr (.inl [36])),(1,.inl (((-2147483648),2147483647,1),none))],[],[]),(2852,[0,0]),0),
  (7,([(0,.inr (.inl [36])),(1,.inl (((-2147483648),2147483647,1),none)),(2,.inl ((0,6,1),none)),(3,.inl ((0,12,1),none))],[],[]),(2845,[(-219),0]),0),
  (28,([(0,.inr (.inl [36])),(1,.inl (((-2147483648),2147483647,1),none)),(2,.inl ((1,6,1),none)),(3,.inl ((0,11,1),none)),(4,.inl (((-2147483648),2147483647,1),none)),(5,.inl ((0,11,1),none))],[],[]),(2831,[(-219),(-17)]),0),
  (61,([(0,.inr (.inl [36])),(1,.inl (((-2147483648),2147483647,1),none)),(2,.inl ((1,6,1),none)),(3,.inl ((0,11,1),none)),(4,.inl (((-2147483648),2147483647,1),none)),(5,.inl ((0,11,1),none))],[],[]),(2629,[(-219),0]),0)]
set_option maxRecDepth 100000 in
theorem q48_ok : rf_chkB q48_P q48_U wLay q48_M ddX3_shorten [(1,[0]),(14,[3]),(22,[1]),(49,[2]),(52,[1])] [.inl 3,.inl 5] [0,7,28,61] 600 q48_N = true := by decide +kernel
/-- NearSpell.FormList.fill -/
def q49_M : rfM := ((⟨"NearSpell$FormList", "fill", "(III)V"⟩, prog_5_method_2_code, 5, none), (2,48), ([.inr (.inl [22,24,26,28,30,32,34,36,38,40,42,44,46,48]),.inl (((-2147483648),2147483647,1),none),.inl ((1,6,1),none),.inl ((0,2,1),none)],[]), [(21,0),(22,2),(22,3),(22,4),(22,5),(23,0),(24,2),(24,3),(24,4),(24,5),(25,0),(26,2),(26,3),(26,4),(26,5),(27,0),(28,2),(28,3),(28,4),(28,5),(29,0),(30,2),(30,3),(30,4),(30,5),(31,0),(32,2),(32,3),(32,4),(32,5),(33,0),(34,2),(34,3),(34,4),(34,5),(35,0),(36,2),(36,3),(36,4),(36,5),(37,0),(38,2),(38,3),(38,4),(38,5),(39,0),(40,2),(40,3),(40,4),(40,5),(41,0),(42,2),(42,3),(42,4),(42,5),(43,0),(44,2),(44,3),(44,4),(44,5),(45,0),(46,2),(46,3),(46,4),(46,5),(47,0),(48,2),(48,3),(48,4),(48,5)], [(none,[],[])])
def ddX3_fill : List (Nat × Instr × Nat) := [(0,.aload_n 0,1),(1,.getfield 19,3),(4,.iload_n 1,1),(5,.if_icmp .ne 20,3),(8,.aload_n 0,1),(9,.getfield 22,3),(12,.iload_n 2,1),(13,.if_icmp .ne 12,3),(16,.aload_n 0,1),(17,.getfield 25,3),(20,.iload_n 3,1),(21,.if_icmp .ne 4,3),(24,.return_,1),(25,.aload_n 0,1),(26,.iload_n 1,1),(27,.putfield 19,3),(30,.aload_n 0,1),(31,.iload_n 2,1),(32,.putfield 22,3),(35,.aload_n 0,1),(36,.iload_n 3,1),(37,.putfield 25,3),(40,.aload_n 0,1),(41,.iconst 0,1),(42,.putfield 15,3),(45,.aload_n 0,1),(46,.getfield 19,3),(49,.aload_n 0,1),(50,.getfield 22,3),(53,.invokestatic 28,3),(56,.istore 4,2),(58,.aload_n 0,1),(59,.iload 4,2),(61,.invokevirtual 32,3),(64,.aload_n 0,1),(65,.getfield 25,3),(68,.ifCond .le 9,3),(71,.aload_n 0,1),(72,.iload 4,2),(74,.invokevirtual 36,3),(77,.return_,1)]
def q49_P : rfP := (flX3,csX3,lcX3,spX3,[q14_M,q15_M,q16_M,q17_M,q18_M,q19_M,q20_M,q21_M,q22_M,q23_M,q24_M,q25_M,q26_M,q27_M,q28_M,q35_M,q36_M,q37_M,q38_M,q39_M,q40_M,q41_M,q42_M,q43_M,q44_M,q45_M,q46_M,q47_M,q48_M],[(28,0)],[(32,1,3),(32,2,3),(32,3,3),(32,4,3),(32,5,3),(32,6,3),(32,7,3),(32,8,3),(32,9,3),(32,10,3),(32,11,3),(32,12,3),(32,13,3),(32,14,3),(36,15,3),(36,16,3),(36,17,3),(36,18,3),(36,19,3),(36,20,3),(36,21,3),(36,22,3),(36,23,3),(36,24,3),(36,25,3),(36,26,3),(36,27,3),(36,28,3)],[])
def q49_U : rfU := []
set_option maxHeartbeats 4000000 in
def q49_N : List rfB := [(0,([(0,.inr (.inl [22,24,26,28,30,32,34,36,38,40,42,44,46,48])),(1,.inl (((-2147483648),2147483647,1),none)),(2,.inl ((1,6,1),none)),(3,.inl ((0,2,1),none))],[],[]),(574,[]),2000000),
  (25,([(0,.inr (.inl [40])),(1,.inl (((-2147483648),2147483647,1),none)),(2,.inl ((1,6,1),none)),(3,.inl ((0,2,1),none))],[],[]),(396,[]),0),
  (25,([(0,.inr (.inl [24])),(1,.inl (((-2147483648),2147483647,1),none)),(2,.inl ((1,6,1),none)),(3,.inl ((0,2,1),none))],[],[]),(68,[]),0),
  (25,([(0,.inr (.inl [34])),(1,.inl (((-2147483648),2147483647,1),none)),(2,.inl ((1,6,1),none)),(3,.inl ((0,2,1),none))],[],[]),(273,[]),0),
  (25,([(0,.inr (.inl [42])),(1,.inl (((-2147483648),2147483647,1),none)),(2,.inl ((1,6,1),none)),(3,.inl ((0,2,1),none))],[],[]),(437,[]),0),
  (25,([(0,.inr (.inl [32])),(1,.inl (((-2147483648),2147483647,1),none)),(2,.inl ((1,6,1),none)),(3,.inl ((0,2,1),none))],[],[]),(232,[]),0),
  (25,([(0,.inr (.inl [26])),(1,.inl (((-2147483648),2147483647,1),none)),(2,.inl ((1,6,1),none)),(3,.inl ((0,2,1),none))],[],[]),(109,[]),0),
  (25,([(0,.inr (.inl [44])),(1,.inl (((-2147483648),2147483647,1),none)),(2,.inl ((1,6,1),none)),(3,.inl ((0,2,1),none))],[],[]),(478,[]),0),
  (25,([(0,.inr (.inl [22])),(1,.inl (((-2147483648),2147483647,1),none)),(2,.inl ((1,6,1),none)),(3,.inl ((0,2,1),none))],[],[]),(27,[]),0),
  (25,([(0,.inr (.inl [46])),(1,.inl (((-2147483648),2147483647,1),none)),(2,.inl ((1,6,1),none)),(3,.inl ((0,2,1),none))],[],[]),(519,[]),0),
  (25,([(0,.inr (.inl [48])),(1,.inl (((-2147483648),2147483647,1),none)),(2,.inl ((1,6,1),none)),(3,.inl ((0,2,1),none))],[],[]),(560,[]),0),
  (25,([(0,.inr (.inl [38])),(1,.inl (((-2147483648),2147483647,1),none)),(2,.inl ((1,6,1),none)),(3,.inl ((0,2,1),none))],[],[]),(355,[]),0),
  (25,([(0,.inr (.inl [30])),(1,.inl (((-2147483648),2147483647,1),none)),(2,.inl ((1,6,1),none)),(3,.inl ((0,2,1),none))],[],[]),(191,[]),0),
  (25,([(0,.inr (.inl [28])),(1,.inl (((-2147483648),2147483647,1),none)),(2,.inl ((1,6,1),none)),(3,.inl ((0,2,1),none))],[],[]),(150,[]),0),
  (25,([(0,.inr (.inl [36])),(1,.inl (((-2147483648),2147483647,1),none)),(2,.inl ((1,6,1),none)),(3,.inl ((0,2,1),none))],[],[]),(314,[]),0),
  (77,([(0,.inr (.inl [40])),(1,.inl (((-2147483648),2147483647,1),none)),(2,.inl ((1,6,1),none)),(3,.inl ((0,2,1),none)),(4,.inl (((-2147483648),2147483647,1),none))],[],[((40,3),(1,6,1),none),((40,4),(0,2,1),none)]),(369,[]),0),
  (77,([(0,.inr (.inl [24])),(1,.inl (((-2147483648),2147483647,1),none)),(2,.inl ((1,6,1),none)),(3,.inl ((0,2,1),none)),(4,.inl (((-2147483648),2147483647,1),none))],[],[((24,3),(1,6,1),none),((24,4),(0,2,1),none)]),(41,[]),0),
  (77,([(0,.inr (.inl [34])),(1,.inl (((-2147483648),2147483647,1),none)),(2,.inl ((1,6,1),none)),(3,.inl ((0,2,1),none)),(4,.inl (((-2147483648),2147483647,1),none))],[],[((34,3),(1,6,1),none),((34,4),(0,2,1),none)]),(246,[]),0),
  (77,([(0,.inr (.inl [42])),(1,.inl (((-2147483648),2147483647,1),none)),(2,.inl ((1,6,1),none)),(3,.inl ((0,2,1),none)),(4,.inl (((-2147483648),2147483647,1),none))],[],[((42,3),(1,6,1),none),((42,4),(0,2,1),none)]),(410,[]),0),
  (77,([(0,.inr (.inl [32])),(1,.inl (((-2147483648),2147483647,1),none)),(2,.inl ((1,6,1),none)),(3,.inl ((0,2,1),none)),(4,.inl (((-2147483648),2147483647,1),none))],[],[((32,3),(1,6,1),none),((32,4),(0,2,1),none)]),(205,[]),0),
  (77,([(0,.inr (.inl [26])),(1,.inl (((-2147483648),2147483647,1),none)),(2,.inl ((1,6,1),none)),(3,.inl ((0,2,1),none)),(4,.inl (((-2147483648),2147483647,1),none))],[],[((26,3),(1,6,1),none),((26,4),(0,2,1),none)]),(82,[]),0),
  (77,([(0,.inr (.inl [44])),(1,.inl (((-2147483648),2147483647,1),none)),(2,.inl ((1,6,1),none)),(3,.inl ((0,2,1),none)),(4,.inl (((-2147483648),2147483647,1),none))],[],[((44,3),(1,6,1),none),((44,4),(0,2,1),none)]),(451,[]),0),
  (77,([(0,.inr (.inl [22])),(1,.inl (((-2147483648),2147483647,1),none)),(2,.inl ((1,6,1),none)),(3,.inl ((0,2,1),none)),(4,.inl (((-2147483648),2147483647,1),none))],[],[((22,3),(1,6,1),none),((22,4),(0,2,1),none)]),(0,[]),0),
  (77,([(0,.inr (.inl [46])),(1,.inl (((-2147483648),2147483647,1),none)),(2,.inl ((1,6,1),none)),(3,.inl ((0,2,1),none)),(4,.inl (((-2147483648),2147483647,1),none))],[],[((46,3),(1,6,1),none),((46,4),(0,2,1),none)]),(492,[]),0),
  (77,([(0,.inr (.inl [48])),(1,.inl (((-2147483648),2147483647,1),none)),(2,.inl ((1,6,1),none)),(3,.inl ((0,2,1),none)),(4,.inl (((-2147483648),2147483647,1),none))],[],[((48,3),(1,6,1),none),((48,4),(0,2,1),none)]),(533,[]),0),
  (77,([(0,.inr (.inl [38])),(1,.inl (((-2147483648),2147483647,1),none)),(2,.inl ((1,6,1),none)),(3,.inl ((0,2,1),none)),(4,.inl (((-2147483648),2147483647,1),none))],[],[((38,3),(1,6,1),none),((38,4),(0,2,1),none)]),(328,[]),0),
  (77,([(0,.inr (.inl [30])),(1,.inl (((-2147483648),2147483647,1),none)),(2,.inl ((1,6,1),none)),(3,.inl ((0,2,1),none)),(4,.inl (((-2147483648),2147483647,1),none))],[],[((30,3),(1,6,1),none),((30,4),(0,2,1),none)]),(164,[]),0),
  (77,([(0,.inr (.inl [28])),(1,.inl (((-2147483648),2147483647,1),none)),(2,.inl ((1,6,1),none)),(3,.inl ((0,2,1),none)),(4,.inl (((-2147483648),2147483647,1),none))],[],[((28,3),(1,6,1),none),((28,4),(0,2,1),none)]),(123,[]),0),
  (77,([(0,.inr (.inl [36])),(1,.inl (((-2147483648),2147483647,1),none)),(2,.inl ((1,6,1),none)),(3,.inl ((0,2,1),none)),(4,.inl (((-2147483648),2147483647,1),none))],[],[((36,3),(1,6,1),none),((36,4),(0,2,1),none)]),(287,[]),0)]
set_option maxRecDepth 100000 in
theorem q49_ok : rf_chkB q49_P q49_U wLay q49_M ddX3_fill [(53,[0]),(61,[1,2,3,4,5,6,7,8,9,10,11,12,13,14]),(74,[15,16,17,18,19,20,21,22,23,24,25,26,27,28])] [] [0,25,77] 600 q49_N = true := by decide +kernel
/-- NearSpell.Laid.formsOf -/
def q50_M : rfM := ((⟨"NearSpell$Laid", "formsOf", "(I)LNearSpell$FormList;"⟩, prog_6_method_3_code, 2, (some (.object "NearSpell$FormList"))), (3,72), ([.inr (.inl [53]),.inl ((0,13,1),none)],[]), [(21,0),(22,2),(22,3),(22,4),(22,5),(23,0),(24,2),(24,3),(24,4),(24,5),(25,0),(26,2),(26,3),(26,4),(26,5),(27,0),(28,2),(28,3),(28,4),(28,5),(29,0),(30,2),(30,3),(30,4),(30,5),(31,0),(32,2),(32,3),(32,4),(32,5),(33,0),(34,2),(34,3),(34,4),(34,5),(35,0),(36,2),(36,3),(36,4),(36,5),(37,0),(38,2),(38,3),(38,4),(38,5),(39,0),(40,2),(40,3),(40,4),(40,5),(41,0),(42,2),(42,3),(42,4),(42,5),(43,0),(44,2),(44,3),(44,4),(44,5),(45,0),(46,2),(46,3),(46,4),(46,5),(47,0),(48,2),(48,3),(48,4),(48,5)], [(some (.inr (.inl [22,24,26,28,30,32,34,36,38,40,42,44,46,48])),[],[])])
def ddX4_formsOf : List (Nat × Instr × Nat) := [(0,.iload_n 1,1),(1,.ifCond .lt 9,3),(4,.iload_n 1,1),(5,.bipush 14,2),(7,.if_icmp .lt 9,3),(10,.aload_n 0,1),(11,.iconst 0,1),(12,.invokevirtual 47,3),(15,.areturn,1),(16,.aload_n 0,1),(17,.getfield 21,3),(20,.iload_n 1,1),(21,.aaload,1),(22,.aload_n 0,1),(23,.getfield 15,3),(26,.iload_n 1,1),(27,.invokevirtual 51,3),(30,.aload_n 0,1),(31,.getfield 9,3),(34,.getfield 34,3),(37,.aload_n 0,1),(38,.getfield 9,3),(41,.getfield 40,3),(44,.invokevirtual 43,3),(47,.aload_n 0,1),(48,.getfield 21,3),(51,.iload_n 1,1),(52,.aaload,1),(53,.areturn,1)]
def q50_P : rfP := (flX4,csX4,lcX4,spX4,[q11_M,q49_M],[],[(43,1,3),(51,0,8)],[])
def q50_U : rfU := []
set_option maxHeartbeats 4000000 in
def q50_N : List rfB := [(0,([(0,.inr (.inl [53])),(1,.inl ((0,13,1),none))],[],[]),(24,[]),0)]
set_option maxRecDepth 100000 in
theorem q50_ok : rf_chkB q50_P q50_U wLay q50_M ddX4_formsOf [(27,[0]),(44,[1])] [] [0] 600 q50_N = true := by decide +kernel
/-- NearSpell.entry -/
def q51_M : rfM := ((⟨"NearSpell", "entry", "(II)I"⟩, prog_1_method_6_code, 3, (some .int)), (4,93), ([.inr (.inl [70]),.inl (((-2147483648),2147483647,1),none),.inl (((-2147483648),2147483647,1),none)],[]), [(21,0),(22,2),(22,3),(22,4),(22,5),(23,0),(24,2),(24,3),(24,4),(24,5),(25,0),(26,2),(26,3),(26,4),(26,5),(27,0),(28,2),(28,3),(28,4),(28,5),(29,0),(30,2),(30,3),(30,4),(30,5),(31,0),(32,2),(32,3),(32,4),(32,5),(33,0),(34,2),(34,3),(34,4),(34,5),(35,0),(36,2),(36,3),(36,4),(36,5),(37,0),(38,2),(38,3),(38,4),(38,5),(39,0),(40,2),(40,3),(40,4),(40,5),(41,0),(42,2),(42,3),(42,4),(42,5),(43,0),(44,2),(44,3),(44,4),(44,5),(45,0),(46,2),(46,3),(46,4),(46,5),(47,0),(48,2),(48,3),(48,4),(48,5)], [(some (.inl (((-2147483648),2147483647,1),none)),[],[])])
def ddX11_entry : List (Nat × Instr × Nat) := [(0,.aload_n 0,1),(1,.getfield 35,3),(4,.iload_n 1,1),(5,.invokevirtual 141,3),(8,.ifCond .ne 5,3),(11,.iconst (-1),1),(12,.ireturn,1),(13,.iload_n 2,1),(14,.tableswitch 72 0 3 #[30, 39, 51, 60],30),(44,.aload_n 0,1),(45,.getfield 35,3),(48,.iload_n 1,1),(49,.invokevirtual 144,3),(52,.ireturn,1),(53,.aload_n 0,1),(54,.getfield 35,3),(57,.iload_n 1,1),(58,.invokevirtual 144,3),(61,.invokestatic 148,3),(64,.ireturn,1),(65,.aload_n 0,1),(66,.getfield 35,3),(69,.iload_n 1,1),(70,.invokevirtual 151,3),(73,.ireturn,1),(74,.aload_n 0,1),(75,.getfield 58,3),(78,.iload_n 1,1),(79,.invokevirtual 154,3),(82,.getfield 158,3),(85,.ireturn,1),(86,.iconst (-1),1),(87,.ireturn,1)]
def q51_P : rfP := (flX11,csX11,lcX11,spX11,[q10_M,q11_M,q12_M,q13_M,q50_M],[(148,2)],[(141,0,8),(144,1,8),(151,3,8),(154,4,4)],[])
def q51_U : rfU := []
set_option maxHeartbeats 4000000 in
def q51_N : List rfB := [(0,([(0,.inr (.inl [70])),(1,.inl (((-2147483648),2147483647,1),none)),(2,.inl (((-2147483648),2147483647,1),none))],[],[]),(33,[]),0)]
set_option maxRecDepth 100000 in
theorem q51_ok : rf_chkB q51_P q51_U wLay q51_M ddX11_entry [(5,[0]),(49,[1]),(58,[1]),(61,[2]),(70,[3]),(79,[4])] [] [0] 600 q51_N = true := by decide +kernel
/-- NearSpell.canBe -/
def q52_M : rfM := ((⟨"NearSpell", "canBe", "(I)Z"⟩, prog_1_method_52_code, 3, (some .boolean)), (0,0), ([.inl (((-2147483648),2147483647,1),none)],[]), [], [(some (.inl ((0,0,0),none)),[],[]),(some (.inl ((1,1,0),none)),[(0,0,387420488)],[])])
def ddX11_canBe : List (Nat × Instr × Nat) := [(0,.iload_n 0,1),(1,.ifCond .lt 13,3),(4,.iload_n 0,1),(5,.getstatic 360,3),(8,.bipush 6,2),(10,.iaload,1),(11,.if_icmp .lt 5,3),(14,.iconst 0,1),(15,.ireturn,1),(16,.iload_n 0,1),(17,.istore_n 1,1),(18,.iconst 0,1),(19,.istore_n 2,1),(20,.iload_n 2,1),(21,.bipush 6,2),(23,.if_icmp .ge 27,3),(26,.iload_n 1,1),(27,.ifCond .eq 23,3),(30,.iload_n 1,1),(31,.bipush 27,2),(33,.irem,1),(34,.ifCond .ne 5,3),(37,.iconst 0,1),(38,.ireturn,1),(39,.iload_n 1,1),(40,.bipush 27,2),(42,.idiv,1),(43,.istore_n 1,1),(44,.iinc 2 1,3),(47,.goto (-27),3),(50,.iconst 1,1),(51,.ireturn,1)]
def q52_P : rfP := (flX11,csX11,lcX11,spX11,[],[],[],[])
def q52_U : rfU := []
set_option maxHeartbeats 4000000 in
def q52_N : List rfB := [(0,([(0,.inl (((-2147483648),2147483647,1),none))],[],[]),(6198727840,[0]),0),
  (14,([(0,.inl (((-2147483648),2147483647,1),none))],[],[]),(1,[0]),0),
  (20,([(0,.inl ((0,387420488,1),none)),(1,.inl ((0,387420488,1),none)),(2,.inl ((0,6,1),none))],[],[]),(18,[16]),0),
  (50,([(0,.inl ((0,387420488,1),none)),(1,.inl ((0,387420488,1),none)),(2,.inl ((0,6,1),none))],[],[]),(3,[0]),0)]
set_option maxRecDepth 100000 in
theorem q52_ok : rf_chkB q52_P q52_U wLay q52_M ddX11_canBe [] [.inl 1] [0,14,20,50] 600 q52_N = true := by decide +kernel
/-- NearSpell.State.isEntry -/
def q53_M : rfM := ((⟨"NearSpell$State", "isEntry", "(I)Z"⟩, prog_10_method_6_code, 2, (some .boolean)), (0,0), ([.inr (.inl [13]),.inl ((0,0,0),none)],[]), [], [(some (.inl ((1,1,0),none)),[],[((12,34),(1,14,1),none)]),(some (.inl ((0,0,0),none)),[],[])])
def q53_P : rfP := (flX8,csX8,lcX8,spX8,[],[],[],[])
def q53_U : rfU := []
set_option maxHeartbeats 4000000 in
def q53_N : List rfB := [(0,([(0,.inr (.inl [13])),(1,.inl ((0,0,0),none))],[],[]),(20,[]),0),
  (32,([(0,.inr (.inl [13])),(1,.inl ((0,0,0),none))],[],[]),(1,[]),0)]
set_option maxRecDepth 100000 in
theorem q53_ok : rf_chkB q53_P q53_U wLay q53_M ddX8_isEntry [] [] [0,32] 600 q53_N = true := by decide +kernel
/-- NearSpell.State.spellingOf -/
def q54_M : rfM := ((⟨"NearSpell$State", "spellingOf", "(I)I"⟩, prog_10_method_7_code, 2, (some .int)), (0,0), ([.inr (.inl [13]),.inl ((0,0,0),none)],[]), [], [(some (.inl (((-2147483648),2147483647,1),none)),[],[])])
def q54_P : rfP := (flX8,csX8,lcX8,spX8,[],[],[],[])
def q54_U : rfU := []
set_option maxHeartbeats 4000000 in
def q54_N : List rfB := [(0,([(0,.inr (.inl [13])),(1,.inl ((0,0,0),none))],[],[]),(12,[]),0)]
set_option maxRecDepth 100000 in
theorem q54_ok : rf_chkB q54_P q54_U wLay q54_M ddX8_spellingOf [] [] [0] 600 q54_N = true := by decide +kernel
/-- NearSpell.State.isEntry -/
def q55_M : rfM := ((⟨"NearSpell$State", "isEntry", "(I)Z"⟩, prog_10_method_6_code, 2, (some .boolean)), (0,0), ([.inr (.inl [13]),.inl ((0,1,1),none)],[]), [], [(some (.inl ((1,1,0),none)),[],[((12,34),(1,14,1),none)]),(some (.inl ((0,0,0),none)),[],[])])
def q55_P : rfP := (flX8,csX8,lcX8,spX8,[],[],[],[])
def q55_U : rfU := []
set_option maxHeartbeats 4000000 in
def q55_N : List rfB := [(0,([(0,.inr (.inl [13])),(1,.inl ((0,1,1),none))],[],[]),(20,[]),0),
  (32,([(0,.inr (.inl [13])),(1,.inl ((0,1,1),none))],[],[]),(1,[]),0)]
set_option maxRecDepth 100000 in
theorem q55_ok : rf_chkB q55_P q55_U wLay q55_M ddX8_isEntry [] [] [0,32] 600 q55_N = true := by decide +kernel
/-- NearSpell.State.spellingOf -/
def q56_M : rfM := ((⟨"NearSpell$State", "spellingOf", "(I)I"⟩, prog_10_method_7_code, 2, (some .int)), (0,0), ([.inr (.inl [13]),.inl ((0,1,1),none)],[]), [], [(some (.inl (((-2147483648),2147483647,1),none)),[],[])])
def q56_P : rfP := (flX8,csX8,lcX8,spX8,[],[],[],[])
def q56_U : rfU := []
set_option maxHeartbeats 4000000 in
def q56_N : List rfB := [(0,([(0,.inr (.inl [13])),(1,.inl ((0,1,1),none))],[],[]),(12,[]),0)]
set_option maxRecDepth 100000 in
theorem q56_ok : rf_chkB q56_P q56_U wLay q56_M ddX8_spellingOf [] [] [0] 600 q56_N = true := by decide +kernel
/-- NearSpell.State.isEntry -/
def q57_M : rfM := ((⟨"NearSpell$State", "isEntry", "(I)Z"⟩, prog_10_method_6_code, 2, (some .boolean)), (0,0), ([.inr (.inl [13]),.inl ((0,2,1),none)],[]), [], [(some (.inl ((1,1,0),none)),[],[((12,34),(1,14,1),none)]),(some (.inl ((0,0,0),none)),[],[])])
def q57_P : rfP := (flX8,csX8,lcX8,spX8,[],[],[],[])
def q57_U : rfU := []
set_option maxHeartbeats 4000000 in
def q57_N : List rfB := [(0,([(0,.inr (.inl [13])),(1,.inl ((0,2,1),none))],[],[]),(20,[]),0),
  (32,([(0,.inr (.inl [13])),(1,.inl ((0,2,1),none))],[],[]),(1,[]),0)]
set_option maxRecDepth 100000 in
theorem q57_ok : rf_chkB q57_P q57_U wLay q57_M ddX8_isEntry [] [] [0,32] 600 q57_N = true := by decide +kernel
/-- NearSpell.State.spellingOf -/
def q58_M : rfM := ((⟨"NearSpell$State", "spellingOf", "(I)I"⟩, prog_10_method_7_code, 2, (some .int)), (0,0), ([.inr (.inl [13]),.inl ((0,2,1),none)],[]), [], [(some (.inl (((-2147483648),2147483647,1),none)),[],[])])
def q58_P : rfP := (flX8,csX8,lcX8,spX8,[],[],[],[])
def q58_U : rfU := []
set_option maxHeartbeats 4000000 in
def q58_N : List rfB := [(0,([(0,.inr (.inl [13])),(1,.inl ((0,2,1),none))],[],[]),(12,[]),0)]
set_option maxRecDepth 100000 in
theorem q58_ok : rf_chkB q58_P q58_U wLay q58_M ddX8_spellingOf [] [] [0] 600 q58_N = true := by decide +kernel
/-- NearSpell.State.isEntry -/
def q59_M : rfM := ((⟨"NearSpell$State", "isEntry", "(I)Z"⟩, prog_10_method_6_code, 2, (some .boolean)), (0,0), ([.inr (.inl [13]),.inl ((0,3,1),none)],[]), [], [(some (.inl ((1,1,0),none)),[],[((12,34),(1,14,1),none)]),(some (.inl ((0,0,0),none)),[],[])])
def q59_P : rfP := (flX8,csX8,lcX8,spX8,[],[],[],[])
def q59_U : rfU := []
set_option maxHeartbeats 4000000 in
def q59_N : List rfB := [(0,([(0,.inr (.inl [13])),(1,.inl ((0,3,1),none))],[],[]),(20,[]),0),
  (32,([(0,.inr (.inl [13])),(1,.inl ((0,3,1),none))],[],[]),(1,[]),0)]
set_option maxRecDepth 100000 in
theorem q59_ok : rf_chkB q59_P q59_U wLay q59_M ddX8_isEntry [] [] [0,32] 600 q59_N = true := by decide +kernel
