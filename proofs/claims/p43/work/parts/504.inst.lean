/-- NearSpell.Web.hangingTo -/
def q240_M : rfM := ((⟨"NearSpell$Web", "hangingTo", "(I)I"⟩, prog_11_method_7_code, 4, (some .int)), (2,45), ([.inr (.inl [61]),.inl ((1,9,1),none)],[]), [], [(some (.inl (((-2147483648),2147483647,1),none)),[],[])])
def q240_P : rfP := (flX9,csX9,lcX9,spX9,[q233_M],[],[(66,0,9)],[])
def q240_U : rfU := []
set_option maxHeartbeats 4000000 in
def q240_N : List rfB := [(0,([(0,.inr (.inl [61])),(1,.inl ((1,9,1),none))],[],[]),(155,[0]),0),
  (4,([(0,.inr (.inl [61])),(1,.inl ((1,9,1),none)),(2,.inl (((-2147483648),2147483647,1),none)),(3,.inl ((0,14,1),none))],[],[]),(149,[(-10)]),0)]
set_option maxRecDepth 100000 in
theorem q240_ok : rf_chkB q240_P q240_U wLay q240_M ddX9_hangingTo [(12,[0])] [.inl 3] [0,4] 600 q240_N = true := by decide +kernel
/-- NearSpell.Web.stepOn -/
def q241_M : rfM := ((⟨"NearSpell$Web", "stepOn", "(I)I"⟩, prog_11_method_8_code, 4, (some .int)), (1,22), ([.inr (.inl [61]),.inl ((1,9999,1),none)],[]), [], [(some (.inl (((-2147483648),2147483647,1),none)),[],[])])
def q241_P : rfP := (flX9,csX9,lcX9,spX9,[q226_M],[],[(50,0,9)],[])
def q241_U : rfU := []
set_option maxHeartbeats 4000000 in
def q241_N : List rfB := [(0,([(0,.inr (.inl [61])),(1,.inl ((1,9999,1),none))],[],[]),(290,[0]),0),
  (4,([(0,.inr (.inl [61])),(1,.inl ((1,9999,1),none)),(2,.inl (((-2147483648),2147483647,1),none)),(3,.inl ((0,14,1),none))],[],[]),(284,[(-19)]),0),
  (28,([(0,.inr (.inl [61])),(1,.inl ((1,9999,1),none)),(2,.inl (((-2147483648),2147483647,1),none)),(3,.inl ((0,13,1),none))],[],[]),(268,[(-19)]),0)]
set_option maxRecDepth 100000 in
theorem q241_ok : rf_chkB q241_P q241_U wLay q241_M ddX9_stepOn [(13,[0])] [.inl 3] [0,4,28] 600 q241_N = true := by decide +kernel
/-- NearSpell.Web.hangingTo -/
def q242_M : rfM := ((⟨"NearSpell$Web", "hangingTo", "(I)I"⟩, prog_11_method_7_code, 4, (some .int)), (2,45), ([.inr (.inl [61]),.inl ((1,9999,1),none)],[]), [], [(some (.inl (((-2147483648),2147483647,1),none)),[],[])])
def q242_P : rfP := (flX9,csX9,lcX9,spX9,[q233_M],[],[(66,0,9)],[])
def q242_U : rfU := []
set_option maxHeartbeats 4000000 in
def q242_N : List rfB := [(0,([(0,.inr (.inl [61])),(1,.inl ((1,9999,1),none))],[],[]),(155,[0]),0),
  (4,([(0,.inr (.inl [61])),(1,.inl ((1,9999,1),none)),(2,.inl (((-2147483648),2147483647,1),none)),(3,.inl ((0,14,1),none))],[],[]),(149,[(-10)]),0)]
set_option maxRecDepth 100000 in
theorem q242_ok : rf_chkB q242_P q242_U wLay q242_M ddX9_hangingTo [(12,[0])] [.inl 3] [0,4] 600 q242_N = true := by decide +kernel
/-- NearSpell.Web.countGroups -/
def q243_M : rfM := ((⟨"NearSpell$Web", "countGroups", "(I)I"⟩, prog_11_method_6_code, 5, (some .int)), (6,139), ([.inr (.inl [61]),.inl ((0,6,1),none)],[]), [(17,0),(18,0),(19,0),(20,4),(20,5),(59,0),(60,0),(61,5)], [(some (.inl (((-2147483648),2147483647,1),none)),[],[((61,4),(0,2147483647,1),none)])])
def ddX9_countGroups : List (Nat × Instr × Nat) := [(0,.aload_n 0,1),(1,.iload_n 1,1),(2,.invokevirtual 60,3),(5,.aload_n 0,1),(6,.getfield 26,3),(9,.istore_n 2,1),(10,.iconst 0,1),(11,.istore_n 3,1),(12,.iconst 0,1),(13,.istore 4,2),(15,.iload 4,2),(17,.bipush 14,2),(19,.if_icmp .ge 35,3),(22,.aload_n 0,1),(23,.iload_n 2,1),(24,.iload 4,2),(26,.invokevirtual 50,3),(29,.ifCond .eq 19,3),(32,.iload_n 2,1),(33,.aload_n 0,1),(34,.iconst 1,1),(35,.iload 4,2),(37,.ishl,1),(38,.invokevirtual 63,3),(41,.iconst (-1),1),(42,.ixor,1),(43,.iand,1),(44,.istore_n 2,1),(45,.iinc 3 1,3),(48,.iinc 4 1,3),(51,.goto (-36),3),(54,.iload_n 3,1),(55,.ireturn,1)]
def q243_P : rfP := (flX9,csX9,lcX9,spX9,[q231_M,q226_M,q242_M],[],[(50,1,9),(60,0,9),(63,2,9)],[])
def q243_U : rfU := []
set_option maxHeartbeats 4000000 in
def q243_N : List rfB := [(0,([(0,.inr (.inl [61])),(1,.inl ((0,6,1),none))],[],[]),(356,[0]),0),
  (15,([(0,.inr (.inl [61])),(1,.inl ((0,6,1),none)),(2,.inl ((0,2147483647,1),none)),(3,.inl (((-2147483648),2147483647,1),none)),(4,.inl ((0,14,1),none))],[],[((61,4),(0,2147483647,1),none)]),(344,[(-23)]),0),
  (48,([(0,.inr (.inl [61])),(1,.inl ((0,6,1),none)),(2,.inl ((0,2147483647,1),none)),(3,.inl (((-2147483648),2147483647,1),none)),(4,.inl ((0,13,1),none))],[],[((61,4),(0,2147483647,1),none)]),(324,[(-23)]),0)]
set_option maxRecDepth 100000 in
theorem q243_ok : rf_chkB q243_P q243_U wLay q243_M ddX9_countGroups [(2,[0]),(26,[1]),(38,[2])] [.inl 4] [0,15,48] 600 q243_N = true := by decide +kernel
/-- NearSpell.groups -/
def q244_M : rfM := ((⟨"NearSpell", "groups", "(I)I"⟩, prog_1_method_27_code, 2, (some .int)), (7,163), ([.inr (.inl [70]),.inl (((-2147483648),2147483647,1),none)],[]), [(17,0),(18,0),(19,0),(20,4),(20,5),(59,0),(60,0),(61,5)], [(some (.inl (((-2147483648),2147483647,1),none)),[],[])])
def ddX11_groups : List (Nat × Instr × Nat) := [(0,.iload_n 1,1),(1,.invokestatic 232,3),(4,.ifCond .eq 14,3),(7,.aload_n 0,1),(8,.getfield 83,3),(11,.iload_n 1,1),(12,.invokevirtual 270,3),(15,.goto 4,3),(18,.iconst (-1),1),(19,.ireturn,1)]
def q244_P : rfP := (flX11,csX11,lcX11,spX11,[q166_M,q243_M],[(232,0)],[(270,1,9)],[])
def q244_U : rfU := []
set_option maxHeartbeats 4000000 in
def q244_N : List rfB := [(0,([(0,.inr (.inl [70])),(1,.inl (((-2147483648),2147483647,1),none))],[],[]),(11,[]),0)]
set_option maxRecDepth 100000 in
theorem q244_ok : rf_chkB q244_P q244_U wLay q244_M ddX11_groups [(1,[0]),(12,[1])] [] [0] 600 q244_N = true := by decide +kernel
/-- NearSpell.Web.mostOf -/
def q245_M : rfM := ((⟨"NearSpell$Web", "mostOf", "(II)I"⟩, prog_11_method_14_code, 5, (some .int)), (0,0), ([.inr (.inl [61]),.inl (((-2147483648),2147483647,1),none),.inl (((-1),(-1),0),none)],[]), [], [(some (.inl ((0,0,0),none)),[],[])])
def ddX9_mostOf : List (Nat × Instr × Nat) := [(0,.iload_n 2,1),(1,.ifCond .lt 9,3),(4,.iload_n 2,1),(5,.bipush 14,2),(7,.if_icmp .lt 5,3),(10,.iconst 0,1),(11,.ireturn,1),(12,.aload_n 0,1),(13,.iload_n 1,1),(14,.iload_n 2,1),(15,.invokevirtual 50,3),(18,.ifCond .ne 12,3),(21,.aload_n 0,1),(22,.iload_n 1,1),(23,.iload_n 2,1),(24,.iconst 1,1),(25,.isub,1),(26,.invokevirtual 72,3),(29,.ireturn,1),(30,.iload_n 1,1),(31,.iconst 1,1),(32,.iload_n 2,1),(33,.ishl,1),(34,.iconst (-1),1),(35,.ixor,1),(36,.iand,1),(37,.istore_n 3,1),(38,.iconst 1,1),(39,.aload_n 0,1),(40,.iload_n 3,1),(41,.aload_n 0,1),(42,.getfield 23,3),(45,.iload_n 2,1),(46,.iaload,1),(47,.iconst (-1),1),(48,.ixor,1),(49,.iand,1),(50,.iload_n 2,1),(51,.iconst 1,1),(52,.isub,1),(53,.invokevirtual 72,3),(56,.iadd,1),(57,.istore 4,2),(59,.iload_n 3,1),(60,.aload_n 0,1),(61,.getfield 23,3),(64,.iload_n 2,1),(65,.iaload,1),(66,.iand,1),(67,.invokestatic 76,3),(70,.iconst 2,1),(71,.if_icmp .ge 6,3),(74,.iload 4,2),(76,.ireturn,1),(77,.iload 4,2),(79,.aload_n 0,1),(80,.iload_n 3,1),(81,.iload_n 2,1),(82,.iconst 1,1),(83,.isub,1),(84,.invokevirtual 72,3),(87,.invokestatic 81,3),(90,.ireturn,1)]
def q245_P : rfP := (flX9,csX9,lcX9,spX9,[],[],[],[])
def q245_U : rfU := []
set_option maxHeartbeats 4000000 in
def q245_N : List rfB := [(0,([(0,.inr (.inl [61])),(1,.inl (((-2147483648),2147483647,1),none)),(2,.inl (((-1),(-1),0),none))],[],[]),(3,[]),0)]
set_option maxRecDepth 100000 in
theorem q245_ok : rf_chkB q245_P q245_U wLay q245_M ddX9_mostOf [] [] [0] 600 q245_N = true := by decide +kernel
/-- java/lang/Integer.bitCount -/
def q246_M : rfM := ((⟨"java/lang/Integer", "bitCount", "(I)I"⟩, prog_16_method_49_code, 1, (some .int)), (0,0), ([.inl (((-2147483648),2147483647,1),none)],[]), [], [(some (.inl ((0,63,1),none)),[],[])])
def ddJ6_bitCount_0f7a4 : List (Nat × Instr × Nat) := [(0,.iload_n 0,1),(1,.iload_n 0,1),(2,.iconst 1,1),(3,.iushr,1),(4,.ldc_w 265,3),(7,.iand,1),(8,.isub,1),(9,.istore_n 0,1),(10,.iload_n 0,1),(11,.ldc_w 266,3),(14,.iand,1),(15,.iload_n 0,1),(16,.iconst 2,1),(17,.iushr,1),(18,.ldc_w 266,3),(21,.iand,1),(22,.iadd,1),(23,.istore_n 0,1),(24,.iload_n 0,1),(25,.iload_n 0,1),(26,.iconst 4,1),(27,.iushr,1),(28,.iadd,1),(29,.ldc_w 267,3),(32,.iand,1),(33,.istore_n 0,1),(34,.iload_n 0,1),(35,.iload_n 0,1),(36,.bipush 8,2),(38,.iushr,1),(39,.iadd,1),(40,.istore_n 0,1),(41,.iload_n 0,1),(42,.iload_n 0,1),(43,.bipush 16,2),(45,.iushr,1),(46,.iadd,1),(47,.istore_n 0,1),(48,.iload_n 0,1),(49,.bipush 63,2),(51,.iand,1),(52,.ireturn,1)]
def q246_P : rfP := (flJ6,csJ6,lcJ6,spJ6,[],[],[],[])
def q246_U : rfU := []
set_option maxHeartbeats 4000000 in
def q246_N : List rfB := [(0,([(0,.inl (((-2147483648),2147483647,1),none))],[],[]),(41,[]),0)]
set_option maxRecDepth 100000 in
theorem q246_ok : rf_chkB q246_P q246_U wLay q246_M ddJ6_bitCount_0f7a4 [] [] [0] 600 q246_N = true := by decide +kernel
/-- java/lang/Math.max -/
def q247_M : rfM := ((⟨"java/lang/Math", "max", "(II)I"⟩, prog_17_method_65_code, 2, (some .int)), (0,0), ([.inl ((1,1,0),none),.inl ((0,0,0),none)],[]), [], [(some (.inl ((1,1,0),none)),[],[])])
def q247_P : rfP := (flJ9,csJ9,lcJ9,spJ9,[],[],[],[])
def q247_U : rfU := []
set_option maxHeartbeats 4000000 in
def q247_N : List rfB := [(0,([(0,.inl ((1,1,0),none)),(1,.inl ((0,0,0),none))],[],[]),(5,[]),0)]
set_option maxRecDepth 100000 in
theorem q247_ok : rf_chkB q247_P q247_U wLay q247_M ddJ9_max_7cf53 [] [] [0] 600 q247_N = true := by decide +kernel
/-- NearSpell.Web.mostOf -/
def q248_M : rfM := ((⟨"NearSpell$Web", "mostOf", "(II)I"⟩, prog_11_method_14_code, 5, (some .int)), (1,24), ([.inr (.inl [61]),.inl (((-2147483648),2147483647,1),none),.inl ((0,0,0),none)],[]), [], [(some (.inl ((0,1,1),none)),[],[])])
def q248_P : rfP := (flX9,csX9,lcX9,spX9,[q226_M,q245_M,q246_M,q247_M],[(76,2),(81,3)],[(50,0,9),(72,1,9)],[])
def q248_U : rfU := []
set_option maxHeartbeats 4000000 in
def q248_N : List rfB := [(0,([(0,.inr (.inl [61])),(1,.inl (((-2147483648),2147483647,1),none)),(2,.inl ((0,0,0),none))],[],[]),(61,[]),0)]
set_option maxRecDepth 100000 in
theorem q248_ok : rf_chkB q248_P q248_U wLay q248_M ddX9_mostOf [(15,[0]),(26,[1]),(53,[1]),(67,[2]),(84,[1]),(87,[3])] [] [0] 600 q248_N = true := by decide +kernel
/-- java/lang/Math.max -/
def q249_M : rfM := ((⟨"java/lang/Math", "max", "(II)I"⟩, prog_17_method_65_code, 2, (some .int)), (0,0), ([.inl ((1,2,1),none),.inl ((0,1,1),none)],[]), [], [(some (.inl ((1,2,1),none)),[],[])])
def q249_P : rfP := (flJ9,csJ9,lcJ9,spJ9,[],[],[],[])
def q249_U : rfU := []
set_option maxHeartbeats 4000000 in
def q249_N : List rfB := [(0,([(0,.inl ((1,2,1),none)),(1,.inl ((0,1,1),none))],[],[]),(5,[]),0)]
set_option maxRecDepth 100000 in
theorem q249_ok : rf_chkB q249_P q249_U wLay q249_M ddJ9_max_7cf53 [] [] [0] 600 q249_N = true := by decide +kernel
/-- NearSpell.Web.mostOf -/
def q250_M : rfM := ((⟨"NearSpell$Web", "mostOf", "(II)I"⟩, prog_11_method_14_code, 5, (some .int)), (2,48), ([.inr (.inl [61]),.inl (((-2147483648),2147483647,1),none),.inl ((1,1,0),none)],[]), [], [(some (.inl ((0,2,1),none)),[],[])])
def q250_P : rfP := (flX9,csX9,lcX9,spX9,[q226_M,q248_M,q246_M,q249_M],[(76,2),(81,3)],[(50,0,9),(72,1,9)],[])
def q250_U : rfU := []
set_option maxHeartbeats 4000000 in
def q250_N : List rfB := [(0,([(0,.inr (.inl [61])),(1,.inl (((-2147483648),2147483647,1),none)),(2,.inl ((1,1,0),none))],[],[]),(61,[]),0)]
set_option maxRecDepth 100000 in
theorem q250_ok : rf_chkB q250_P q250_U wLay q250_M ddX9_mostOf [(15,[0]),(26,[1]),(53,[1]),(67,[2]),(84,[1]),(87,[3])] [] [0] 600 q250_N = true := by decide +kernel
/-- java/lang/Math.max -/
def q251_M : rfM := ((⟨"java/lang/Math", "max", "(II)I"⟩, prog_17_method_65_code, 2, (some .int)), (0,0), ([.inl ((1,3,1),none),.inl ((0,2,1),none)],[]), [], [(some (.inl ((1,3,1),none)),[],[])])
def q251_P : rfP := (flJ9,csJ9,lcJ9,spJ9,[],[],[],[])
def q251_U : rfU := []
set_option maxHeartbeats 4000000 in
def q251_N : List rfB := [(0,([(0,.inl ((1,3,1),none)),(1,.inl ((0,2,1),none))],[],[]),(6,[]),0),
  (10,([(0,.inl ((1,3,1),none)),(1,.inl ((0,2,1),none))],[.inl ((1,3,1),none)],[]),(0,[]),0)]
set_option maxRecDepth 100000 in
theorem q251_ok : rf_chkB q251_P q251_U wLay q251_M ddJ9_max_7cf53 [] [] [0,10] 600 q251_N = true := by decide +kernel
/-- NearSpell.Web.mostOf -/
def q252_M : rfM := ((⟨"NearSpell$Web", "mostOf", "(II)I"⟩, prog_11_method_14_code, 5, (some .int)), (3,72), ([.inr (.inl [61]),.inl (((-2147483648),2147483647,1),none),.inl ((2,2,0),none)],[]), [], [(some (.inl ((0,3,1),none)),[],[])])
def q252_P : rfP := (flX9,csX9,lcX9,spX9,[q226_M,q250_M,q246_M,q251_M],[(76,2),(81,3)],[(50,0,9),(72,1,9)],[])
def q252_U : rfU := []
set_option maxHeartbeats 4000000 in
def q252_N : List rfB := [(0,([(0,.inr (.inl [61])),(1,.inl (((-2147483648),2147483647,1),none)),(2,.inl ((2,2,0),none))],[],[]),(61,[]),0)]
set_option maxRecDepth 100000 in
theorem q252_ok : rf_chkB q252_P q252_U wLay q252_M ddX9_mostOf [(15,[0]),(26,[1]),(53,[1]),(67,[2]),(84,[1]),(87,[3])] [] [0] 600 q252_N = true := by decide +kernel
/-- java/lang/Math.max -/
def q253_M : rfM := ((⟨"java/lang/Math", "max", "(II)I"⟩, prog_17_method_65_code, 2, (some .int)), (0,0), ([.inl ((1,4,1),none),.inl ((0,3,1),none)],[]), [], [(some (.inl ((1,4,1),none)),[],[])])
def q253_P : rfP := (flJ9,csJ9,lcJ9,spJ9,[],[],[],[])
def q253_U : rfU := []
set_option maxHeartbeats 4000000 in
def q253_N : List rfB := [(0,([(0,.inl ((1,4,1),none)),(1,.inl ((0,3,1),none))],[],[]),(6,[]),0),
  (10,([(0,.inl ((1,4,1),none)),(1,.inl ((0,3,1),none))],[.inl ((1,4,1),none)],[]),(0,[]),0)]
set_option maxRecDepth 100000 in
theorem q253_ok : rf_chkB q253_P q253_U wLay q253_M ddJ9_max_7cf53 [] [] [0,10] 600 q253_N = true := by decide +kernel
/-- NearSpell.Web.mostOf -/
def q254_M : rfM := ((⟨"NearSpell$Web", "mostOf", "(II)I"⟩, prog_11_method_14_code, 5, (some .int)), (4,96), ([.inr (.inl [61]),.inl (((-2147483648),2147483647,1),none),.inl ((3,3,0),none)],[]), [], [(some (.inl ((0,4,1),none)),[],[])])
def q254_P : rfP := (flX9,csX9,lcX9,spX9,[q226_M,q252_M,q246_M,q253_M],[(76,2),(81,3)],[(50,0,9),(72,1,9)],[])
def q254_U : rfU := []
set_option maxHeartbeats 4000000 in
def q254_N : List rfB := [(0,([(0,.inr (.inl [61])),(1,.inl (((-2147483648),2147483647,1),none)),(2,.inl ((3,3,0),none))],[],[]),(61,[]),0)]
set_option maxRecDepth 100000 in
theorem q254_ok : rf_chkB q254_P q254_U wLay q254_M ddX9_mostOf [(15,[0]),(26,[1]),(53,[1]),(67,[2]),(84,[1]),(87,[3])] [] [0] 600 q254_N = true := by decide +kernel
/-- java/lang/Math.max -/
def q255_M : rfM := ((⟨"java/lang/Math", "max", "(II)I"⟩, prog_17_method_65_code, 2, (some .int)), (0,0), ([.inl ((1,5,1),none),.inl ((0,4,1),none)],[]), [], [(some (.inl ((1,5,1),none)),[],[])])
def q255_P : rfP := (flJ9,csJ9,lcJ9,spJ9,[],[],[],[])
def q255_U : rfU := []
set_option maxHeartbeats 4000000 in
def q255_N : List rfB := [(0,([(0,.inl ((1,5,1),none)),(1,.inl ((0,4,1),none))],[],[]),(6,[]),0),
  (10,([(0,.inl ((1,5,1),none)),(1,.inl ((0,4,1),none))],[.inl ((1,5,1),none)],[]),(0,[]),0)]
set_option maxRecDepth 100000 in
theorem q255_ok : rf_chkB q255_P q255_U wLay q255_M ddJ9_max_7cf53 [] [] [0,10] 600 q255_N = true := by decide +kernel
/-- NearSpell.Web.mostOf -/
def q256_M : rfM := ((⟨"NearSpell$Web", "mostOf", "(II)I"⟩, prog_11_method_14_code, 5, (some .int)), (5,120), ([.inr (.inl [61]),.inl (((-2147483648),2147483647,1),none),.inl ((4,4,0),none)],[]), [], [(some (.inl ((0,5,1),none)),[],[])])
def q256_P : rfP := (flX9,csX9,lcX9,spX9,[q226_M,q254_M,q246_M,q255_M],[(76,2),(81,3)],[(50,0,9),(72,1,9)],[])
def q256_U : rfU := []
set_option maxHeartbeats 4000000 in
def q256_N : List rfB := [(0,([(0,.inr (.inl [61])),(1,.inl (((-2147483648),2147483647,1),none)),(2,.inl ((4,4,0),none))],[],[]),(61,[]),0)]
set_option maxRecDepth 100000 in
theorem q256_ok : rf_chkB q256_P q256_U wLay q256_M ddX9_mostOf [(15,[0]),(26,[1]),(53,[1]),(67,[2]),(84,[1]),(87,[3])] [] [0] 600 q256_N = true := by decide +kernel
/-- java/lang/Math.max -/
def q257_M : rfM := ((⟨"java/lang/Math", "max", "(II)I"⟩, prog_17_method_65_code, 2, (some .int)), (0,0), ([.inl ((1,6,1),none),.inl ((0,5,1),none)],[]), [], [(some (.inl ((1,6,1),none)),[],[])])
def q257_P : rfP := (flJ9,csJ9,lcJ9,spJ9,[],[],[],[])
def q257_U : rfU := []
set_option maxHeartbeats 4000000 in
def q257_N : List rfB := [(0,([(0,.inl ((1,6,1),none)),(1,.inl ((0,5,1),none))],[],[]),(6,[]),0),
  (10,([(0,.inl ((1,6,1),none)),(1,.inl ((0,5,1),none))],[.inl ((1,6,1),none)],[]),(0,[]),0)]
set_option maxRecDepth 100000 in
theorem q257_ok : rf_chkB q257_P q257_U wLay q257_M ddJ9_max_7cf53 [] [] [0,10] 600 q257_N = true := by decide +kernel
/-- NearSpell.Web.mostOf -/
def q258_M : rfM := ((⟨"NearSpell$Web", "mostOf", "(II)I"⟩, prog_11_method_14_code, 5, (some .int)), (6,144), ([.inr (.inl [61]),.inl (((-2147483648),2147483647,1),none),.inl ((5,5,0),none)],[]), [], [(some (.inl ((0,6,1),none)),[],[])])
def q258_P : rfP := (flX9,csX9,lcX9,spX9,[q226_M,q256_M,q246_M,q257_M],[(76,2),(81,3)],[(50,0,9),(72,1,9)],[])
def q258_U : rfU := []
set_option maxHeartbeats 4000000 in
def q258_N : List rfB := [(0,([(0,.inr (.inl [61])),(1,.inl (((-2147483648),2147483647,1),none)),(2,.inl ((5,5,0),none))],[],[]),(61,[]),0)]
set_option maxRecDepth 100000 in
theorem q258_ok : rf_chkB q258_P q258_U wLay q258_M ddX9_mostOf [(15,[0]),(26,[1]),(53,[1]),(67,[2]),(84,[1]),(87,[3])] [] [0] 600 q258_N = true := by decide +kernel
/-- java/lang/Math.max -/
def q259_M : rfM := ((⟨"java/lang/Math", "max", "(II)I"⟩, prog_17_method_65_code, 2, (some .int)), (0,0), ([.inl ((1,9,1),none),.inl ((0,6,1),none)],[]), [], [(some (.inl ((1,9,1),none)),[],[])])
def q259_P : rfP := (flJ9,csJ9,lcJ9,spJ9,[],[],[],[])
def q259_U : rfU := []
set_option maxHeartbeats 4000000 in
def q259_N : List rfB := [(0,([(0,.inl ((1,9,1),none)),(1,.inl ((0,6,1),none))],[],[]),(6,[]),0),
  (10,([(0,.inl ((1,9,1),none)),(1,.inl ((0,6,1),none))],[.inl ((1,9,1),none)],[]),(0,[]),0)]
set_option maxRecDepth 100000 in
theorem q259_ok : rf_chkB q259_P q259_U wLay q259_M ddJ9_max_7cf53 [] [] [0,10] 600 q259_N = true := by decide +kernel
/-- NearSpell.Web.mostOf -/
def q260_M : rfM := ((⟨"NearSpell$Web", "mostOf", "(II)I"⟩, prog_11_method_14_code, 5, (some .int)), (7,168), ([.inr (.inl [61]),.inl (((-2147483648),2147483647,1),none),.inl ((6,6,0),none)],[]), [], [(some (.inl ((0,9,1),none)),[],[])])
def q260_P : rfP := (flX9,csX9,lcX9,spX9,[q226_M,q258_M,q246_M,q259_M],[(76,2),(81,3)],[(50,0,9),(72,1,9)],[])
def q260_U : rfU := []
set_option maxHeartbeats 4000000 in
def q260_N : List rfB := [(0,([(0,.inr (.inl [61])),(1,.inl (((-2147483648),2147483647,1),none)),(2,.inl ((6,6,0),none))],[],[]),(61,[]),0)]
set_option maxRecDepth 100000 in
theorem q260_ok : rf_chkB q260_P q260_U wLay q260_M ddX9_mostOf [(15,[0]),(26,[1]),(53,[1]),(67,[2]),(84,[1]),(87,[3])] [] [0] 600 q260_N = true := by decide +kernel
/-- java/lang/Math.max -/
def q261_M : rfM := ((⟨"java/lang/Math", "max", "(II)I"⟩, prog_17_method_65_code, 2, (some .int)), (0,0), ([.inl ((1,10,1),none),.inl ((0,9,1),none)],[]), [], [(some (.inl ((1,10,1),none)),[],[])])
def q261_P : rfP := (flJ9,csJ9,lcJ9,spJ9,[],[],[],[])
def q261_U : rfU := []
set_option maxHeartbeats 4000000 in
def q261_N : List rfB := [(0,([(0,.inl ((1,10,1),none)),(1,.inl ((0,9,1),none))],[],[]),(6,[]),0),
  (10,([(0,.inl ((1,10,1),none)),(1,.inl ((0,9,1),none))],[.inl ((1,10,1),none)],[]),(0,[]),0)]
set_option maxRecDepth 100000 in
theorem q261_ok : rf_chkB q261_P q261_U wLay q261_M ddJ9_max_7cf53 [] [] [0,10] 600 q261_N = true := by decide +kernel
/-- NearSpell.Web.mostOf -/
def q262_M : rfM := ((⟨"NearSpell$Web", "mostOf", "(II)I"⟩, prog_11_method_14_code, 5, (some .int)), (8,192), ([.inr (.inl [61]),.inl (((-2147483648),2147483647,1),none),.inl ((7,7,0),none)],[]), [], [(some (.inl ((0,10,1),none)),[],[])])
def q262_P : rfP := (flX9,csX9,lcX9,spX9,[q226_M,q260_M,q246_M,q261_M],[(76,2),(81,3)],[(50,0,9),(72,1,9)],[])
def q262_U : rfU := []
set_option maxHeartbeats 4000000 in
def q262_N : List rfB := [(0,([(0,.inr (.inl [61])),(1,.inl (((-2147483648),2147483647,1),none)),(2,.inl ((7,7,0),none))],[],[]),(61,[]),0)]
set_option maxRecDepth 100000 in
theorem q262_ok : rf_chkB q262_P q262_U wLay q262_M ddX9_mostOf [(15,[0]),(26,[1]),(53,[1]),(67,[2]),(84,[1]),(87,[3])] [] [0] 600 q262_N = true := by decide +kernel
/-- java/lang/Math.max -/
def q263_M : rfM := ((⟨"java/lang/Math", "max", "(II)I"⟩, prog_17_method_65_code, 2, (some .int)), (0,0), ([.inl ((1,12,1),none),.inl ((0,10,1),none)],[]), [], [(some (.inl ((1,12,1),none)),[],[])])
def q263_P : rfP := (flJ9,csJ9,lcJ9,spJ9,[],[],[],[])
def q263_U : rfU := []
set_option maxHeartbeats 4000000 in
def q263_N : List rfB := [(0,([(0,.inl ((1,12,1),none)),(1,.inl ((0,10,1),none))],[],[]),(6,[]),0),
  (10,([(0,.inl ((1,12,1),none)),(1,.inl ((0,10,1),none))],[.inl ((1,12,1),none)],[]),(0,[]),0)]
set_option maxRecDepth 100000 in
theorem q263_ok : rf_chkB q263_P q263_U wLay q263_M ddJ9_max_7cf53 [] [] [0,10] 600 q263_N = true := by decide +kernel
/-- NearSpell.Web.mostOf -/
def q264_M : rfM := ((⟨"NearSpell$Web", "mostOf", "(II)I"⟩, prog_11_method_14_code, 5, (some .int)), (9,216), ([.inr (.inl [61]),.inl (((-2147483648),2147483647,1),none),.inl ((8,8,0),none)],[]), [], [(some (.inl ((0,12,1),none)),[],[])])
def q264_P : rfP := (flX9,csX9,lcX9,spX9,[q226_M,q262_M,q246_M,q263_M],[(76,2),(81,3)],[(50,0,9),(72,1,9)],[])
def q264_U : rfU := []
set_option maxHeartbeats 4000000 in
def q264_N : List rfB := [(0,([(0,.inr (.inl [61])),(1,.inl (((-2147483648),2147483647,1),none)),(2,.inl ((8,8,0),none))],[],[]),(61,[]),0)]
set_option maxRecDepth 100000 in
theorem q264_ok : rf_chkB q264_P q264_U wLay q264_M ddX9_mostOf [(15,[0]),(26,[1]),(53,[1]),(67,[2]),(84,[1]),(87,[3])] [] [0] 600 q264_N = true := by decide +kernel
/-- java/lang/Math.max -/
def q265_M : rfM := ((⟨"java/lang/Math", "max", "(II)I"⟩, prog_17_method_65_code, 2, (some .int)), (0,0), ([.inl ((1,13,1),none),.inl ((0,12,1),none)],[]), [], [(some (.inl ((1,13,1),none)),[],[])])
def q265_P : rfP := (flJ9,csJ9,lcJ9,spJ9,[],[],[],[])
def q265_U : rfU := []
set_option maxHeartbeats 4000000 in
def q265_N : List rfB := [(0,([(0,.inl ((1,13,1),none)),(1,.inl ((0,12,1),none))],[],[]),(6,[]),0),
  (10,([(0,.inl ((1,13,1),none)),(1,.inl ((0,12,1),none))],[.inl ((1,13,1),none)],[]),(0,[]),0)]
set_option maxRecDepth 100000 in
theorem q265_ok : rf_chkB q265_P q265_U wLay q265_M ddJ9_max_7cf53 [] [] [0,10] 600 q265_N = true := by decide +kernel
/-- NearSpell.Web.mostOf -/
def q266_M : rfM := ((⟨"NearSpell$Web", "mostOf", "(II)I"⟩, prog_11_method_14_code, 5, (some .int)), (10,240), ([.inr (.inl [61]),.inl (((-2147483648),2147483647,1),none),.inl ((9,9,0),none)],[]), [], [(some (.inl ((0,13,1),none)),[],[])])
def q266_P : rfP := (flX9,csX9,lcX9,spX9,[q226_M,q264_M,q246_M,q265_M],[(76,2),(81,3)],[(50,0,9),(72,1,9)],[])
def q266_U : rfU := []
set_option maxHeartbeats 4000000 in
def q266_N : List rfB := [(0,([(0,.inr (.inl [61])),(1,.inl (((-2147483648),2147483647,1),none)),(2,.inl ((9,9,0),none))],[],[]),(61,[]),0)]
set_option maxRecDepth 100000 in
theorem q266_ok : rf_chkB q266_P q266_U wLay q266_M ddX9_mostOf [(15,[0]),(26,[1]),(53,[1]),(67,[2]),(84,[1]),(87,[3])] [] [0] 600 q266_N = true := by decide +kernel
/-- java/lang/Math.max -/
def q267_M : rfM := ((⟨"java/lang/Math", "max", "(II)I"⟩, prog_17_method_65_code, 2, (some .int)), (0,0), ([.inl ((1,14,1),none),.inl ((0,13,1),none)],[]), [], [(some (.inl ((1,14,1),none)),[],[])])
def q267_P : rfP := (flJ9,csJ9,lcJ9,spJ9,[],[],[],[])
def q267_U : rfU := []
set_option maxHeartbeats 4000000 in
def q267_N : List rfB := [(0,([(0,.inl ((1,14,1),none)),(1,.inl ((0,13,1),none))],[],[]),(6,[]),0),
  (10,([(0,.inl ((1,14,1),none)),(1,.inl ((0,13,1),none))],[.inl ((1,14,1),none)],[]),(0,[]),0)]
set_option maxRecDepth 100000 in
theorem q267_ok : rf_chkB q267_P q267_U wLay q267_M ddJ9_max_7cf53 [] [] [0,10] 600 q267_N = true := by decide +kernel
/-- NearSpell.Web.mostOf -/
def q268_M : rfM := ((⟨"NearSpell$Web", "mostOf", "(II)I"⟩, prog_11_method_14_code, 5, (some .int)), (11,264), ([.inr (.inl [61]),.inl (((-2147483648),2147483647,1),none),.inl ((10,10,0),none)],[]), [], [(some (.inl ((0,14,1),none)),[],[])])
def q268_P : rfP := (flX9,csX9,lcX9,spX9,[q226_M,q266_M,q246_M,q267_M],[(76,2),(81,3)],[(50,0,9),(72,1,9)],[])
def q268_U : rfU := []
set_option maxHeartbeats 4000000 in
def q268_N : List rfB := [(0,([(0,.inr (.inl [61])),(1,.inl (((-2147483648),2147483647,1),none)),(2,.inl ((10,10,0),none))],[],[]),(61,[]),0)]
set_option maxRecDepth 100000 in
theorem q268_ok : rf_chkB q268_P q268_U wLay q268_M ddX9_mostOf [(15,[0]),(26,[1]),(53,[1]),(67,[2]),(84,[1]),(87,[3])] [] [0] 600 q268_N = true := by decide +kernel
/-- java/lang/Math.max -/
def q269_M : rfM := ((⟨"java/lang/Math", "max", "(II)I"⟩, prog_17_method_65_code, 2, (some .int)), (0,0), ([.inl ((1,15,1),none),.inl ((0,14,1),none)],[]), [], [(some (.inl ((1,15,1),none)),[],[])])
def q269_P : rfP := (flJ9,csJ9,lcJ9,spJ9,[],[],[],[])
def q269_U : rfU := []
set_option maxHeartbeats 4000000 in
def q269_N : List rfB := [(0,([(0,.inl ((1,15,1),none)),(1,.inl ((0,14,1),none))],[],[]),(6,[]),0),
  (10,([(0,.inl ((1,15,1),none)),(1,.inl ((0,14,1),none))],[.inl ((1,15,1),none)],[]),(0,[]),0)]
set_option maxRecDepth 100000 in
theorem q269_ok : rf_chkB q269_P q269_U wLay q269_M ddJ9_max_7cf53 [] [] [0,10] 600 q269_N = true := by decide +kernel
/-- NearSpell.Web.mostOf -/
def q270_M : rfM := ((⟨"NearSpell$Web", "mostOf", "(II)I"⟩, prog_11_method_14_code, 5, (some .int)), (12,288), ([.inr (.inl [61]),.inl (((-2147483648),2147483647,1),none),.inl ((11,11,0),none)],[]), [], [(some (.inl ((0,15,1),none)),[],[])])
def q270_P : rfP := (flX9,csX9,lcX9,spX9,[q226_M,q268_M,q246_M,q269_M],[(76,2),(81,3)],[(50,0,9),(72,1,9)],[])
def q270_U : rfU := []
set_option maxHeartbeats 4000000 in
def q270_N : List rfB := [(0,([(0,.inr (.inl [61])),(1,.inl (((-2147483648),2147483647,1),none)),(2,.inl ((11,11,0),none))],[],[]),(61,[]),0)]
set_option maxRecDepth 100000 in
theorem q270_ok : rf_chkB q270_P q270_U wLay q270_M ddX9_mostOf [(15,[0]),(26,[1]),(53,[1]),(67,[2]),(84,[1]),(87,[3])] [] [0] 600 q270_N = true := by decide +kernel
/-- java/lang/Math.max -/
def q271_M : rfM := ((⟨"java/lang/Math", "max", "(II)I"⟩, prog_17_method_65_code, 2, (some .int)), (0,0), ([.inl ((1,21,1),none),.inl ((0,15,1),none)],[]), [], [(some (.inl ((1,21,1),none)),[],[])])
def q271_P : rfP := (flJ9,csJ9,lcJ9,spJ9,[],[],[],[])
def q271_U : rfU := []
set_option maxHeartbeats 4000000 in
def q271_N : List rfB := [(0,([(0,.inl ((1,21,1),none)),(1,.inl ((0,15,1),none))],[],[]),(6,[]),0),
  (10,([(0,.inl ((1,21,1),none)),(1,.inl ((0,15,1),none))],[.inl ((1,21,1),none)],[]),(0,[]),0)]
set_option maxRecDepth 100000 in
theorem q271_ok : rf_chkB q271_P q271_U wLay q271_M ddJ9_max_7cf53 [] [] [0,10] 600 q271_N = true := by decide +kernel
/-- NearSpell.Web.mostOf -/
def q272_M : rfM := ((⟨"NearSpell$Web", "mostOf", "(II)I"⟩, prog_11_method_14_code, 5, (some .int)), (13,312), ([.inr (.inl [61]),.inl (((-2147483648),2147483647,1),none),.inl ((12,12,0),none)],[]), [], [(some (.inl ((0,21,1),none)),[],[])])
def q272_P : rfP := (flX9,csX9,lcX9,spX9,[q226_M,q270_M,q246_M,q271_M],[(76,2),(81,3)],[(50,0,9),(72,1,9)],[])
def q272_U : rfU := []
set_option maxHeartbeats 4000000 in
def q272_N : List rfB := [(0,([(0,.inr (.inl [61])),(1,.inl (((-2147483648),2147483647,1),none)),(2,.inl ((12,12,0),none))],[],[]),(61,[]),0)]
set_option maxRecDepth 100000 in
theorem q272_ok : rf_chkB q272_P q272_U wLay q272_M ddX9_mostOf [(15,[0]),(26,[1]),(53,[1]),(67,[2]),(84,[1]),(87,[3])] [] [0] 600 q272_N = true := by decide +kernel
/-- java/lang/Math.max -/
def q273_M : rfM := ((⟨"java/lang/Math", "max", "(II)I"⟩, prog_17_method_65_code, 2, (some .int)), (0,0), ([.inl ((1,22,1),none),.inl ((0,21,1),none)],[]), [], [(some (.inl ((1,22,1),none)),[],[])])
def q273_P : rfP := (flJ9,csJ9,lcJ9,spJ9,[],[],[],[])
def q273_U : rfU := []
set_option maxHeartbeats 4000000 in
def q273_N : List rfB := [(0,([(0,.inl ((1,22,1),none)),(1,.inl ((0,21,1),none))],[],[]),(6,[]),0),
  (10,([(0,.inl ((1,22,1),none)),(1,.inl ((0,21,1),none))],[.inl ((1,22,1),none)],[]),(0,[]),0)]
set_option maxRecDepth 100000 in
theorem q273_ok : rf_chkB q273_P q273_U wLay q273_M ddJ9_max_7cf53 [] [] [0,10] 600 q273_N = true := by decide +kernel
/-- NearSpell.Web.mostOf -/
def q274_M : rfM := ((⟨"NearSpell$Web", "mostOf", "(II)I"⟩, prog_11_method_14_code, 5, (some .int)), (14,336), ([.inr (.inl [61]),.inl (((-2147483648),2147483647,1),none),.inl ((13,13,0),none)],[]), [], [(some (.inl ((0,22,1),none)),[],[])])
def q274_P : rfP := (flX9,csX9,lcX9,spX9,[q226_M,q272_M,q246_M,q273_M],[(76,2),(81,3)],[(50,0,9),(72,1,9)],[])
def q274_U : rfU := []
set_option maxHeartbeats 4000000 in
def q274_N : List rfB := [(0,([(0,.inr (.inl [61])),(1,.inl (((-2147483648),2147483647,1),none)),(2,.inl ((13,13,0),none))],[],[]),(61,[]),0)]
set_option maxRecDepth 100000 in
theorem q274_ok : rf_chkB q274_P q274_U wLay q274_M ddX9_mostOf [(15,[0]),(26,[1]),(53,[1]),(67,[2]),(84,[1]),(87,[3])] [] [0] 600 q274_N = true := by decide +kernel
/-- NearSpell.Web.mostOf -/
def q275_M : rfM := ((⟨"NearSpell$Web", "mostOf", "(II)I"⟩, prog_11_method_14_code, 5, (some .int)), (1,24), ([.inr (.inl [61]),.inl (((-2147483648),2147483647,1),none),.inl (((-1),0,1),none)],[]), [], [(some (.inl ((0,1,1),none)),[],[])])
def q275_P : rfP := (flX9,csX9,lcX9,spX9,[q226_M,q245_M,q246_M,q247_M],[(76,2),(81,3)],[(50,0,9),(72,1,9)],[])
def q275_U : rfU := []
set_option maxHeartbeats 4000000 in
def q275_N : List rfB := [(0,([(0,.inr (.inl [61])),(1,.inl (((-2147483648),2147483647,1),none)),(2,.inl (((-1),0,1),none))],[],[]),(63,[]),0)]
set_option maxRecDepth 100000 in
theorem q275_ok : rf_chkB q275_P q275_U wLay q275_M ddX9_mostOf [(15,[0]),(26,[1]),(53,[1]),(67,[2]),(84,[1]),(87,[3])] [] [0] 600 q275_N = true := by decide +kernel
/-- NearSpell.Web.mostOf -/
def q276_M : rfM := ((⟨"NearSpell$Web", "mostOf", "(II)I"⟩, prog_11_method_14_code, 5, (some .int)), (2,48), ([.inr (.inl [61]),.inl (((-2147483648),2147483647,1),none),.inl ((0,1,1),none)],[]), [], [(some (.inl ((0,2,1),none)),[],[])])
def q276_P : rfP := (flX9,csX9,lcX9,spX9,[q226_M,q275_M,q246_M,q249_M],[(76,2),(81,3)],[(50,0,9),(72,1,9)],[])
def q276_U : rfU := []
set_option maxHeartbeats 4000000 in
def q276_N : List rfB := [(0,([(0,.inr (.inl [61])),(1,.inl (((-2147483648),2147483647,1),none)),(2,.inl ((0,1,1),none))],[],[]),(61,[]),0)]
set_option maxRecDepth 100000 in
theorem q276_ok : rf_chkB q276_P q276_U wLay q276_M ddX9_mostOf [(15,[0]),(26,[1]),(53,[1]),(67,[2]),(84,[1]),(87,[3])] [] [0] 600 q276_N = true := by decide +kernel
/-- NearSpell.Web.mostOf -/
def q277_M : rfM := ((⟨"NearSpell$Web", "mostOf", "(II)I"⟩, prog_11_method_14_code, 5, (some .int)), (3,72), ([.inr (.inl [61]),.inl (((-2147483648),2147483647,1),none),.inl ((1,2,1),none)],[]), [], [(some (.inl ((0,3,1),none)),[],[])])
def q277_P : rfP := (flX9,csX9,lcX9,spX9,[q226_M,q276_M,q246_M,q251_M],[(76,2),(81,3)],[(50,0,9),(72,1,9)],[])
def q277_U : rfU := []
set_option maxHeartbeats 4000000 in
def q277_N : List rfB := [(0,([(0,.inr (.inl [61])),(1,.inl (((-2147483648),2147483647,1),none)),(2,.inl ((1,2,1),none))],[],[]),(61,[]),0)]
set_option maxRecDepth 100000 in
theorem q277_ok : rf_chkB q277_P q277_U wLay q277_M ddX9_mostOf [(15,[0]),(26,[1]),(53,[1]),(67,[2]),(84,[1]),(87,[3])] [] [0] 600 q277_N = true := by decide +kernel
/-- NearSpell.Web.mostOf -/
def q278_M : rfM := ((⟨"NearSpell$Web", "mostOf", "(II)I"⟩, prog_11_method_14_code, 5, (some .int)), (4,96), ([.inr (.inl [61]),.inl (((-2147483648),2147483647,1),none),.inl ((2,3,1),none)],[]), [], [(some (.inl ((0,4,1),none)),[],[])])
def q278_P : rfP := (flX9,csX9,lcX9,spX9,[q226_M,q277_M,q246_M,q253_M],[(76,2),(81,3)],[(50,0,9),(72,1,9)],[])
def q278_U : rfU := []
set_option maxHeartbeats 4000000 in
def q278_N : List rfB := [(0,([(0,.inr (.inl [61])),(1,.inl (((-2147483648),2147483647,1),none)),(2,.inl ((2,3,1),none))],[],[]),(61,[]),0)]
set_option maxRecDepth 100000 in
theorem q278_ok : rf_chkB q278_P q278_U wLay q278_M ddX9_mostOf [(15,[0]),(26,[1]),(53,[1]),(67,[2]),(84,[1]),(87,[3])] [] [0] 600 q278_N = true := by decide +kernel
/-- NearSpell.Web.mostOf -/
def q279_M : rfM := ((⟨"NearSpell$Web", "mostOf", "(II)I"⟩, prog_11_method_14_code, 5, (some .int)), (5,120), ([.inr (.inl [61]),.inl (((-2147483648),2147483647,1),none),.inl ((3,4,1),none)],[]), [], [(some (.inl ((0,5,1),none)),[],[])])
def q279_P : rfP := (flX9,csX9,lcX9,spX9,[q226_M,q278_M,q246_M,q255_M],[(76,2),(81,3)],[(50,0,9),(72,1,9)],[])
def q279_U : rfU := []
set_option maxHeartbeats 4000000 in
def q279_N : List rfB := [(0,([(0,.inr (.inl [61])),(1,.inl (((-2147483648),2147483647,1),none)),(2,.inl ((3,4,1),none))],[],[]),(61,[]),0)]
set_option maxRecDepth 100000 in
theorem q279_ok : rf_chkB q279_P q279_U wLay q279_M ddX9_mostOf [(15,[0]),(26,[1]),(53,[1]),(67,[2]),(84,[1]),(87,[3])] [] [0] 600 q279_N = true := by decide +kernel
/-- NearSpell.Web.mostOf -/
def q280_M : rfM := ((⟨"NearSpell$Web", "mostOf", "(II)I"⟩, prog_11_method_14_code, 5, (some .int)), (6,144), ([.inr (.inl [61]),.inl (((-2147483648),2147483647,1),none),.inl ((4,5,1),none)],[]), [], [(some (.inl ((0,6,1),none)),[],[])])
def q280_P : rfP := (flX9,csX9,lcX9,spX9,[q226_M,q279_M,q246_M,q257_M],[(76,2),(81,3)],[(50,0,9),(72,1,9)],[])
def q280_U : rfU := []
set_option maxHeartbeats 4000000 in
def q280_N : List rfB := [(0,([(0,.inr (.inl [61])),(1,.inl (((-2147483648),2147483647,1),none)),(2,.inl ((4,5,1),none))],[],[]),(61,[]),0)]
set_option maxRecDepth 100000 in
theorem q280_ok : rf_chkB q280_P q280_U wLay q280_M ddX9_mostOf [(15,[0]),(26,[1]),(53,[1]),(67,[2]),(84,[1]),(87,[3])] [] [0] 600 q280_N = true := by decide +kernel
/-- NearSpell.Web.mostOf -/
def q281_M : rfM := ((⟨"NearSpell$Web", "mostOf", "(II)I"⟩, prog_11_method_14_code, 5, (some .int)), (7,168), ([.inr (.inl [61]),.inl (((-2147483648),2147483647,1),none),.inl ((5,6,1),none)],[]), [], [(some (.inl ((0,9,1),none)),[],[])])
def q281_P : rfP := (flX9,csX9,lcX9,spX9,[q226_M,q280_M,q246_M,q259_M],[(76,2),(81,3)],[(50,0,9),(72,1,9)],[])
def q281_U : rfU := []
set_option maxHeartbeats 4000000 in
def q281_N : List rfB := [(0,([(0,.inr (.inl [61])),(1,.inl (((-2147483648),2147483647,1),none)),(2,.inl ((5,6,1),none))],[],[]),(61,[]),0)]
set_option maxRecDepth 100000 in
theorem q281_ok : rf_chkB q281_P q281_U wLay q281_M ddX9_mostOf [(15,[0]),(26,[1]),(53,[1]),(67,[2]),(84,[1]),(87,[3])] [] [0] 600 q281_N = true := by decide +kernel
/-- NearSpell.Web.mostOf -/
def q282_M : rfM := ((⟨"NearSpell$Web", "mostOf", "(II)I"⟩, prog_11_method_14_code, 5, (some .int)), (8,192), ([.inr (.inl [61]),.inl (((-2147483648),2147483647,1),none),.inl ((6,7,1),none)],[]), [], [(some (.inl ((0,10,1),none)),[],[])])
def q282_P : rfP := (flX9,csX9,lcX9,spX9,[q226_M,q281_M,q246_M,q261_M],[(76,2),(81,3)],[(50,0,9),(72,1,9)],[])
def q282_U : rfU := []
set_option maxHeartbeats 4000000 in
def q282_N : List rfB := [(0,([(0,.inr (.inl [61])),(1,.inl (((-2147483648),2147483647,1),none)),(2,.inl ((6,7,1),none))],[],[]),(61,[]),0)]
set_option maxRecDepth 100000 in
theorem q282_ok : rf_chkB q282_P q282_U wLay q282_M ddX9_mostOf [(15,[0]),(26,[1]),(53,[1]),(67,[2]),(84,[1]),(87,[3])] [] [0] 600 q282_N = true := by decide +kernel
/-- NearSpell.Web.mostOf -/
def q283_M : rfM := ((⟨"NearSpell$Web", "mostOf", "(II)I"⟩, prog_11_method_14_code, 5, (some .int)), (9,216), ([.inr (.inl [61]),.inl (((-2147483648),2147483647,1),none),.inl ((7,8,1),none)],[]), [], [(some (.inl ((0,12,1),none)),[],[])])
def q283_P : rfP := (flX9,csX9,lcX9,spX9,[q226_M,q282_M,q246_M,q263_M],[(76,2),(81,3)],[(50,0,9),(72,1,9)],[])
def q283_U : rfU := []
set_option maxHeartbeats 4000000 in
def q283_N : List rfB := [(0,([(0,.inr (.inl [61])),(1,.inl (((-2147483648),2147483647,1),none)),(2,.inl ((7,8,1),none))],[],[]),(61,[]),0)]
set_option maxRecDepth 100000 in
theorem q283_ok : rf_chkB q283_P q283_U wLay q283_M ddX9_mostOf [(15,[0]),(26,[1]),(53,[1]),(67,[2]),(84,[1]),(87,[3])] [] [0] 600 q283_N = true := by decide +kernel
/-- NearSpell.Web.mostOf -/
def q284_M : rfM := ((⟨"NearSpell$Web", "mostOf", "(II)I"⟩, prog_11_method_14_code, 5, (some .int)), (10,240), ([.inr (.inl [61]),.inl (((-2147483648),2147483647,1),none),.inl ((8,9,1),none)],[]), [], [(some (.inl ((0,13,1),none)),[],[])])
def q284_P : rfP := (flX9,csX9,lcX9,spX9,[q226_M,q283_M,q246_M,q265_M],[(76,2),(81,3)],[(50,0,9),(72,1,9)],[])
def q284_U : rfU := []
set_option maxHeartbeats 4000000 in
def q284_N : List rfB := [(0,([(0,.inr (.inl [61])),(1,.inl (((-2147483648),2147483647,1),none)),(2,.inl ((8,9,1),none))],[],[]),(61,[]),0)]
set_option maxRecDepth 100000 in
theorem q284_ok : rf_chkB q284_P q284_U wLay q284_M ddX9_mostOf [(15,[0]),(26,[1]),(53,[1]),(67,[2]),(84,[1]),(87,[3])] [] [0] 600 q284_N = true := by decide +kernel
/-- NearSpell.Web.mostOf -/
def q285_M : rfM := ((⟨"NearSpell$Web", "mostOf", "(II)I"⟩, prog_11_method_14_code, 5, (some .int)), (11,264), ([.inr (.inl [61]),.inl (((-2147483648),2147483647,1),none),.inl ((9,10,1),none)],[]), [], [(some (.inl ((0,14,1),none)),[],[])])
def q285_P : rfP := (flX9,csX9,lcX9,spX9,[q226_M,q284_M,q246_M,q267_M],[(76,2),(81,3)],[(50,0,9),(72,1,9)],[])
def q285_U : rfU := []
set_option maxHeartbeats 4000000 in
def q285_N : List rfB := [(0,([(0,.inr (.inl [61])),(1,.inl (((-2147483648),2147483647,1),none)),(2,.inl ((9,10,1),none))],[],[]),(61,[]),0)]
set_option maxRecDepth 100000 in
theorem q285_ok : rf_chkB q285_P q285_U wLay q285_M ddX9_mostOf [(15,[0]),(26,[1]),(53,[1]),(67,[2]),(84,[1]),(87,[3])] [] [0] 600 q285_N = true := by decide +kernel
/-- NearSpell.Web.mostOf -/
def q286_M : rfM := ((⟨"NearSpell$Web", "mostOf", "(II)I"⟩, prog_11_method_14_code, 5, (some .int)), (12,288), ([.inr (.inl [61]),.inl (((-2147483648),2147483647,1),none),.inl ((10,11,1),none)],[]), [], [(some (.inl ((0,15,1),none)),[],[])])
def q286_P : rfP := (flX9,csX9,lcX9,spX9,[q226_M,q285_M,q246_M,q269_M],[(76,2),(81,3)],[(50,0,9),(72,1,9)],[])
def q286_U : rfU := []
set_option maxHeartbeats 4000000 in
def q286_N : List rfB := [(0,([(0,.inr (.inl [61])),(1,.inl (((-2147483648),2147483647,1),none)),(2,.inl ((10,11,1),none))],[],[]),(61,[]),0)]
set_option maxRecDepth 100000 in
theorem q286_ok : rf_chkB q286_P q286_U wLay q286_M ddX9_mostOf [(15,[0]),(26,[1]),(53,[1]),(67,[2]),(84,[1]),(87,[3])] [] [0] 600 q286_N = true := by decide +kernel
/-- NearSpell.Web.mostOf -/
def q287_M : rfM := ((⟨"NearSpell$Web", "mostOf", "(II)I"⟩, prog_11_method_14_code, 5, (some .int)), (13,312), ([.inr (.inl [61]),.inl (((-2147483648),2147483647,1),none),.inl ((11,12,1),none)],[]), [], [(some (.inl ((0,21,1),none)),[],[])])
def q287_P : rfP := (flX9,csX9,lcX9,spX9,[q226_M,q286_M,q246_M,q271_M],[(76,2),(81,3)],[(50,0,9),(72,1,9)],[])
def q287_U : rfU := []
set_option maxHeartbeats 4000000 in
def q287_N : List rfB := [(0,([(0,.inr (.inl [61])),(1,.inl (((-2147483648),2147483647,1),none)),(2,.inl ((11,12,1),none))],[],[]),(61,[]),0)]
set_option maxRecDepth 100000 in
theorem q287_ok : rf_chkB q287_P q287_U wLay q287_M ddX9_mostOf [(15,[0]),(26,[1]),(53,[1]),(67,[2]),(84,[1]),(87,[3])] [] [0] 600 q287_N = true := by decide +kernel
/-- NearSpell.Web.mostOf -/
def q288_M : rfM := ((⟨"NearSpell$Web", "mostOf", "(II)I"⟩, prog_11_method_14_code, 5, (some .int)), (2,48), ([.inr (.inl [61]),.inl (((-2147483648),2147483647,1),none),.inl (((-1),1,1),none)],[]), [], [(some (.inl ((0,2,1),none)),[],[])])
def q288_P : rfP := (flX9,csX9,lcX9,spX9,[q226_M,q275_M,q246_M,q249_M],[(76,2),(81,3)],[(50,0,9),(72,1,9)],[])
def q288_U : rfU := []
set_option maxHeartbeats 4000000 in
def q288_N : List rfB := [(0,([(0,.inr (.inl [61])),(1,.inl (((-2147483648),2147483647,1),none)),(2,.inl (((-1),1,1),none))],[],[]),(63,[]),0)]
set_option maxRecDepth 100000 in
theorem q288_ok : rf_chkB q288_P q288_U wLay q288_M ddX9_mostOf [(15,[0]),(26,[1]),(53,[1]),(67,[2]),(84,[1]),(87,[3])] [] [0] 600 q288_N = true := by decide +kernel
/-- NearSpell.Web.mostOf -/
def q289_M : rfM := ((⟨"NearSpell$Web", "mostOf", "(II)I"⟩, prog_11_method_14_code, 5, (some .int)), (3,72), ([.inr (.inl [61]),.inl (((-2147483648),2147483647,1),none),.inl ((0,2,1),none)],[]), [], [(some (.inl ((0,3,1),none)),[],[])])
def q289_P : rfP := (flX9,csX9,lcX9,spX9,[q226_M,q288_M,q246_M,q251_M],[(76,2),(81,3)],[(50,0,9),(72,1,9)],[])
def q289_U : rfU := []
set_option maxHeartbeats 4000000 in
def q289_N : List rfB := [(0,([(0,.inr (.inl [61])),(1,.inl (((-2147483648),2147483647,1),none)),(2,.inl ((0,2,1),none))],[],[]),(61,[]),0)]
set_option maxRecDepth 100000 in
theorem q289_ok : rf_chkB q289_P q289_U wLay q289_M ddX9_mostOf [(15,[0]),(26,[1]),(53,[1]),(67,[2]),(84,[1]),(87,[3])] [] [0] 600 q289_N = true := by decide +kernel
/-- NearSpell.Web.mostOf -/
def q290_M : rfM := ((⟨"NearSpell$Web", "mostOf", "(II)I"⟩, prog_11_method_14_code, 5, (some .int)), (4,96), ([.inr (.inl [61]),.inl (((-2147483648),2147483647,1),none),.inl ((1,3,1),none)],[]), [], [(some (.inl ((0,4,1),none)),[],[])])
def q290_P : rfP := (flX9,csX9,lcX9,spX9,[q226_M,q289_M,q246_M,q253_M],[(76,2),(81,3)],[(50,0,9),(72,1,9)],[])
def q290_U : rfU := []
set_option maxHeartbeats 4000000 in
def q290_N : List rfB := [(0,([(0,.inr (.inl [61])),(1,.inl (((-2147483648),2147483647,1),none)),(2,.inl ((1,3,1),none))],[],[]),(61,[]),0)]
set_option maxRecDepth 100000 in
theorem q290_ok : rf_chkB q290_P q290_U wLay q290_M ddX9_mostOf [(15,[0]),(26,[1]),(53,[1]),(67,[2]),(84,[1]),(87,[3])] [] [0] 600 q290_N = true := by decide +kernel
/-- NearSpell.Web.mostOf -/
def q291_M : rfM := ((⟨"NearSpell$Web", "mostOf", "(II)I"⟩, prog_11_method_14_code, 5, (some .int)), (5,120), ([.inr (.inl [61]),.inl (((-2147483648),2147483647,1),none),.inl ((2,4,1),none)],[]), [], [(some (.inl ((0,5,1),none)),[],[])])
def q291_P : rfP := (flX9,csX9,lcX9,spX9,[q226_M,q290_M,q246_M,q255_M],[(76,2),(81,3)],[(50,0,9),(72,1,9)],[])
def q291_U : rfU := []
set_option maxHeartbeats 4000000 in
def q291_N : List rfB := [(0,([(0,.inr (.inl [61])),(1,.inl (((-2147483648),2147483647,1),none)),(2,.inl ((2,4,1),none))],[],[]),(61,[]),0)]
set_option maxRecDepth 100000 in
theorem q291_ok : rf_chkB q291_P q291_U wLay q291_M ddX9_mostOf [(15,[0]),(26,[1]),(53,[1]),(67,[2]),(84,[1]),(87,[3])] [] [0] 600 q291_N = true := by decide +kernel
/-- NearSpell.Web.mostOf -/
def q292_M : rfM := ((⟨"NearSpell$Web", "mostOf", "(II)I"⟩, prog_11_method_14_code, 5, (some .int)), (6,144), ([.inr (.inl [61]),.inl (((-2147483648),2147483647,1),none),.inl ((3,5,1),none)],[]), [], [(some (.inl ((0,6,1),none)),[],[])])
def q292_P : rfP := (flX9,csX9,lcX9,spX9,[q226_M,q291_M,q246_M,q257_M],[(76,2),(81,3)],[(50,0,9),(72,1,9)],[])
def q292_U : rfU := []
set_option maxHeartbeats 4000000 in
def q292_N : List rfB := [(0,([(0,.inr (.inl [61])),(1,.inl (((-2147483648),2147483647,1),none)),(2,.inl ((3,5,1),none))],[],[]),(61,[]),0)]
set_option maxRecDepth 100000 in
theorem q292_ok : rf_chkB q292_P q292_U wLay q292_M ddX9_mostOf [(15,[0]),(26,[1]),(53,[1]),(67,[2]),(84,[1]),(87,[3])] [] [0] 600 q292_N = true := by decide +kernel
/-- NearSpell.Web.mostOf -/
def q293_M : rfM := ((⟨"NearSpell$Web", "mostOf", "(II)I"⟩, prog_11_method_14_code, 5, (some .int)), (7,168), ([.inr (.inl [61]),.inl (((-2147483648),2147483647,1),none),.inl ((4,6,1),none)],[]), [], [(some (.inl ((0,9,1),none)),[],[])])
def q293_P : rfP := (flX9,csX9,lcX9,spX9,[q226_M,q292_M,q246_M,q259_M],[(76,2),(81,3)],[(50,0,9),(72,1,9)],[])
def q293_U : rfU := []
set_option maxHeartbeats 4000000 in
def q293_N : List rfB := [(0,([(0,.inr (.inl [61])),(1,.inl (((-2147483648),2147483647,1),none)),(2,.inl ((4,6,1),none))],[],[]),(61,[]),0)]
set_option maxRecDepth 100000 in
theorem q293_ok : rf_chkB q293_P q293_U wLay q293_M ddX9_mostOf [(15,[0]),(26,[1]),(53,[1]),(67,[2]),(84,[1]),(87,[3])] [] [0] 600 q293_N = true := by decide +kernel
/-- NearSpell.Web.mostOf -/
def q294_M : rfM := ((⟨"NearSpell$Web", "mostOf", "(II)I"⟩, prog_11_method_14_code, 5, (some .int)), (8,192), ([.inr (.inl [61]),.inl (((-2147483648),2147483647,1),none),.inl ((5,7,1),none)],[]), [], [(some (.inl ((0,10,1),none)),[],[])])
def q294_P : rfP := (flX9,csX9,lcX9,spX9,[q226_M,q293_M,q246_M,q261_M],[(76,2),(81,3)],[(50,0,9),(72,1,9)],[])
def q294_U : rfU := []
set_option maxHeartbeats 4000000 in
def q294_N : List rfB := [(0,([(0,.inr (.inl [61])),(1,.inl (((-2147483648),2147483647,1),none)),(2,.inl ((5,7,1),none))],[],[]),(61,[]),0)]
set_option maxRecDepth 100000 in
theorem q294_ok : rf_chkB q294_P q294_U wLay q294_M ddX9_mostOf [(15,[0]),(26,[1]),(53,[1]),(67,[2]),(84,[1]),(87,[3])] [] [0] 600 q294_N = true := by decide +kernel
/-- NearSpell.Web.mostOf -/
def q295_M : rfM := ((⟨"NearSpell$Web", "mostOf", "(II)I"⟩, prog_11_method_14_code, 5, (some .int)), (9,216), ([.inr (.inl [61]),.inl (((-2147483648),2147483647,1),none),.inl ((6,8,1),none)],[]), [], [(some (.inl ((0,12,1),none)),[],[])])
def q295_P : rfP := (flX9,csX9,lcX9,spX9,[q226_M,q294_M,q246_M,q263_M],[(76,2),(81,3)],[(50,0,9),(72,1,9)],[])
def q295_U : rfU := []
set_option maxHeartbeats 4000000 in
def q295_N : List rfB := [(0,([(0,.inr (.inl [61])),(1,.inl (((-2147483648),2147483647,1),none)),(2,.inl ((6,8,1),none))],[],[]),(61,[]),0)]
set_option maxRecDepth 100000 in
theorem q295_ok : rf_chkB q295_P q295_U wLay q295_M ddX9_mostOf [(15,[0]),(26,[1]),(53,[1]),(67,[2]),(84,[1]),(87,[3])] [] [0] 600 q295_N = true := by decide +kernel
/-- NearSpell.Web.mostOf -/
def q296_M : rfM := ((⟨"NearSpell$Web", "mostOf", "(II)I"⟩, prog_11_method_14_code, 5, (some .int)), (10,240), ([.inr (.inl [61]),.inl (((-2147483648),2147483647,1),none),.inl ((7,9,1),none)],[]), [], [(some (.inl ((0,13,1),none)),[],[])])
def q296_P : rfP := (flX9,csX9,lcX9,spX9,[q226_M,q295_M,q246_M,q265_M],[(76,2),(81,3)],[(50,0,9),(72,1,9)],[])
def q296_U : rfU := []
set_option maxHeartbeats 4000000 in
def q296_N : List rfB := [(0,([(0,.inr (.inl [61])),(1,.inl (((-2147483648),2147483647,1),none)),(2,.inl ((7,9,1),none))],[],[]),(61,[]),0)]
set_option maxRecDepth 100000 in
theorem q296_ok : rf_chkB q296_P q296_U wLay q296_M ddX9_mostOf [(15,[0]),(26,[1]),(53,[1]),(67,[2]),(84,[1]),(87,[3])] [] [0] 600 q296_N = true := by decide +kernel
/-- NearSpell.Web.mostOf -/
def q297_M : rfM := ((⟨"NearSpell$Web", "mostOf", "(II)I"⟩, prog_11_method_14_code, 5, (some .int)), (11,264), ([.inr (.inl [61]),.inl (((-2147483648),2147483647,1),none),.inl ((8,10,1),none)],[]), [], [(some (.inl ((0,14,1),none)),[],[])])
def q297_P : rfP := (flX9,csX9,lcX9,spX9,[q226_M,q296_M,q246_M,q267_M],[(76,2),(81,3)],[(50,0,9),(72,1,9)],[])
def q297_U : rfU := []
set_option maxHeartbeats 4000000 in
def q297_N : List rfB := [(0,([(0,.inr (.inl [61])),(1,.inl (((-2147483648),2147483647,1),none)),(2,.inl ((8,10,1),none))],[],[]),(61,[]),0)]
set_option maxRecDepth 100000 in
theorem q297_ok : rf_chkB q297_P q297_U wLay q297_M ddX9_mostOf [(15,[0]),(26,[1]),(53,[1]),(67,[2]),(84,[1]),(87,[3])] [] [0] 600 q297_N = true := by decide +kernel
/-- NearSpell.Web.mostOf -/
def q298_M : rfM := ((⟨"NearSpell$Web", "mostOf", "(II)I"⟩, prog_11_method_14_code, 5, (some .int)), (12,288), ([.inr (.inl [61]),.inl (((-2147483648),2147483647,1),none),.inl ((9,11,1),none)],[]), [], [(some (.inl ((0,15,1),none)),[],[])])
def q298_P : rfP := (flX9,csX9,lcX9,spX9,[q226_M,q297_M,q246_M,q269_M],[(76,2),(81,3)],[(50,0,9),(72,1,9)],[])
def q298_U : rfU := []
set_option maxHeartbeats 4000000 in
def q298_N : List rfB := [(0,([(0,.inr (.inl [61])),(1,.inl (((-2147483648),2147483647,1),none)),(2,.inl ((9,11,1),none))],[],[]),(61,[]),0)]
set_option maxRecDepth 100000 in
theorem q298_ok : rf_chkB q298_P q298_U wLay q298_M ddX9_mostOf [(15,[0]),(26,[1]),(53,[1]),(67,[2]),(84,[1]),(87,[3])] [] [0] 600 q298_N = true := by decide +kernel
/-- NearSpell.Web.mostOf -/
def q299_M : rfM := ((⟨"NearSpell$Web", "mostOf", "(II)I"⟩, prog_11_method_14_code, 5, (some .int)), (13,312), ([.inr (.inl [61]),.inl (((-2147483648),2147483647,1),none),.inl ((10,12,1),none)],[]), [], [(some (.inl ((0,21,1),none)),[],[])])
def q299_P : rfP := (flX9,csX9,lcX9,spX9,[q226_M,q298_M,q246_M,q271_M],[(76,2),(81,3)],[(50,0,9),(72,1,9)],[])
def q299_U : rfU := []
set_option maxHeartbeats 4000000 in
def q299_N : List rfB := [(0,([(0,.inr (.inl [61])),(1,.inl (((-2147483648),2147483647,1),none)),(2,.inl ((10,12,1),none))],[],[]),(61,[]),0)]
set_option maxRecDepth 100000 in
theorem q299_ok : rf_chkB q299_P q299_U wLay q299_M ddX9_mostOf [(15,[0]),(26,[1]),(53,[1]),(67,[2]),(84,[1]),(87,[3])] [] [0] 600 q299_N = true := by decide +kernel
