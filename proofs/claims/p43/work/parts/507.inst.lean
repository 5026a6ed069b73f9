/-- NearSpell.ask -/
def q420_M : rfM := ((⟨"NearSpell", "ask", "(II)I"⟩, prog_1_method_45_code, 3, (some .int)), (7,165), ([.inr (.inl [70]),.inl (((-2147483648),2147483647,1),none),.inl (((-2147483648),2147483647,1),none)],[]), [(17,0),(18,0),(19,0),(20,4),(20,5),(67,0)], [(some (.inl (((-1),11,1),none)),[],[])])
def ddX11_ask : List (Nat × Instr × Nat) := [(0,.iload_n 1,1),(1,.ifCond .lt 8,3),(4,.iload_n 1,1),(5,.iconst 1,1),(6,.if_icmp .le 5,3),(9,.iconst (-1),1),(10,.ireturn,1),(11,.aload_n 0,1),(12,.getfield 92,3),(15,.iload_n 1,1),(16,.iload_n 2,1),(17,.invokevirtual 330,3),(20,.ireturn,1)]
def q420_P : rfP := (flX11,csX11,lcX11,spX11,[q419_M],[],[(330,0,10)],[])
def q420_U : rfU := []
set_option maxHeartbeats 4000000 in
def q420_N : List rfB := [(0,([(0,.inr (.inl [70])),(1,.inl (((-2147483648),2147483647,1),none)),(2,.inl (((-2147483648),2147483647,1),none))],[],[]),(12,[]),0),
  (9,([(0,.inr (.inl [70])),(1,.inl (((-2147483648),2147483647,1),none)),(2,.inl (((-2147483648),2147483647,1),none))],[],[]),(1,[]),0)]
set_option maxRecDepth 100000 in
theorem q420_ok : rf_chkB q420_P q420_U wLay q420_M ddX11_ask [(17,[0])] [] [0,9] 600 q420_N = true := by decide +kernel
/-- NearSpell.Archive.keepBox -/
def q421_M : rfM := ((⟨"NearSpell$Archive", "keepBox", "(ILNearSpell$State;)V"⟩, prog_2_method_10_code, 3, none), (1,18), ([.inr (.inl [16]),.inl ((0,2,1),none),.inr (.inl [13])],[]), [(15,0),(16,3)], [(none,[],[])])
def ddX0_keepBox : List (Nat × Instr × Nat) := [(0,.iload_n 1,1),(1,.ifCond .lt 38,3),(4,.iload_n 1,1),(5,.iconst 3,1),(6,.if_icmp .ge 33,3),(9,.aload_n 2,1),(10,.getfield 40,3),(13,.iconst 0,1),(14,.aload_n 0,1),(15,.getfield 17,3),(18,.iload_n 1,1),(19,.bipush 37,2),(21,.imul,1),(22,.bipush 37,2),(24,.invokestatic 47,3),(27,.aload_n 0,1),(28,.dup,1),(29,.getfield 20,3),(32,.iconst 1,1),(33,.iload_n 1,1),(34,.ishl,1),(35,.ior,1),(36,.putfield 20,3),(39,.return_,1)]
def q421_P : rfP := (flX0,csX0,lcX0,spX0,[],[],[],[47])
def q421_U : rfU := []
set_option maxHeartbeats 4000000 in
def q421_N : List rfB := [(0,([(0,.inr (.inl [16])),(1,.inl ((0,2,1),none)),(2,.inr (.inl [13]))],[],[]),(23,[]),0)]
set_option maxRecDepth 100000 in
theorem q421_ok : rf_chkB q421_P q421_U wLay q421_M ddX0_keepBox [] [] [0] 600 q421_N = true := by decide +kernel
/-- NearSpell.image -/
def q422_M : rfM := ((⟨"NearSpell", "image", "(I)I"⟩, prog_1_method_46_code, 2, (some .int)), (2,43), ([.inr (.inl [70]),.inl (((-2147483648),2147483647,1),none)],[]), [(15,0),(16,3)], [(some (.inl (((-2147483648),2147483647,1),none)),[],[])])
def ddX11_image : List (Nat × Instr × Nat) := [(0,.iload_n 1,1),(1,.ifCond .lt 8,3),(4,.iload_n 1,1),(5,.iconst 3,1),(6,.if_icmp .lt 5,3),(9,.iconst (-1),1),(10,.ireturn,1),(11,.aload_n 0,1),(12,.getfield 42,3),(15,.iload_n 1,1),(16,.aload_n 0,1),(17,.getfield 35,3),(20,.invokevirtual 333,3),(23,.aload_n 0,1),(24,.getfield 35,3),(27,.invokevirtual 183,3),(30,.ireturn,1)]
def q422_P : rfP := (flX11,csX11,lcX11,spX11,[q421_M,q76_M],[],[(183,1,8),(333,0,0)],[])
def q422_U : rfU := []
set_option maxHeartbeats 4000000 in
def q422_N : List rfB := [(0,([(0,.inr (.inl [70])),(1,.inl (((-2147483648),2147483647,1),none))],[],[]),(16,[]),0),
  (9,([(0,.inr (.inl [70])),(1,.inl (((-2147483648),2147483647,1),none))],[],[]),(1,[]),0)]
set_option maxRecDepth 100000 in
theorem q422_ok : rf_chkB q422_P q422_U wLay q422_M ddX11_image [(20,[0]),(27,[1])] [] [0,9] 600 q422_N = true := by decide +kernel
/-- NearSpell.Archive.openBox -/
def q423_M : rfM := ((⟨"NearSpell$Archive", "openBox", "(ILNearSpell$State;)Z"⟩, prog_2_method_11_code, 3, (some .boolean)), (1,18), ([.inr (.inl [16]),.inl (((-2147483648),2147483647,1),none),.inr (.inl [13])],[]), [(12,0)], [(some (.inl ((0,0,0),none)),[],[]),(some (.inl ((1,1,0),none)),[(1,0,2)],[])])
def ddX0_openBox : List (Nat × Instr × Nat) := [(0,.iload_n 1,1),(1,.ifCond .lt 19,3),(4,.iload_n 1,1),(5,.iconst 3,1),(6,.if_icmp .ge 14,3),(9,.aload_n 0,1),(10,.getfield 20,3),(13,.iload_n 1,1),(14,.ishr,1),(15,.iconst 1,1),(16,.iand,1),(17,.ifCond .ne 5,3),(20,.iconst 0,1),(21,.ireturn,1),(22,.aload_n 0,1),(23,.getfield 17,3),(26,.iload_n 1,1),(27,.bipush 37,2),(29,.imul,1),(30,.aload_n 2,1),(31,.getfield 40,3),(34,.iconst 0,1),(35,.bipush 37,2),(37,.invokestatic 47,3),(40,.iconst 1,1),(41,.ireturn,1)]
def q423_P : rfP := (flX0,csX0,lcX0,spX0,[],[],[],[47])
def q423_U : rfU := []
set_option maxHeartbeats 4000000 in
def q423_N : List rfB := [(0,([(0,.inr (.inl [16])),(1,.inl (((-2147483648),2147483647,1),none)),(2,.inr (.inl [13]))],[],[]),(25,[]),0),
  (20,([(0,.inr (.inl [16])),(1,.inl (((-2147483648),2147483647,1),none)),(2,.inr (.inl [13]))],[],[]),(1,[]),0)]
set_option maxRecDepth 100000 in
theorem q423_ok : rf_chkB q423_P q423_U wLay q423_M ddX0_openBox [] [] [0,20] 600 q423_N = true := by decide +kernel
/-- NearSpell.Archive.dropActs -/
def q424_M : rfM := ((⟨"NearSpell$Archive", "dropActs", "(LNearSpell$State;)V"⟩, prog_2_method_2_code, 2, none), (2,41), ([.inr (.inl [16]),.inr (.inl [13])],[]), [(14,0),(16,4),(16,5),(16,6)], [(none,[],[((16,3),(0,0,0),none),((16,4),(0,0,0),none),((16,5),(0,0,0),none)])])
def ddX0_dropActs : List (Nat × Instr × Nat) := [(0,.aload_n 0,1),(1,.iconst 0,1),(2,.putfield 24,3),(5,.aload_n 0,1),(6,.iconst 0,1),(7,.putfield 27,3),(10,.aload_n 0,1),(11,.iconst 0,1),(12,.putfield 30,3),(15,.aload_n 0,1),(16,.aload_n 1,1),(17,.invokevirtual 33,3),(20,.return_,1)]
def q424_P : rfP := (flX0,csX0,lcX0,spX0,[q72_M],[],[(33,0,0)],[])
def q424_U : rfU := []
set_option maxHeartbeats 4000000 in
def q424_N : List rfB := [(0,([(0,.inr (.inl [16])),(1,.inr (.inl [13]))],[],[]),(12,[]),0)]
set_option maxRecDepth 100000 in
theorem q424_ok : rf_chkB q424_P q424_U wLay q424_M ddX0_dropActs [(17,[0])] [] [0] 600 q424_N = true := by decide +kernel
/-- NearSpell.back -/
def q425_M : rfM := ((⟨"NearSpell", "back", "(I)I"⟩, prog_1_method_47_code, 2, (some .int)), (3,62), ([.inr (.inl [70]),.inl (((-2147483648),2147483647,1),none)],[]), [(12,0),(14,0),(16,4),(16,5),(16,6)], [(some (.inl (((-2147483648),2147483647,1),none)),[],[])])
def ddX11_back : List (Nat × Instr × Nat) := [(0,.aload_n 0,1),(1,.getfield 42,3),(4,.iload_n 1,1),(5,.aload_n 0,1),(6,.getfield 35,3),(9,.invokevirtual 337,3),(12,.ifCond .ne 5,3),(15,.iconst (-1),1),(16,.ireturn,1),(17,.aload_n 0,1),(18,.getfield 42,3),(21,.aload_n 0,1),(22,.getfield 35,3),(25,.invokevirtual 122,3),(28,.aload_n 0,1),(29,.getfield 35,3),(32,.invokevirtual 183,3),(35,.ireturn,1)]
def q425_P : rfP := (flX11,csX11,lcX11,spX11,[q423_M,q424_M,q76_M],[],[(122,1,0),(183,2,8),(337,0,0)],[])
def q425_U : rfU := []
set_option maxHeartbeats 4000000 in
def q425_N : List rfB := [(0,([(0,.inr (.inl [70])),(1,.inl (((-2147483648),2147483647,1),none))],[],[]),(18,[]),0)]
set_option maxRecDepth 100000 in
theorem q425_ok : rf_chkB q425_P q425_U wLay q425_M ddX11_back [(9,[0]),(25,[1]),(32,[2])] [] [0] 600 q425_N = true := by decide +kernel
/-- NearSpell.State.seed -/
def q426_M : rfM := ((⟨"NearSpell$State", "seed", "()I"⟩, prog_10_method_5_code, 1, (some .int)), (0,0), ([.inr (.inl [13])],[]), [], [(some (.inl (((-2147483648),2147483647,1),none)),[],[])])
def ddX8_seed : List (Nat × Instr × Nat) := [(0,.aload_n 0,1),(1,.getfield 11,3),(4,.bipush 36,2),(6,.iaload,1),(7,.ireturn,1)]
def q426_P : rfP := (flX8,csX8,lcX8,spX8,[],[],[],[])
def q426_U : rfU := []
set_option maxHeartbeats 4000000 in
def q426_N : List rfB := [(0,([(0,.inr (.inl [13]))],[],[]),(4,[]),0)]
set_option maxRecDepth 100000 in
theorem q426_ok : rf_chkB q426_P q426_U wLay q426_M ddX8_seed [] [] [0] 600 q426_N = true := by decide +kernel
/-- NearSpell.about -/
def q427_M : rfM := ((⟨"NearSpell", "about", "(I)I"⟩, prog_1_method_48_code, 2, (some .int)), (2,43), ([.inr (.inl [70]),.inl (((-2147483648),2147483647,1),none)],[]), [], [(some (.inl (((-2147483648),2147483647,1),none)),[],[])])
def ddX11_about : List (Nat × Instr × Nat) := [(0,.iload_n 1,1),(1,.tableswitch 201 0 15 #[79, 87, 95, 103, 111, 119, 127, 135, 143, 151, 159, 167, 175, 180, 188, 193],79),(80,.aload_n 0,1),(81,.getfield 16,3),(84,.getfield 132,3),(87,.ireturn,1),(88,.aload_n 0,1),(89,.getfield 35,3),(92,.invokevirtual 183,3),(95,.ireturn,1),(96,.aload_n 0,1),(97,.getfield 35,3),(100,.invokevirtual 169,3),(103,.ireturn,1),(104,.aload_n 0,1),(105,.getfield 35,3),(108,.invokevirtual 189,3),(111,.ireturn,1),(112,.aload_n 0,1),(113,.getfield 16,3),(116,.getfield 341,3),(119,.ireturn,1),(120,.aload_n 0,1),(121,.getfield 16,3),(124,.getfield 303,3),(127,.ireturn,1),(128,.aload_n 0,1),(129,.getfield 16,3),(132,.getfield 294,3),(135,.ireturn,1),(136,.aload_n 0,1),(137,.getfield 35,3),(140,.invokevirtual 344,3),(143,.ireturn,1),(144,.aload_n 0,1),(145,.getfield 42,3),(148,.getfield 347,3),(151,.ireturn,1),(152,.aload_n 0,1),(153,.getfield 42,3),(156,.getfield 350,3),(159,.ireturn,1),(160,.aload_n 0,1),(161,.getfield 92,3),(164,.getfield 353,3),(167,.ireturn,1),(168,.aload_n 0,1),(169,.getfield 92,3),(172,.getfield 354,3),(175,.ireturn,1),(176,.aload_n 0,1),(177,.getfield 100,3),(180,.ireturn,1),(181,.aload_n 0,1),(182,.getfield 16,3),(185,.getfield 357,3),(188,.ireturn,1),(189,.aload_n 0,1),(190,.getfield 104,3),(193,.ireturn,1),(194,.aload_n 0,1),(195,.getfield 16,3),(198,.getfield 192,3),(201,.ireturn,1),(202,.iconst (-1),1),(203,.ireturn,1)]
def q427_P : rfP := (flX11,csX11,lcX11,spX11,[q76_M,q69_M,q80_M,q426_M],[],[(169,1,8),(183,0,8),(189,2,8),(344,3,8)],[])
def q427_U : rfU := []
set_option maxHeartbeats 4000000 in
def q427_N : List rfB := [(0,([(0,.inr (.inl [70])),(1,.inl (((-2147483648),2147483647,1),none))],[],[]),(65,[]),0)]
set_option maxRecDepth 100000 in
theorem q427_ok : rf_chkB q427_P q427_U wLay q427_M ddX11_about [(92,[0]),(100,[1]),(108,[2]),(140,[3])] [] [0] 600 q427_N = true := by decide +kernel
