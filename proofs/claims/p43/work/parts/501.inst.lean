/-- NearSpell.State.spellingOf -/
def q60_M : rfM := ((⟨"NearSpell$State", "spellingOf", "(I)I"⟩, prog_10_method_7_code, 2, (some .int)), (0,0), ([.inr (.inl [13]),.inl ((0,3,1),none)],[]), [], [(some (.inl (((-2147483648),2147483647,1),none)),[],[])])
def q60_P : rfP := (flX8,csX8,lcX8,spX8,[],[],[],[])
def q60_U : rfU := []
set_option maxHeartbeats 4000000 in
def q60_N : List rfB := [(0,([(0,.inr (.inl [13])),(1,.inl ((0,3,1),none))],[],[]),(12,[]),0)]
set_option maxRecDepth 100000 in
theorem q60_ok : rf_chkB q60_P q60_U wLay q60_M ddX8_spellingOf [] [] [0] 600 q60_N = true := by decide +kernel
/-- NearSpell.State.isEntry -/
def q61_M : rfM := ((⟨"NearSpell$State", "isEntry", "(I)Z"⟩, prog_10_method_6_code, 2, (some .boolean)), (0,0), ([.inr (.inl [13]),.inl ((0,6,1),none)],[]), [], [(some (.inl ((1,1,0),none)),[],[((12,34),(1,14,1),none)]),(some (.inl ((0,0,0),none)),[],[])])
def q61_P : rfP := (flX8,csX8,lcX8,spX8,[],[],[],[])
def q61_U : rfU := []
set_option maxHeartbeats 4000000 in
def q61_N : List rfB := [(0,([(0,.inr (.inl [13])),(1,.inl ((0,6,1),none))],[],[]),(20,[]),0),
  (32,([(0,.inr (.inl [13])),(1,.inl ((0,6,1),none))],[],[]),(1,[]),0)]
set_option maxRecDepth 100000 in
theorem q61_ok : rf_chkB q61_P q61_U wLay q61_M ddX8_isEntry [] [] [0,32] 600 q61_N = true := by decide +kernel
/-- NearSpell.State.spellingOf -/
def q62_M : rfM := ((⟨"NearSpell$State", "spellingOf", "(I)I"⟩, prog_10_method_7_code, 2, (some .int)), (0,0), ([.inr (.inl [13]),.inl ((0,6,1),none)],[]), [], [(some (.inl (((-2147483648),2147483647,1),none)),[],[])])
def q62_P : rfP := (flX8,csX8,lcX8,spX8,[],[],[],[])
def q62_U : rfU := []
set_option maxHeartbeats 4000000 in
def q62_N : List rfB := [(0,([(0,.inr (.inl [13])),(1,.inl ((0,6,1),none))],[],[]),(12,[]),0)]
set_option maxRecDepth 100000 in
theorem q62_ok : rf_chkB q62_P q62_U wLay q62_M ddX8_spellingOf [] [] [0] 600 q62_N = true := by decide +kernel
/-- NearSpell.State.isEntry -/
def q63_M : rfM := ((⟨"NearSpell$State", "isEntry", "(I)Z"⟩, prog_10_method_6_code, 2, (some .boolean)), (0,0), ([.inr (.inl [13]),.inl ((0,9,1),none)],[]), [], [(some (.inl ((1,1,0),none)),[],[((12,34),(1,14,1),none)]),(some (.inl ((0,0,0),none)),[],[])])
def q63_P : rfP := (flX8,csX8,lcX8,spX8,[],[],[],[])
def q63_U : rfU := []
set_option maxHeartbeats 4000000 in
def q63_N : List rfB := [(0,([(0,.inr (.inl [13])),(1,.inl ((0,9,1),none))],[],[]),(20,[]),0),
  (32,([(0,.inr (.inl [13])),(1,.inl ((0,9,1),none))],[],[]),(1,[]),0)]
set_option maxRecDepth 100000 in
theorem q63_ok : rf_chkB q63_P q63_U wLay q63_M ddX8_isEntry [] [] [0,32] 600 q63_N = true := by decide +kernel
/-- NearSpell.State.spellingOf -/
def q64_M : rfM := ((⟨"NearSpell$State", "spellingOf", "(I)I"⟩, prog_10_method_7_code, 2, (some .int)), (0,0), ([.inr (.inl [13]),.inl ((0,9,1),none)],[]), [], [(some (.inl (((-2147483648),2147483647,1),none)),[],[])])
def q64_P : rfP := (flX8,csX8,lcX8,spX8,[],[],[],[])
def q64_U : rfU := []
set_option maxHeartbeats 4000000 in
def q64_N : List rfB := [(0,([(0,.inr (.inl [13])),(1,.inl ((0,9,1),none))],[],[]),(12,[]),0)]
set_option maxRecDepth 100000 in
theorem q64_ok : rf_chkB q64_P q64_U wLay q64_M ddX8_spellingOf [] [] [0] 600 q64_N = true := by decide +kernel
/-- NearSpell.State.isEntry -/
def q65_M : rfM := ((⟨"NearSpell$State", "isEntry", "(I)Z"⟩, prog_10_method_6_code, 2, (some .boolean)), (0,0), ([.inr (.inl [13]),.inl ((0,12,1),none)],[]), [], [(some (.inl ((1,1,0),none)),[],[((12,34),(1,14,1),none)]),(some (.inl ((0,0,0),none)),[],[])])
def q65_P : rfP := (flX8,csX8,lcX8,spX8,[],[],[],[])
def q65_U : rfU := []
set_option maxHeartbeats 4000000 in
def q65_N : List rfB := [(0,([(0,.inr (.inl [13])),(1,.inl ((0,12,1),none))],[],[]),(20,[]),0),
  (32,([(0,.inr (.inl [13])),(1,.inl ((0,12,1),none))],[],[]),(1,[]),0)]
set_option maxRecDepth 100000 in
theorem q65_ok : rf_chkB q65_P q65_U wLay q65_M ddX8_isEntry [] [] [0,32] 600 q65_N = true := by decide +kernel
/-- NearSpell.State.spellingOf -/
def q66_M : rfM := ((⟨"NearSpell$State", "spellingOf", "(I)I"⟩, prog_10_method_7_code, 2, (some .int)), (0,0), ([.inr (.inl [13]),.inl ((0,12,1),none)],[]), [], [(some (.inl (((-2147483648),2147483647,1),none)),[],[])])
def q66_P : rfP := (flX8,csX8,lcX8,spX8,[],[],[],[])
def q66_U : rfU := []
set_option maxHeartbeats 4000000 in
def q66_N : List rfB := [(0,([(0,.inr (.inl [13])),(1,.inl ((0,12,1),none))],[],[]),(12,[]),0)]
set_option maxRecDepth 100000 in
theorem q66_ok : rf_chkB q66_P q66_U wLay q66_M ddX8_spellingOf [] [] [0] 600 q66_N = true := by decide +kernel
/-- NearSpell.State.isEntry -/
def q67_M : rfM := ((⟨"NearSpell$State", "isEntry", "(I)Z"⟩, prog_10_method_6_code, 2, (some .boolean)), (0,0), ([.inr (.inl [13]),.inl ((0,13,1),none)],[]), [], [(some (.inl ((1,1,0),none)),[],[((12,34),(1,14,1),none)]),(some (.inl ((0,0,0),none)),[],[])])
def q67_P : rfP := (flX8,csX8,lcX8,spX8,[],[],[],[])
def q67_U : rfU := []
set_option maxHeartbeats 4000000 in
def q67_N : List rfB := [(0,([(0,.inr (.inl [13])),(1,.inl ((0,13,1),none))],[],[]),(20,[]),0),
  (32,([(0,.inr (.inl [13])),(1,.inl ((0,13,1),none))],[],[]),(1,[]),0)]
set_option maxRecDepth 100000 in
theorem q67_ok : rf_chkB q67_P q67_U wLay q67_M ddX8_isEntry [] [] [0,32] 600 q67_N = true := by decide +kernel
/-- NearSpell.State.numberOf -/
def q68_M : rfM := ((⟨"NearSpell$State", "numberOf", "(I)I"⟩, prog_10_method_11_code, 3, (some .int)), (1,21), ([.inr (.inl [13]),.inl ((0,387420488,1),none)],[]), [], [(some (.inl (((-1),13,1),none)),[],[])])
def ddX8_numberOf : List (Nat × Instr × Nat) := [(0,.iconst 0,1),(1,.istore_n 2,1),(2,.iload_n 2,1),(3,.aload_n 0,1),(4,.getfield 11,3),(7,.bipush 34,2),(9,.iaload,1),(10,.if_icmp .ge 28,3),(13,.aload_n 0,1),(14,.iload_n 2,1),(15,.invokevirtual 34,3),(18,.ifCond .eq 14,3),(21,.aload_n 0,1),(22,.iload_n 2,1),(23,.invokevirtual 38,3),(26,.iload_n 1,1),(27,.if_icmp .ne 5,3),(30,.iload_n 2,1),(31,.ireturn,1),(32,.iinc 2 1,3),(35,.goto (-33),3),(38,.iconst (-1),1),(39,.ireturn,1)]
def q68_P : rfP := (flX8,csX8,lcX8,spX8,[q67_M,q11_M],[],[(34,0,8),(38,1,8)],[])
def q68_U : rfU := []
set_option maxHeartbeats 4000000 in
def q68_N : List rfB := [(0,([(0,.inr (.inl [13])),(1,.inl ((0,387420488,1),none))],[],[]),(290,[0]),0),
  (2,([(0,.inr (.inl [13])),(1,.inl ((0,387420488,1),none)),(2,.inl ((0,14,1),none))],[],[]),(286,[(-19)]),0),
  (32,([(0,.inr (.inl [13])),(1,.inl ((0,387420488,1),none)),(2,.inl ((0,13,1),none))],[],[((12,34),(1,14,1),none)]),(270,[(-19)]),0)]
set_option maxRecDepth 100000 in
theorem q68_ok : rf_chkB q68_P q68_U wLay q68_M ddX8_numberOf [(15,[0]),(23,[1])] [.inl 2] [0,2,32] 600 q68_N = true := by decide +kernel
/-- NearSpell.State.given -/
def q69_M : rfM := ((⟨"NearSpell$State", "given", "()I"⟩, prog_10_method_3_code, 1, (some .int)), (0,0), ([.inr (.inl [13])],[]), [], [(some (.inl ((0,14,1),none)),[],[])])
def ddX8_given : List (Nat × Instr × Nat) := [(0,.aload_n 0,1),(1,.getfield 11,3),(4,.bipush 34,2),(6,.iaload,1),(7,.ireturn,1)]
def q69_P : rfP := (flX8,csX8,lcX8,spX8,[],[],[],[])
def q69_U : rfU := []
set_option maxHeartbeats 4000000 in
def q69_N : List rfB := [(0,([(0,.inr (.inl [13]))],[],[]),(4,[]),0)]
set_option maxRecDepth 100000 in
theorem q69_ok : rf_chkB q69_P q69_U wLay q69_M ddX8_given [] [] [0] 600 q69_N = true := by decide +kernel
/-- NearSpell.State.addEntry -/
def q70_M : rfM := ((⟨"NearSpell$State", "addEntry", "(II)I"⟩, prog_10_method_12_code, 4, (some .int)), (0,0), ([.inr (.inl [13]),.inl ((0,387420488,1),none),.inl ((0,999,1),none)],[]), [(12,0)], [(some (.inl (((-1),13,1),none)),[],[((12,34),(1,14,1),none)])])
def ddX8_addEntry : List (Nat × Instr × Nat) := [(0,.aload_n 0,1),(1,.getfield 11,3),(4,.bipush 34,2),(6,.iaload,1),(7,.istore_n 3,1),(8,.iload_n 3,1),(9,.bipush 14,2),(11,.if_icmp .lt 5,3),(14,.iconst (-1),1),(15,.ireturn,1),(16,.aload_n 0,1),(17,.getfield 11,3),(20,.iconst 0,1),(21,.iload_n 3,1),(22,.iadd,1),(23,.iload_n 1,1),(24,.iastore,1),(25,.aload_n 0,1),(26,.getfield 11,3),(29,.bipush 14,2),(31,.iload_n 3,1),(32,.iadd,1),(33,.iload_n 2,1),(34,.iastore,1),(35,.aload_n 0,1),(36,.getfield 11,3),(39,.bipush 34,2),(41,.dup2,1),(42,.iaload,1),(43,.iconst 1,1),(44,.iadd,1),(45,.iastore,1),(46,.iload_n 3,1),(47,.ireturn,1)]
def q70_P : rfP := (flX8,csX8,lcX8,spX8,[],[],[],[])
def q70_U : rfU := []
set_option maxHeartbeats 4000000 in
def q70_N : List rfB := [(0,([(0,.inr (.inl [13])),(1,.inl ((0,387420488,1),none)),(2,.inl ((0,999,1),none))],[],[]),(33,[]),0)]
set_option maxRecDepth 100000 in
theorem q70_ok : rf_chkB q70_P q70_U wLay q70_M ddX8_addEntry [] [] [0] 600 q70_N = true := by decide +kernel
/-- NearSpell.Archive.rowPlace -/
def q71_M : rfM := ((⟨"NearSpell$Archive", "rowPlace", "()I"⟩, prog_2_method_6_code, 1, (some .int)), (0,0), ([.inr (.inl [16])],[]), [], [(some (.inl ((0,1480,37),none)),[],[])])
def ddX0_rowPlace : List (Nat × Instr × Nat) := [(0,.aload_n 0,1),(1,.getfield 24,3),(4,.aload_n 0,1),(5,.getfield 27,3),(8,.iadd,1),(9,.bipush 41,2),(11,.irem,1),(12,.bipush 37,2),(14,.imul,1),(15,.ireturn,1)]
def q71_P : rfP := (flX0,csX0,lcX0,spX0,[],[],[],[])
def q71_U : rfU := []
set_option maxHeartbeats 4000000 in
def q71_N : List rfB := [(0,([(0,.inr (.inl [16]))],[],[]),(9,[]),0)]
set_option maxRecDepth 100000 in
theorem q71_ok : rf_chkB q71_P q71_U wLay q71_M ddX0_rowPlace [] [] [0] 600 q71_N = true := by decide +kernel
/-- NearSpell.Archive.keepRow -/
def q72_M : rfM := ((⟨"NearSpell$Archive", "keepRow", "(LNearSpell$State;)V"⟩, prog_2_method_7_code, 2, none), (1,20), ([.inr (.inl [16]),.inr (.inl [13])],[]), [(14,0)], [(none,[],[])])
def ddX0_keepRow : List (Nat × Instr × Nat) := [(0,.aload_n 1,1),(1,.getfield 40,3),(4,.iconst 0,1),(5,.aload_n 0,1),(6,.getfield 13,3),(9,.aload_n 0,1),(10,.invokevirtual 43,3),(13,.bipush 37,2),(15,.invokestatic 47,3),(18,.return_,1)]
def q72_P : rfP := (flX0,csX0,lcX0,spX0,[q71_M],[],[(43,0,0)],[47])
def q72_U : rfU := []
set_option maxHeartbeats 4000000 in
def q72_N : List rfB := [(0,([(0,.inr (.inl [16])),(1,.inr (.inl [13]))],[],[]),(9,[]),0)]
set_option maxRecDepth 100000 in
theorem q72_ok : rf_chkB q72_P q72_U wLay q72_M ddX0_keepRow [(10,[0])] [] [0] 600 q72_N = true := by decide +kernel
/-- NearSpell.Archive.keepAct -/
def q73_M : rfM := ((⟨"NearSpell$Archive", "keepAct", "(LNearSpell$State;)V"⟩, prog_2_method_3_code, 2, none), (2,41), ([.inr (.inl [16]),.inr (.inl [13])],[]), [(14,0),(16,4),(16,5),(16,6)], [(none,[],[((16,4),(1,40,1),none),((16,5),(0,0,0),none)])])
def ddX0_keepAct : List (Nat × Instr × Nat) := [(0,.aload_n 0,1),(1,.iconst 0,1),(2,.putfield 30,3),(5,.aload_n 0,1),(6,.getfield 27,3),(9,.bipush 40,2),(11,.if_icmp .ge 16,3),(14,.aload_n 0,1),(15,.dup,1),(16,.getfield 27,3),(19,.iconst 1,1),(20,.iadd,1),(21,.putfield 27,3),(24,.goto 16,3),(27,.aload_n 0,1),(28,.aload_n 0,1),(29,.getfield 24,3),(32,.iconst 1,1),(33,.iadd,1),(34,.bipush 41,2),(36,.irem,1),(37,.putfield 24,3),(40,.aload_n 0,1),(41,.aload_n 1,1),(42,.invokevirtual 33,3),(45,.return_,1)]
def q73_P : rfP := (flX0,csX0,lcX0,spX0,[q72_M],[],[(33,0,0)],[])
def q73_U : rfU := []
set_option maxHeartbeats 4000000 in
def q73_N : List rfB := [(0,([(0,.inr (.inl [16])),(1,.inr (.inl [13]))],[],[]),(25,[]),0),
  (40,([(0,.inr (.inl [16])),(1,.inr (.inl [13]))],[],[((16,4),(1,40,1),none),((16,5),(0,0,0),none)]),(3,[]),0)]
set_option maxRecDepth 100000 in
theorem q73_ok : rf_chkB q73_P q73_U wLay q73_M ddX0_keepAct [(42,[0])] [] [0,40] 600 q73_N = true := by decide +kernel
/-- NearSpell.learn -/
def q74_M : rfM := ((⟨"NearSpell", "learn", "(II)I"⟩, prog_1_method_7_code, 4, (some .int)), (3,62), ([.inr (.inl [70]),.inl (((-2147483648),2147483647,1),none),.inl (((-2147483648),2147483647,1),none)],[]), [(12,0),(14,0),(16,4),(16,5),(16,6)], [(some (.inl (((-1),13,1),none)),[],[])])
def ddX11_learn : List (Nat × Instr × Nat) := [(0,.iload_n 1,1),(1,.invokestatic 163,3),(4,.ifCond .eq 14,3),(7,.iload_n 2,1),(8,.ifCond .lt 10,3),(11,.iload_n 2,1),(12,.sipush 999,3),(15,.if_icmp .le 5,3),(18,.iconst (-1),1),(19,.ireturn,1),(20,.aload_n 0,1),(21,.getfield 35,3),(24,.iload_n 1,1),(25,.invokevirtual 166,3),(28,.iconst (-1),1),(29,.if_icmp .ne 15,3),(32,.aload_n 0,1),(33,.getfield 35,3),(36,.invokevirtual 169,3),(39,.bipush 14,2),(41,.if_icmp .lt 5,3),(44,.iconst (-1),1),(45,.ireturn,1),(46,.aload_n 0,1),(47,.getfield 35,3),(50,.iload_n 1,1),(51,.iload_n 2,1),(52,.invokevirtual 173,3),(55,.istore_n 3,1),(56,.aload_n 0,1),(57,.getfield 42,3),(60,.aload_n 0,1),(61,.getfield 35,3),(64,.invokevirtual 177,3),(67,.iload_n 3,1),(68,.ireturn,1)]
def q74_P : rfP := (flX11,csX11,lcX11,spX11,[q52_M,q68_M,q69_M,q70_M,q73_M],[(163,0)],[(166,1,8),(169,2,8),(173,3,8),(177,4,0)],[])
def q74_U : rfU := []
set_option maxHeartbeats 4000000 in
def q74_N : List rfB := [(0,([(0,.inr (.inl [70])),(1,.inl (((-2147483648),2147483647,1),none)),(2,.inl (((-2147483648),2147483647,1),none))],[],[]),(36,[]),0),
  (18,([(0,.inr (.inl [70])),(1,.inl (((-2147483648),2147483647,1),none)),(2,.inl (((-2147483648),2147483647,1),none))],[],[]),(1,[]),0),
  (44,([(0,.inr (.inl [70])),(1,.inl ((0,387420488,1),none)),(2,.inl ((0,999,1),none))],[],[]),(4,[]),0)]
set_option maxRecDepth 100000 in
theorem q74_ok : rf_chkB q74_P q74_U wLay q74_M ddX11_learn [(1,[0]),(25,[1]),(36,[2]),(52,[3]),(64,[4])] [] [0,18,44] 600 q74_N = true := by decide +kernel
/-- NearSpell.State.dropEntry -/
def q75_M : rfM := ((⟨"NearSpell$State", "dropEntry", "(I)V"⟩, prog_10_method_13_code, 2, none), (1,21), ([.inr (.inl [13]),.inl ((0,13,1),none)],[]), [(12,0)], [(none,[],[])])
def ddX8_dropEntry : List (Nat × Instr × Nat) := [(0,.aload_n 0,1),(1,.iload_n 1,1),(2,.invokevirtual 34,3),(5,.ifCond .eq 13,3),(8,.aload_n 0,1),(9,.getfield 11,3),(12,.bipush 14,2),(14,.iload_n 1,1),(15,.iadd,1),(16,.iconst (-1),1),(17,.iastore,1),(18,.return_,1)]
def q75_P : rfP := (flX8,csX8,lcX8,spX8,[q67_M],[],[(34,0,8)],[])
def q75_U : rfU := []
set_option maxHeartbeats 4000000 in
def q75_N : List rfB := [(0,([(0,.inr (.inl [13])),(1,.inl ((0,13,1),none))],[],[]),(12,[]),0),
  (18,([(0,.inr (.inl [13])),(1,.inl ((0,13,1),none))],[],[]),(0,[]),0)]
set_option maxRecDepth 100000 in
theorem q75_ok : rf_chkB q75_P q75_U wLay q75_M ddX8_dropEntry [(2,[0])] [] [0,18] 600 q75_N = true := by decide +kernel
/-- NearSpell.State.entries -/
def q76_M : rfM := ((⟨"NearSpell$State", "entries", "()I"⟩, prog_10_method_10_code, 3, (some .int)), (1,21), ([.inr (.inl [13])],[]), [], [(some (.inl (((-2147483648),2147483647,1),none)),[],[])])
def ddX8_entries : List (Nat × Instr × Nat) := [(0,.iconst 0,1),(1,.istore_n 1,1),(2,.iconst 0,1),(3,.istore_n 2,1),(4,.iload_n 2,1),(5,.aload_n 0,1),(6,.getfield 11,3),(9,.bipush 34,2),(11,.iaload,1),(12,.if_icmp .ge 20,3),(15,.aload_n 0,1),(16,.iload_n 2,1),(17,.invokevirtual 34,3),(20,.ifCond .eq 6,3),(23,.iinc 1 1,3),(26,.iinc 2 1,3),(29,.goto (-25),3),(32,.iload_n 1,1),(33,.ireturn,1)]
def q76_P : rfP := (flX8,csX8,lcX8,spX8,[q67_M],[],[(34,0,8)],[])
def q76_U : rfU := []
set_option maxHeartbeats 4000000 in
def q76_N : List rfB := [(0,([(0,.inr (.inl [13]))],[],[]),(230,[0]),0),
  (4,([(0,.inr (.inl [13])),(1,.inl (((-2147483648),2147483647,1),none)),(2,.inl ((0,14,1),none))],[],[]),(224,[(-15)]),0),
  (26,([(0,.inr (.inl [13])),(1,.inl (((-2147483648),2147483647,1),none)),(2,.inl ((0,13,1),none))],[],[((12,34),(1,14,1),none)]),(212,[(-15)]),0)]
set_option maxRecDepth 100000 in
theorem q76_ok : rf_chkB q76_P q76_U wLay q76_M ddX8_entries [(17,[0])] [.inl 2] [0,4,26] 600 q76_N = true := by decide +kernel
/-- NearSpell.forget -/
def q77_M : rfM := ((⟨"NearSpell", "forget", "(I)I"⟩, prog_1_method_8_code, 2, (some .int)), (3,62), ([.inr (.inl [70]),.inl (((-2147483648),2147483647,1),none)],[]), [(12,0),(14,0),(16,4),(16,5),(16,6)], [(some (.inl (((-2147483648),2147483647,1),none)),[],[])])
def ddX11_forget : List (Nat × Instr × Nat) := [(0,.aload_n 0,1),(1,.getfield 35,3),(4,.iload_n 1,1),(5,.invokevirtual 141,3),(8,.ifCond .ne 5,3),(11,.iconst (-1),1),(12,.ireturn,1),(13,.aload_n 0,1),(14,.getfield 35,3),(17,.iload_n 1,1),(18,.invokevirtual 180,3),(21,.aload_n 0,1),(22,.getfield 42,3),(25,.aload_n 0,1),(26,.getfield 35,3),(29,.invokevirtual 177,3),(32,.aload_n 0,1),(33,.getfield 35,3),(36,.invokevirtual 183,3),(39,.ireturn,1)]
def q77_P : rfP := (flX11,csX11,lcX11,spX11,[q10_M,q75_M,q73_M,q76_M],[],[(141,0,8),(177,2,0),(180,1,8),(183,3,8)],[])
def q77_U : rfU := []
set_option maxHeartbeats 4000000 in
def q77_N : List rfB := [(0,([(0,.inr (.inl [70])),(1,.inl (((-2147483648),2147483647,1),none))],[],[]),(20,[]),0)]
set_option maxRecDepth 100000 in
theorem q77_ok : rf_chkB q77_P q77_U wLay q77_M ddX11_forget [(5,[0]),(18,[1]),(29,[2]),(36,[3])] [] [0] 600 q77_N = true := by decide +kernel
/-- NearSpell.State.useOnce -/
def q78_M : rfM := ((⟨"NearSpell$State", "useOnce", "(I)V"⟩, prog_10_method_14_code, 2, none), (1,21), ([.inr (.inl [13]),.inl ((0,13,1),none)],[]), [(12,0)], [(none,[],[])])
def ddX8_useOnce : List (Nat × Instr × Nat) := [(0,.aload_n 0,1),(1,.iload_n 1,1),(2,.invokevirtual 34,3),(5,.ifCond .eq 16,3),(8,.aload_n 0,1),(9,.getfield 11,3),(12,.bipush 14,2),(14,.iload_n 1,1),(15,.iadd,1),(16,.dup2,1),(17,.iaload,1),(18,.iconst 1,1),(19,.iadd,1),(20,.iastore,1),(21,.return_,1)]
def q78_P : rfP := (flX8,csX8,lcX8,spX8,[q67_M],[],[(34,0,8)],[])
def q78_U : rfU := []
set_option maxHeartbeats 4000000 in
def q78_N : List rfB := [(0,([(0,.inr (.inl [13])),(1,.inl ((0,13,1),none))],[],[]),(15,[]),0),
  (21,([(0,.inr (.inl [13])),(1,.inl ((0,13,1),none))],[],[]),(0,[]),0)]
set_option maxRecDepth 100000 in
theorem q78_ok : rf_chkB q78_P q78_U wLay q78_M ddX8_useOnce [(2,[0])] [] [0,21] 600 q78_N = true := by decide +kernel
/-- NearSpell.use -/
def q79_M : rfM := ((⟨"NearSpell", "use", "(I)I"⟩, prog_1_method_9_code, 2, (some .int)), (3,62), ([.inr (.inl [70]),.inl (((-2147483648),2147483647,1),none)],[]), [(12,0),(14,0),(16,4),(16,5),(16,6)], [(some (.inl (((-2147483648),2147483647,1),none)),[],[])])
def ddX11_use : List (Nat × Instr × Nat) := [(0,.aload_n 0,1),(1,.getfield 35,3),(4,.iload_n 1,1),(5,.invokevirtual 141,3),(8,.ifCond .eq 17,3),(11,.aload_n 0,1),(12,.getfield 35,3),(15,.iload_n 1,1),(16,.invokevirtual 151,3),(19,.sipush 999,3),(22,.if_icmp .lt 5,3),(25,.iconst (-1),1),(26,.ireturn,1),(27,.aload_n 0,1),(28,.getfield 35,3),(31,.iload_n 1,1),(32,.invokevirtual 186,3),(35,.aload_n 0,1),(36,.getfield 42,3),(39,.aload_n 0,1),(40,.getfield 35,3),(43,.invokevirtual 177,3),(46,.aload_n 0,1),(47,.getfield 35,3),(50,.iload_n 1,1),(51,.invokevirtual 151,3),(54,.ireturn,1)]
def q79_P : rfP := (flX11,csX11,lcX11,spX11,[q10_M,q13_M,q78_M,q73_M],[],[(141,0,8),(151,1,8),(177,3,0),(186,2,8)],[])
def q79_U : rfU := []
set_option maxHeartbeats 4000000 in
def q79_N : List rfB := [(0,([(0,.inr (.inl [70])),(1,.inl (((-2147483648),2147483647,1),none))],[],[]),(27,[]),0),
  (25,([(0,.inr (.inl [70])),(1,.inl (((-2147483648),2147483647,1),none))],[],[]),(15,[]),0)]
set_option maxRecDepth 100000 in
theorem q79_ok : rf_chkB q79_P q79_U wLay q79_M ddX11_use [(5,[0]),(16,[1]),(32,[2]),(43,[3]),(51,[1])] [] [0,25] 600 q79_N = true := by decide +kernel
/-- NearSpell.State.phraseSize -/
def q80_M : rfM := ((⟨"NearSpell$State", "phraseSize", "()I"⟩, prog_10_method_4_code, 1, (some .int)), (0,0), ([.inr (.inl [13])],[]), [], [(some (.inl ((0,6,1),none)),[],[])])
def ddX8_phraseSize : List (Nat × Instr × Nat) := [(0,.aload_n 0,1),(1,.getfield 11,3),(4,.bipush 35,2),(6,.iaload,1),(7,.ireturn,1)]
def q80_P : rfP := (flX8,csX8,lcX8,spX8,[],[],[],[])
def q80_U : rfU := []
set_option maxHeartbeats 4000000 in
def q80_N : List rfB := [(0,([(0,.inr (.inl [13]))],[],[]),(4,[]),0)]
set_option maxRecDepth 100000 in
theorem q80_ok : rf_chkB q80_P q80_U wLay q80_M ddX8_phraseSize [] [] [0] 600 q80_N = true := by decide +kernel
/-- NearSpell.State.addTyped -/
def q81_M : rfM := ((⟨"NearSpell$State", "addTyped", "(II)I"⟩, prog_10_method_15_code, 4, (some .int)), (0,0), ([.inr (.inl [13]),.inl ((0,387420488,1),none),.inl ((0,100,1),none)],[]), [(12,0)], [(some (.inl ((0,387420488,1),none)),[],[((12,35),(1,6,1),none),((12,36),((-999),999,1),none)])])
def ddX8_addTyped : List (Nat × Instr × Nat) := [(0,.aload_n 0,1),(1,.getfield 11,3),(4,.bipush 36,2),(6,.aload_n 0,1),(7,.getfield 11,3),(10,.bipush 36,2),(12,.iaload,1),(13,.sipush 137,3),(16,.imul,1),(17,.bipush 71,2),(19,.iadd,1),(20,.sipush 1000,3),(23,.irem,1),(24,.iastore,1),(25,.aload_n 0,1),(26,.getfield 11,3),(29,.bipush 36,2),(31,.iaload,1),(32,.bipush 100,2),(34,.irem,1),(35,.iload_n 2,1),(36,.if_icmp .ge 10,3),(39,.iload_n 1,1),(40,.bipush 27,2),(42,.idiv,1),(43,.goto 4,3),(46,.iload_n 1,1),(47,.istore_n 3,1),(48,.aload_n 0,1),(49,.getfield 11,3),(52,.bipush 35,2),(54,.iaload,1),(55,.bipush 6,2),(57,.if_icmp .ge 30,3),(60,.aload_n 0,1),(61,.getfield 11,3),(64,.bipush 28,2),(66,.aload_n 0,1),(67,.getfield 11,3),(70,.bipush 35,2),(72,.iaload,1),(73,.iadd,1),(74,.iload_n 3,1),(75,.iastore,1),(76,.aload_n 0,1),(77,.getfield 11,3),(80,.bipush 35,2),(82,.dup2,1),(83,.iaload,1),(84,.iconst 1,1),(85,.iadd,1),(86,.iastore,1),(87,.iload_n 3,1),(88,.ireturn,1)]
def q81_P : rfP := (flX8,csX8,lcX8,spX8,[],[],[],[])
def q81_U : rfU := []
set_option maxHeartbeats 4000000 in
def q81_N : List rfB := [(0,([(0,.inr (.inl [13])),(1,.inl ((0,387420488,1),none)),(2,.inl ((0,100,1),none))],[],[]),(53,[]),0),
  (47,([(0,.inr (.inl [13])),(1,.inl ((0,387420488,1),none)),(2,.inl ((0,100,1),none))],[.inl ((0,387420488,1),none)],[((12,36),((-999),999,1),none)]),(26,[]),0),
  (87,([(0,.inr (.inl [13])),(1,.inl ((0,387420488,1),none)),(2,.inl ((0,100,1),none)),(3,.inl ((0,387420488,1),none))],[],[((12,35),(1,6,1),none),((12,36),((-999),999,1),none)]),(1,[]),0)]
set_option maxRecDepth 100000 in
theorem q81_ok : rf_chkB q81_P q81_U wLay q81_M ddX8_addTyped [] [] [0,47,87] 600 q81_N = true := by decide +kernel
/-- NearSpell.lengthOf -/
def q82_M : rfM := ((⟨"NearSpell", "lengthOf", "(I)I"⟩, prog_1_method_53_code, 2, (some .int)), (0,0), ([.inl ((0,387420488,1),none)],[]), [], [(some (.inl ((0,6,1),none)),[],[])])
def q82_P : rfP := (flX11,csX11,lcX11,spX11,[],[],[],[])
def q82_U : rfU := []
set_option maxHeartbeats 4000000 in
def q82_N : List rfB := [(0,([(0,.inl ((0,387420488,1),none))],[],[]),(80,[0]),0),
  (2,([(0,.inl ((0,387420488,1),none)),(1,.inl ((0,6,1),none))],[],[]),(76,[(-11)]),0),
  (23,([(0,.inl ((0,387420488,1),none)),(1,.inl ((0,6,1),none))],[],[]),(1,[0]),0)]
set_option maxRecDepth 100000 in
theorem q82_ok : rf_chkB q82_P q82_U wLay q82_M ddX11_lengthOf [] [.inl 1] [0,2,23] 600 q82_N = true := by decide +kernel
/-- NearSpell.Ruler.putLetters -/
def q83_M : rfM := ((⟨"NearSpell$Ruler", "putLetters", "(I[II)I"⟩, prog_9_method_8_code, 6, (some .int)), (1,21), ([.inl ((0,387420488,1),none),.inr (.inl [17]),.inl ((0,0,0),none)],[]), [(17,0)], [(some (.inl ((0,6,1),none)),[],[])])
def ddX7_putLetters : List (Nat × Instr × Nat) := [(0,.iload_n 2,1),(1,.iload_n 0,1),(2,.invokestatic 55,3),(5,.iadd,1),(6,.istore_n 3,1),(7,.iload_n 3,1),(8,.aload_n 1,1),(9,.arraylength,1),(10,.if_icmp .le 5,3),(13,.iload_n 2,1),(14,.ireturn,1),(15,.iload_n 0,1),(16,.istore 4,2),(18,.iload_n 3,1),(19,.iconst 1,1),(20,.isub,1),(21,.istore 5,2),(23,.iload 5,2),(25,.iload_n 2,1),(26,.if_icmp .lt 25,3),(29,.aload_n 1,1),(30,.iload 5,2),(32,.iload 4,2),(34,.bipush 27,2),(36,.irem,1),(37,.iastore,1),(38,.iload 4,2),(40,.bipush 27,2),(42,.idiv,1),(43,.istore 4,2),(45,.iinc 5 (-1),3),(48,.goto (-25),3),(51,.iload_n 3,1),(52,.ireturn,1)]
def q83_P : rfP := (flX7,csX7,lcX7,spX7,[q82_M],[(55,0)],[],[])
def q83_U : rfU := []
set_option maxHeartbeats 4000000 in
def q83_N : List rfB := [(0,([(0,.inl ((0,387420488,1),none)),(1,.inr (.inl [17])),(2,.inl ((0,0,0),none))],[],[]),(128,[0]),0),
  (23,([(0,.inl ((0,387420488,1),none)),(1,.inr (.inl [17])),(2,.inl ((0,0,0),none)),(3,.inl ((0,6,1),none)),(4,.inl ((0,387420488,1),none)),(5,.inl (((-1),5,1),none))],[],[]),(31,[16]),0)]
set_option maxRecDepth 100000 in
theorem q83_ok : rf_chkB q83_P q83_U wLay q83_M ddX7_putLetters [(2,[0])] [.inl 5] [0,23] 600 q83_N = true := by decide +kernel
/-- NearSpell.Ruler.setText -/
def q84_M : rfM := ((⟨"NearSpell$Ruler", "setText", "(I)V"⟩, prog_9_method_3_code, 2, none), (2,46), ([.inr (.inl [20]),.inl ((0,387420488,1),none)],[]), [(17,0),(20,4),(20,5)], [(none,[],[((20,3),(0,6,1),none),((20,4),(0,0,0),none)])])
def ddX7_setText : List (Nat × Instr × Nat) := [(0,.aload_n 0,1),(1,.iload_n 1,1),(2,.aload_n 0,1),(3,.getfield 11,3),(6,.iconst 0,1),(7,.invokestatic 36,3),(10,.putfield 21,3),(13,.aload_n 0,1),(14,.iconst 0,1),(15,.putfield 25,3),(18,.return_,1)]
def q84_P : rfP := (flX7,csX7,lcX7,spX7,[q83_M],[(36,0)],[],[])
def q84_U : rfU := []
set_option maxHeartbeats 4000000 in
def q84_N : List rfB := [(0,([(0,.inr (.inl [20])),(1,.inl ((0,387420488,1),none))],[],[]),(10,[]),0)]
set_option maxRecDepth 100000 in
theorem q84_ok : rf_chkB q84_P q84_U wLay q84_M ddX7_setText [(7,[0])] [] [0] 600 q84_N = true := by decide +kernel
/-- java/lang/Math.min -/
def q85_M : rfM := ((⟨"java/lang/Math", "min", "(II)I"⟩, prog_17_method_69_code, 2, (some .int)), (0,0), ([.inl ((0,0,0),none),.inl ((0,12,1),none)],[]), [], [(some (.inl ((0,0,0),none)),[],[])])
def q85_P : rfP := (flJ9,csJ9,lcJ9,spJ9,[],[],[],[])
def q85_U : rfU := []
set_option maxHeartbeats 4000000 in
def q85_N : List rfB := [(0,([(0,.inl ((0,0,0),none)),(1,.inl ((0,12,1),none))],[],[]),(5,[]),0)]
set_option maxRecDepth 100000 in
theorem q85_ok : rf_chkB q85_P q85_U wLay q85_M ddJ9_min_7cf53 [] [] [0] 600 q85_N = true := by decide +kernel
/-- java/lang/Math.max -/
def q86_M : rfM := ((⟨"java/lang/Math", "max", "(II)I"⟩, prog_17_method_65_code, 2, (some .int)), (0,0), ([.inl ((0,0,0),none),.inl ((0,0,0),none)],[]), [], [(some (.inl ((0,0,0),none)),[],[])])
def ddJ9_max_7cf53 : List (Nat × Instr × Nat) := [(0,.iload_n 0,1),(1,.iload_n 1,1),(2,.if_icmp .lt 7,3),(5,.iload_n 0,1),(6,.goto 4,3),(9,.iload_n 1,1),(10,.ireturn,1)]
def q86_P : rfP := (flJ9,csJ9,lcJ9,spJ9,[],[],[],[])
def q86_U : rfU := []
set_option maxHeartbeats 4000000 in
def q86_N : List rfB := [(0,([(0,.inl ((0,0,0),none)),(1,.inl ((0,0,0),none))],[],[]),(5,[]),0)]
set_option maxRecDepth 100000 in
theorem q86_ok : rf_chkB q86_P q86_U wLay q86_M ddJ9_max_7cf53 [] [] [0] 600 q86_N = true := by decide +kernel
/-- NearSpell.Ruler.putLetters -/
def q87_M : rfM := ((⟨"NearSpell$Ruler", "putLetters", "(I[II)I"⟩, prog_9_method_8_code, 6, (some .int)), (1,21), ([.inl (((-2147483648),2147483647,1),none),.inr (.inl [18]),.inl ((0,0,0),none)],[]), [(18,0)], [(some (.inl ((0,6,1),none)),[],[])])
def q87_P : rfP := (flX7,csX7,lcX7,spX7,[q12_M],[(55,0)],[],[])
def q87_U : rfU := []
set_option maxHeartbeats 4000000 in
def q87_N : List rfB := [(0,([(0,.inl (((-2147483648),2147483647,1),none)),(1,.inr (.inl [18])),(2,.inl ((0,0,0),none))],[],[]),(128,[0]),0),
  (23,([(0,.inl (((-2147483648),2147483647,1),none)),(1,.inr (.inl [18])),(2,.inl ((0,0,0),none)),(3,.inl ((0,6,1),none)),(4,.inl (((-2147483648),2147483647,1),none)),(5,.inl (((-1),5,1),none))],[],[]),(31,[16]),0)]
set_option maxRecDepth 100000 in
theorem q87_ok : rf_chkB q87_P q87_U wLay q87_M ddX7_putLetters [(2,[0])] [.inl 5] [0,23] 600 q87_N = true := by decide +kernel
/-- java/lang/Math.min -/
def q88_M : rfM := ((⟨"java/lang/Math", "min", "(II)I"⟩, prog_17_method_69_code, 2, (some .int)), (0,0), ([.inl ((1,1,0),none),.inl (((-2147483648),2147483647,1),none)],[]), [], [(some (.inl (((-2147483648),1,1),none)),[],[])])
def q88_P : rfP := (flJ9,csJ9,lcJ9,spJ9,[],[],[],[])
def q88_U : rfU := []
set_option maxHeartbeats 4000000 in
def q88_N : List rfB := [(0,([(0,.inl ((1,1,0),none)),(1,.inl (((-2147483648),2147483647,1),none))],[],[]),(7,[]),0)]
set_option maxRecDepth 100000 in
theorem q88_ok : rf_chkB q88_P q88_U wLay q88_M ddJ9_min_7cf53 [] [] [0] 600 q88_N = true := by decide +kernel
/-- java/lang/Math.min -/
def q89_M : rfM := ((⟨"java/lang/Math", "min", "(II)I"⟩, prog_17_method_69_code, 2, (some .int)), (0,0), ([.inl (((-2147483648),2147483647,1),none),.inl (((-2147483648),1,1),none)],[]), [], [(some (.inl (((-2147483648),1,1),none)),[],[])])
def q89_P : rfP := (flJ9,csJ9,lcJ9,spJ9,[],[],[],[])
def q89_U : rfU := []
set_option maxHeartbeats 4000000 in
def q89_N : List rfB := [(0,([(0,.inl (((-2147483648),2147483647,1),none)),(1,.inl (((-2147483648),1,1),none))],[],[]),(6,[]),0),
  (10,([(0,.inl (((-2147483648),2147483647,1),none)),(1,.inl (((-2147483648),1,1),none))],[.inl (((-2147483648),1,1),none)],[]),(0,[]),0)]
set_option maxRecDepth 100000 in
theorem q89_ok : rf_chkB q89_P q89_U wLay q89_M ddJ9_min_7cf53 [] [] [0,10] 600 q89_N = true := by decide +kernel
/-- java/lang/Math.min -/
def q90_M : rfM := ((⟨"java/lang/Math", "min", "(II)I"⟩, prog_17_method_69_code, 2, (some .int)), (0,0), ([.inl (((-2147483648),2147483647,1),none),.inl (((-2147483648),2147483647,1),none)],[]), [], [(some (.inl (((-2147483648),2147483647,1),none)),[],[])])
def q90_P : rfP := (flJ9,csJ9,lcJ9,spJ9,[],[],[],[])
def q90_U : rfU := []
set_option maxHeartbeats 4000000 in
def q90_N : List rfB := [(0,([(0,.inl (((-2147483648),2147483647,1),none)),(1,.inl (((-2147483648),2147483647,1),none))],[],[]),(6,[]),0),
  (10,([(0,.inl (((-2147483648),2147483647,1),none)),(1,.inl (((-2147483648),2147483647,1),none))],[.inl (((-2147483648),2147483647,1),none)],[]),(0,[]),0)]
set_option maxRecDepth 100000 in
theorem q90_ok : rf_chkB q90_P q90_U wLay q90_M ddJ9_min_7cf53 [] [] [0,10] 600 q90_N = true := by decide +kernel
/-- NearSpell.Ruler.fillRow -/
def q91_M : rfM := ((⟨"NearSpell$Ruler", "fillRow", "(I)V"⟩, prog_9_method_9_code, 7, none), (1,21), ([.inr (.inl [20]),.inl ((1,1,0),none)],[]), [(19,0)], [(none,[],[((19,13),(1,1,0),none)])])
def ddX7_fillRow : List (Nat × Instr × Nat) := [(0,.iload_n 1,1),(1,.iconst 1,1),(2,.if_icmp .lt 9,3),(5,.iload_n 1,1),(6,.bipush 12,2),(8,.if_icmp .le 4,3),(11,.return_,1),(12,.aload_n 0,1),(13,.getfield 15,3),(16,.iload_n 1,1),(17,.iconst 1,1),(18,.isub,1),(19,.iaload,1),(20,.istore_n 2,1),(21,.iload_n 1,1),(22,.iconst 1,1),(23,.if_icmp .le 14,3),(26,.aload_n 0,1),(27,.getfield 15,3),(30,.iload_n 1,1),(31,.iconst 2,1),(32,.isub,1),(33,.iaload,1),(34,.goto 4,3),(37,.iconst 0,1),(38,.istore_n 3,1),(39,.iload_n 1,1),(40,.bipush 13,2),(42,.imul,1),(43,.istore 4,2),(45,.aload_n 0,1),(46,.getfield 18,3),(49,.iload 4,2),(51,.iload_n 1,1),(52,.iastore,1),(53,.iconst 1,1),(54,.istore 5,2),(56,.iload 5,2),(58,.aload_n 0,1),(59,.getfield 21,3),(62,.if_icmp .gt 137,3),(65,.iinc 4 1,3),(68,.aload_n 0,1),(69,.getfield 18,3),(72,.iload 4,2),(74,.bipush 13,2),(76,.isub,1),(77,.iconst 1,1),(78,.isub,1),(79,.iaload,1),(80,.istore 6,2),(82,.aload_n 0,1),(83,.getfield 11,3),(86,.iload 5,2),(88,.iconst 1,1),(89,.isub,1),(90,.iaload,1),(91,.iload_n 2,1),(92,.if_icmp .eq 92,3),(95,.iconst 1,1),(96,.iload 6,2),(98,.aload_n 0,1),(99,.getfield 18,3),(102,.iload 4,2),(104,.iconst 1,1),(105,.isub,1),(106,.iaload,1),(107,.aload_n 0,1),(108,.getfield 18,3),(111,.iload 4,2),(113,.bipush 13,2),(115,.isub,1),(116,.iaload,1),(117,.invokestatic 44,3),(120,.invokestatic 44,3),(123,.iadd,1),(124,.istore 6,2),(126,.iload_n 1,1),(127,.iconst 1,1),(128,.if_icmp .le 56,3),(131,.iload 5,2),(133,.iconst 1,1),(134,.if_icmp .le 50,3),(137,.aload_n 0,1),(138,.getfield 11,3),(141,.iload 5,2),(143,.iconst 1,1),(144,.isub,1),(145,.iaload,1),(146,.iload_n 3,1),(147,.if_icmp .ne 37,3),(150,.aload_n 0,1),(151,.getfield 11,3),(154,.iload 5,2),(156,.iconst 2,1),(157,.isub,1),(158,.iaload,1),(159,.iload_n 2,1),(160,.if_icmp .ne 24,3),(163,.iload 6,2),(165,.aload_n 0,1),(166,.getfield 18,3),(169,.iload 4,2),(171,.bipush 26,2),(173,.isub,1),(174,.iconst 2,1),(175,.isub,1),(176,.iaload,1),(177,.iconst 1,1),(178,.iadd,1),(179,.invokestatic 44,3),(182,.istore 6,2),(184,.aload_n 0,1),(185,.getfield 18,3),(188,.iload 4,2),(190,.iload 6,2),(192,.iastore,1),(193,.iinc 5 1,3),(196,.goto (-140),3),(199,.return_,1)]
def q91_P : rfP := (flX7,csX7,lcX7,spX7,[q88_M,q89_M,q90_M],[(44,0),(44,1),(44,2)],[],[])
def q91_U : rfU := [(.inl 1,[((-2147483648),0),(1,1),(2,12),(13,2147483647)])]
set_option maxHeartbeats 4000000 in
def q91_N : List rfB := [(0,([(0,.inr (.inl [20])),(1,.inl ((1,1,0),none))],[],[]),(645,[]),0),
  (56,([(0,.inr (.inl [20])),(1,.inl ((1,1,0),none)),(2,.inl (((-2147483648),2147483647,1),some (.inr (18,0),some 0))),(3,.inl ((0,0,0),none)),(4,.inl ((13,13,0),none)),(5,.inl ((1,1,0),none))],[],[((19,13),(1,1,0),none)]),(616,[]),0),
  (184,([(0,.inr (.inl [20])),(1,.inl ((1,1,0),none)),(2,.inl (((-2147483648),2147483647,1),some (.inr (18,0),some 0))),(3,.inl ((0,0,0),none)),(4,.inl ((14,14,0),none)),(5,.inl ((1,1,0),none)),(6,.inl (((-2147483648),2147483647,1),none))],[],[((19,13),(1,1,0),none),((20,3),(1,12,1),none)]),(573,[]),0),
  (56,([(0,.inr (.inl [20])),(1,.inl ((1,1,0),none)),(2,.inl (((-2147483648),2147483647,1),some (.inr (18,0),some 0))),(3,.inl ((0,0,0),none)),(4,.inl ((14,14,0),none)),(5,.inl ((2,2,0),none)),(6,.inl (((-2147483648),2147483647,1),none))],[],[((19,13),(1,1,0),none),((19,14),((-2147483648),2147483647,1),none),((20,3),(1,12,1),none)]),(566,[]),0),
  (184,([(0,.inr (.inl [20])),(1,.inl ((1,1,0),none)),(2,.inl (((-2147483648),2147483647,1),some (.inr (18,0),some 0))),(3,.inl ((0,0,0),none)),(4,.inl ((15,15,0),none)),(5,.inl ((2,2,0),none)),(6,.inl (((-2147483648),2147483647,1),none))],[],[((19,13),(1,1,0),none),((20,3),(2,12,1),none)]),(523,[]),0),
  (56,([(0,.inr (.inl [20])),(1,.inl ((1,1,0),none)),(2,.inl (((-2147483648),2147483647,1),some (.inr (18,0),some 0))),(3,.inl ((0,0,0),none)),(4,.inl ((15,15,0),none)),(5,.inl ((3,3,0),none)),(6,.inl (((-2147483648),2147483647,1),none))],[],[((19,13),(1,1,0),none),((19,15),((-2147483648),2147483647,1),none),((20,3),(2,12,1),none)]),(516,[]),0),
  (184,([(0,.inr (.inl [20])),(1,.inl ((1,1,0),none)),(2,.inl (((-2147483648),2147483647,1),some (.inr (18,0),some 0))),(3,.inl ((0,0,0),none)),(4,.inl ((16,16,0),none)),(5,.inl ((3,3,0),none)),(6,.inl (((-2147483648),2147483647,1),none))],[],[((19,13),(1,1,0),none),((20,3),(3,12,1),none)]),(473,[]),0),
  (56,([(0,.inr (.inl [20])),(1,.inl ((1,1,0),none)),(2,.inl (((-2147483648),2147483647,1),some (.inr (18,0),some 0))),(3,.inl ((0,0,0),none)),(4,.inl ((16,16,0),none)),(5,.inl ((4,4,0),none)),(6,.inl (((-2147483648),2147483647,1),none))],[],[((19,13),(1,1,0),none),((19,16),((-2147483648),2147483647,1),none),((20,3),(3,12,1),none)]),(466,[]),0),
  (184,([(0,.inr (.inl [20])),(1,.inl ((1,1,0),none)),(2,.inl (((-2147483648),2147483647,1),some (.inr (18,0),some 0))),(3,.inl ((0,0,0),none)),(4,.inl ((17,17,0),none)),(5,.inl ((4,4,0),none)),(6,.inl (((-2147483648),2147483647,1),none))],[],[((19,13),(1,1,0),none),((20,3),(4,12,1),none)]),(423,[]),0),
  (56,([(0,.inr (.inl [20])),(1,.inl ((1,1,0),none)),(2,.inl (((-2147483648),2147483647,1),some (.inr (18,0),some 0))),(3,.inl ((0,0,0),none)),(4,.inl ((17,17,0),none)),(5,.inl ((5,5,0),none)),(6,.inl (((-2147483648),2147483647,1),none))],[],[((19,13),(1,1,0),none),((19,17),((-2147483648),2147483647,1),none),((20,3),(4,12,1),none)]),(416,[]),0),
  (184,([(0,.inr (.inl [20])),(1,.inl ((1,1,0),none)),(2,.inl (((-2147483648),2147483647,1),some (.inr (18,0),some 0))),(3,.inl ((0,0,0),none)),(4,.inl ((18,18,0),none)),(5,.inl ((5,5,0),none)),(6,.inl (((-2147483648),2147483647,1),none))],[],[((19,13),(1,1,0),none),((20,3),(5,12,1),none)]),(373,[]),0),
  (56,([(0,.inr (.inl [20])),(1,.inl ((1,1,0),none)),(2,.inl (((-2147483648),2147483647,1),some (.inr (18,0),some 0))),(3,.inl ((0,0,0),none)),(4,.inl ((18,18,0),none)),(5,.inl ((6,6,0),none)),(6,.inl (((-2147483648),2147483647,1),none))],[],[((19,13),(1,1,0),none),((19,18),((-2147483648),2147483647,1),none),((20,3),(5,12,1),none)]),(366,[]),0),
  (184,([(0,.inr (.inl [20])),(1,.inl ((1,1,0),none)),(2,.inl (((-2147483648),2147483647,1),some (.inr (18,0),some 0))),(3,.inl ((0,0,0),none)),(4,.inl ((19,19,0),none)),(5,.inl ((6,6,0),none)),(6,.inl (((-2147483648),2147483647,1),none))],[],[((19,13),(1,1,0),none),((20,3),(6,12,1),none)]),(323,[]),0),
  (56,([(0,.inr (.inl [20])),(1,.inl ((1,1,0),none)),(2,.inl (((-2147483648),2147483647,1),some (.inr (18,0),some 0))),(3,.inl ((0,0,0),none)),(4,.inl ((19,19,0),none)),(5,.inl ((7,7,0),none)),(6,.inl (((-2147483648),2147483647,1),none))],[],[((19,13),(1,1,0),none),((19,19),((-2147483648),2147483647,1),none),((20,3),(6,12,1),none)]),(316,[]),0),
  (184,([(0,.inr (.inl [20])),(1,.inl ((1,1,0),none)),(2,.inl (((-2147483648),2147483647,1),some (.inr (18,0),some 0))),(3,.inl ((0,0,0),none)),(4,.inl ((20,20,0),none)),(5,.inl ((7,7,0),none)),(6,.inl (((-2147483648),2147483647,1),none))],[],[((19,13),(1,1,0),none),((20,3),(7,12,1),none)]),(273,[]),0),
  (56,([(0,.inr (.inl [20])),(1,.inl ((1,1,0),none)),(2,.inl (((-2147483648),2147483647,1),some (.inr (18,0),some 0))),(3,.inl ((0,0,0),none)),(4,.inl ((20,20,0),none)),(5,.inl ((8,8,0),none)),(6,.inl (((-2147483648),2147483647,1),none))],[],[((19,13),(1,1,0),none),((19,20),((-2147483648),2147483647,1),none),((20,3),(7,12,1),none)]),(266,[]),0),
  (184,([(0,.inr (.inl [20])),(1,.inl ((1,1,0),none)),(2,.inl (((-2147483648),2147483647,1),some (.inr (18,0),some 0))),(3,.inl ((0,0,0),none)),(4,.inl ((21,21,0),none)),(5,.inl ((8,8,0),none)),(6,.inl (((-2147483648),2147483647,1),none))],[],[((19,13),(1,1,0),none),((20,3),(8,12,1),none)]),(223,[]),0),
  (56,([(0,.inr (.inl [20])),(1,.inl ((1,1,0),none)),(2,.inl (((-2147483648),2147483647,1),some (.inr (18,0),some 0))),(3,.inl ((0,0,0),none)),(4,.inl ((21,21,0),none)),(5,.inl ((9,9,0),none)),(6,.inl (((-2147483648),2147483647,1),none))],[],[((19,13),(1,1,0),none),((19,21),((-2147483648),2147483647,1),none),((20,3),(8,12,1),none)]),(216,[]),0),
  (184,([(0,.inr (.inl [20])),(1,.inl ((1,1,0),none)),(2,.inl (((-2147483648),2147483647,1),some (.inr (18,0),some 0))),(3,.inl ((0,0,0),none)),(4,.inl ((22,22,0),none)),(5,.inl ((9,9,0),none)),(6,.inl (((-2147483648),2147483647,1),none))],[],[((19,13),(1,1,0),none),((20,3),(9,12,1),none)]),(173,[]),0),
  (56,([(0,.inr (.inl [20])),(1,.inl ((1,1,0),none)),(2,.inl (((-2147483648),2147483647,1),some (.inr (18,0),some 0))),(3,.inl ((0,0,0),none)),(4,.inl ((22,22,0),none)),(5,.inl ((10,10,0),none)),(6,.inl (((-2147483648),2147483647,1),none))],[],[((19,13),(1,1,0),none),((19,22),((-2147483648),2147483647,1),none),((20,3),(9,12,1),none)]),(166,[]),0),
  (184,([(0,.inr (.inl [20])),(1,.inl ((1,1,0),none)),(2,.inl (((-2147483648),2147483647,1),some (.inr (18,0),some 0))),(3,.inl ((0,0,0),none)),(4,.inl ((23,23,0),none)),(5,.inl ((10,10,0),none)),(6,.inl (((-2147483648),2147483647,1),none))],[],[((19,13),(1,1,0),none),((20,3),(10,12,1),none)]),(123,[]),0),
  (56,([(0,.inr (.inl [20])),(1,.inl ((1,1,0),none)),(2,.inl (((-2147483648),2147483647,1),some (.inr (18,0),some 0))),(3,.inl ((0,0,0),none)),(4,.inl ((23,23,0),none)),(5,.inl ((11,11,0),none)),(6,.inl (((-2147483648),2147483647,1),none))],[],[((19,13),(1,1,0),none),((19,23),((-2147483648),2147483647,1),none),((20,3),(10,12,1),none)]),(116,[]),0),
  (184,([(0,.inr (.inl [20])),(1,.inl ((1,1,0),none)),(2,.inl (((-2147483648),2147483647,1),some (.inr (18,0),some 0))),(3,.inl ((0,0,0),none)),(4,.inl ((24,24,0),none)),(5,.inl ((11,11,0),none)),(6,.inl (((-2147483648),2147483647,1),none))],[],[((19,13),(1,1,0),none),((20,3),(11,12,1),none)]),(73,[]),0),
  (56,([(0,.inr (.inl [20])),(1,.inl ((1,1,0),none)),(2,.inl (((-2147483648),2147483647,1),some (.inr (18,0),some 0))),(3,.inl ((0,0,0),none)),(4,.inl ((24,24,0),none)),(5,.inl ((12,12,0),none)),(6,.inl (((-2147483648),2147483647,1),none))],[],[((19,13),(1,1,0),none),((19,24),((-2147483648),2147483647,1),none),((20,3),(11,12,1),none)]),(66,[]),0),
  (184,([(0,.inr (.inl [20])),(1,.inl ((1,1,0),none)),(2,.inl (((-2147483648),2147483647,1),some (.inr (18,0),some 0))),(3,.inl ((0,0,0),none)),(4,.inl ((25,25,0),none)),(5,.inl ((12,12,0),none)),(6,.inl (((-2147483648),2147483647,1),none))],[],[((19,13),(1,1,0),none),((20,3),(12,12,1),none)]),(23,[]),0),
  (56,([(0,.inr (.inl [20])),(1,.inl ((1,1,0),none)),(2,.inl (((-2147483648),2147483647,1),some (.inr (18,0),some 0))),(3,.inl ((0,0,0),none)),(4,.inl ((25,25,0),none)),(5,.inl ((13,13,0),none)),(6,.inl (((-2147483648),2147483647,1),none))],[],[((19,13),(1,1,0),none),((19,25),((-2147483648),2147483647,1),none),((20,3),(12,12,1),none)]),(16,[]),0)]
set_option maxRecDepth 100000 in
theorem q91_ok : rf_chkB q91_P q91_U wLay q91_M ddX7_fillRow [(117,[0,2]),(120,[1,2])] [] [0,56,184] 600 q91_N = true := by decide +kernel
/-- java/lang/Math.min -/
def q92_M : rfM := ((⟨"java/lang/Math", "min", "(II)I"⟩, prog_17_method_69_code, 2, (some .int)), (0,0), ([.inl ((2,2,0),none),.inl (((-2147483648),2147483647,1),none)],[]), [], [(some (.inl (((-2147483648),2,1),none)),[],[])])
def q92_P : rfP := (flJ9,csJ9,lcJ9,spJ9,[],[],[],[])
def q92_U : rfU := []
set_option maxHeartbeats 4000000 in
def q92_N : List rfB := [(0,([(0,.inl ((2,2,0),none)),(1,.inl (((-2147483648),2147483647,1),none))],[],[]),(6,[]),0),
  (10,([(0,.inl ((2,2,0),none)),(1,.inl (((-2147483648),2147483647,1),none))],[.inl (((-2147483648),2,1),none)],[]),(0,[]),0)]
set_option maxRecDepth 100000 in
theorem q92_ok : rf_chkB q92_P q92_U wLay q92_M ddJ9_min_7cf53 [] [] [0,10] 600 q92_N = true := by decide +kernel
/-- java/lang/Math.min -/
def q93_M : rfM := ((⟨"java/lang/Math", "min", "(II)I"⟩, prog_17_method_69_code, 2, (some .int)), (0,0), ([.inl (((-2147483648),2147483647,1),none),.inl (((-2147483648),2,1),none)],[]), [], [(some (.inl (((-2147483648),2,1),none)),[],[])])
def q93_P : rfP := (flJ9,csJ9,lcJ9,spJ9,[],[],[],[])
def q93_U : rfU := []
set_option maxHeartbeats 4000000 in
def q93_N : List rfB := [(0,([(0,.inl (((-2147483648),2147483647,1),none)),(1,.inl (((-2147483648),2,1),none))],[],[]),(6,[]),0),
  (10,([(0,.inl (((-2147483648),2147483647,1),none)),(1,.inl (((-2147483648),2,1),none))],[.inl (((-2147483648),2,1),none)],[]),(0,[]),0)]
set_option maxRecDepth 100000 in
theorem q93_ok : rf_chkB q93_P q93_U wLay q93_M ddJ9_min_7cf53 [] [] [0,10] 600 q93_N = true := by decide +kernel
/-- NearSpell.Ruler.fillRow -/
def q94_M : rfM := ((⟨"NearSpell$Ruler", "fillRow", "(I)V"⟩, prog_9_method_9_code, 7, none), (1,21), ([.inr (.inl [20]),.inl ((1,2,1),none)],[]), [(19,0)], [(none,[],[])])
def q94_P : rfP := (flX7,csX7,lcX7,spX7,[q92_M,q88_M,q93_M,q89_M,q90_M],[(44,0),(44,1),(44,2),(44,3),(44,4)],[],[])
def q94_U : rfU := [(.inl 1,[((-2147483648),0),(1,1),(2,12),(13,2147483647)])]
set_option maxHeartbeats 4000000 in
def q94_N : List rfB := [(0,([(0,.inr (.inl [20])),(1,.inl ((1,2,1),none))],[],[]),(1653,[]),1000000),
  (56,([(0,.inr (.inl [20])),(1,.inl ((2,2,1),none)),(2,.inl (((-2147483648),2147483647,1),some (.inr (18,1),some 0))),(3,.inl (((-2147483648),2147483647,1),some (.inr (18,0),some 0))),(4,.inl ((26,26,13),none)),(5,.inl ((1,1,0),none))],[],[((19,26),(2,2,1),none)]),(1617,[]),0),
  (56,([(0,.inr (.inl [20])),(1,.inl ((1,1,1),none)),(2,.inl (((-2147483648),2147483647,1),some (.inr (18,0),some 0))),(3,.inl ((0,0,0),none)),(4,.inl ((13,13,13),none)),(5,.inl ((1,1,0),none))],[],[((19,13),(1,1,1),none)]),(616,[]),0),
  (184,([(0,.inr (.inl [20])),(1,.inl ((2,2,1),none)),(2,.inl (((-2147483648),2147483647,1),some (.inr (18,1),some 0))),(3,.inl (((-2147483648),2147483647,1),some (.inr (18,0),some 0))),(4,.inl ((27,27,13),none)),(5,.inl ((1,1,0),none)),(6,.inl (((-2147483648),2147483647,1),none))],[],[((19,26),(2,2,1),none),((20,3),(1,12,1),none)]),(1571,[]),0),
  (184,([(0,.inr (.inl [20])),(1,.inl ((1,1,1),none)),(2,.inl (((-2147483648),2147483647,1),some (.inr (18,0),some 0))),(3,.inl ((0,0,0),none)),(4,.inl ((14,14,13),none)),(5,.inl ((1,1,0),none)),(6,.inl (((-2147483648),2147483647,1),none))],[],[((19,13),(1,1,1),none),((20,3),(1,12,1),none)]),(573,[]),0),
  (56,([(0,.inr (.inl [20])),(1,.inl ((2,2,1),none)),(2,.inl (((-2147483648),2147483647,1),some (.inr (18,1),some 0))),(3,.inl (((-2147483648),2147483647,1),some (.inr (18,0),some 0))),(4,.inl ((27,27,13),none)),(5,.inl ((2,2,0),none)),(6,.inl (((-2147483648),2147483647,1),none))],[],[((19,26),(2,2,1),none),((19,27),((-2147483648),2147483647,1),none),((20,3),(1,12,1),none)]),(1564,[]),0),
  (184,([(0,.inr (.inl [20])),(1,.inl ((2,2,1),none)),(2,.inl (((-2147483648),2147483647,1),some (.inr (18,1),some 0))),(3,.inl (((-2147483648),2147483647,1),some (.inr (18,0),some 0))),(4,.inl ((28,28,13),none)),(5,.inl ((2,2,0),none)),(6,.inl (((-2147483648),2147483647,1),none))],[],[((19,26),(2,2,1),none),((20,3),(2,12,1),none)]),(1489,[]),0),
  (56,([(0,.inr (.inl [20])),(1,.inl ((1,1,1),none)),(2,.inl (((-2147483648),2147483647,1),some (.inr (18,0),some 0))),(3,.inl ((0,0,0),none)),(4,.inl ((14,14,13),none)),(5,.inl ((2,2,0),none)),(6,.inl (((-2147483648),2147483647,1),none))],[],[((19,13),(1,1,1),none),((19,14),((-2147483648),2147483647,1),none),((20,3),(1,12,1),none)]),(566,[]),0),
  (184,([(0,.inr (.inl [20])),(1,.inl ((1,1,1),none)),(2,.inl (((-2147483648),2147483647,1),some (.inr (18,0),some 0))),(3,.inl ((0,0,0),none)),(4,.inl ((15,15,13),none)),(5,.inl ((2,2,0),none)),(6,.inl (((-2147483648),2147483647,1),none))],[],[((19,13),(1,1,1),none),((20,3),(2,12,1),none)]),(523,[]),0),
  (56,([(0,.inr (.inl [20])),(1,.inl ((2,2,1),none)),(2,.inl (((-2147483648),2147483647,1),some (.inr (18,1),some 0))),(3,.inl (((-2147483648),2147483647,1),some (.inr (18,0),some 0))),(4,.inl ((28,28,13),none)),(5,.inl ((3,3,0),none)),(6,.inl (((-2147483648),2147483647,1),none))],[],[((19,26),(2,2,1),none),((19,28),((-2147483648),2147483647,1),none),((20,3),(2,12,1),none)]),(1482,[]),0),
  (184,([(0,.inr (.inl [20])),(1,.inl ((2,2,1),none)),(2,.inl (((-2147483648),2147483647,1),some (.inr (18,1),some 0))),(3,.inl (((-2147483648),2147483647,1),some (.inr (18,0),some 0))),(4,.inl ((29,29,13),none)),(5,.inl ((3,3,0),none)),(6,.inl (((-2147483648),2147483647,1),none))],[],[((19,26),(2,2,1),none),((20,3),(3,12,1),none)]),(1407,[]),0),
  (56,([(0,.inr (.inl [20])),(1,.inl ((1,1,1),none)),(2,.inl (((-2147483648),2147483647,1),some (.inr (18,0),some 0))),(3,.inl ((0,0,0),none)),(4,.inl ((15,15,13),none)),(5,.inl ((3,3,0),none)),(6,.inl (((-2147483648),2147483647,1),none))],[],[((19,13),(1,1,1),none),((19,15),((-2147483648),2147483647,1),none),((20,3),(2,12,1),none)]),(516,[]),0),
  (184,([(0,.inr (.inl [20])),(1,.inl ((1,1,1),none)),(2,.inl (((-2147483648),2147483647,1),some (.inr (18,0),some 0))),(3,.inl ((0,0,0),none)),(4,.inl ((16,16,13),none)),(5,.inl ((3,3,0),none)),(6,.inl (((-2147483648),2147483647,1),none))],[],[((19,13),(1,1,1),none),((20,3),(3,12,1),none)]),(473,[]),0),
  (56,([(0,.inr (.inl [20])),(1,.inl ((2,2,1),none)),(2,.inl (((-2147483648),2147483647,1),some (.inr (18,1),some 0))),(3,.inl (((-2147483648),2147483647,1),some (.inr (18,0),some 0))),(4,.inl ((29,29,13),none)),(5,.inl ((4,4,0),none)),(6,.inl (((-2147483648),2147483647,1),none))],[],[((19,26),(2,2,1),none),((19,29),((-2147483648),2147483647,1),none),((20,3),(3,12,1),none)]),(1400,[]),0),
  (184,([(0,.inr (.inl [20])),(1,.inl ((2,2,1),none)),(2,.inl (((-2147483648),2147483647,1),some (.inr (18,1),some 0))),(3,.inl (((-2147483648),2147483647,1),some (.inr (18,0),some 0))),(4,.inl ((30,30,13),none)),(5,.inl ((4,4,0),none)),(6,.inl (((-2147483648),2147483647,1),none))],[],[((19,26),(2,2,1),none),((20,3),(4,12,1),none)]),(1325,[]),0),
  (56,([(0,.inr (.inl [20])),(1,.inl ((1,1,1),none)),(2,.inl (((-2147483648),2147483647,1),some (.inr (18,0),some 0))),(3,.inl ((0,0,0),none)),(4,.inl ((16,16,13),none)),(5,.inl ((4,4,0),none)),(6,.inl (((-2147483648),2147483647,1),none))],[],[((19,13),(1,1,1),none),((19,16),((-2147483648),2147483647,1),none),((20,3),(3,12,1),none)]),(466,[]),0),
  (184,([(0,.inr (.inl [20])),(1,.inl ((1,1,1),none)),(2,.inl (((-2147483648),2147483647,1),some (.inr (18,0),some 0))),(3,.inl ((0,0,0),none)),(4,.inl ((17,17,13),none)),(5,.inl ((4,4,0),none)),(6,.inl (((-2147483648),2147483647,1),none))],[],[((19,13),(1,1,1),none),((20,3),(4,12,1),none)]),(423,[]),0),
  (56,([(0,.inr (.inl [20])),(1,.inl ((2,2,1),none)),(2,.inl (((-2147483648),2147483647,1),some (.inr (18,1),some 0))),(3,.inl (((-2147483648),2147483647,1),some (.inr (18,0),some 0))),(4,.inl ((30,30,13),none)),(5,.inl ((5,5,0),none)),(6,.inl (((-2147483648),2147483647,1),none))],[],[((19,26),(2,2,1),none),((19,30),((-2147483648),2147483647,1),none),((20,3),(4,12,1),none)]),(1318,[]),0),
  (184,([(0,.inr (.inl [20])),(1,.inl ((2,2,1),none)),(2,.inl (((-2147483648),2147483647,1),some (.inr (18,1),some 0))),(3,.inl (((-2147483648),2147483647,1),some (.inr (18,0),some 0))),(4,.inl ((31,31,13),none)),(5,.inl ((5,5,0),none)),(6,.inl (((-2147483648),2147483647,1),none))],[],[((19,26),(2,2,1),none),((20,3),(5,12,1),none)]),(1243,[]),0),
  (56,([(0,.inr (.inl [20])),(1,.inl ((1,1,1),none)),(2,.inl (((-2147483648),2147483647,1),some (.inr (18,0),some 0))),(3,.inl ((0,0,0),none)),(4,.inl ((17,17,13),none)),(5,.inl ((5,5,0),none)),(6,.inl (((-2147483648),2147483647,1),none))],[],[((19,13),(1,1,1),none),((19,17),((-2147483648),2147483647,1),none),((20,3),(4,12,1),none)]),(416,[]),0),
  (184,([(0,.inr (.inl [20])),(1,.inl ((1,1,1),none)),(2,.inl (((-2147483648),2147483647,1),some (.inr (18,0),some 0))),(3,.inl ((0,0,0),none)),(4,.inl ((18,18,13),none)),(5,.inl ((5,5,0),none)),(6,.inl (((-2147483648),2147483647,1),none))],[],[((19,13),(1,1,1),none),((20,3),(5,12,1),none)]),(373,[]),0),
  (56,([(0,.inr (.inl [20])),(1,.inl ((2,2,1),none)),(2,.inl (((-2147483648),2147483647,1),some (.inr (18,1),some 0))),(3,.inl (((-2147483648),2147483647,1),some (.inr (18,0),some 0))),(4,.inl ((31,31,13),none)),(5,.inl ((6,6,0),none)),(6,.inl (((-2147483648),2147483647,1),none))],[],[((19,26),(2,2,1),none),((19,31),((-2147483648),2147483647,1),none),((20,3),(5,12,1),none)]),(1236,[]),0),
  (184,([(0,.inr (.inl [20])),(1,.inl ((2,2,1),none)),(2,.inl (((-2147483648),2147483647,1),some (.inr (18,1),some 0))),(3,.inl (((-2147483648),2147483647,1),some (.inr (18,0),some 0))),(4,.inl ((32,32,13),none)),(5,.inl ((6,6,0),none)),(6,.inl (((-2147483648),2147483647,1),none))],[],[((19,26),(2,2,1),none),((20,3),(6,12,1),none)]),(1161,[]),0),
  (56,([(0,.inr (.inl [20])),(1,.inl ((1,1,1),none)),(2,.inl (((-2147483648),2147483647,1),some (.inr (18,0),some 0))),(3,.inl ((0,0,0),none)),(4,.inl ((18,18,13),none)),(5,.inl ((6,6,0),none)),(6,.inl (((-2147483648),2147483647,1),none))],[],[((19,13),(1,1,1),none),((19,18),((-2147483648),2147483647,1),none),((20,3),(5,12,1),none)]),(366,[]),0),
  (184,([(0,.inr (.inl [20])),(1,.inl ((1,1,1),none)),(2,.inl (((-2147483648),2147483647,1),some (.inr (18,0),some 0))),(3,.inl ((0,0,0),none)),(4,.inl ((19,19,13),none)),(5,.inl ((6,6,0),none)),(6,.inl (((-2147483648),2147483647,1),none))],[],[((19,13),(1,1,1),none),((20,3),(6,12,1),none)]),(323,[]),0),
  (56,([(0,.inr (.inl [20])),(1,.inl ((2,2,1),none)),(2,.inl (((-2147483648),2147483647,1),some (.inr (18,1),some 0))),(3,.inl (((-2147483648),2147483647,1),some (.inr (18,0),some 0))),(4,.inl ((32,32,13),none)),(5,.inl ((7,7,0),none)),(6,.inl (((-2147483648),2147483647,1),none))],[],[((19,26),(2,2,1),none),((19,32),((-2147483648),2147483647,1),none),((20,3),(6,12,1),none)]),(1154,[]),0),
  (184,([(0,.inr (.inl [20])),(1,.inl ((2,2,1),none)),(2,.inl (((-2147483648),2147483647,1),some (.inr (18,1),some 0))),(3,.inl (((-2147483648),2147483647,1),some (.inr (18,0),some 0))),(4,.inl ((33,33,13),none)),(5,.inl ((7,7,0),none)),(6,.inl (((-2147483648),2147483647,1),none))],[],[((19,26),(2,2,1),none),((20,3),(7,12,1),none)]),(1079,[]),0),
  (56,([(0,.inr (.inl [20])),(1,.inl ((1,1,1),none)),(2,.inl (((-2147483648),2147483647,1),some (.inr (18,0),some 0))),(3,.inl ((0,0,0),none)),(4,.inl ((19,19,13),none)),(5,.inl ((7,7,0),none)),(6,.inl (((-2147483648),2147483647,1),none))],[],[((19,13),(1,1,1),none),((19,19),((-2147483648),2147483647,1),none),((20,3),(6,12,1),none)]),(316,[]),0),
  (184,([(0,.inr (.inl [20])),(1,.inl ((1,1,1),none)),(2,.inl (((-2147483648),2147483647,1),some (.inr (18,0),some 0))),(3,.inl ((0,0,0),none)),(4,.inl ((20,20,13),none)),(5,.inl ((7,7,0),none)),(6,.inl (((-2147483648),2147483647,1),none))],[],[((19,13),(1,1,1),none),((20,3),(7,12,1),none)]),(273,[]),0),
  (56,([(0,.inr (.inl [20])),(1,.inl ((2,2,1),none)),(2,.inl (((-2147483648),2147483647,1),some (.inr (18,1),some 0))),(3,.inl (((-2147483648),2147483647,1),some (.inr (18,0),some 0))),(4,.inl ((33,33,13),none)),(5,.inl ((8,8,0),none)),(6,.inl (((-2147483648),2147483647,1),none))],[],[((19,26),(2,2,1),none),((19,33),((-2147483648),2147483647,1),none),((20,3),(7,12,1),none)]),(1072,[]),0),
  (184,([(0,.inr (.inl [20])),(1,.inl ((2,2,1),none)),(2,.inl (((-2147483648),2147483647,1),some (.inr (18,1),some 0))),(3,.inl (((-2147483648),2147483647,1),some (.inr (18,0),some 0))),(4,.inl ((34,34,13),none)),(5,.inl ((8,8,0),none)),(6,.inl (((-2147483648),2147483647,1),none))],[],[((19,26),(2,2,1),none),((20,3),(8,12,1),none)]),(997,[]),0),
  (56,([(0,.inr (.inl [20])),(1,.inl ((1,1,1),none)),(2,.inl (((-2147483648),2147483647,1),some (.inr (18,0),some 0))),(3,.inl ((0,0,0),none)),(4,.inl ((20,20,13),none)),(5,.inl ((8,8,0),none)),(6,.inl (((-2147483648),2147483647,1),none))],[],[((19,13),(1,1,1),none),((19,20),((-2147483648),2147483647,1),none),((20,3),(7,12,1),none)]),(266,[]),0),
  (184,([(0,.inr (.inl [20])),(1,.inl ((1,1,1),none)),(2,.inl (((-2147483648),2147483647,1),some (.inr (18,0),some 0))),(3,.inl ((0,0,0),none)),(4,.inl ((21,21,13),none)),(5,.inl ((8,8,0),none)),(6,.inl (((-2147483648),2147483647,1),none))],[],[((19,13),(1,1,1),none),((20,3),(8,12,1),none)]),(223,[]),0),
  (56,([(0,.inr (.inl [20])),(1,.inl ((2,2,1),none)),(2,.inl (((-2147483648),2147483647,1),some (.inr (18,1),some 0))),(3,.inl (((-2147483648),2147483647,1),some (.inr (18,0),some 0))),(4,.inl ((34,34,13),none)),(5,.inl ((9,9,0),none)),(6,.inl (((-2147483648),2147483647,1),none))],[],[((19,26),(2,2,1),none),((19,34),((-2147483648),2147483647,1),none),((20,3),(8,12,1),none)]),(990,[]),0),
  (184,([(0,.inr (.inl [20])),(1,.inl ((2,2,1),none)),(2,.inl (((-2147483648),2147483647,1),some (.inr (18,1),some 0))),(3,.inl (((-2147483648),2147483647,1),some (.inr (18,0),some 0))),(4,.inl ((35,35,13),none)),(5,.inl ((9,9,0),none)),(6,.inl (((-2147483648),2147483647,1),none))],[],[((19,26),(2,2,1),none),((20,3),(9,12,1),none)]),(915,[]),0),
  (56,([(0,.inr (.inl [20])),(1,.inl ((1,1,1),none)),(2,.inl (((-2147483648),2147483647,1),some (.inr (18,0),some 0))),(3,.inl ((0,0,0),none)),(4,.inl ((21,21,13),none)),(5,.inl ((9,9,0),none)),(6,.inl (((-2147483648),2147483647,1),none))],[],[((19,13),(1,1,1),none),((19,21),((-2147483648),2147483647,1),none),((20,3),(8,12,1),none)]),(216,[]),0),
  (184,([(0,.inr (.inl [20])),(1,.inl ((1,1,1),none)),(2,.inl (((-2147483648),2147483647,1),some (.inr (18,0),some 0))),(3,.inl ((0,0,0),none)),(4,.inl ((22,22,13),none)),(5,.inl ((9,9,0),none)),(6,.inl (((-2147483648),2147483647,1),none))],[],[((19,13),(1,1,1),none),((20,3),(9,12,1),none)]),(173,[]),0),
  (56,([(0,.inr (.inl [20])),(1,.inl ((2,2,1),none)),(2,.inl (((-2147483648),2147483647,1),some (.inr (18,1),some 0))),(3,.inl (((-2147483648),2147483647,1),some (.inr (18,0),some 0))),(4,.inl ((35,35,13),none)),(5,.inl ((10,10,0),none)),(6,.inl (((-2147483648),2147483647,1),none))],[],[((19,26),(2,2,1),none),((19,35),((-2147483648),2147483647,1),none),((20,3),(9,12,1),none)]),(908,[]),0),
  (184,([(0,.inr (.inl [20])),(1,.inl ((2,2,1),none)),(2,.inl (((-2147483648),2147483647,1),some (.inr (18,1),some 0))),(3,.inl (((-2147483648),2147483647,1),some (.inr (18,0),some 0))),(4,.inl ((36,36,13),none)),(5,.inl ((10,10,0),none)),(6,.inl (((-2147483648),2147483647,1),none))],[],[((19,26),(2,2,1),none),((20,3),(10,12,1),none)]),(833,[]),0),
  (56,([(0,.inr (.inl [20])),(1,.inl ((1,1,1),none)),(2,.inl (((-2147483648),2147483647,1),some (.inr (18,0),some 0))),(3,.inl ((0,0,0),none)),(4,.inl ((22,22,13),none)),(5,.inl ((10,10,0),none)),(6,.inl (((-2147483648),2147483647,1),none))],[],[((19,13),(1,1,1),none),((19,22),((-2147483648),2147483647,1),none),((20,3),(9,12,1),none)]),(166,[]),0),
  (184,([(0,.inr (.inl [20])),(1,.inl ((1,1,1),none)),(2,.inl (((-2147483648),2147483647,1),some (.inr (18,0),some 0))),(3,.inl ((0,0,0),none)),(4,.inl ((23,23,13),none)),(5,.inl ((10,10,0),none)),(6,.inl (((-2147483648),2147483647,1),none))],[],[((19,13),(1,1,1),none),((20,3),(10,12,1),none)]),(123,[]),0),
  (56,([(0,.inr (.inl [20])),(1,.inl ((2,2,1),none)),(2,.inl (((-2147483648),2147483647,1),some (.inr (18,1),some 0))),(3,.inl (((-2147483648),2147483647,1),some (.inr (18,0),some 0))),(4,.inl ((36,36,13),none)),(5,.inl ((11,11,0),none)),(6,.inl (((-2147483648),2147483647,1),none))],[],[((19,26),(2,2,1),none),((19,36),((-2147483648),2147483647,1),none),((20,3),(10,12,1),none)]),(826,[]),0),
  (184,([(0,.inr (.inl [20])),(1,.inl ((2,2,1),none)),(2,.inl (((-2147483648),2147483647,1),some (.inr (18,1),some 0))),(3,.inl (((-2147483648),2147483647,1),some (.inr (18,0),some 0))),(4,.inl ((37,37,13),none)),(5,.inl ((11,11,0),none)),(6,.inl (((-2147483648),2147483647,1),none))],[],[((19,26),(2,2,1),none),((20,3),(11,12,1),none)]),(751,[]),0),
  (56,([(0,.inr (.inl [20])),(1,.inl ((1,1,1),none)),(2,.inl (((-2147483648),2147483647,1),some (.inr (18,0),some 0))),(3,.inl ((0,0,0),none)),(4,.inl ((23,23,13),none)),(5,.inl ((11,11,0),none)),(6,.inl (((-2147483648),2147483647,1),none))],[],[((19,13),(1,1,1),none),((19,23),((-2147483648),2147483647,1),none),((20,3),(10,12,1),none)]),(116,[]),0),
  (184,([(0,.inr (.inl [20])),(1,.inl ((1,1,1),none)),(2,.inl (((-2147483648),2147483647,1),some (.inr (18,0),some 0))),(3,.inl ((0,0,0),none)),(4,.inl ((24,24,13),none)),(5,.inl ((11,11,0),none)),(6,.inl (((-2147483648),2147483647,1),none))],[],[((19,13),(1,1,1),none),((20,3),(11,12,1),none)]),(73,[]),0),
  (56,([(0,.inr (.inl [20])),(1,.inl ((2,2,1),none)),(2,.inl (((-2147483648),2147483647,1),some (.inr (18,1),some 0))),(3,.inl (((-2147483648),2147483647,1),some (.inr (18,0),some 0))),(4,.inl ((37,37,13),none)),(5,.inl ((12,12,0),none)),(6,.inl (((-2147483648),2147483647,1),none))],[],[((19,26),(2,2,1),none),((19,37),((-2147483648),2147483647,1),none),((20,3),(11,12,1),none)]),(744,[]),0),
  (184,([(0,.inr (.inl [20])),(1,.inl ((2,2,1),none)),(2,.inl (((-2147483648),2147483647,1),some (.inr (18,1),some 0))),(3,.inl (((-2147483648),2147483647,1),some (.inr (18,0),some 0))),(4,.inl ((38,38,13),none)),(5,.inl ((12,12,0),none)),(6,.inl (((-2147483648),2147483647,1),none))],[],[((19,26),(2,2,1),none),((20,3),(12,12,1),none)]),(669,[]),0),
  (56,([(0,.inr (.inl [20])),(1,.inl ((1,1,1),none)),(2,.inl (((-2147483648),2147483647,1),some (.inr (18,0),some 0))),(3,.inl ((0,0,0),none)),(4,.inl ((24,24,13),none)),(5,.inl ((12,12,0),none)),(6,.inl (((-2147483648),2147483647,1),none))],[],[((19,13),(1,1,1),none),((19,24),((-2147483648),2147483647,1),none),((20,3),(11,12,1),none)]),(66,[]),0),
  (184,([(0,.inr (.inl [20])),(1,.inl ((1,1,1),none)),(2,.inl (((-2147483648),2147483647,1),some (.inr (18,0),some 0))),(3,.inl ((0,0,0),none)),(4,.inl ((25,25,13),none)),(5,.inl ((12,12,0),none)),(6,.inl (((-2147483648),2147483647,1),none))],[],[((19,13),(1,1,1),none),((20,3),(12,12,1),none)]),(23,[]),0),
  (56,([(0,.inr (.inl [20])),(1,.inl ((2,2,1),none)),(2,.inl (((-2147483648),2147483647,1),some (.inr (18,1),some 0))),(3,.inl (((-2147483648),2147483647,1),some (.inr (18,0),some 0))),(4,.inl ((38,38,13),none)),(5,.inl ((13,13,0),none)),(6,.inl (((-2147483648),2147483647,1),none))],[],[((19,26),(2,2,1),none),((19,38),((-2147483648),2147483647,1),none),((20,3),(12,12,1),none)]),(662,[]),0),
  (56,([(0,.inr (.inl [20])),(1,.inl ((1,1,1),none)),(2,.inl (((-2147483648),2147483647,1),some (.inr (18,0),some 0))),(3,.inl ((0,0,0),none)),(4,.inl ((25,25,13),none)),(5,.inl ((13,13,0),none)),(6,.inl (((-2147483648),2147483647,1),none))],[],[((19,13),(1,1,1),none),((19,25),((-2147483648),2147483647,1),none),((20,3),(12,12,1),none)]),(16,[]),0)]
set_option maxRecDepth 100000 in
theorem q94_ok : rf_chkB q94_P q94_U wLay q94_M ddX7_fillRow [(117,[0,1,4]),(120,[2,3,4]),(179,[4])] [] [0,56,184] 600 q94_N = true := by decide +kernel
/-- NearSpell.Ruler.fillRow -/
def q95_M : rfM := ((⟨"NearSpell$Ruler", "fillRow", "(I)V"⟩, prog_9_method_9_code, 7, none), (1,21), ([.inr (.inl [20]),.inl ((1,3,1),none)],[]), [(19,0)], [(none,[],[])])
def q95_P : rfP := (flX7,csX7,lcX7,spX7,[q90_M,q88_M,q89_M],[(44,0),(44,1),(44,2)],[],[])
def q95_U : rfU := [(.inl 1,[((-2147483648),0),(1,1),(2,12),(13,2147483647)])]
set_option maxHeartbeats 4000000 in
def q95_N : List rfB := [(0,([(0,.inr (.inl [20])),(1,.inl ((1,3,1),none))],[],[]),(1653,[]),1000000),
  (56,([(0,.inr (.inl [20])),(1,.inl ((2,3,1),none)),(2,.inl (((-2147483648),2147483647,1),none)),(3,.inl (((-2147483648),2147483647,1),none)),(4,.inl ((26,39,13),none)),(5,.inl ((1,1,0),none))],[],[]),(1617,[]),0),
  (56,([(0,.inr (.inl [20])),(1,.inl ((1,1,1),none)),(2,.inl (((-2147483648),2147483647,1),some (.inr (18,0),some 0))),(3,.inl ((0,0,0),none)),(4,.inl ((13,13,13),none)),(5,.inl ((1,1,0),none))],[],[((19,13),(1,1,1),none)]),(616,[]),0),
  (184,([(0,.inr (.inl [20])),(1,.inl ((2,3,1),none)),(2,.inl (((-2147483648),2147483647,1),none)),(3,.inl (((-2147483648),2147483647,1),none)),(4,.inl ((27,40,13),none)),(5,.inl ((1,1,0),none)),(6,.inl (((-2147483648),2147483647,1),none))],[],[((20,3),(1,12,1),none)]),(1571,[]),0),
  (184,([(0,.inr (.inl [20])),(1,.inl ((1,1,1),none)),(2,.inl (((-2147483648),2147483647,1),some (.inr (18,0),some 0))),(3,.inl ((0,0,0),none)),(4,.inl ((14,14,13),none)),(5,.inl ((1,1,0),none)),(6,.inl (((-2147483648),2147483647,1),none))],[],[((19,13),(1,1,1),none),((20,3),(1,12,1),none)]),(573,[]),0),
  (56,([(0,.inr (.inl [20])),(1,.inl ((2,3,1),none)),(2,.inl (((-2147483648),2147483647,1),none)),(3,.inl (((-2147483648),2147483647,1),none)),(4,.inl ((27,40,13),none)),(5,.inl ((2,2,0),none)),(6,.inl (((-2147483648),2147483647,1),none))],[],[((20,3),(1,12,1),none)]),(1564,[]),0),
  (184,([(0,.inr (.inl [20])),(1,.inl ((2,3,1),none)),(2,.inl (((-2147483648),2147483647,1),none)),(3,.inl (((-2147483648),2147483647,1),none)),(4,.inl ((28,41,13),none)),(5,.inl ((2,2,0),none)),(6,.inl (((-2147483648),2147483647,1),none))],[],[((20,3),(2,12,1),none)]),(1489,[]),0),
  (56,([(0,.inr (.inl [20])),(1,.inl ((1,1,1),none)),(2,.inl (((-2147483648),2147483647,1),some (.inr (18,0),some 0))),(3,.inl ((0,0,0),none)),(4,.inl ((14,14,13),none)),(5,.inl ((2,2,0),none)),(6,.inl (((-2147483648),2147483647,1),none))],[],[((19,13),(1,1,1),none),((19,14),((-2147483648),2147483647,1),none),((20,3),(1,12,1),none)]),(566,[]),0),
  (184,([(0,.inr (.inl [20])),(1,.inl ((1,1,1),none)),(2,.inl (((-2147483648),2147483647,1),some (.inr (18,0),some 0))),(3,.inl ((0,0,0),none)),(4,.inl ((15,15,13),none)),(5,.inl ((2,2,0),none)),(6,.inl (((-2147483648),2147483647,1),none))],[],[((19,13),(1,1,1),none),((20,3),(2,12,1),none)]),(523,[]),0),
  (56,([(0,.inr (.inl [20])),(1,.inl ((2,3,1),none)),(2,.inl (((-2147483648),2147483647,1),none)),(3,.inl (((-2147483648),2147483647,1),none)),(4,.inl ((28,41,13),none)),(5,.inl ((3,3,0),none)),(6,.inl (((-2147483648),2147483647,1),none))],[],[((20,3),(2,12,1),none)]),(1482,[]),0),
  (184,([(0,.inr (.inl [20])),(1,.inl ((2,3,1),none)),(2,.inl (((-2147483648),2147483647,1),none)),(3,.inl (((-2147483648),2147483647,1),none)),(4,.inl ((29,42,13),none)),(5,.inl ((3,3,0),none)),(6,.inl (((-2147483648),2147483647,1),none))],[],[((20,3),(3,12,1),none)]),(1407,[]),0),
  (56,([(0,.inr (.inl [20])),(1,.inl ((1,1,1),none)),(2,.inl (((-2147483648),2147483647,1),some (.inr (18,0),some 0))),(3,.inl ((0,0,0),none)),(4,.inl ((15,15,13),none)),(5,.inl ((3,3,0),none)),(6,.inl (((-2147483648),2147483647,1),none))],[],[((19,13),(1,1,1),none),((19,15),((-2147483648),2147483647,1),none),((20,3),(2,12,1),none)]),(516,[]),0),
  (184,([(0,.inr (.inl [20])),(1,.inl ((1,1,1),none)),(2,.inl (((-2147483648),2147483647,1),some (.inr (18,0),some 0))),(3,.inl ((0,0,0),none)),(4,.inl ((16,16,13),none)),(5,.inl ((3,3,0),none)),(6,.inl (((-2147483648),2147483647,1),none))],[],[((19,13),(1,1,1),none),((20,3),(3,12,1),none)]),(473,[]),0),
  (56,([(0,.inr (.inl [20])),(1,.inl ((2,3,1),none)),(2,.inl (((-2147483648),2147483647,1),none)),(3,.inl (((-2147483648),2147483647,1),none)),(4,.inl ((29,42,13),none)),(5,.inl ((4,4,0),none)),(6,.inl (((-2147483648),2147483647,1),none))],[],[((20,3),(3,12,1),none)]),(1400,[]),0),
  (184,([(0,.inr (.inl [20])),(1,.inl ((2,3,1),none)),(2,.inl (((-2147483648),2147483647,1),none)),(3,.inl (((-2147483648),2147483647,1),none)),(4,.inl ((30,43,13),none)),(5,.inl ((4,4,0),none)),(6,.inl (((-2147483648),2147483647,1),none))],[],[((20,3),(4,12,1),none)]),(1325,[]),0),
  (56,([(0,.inr (.inl [20])),(1,.inl ((1,1,1),none)),(2,.inl (((-2147483648),2147483647,1),some (.inr (18,0),some 0))),(3,.inl ((0,0,0),none)),(4,.inl ((16,16,13),none)),(5,.inl ((4,4,0),none)),(6,.inl (((-2147483648),2147483647,1),none))],[],[((19,13),(1,1,1),none),((19,16),((-2147483648),2147483647,1),none),((20,3),(3,12,1),none)]),(466,[]),0),
  (184,([(0,.inr (.inl [20])),(1,.inl ((1,1,1),none)),(2,.inl (((-2147483648),2147483647,1),some (.inr (18,0),some 0))),(3,.inl ((0,0,0),none)),(4,.inl ((17,17,13),none)),(5,.inl ((4,4,0),none)),(6,.inl (((-2147483648),2147483647,1),none))],[],[((19,13),(1,1,1),none),((20,3),(4,12,1),none)]),(423,[]),0),
  (56,([(0,.inr (.inl [20])),(1,.inl ((2,3,1),none)),(2,.inl (((-2147483648),2147483647,1),none)),(3,.inl (((-2147483648),2147483647,1),none)),(4,.inl ((30,43,13),none)),(5,.inl ((5,5,0),none)),(6,.inl (((-2147483648),2147483647,1),none))],[],[((20,3),(4,12,1),none)]),(1318,[]),0),
  (184,([(0,.inr (.inl [20])),(1,.inl ((2,3,1),none)),(2,.inl (((-2147483648),2147483647,1),none)),(3,.inl (((-2147483648),2147483647,1),none)),(4,.inl ((31,44,13),none)),(5,.inl ((5,5,0),none)),(6,.inl (((-2147483648),2147483647,1),none))],[],[((20,3),(5,12,1),none)]),(1243,[]),0),
  (56,([(0,.inr (.inl [20])),(1,.inl ((1,1,1),none)),(2,.inl (((-2147483648),2147483647,1),some (.inr (18,0),some 0))),(3,.inl ((0,0,0),none)),(4,.inl ((17,17,13),none)),(5,.inl ((5,5,0),none)),(6,.inl (((-2147483648),2147483647,1),none))],[],[((19,13),(1,1,1),none),((19,17),((-2147483648),2147483647,1),none),((20,3),(4,12,1),none)]),(416,[]),0),
  (184,([(0,.inr (.inl [20])),(1,.inl ((1,1,1),none)),(2,.inl (((-2147483648),2147483647,1),some (.inr (18,0),some 0))),(3,.inl ((0,0,0),none)),(4,.inl ((18,18,13),none)),(5,.inl ((5,5,0),none)),(6,.inl (((-2147483648),2147483647,1),none))],[],[((19,13),(1,1,1),none),((20,3),(5,12,1),none)]),(373,[]),0),
  (56,([(0,.inr (.inl [20])),(1,.inl ((2,3,1),none)),(2,.inl (((-2147483648),2147483647,1),none)),(3,.inl (((-2147483648),2147483647,1),none)),(4,.inl ((31,44,13),none)),(5,.inl ((6,6,0),none)),(6,.inl (((-2147483648),2147483647,1),none))],[],[((20,3),(5,12,1),none)]),(1236,[]),0),
  (184,([(0,.inr (.inl [20])),(1,.inl ((2,3,1),none)),(2,.inl (((-2147483648),2147483647,1),none)),(3,.inl (((-2147483648),2147483647,1),none)),(4,.inl ((32,45,13),none)),(5,.inl ((6,6,0),none)),(6,.inl (((-2147483648),2147483647,1),none))],[],[((20,3),(6,12,1),none)]),(1161,[]),0),
  (56,([(0,.inr (.inl [20])),(1,.inl ((1,1,1),none)),(2,.inl (((-2147483648),2147483647,1),some (.inr (18,0),some 0))),(3,.inl ((0,0,0),none)),(4,.inl ((18,18,13),none)),(5,.inl ((6,6,0),none)),(6,.inl (((-2147483648),2147483647,1),none))],[],[((19,13),(1,1,1),none),((19,18),((-2147483648),2147483647,1),none),((20,3),(5,12,1),none)]),(366,[]),0),
  (184,([(0,.inr (.inl [20])),(1,.inl ((1,1,1),none)),(2,.inl (((-2147483648),2147483647,1),some (.inr (18,0),some 0))),(3,.inl ((0,0,0),none)),(4,.inl ((19,19,13),none)),(5,.inl ((6,6,0),none)),(6,.inl (((-2147483648),2147483647,1),none))],[],[((19,13),(1,1,1),none),((20,3),(6,12,1),none)]),(323,[]),0),
  (56,([(0,.inr (.inl [20])),(1,.inl ((2,3,1),none)),(2,.inl (((-2147483648),2147483647,1),none)),(3,.inl (((-2147483648),2147483647,1),none)),(4,.inl ((32,45,13),none)),(5,.inl ((7,7,0),none)),(6,.inl (((-2147483648),2147483647,1),none))],[],[((20,3),(6,12,1),none)]),(1154,[]),0),
  (184,([(0,.inr (.inl [20])),(1,.inl ((2,3,1),none)),(2,.inl (((-2147483648),2147483647,1),none)),(3,.inl (((-2147483648),2147483647,1),none)),(4,.inl ((33,46,13),none)),(5,.inl ((7,7,0),none)),(6,.inl (((-2147483648),2147483647,1),none))],[],[((20,3),(7,12,1),none)]),(1079,[]),0),
  (56,([(0,.inr (.inl [20])),(1,.inl ((1,1,1),none)),(2,.inl (((-2147483648),2147483647,1),some (.inr (18,0),some 0))),(3,.inl ((0,0,0),none)),(4,.inl ((19,19,13),none)),(5,.inl ((7,7,0),none)),(6,.inl (((-2147483648),2147483647,1),none))],[],[((19,13),(1,1,1),none),((19,19),((-2147483648),2147483647,1),none),((20,3),(6,12,1),none)]),(316,[]),0),
  (184,([(0,.inr (.inl [20])),(1,.inl ((1,1,1),none)),(2,.inl (((-2147483648),2147483647,1),some (.inr (18,0),some 0))),(3,.inl ((0,0,0),none)),(4,.inl ((20,20,13),none)),(5,.inl ((7,7,0),none)),(6,.inl (((-2147483648),2147483647,1),none))],[],[((19,13),(1,1,1),none),((20,3),(7,12,1),none)]),(273,[]),0),
  (56,([(0,.inr (.inl [20])),(1,.inl ((2,3,1),none)),(2,.inl (((-2147483648),2147483647,1),none)),(3,.inl (((-2147483648),2147483647,1),none)),(4,.inl ((33,46,13),none)),(5,.inl ((8,8,0),none)),(6,.inl (((-2147483648),2147483647,1),none))],[],[((20,3),(7,12,1),none)]),(1072,[]),0),
  (184,([(0,.inr (.inl [20])),(1,.inl ((2,3,1),none)),(2,.inl (((-2147483648),2147483647,1),none)),(3,.inl (((-2147483648),2147483647,1),none)),(4,.inl ((34,47,13),none)),(5,.inl ((8,8,0),none)),(6,.inl (((-2147483648),2147483647,1),none))],[],[((20,3),(8,12,1),none)]),(997,[]),0),
  (56,([(0,.inr (.inl [20])),(1,.inl ((1,1,1),none)),(2,.inl (((-2147483648),2147483647,1),some (.inr (18,0),some 0))),(3,.inl ((0,0,0),none)),(4,.inl ((20,20,13),none)),(5,.inl ((8,8,0),none)),(6,.inl (((-2147483648),2147483647,1),none))],[],[((19,13),(1,1,1),none),((19,20),((-2147483648),2147483647,1),none),((20,3),(7,12,1),none)]),(266,[]),0),
  (184,([(0,.inr (.inl [20])),(1,.inl ((1,1,1),none)),(2,.inl (((-2147483648),2147483647,1),some (.inr (18,0),some 0))),(3,.inl ((0,0,0),none)),(4,.inl ((21,21,13),none)),(5,.inl ((8,8,0),none)),(6,.inl (((-2147483648),2147483647,1),none))],[],[((19,13),(1,1,1),none),((20,3),(8,12,1),none)]),(223,[]),0),
  (56,([(0,.inr (.inl [20])),(1,.inl ((2,3,1),none)),(2,.inl (((-2147483648),2147483647,1),none)),(3,.inl (((-2147483648),2147483647,1),none)),(4,.inl ((34,47,13),none)),(5,.inl ((9,9,0),none)),(6,.inl (((-2147483648),2147483647,1),none))],[],[((20,3),(8,12,1),none)]),(990,[]),0),
  (184,([(0,.inr (.inl [20])),(1,.inl ((2,3,1),none)),(2,.inl (((-2147483648),2147483647,1),none)),(3,.inl (((-2147483648),2147483647,1),none)),(4,.inl ((35,48,13),none)),(5,.inl ((9,9,0),none)),(6,.inl (((-2147483648),2147483647,1),none))],[],[((20,3),(9,12,1),none)]),(915,[]),0),
  (56,([(0,.inr (.inl [20])),(1,.inl ((1,1,1),none)),(2,.inl (((-2147483648),2147483647,1),some (.inr (18,0),some 0))),(3,.inl ((0,0,0),none)),(4,.inl ((21,21,13),none)),(5,.inl ((9,9,0),none)),(6,.inl (((-2147483648),2147483647,1),none))],[],[((19,13),(1,1,1),none),((19,21),((-2147483648),2147483647,1),none),((20,3),(8,12,1),none)]),(216,[]),0),
  (184,([(0,.inr (.inl [20])),(1,.inl ((1,1,1),none)),(2,.inl (((-2147483648),2147483647,1),some (.inr (18,0),some 0))),(3,.inl ((0,0,0),none)),(4,.inl ((22,22,13),none)),(5,.inl ((9,9,0),none)),(6,.inl (((-2147483648),2147483647,1),none))],[],[((19,13),(1,1,1),none),((20,3),(9,12,1),none)]),(173,[]),0),
  (56,([(0,.inr (.inl [20])),(1,.inl ((2,3,1),none)),(2,.inl (((-2147483648),2147483647,1),none)),(3,.inl (((-2147483648),2147483647,1),none)),(4,.inl ((35,48,13),none)),(5,.inl ((10,10,0),none)),(6,.inl (((-2147483648),2147483647,1),none))],[],[((20,3),(9,12,1),none)]),(908,[]),0),
  (184,([(0,.inr (.inl [20])),(1,.inl ((2,3,1),none)),(2,.inl (((-2147483648),2147483647,1),none)),(3,.inl (((-2147483648),2147483647,1),none)),(4,.inl ((36,49,13),none)),(5,.inl ((10,10,0),none)),(6,.inl (((-2147483648),2147483647,1),none))],[],[((20,3),(10,12,1),none)]),(833,[]),0),
  (56,([(0,.inr (.inl [20])),(1,.inl ((1,1,1),none)),(2,.inl (((-2147483648),2147483647,1),some (.inr (18,0),some 0))),(3,.inl ((0,0,0),none)),(4,.inl ((22,22,13),none)),(5,.inl ((10,10,0),none)),(6,.inl (((-2147483648),2147483647,1),none))],[],[((19,13),(1,1,1),none),((19,22),((-2147483648),2147483647,1),none),((20,3),(9,12,1),none)]),(166,[]),0),
  (184,([(0,.inr (.inl [20])),(1,.inl ((1,1,1),none)),(2,.inl (((-2147483648),2147483647,1),some (.inr (18,0),some 0))),(3,.inl ((0,0,0),none)),(4,.inl ((23,23,13),none)),(5,.inl ((10,10,0),none)),(6,.inl (((-2147483648),2147483647,1),none))],[],[((19,13),(1,1,1),none),((20,3),(10,12,1),none)]),(123,[]),0),
  (56,([(0,.inr (.inl [20])),(1,.inl ((2,3,1),none)),(2,.inl (((-2147483648),2147483647,1),none)),(3,.inl (((-2147483648),2147483647,1),none)),(4,.inl ((36,49,13),none)),(5,.inl ((11,11,0),none)),(6,.inl (((-2147483648),2147483647,1),none))],[],[((20,3),(10,12,1),none)]),(826,[]),0),
  (184,([(0,.inr (.inl [20])),(1,.inl ((2,3,1),none)),(2,.inl (((-2147483648),2147483647,1),none)),(3,.inl (((-2147483648),2147483647,1),none)),(4,.inl ((37,50,13),none)),(5,.inl ((11,11,0),none)),(6,.inl (((-2147483648),2147483647,1),none))],[],[((20,3),(11,12,1),none)]),(751,[]),0),
  (56,([(0,.inr (.inl [20])),(1,.inl ((1,1,1),none)),(2,.inl (((-2147483648),2147483647,1),some (.inr (18,0),some 0))),(3,.inl ((0,0,0),none)),(4,.inl ((23,23,13),none)),(5,.inl ((11,11,0),none)),(6,.inl (((-2147483648),2147483647,1),none))],[],[((19,13),(1,1,1),none),((19,23),((-2147483648),2147483647,1),none),((20,3),(10,12,1),none)]),(116,[]),0),
  (184,([(0,.inr (.inl [20])),(1,.inl ((1,1,1),none)),(2,.inl (((-2147483648),2147483647,1),some (.inr (18,0),some 0))),(3,.inl ((0,0,0),none)),(4,.inl ((24,24,13),none)),(5,.inl ((11,11,0),none)),(6,.inl (((-2147483648),2147483647,1),none))],[],[((19,13),(1,1,1),none),((20,3),(11,12,1),none)]),(73,[]),0),
  (56,([(0,.inr (.inl [20])),(1,.inl ((2,3,1),none)),(2,.inl (((-2147483648),2147483647,1),none)),(3,.inl (((-2147483648),2147483647,1),none)),(4,.inl ((37,50,13),none)),(5,.inl ((12,12,0),none)),(6,.inl (((-2147483648),2147483647,1),none))],[],[((20,3),(11,12,1),none)]),(744,[]),0),
  (184,([(0,.inr (.inl [20])),(1,.inl ((2,3,1),none)),(2,.inl (((-2147483648),2147483647,1),none)),(3,.inl (((-2147483648),2147483647,1),none)),(4,.inl ((38,51,13),none)),(5,.inl ((12,12,0),none)),(6,.inl (((-2147483648),2147483647,1),none))],[],[((20,3),(12,12,1),none)]),(669,[]),0),
  (56,([(0,.inr (.inl [20])),(1,.inl ((1,1,1),none)),(2,.inl (((-2147483648),2147483647,1),some (.inr (18,0),some 0))),(3,.inl ((0,0,0),none)),(4,.inl ((24,24,13),none)),(5,.inl ((12,12,0),none)),(6,.inl (((-2147483648),2147483647,1),none))],[],[((19,13),(1,1,1),none),((19,24),((-2147483648),2147483647,1),none),((20,3),(11,12,1),none)]),(66,[]),0),
  (184,([(0,.inr (.inl [20])),(1,.inl ((1,1,1),none)),(2,.inl (((-2147483648),2147483647,1),some (.inr (18,0),some 0))),(3,.inl ((0,0,0),none)),(4,.inl ((25,25,13),none)),(5,.inl ((12,12,0),none)),(6,.inl (((-2147483648),2147483647,1),none))],[],[((19,13),(1,1,1),none),((20,3),(12,12,1),none)]),(23,[]),0),
  (56,([(0,.inr (.inl [20])),(1,.inl ((2,3,1),none)),(2,.inl (((-2147483648),2147483647,1),none)),(3,.inl (((-2147483648),2147483647,1),none)),(4,.inl ((38,51,13),none)),(5,.inl ((13,13,0),none)),(6,.inl (((-2147483648),2147483647,1),none))],[],[((20,3),(12,12,1),none)]),(662,[]),0),
  (56,([(0,.inr (.inl [20])),(1,.inl ((1,1,1),none)),(2,.inl (((-2147483648),2147483647,1),some (.inr (18,0),some 0))),(3,.inl ((0,0,0),none)),(4,.inl ((25,25,13),none)),(5,.inl ((13,13,0),none)),(6,.inl (((-2147483648),2147483647,1),none))],[],[((19,13),(1,1,1),none),((19,25),((-2147483648),2147483647,1),none),((20,3),(12,12,1),none)]),(16,[]),0)]
set_option maxRecDepth 100000 in
theorem q95_ok : rf_chkB q95_P q95_U wLay q95_M ddX7_fillRow [(117,[0,1]),(120,[0,2]),(179,[0])] [] [0,56,184] 600 q95_N = true := by decide +kernel
/-- NearSpell.Ruler.fillRow -/
def q96_M : rfM := ((⟨"NearSpell$Ruler", "fillRow", "(I)V"⟩, prog_9_method_9_code, 7, none), (1,21), ([.inr (.inl [20]),.inl ((1,4,1),none)],[]), [(19,0)], [(none,[],[])])
def q96_P : rfP := (flX7,csX7,lcX7,spX7,[q90_M,q88_M,q89_M],[(44,0),(44,1),(44,2)],[],[])
def q96_U : rfU := [(.inl 1,[((-2147483648),0),(1,1),(2,12),(13,2147483647)])]
set_option maxHeartbeats 4000000 in
def q96_N : List rfB := [(0,([(0,.inr (.inl [20])),(1,.inl ((1,4,1),none))],[],[]),(1653,[]),1000000),
  (56,([(0,.inr (.inl [20])),(1,.inl ((2,4,1),none)),(2,.inl (((-2147483648),2147483647,1),none)),(3,.inl (((-2147483648),2147483647,1),none)),(4,.inl ((26,52,13),none)),(5,.inl ((1,1,0),none))],[],[]),(1617,[]),0),
  (56,([(0,.inr (.inl [20])),(1,.inl ((1,1,1),none)),(2,.inl (((-2147483648),2147483647,1),some (.inr (18,0),some 0))),(3,.inl ((0,0,0),none)),(4,.inl ((13,13,13),none)),(5,.inl ((1,1,0),none))],[],[((19,13),(1,1,1),none)]),(616,[]),0),
  (184,([(0,.inr (.inl [20])),(1,.inl ((2,4,1),none)),(2,.inl (((-2147483648),2147483647,1),none)),(3,.inl (((-2147483648),2147483647,1),none)),(4,.inl ((27,53,13),none)),(5,.inl ((1,1,0),none)),(6,.inl (((-2147483648),2147483647,1),none))],[],[((20,3),(1,12,1),none)]),(1571,[]),0),
  (184,([(0,.inr (.inl [20])),(1,.inl ((1,1,1),none)),(2,.inl (((-2147483648),2147483647,1),some (.inr (18,0),some 0))),(3,.inl ((0,0,0),none)),(4,.inl ((14,14,13),none)),(5,.inl ((1,1,0),none)),(6,.inl (((-2147483648),2147483647,1),none))],[],[((19,13),(1,1,1),none),((20,3),(1,12,1),none)]),(573,[]),0),
  (56,([(0,.inr (.inl [20])),(1,.inl ((2,4,1),none)),(2,.inl (((-2147483648),2147483647,1),none)),(3,.inl (((-2147483648),2147483647,1),none)),(4,.inl ((27,53,13),none)),(5,.inl ((2,2,0),none)),(6,.inl (((-2147483648),2147483647,1),none))],[],[((20,3),(1,12,1),none)]),(1564,[]),0),
  (184,([(0,.inr (.inl [20])),(1,.inl ((2,4,1),none)),(2,.inl (((-2147483648),2147483647,1),none)),(3,.inl (((-2147483648),2147483647,1),none)),(4,.inl ((28,54,13),none)),(5,.inl ((2,2,0),none)),(6,.inl (((-2147483648),2147483647,1),none))],[],[((20,3),(2,12,1),none)]),(1489,[]),0),
  (56,([(0,.inr (.inl [20])),(1,.inl ((1,1,1),none)),(2,.inl (((-2147483648),2147483647,1),some (.inr (18,0),some 0))),(3,.inl ((0,0,0),none)),(4,.inl ((14,14,13),none)),(5,.inl ((2,2,0),none)),(6,.inl (((-2147483648),2147483647,1),none))],[],[((19,13),(1,1,1),none),((19,14),((-2147483648),2147483647,1),none),((20,3),(1,12,1),none)]),(566,[]),0),
  (184,([(0,.inr (.inl [20])),(1,.inl ((1,1,1),none)),(2,.inl (((-2147483648),2147483647,1),some (.inr (18,0),some 0))),(3,.inl ((0,0,0),none)),(4,.inl ((15,15,13),none)),(5,.inl ((2,2,0),none)),(6,.inl (((-2147483648),2147483647,1),none))],[],[((19,13),(1,1,1),none),((20,3),(2,12,1),none)]),(523,[]),0),
  (56,([(0,.inr (.inl [20])),(1,.inl ((2,4,1),none)),(2,.inl (((-2147483648),2147483647,1),none)),(3,.inl (((-2147483648),2147483647,1),none)),(4,.inl ((28,54,13),none)),(5,.inl ((3,3,0),none)),(6,.inl (((-2147483648),2147483647,1),none))],[],[((20,3),(2,12,1),none)]),(1482,[]),0),
  (184,([(0,.inr (.inl [20])),(1,.inl ((2,4,1),none)),(2,.inl (((-2147483648),2147483647,1),none)),(3,.inl (((-2147483648),2147483647,1),none)),(4,.inl ((29,55,13),none)),(5,.inl ((3,3,0),none)),(6,.inl (((-2147483648),2147483647,1),none))],[],[((20,3),(3,12,1),none)]),(1407,[]),0),
  (56,([(0,.inr (.inl [20])),(1,.inl ((1,1,1),none)),(2,.inl (((-2147483648),2147483647,1),some (.inr (18,0),some 0))),(3,.inl ((0,0,0),none)),(4,.inl ((15,15,13),none)),(5,.inl ((3,3,0),none)),(6,.inl (((-2147483648),2147483647,1),none))],[],[((19,13),(1,1,1),none),((19,15),((-2147483648),2147483647,1),none),((20,3),(2,12,1),none)]),(516,[]),0),
  (184,([(0,.inr (.inl [20])),(1,.inl ((1,1,1),none)),(2,.inl (((-2147483648),2147483647,1),some (.inr (18,0),some 0))),(3,.inl ((0,0,0),none)),(4,.inl ((16,16,13),none)),(5,.inl ((3,3,0),none)),(6,.inl (((-2147483648),2147483647,1),none))],[],[((19,13),(1,1,1),none),((20,3),(3,12,1),none)]),(473,[]),0),
  (56,([(0,.inr (.inl [20])),(1,.inl ((2,4,1),none)),(2,.inl (((-2147483648),2147483647,1),none)),(3,.inl (((-2147483648),2147483647,1),none)),(4,.inl ((29,55,13),none)),(5,.inl ((4,4,0),none)),(6,.inl (((-2147483648),2147483647,1),none))],[],[((20,3),(3,12,1),none)]),(1400,[]),0),
  (184,([(0,.inr (.inl [20])),(1,.inl ((2,4,1),none)),(2,.inl (((-2147483648),2147483647,1),none)),(3,.inl (((-2147483648),2147483647,1),none)),(4,.inl ((30,56,13),none)),(5,.inl ((4,4,0),none)),(6,.inl (((-2147483648),2147483647,1),none))],[],[((20,3),(4,12,1),none)]),(1325,[]),0),
  (56,([(0,.inr (.inl [20])),(1,.inl ((1,1,1),none)),(2,.inl (((-2147483648),2147483647,1),some (.inr (18,0),some 0))),(3,.inl ((0,0,0),none)),(4,.inl ((16,16,13),none)),(5,.inl ((4,4,0),none)),(6,.inl (((-2147483648),2147483647,1),none))],[],[((19,13),(1,1,1),none),((19,16),((-2147483648),2147483647,1),none),((20,3),(3,12,1),none)]),(466,[]),0),
  (184,([(0,.inr (.inl [20])),(1,.inl ((1,1,1),none)),(2,.inl (((-2147483648),2147483647,1),some (.inr (18,0),some 0))),(3,.inl ((0,0,0),none)),(4,.inl ((17,17,13),none)),(5,.inl ((4,4,0),none)),(6,.inl (((-2147483648),2147483647,1),none))],[],[((19,13),(1,1,1),none),((20,3),(4,12,1),none)]),(423,[]),0),
  (56,([(0,.inr (.inl [20])),(1,.inl ((2,4,1),none)),(2,.inl (((-2147483648),2147483647,1),none)),(3,.inl (((-2147483648),2147483647,1),none)),(4,.inl ((30,56,13),none)),(5,.inl ((5,5,0),none)),(6,.inl (((-2147483648),2147483647,1),none))],[],[((20,3),(4,12,1),none)]),(1318,[]),0),
  (184,([(0,.inr (.inl [20])),(1,.inl ((2,4,1),none)),(2,.inl (((-2147483648),2147483647,1),none)),(3,.inl (((-2147483648),2147483647,1),none)),(4,.inl ((31,57,13),none)),(5,.inl ((5,5,0),none)),(6,.inl (((-2147483648),2147483647,1),none))],[],[((20,3),(5,12,1),none)]),(1243,[]),0),
  (56,([(0,.inr (.inl [20])),(1,.inl ((1,1,1),none)),(2,.inl (((-2147483648),2147483647,1),some (.inr (18,0),some 0))),(3,.inl ((0,0,0),none)),(4,.inl ((17,17,13),none)),(5,.inl ((5,5,0),none)),(6,.inl (((-2147483648),2147483647,1),none))],[],[((19,13),(1,1,1),none),((19,17),((-2147483648),2147483647,1),none),((20,3),(4,12,1),none)]),(416,[]),0),
  (184,([(0,.inr (.inl [20])),(1,.inl ((1,1,1),none)),(2,.inl (((-2147483648),2147483647,1),some (.inr (18,0),some 0))),(3,.inl ((0,0,0),none)),(4,.inl ((18,18,13),none)),(5,.inl ((5,5,0),none)),(6,.inl (((-2147483648),2147483647,1),none))],[],[((19,13),(1,1,1),none),((20,3),(5,12,1),none)]),(373,[]),0),
  (56,([(0,.inr (.inl [20])),(1,.inl ((2,4,1),none)),(2,.inl (((-2147483648),2147483647,1),none)),(3,.inl (((-2147483648),2147483647,1),none)),(4,.inl ((31,57,13),none)),(5,.inl ((6,6,0),none)),(6,.inl (((-2147483648),2147483647,1),none))],[],[((20,3),(5,12,1),none)]),(1236,[]),0),
  (184,([(0,.inr (.inl [20])),(1,.inl ((2,4,1),none)),(2,.inl (((-2147483648),2147483647,1),none)),(3,.inl (((-2147483648),2147483647,1),none)),(4,.inl ((32,58,13),none)),(5,.inl ((6,6,0),none)),(6,.inl (((-2147483648),2147483647,1),none))],[],[((20,3),(6,12,1),none)]),(1161,[]),0),
  (56,([(0,.inr (.inl [20])),(1,.inl ((1,1,1),none)),(2,.inl (((-2147483648),2147483647,1),some (.inr (18,0),some 0))),(3,.inl ((0,0,0),none)),(4,.inl ((18,18,13),none)),(5,.inl ((6,6,0),none)),(6,.inl (((-2147483648),2147483647,1),none))],[],[((19,13),(1,1,1),none),((19,18),((-2147483648),2147483647,1),none),((20,3),(5,12,1),none)]),(366,[]),0),
  (184,([(0,.inr (.inl [20])),(1,.inl ((1,1,1),none)),(2,.inl (((-2147483648),2147483647,1),some (.inr (18,0),some 0))),(3,.inl ((0,0,0),none)),(4,.inl ((19,19,13),none)),(5,.inl ((6,6,0),none)),(6,.inl (((-2147483648),2147483647,1),none))],[],[((19,13),(1,1,1),none),((20,3),(6,12,1),none)]),(323,[]),0),
  (56,([(0,.inr (.inl [20])),(1,.inl ((2,4,1),none)),(2,.inl (((-2147483648),2147483647,1),none)),(3,.inl (((-2147483648),2147483647,1),none)),(4,.inl ((32,58,13),none)),(5,.inl ((7,7,0),none)),(6,.inl (((-2147483648),2147483647,1),none))],[],[((20,3),(6,12,1),none)]),(1154,[]),0),
  (184,([(0,.inr (.inl [20])),(1,.inl ((2,4,1),none)),(2,.inl (((-2147483648),2147483647,1),none)),(3,.inl (((-2147483648),2147483647,1),none)),(4,.inl ((33,59,13),none)),(5,.inl ((7,7,0),none)),(6,.inl (((-2147483648),2147483647,1),none))],[],[((20,3),(7,12,1),none)]),(1079,[]),0),
  (56,([(0,.inr (.inl [20])),(1,.inl ((1,1,1),none)),(2,.inl (((-2147483648),2147483647,1),some (.inr (18,0),some 0))),(3,.inl ((0,0,0),none)),(4,.inl ((19,19,13),none)),(5,.inl ((7,7,0),none)),(6,.inl (((-2147483648),2147483647,1),none))],[],[((19,13),(1,1,1),none),((19,19),((-2147483648),2147483647,1),none),((20,3),(6,12,1),none)]),(316,[]),0),
  (184,([(0,.inr (.inl [20])),(1,.inl ((1,1,1),none)),(2,.inl (((-2147483648),2147483647,1),some (.inr (18,0),some 0))),(3,.inl ((0,0,0),none)),(4,.inl ((20,20,13),none)),(5,.inl ((7,7,0),none)),(6,.inl (((-2147483648),2147483647,1),none))],[],[((19,13),(1,1,1),none),((20,3),(7,12,1),none)]),(273,[]),0),
  (56,([(0,.inr (.inl [20])),(1,.inl ((2,4,1),none)),(2,.inl (((-2147483648),2147483647,1),none)),(3,.inl (((-2147483648),2147483647,1),none)),(4,.inl ((33,59,13),none)),(5,.inl ((8,8,0),none)),(6,.inl (((-2147483648),2147483647,1),none))],[],[((20,3),(7,12,1),none)]),(1072,[]),0),
  (184,([(0,.inr (.inl [20])),(1,.inl ((2,4,1),none)),(2,.inl (((-2147483648),2147483647,1),none)),(3,.inl (((-2147483648),2147483647,1),none)),(4,.inl ((34,60,13),none)),(5,.inl ((8,8,0),none)),(6,.inl (((-2147483648),2147483647,1),none))],[],[((20,3),(8,12,1),none)]),(997,[]),0),
  (56,([(0,.inr (.inl [20])),(1,.inl ((1,1,1),none)),(2,.inl (((-2147483648),2147483647,1),some (.inr (18,0),some 0))),(3,.inl ((0,0,0),none)),(4,.inl ((20,20,13),none)),(5,.inl ((8,8,0),none)),(6,.inl (((-2147483648),2147483647,1),none))],[],[((19,13),(1,1,1),none),((19,20),((-2147483648),2147483647,1),none),((20,3),(7,12,1),none)]),(266,[]),0),
  (184,([(0,.inr (.inl [20])),(1,.inl ((1,1,1),none)),(2,.inl (((-2147483648),2147483647,1),some (.inr (18,0),some 0))),(3,.inl ((0,0,0),none)),(4,.inl ((21,21,13),none)),(5,.inl ((8,8,0),none)),(6,.inl (((-2147483648),2147483647,1),none))],[],[((19,13),(1,1,1),none),((20,3),(8,12,1),none)]),(223,[]),0),
  (56,([(0,.inr (.inl [20])),(1,.inl ((2,4,1),none)),(2,.inl (((-2147483648),2147483647,1),none)),(3,.inl (((-2147483648),2147483647,1),none)),(4,.inl ((34,60,13),none)),(5,.inl ((9,9,0),none)),(6,.inl (((-2147483648),2147483647,1),none))],[],[((20,3),(8,12,1),none)]),(990,[]),0),
  (184,([(0,.inr (.inl [20])),(1,.inl ((2,4,1),none)),(2,.inl (((-2147483648),2147483647,1),none)),(3,.inl (((-2147483648),2147483647,1),none)),(4,.inl ((35,61,13),none)),(5,.inl ((9,9,0),none)),(6,.inl (((-2147483648),2147483647,1),none))],[],[((20,3),(9,12,1),none)]),(915,[]),0),
  (56,([(0,.inr (.inl [20])),(1,.inl ((1,1,1),none)),(2,.inl (((-2147483648),2147483647,1),some (.inr (18,0),some 0))),(3,.inl ((0,0,0),none)),(4,.inl ((21,21,13),none)),(5,.inl ((9,9,0),none)),(6,.inl (((-2147483648),2147483647,1),none))],[],[((19,13),(1,1,1),none),((19,21),((-2147483648),2147483647,1),none),((20,3),(8,12,1),none)]),(216,[]),0),
  (184,([(0,.inr (.inl [20])),(1,.inl ((1,1,1),none)),(2,.inl (((-2147483648),2147483647,1),some (.inr (18,0),some 0))),(3,.inl ((0,0,0),none)),(4,.inl ((22,22,13),none)),(5,.inl ((9,9,0),none)),(6,.inl (((-2147483648),2147483647,1),none))],[],[((19,13),(1,1,1),none),((20,3),(9,12,1),none)]),(173,[]),0),
  (56,([(0,.inr (.inl [20])),(1,.inl ((2,4,1),none)),(2,.inl (((-2147483648),2147483647,1),none)),(3,.inl (((-2147483648),2147483647,1),none)),(4,.inl ((35,61,13),none)),(5,.inl ((10,10,0),none)),(6,.inl (((-2147483648),2147483647,1),none))],[],[((20,3),(9,12,1),none)]),(908,[]),0),
  (184,([(0,.inr (.inl [20])),(1,.inl ((2,4,1),none)),(2,.inl (((-2147483648),2147483647,1),none)),(3,.inl (((-2147483648),2147483647,1),none)),(4,.inl ((36,62,13),none)),(5,.inl ((10,10,0),none)),(6,.inl (((-2147483648),2147483647,1),none))],[],[((20,3),(10,12,1),none)]),(833,[]),0),
  (56,([(0,.inr (.inl [20])),(1,.inl ((1,1,1),none)),(2,.inl (((-2147483648),2147483647,1),some (.inr (18,0),some 0))),(3,.inl ((0,0,0),none)),(4,.inl ((22,22,13),none)),(5,.inl ((10,10,0),none)),(6,.inl (((-2147483648),2147483647,1),none))],[],[((19,13),(1,1,1),none),((19,22),((-2147483648),2147483647,1),none),((20,3),(9,12,1),none)]),(166,[]),0),
  (184,([(0,.inr (.inl [20])),(1,.inl ((1,1,1),none)),(2,.inl (((-2147483648),2147483647,1),some (.inr (18,0),some 0))),(3,.inl ((0,0,0),none)),(4,.inl ((23,23,13),none)),(5,.inl ((10,10,0),none)),(6,.inl (((-2147483648),2147483647,1),none))],[],[((19,13),(1,1,1),none),((20,3),(10,12,1),none)]),(123,[]),0),
  (56,([(0,.inr (.inl [20])),(1,.inl ((2,4,1),none)),(2,.inl (((-2147483648),2147483647,1),none)),(3,.inl (((-2147483648),2147483647,1),none)),(4,.inl ((36,62,13),none)),(5,.inl ((11,11,0),none)),(6,.inl (((-2147483648),2147483647,1),none))],[],[((20,3),(10,12,1),none)]),(826,[]),0),
  (184,([(0,.inr (.inl [20])),(1,.inl ((2,4,1),none)),(2,.inl (((-2147483648),2147483647,1),none)),(3,.inl (((-2147483648),2147483647,1),none)),(4,.inl ((37,63,13),none)),(5,.inl ((11,11,0),none)),(6,.inl (((-2147483648),2147483647,1),none))],[],[((20,3),(11,12,1),none)]),(751,[]),0),
  (56,([(0,.inr (.inl [20])),(1,.inl ((1,1,1),none)),(2,.inl (((-2147483648),2147483647,1),some (.inr (18,0),some 0))),(3,.inl ((0,0,0),none)),(4,.inl ((23,23,13),none)),(5,.inl ((11,11,0),none)),(6,.inl (((-2147483648),2147483647,1),none))],[],[((19,13),(1,1,1),none),((19,23),((-2147483648),2147483647,1),none),((20,3),(10,12,1),none)]),(116,[]),0),
  (184,([(0,.inr (.inl [20])),(1,.inl ((1,1,1),none)),(2,.inl (((-2147483648),2147483647,1),some (.inr (18,0),some 0))),(3,.inl ((0,0,0),none)),(4,.inl ((24,24,13),none)),(5,.inl ((11,11,0),none)),(6,.inl (((-2147483648),2147483647,1),none))],[],[((19,13),(1,1,1),none),((20,3),(11,12,1),none)]),(73,[]),0),
  (56,([(0,.inr (.inl [20])),(1,.inl ((2,4,1),none)),(2,.inl (((-2147483648),2147483647,1),none)),(3,.inl (((-2147483648),2147483647,1),none)),(4,.inl ((37,63,13),none)),(5,.inl ((12,12,0),none)),(6,.inl (((-2147483648),2147483647,1),none))],[],[((20,3),(11,12,1),none)]),(744,[]),0),
  (184,([(0,.inr (.inl [20])),(1,.inl ((2,4,1),none)),(2,.inl (((-2147483648),2147483647,1),none)),(3,.inl (((-2147483648),2147483647,1),none)),(4,.inl ((38,64,13),none)),(5,.inl ((12,12,0),none)),(6,.inl (((-2147483648),2147483647,1),none))],[],[((20,3),(12,12,1),none)]),(669,[]),0),
  (56,([(0,.inr (.inl [20])),(1,.inl ((1,1,1),none)),(2,.inl (((-2147483648),2147483647,1),some (.inr (18,0),some 0))),(3,.inl ((0,0,0),none)),(4,.inl ((24,24,13),none)),(5,.inl ((12,12,0),none)),(6,.inl (((-2147483648),2147483647,1),none))],[],[((19,13),(1,1,1),none),((19,24),((-2147483648),2147483647,1),none),((20,3),(11,12,1),none)]),(66,[]),0),
  (184,([(0,.inr (.inl [20])),(1,.inl ((1,1,1),none)),(2,.inl (((-2147483648),2147483647,1),some (.inr (18,0),some 0))),(3,.inl ((0,0,0),none)),(4,.inl ((25,25,13),none)),(5,.inl ((12,12,0),none)),(6,.inl (((-2147483648),2147483647,1),none))],[],[((19,13),(1,1,1),none),((20,3),(12,12,1),none)]),(23,[]),0),
  (56,([(0,.inr (.inl [20])),(1,.inl ((2,4,1),none)),(2,.inl (((-2147483648),2147483647,1),none)),(3,.inl (((-2147483648),2147483647,1),none)),(4,.inl ((38,64,13),none)),(5,.inl ((13,13,0),none)),(6,.inl (((-2147483648),2147483647,1),none))],[],[((20,3),(12,12,1),none)]),(662,[]),0),
  (56,([(0,.inr (.inl [20])),(1,.inl ((1,1,1),none)),(2,.inl (((-2147483648),2147483647,1),some (.inr (18,0),some 0))),(3,.inl ((0,0,0),none)),(4,.inl ((25,25,13),none)),(5,.inl ((13,13,0),none)),(6,.inl (((-2147483648),2147483647,1),none))],[],[((19,13),(1,1,1),none),((19,25),((-2147483648),2147483647,1),none),((20,3),(12,12,1),none)]),(16,[]),0)]
set_option maxRecDepth 100000 in
theorem q96_ok : rf_chkB q96_P q96_U wLay q96_M ddX7_fillRow [(117,[0,1]),(120,[0,2]),(179,[0])] [] [0,56,184] 600 q96_N = true := by decide +kernel
/-- NearSpell.Ruler.fillRow -/
def q97_M : rfM := ((⟨"NearSpell$Ruler", "fillRow", "(I)V"⟩, prog_9_method_9_code, 7, none), (1,21), ([.inr (.inl [20]),.inl ((1,6,1),none)],[]), [(19,0)], [(none,[],[])])
def q97_P : rfP := (flX7,csX7,lcX7,spX7,[q90_M,q88_M,q89_M],[(44,0),(44,1),(44,2)],[],[])
def q97_U : rfU := [(.inl 1,[((-2147483648),0),(1,1),(2,12),(13,2147483647)])]
set_option maxHeartbeats 4000000 in
def q97_N : List rfB := [(0,([(0,.inr (.inl [20])),(1,.inl ((1,6,1),none))],[],[]),(1653,[]),1000000),
  (56,([(0,.inr (.inl [20])),(1,.inl ((2,6,1),none)),(2,.inl (((-2147483648),2147483647,1),none)),(3,.inl (((-2147483648),2147483647,1),none)),(4,.inl ((26,78,13),none)),(5,.inl ((1,1,0),none))],[],[]),(1617,[]),0),
  (56,([(0,.inr (.inl [20])),(1,.inl ((1,1,1),none)),(2,.inl (((-2147483648),2147483647,1),some (.inr (18,0),some 0))),(3,.inl ((0,0,0),none)),(4,.inl ((13,13,13),none)),(5,.inl ((1,1,0),none))],[],[((19,13),(1,1,1),none)]),(616,[]),0),
  (184,([(0,.inr (.inl [20])),(1,.inl ((2,6,1),none)),(2,.inl (((-2147483648),2147483647,1),none)),(3,.inl (((-2147483648),2147483647,1),none)),(4,.inl ((27,79,13),none)),(5,.inl ((1,1,0),none)),(6,.inl (((-2147483648),2147483647,1),none))],[],[((20,3),(1,12,1),none)]),(1571,[]),0),
  (184,([(0,.inr (.inl [20])),(1,.inl ((1,1,1),none)),(2,.inl (((-2147483648),2147483647,1),some (.inr (18,0),some 0))),(3,.inl ((0,0,0),none)),(4,.inl ((14,14,13),none)),(5,.inl ((1,1,0),none)),(6,.inl (((-2147483648),2147483647,1),none))],[],[((19,13),(1,1,1),none),((20,3),(1,12,1),none)]),(573,[]),0),
  (56,([(0,.inr (.inl [20])),(1,.inl ((2,6,1),none)),(2,.inl (((-2147483648),2147483647,1),none)),(3,.inl (((-2147483648),2147483647,1),none)),(4,.inl ((27,79,13),none)),(5,.inl ((2,2,0),none)),(6,.inl (((-2147483648),2147483647,1),none))],[],[((20,3),(1,12,1),none)]),(1564,[]),0),
  (184,([(0,.inr (.inl [20])),(1,.inl ((2,6,1),none)),(2,.inl (((-2147483648),2147483647,1),none)),(3,.inl (((-2147483648),2147483647,1),none)),(4,.inl ((28,80,13),none)),(5,.inl ((2,2,0),none)),(6,.inl (((-2147483648),2147483647,1),none))],[],[((20,3),(2,12,1),none)]),(1489,[]),0),
  (56,([(0,.inr (.inl [20])),(1,.inl ((1,1,1),none)),(2,.inl (((-2147483648),2147483647,1),some (.inr (18,0),some 0))),(3,.inl ((0,0,0),none)),(4,.inl ((14,14,13),none)),(5,.inl ((2,2,0),none)),(6,.inl (((-2147483648),2147483647,1),none))],[],[((19,13),(1,1,1),none),((19,14),((-2147483648),2147483647,1),none),((20,3),(1,12,1),none)]),(566,[]),0),
  (184,([(0,.inr (.inl [20])),(1,.inl ((1,1,1),none)),(2,.inl (((-2147483648),2147483647,1),some (.inr (18,0),some 0))),(3,.inl ((0,0,0),none)),(4,.inl ((15,15,13),none)),(5,.inl ((2,2,0),none)),(6,.inl (((-2147483648),2147483647,1),none))],[],[((19,13),(1,1,1),none),((20,3),(2,12,1),none)]),(523,[]),0),
  (56,([(0,.inr (.inl [20])),(1,.inl ((2,6,1),none)),(2,.inl (((-2147483648),2147483647,1),none)),(3,.inl (((-2147483648),2147483647,1),none)),(4,.inl ((28,80,13),none)),(5,.inl ((3,3,0),none)),(6,.inl (((-2147483648),2147483647,1),none))],[],[((20,3),(2,12,1),none)]),(1482,[]),0),
  (184,([(0,.inr (.inl [20])),(1,.inl ((2,6,1),none)),(2,.inl (((-2147483648),2147483647,1),none)),(3,.inl (((-2147483648),2147483647,1),none)),(4,.inl ((29,81,13),none)),(5,.inl ((3,3,0),none)),(6,.inl (((-2147483648),2147483647,1),none))],[],[((20,3),(3,12,1),none)]),(1407,[]),0),
  (56,([(0,.inr (.inl [20])),(1,.inl ((1,1,1),none)),(2,.inl (((-2147483648),2147483647,1),some (.inr (18,0),some 0))),(3,.inl ((0,0,0),none)),(4,.inl ((15,15,13),none)),(5,.inl ((3,3,0),none)),(6,.inl (((-2147483648),2147483647,1),none))],[],[((19,13),(1,1,1),none),((19,15),((-2147483648),2147483647,1),none),((20,3),(2,12,1),none)]),(516,[]),0),
  (184,([(0,.inr (.inl [20])),(1,.inl ((1,1,1),none)),(2,.inl (((-2147483648),2147483647,1),some (.inr (18,0),some 0))),(3,.inl ((0,0,0),none)),(4,.inl ((16,16,13),none)),(5,.inl ((3,3,0),none)),(6,.inl (((-2147483648),2147483647,1),none))],[],[((19,13),(1,1,1),none),((20,3),(3,12,1),none)]),(473,[]),0),
  (56,([(0,.inr (.inl [20])),(1,.inl ((2,6,1),none)),(2,.inl (((-2147483648),2147483647,1),none)),(3,.inl (((-2147483648),2147483647,1),none)),(4,.inl ((29,81,13),none)),(5,.inl ((4,4,0),none)),(6,.inl (((-2147483648),2147483647,1),none))],[],[((20,3),(3,12,1),none)]),(1400,[]),0),
  (184,([(0,.inr (.inl [20])),(1,.inl ((2,6,1),none)),(2,.inl (((-2147483648),2147483647,1),none)),(3,.inl (((-2147483648),2147483647,1),none)),(4,.inl ((30,82,13),none)),(5,.inl ((4,4,0),none)),(6,.inl (((-2147483648),2147483647,1),none))],[],[((20,3),(4,12,1),none)]),(1325,[]),0),
  (56,([(0,.inr (.inl [20])),(1,.inl ((1,1,1),none)),(2,.inl (((-2147483648),2147483647,1),some (.inr (18,0),some 0))),(3,.inl ((0,0,0),none)),(4,.inl ((16,16,13),none)),(5,.inl ((4,4,0),none)),(6,.inl (((-2147483648),2147483647,1),none))],[],[((19,13),(1,1,1),none),((19,16),((-2147483648),2147483647,1),none),((20,3),(3,12,1),none)]),(466,[]),0),
  (184,([(0,.inr (.inl [20])),(1,.inl ((1,1,1),none)),(2,.inl (((-2147483648),2147483647,1),some (.inr (18,0),some 0))),(3,.inl ((0,0,0),none)),(4,.inl ((17,17,13),none)),(5,.inl ((4,4,0),none)),(6,.inl (((-2147483648),2147483647,1),none))],[],[((19,13),(1,1,1),none),((20,3),(4,12,1),none)]),(423,[]),0),
  (56,([(0,.inr (.inl [20])),(1,.inl ((2,6,1),none)),(2,.inl (((-2147483648),2147483647,1),none)),(3,.inl (((-2147483648),2147483647,1),none)),(4,.inl ((30,82,13),none)),(5,.inl ((5,5,0),none)),(6,.inl (((-2147483648),2147483647,1),none))],[],[((20,3),(4,12,1),none)]),(1318,[]),0),
  (184,([(0,.inr (.inl [20])),(1,.inl ((2,6,1),none)),(2,.inl (((-2147483648),2147483647,1),none)),(3,.inl (((-2147483648),2147483647,1),none)),(4,.inl ((31,83,13),none)),(5,.inl ((5,5,0),none)),(6,.inl (((-2147483648),2147483647,1),none))],[],[((20,3),(5,12,1),none)]),(1243,[]),0),
  (56,([(0,.inr (.inl [20])),(1,.inl ((1,1,1),none)),(2,.inl (((-2147483648),2147483647,1),some (.inr (18,0),some 0))),(3,.inl ((0,0,0),none)),(4,.inl ((17,17,13),none)),(5,.inl ((5,5,0),none)),(6,.inl (((-2147483648),2147483647,1),none))],[],[((19,13),(1,1,1),none),((19,17),((-2147483648),2147483647,1),none),((20,3),(4,12,1),none)]),(416,[]),0),
  (184,([(0,.inr (.inl [20])),(1,.inl ((1,1,1),none)),(2,.inl (((-2147483648),2147483647,1),some (.inr (18,0),some 0))),(3,.inl ((0,0,0),none)),(4,.inl ((18,18,13),none)),(5,.inl ((5,5,0),none)),(6,.inl (((-2147483648),2147483647,1),none))],[],[((19,13),(1,1,1),none),((20,3),(5,12,1),none)]),(373,[]),0),
  (56,([(0,.inr (.inl [20])),(1,.inl ((2,6,1),none)),(2,.inl (((-2147483648),2147483647,1),none)),(3,.inl (((-2147483648),2147483647,1),none)),(4,.inl ((31,83,13),none)),(5,.inl ((6,6,0),none)),(6,.inl (((-2147483648),2147483647,1),none))],[],[((20,3),(5,12,1),none)]),(1236,[]),0),
  (184,([(0,.inr (.inl [20])),(1,.inl ((2,6,1),none)),(2,.inl (((-2147483648),2147483647,1),none)),(3,.inl (((-2147483648),2147483647,1),none)),(4,.inl ((32,84,13),none)),(5,.inl ((6,6,0),none)),(6,.inl (((-2147483648),2147483647,1),none))],[],[((20,3),(6,12,1),none)]),(1161,[]),0),
  (56,([(0,.inr (.inl [20])),(1,.inl ((1,1,1),none)),(2,.inl (((-2147483648),2147483647,1),some (.inr (18,0),some 0))),(3,.inl ((0,0,0),none)),(4,.inl ((18,18,13),none)),(5,.inl ((6,6,0),none)),(6,.inl (((-2147483648),2147483647,1),none))],[],[((19,13),(1,1,1),none),((19,18),((-2147483648),2147483647,1),none),((20,3),(5,12,1),none)]),(366,[]),0),
  (184,([(0,.inr (.inl [20])),(1,.inl ((1,1,1),none)),(2,.inl (((-2147483648),2147483647,1),some (.inr (18,0),some 0))),(3,.inl ((0,0,0),none)),(4,.inl ((19,19,13),none)),(5,.inl ((6,6,0),none)),(6,.inl (((-2147483648),2147483647,1),none))],[],[((19,13),(1,1,1),none),((20,3),(6,12,1),none)]),(323,[]),0),
  (56,([(0,.inr (.inl [20])),(1,.inl ((2,6,1),none)),(2,.inl (((-2147483648),2147483647,1),none)),(3,.inl (((-2147483648),2147483647,1),none)),(4,.inl ((32,84,13),none)),(5,.inl ((7,7,0),none)),(6,.inl (((-2147483648),2147483647,1),none))],[],[((20,3),(6,12,1),none)]),(1154,[]),0),
  (184,([(0,.inr (.inl [20])),(1,.inl ((2,6,1),none)),(2,.inl (((-2147483648),2147483647,1),none)),(3,.inl (((-2147483648),2147483647,1),none)),(4,.inl ((33,85,13),none)),(5,.inl ((7,7,0),none)),(6,.inl (((-2147483648),2147483647,1),none))],[],[((20,3),(7,12,1),none)]),(1079,[]),0),
  (56,([(0,.inr (.inl [20])),(1,.inl ((1,1,1),none)),(2,.inl (((-2147483648),2147483647,1),some (.inr (18,0),some 0))),(3,.inl ((0,0,0),none)),(4,.inl ((19,19,13),none)),(5,.inl ((7,7,0),none)),(6,.inl (((-2147483648),2147483647,1),none))],[],[((19,13),(1,1,1),none),((19,19),((-2147483648),2147483647,1),none),((20,3),(6,12,1),none)]),(316,[]),0),
  (184,([(0,.inr (.inl [20])),(1,.inl ((1,1,1),none)),(2,.inl (((-2147483648),2147483647,1),some (.inr (18,0),some 0))),(3,.inl ((0,0,0),none)),(4,.inl ((20,20,13),none)),(5,.inl ((7,7,0),none)),(6,.inl (((-2147483648),2147483647,1),none))],[],[((19,13),(1,1,1),none),((20,3),(7,12,1),none)]),(273,[]),0),
  (56,([(0,.inr (.inl [20])),(1,.inl ((2,6,1),none)),(2,.inl (((-2147483648),2147483647,1),none)),(3,.inl (((-2147483648),2147483647,1),none)),(4,.inl ((33,85,13),none)),(5,.inl ((8,8,0),none)),(6,.inl (((-2147483648),2147483647,1),none))],[],[((20,3),(7,12,1),none)]),(1072,[]),0),
  (184,([(0,.inr (.inl [20])),(1,.inl ((2,6,1),none)),(2,.inl (((-2147483648),2147483647,1),none)),(3,.inl (((-2147483648),2147483647,1),none)),(4,.inl ((34,86,13),none)),(5,.inl ((8,8,0),none)),(6,.inl (((-2147483648),2147483647,1),none))],[],[((20,3),(8,12,1),none)]),(997,[]),0),
  (56,([(0,.inr (.inl [20])),(1,.inl ((1,1,1),none)),(2,.inl (((-2147483648),2147483647,1),some (.inr (18,0),some 0))),(3,.inl ((0,0,0),none)),(4,.inl ((20,20,13),none)),(5,.inl ((8,8,0),none)),(6,.inl (((-2147483648),2147483647,1),none))],[],[((19,13),(1,1,1),none),((19,20),((-2147483648),2147483647,1),none),((20,3),(7,12,1),none)]),(266,[]),0),
  (184,([(0,.inr (.inl [20])),(1,.inl ((1,1,1),none)),(2,.inl (((-2147483648),2147483647,1),some (.inr (18,0),some 0))),(3,.inl ((0,0,0),none)),(4,.inl ((21,21,13),none)),(5,.inl ((8,8,0),none)),(6,.inl (((-2147483648),2147483647,1),none))],[],[((19,13),(1,1,1),none),((20,3),(8,12,1),none)]),(223,[]),0),
  (56,([(0,.inr (.inl [20])),(1,.inl ((2,6,1),none)),(2,.inl (((-2147483648),2147483647,1),none)),(3,.inl (((-2147483648),2147483647,1),none)),(4,.inl ((34,86,13),none)),(5,.inl ((9,9,0),none)),(6,.inl (((-2147483648),2147483647,1),none))],[],[((20,3),(8,12,1),none)]),(990,[]),0),
  (184,([(0,.inr (.inl [20])),(1,.inl ((2,6,1),none)),(2,.inl (((-2147483648),2147483647,1),none)),(3,.inl (((-2147483648),2147483647,1),none)),(4,.inl ((35,87,13),none)),(5,.inl ((9,9,0),none)),(6,.inl (((-2147483648),2147483647,1),none))],[],[((20,3),(9,12,1),none)]),(915,[]),0),
  (56,([(0,.inr (.inl [20])),(1,.inl ((1,1,1),none)),(2,.inl (((-2147483648),2147483647,1),some (.inr (18,0),some 0))),(3,.inl ((0,0,0),none)),(4,.inl ((21,21,13),none)),(5,.inl ((9,9,0),none)),(6,.inl (((-2147483648),2147483647,1),none))],[],[((19,13),(1,1,1),none),((19,21),((-2147483648),2147483647,1),none),((20,3),(8,12,1),none)]),(216,[]),0),
  (184,([(0,.inr (.inl [20])),(1,.inl ((1,1,1),none)),(2,.inl (((-2147483648),2147483647,1),some (.inr (18,0),some 0))),(3,.inl ((0,0,0),none)),(4,.inl ((22,22,13),none)),(5,.inl ((9,9,0),none)),(6,.inl (((-2147483648),2147483647,1),none))],[],[((19,13),(1,1,1),none),((20,3),(9,12,1),none)]),(173,[]),0),
  (56,([(0,.inr (.inl [20])),(1,.inl ((2,6,1),none)),(2,.inl (((-2147483648),2147483647,1),none)),(3,.inl (((-2147483648),2147483647,1),none)),(4,.inl ((35,87,13),none)),(5,.inl ((10,10,0),none)),(6,.inl (((-2147483648),2147483647,1),none))],[],[((20,3),(9,12,1),none)]),(908,[]),0),
  (184,([(0,.inr (.inl [20])),(1,.inl ((2,6,1),none)),(2,.inl (((-2147483648),2147483647,1),none)),(3,.inl (((-2147483648),2147483647,1),none)),(4,.inl ((36,88,13),none)),(5,.inl ((10,10,0),none)),(6,.inl (((-2147483648),2147483647,1),none))],[],[((20,3),(10,12,1),none)]),(833,[]),0),
  (56,([(0,.inr (.inl [20])),(1,.inl ((1,1,1),none)),(2,.inl (((-2147483648),2147483647,1),some (.inr (18,0),some 0))),(3,.inl ((0,0,0),none)),(4,.inl ((22,22,13),none)),(5,.inl ((10,10,0),none)),(6,.inl (((-2147483648),2147483647,1),none))],[],[((19,13),(1,1,1),none),((19,22),((-2147483648),2147483647,1),none),((20,3),(9,12,1),none)]),(166,[]),0),
  (184,([(0,.inr (.inl [20])),(1,.inl ((1,1,1),none)),(2,.inl (((-2147483648),2147483647,1),some (.inr (18,0),some 0))),(3,.inl ((0,0,0),none)),(4,.inl ((23,23,13),none)),(5,.inl ((10,10,0),none)),(6,.inl (((-2147483648),2147483647,1),none))],[],[((19,13),(1,1,1),none),((20,3),(10,12,1),none)]),(123,[]),0),
  (56,([(0,.inr (.inl [20])),(1,.inl ((2,6,1),none)),(2,.inl (((-2147483648),2147483647,1),none)),(3,.inl (((-2147483648),2147483647,1),none)),(4,.inl ((36,88,13),none)),(5,.inl ((11,11,0),none)),(6,.inl (((-2147483648),2147483647,1),none))],[],[((20,3),(10,12,1),none)]),(826,[]),0),
  (184,([(0,.inr (.inl [20])),(1,.inl ((2,6,1),none)),(2,.inl (((-2147483648),2147483647,1),none)),(3,.inl (((-2147483648),2147483647,1),none)),(4,.inl ((37,89,13),none)),(5,.inl ((11,11,0),none)),(6,.inl (((-2147483648),2147483647,1),none))],[],[((20,3),(11,12,1),none)]),(751,[]),0),
  (56,([(0,.inr (.inl [20])),(1,.inl ((1,1,1),none)),(2,.inl (((-2147483648),2147483647,1),some (.inr (18,0),some 0))),(3,.inl ((0,0,0),none)),(4,.inl ((23,23,13),none)),(5,.inl ((11,11,0),none)),(6,.inl (((-2147483648),2147483647,1),none))],[],[((19,13),(1,1,1),none),((19,23),((-2147483648),2147483647,1),none),((20,3),(10,12,1),none)]),(116,[]),0),
  (184,([(0,.inr (.inl [20])),(1,.inl ((1,1,1),none)),(2,.inl (((-2147483648),2147483647,1),some (.inr (18,0),some 0))),(3,.inl ((0,0,0),none)),(4,.inl ((24,24,13),none)),(5,.inl ((11,11,0),none)),(6,.inl (((-2147483648),2147483647,1),none))],[],[((19,13),(1,1,1),none),((20,3),(11,12,1),none)]),(73,[]),0),
  (56,([(0,.inr (.inl [20])),(1,.inl ((2,6,1),none)),(2,.inl (((-2147483648),2147483647,1),none)),(3,.inl (((-2147483648),2147483647,1),none)),(4,.inl ((37,89,13),none)),(5,.inl ((12,12,0),none)),(6,.inl (((-2147483648),2147483647,1),none))],[],[((20,3),(11,12,1),none)]),(744,[]),0),
  (184,([(0,.inr (.inl [20])),(1,.inl ((2,6,1),none)),(2,.inl (((-2147483648),2147483647,1),none)),(3,.inl (((-2147483648),2147483647,1),none)),(4,.inl ((38,90,13),none)),(5,.inl ((12,12,0),none)),(6,.inl (((-2147483648),2147483647,1),none))],[],[((20,3),(12,12,1),none)]),(669,[]),0),
  (56,([(0,.inr (.inl [20])),(1,.inl ((1,1,1),none)),(2,.inl (((-2147483648),2147483647,1),some (.inr (18,0),some 0))),(3,.inl ((0,0,0),none)),(4,.inl ((24,24,13),none)),(5,.inl ((12,12,0),none)),(6,.inl (((-2147483648),2147483647,1),none))],[],[((19,13),(1,1,1),none),((19,24),((-2147483648),2147483647,1),none),((20,3),(11,12,1),none)]),(66,[]),0),
  (184,([(0,.inr (.inl [20])),(1,.inl ((1,1,1),none)),(2,.inl (((-2147483648),2147483647,1),some (.inr (18,0),some 0))),(3,.inl ((0,0,0),none)),(4,.inl ((25,25,13),none)),(5,.inl ((12,12,0),none)),(6,.inl (((-2147483648),2147483647,1),none))],[],[((19,13),(1,1,1),none),((20,3),(12,12,1),none)]),(23,[]),0),
  (56,([(0,.inr (.inl [20])),(1,.inl ((2,6,1),none)),(2,.inl (((-2147483648),2147483647,1),none)),(3,.inl (((-2147483648),2147483647,1),none)),(4,.inl ((38,90,13),none)),(5,.inl ((13,13,0),none)),(6,.inl (((-2147483648),2147483647,1),none))],[],[((20,3),(12,12,1),none)]),(662,[]),0),
  (56,([(0,.inr (.inl [20])),(1,.inl ((1,1,1),none)),(2,.inl (((-2147483648),2147483647,1),some (.inr (18,0),some 0))),(3,.inl ((0,0,0),none)),(4,.inl ((25,25,13),none)),(5,.inl ((13,13,0),none)),(6,.inl (((-2147483648),2147483647,1),none))],[],[((19,13),(1,1,1),none),((19,25),((-2147483648),2147483647,1),none),((20,3),(12,12,1),none)]),(16,[]),0)]
set_option maxRecDepth 100000 in
theorem q97_ok : rf_chkB q97_P q97_U wLay q97_M ddX7_fillRow [(117,[0,1]),(120,[0,2]),(179,[0])] [] [0,56,184] 600 q97_N = true := by decide +kernel
/-- NearSpell.Ruler.toLonger -/
def q98_M : rfM := ((⟨"NearSpell$Ruler", "toLonger", "(II)I"⟩, prog_9_method_7_code, 5, (some .int)), (2,47), ([.inr (.inl [20]),.inl ((0,0,0),none),.inl (((-2147483648),2147483647,1),none)],[]), [(18,0),(19,0),(20,5)], [(some (.inl (((-2147483648),2147483647,1),none)),[],[((20,4),(0,6,1),none)])])
def ddX7_toLonger : List (Nat × Instr × Nat) := [(0,.iconst 0,1),(1,.iload_n 1,1),(2,.aload_n 0,1),(3,.getfield 25,3),(6,.invokestatic 44,3),(9,.invokestatic 49,3),(12,.istore_n 3,1),(13,.aload_n 0,1),(14,.iload_n 2,1),(15,.aload_n 0,1),(16,.getfield 15,3),(19,.iload_n 3,1),(20,.invokestatic 36,3),(23,.putfield 25,3),(26,.iload_n 3,1),(27,.iconst 1,1),(28,.iadd,1),(29,.istore 4,2),(31,.iload 4,2),(33,.aload_n 0,1),(34,.getfield 25,3),(37,.if_icmp .gt 15,3),(40,.aload_n 0,1),(41,.iload 4,2),(43,.invokevirtual 52,3),(46,.iinc 4 1,3),(49,.goto (-18),3),(52,.aload_n 0,1),(53,.getfield 18,3),(56,.aload_n 0,1),(57,.getfield 25,3),(60,.bipush 13,2),(62,.imul,1),(63,.aload_n 0,1),(64,.getfield 21,3),(67,.iadd,1),(68,.iaload,1),(69,.ireturn,1)]
def q98_P : rfP := (flX7,csX7,lcX7,spX7,[q85_M,q86_M,q87_M,q97_M],[(36,2),(44,0),(49,1)],[(52,3,7)],[])
def q98_U : rfU := []
set_option maxHeartbeats 4000000 in
def q98_N : List rfB := [(0,([(0,.inr (.inl [20])),(1,.inl ((0,0,0),none)),(2,.inl (((-2147483648),2147483647,1),none))],[],[]),(138,[0]),0),
  (31,([(0,.inr (.inl [20])),(1,.inl ((0,0,0),none)),(2,.inl (((-2147483648),2147483647,1),none)),(3,.inl ((0,0,0),none)),(4,.inl ((1,11,1),none))],[],[((20,4),(0,6,1),none)]),(128,[(-10)]),0)]
set_option maxRecDepth 100000 in
theorem q98_ok : rf_chkB q98_P q98_U wLay q98_M ddX7_toLonger [(6,[0]),(9,[1]),(20,[2]),(43,[3])] [.inl 4] [0,31] 600 q98_N = true := by decide +kernel
/-- NearSpell.Ruler.to -/
def q99_M : rfM := ((⟨"NearSpell$Ruler", "to", "(I)I"⟩, prog_9_method_5_code, 2, (some .int)), (3,71), ([.inr (.inl [20]),.inl (((-2147483648),2147483647,1),none)],[]), [(18,0),(19,0),(20,5)], [(some (.inl (((-2147483648),2147483647,1),none)),[],[((20,4),(0,6,1),none)])])
def ddX7_to : List (Nat × Instr × Nat) := [(0,.aload_n 0,1),(1,.iconst 0,1),(2,.iload_n 1,1),(3,.invokevirtual 40,3),(6,.ireturn,1)]
def q99_P : rfP := (flX7,csX7,lcX7,spX7,[q98_M],[],[(40,0,7)],[])
def q99_U : rfU := []
set_option maxHeartbeats 4000000 in
def q99_N : List rfB := [(0,([(0,.inr (.inl [20])),(1,.inl (((-2147483648),2147483647,1),none))],[],[]),(4,[]),0)]
set_option maxRecDepth 100000 in
theorem q99_ok : rf_chkB q99_P q99_U wLay q99_M ddX7_to [(3,[0])] [] [0] 600 q99_N = true := by decide +kernel
/-- NearSpell.Finder.within -/
def q100_M : rfM := ((⟨"NearSpell$Finder", "within", "(II)I"⟩, prog_4_method_4_code, 5, (some .int)), (4,92), ([.inr (.inl [55]),.inl ((0,387420488,1),none),.inl ((6,6,0),none)],[]), [(17,0),(18,0),(19,0),(20,4),(20,5),(54,0)], [(some (.inl ((0,2147483647,1),none)),[],[((20,3),(0,6,1),none),((20,4),(0,6,1),none)])])
def ddX2_within : List (Nat × Instr × Nat) := [(0,.aload_n 0,1),(1,.getfield 23,3),(4,.iload_n 1,1),(5,.invokevirtual 60,3),(8,.iconst 0,1),(9,.istore_n 3,1),(10,.iconst 0,1),(11,.istore 4,2),(13,.iload 4,2),(15,.aload_n 0,1),(16,.getfield 15,3),(19,.invokevirtual 43,3),(22,.if_icmp .ge 73,3),(25,.iload 4,2),(27,.bipush 14,2),(29,.if_icmp .ge 66,3),(32,.aload_n 0,1),(33,.getfield 15,3),(36,.iload 4,2),(38,.invokevirtual 49,3),(41,.ifCond .eq 48,3),(44,.aload_n 0,1),(45,.getfield 27,3),(48,.iload 4,2),(50,.aload_n 0,1),(51,.getfield 23,3),(54,.aload_n 0,1),(55,.getfield 15,3),(58,.iload 4,2),(60,.invokevirtual 66,3),(63,.invokevirtual 70,3),(66,.iastore,1),(67,.iload_n 3,1),(68,.aload_n 0,1),(69,.getfield 27,3),(72,.iload 4,2),(74,.iaload,1),(75,.iload_n 2,1),(76,.if_icmp .gt 10,3),(79,.iconst 1,1),(80,.iload 4,2),(82,.ishl,1),(83,.goto 4,3),(86,.iconst 0,1),(87,.ior,1),(88,.istore_n 3,1),(89,.iinc 4 1,3),(92,.goto (-79),3),(95,.iload_n 3,1),(96,.ireturn,1)]
def q100_P : rfP := (flX2,csX2,lcX2,spX2,[q84_M,q69_M,q67_M,q11_M,q99_M],[],[(43,1,8),(49,2,8),(60,0,7),(66,3,8),(70,4,7)],[])
def q100_U : rfU := []
set_option maxHeartbeats 4000000 in
def q100_N : List rfB := [(0,([(0,.inr (.inl [55])),(1,.inl ((0,387420488,1),none)),(2,.inl ((6,6,0),none))],[],[]),(654,[0]),0),
  (13,([(0,.inr (.inl [55])),(1,.inl ((0,387420488,1),none)),(2,.inl ((6,6,0),none)),(3,.inl ((0,2147483647,1),none)),(4,.inl ((0,14,1),none))],[],[((20,3),(0,6,1),none),((20,4),(0,6,1),none)]),(644,[(-43)]),0),
  (89,([(0,.inr (.inl [55])),(1,.inl ((0,387420488,1),none)),(2,.inl ((6,6,0),none)),(3,.inl ((0,2147483647,1),none)),(4,.inl ((0,13,1),none))],[],[((20,3),(0,6,1),none),((20,4),(0,6,1),none)]),(604,[(-43)]),0),
  (88,([(0,.inr (.inl [55])),(1,.inl ((0,387420488,1),none)),(2,.inl ((6,6,0),none)),(3,.inl ((0,2147483647,1),none)),(4,.inl ((0,13,1),none))],[.inl ((0,2147483647,1),none)],[((12,34),(1,14,1),none),((20,3),(0,6,1),none),((20,4),(0,6,1),none)]),(606,[(-43)]),0)]
set_option maxRecDepth 100000 in
theorem q100_ok : rf_chkB q100_P q100_U wLay q100_M ddX2_within [(5,[0]),(19,[1]),(38,[2]),(60,[3]),(63,[4])] [.inl 4] [0,13,88,89] 600 q100_N = true := by decide +kernel
/-- NearSpell.beginningOf -/
def q101_M : rfM := ((⟨"NearSpell", "beginningOf", "(II)I"⟩, prog_1_method_55_code, 3, (some .int)), (1,21), ([.inl ((0,387420488,1),none),.inl ((1,6,1),none)],[]), [], [(some (.inl (((-2147483648),2147483647,1),none)),[],[])])
def q101_P : rfP := (flX11,csX11,lcX11,spX11,[q82_M],[(148,0)],[],[])
def q101_U : rfU := []
set_option maxHeartbeats 4000000 in
def q101_N : List rfB := [(0,([(0,.inl ((0,387420488,1),none)),(1,.inl ((1,6,1),none))],[],[]),(17,[]),0),
  (28,([(0,.inl ((0,387420488,1),none)),(1,.inl ((1,6,1),none)),(2,.inl (((-6),5,1),none))],[.inl (((-2147483648),2147483647,1),none)],[]),(0,[]),0)]
set_option maxRecDepth 100000 in
theorem q101_ok : rf_chkB q101_P q101_U wLay q101_M ddX11_beginningOf [(1,[0])] [] [0,28] 600 q101_N = true := by decide +kernel
/-- NearSpell.FormList.add -/
def q102_M : rfM := ((⟨"NearSpell$FormList", "add", "(I)V"⟩, prog_5_method_4_code, 4, none), (0,0), ([.inr (.inl [50]),.inl (((-2147483648),2147483647,1),none)],[]), [(49,0),(50,2)], [(none,[],[])])
def q102_P : rfP := (flX3,csX3,lcX3,spX3,[],[],[],[])
def q102_U : rfU := [(.inr (50,1),[(0,21),(22,22)])]
set_option maxHeartbeats 4000000 in
def q102_N : List rfB := [(0,([(0,.inr (.inl [50])),(1,.inl (((-2147483648),2147483647,1),none))],[],[]),(992,[0,0]),1000000),
  (5,([(0,.inr (.inl [50])),(1,.inl (((-2147483648),2147483647,1),none)),(2,.inl ((0,22,1),none))],[],[((50,1),(22,22,1),none)]),(700,[13,0]),0),
  (5,([(0,.inr (.inl [50])),(1,.inl (((-2147483648),2147483647,1),none)),(2,.inl ((0,21,1),none))],[],[((50,1),(0,21,1),none)]),(394,[13,0]),0),
  (27,([(0,.inr (.inl [50])),(1,.inl (((-2147483648),2147483647,1),none)),(2,.inl ((0,21,1),none))],[],[((50,1),(0,21,1),none)]),(383,[0,0]),0),
  (27,([(0,.inr (.inl [50])),(1,.inl (((-2147483648),2147483647,1),none)),(2,.inl ((0,22,1),none))],[],[((50,1),(22,22,1),none)]),(689,[0,0]),0),
  (43,([(0,.inr (.inl [50])),(1,.inl (((-2147483648),2147483647,1),none)),(2,.inl ((0,21,1),none))],[],[((50,1),(0,21,1),none)]),(372,[0,0]),0),
  (43,([(0,.inr (.inl [50])),(1,.inl (((-2147483648),2147483647,1),none)),(2,.inl ((0,22,1),none))],[],[((50,1),(22,22,1),none)]),(679,[0,0]),0),
  (55,([(0,.inr (.inl [50])),(1,.inl (((-2147483648),2147483647,1),none)),(2,.inl ((1,21,1),none))],[],[((50,1),(0,21,1),none)]),(373,[0,0]),0),
  (55,([(0,.inr (.inl [50])),(1,.inl (((-2147483648),2147483647,1),none)),(2,.inl ((0,22,1),none))],[],[((50,1),(22,22,1),none)]),(673,[0,0]),0),
  (61,([(0,.inr (.inl [50])),(1,.inl (((-2147483648),2147483647,1),none)),(2,.inl ((0,21,1),none)),(3,.inl ((0,21,1),none))],[],[((50,1),(0,21,1),none)]),(25,[0,16]),0)]
set_option maxRecDepth 100000 in
theorem q102_ok : rf_chkB q102_P q102_U wLay q102_M ddX3_add [] [.inl 2,.inl 3] [0,5,27,43,55,61] 600 q102_N = true := by decide +kernel
/-- NearSpell.FormList.shorten -/
def q103_M : rfM := ((⟨"NearSpell$FormList", "shorten", "(I)V"⟩, prog_5_method_3_code, 6, none), (1,23), ([.inr (.inl [50]),.inl (((-2147483648),2147483647,1),none)],[]), [(49,0),(50,2)], [(none,[],[])])
def q103_P : rfP := (flX3,csX3,lcX3,spX3,[q12_M,q102_M,q33_M,q34_M],[(39,0),(43,2),(43,3)],[(32,1,3)],[])
def q103_U : rfU := []
set_option maxHeartbeats 4000000 in
def q103_N : List rfB := [(0,([(0,.inr (.inl [50])),(1,.inl (((-2147483648),2147483647,1),none))],[],[]),(2852,[0,0]),0),
  (7,([(0,.inr (.inl [50])),(1,.inl (((-2147483648),2147483647,1),none)),(2,.inl ((0,6,1),none)),(3,.inl ((0,12,1),none))],[],[]),(2845,[(-219),0]),0),
  (28,([(0,.inr (.inl [50])),(1,.inl (((-2147483648),2147483647,1),none)),(2,.inl ((1,6,1),none)),(3,.inl ((0,11,1),none)),(4,.inl (((-2147483648),2147483647,1),none)),(5,.inl ((0,11,1),none))],[],[]),(2831,[(-219),(-17)]),0),
  (61,([(0,.inr (.inl [50])),(1,.inl (((-2147483648),2147483647,1),none)),(2,.inl ((1,6,1),none)),(3,.inl ((0,11,1),none)),(4,.inl (((-2147483648),2147483647,1),none)),(5,.inl ((0,11,1),none))],[],[]),(2629,[(-219),0]),0)]
set_option maxRecDepth 100000 in
theorem q103_ok : rf_chkB q103_P q103_U wLay q103_M ddX3_shorten [(1,[0]),(14,[3]),(22,[1]),(49,[2]),(52,[1])] [.inl 3,.inl 5] [0,7,28,61] 600 q103_N = true := by decide +kernel
/-- NearSpell.FormList.fill -/
def q104_M : rfM := ((⟨"NearSpell$FormList", "fill", "(III)V"⟩, prog_5_method_2_code, 5, none), (2,48), ([.inr (.inl [50]),.inl ((0,387420488,1),none),.inl ((1,6,1),none),.inl ((0,2,1),none)],[]), [(49,0),(50,2),(50,3),(50,4),(50,5)], [(none,[],[((50,2),(0,387420488,1),none),((50,3),(1,6,1),none),((50,4),(0,2,1),none)])])
def q104_P : rfP := (flX3,csX3,lcX3,spX3,[q101_M,q102_M,q103_M],[(28,0)],[(32,1,3),(36,2,3)],[])
def q104_U : rfU := []
set_option maxHeartbeats 4000000 in
def q104_N : List rfB := [(0,([(0,.inr (.inl [50])),(1,.inl ((0,387420488,1),none)),(2,.inl ((1,6,1),none)),(3,.inl ((0,2,1),none))],[],[]),(40,[]),0),
  (25,([(0,.inr (.inl [50])),(1,.inl ((0,387420488,1),none)),(2,.inl ((1,6,1),none)),(3,.inl ((0,2,1),none))],[],[]),(27,[]),0),
  (77,([(0,.inr (.inl [50])),(1,.inl ((0,387420488,1),none)),(2,.inl ((1,6,1),none)),(3,.inl ((0,2,1),none)),(4,.inl (((-2147483648),2147483647,1),none))],[],[((50,2),(0,387420488,1),none),((50,3),(1,6,1),none),((50,4),(0,2,1),none)]),(0,[]),0)]
set_option maxRecDepth 100000 in
theorem q104_ok : rf_chkB q104_P q104_U wLay q104_M ddX3_fill [(53,[0]),(61,[1]),(74,[2])] [] [0,25,77] 600 q104_N = true := by decide +kernel
/-- NearSpell.Laid.formsFor -/
def q105_M : rfM := ((⟨"NearSpell$Laid", "formsFor", "(I)LNearSpell$FormList;"⟩, prog_6_method_2_code, 2, (some (.object "NearSpell$FormList"))), (3,72), ([.inr (.inl [53]),.inl ((0,387420488,1),none)],[]), [(49,0),(50,2),(50,3),(50,4),(50,5)], [(some (.inr (.inl [50])),[],[((50,2),(0,387420488,1),none),((50,3),(1,6,1),none),((50,4),(0,2,1),none)])])
def ddX4_formsFor : List (Nat × Instr × Nat) := [(0,.aload_n 0,1),(1,.getfield 26,3),(4,.iload_n 1,1),(5,.aload_n 0,1),(6,.getfield 9,3),(9,.getfield 34,3),(12,.aload_n 0,1),(13,.getfield 9,3),(16,.getfield 40,3),(19,.invokevirtual 43,3),(22,.aload_n 0,1),(23,.getfield 26,3),(26,.areturn,1)]
def q105_P : rfP := (flX4,csX4,lcX4,spX4,[q104_M],[],[(43,0,3)],[])
def q105_U : rfU := []
set_option maxHeartbeats 4000000 in
def q105_N : List rfB := [(0,([(0,.inr (.inl [53])),(1,.inl ((0,387420488,1),none))],[],[]),(12,[]),0)]
set_option maxRecDepth 100000 in
theorem q105_ok : rf_chkB q105_P q105_U wLay q105_M ddX4_formsFor [(19,[0])] [] [0] 600 q105_N = true := by decide +kernel
/-- NearSpell.Laid.formsOf -/
def q106_M : rfM := ((⟨"NearSpell$Laid", "formsOf", "(I)LNearSpell$FormList;"⟩, prog_6_method_3_code, 2, (some (.object "NearSpell$FormList"))), (3,72), ([.inr (.inl [53]),.inl ((0,0,0),none)],[]), [(21,0),(22,2),(22,3),(22,4),(22,5),(23,0),(24,2),(24,3),(24,4),(24,5),(25,0),(26,2),(26,3),(26,4),(26,5),(27,0),(28,2),(28,3),(28,4),(28,5),(29,0),(30,2),(30,3),(30,4),(30,5),(31,0),(32,2),(32,3),(32,4),(32,5),(33,0),(34,2),(34,3),(34,4),(34,5),(35,0),(36,2),(36,3),(36,4),(36,5),(37,0),(38,2),(38,3),(38,4),(38,5),(39,0),(40,2),(40,3),(40,4),(40,5),(41,0),(42,2),(42,3),(42,4),(42,5),(43,0),(44,2),(44,3),(44,4),(44,5),(45,0),(46,2),(46,3),(46,4),(46,5),(47,0),(48,2),(48,3),(48,4),(48,5)], [(some (.inr (.inl [22,24,26,28,30,32,34,36,38,40,42,44,46,48])),[],[])])
def q106_P : rfP := (flX4,csX4,lcX4,spX4,[q54_M,q49_M],[],[(43,1,3),(51,0,8)],[])
def q106_U : rfU := []
set_option maxHeartbeats 4000000 in
def q106_N : List rfB := [(0,([(0,.inr (.inl [53])),(1,.inl ((0,0,0),none))],[],[]),(24,[]),0)]
set_option maxRecDepth 100000 in
theorem q106_ok : rf_chkB q106_P q106_U wLay q106_M ddX4_formsOf [(27,[0]),(44,[1])] [] [0] 600 q106_N = true := by decide +kernel
/-- NearSpell.FormList.has -/
def q107_M : rfM := ((⟨"NearSpell$FormList", "has", "(I)Z"⟩, prog_5_method_5_code, 3, (some .boolean)), (0,0), ([.inr (.inl [50]),.inl (((-2147483648),2147483647,1),none)],[]), [], [(some (.inl ((1,1,0),none)),[],[((50,1),(1,22,1),none)]),(some (.inl ((0,0,0),none)),[],[])])
def ddX3_has : List (Nat × Instr × Nat) := [(0,.iconst 0,1),(1,.istore_n 2,1),(2,.iload_n 2,1),(3,.aload_n 0,1),(4,.getfield 15,3),(7,.if_icmp .ge 31,3),(10,.aload_n 0,1),(11,.getfield 9,3),(14,.iload_n 2,1),(15,.iaload,1),(16,.iload_n 1,1),(17,.if_icmp .gt 21,3),(20,.aload_n 0,1),(21,.getfield 9,3),(24,.iload_n 2,1),(25,.iaload,1),(26,.iload_n 1,1),(27,.if_icmp .ne 5,3),(30,.iconst 1,1),(31,.ireturn,1),(32,.iinc 2 1,3),(35,.goto (-33),3),(38,.iconst 0,1),(39,.ireturn,1)]
def q107_P : rfP := (flX3,csX3,lcX3,spX3,[],[],[],[])
def q107_U : rfU := []
set_option maxHeartbeats 4000000 in
def q107_N : List rfB := [(0,([(0,.inr (.inl [50])),(1,.inl (((-2147483648),2147483647,1),none))],[],[]),(442,[0]),0),
  (2,([(0,.inr (.inl [50])),(1,.inl (((-2147483648),2147483647,1),none)),(2,.inl ((0,22,1),none))],[],[]),(438,[(-19)]),0),
  (38,([(0,.inr (.inl [50])),(1,.inl (((-2147483648),2147483647,1),none)),(2,.inl ((0,22,1),none))],[],[]),(1,[0]),0)]
set_option maxRecDepth 100000 in
theorem q107_ok : rf_chkB q107_P q107_U wLay q107_M ddX3_has [] [.inl 2] [0,2,38] 600 q107_N = true := by decide +kernel
/-- NearSpell.FormList.shares -/
def q108_M : rfM := ((⟨"NearSpell$FormList", "shares", "(LNearSpell$FormList;)Z"⟩, prog_5_method_6_code, 3, (some .boolean)), (1,22), ([.inr (.inl [22,24,26,28,30,32,34,36,38,40,42,44,46,48]),.inr (.inl [50])],[]), [], [(some (.inl ((1,1,0),none)),[],[((50,1),(1,22,1),none)]),(some (.inl ((0,0,0),none)),[],[])])
def ddX3_shares : List (Nat × Instr × Nat) := [(0,.iconst 0,1),(1,.istore_n 2,1),(2,.iload_n 2,1),(3,.aload_n 0,1),(4,.getfield 15,3),(7,.if_icmp .ge 24,3),(10,.aload_n 1,1),(11,.aload_n 0,1),(12,.getfield 9,3),(15,.iload_n 2,1),(16,.iaload,1),(17,.invokevirtual 46,3),(20,.ifCond .eq 5,3),(23,.iconst 1,1),(24,.ireturn,1),(25,.iinc 2 1,3),(28,.goto (-26),3),(31,.iconst 0,1),(32,.ireturn,1)]
def q108_P : rfP := (flX3,csX3,lcX3,spX3,[q107_M],[],[(46,0,3)],[])
def q108_U : rfU := []
set_option maxHeartbeats 4000000 in
def q108_N : List rfB := [(0,([(0,.inr (.inl [22,24,26,28,30,32,34,36,38,40,42,44,46,48])),(1,.inr (.inl [50]))],[],[]),(4606,[0]),2000000),
  (2,([(0,.inr (.inl [40])),(1,.inr (.inl [50])),(2,.inl ((0,22,1),none))],[],[]),(3285,[(-14)]),0),
  (2,([(0,.inr (.inl [24])),(1,.inr (.inl [50])),(2,.inl ((0,22,1),none))],[],[]),(653,[(-14)]),0),
  (2,([(0,.inr (.inl [34])),(1,.inr (.inl [50])),(2,.inl ((0,22,1),none))],[],[]),(2298,[(-14)]),0),
  (2,([(0,.inr (.inl [42])),(1,.inr (.inl [50])),(2,.inl ((0,22,1),none))],[],[]),(3614,[(-14)]),0),
  (2,([(0,.inr (.inl [32])),(1,.inr (.inl [50])),(2,.inl ((0,22,1),none))],[],[]),(1969,[(-14)]),0),
  (2,([(0,.inr (.inl [26])),(1,.inr (.inl [50])),(2,.inl ((0,22,1),none))],[],[]),(982,[(-14)]),0),
  (2,([(0,.inr (.inl [44])),(1,.inr (.inl [50])),(2,.inl ((0,22,1),none))],[],[]),(3943,[(-14)]),0),
  (2,([(0,.inr (.inl [22])),(1,.inr (.inl [50])),(2,.inl ((0,22,1),none))],[],[]),(324,[(-14)]),0),
  (2,([(0,.inr (.inl [46])),(1,.inr (.inl [50])),(2,.inl ((0,22,1),none))],[],[]),(4272,[(-14)]),0),
  (2,([(0,.inr (.inl [48])),(1,.inr (.inl [50])),(2,.inl ((0,22,1),none))],[],[]),(4601,[(-14)]),0),
  (2,([(0,.inr (.inl [38])),(1,.inr (.inl [50])),(2,.inl ((0,22,1),none))],[],[]),(2956,[(-14)]),0),
  (2,([(0,.inr (.inl [30])),(1,.inr (.inl [50])),(2,.inl ((0,22,1),none))],[],[]),(1640,[(-14)]),0),
  (2,([(0,.inr (.inl [28])),(1,.inr (.inl [50])),(2,.inl ((0,22,1),none))],[],[]),(1311,[(-14)]),0),
  (2,([(0,.inr (.inl [36])),(1,.inr (.inl [50])),(2,.inl ((0,22,1),none))],[],[]),(2627,[(-14)]),0)]
set_option maxRecDepth 100000 in
theorem q108_ok : rf_chkB q108_P q108_U wLay q108_M ddX3_shares [(17,[0])] [.inl 2] [0,2] 600 q108_N = true := by decide +kernel
/-- NearSpell.Laid.formsOf -/
def q109_M : rfM := ((⟨"NearSpell$Laid", "formsOf", "(I)LNearSpell$FormList;"⟩, prog_6_method_3_code, 2, (some (.object "NearSpell$FormList"))), (3,72), ([.inr (.inl [53]),.inl ((0,1,1),none)],[]), [(21,0),(22,2),(22,3),(22,4),(22,5),(23,0),(24,2),(24,3),(24,4),(24,5),(25,0),(26,2),(26,3),(26,4),(26,5),(27,0),(28,2),(28,3),(28,4),(28,5),(29,0),(30,2),(30,3),(30,4),(30,5),(31,0),(32,2),(32,3),(32,4),(32,5),(33,0),(34,2),(34,3),(34,4),(34,5),(35,0),(36,2),(36,3),(36,4),(36,5),(37,0),(38,2),(38,3),(38,4),(38,5),(39,0),(40,2),(40,3),(40,4),(40,5),(41,0),(42,2),(42,3),(42,4),(42,5),(43,0),(44,2),(44,3),(44,4),(44,5),(45,0),(46,2),(46,3),(46,4),(46,5),(47,0),(48,2),(48,3),(48,4),(48,5)], [(some (.inr (.inl [22,24,26,28,30,32,34,36,38,40,42,44,46,48])),[],[])])
def q109_P : rfP := (flX4,csX4,lcX4,spX4,[q56_M,q49_M],[],[(43,1,3),(51,0,8)],[])
def q109_U : rfU := []
set_option maxHeartbeats 4000000 in
def q109_N : List rfB := [(0,([(0,.inr (.inl [53])),(1,.inl ((0,1,1),none))],[],[]),(24,[]),0)]
set_option maxRecDepth 100000 in
theorem q109_ok : rf_chkB q109_P q109_U wLay q109_M ddX4_formsOf [(27,[0]),(44,[1])] [] [0] 600 q109_N = true := by decide +kernel
/-- NearSpell.Laid.formsOf -/
def q110_M : rfM := ((⟨"NearSpell$Laid", "formsOf", "(I)LNearSpell$FormList;"⟩, prog_6_method_3_code, 2, (some (.object "NearSpell$FormList"))), (3,72), ([.inr (.inl [53]),.inl ((0,2,1),none)],[]), [(21,0),(22,2),(22,3),(22,4),(22,5),(23,0),(24,2),(24,3),(24,4),(24,5),(25,0),(26,2),(26,3),(26,4),(26,5),(27,0),(28,2),(28,3),(28,4),(28,5),(29,0),(30,2),(30,3),(30,4),(30,5),(31,0),(32,2),(32,3),(32,4),(32,5),(33,0),(34,2),(34,3),(34,4),(34,5),(35,0),(36,2),(36,3),(36,4),(36,5),(37,0),(38,2),(38,3),(38,4),(38,5),(39,0),(40,2),(40,3),(40,4),(40,5),(41,0),(42,2),(42,3),(42,4),(42,5),(43,0),(44,2),(44,3),(44,4),(44,5),(45,0),(46,2),(46,3),(46,4),(46,5),(47,0),(48,2),(48,3),(48,4),(48,5)], [(some (.inr (.inl [22,24,26,28,30,32,34,36,38,40,42,44,46,48])),[],[])])
def q110_P : rfP := (flX4,csX4,lcX4,spX4,[q58_M,q49_M],[],[(43,1,3),(51,0,8)],[])
def q110_U : rfU := []
set_option maxHeartbeats 4000000 in
def q110_N : List rfB := [(0,([(0,.inr (.inl [53])),(1,.inl ((0,2,1),none))],[],[]),(24,[]),0)]
set_option maxRecDepth 100000 in
theorem q110_ok : rf_chkB q110_P q110_U wLay q110_M ddX4_formsOf [(27,[0]),(44,[1])] [] [0] 600 q110_N = true := by decide +kernel
/-- NearSpell.Laid.formsOf -/
def q111_M : rfM := ((⟨"NearSpell$Laid", "formsOf", "(I)LNearSpell$FormList;"⟩, prog_6_method_3_code, 2, (some (.object "NearSpell$FormList"))), (3,72), ([.inr (.inl [53]),.inl ((0,3,1),none)],[]), [(21,0),(22,2),(22,3),(22,4),(22,5),(23,0),(24,2),(24,3),(24,4),(24,5),(25,0),(26,2),(26,3),(26,4),(26,5),(27,0),(28,2),(28,3),(28,4),(28,5),(29,0),(30,2),(30,3),(30,4),(30,5),(31,0),(32,2),(32,3),(32,4),(32,5),(33,0),(34,2),(34,3),(34,4),(34,5),(35,0),(36,2),(36,3),(36,4),(36,5),(37,0),(38,2),(38,3),(38,4),(38,5),(39,0),(40,2),(40,3),(40,4),(40,5),(41,0),(42,2),(42,3),(42,4),(42,5),(43,0),(44,2),(44,3),(44,4),(44,5),(45,0),(46,2),(46,3),(46,4),(46,5),(47,0),(48,2),(48,3),(48,4),(48,5)], [(some (.inr (.inl [22,24,26,28,30,32,34,36,38,40,42,44,46,48])),[],[])])
def q111_P : rfP := (flX4,csX4,lcX4,spX4,[q60_M,q49_M],[],[(43,1,3),(51,0,8)],[])
def q111_U : rfU := []
set_option maxHeartbeats 4000000 in
def q111_N : List rfB := [(0,([(0,.inr (.inl [53])),(1,.inl ((0,3,1),none))],[],[]),(24,[]),0)]
set_option maxRecDepth 100000 in
theorem q111_ok : rf_chkB q111_P q111_U wLay q111_M ddX4_formsOf [(27,[0]),(44,[1])] [] [0] 600 q111_N = true := by decide +kernel
/-- NearSpell.Laid.formsOf -/
def q112_M : rfM := ((⟨"NearSpell$Laid", "formsOf", "(I)LNearSpell$FormList;"⟩, prog_6_method_3_code, 2, (some (.object "NearSpell$FormList"))), (3,72), ([.inr (.inl [53]),.inl ((0,12,1),none)],[]), [(21,0),(22,2),(22,3),(22,4),(22,5),(23,0),(24,2),(24,3),(24,4),(24,5),(25,0),(26,2),(26,3),(26,4),(26,5),(27,0),(28,2),(28,3),(28,4),(28,5),(29,0),(30,2),(30,3),(30,4),(30,5),(31,0),(32,2),(32,3),(32,4),(32,5),(33,0),(34,2),(34,3),(34,4),(34,5),(35,0),(36,2),(36,3),(36,4),(36,5),(37,0),(38,2),(38,3),(38,4),(38,5),(39,0),(40,2),(40,3),(40,4),(40,5),(41,0),(42,2),(42,3),(42,4),(42,5),(43,0),(44,2),(44,3),(44,4),(44,5),(45,0),(46,2),(46,3),(46,4),(46,5),(47,0),(48,2),(48,3),(48,4),(48,5)], [(some (.inr (.inl [22,24,26,28,30,32,34,36,38,40,42,44,46,48])),[],[])])
def q112_P : rfP := (flX4,csX4,lcX4,spX4,[q66_M,q49_M],[],[(43,1,3),(51,0,8)],[])
def q112_U : rfU := []
set_option maxHeartbeats 4000000 in
def q112_N : List rfB := [(0,([(0,.inr (.inl [53])),(1,.inl ((0,12,1),none))],[],[]),(24,[]),0)]
set_option maxRecDepth 100000 in
theorem q112_ok : rf_chkB q112_P q112_U wLay q112_M ddX4_formsOf [(27,[0]),(44,[1])] [] [0] 600 q112_N = true := by decide +kernel
/-- NearSpell.Finder.trulyMetBy -/
def q113_M : rfM := ((⟨"NearSpell$Finder", "trulyMetBy", "(I)I"⟩, prog_4_method_3_code, 5, (some .int)), (4,93), ([.inr (.inl [55]),.inl ((0,387420488,1),none)],[]), [(21,0),(22,2),(22,3),(22,4),(22,5),(23,0),(24,2),(24,3),(24,4),(24,5),(25,0),(26,2),(26,3),(26,4),(26,5),(27,0),(28,2),(28,3),(28,4),(28,5),(29,0),(30,2),(30,3),(30,4),(30,5),(31,0),(32,2),(32,3),(32,4),(32,5),(33,0),(34,2),(34,3),(34,4),(34,5),(35,0),(36,2),(36,3),(36,4),(36,5),(37,0),(38,2),(38,3),(38,4),(38,5),(39,0),(40,2),(40,3),(40,4),(40,5),(41,0),(42,2),(42,3),(42,4),(42,5),(43,0),(44,2),(44,3),(44,4),(44,5),(45,0),(46,2),(46,3),(46,4),(46,5),(47,0),(48,2),(48,3),(48,4),(48,5),(49,0),(50,2),(50,3),(50,4),(50,5)], [(some (.inl ((0,2147483647,1),none)),[],[((50,2),(0,387420488,1),none),((50,3),(1,6,1),none),((50,4),(0,2,1),none)])])
def ddX2_trulyMetBy : List (Nat × Instr × Nat) := [(0,.aload_n 0,1),(1,.getfield 19,3),(4,.iload_n 1,1),(5,.invokevirtual 31,3),(8,.astore_n 2,1),(9,.iconst 0,1),(10,.istore_n 3,1),(11,.iconst 0,1),(12,.istore 4,2),(14,.iload 4,2),(16,.aload_n 0,1),(17,.getfield 15,3),(20,.invokevirtual 43,3),(23,.if_icmp .ge 44,3),(26,.aload_n 0,1),(27,.getfield 15,3),(30,.iload 4,2),(32,.invokevirtual 49,3),(35,.ifCond .eq 26,3),(38,.aload_n 0,1),(39,.getfield 19,3),(42,.iload 4,2),(44,.invokevirtual 53,3),(47,.aload_n 2,1),(48,.invokevirtual 56,3),(51,.ifCond .eq 10,3),(54,.iload_n 3,1),(55,.iconst 1,1),(56,.iload 4,2),(58,.ishl,1),(59,.ior,1),(60,.istore_n 3,1),(61,.iinc 4 1,3),(64,.goto (-50),3),(67,.iload_n 3,1),(68,.ireturn,1)]
def q113_P : rfP := (flX2,csX2,lcX2,spX2,[q105_M,q108_M,q69_M,q67_M,q50_M],[],[(31,0,4),(43,2,8),(49,3,8),(53,4,4),(56,1,3)],[])
def q113_U : rfU := []
set_option maxHeartbeats 4000000 in
def q113_N : List rfB := [(0,([(0,.inr (.inl [55])),(1,.inl ((0,387420488,1),none))],[],[]),(430,[0]),0),
  (14,([(0,.inr (.inl [55])),(1,.inl ((0,387420488,1),none)),(2,.inr (.inl [50])),(3,.inl ((0,2147483647,1),none)),(4,.inl ((0,14,1),none))],[],[((50,2),(0,387420488,1),none),((50,3),(1,6,1),none),((50,4),(0,2,1),none)]),(419,[(-28)]),0),
  (61,([(0,.inr (.inl [55])),(1,.inl ((0,387420488,1),none)),(2,.inr (.inl [50])),(3,.inl ((0,2147483647,1),none)),(4,.inl ((0,13,1),none))],[],[((50,2),(0,387420488,1),none),((50,3),(1,6,1),none),((50,4),(0,2,1),none)]),(394,[(-28)]),0)]
set_option maxRecDepth 100000 in
theorem q113_ok : rf_chkB q113_P q113_U wLay q113_M ddX2_trulyMetBy [(5,[0]),(20,[2]),(32,[3]),(44,[4]),(48,[1])] [.inl 4] [0,14,61] 600 q113_N = true := by decide +kernel
/-- NearSpell.State.usesOf -/
def q114_M : rfM := ((⟨"NearSpell$State", "usesOf", "(I)I"⟩, prog_10_method_8_code, 2, (some .int)), (0,0), ([.inr (.inl [13]),.inl ((0,1,1),none)],[]), [], [(some (.inl (((-2147483648),2147483647,1),none)),[],[])])
def q114_P : rfP := (flX8,csX8,lcX8,spX8,[],[],[],[])
def q114_U : rfU := []
set_option maxHeartbeats 4000000 in
def q114_N : List rfB := [(0,([(0,.inr (.inl [13])),(1,.inl ((0,1,1),none))],[],[]),(12,[]),0)]
set_option maxRecDepth 100000 in
theorem q114_ok : rf_chkB q114_P q114_U wLay q114_M ddX8_usesOf [] [] [0] 600 q114_N = true := by decide +kernel
/-- NearSpell.State.usesOf -/
def q115_M : rfM := ((⟨"NearSpell$State", "usesOf", "(I)I"⟩, prog_10_method_8_code, 2, (some .int)), (0,0), ([.inr (.inl [13]),.inl ((0,0,0),none)],[]), [], [(some (.inl (((-2147483648),2147483647,1),none)),[],[])])
def q115_P : rfP := (flX8,csX8,lcX8,spX8,[],[],[],[])
def q115_U : rfU := []
set_option maxHeartbeats 4000000 in
def q115_N : List rfB := [(0,([(0,.inr (.inl [13])),(1,.inl ((0,0,0),none))],[],[]),(12,[]),0)]
set_option maxRecDepth 100000 in
theorem q115_ok : rf_chkB q115_P q115_U wLay q115_M ddX8_usesOf [] [] [0] 600 q115_N = true := by decide +kernel
/-- NearSpell.Finder.comesAhead -/
def q116_M : rfM := ((⟨"NearSpell$Finder", "comesAhead", "(II)Z"⟩, prog_4_method_8_code, 3, (some .boolean)), (1,21), ([.inr (.inl [55]),.inl ((0,1,1),none),.inl ((0,0,0),none)],[]), [], [(some (.inl ((1,1,0),none)),[],[]),(some (.inl ((0,0,0),none)),[],[])])
def ddX2_comesAhead : List (Nat × Instr × Nat) := [(0,.aload_n 0,1),(1,.getfield 27,3),(4,.iload_n 1,1),(5,.iaload,1),(6,.aload_n 0,1),(7,.getfield 27,3),(10,.iload_n 2,1),(11,.iaload,1),(12,.if_icmp .eq 24,3),(15,.aload_n 0,1),(16,.getfield 27,3),(19,.iload_n 1,1),(20,.iaload,1),(21,.aload_n 0,1),(22,.getfield 27,3),(25,.iload_n 2,1),(26,.iaload,1),(27,.if_icmp .ge 7,3),(30,.iconst 1,1),(31,.goto 4,3),(34,.iconst 0,1),(35,.ireturn,1),(36,.aload_n 0,1),(37,.getfield 15,3),(40,.iload_n 1,1),(41,.invokevirtual 87,3),(44,.aload_n 0,1),(45,.getfield 15,3),(48,.iload_n 2,1),(49,.invokevirtual 87,3),(52,.if_icmp .le 7,3),(55,.iconst 1,1),(56,.goto 4,3),(59,.iconst 0,1),(60,.ireturn,1)]
def q116_P : rfP := (flX2,csX2,lcX2,spX2,[q114_M,q115_M],[],[(87,0,8),(87,1,8)],[])
def q116_U : rfU := []
set_option maxHeartbeats 4000000 in
def q116_N : List rfB := [(0,([(0,.inr (.inl [55])),(1,.inl ((0,1,1),none)),(2,.inl ((0,0,0),none))],[],[]),(36,[]),0)]
set_option maxRecDepth 100000 in
theorem q116_ok : rf_chkB q116_P q116_U wLay q116_M ddX2_comesAhead [(41,[0]),(49,[1])] [] [0] 600 q116_N = true := by decide +kernel
/-- NearSpell.State.usesOf -/
def q117_M : rfM := ((⟨"NearSpell$State", "usesOf", "(I)I"⟩, prog_10_method_8_code, 2, (some .int)), (0,0), ([.inr (.inl [13]),.inl ((0,2,1),none)],[]), [], [(some (.inl (((-2147483648),2147483647,1),none)),[],[])])
def q117_P : rfP := (flX8,csX8,lcX8,spX8,[],[],[],[])
def q117_U : rfU := []
set_option maxHeartbeats 4000000 in
def q117_N : List rfB := [(0,([(0,.inr (.inl [13])),(1,.inl ((0,2,1),none))],[],[]),(12,[]),0)]
set_option maxRecDepth 100000 in
theorem q117_ok : rf_chkB q117_P q117_U wLay q117_M ddX8_usesOf [] [] [0] 600 q117_N = true := by decide +kernel
/-- NearSpell.Finder.comesAhead -/
def q118_M : rfM := ((⟨"NearSpell$Finder", "comesAhead", "(II)Z"⟩, prog_4_method_8_code, 3, (some .boolean)), (1,21), ([.inr (.inl [55]),.inl ((0,2,1),none),.inl ((0,1,1),none)],[]), [], [(some (.inl ((1,1,0),none)),[],[]),(some (.inl ((0,0,0),none)),[],[])])
def q118_P : rfP := (flX2,csX2,lcX2,spX2,[q117_M,q114_M],[],[(87,0,8),(87,1,8)],[])
def q118_U : rfU := []
set_option maxHeartbeats 4000000 in
def q118_N : List rfB := [(0,([(0,.inr (.inl [55])),(1,.inl ((0,2,1),none)),(2,.inl ((0,1,1),none))],[],[]),(36,[]),0)]
set_option maxRecDepth 100000 in
theorem q118_ok : rf_chkB q118_P q118_U wLay q118_M ddX2_comesAhead [(41,[0]),(49,[1])] [] [0] 600 q118_N = true := by decide +kernel
/-- NearSpell.State.usesOf -/
def q119_M : rfM := ((⟨"NearSpell$State", "usesOf", "(I)I"⟩, prog_10_method_8_code, 2, (some .int)), (0,0), ([.inr (.inl [13]),.inl ((0,3,1),none)],[]), [], [(some (.inl (((-2147483648),2147483647,1),none)),[],[])])
def q119_P : rfP := (flX8,csX8,lcX8,spX8,[],[],[],[])
def q119_U : rfU := []
set_option maxHeartbeats 4000000 in
def q119_N : List rfB := [(0,([(0,.inr (.inl [13])),(1,.inl ((0,3,1),none))],[],[]),(12,[]),0)]
set_option maxRecDepth 100000 in
theorem q119_ok : rf_chkB q119_P q119_U wLay q119_M ddX8_usesOf [] [] [0] 600 q119_N = true := by decide +kernel
