/-- NearSpellModel.sign -/
def q513_M : rfM := ((⟨"NearSpellModel", "sign", "(I)I"⟩, prog_14_method_2_code, 2, (some .int)), (0,0), ([.inr (.inl [114]),.inl ((1,1600,1),none)],[]), [], [(some (.inl ((0,255,1),none)),[(1,1,1599)],[((114,3),(2,1600,1),none)]),(some (.inl ((0,0,0),none)),[],[])])
def q513_P : rfP := (flX12,csX12,lcX12,spX12,[],[],[],([],[]))
def q513_U : rfU := []
set_option maxHeartbeats 8000000 in
def q513_N : List rfB := [(0,([(0,.inr (.inl [114])),(1,.inl ((1,1600,1),none))],[],[]),(13,[]),0)]
set_option maxRecDepth 100000 in
theorem q513_ok : rf_chkB q513_P q513_U wLay q513_M ddX12_sign [] [] [0] 600 q513_N = true := by decide +kernel
set_option maxHeartbeats 4000000 in
theorem q513_met {G : rfG} (h : okG G) (hh : wHandOK G) : rf_met G q513_M := rf_methodB h.1 (P := q513_P) (U := q513_U) (N := q513_N) ⟨wflT h flokX12, wcsT h csokX12, wlcT h lcokX12, spokX12 h, fun _ h => absurd h List.not_mem_nil, fun _ h => absurd h List.not_mem_nil, fun _ h => absurd h List.not_mem_nil, fun _ h => absurd h List.not_mem_nil, fun _ h => absurd h List.not_mem_nil⟩ dkX12_sign (by decide +kernel) (by rw [h.2.2.1]; exact q513_ok)
/-- NearSpellModel.isLetter -/
def q514_M : rfM := ((⟨"NearSpellModel", "isLetter", "(I)Z"⟩, prog_14_method_3_code, 1, (some .boolean)), (0,0), ([.inl ((0,0,0),none)],[]), [], [(some (.inl ((0,0,0),none)),[],[])])
def q514_P : rfP := (flX12,csX12,lcX12,spX12,[],[],[],([],[]))
def q514_U : rfU := []
set_option maxHeartbeats 8000000 in
def q514_N : List rfB := [(0,([(0,.inl ((0,0,0),none))],[],[]),(4,[]),0)]
set_option maxRecDepth 100000 in
theorem q514_ok : rf_chkB q514_P q514_U wLay q514_M ddX12_isLetter [] [] [0] 600 q514_N = true := by decide +kernel
set_option maxHeartbeats 4000000 in
theorem q514_met {G : rfG} (h : okG G) (hh : wHandOK G) : rf_met G q514_M := rf_methodB h.1 (P := q514_P) (U := q514_U) (N := q514_N) ⟨wflT h flokX12, wcsT h csokX12, wlcT h lcokX12, spokX12 h, fun _ h => absurd h List.not_mem_nil, fun _ h => absurd h List.not_mem_nil, fun _ h => absurd h List.not_mem_nil, fun _ h => absurd h List.not_mem_nil, fun _ h => absurd h List.not_mem_nil⟩ dkX12_isLetter (by decide +kernel) (by rw [h.2.2.1]; exact q514_ok)
/-- NearSpellModel.isKept -/
def q515_M : rfM := ((⟨"NearSpellModel", "isKept", "(J)Z"⟩, prog_14_method_7_code, 3, (some .boolean)), (0,0), ([.inr (.inr 0)],[]), [], [(some (.inl ((1,1,0),none)),[],[]),(some (.inl ((0,0,0),none)),[],[])])
def ddX12_isKept : List (Nat × Instr × Nat) := [(0,.lload_n 0,1),(1,.ldc2_w 157,3),(4,.lcmp,1),(5,.ifCond .eq 51,3),(8,.lload_n 0,1),(9,.ldc2_w 159,3),(12,.lcmp,1),(13,.ifCond .eq 43,3),(16,.lload_n 0,1),(17,.ldc2_w 161,3),(20,.lcmp,1),(21,.ifCond .eq 35,3),(24,.lload_n 0,1),(25,.ldc2_w 163,3),(28,.lcmp,1),(29,.ifCond .eq 27,3),(32,.lload_n 0,1),(33,.ldc2_w 165,3),(36,.lcmp,1),(37,.ifCond .eq 19,3),(40,.lload_n 0,1),(41,.ldc2_w 167,3),(44,.lcmp,1),(45,.ifCond .eq 11,3),(48,.lload_n 0,1),(49,.ldc2_w 169,3),(52,.lcmp,1),(53,.ifCond .ne 7,3),(56,.iconst 1,1),(57,.goto 4,3),(60,.iconst 0,1),(61,.istore_n 2,1),(62,.iload_n 2,1),(63,.ifCond .ne 59,3),(66,.lload_n 0,1),(67,.ldc2_w 171,3),(70,.lcmp,1),(71,.ifCond .eq 51,3),(74,.lload_n 0,1),(75,.ldc2_w 173,3),(78,.lcmp,1),(79,.ifCond .eq 43,3),(82,.lload_n 0,1),(83,.ldc2_w 175,3),(86,.lcmp,1),(87,.ifCond .eq 35,3),(90,.lload_n 0,1),(91,.ldc2_w 177,3),(94,.lcmp,1),(95,.ifCond .eq 27,3),(98,.lload_n 0,1),(99,.ldc2_w 179,3),(102,.lcmp,1),(103,.ifCond .eq 19,3),(106,.lload_n 0,1),(107,.ldc2_w 181,3),(110,.lcmp,1),(111,.ifCond .eq 11,3),(114,.lload_n 0,1),(115,.ldc2_w 183,3),(118,.lcmp,1),(119,.ifCond .ne 7,3),(122,.iconst 1,1),(123,.goto 4,3),(126,.iconst 0,1),(127,.ireturn,1)]
set_option maxRecDepth 100000 in
theorem dkX12_isKept : rf_decs prog_14_method_7_code ddX12_isKept := rf_decs_of (by decide +kernel)
def q515_P : rfP := (flX12,csX12,lcX12,spX12,[],[],[],([],[]))
def q515_U : rfU := []
set_option maxHeartbeats 8000000 in
def q515_N : List rfB := [(0,([(0,.inr (.inr 0))],[],[]),(67,[]),0),
  (56,([(0,.inr (.inr 0))],[],[]),(37,[]),0),
  (62,([(0,.inr (.inr 0)),(2,.inl ((0,1,1),none))],[],[]),(34,[]),0),
  (122,([(0,.inr (.inr 0)),(2,.inl ((0,1,1),none))],[],[]),(2,[]),0)]
set_option maxRecDepth 100000 in
theorem q515_ok : rf_chkB q515_P q515_U wLay q515_M ddX12_isKept [] [] [0,56,62,122] 600 q515_N = true := by decide +kernel
set_option maxHeartbeats 4000000 in
theorem q515_met {G : rfG} (h : okG G) (hh : wHandOK G) : rf_met G q515_M := rf_methodB h.1 (P := q515_P) (U := q515_U) (N := q515_N) ⟨wflT h flokX12, wcsT h csokX12, wlcT h lcokX12, spokX12 h, fun _ h => absurd h List.not_mem_nil, fun _ h => absurd h List.not_mem_nil, fun _ h => absurd h List.not_mem_nil, fun _ h => absurd h List.not_mem_nil, fun _ h => absurd h List.not_mem_nil⟩ dkX12_isKept (by decide +kernel) (by rw [h.2.2.1]; exact q515_ok)
/-- NearSpellModel.isDigit -/
def q516_M : rfM := ((⟨"NearSpellModel", "isDigit", "(I)Z"⟩, prog_14_method_4_code, 1, (some .boolean)), (0,0), ([.inl ((0,255,1),none)],[]), [], [(some (.inl ((1,1,0),none)),[(0,48,57)],[]),(some (.inl ((0,0,0),none)),[],[])])
def ddX12_isDigit : List (Nat × Instr × Nat) := [(0,.iload_n 0,1),(1,.bipush 48,2),(3,.if_icmp .lt 13,3),(6,.iload_n 0,1),(7,.bipush 57,2),(9,.if_icmp .gt 7,3),(12,.iconst 1,1),(13,.goto 4,3),(16,.iconst 0,1),(17,.ireturn,1)]
set_option maxRecDepth 100000 in
theorem dkX12_isDigit : rf_decs prog_14_method_4_code ddX12_isDigit := rf_decs_of (by decide +kernel)
def q516_P : rfP := (flX12,csX12,lcX12,spX12,[],[],[],([],[]))
def q516_U : rfU := []
set_option maxHeartbeats 8000000 in
def q516_N : List rfB := [(0,([(0,.inl ((0,255,1),none))],[],[]),(10,[]),0),
  (16,([(0,.inl ((0,255,1),none))],[],[]),(1,[]),0)]
set_option maxRecDepth 100000 in
theorem q516_ok : rf_chkB q516_P q516_U wLay q516_M ddX12_isDigit [] [] [0,16] 600 q516_N = true := by decide +kernel
set_option maxHeartbeats 4000000 in
theorem q516_met {G : rfG} (h : okG G) (hh : wHandOK G) : rf_met G q516_M := rf_methodB h.1 (P := q516_P) (U := q516_U) (N := q516_N) ⟨wflT h flokX12, wcsT h csokX12, wlcT h lcokX12, spokX12 h, fun _ h => absurd h List.not_mem_nil, fun _ h => absurd h List.not_mem_nil, fun _ h => absurd h List.not_mem_nil, fun _ h => absurd h List.not_mem_nil, fun _ h => absurd h List.not_mem_nil⟩ dkX12_isDigit (by decide +kernel) (by rw [h.2.2.1]; exact q516_ok)
/-- NearSpellModel.isDigit -/
def q517_M : rfM := ((⟨"NearSpellModel", "isDigit", "(I)Z"⟩, prog_14_method_4_code, 1, (some .boolean)), (0,0), ([.inl ((0,0,0),none)],[]), [], [(some (.inl ((0,0,0),none)),[],[])])
def q517_P : rfP := (flX12,csX12,lcX12,spX12,[],[],[],([],[]))
def q517_U : rfU := []
set_option maxHeartbeats 8000000 in
def q517_N : List rfB := [(0,([(0,.inl ((0,0,0),none))],[],[]),(4,[]),0)]
set_option maxRecDepth 100000 in
theorem q517_ok : rf_chkB q517_P q517_U wLay q517_M ddX12_isDigit [] [] [0] 600 q517_N = true := by decide +kernel
set_option maxHeartbeats 4000000 in
theorem q517_met {G : rfG} (h : okG G) (hh : wHandOK G) : rf_met G q517_M := rf_methodB h.1 (P := q517_P) (U := q517_U) (N := q517_N) ⟨wflT h flokX12, wcsT h csokX12, wlcT h lcokX12, spokX12 h, fun _ h => absurd h List.not_mem_nil, fun _ h => absurd h List.not_mem_nil, fun _ h => absurd h List.not_mem_nil, fun _ h => absurd h List.not_mem_nil, fun _ h => absurd h List.not_mem_nil⟩ dkX12_isDigit (by decide +kernel) (by rw [h.2.2.1]; exact q517_ok)
/-- NearSpellModel.isSign -/
def q518_M : rfM := ((⟨"NearSpellModel", "isSign", "(I)Z"⟩, prog_14_method_8_code, 1, (some .boolean)), (0,0), ([.inl ((0,255,1),none)],[]), [], [(some (.inl ((1,1,0),none)),[(0,37,62)],[]),(some (.inl ((0,0,0),none)),[],[])])
def ddX12_isSign : List (Nat × Instr × Nat) := [(0,.iload_n 0,1),(1,.bipush 59,2),(3,.if_icmp .eq 63,3),(6,.iload_n 0,1),(7,.bipush 40,2),(9,.if_icmp .eq 57,3),(12,.iload_n 0,1),(13,.bipush 41,2),(15,.if_icmp .eq 51,3),(18,.iload_n 0,1),(19,.bipush 60,2),(21,.if_icmp .eq 45,3),(24,.iload_n 0,1),(25,.bipush 62,2),(27,.if_icmp .eq 39,3),(30,.iload_n 0,1),(31,.bipush 61,2),(33,.if_icmp .eq 33,3),(36,.iload_n 0,1),(37,.bipush 43,2),(39,.if_icmp .eq 27,3),(42,.iload_n 0,1),(43,.bipush 45,2),(45,.if_icmp .eq 21,3),(48,.iload_n 0,1),(49,.bipush 42,2),(51,.if_icmp .eq 15,3),(54,.iload_n 0,1),(55,.bipush 47,2),(57,.if_icmp .eq 9,3),(60,.iload_n 0,1),(61,.bipush 37,2),(63,.if_icmp .ne 7,3),(66,.iconst 1,1),(67,.goto 4,3),(70,.iconst 0,1),(71,.ireturn,1)]
set_option maxRecDepth 100000 in
theorem dkX12_isSign : rf_decs prog_14_method_8_code ddX12_isSign := rf_decs_of (by decide +kernel)
def q518_P : rfP := (flX12,csX12,lcX12,spX12,[],[],[],([],[]))
def q518_U : rfU := []
set_option maxHeartbeats 8000000 in
def q518_N : List rfB := [(0,([(0,.inl ((0,255,1),none))],[],[]),(37,[]),0),
  (66,([(0,.inl ((37,62,1),none))],[],[]),(2,[]),0)]
set_option maxRecDepth 100000 in
theorem q518_ok : rf_chkB q518_P q518_U wLay q518_M ddX12_isSign [] [] [0,66] 600 q518_N = true := by decide +kernel
set_option maxHeartbeats 4000000 in
theorem q518_met {G : rfG} (h : okG G) (hh : wHandOK G) : rf_met G q518_M := rf_methodB h.1 (P := q518_P) (U := q518_U) (N := q518_N) ⟨wflT h flokX12, wcsT h csokX12, wlcT h lcokX12, spokX12 h, fun _ h => absurd h List.not_mem_nil, fun _ h => absurd h List.not_mem_nil, fun _ h => absurd h List.not_mem_nil, fun _ h => absurd h List.not_mem_nil, fun _ h => absurd h List.not_mem_nil⟩ dkX12_isSign (by decide +kernel) (by rw [h.2.2.1]; exact q518_ok)
/-- NearSpellModel.goOn -/
def q519_M : rfM := ((⟨"NearSpellModel", "goOn", "()V"⟩, prog_14_method_9_code, 3, none), (1,22), ([.inr (.inl [114])],[((114,7),(0,1600,1),none)]), [(114,7),(114,8),(114,9),(114,10),(114,11)], [(none,[],[((114,7),(0,1600,1),none),((114,8),(0,0,0),none)]),(none,[],[((114,3),(1,1600,1),none),((114,6),(0,1599,1),some ((114,7),0,4294967296)),((114,7),(0,1600,1),some ((114,7),0,4294967296)),((114,8),(1,4,1),none)]),(none,[],[((114,3),(1,1600,1),none),((114,6),(0,1599,1),some ((114,7),0,4294967296)),((114,7),(1,1600,1),some ((114,7),1,4294967296)),((114,8),(5,5,0),none)])])
def ddX12_goOn : List (Nat × Instr × Nat) := [(0,.aload_n 0,1),(1,.aload_n 0,1),(2,.getfield 185,3),(5,.putfield 188,3),(8,.aload_n 0,1),(9,.getfield 188,3),(12,.aload_n 0,1),(13,.getfield 151,3),(16,.if_icmp .ge 42,3),(19,.aload_n 0,1),(20,.aload_n 0,1),(21,.getfield 188,3),(24,.invokevirtual 191,3),(27,.bipush 32,2),(29,.if_icmp .eq 16,3),(32,.aload_n 0,1),(33,.aload_n 0,1),(34,.getfield 188,3),(37,.invokevirtual 191,3),(40,.bipush 10,2),(42,.if_icmp .ne 16,3),(45,.aload_n 0,1),(46,.dup,1),(47,.getfield 188,3),(50,.iconst 1,1),(51,.iadd,1),(52,.putfield 188,3),(55,.goto (-47),3),(58,.aload_n 0,1),(59,.aload_n 0,1),(60,.getfield 188,3),(63,.invokevirtual 191,3),(66,.istore_n 1,1),(67,.aload_n 0,1),(68,.aload_n 0,1),(69,.getfield 188,3),(72,.iconst 1,1),(73,.iadd,1),(74,.putfield 185,3),(77,.aload_n 0,1),(78,.getfield 188,3),(81,.aload_n 0,1),(82,.getfield 151,3),(85,.if_icmp .lt 27,3),(88,.aload_n 0,1),(89,.iconst 0,1),(90,.putfield 195,3),(93,.aload_n 0,1),(94,.aload_n 0,1),(95,.getfield 151,3),(98,.putfield 188,3),(101,.aload_n 0,1),(102,.aload_n 0,1),(103,.getfield 151,3),(106,.putfield 185,3),(109,.goto 268,3),(112,.iload_n 1,1),(113,.invokestatic 198,3),(116,.ifCond .eq 123,3),(119,.aload_n 0,1),(120,.aload_n 0,1),(121,.getfield 185,3),(124,.invokevirtual 191,3),(127,.invokestatic 198,3),(130,.ifCond .eq 16,3),(133,.aload_n 0,1),(134,.dup,1),(135,.getfield 185,3),(138,.iconst 1,1),(139,.iadd,1),(140,.putfield 185,3),(143,.goto (-24),3),(146,.aload_n 0,1),(147,.lconst 0,1),(148,.putfield 202,3),(151,.aload_n 0,1),(152,.getfield 188,3),(155,.istore_n 2,1),(156,.iload_n 2,1),(157,.aload_n 0,1),(158,.getfield 185,3),(161,.if_icmp .ge 38,3),(164,.iload_n 2,1),(165,.aload_n 0,1),(166,.getfield 188,3),(169,.bipush 8,2),(171,.iadd,1),(172,.if_icmp .ge 27,3),(175,.aload_n 0,1),(176,.aload_n 0,1),(177,.getfield 202,3),(180,.bipush 8,2),(182,.lshl,1),(183,.aload_n 0,1),(184,.iload_n 2,1),(185,.invokevirtual 191,3),(188,.i2l,1),(189,.lor,1),(190,.putfield 202,3),(193,.iinc 2 1,3),(196,.goto (-40),3),(199,.aload_n 0,1),(200,.aload_n 0,1),(201,.getfield 185,3),(204,.aload_n 0,1),(205,.getfield 188,3),(208,.isub,1),(209,.bipush 8,2),(211,.if_icmp .le 7,3),(214,.iconst 1,1),(215,.goto 18,3),(218,.aload_n 0,1),(219,.getfield 202,3),(222,.invokestatic 206,3),(225,.ifCond .eq 7,3),(228,.iconst 3,1),(229,.goto 4,3),(232,.iconst 2,1),(233,.putfield 195,3),(236,.goto 141,3),(239,.iload_n 1,1),(240,.invokestatic 210,3),(243,.ifCond .eq 118,3),(246,.aload_n 0,1),(247,.iconst 0,1),(248,.putfield 213,3),(251,.aload_n 0,1),(252,.aload_n 0,1),(253,.getfield 188,3),(256,.putfield 185,3),(259,.aload_n 0,1),(260,.aload_n 0,1),(261,.getfield 185,3),(264,.invokevirtual 191,3),(267,.invokestatic 210,3),(270,.ifCond .eq 52,3),(273,.aload_n 0,1),(274,.getfield 185,3),(277,.aload_n 0,1),(278,.getfield 188,3),(281,.isub,1),(282,.iconst 4,1),(283,.if_icmp .ge 26,3),(286,.aload_n 0,1),(287,.bipush 10,2),(289,.aload_n 0,1),(290,.getfield 213,3),(293,.imul,1),(294,.aload_n 0,1),(295,.aload_n 0,1),(296,.getfield 185,3),(299,.invokevirtual 191,3),(302,.iadd,1),(303,.bipush 48,2),(305,.isub,1),(306,.putfield 213,3),(309,.aload_n 0,1),(310,.dup,1),(311,.getfield 185,3),(314,.iconst 1,1),(315,.iadd,1),(316,.putfield 185,3),(319,.goto (-60),3),(322,.aload_n 0,1),(323,.aload_n 0,1),(324,.getfield 185,3),(327,.aload_n 0,1),(328,.getfield 188,3),(331,.isub,1),(332,.iconst 4,1),(333,.if_icmp .gt 17,3),(336,.aload_n 0,1),(337,.aload_n 0,1),(338,.getfield 185,3),(341,.invokevirtual 191,3),(344,.invokestatic 198,3),(347,.ifCond .eq 7,3),(350,.iconst 1,1),(351,.goto 4,3),(354,.iconst 4,1),(355,.putfield 195,3),(358,.goto 19,3),(361,.aload_n 0,1),(362,.iload_n 1,1),(363,.invokestatic 216,3),(366,.ifCond .eq 7,3),(369,.iconst 5,1),(370,.goto 4,3),(373,.iconst 1,1),(374,.putfield 195,3),(377,.return_,1)]
set_option maxRecDepth 100000 in
theorem dkX12_goOn : rf_decs prog_14_method_9_code ddX12_goOn := rf_decs_of (by decide +kernel)
def q519_P : rfP := (flX12,csX12,lcX12,spX12,[q511_M,q512_M,q513_M,q514_M,q515_M,q516_M,q517_M,q518_M],[(198,1),(198,3),(206,4),(210,5),(210,6),(216,7)],[(191,0,12),(191,2,12)],([],[]))
def q519_U : rfU := [(.inr (114,6),[(0,1599),(1600,1600)])]
set_option maxHeartbeats 8000000 in
def q519_N : List rfB := [(0,([(0,.inr (.inl [114]))],[],[((114,7),(0,1600,1),some ((114,7),0,0))]),(161832,[0,0,0]),0),
  (8,([(0,.inr (.inl [114]))],[],[((114,6),(0,1600,1),some ((114,7),0,4294967296)),((114,7),(0,1600,1),some ((114,7),0,0))]),(161826,[(-27),0,0]),0),
  (58,([(0,.inr (.inl [114]))],[],[((114,3),(0,1600,1),none),((114,6),(0,1600,1),some ((114,7),0,4294967296)),((114,7),(0,1600,1),some ((114,7),0,0))]),(118594,[0,0,0]),0),
  (32,([(0,.inr (.inl [114]))],[],[((114,3),(1,1600,1),none),((114,6),(0,1599,1),some ((114,7),0,4294967296)),((114,7),(0,1600,1),some ((114,7),0,0))]),(161813,[(-27),0,0]),0),
  (45,([(0,.inr (.inl [114]))],[],[((114,3),(1,1600,1),none),((114,6),(0,1599,1),some ((114,7),0,4294967296)),((114,7),(0,1600,1),some ((114,7),0,0))]),(161807,[(-27),0,0]),0),
  (58,([(0,.inr (.inl [114]))],[],[((114,3),(1,1600,1),none),((114,6),(0,1599,1),some ((114,7),0,4294967296)),((114,7),(0,1600,1),some ((114,7),0,0))]),(118599,[0,0,0]),0),
  (66,([(0,.inr (.inl [114]))],[.inl ((0,0,0),none)],[((114,3),(0,1600,1),none),((114,6),(0,1600,1),some ((114,7),0,4294967296)),((114,7),(0,1600,1),some ((114,7),0,0))]),(118590,[0,0,0]),0),
  (66,([(0,.inr (.inl [114]))],[.inl ((0,255,1),none)],[((114,3),(1,1600,1),none),((114,6),(0,1599,1),some ((114,7),0,4294967296)),((114,7),(0,1600,1),some ((114,7),0,0))]),(118564,[0,0,0]),0),
  (66,([(0,.inr (.inl [114]))],[.inl ((0,0,0),none)],[((114,3),(1,1600,1),none),((114,6),(0,1599,1),some ((114,7),0,4294967296)),((114,7),(0,1600,1),some ((114,7),0,0))]),(118595,[0,0,0]),0),
  (67,([(0,.inr (.inl [114])),(1,.inl ((0,0,0),none))],[],[((114,3),(0,1600,1),none),((114,6),(0,1600,1),some ((114,7),0,4294967296)),((114,7),(0,1600,1),some ((114,7),0,0))]),(118589,[0,0,0]),1000000),
  (67,([(0,.inr (.inl [114])),(1,.inl ((0,255,1),none))],[],[((114,6),(0,1599,1),some ((114,7),0,4294967296)),((114,7),(0,1600,1),some ((114,7),0,0))]),(118563,[0,0,0]),0),
  (377,([(0,.inr (.inl [114])),(1,.inl ((0,255,1),none))],[],[((114,3),(0,1599,1),none),((114,6),(0,1599,1),none),((114,7),(0,1599,1),none),((114,8),(0,0,0),none)]),(118540,[0,0,0]),0),
  (377,([(0,.inr (.inl [114])),(1,.inl ((0,0,0),none))],[],[((114,3),(0,1600,1),none),((114,6),(0,1600,1),none),((114,7),(0,1600,1),none),((114,8),(0,0,0),none)]),(118565,[0,0,0]),0),
  (119,([(0,.inr (.inl [114])),(1,.inl ((97,122,1),none))],[],[((114,3),(1,1600,1),none),((114,6),(0,1599,1),some ((114,7),0,4294967296)),((114,7),(1,1600,1),some ((114,7),1,4294967296))]),(62466,[0,(-14),0]),0),
  (130,([(0,.inr (.inl [114])),(1,.inl ((97,122,1),none))],[.inl ((1,1,0),none)],[((114,3),(2,1600,1),none),((114,6),(0,1599,1),some ((114,7),0,4294967296)),((114,7),(1,1599,1),some ((114,7),1,4294967296))]),(62461,[0,(-14),0]),0),
  (130,([(0,.inr (.inl [114])),(1,.inl ((97,122,1),none))],[.inl ((0,0,0),none)],[((114,3),(1,1600,1),none),((114,6),(0,1599,1),some ((114,7),0,4294967296)),((114,7),(1,1600,1),some ((114,7),1,4294967296))]),(40053,[0,0,0]),0),
  (156,([(0,.inr (.inl [114])),(1,.inl ((97,122,1),none)),(2,.inl ((0,1600,1),none))],[],[((114,3),(1,1600,1),none),((114,6),(0,1599,1),some ((114,7),0,4294967296)),((114,7),(1,1600,1),some ((114,7),1,4294967296))]),(40044,[0,0,(-25)]),0),
  (199,([(0,.inr (.inl [114])),(1,.inl ((97,122,1),none)),(2,.inl ((1,1600,1),none))],[],[((114,3),(1,1600,1),none),((114,6),(0,1599,1),some ((114,7),0,4294967296)),((114,7),(1,1600,1),some ((114,7),1,4294967296))]),(21,[0,0,0]),0),
  (189,([(0,.inr (.inl [114])),(1,.inl ((97,122,1),none)),(2,.inl ((0,1599,1),none))],[.inr (.inr 0),.inr (.inr 0),.inr (.inl [114])],[((114,3),(1,1600,1),none),((114,6),(0,1599,1),some ((114,7),0,4294967296)),((114,7),(1,1600,1),some ((114,7),1,4294967296))]),(40024,[0,0,(-25)]),0),
  (233,([(0,.inr (.inl [114])),(1,.inl ((97,122,1),none)),(2,.inl ((1,1600,1),none))],[.inl ((1,1,0),none),.inr (.inl [114])],[((114,3),(1,1600,1),none),((114,6),(0,1599,1),some ((114,7),0,4294967296)),((114,7),(1,1600,1),some ((114,7),1,4294967296))]),(11,[0,0,0]),0),
  (233,([(0,.inr (.inl [114])),(1,.inl ((97,122,1),none)),(2,.inl ((1,1600,1),none))],[.inl ((2,3,1),none),.inr (.inl [114])],[((114,3),(1,1600,1),none),((114,6),(0,1599,1),some ((114,7),0,4294967296)),((114,7),(1,1600,1),some ((114,7),1,4294967296))]),(2,[0,0,0]),0),
  (236,([(0,.inr (.inl [114])),(1,.inl ((97,122,1),none)),(2,.inl ((1,1600,1),none))],[],[((114,3),(1,1600,1),none),((114,6),(0,1599,1),some ((114,7),0,4294967296)),((114,7),(1,1600,1),some ((114,7),1,4294967296)),((114,8),(1,3,1),none)]),(1,[0,0,0]),0),
  (377,([(0,.inr (.inl [114])),(1,.inl ((0,255,1),none))],[],[((114,3),(1,1600,1),none),((114,6),(0,1599,1),some ((114,7),0,4294967296)),((114,7),(0,1600,1),some ((114,7),0,4294967296)),((114,8),(1,4,1),none)]),(0,[0,0,0]),0),
  (259,([(0,.inr (.inl [114])),(1,.inl ((48,57,1),none))],[],[((114,3),(1,1600,1),none),((114,6),(0,1599,1),some ((114,7),0,4294967296)),((114,7),(0,1600,1),some ((114,7),0,4294967296))]),(118512,[0,(-35),0]),0),
  (270,([(0,.inr (.inl [114])),(1,.inl ((48,57,1),none))],[.inl ((0,0,0),none)],[((114,3),(1,1600,1),none),((114,6),(0,1599,1),some ((114,7),0,4294967296)),((114,7),(0,1600,1),some ((114,7),0,4294967296))]),(62478,[0,0,0]),0),
  (270,([(0,.inr (.inl [114])),(1,.inl ((48,57,1),none))],[.inl ((1,1,0),none)],[((114,3),(1,1600,1),none),((114,6),(0,1599,1),some ((114,7),0,4294967296)),((114,7),(0,1599,1),some ((114,7),0,4294967296))]),(118507,[0,(-35),0]),0),
  (309,([(0,.inr (.inl [114])),(1,.inl ((48,57,1),none))],[],[((114,3),(1,1600,1),none),((114,6),(0,1599,1),some ((114,7),0,4294967296)),((114,7),(0,1599,1),some ((114,7),0,4294967296))]),(118485,[0,(-35),0]),0),
  (303,([(0,.inr (.inl [114])),(1,.inl ((48,57,1),none))],[.inl (((-2147483648),2147483647,1),none),.inr (.inl [114])],[((114,3),(1,1600,1),none),((114,6),(0,1599,1),some ((114,7),0,4294967296)),((114,7),(0,1599,1),some ((114,7),0,4294967296))]),(118488,[0,(-35),0]),0),
  (350,([(0,.inr (.inl [114])),(1,.inl ((48,57,1),none))],[.inr (.inl [114])],[((114,3),(1,1600,1),none),((114,6),(0,1599,1),some ((114,7),0,4294967296)),((114,7),(0,1600,1),some ((114,7),0,4294967296))]),(62459,[0,0,0]),0),
  (347,([(0,.inr (.inl [114])),(1,.inl ((48,57,1),none))],[.inl ((1,1,0),none),.inr (.inl [114])],[((114,3),(1,1600,1),none),((114,6),(0,1599,1),some ((114,7),0,4294967296)),((114,7),(0,1599,1),some ((114,7),0,4294967296))]),(62460,[0,0,0]),0),
  (347,([(0,.inr (.inl [114])),(1,.inl ((48,57,1),none))],[.inl ((0,0,0),none),.inr (.inl [114])],[((114,3),(1,1600,1),none),((114,6),(0,1599,1),some ((114,7),0,4294967296)),((114,7),(0,1600,1),some ((114,7),0,4294967296))]),(62463,[0,0,0]),0),
  (358,([(0,.inr (.inl [114])),(1,.inl ((48,57,1),none))],[],[((114,3),(1,1600,1),none),((114,6),(0,1599,1),some ((114,7),0,4294967296)),((114,7),(0,1600,1),some ((114,7),0,4294967296)),((114,8),(1,4,3),none)]),(62456,[0,0,0]),0),
  (377,([(0,.inr (.inl [114])),(1,.inl ((37,62,1),none))],[],[((114,3),(1,1600,1),none),((114,6),(0,1599,1),some ((114,7),0,4294967296)),((114,7),(1,1600,1),some ((114,7),1,4294967296)),((114,8),(5,5,0),none)]),(118523,[0,0,0]),0)]
set_option maxRecDepth 100000 in
theorem q519_ok : rf_chkB q519_P q519_U wLay q519_M ddX12_goOn [(24,[0]),(37,[0]),(63,[0]),(113,[1]),(124,[2]),(127,[1,3]),(185,[0]),(222,[4]),(240,[5]),(264,[0]),(267,[6,5]),(299,[0]),(341,[0]),(344,[1,3]),(363,[7])] [.inr (114,6),.inr (114,7),.inl 2] [0,8,32,45,58,66,67,119,130,156,189,199,233,236,259,270,303,309,347,350,358,377] 600 q519_N = true := by decide +kernel
set_option maxHeartbeats 4000000 in
theorem q519_met {G : rfG} (h : okG G) (hh : wHandOK G) : rf_met G q519_M := rf_methodB h.1 (P := q519_P) (U := q519_U) (N := q519_N) ⟨wflT h flokX12, wcsT h csokX12, wlcT h lcokX12, spokX12 h, List.forall_mem_cons.mpr ⟨q511_met h hh, List.forall_mem_cons.mpr ⟨q512_met h hh, List.forall_mem_cons.mpr ⟨q513_met h hh, List.forall_mem_cons.mpr ⟨q514_met h hh, List.forall_mem_cons.mpr ⟨q515_met h hh, List.forall_mem_cons.mpr ⟨q516_met h hh, List.forall_mem_cons.mpr ⟨q517_met h hh, List.forall_mem_cons.mpr ⟨q518_met h hh, fun _ h => absurd h List.not_mem_nil⟩⟩⟩⟩⟩⟩⟩⟩, List.forall_mem_cons.mpr ⟨fun M hM => Option.some.inj (show some q512_M = some M from hM) ▸ wlkS (lkX12_198 h) q512_M rfl rfl, List.forall_mem_cons.mpr ⟨fun M hM => Option.some.inj (show some q514_M = some M from hM) ▸ wlkS (lkX12_198 h) q514_M rfl rfl, List.forall_mem_cons.mpr ⟨fun M hM => Option.some.inj (show some q515_M = some M from hM) ▸ wlkS (lkX12_206 h) q515_M rfl rfl, List.forall_mem_cons.mpr ⟨fun M hM => Option.some.inj (show some q516_M = some M from hM) ▸ wlkS (lkX12_210 h) q516_M rfl rfl, List.forall_mem_cons.mpr ⟨fun M hM => Option.some.inj (show some q517_M = some M from hM) ▸ wlkS (lkX12_210 h) q517_M rfl rfl, List.forall_mem_cons.mpr ⟨fun M hM => Option.some.inj (show some q518_M = some M from hM) ▸ wlkS (lkX12_216 h) q518_M rfl rfl, fun _ h => absurd h List.not_mem_nil⟩⟩⟩⟩⟩⟩, List.forall_mem_cons.mpr ⟨fun M hM => Option.some.inj (show some q511_M = some M from hM) ▸ wlkV (lkX12_191 h) q511_M rfl rfl, List.forall_mem_cons.mpr ⟨fun M hM => Option.some.inj (show some q513_M = some M from hM) ▸ wlkV (lkX12_191 h) q513_M rfl rfl, fun _ h => absurd h List.not_mem_nil⟩⟩, fun _ h => absurd h List.not_mem_nil, fun _ h => absurd h List.not_mem_nil⟩ dkX12_goOn (by decide +kernel) (by rw [h.2.2.1]; exact q519_ok)
/-- NearSpellModel.isGood -/
def q520_M : rfM := ((⟨"NearSpellModel", "isGood", "()Z"⟩, prog_14_method_6_code, 1, (some .boolean)), (0,0), ([.inr (.inl [114])],[((114,4),(0,0,1),none)]), [], [(some (.inl ((1,1,0),none)),[],[])])
def ddX12_isGood : List (Nat × Instr × Nat) := [(0,.aload_n 0,1),(1,.getfield 154,3),(4,.ifCond .ne 7,3),(7,.iconst 1,1),(8,.goto 4,3),(11,.iconst 0,1),(12,.ireturn,1)]
set_option maxRecDepth 100000 in
theorem dkX12_isGood : rf_decs prog_14_method_6_code ddX12_isGood := rf_decs_of (by decide +kernel)
def q520_P : rfP := (flX12,csX12,lcX12,spX12,[],[],[],([],[]))
def q520_U : rfU := []
set_option maxHeartbeats 8000000 in
def q520_N : List rfB := [(0,([(0,.inr (.inl [114]))],[],[((114,4),(0,0,1),some ((114,4),0,0))]),(5,[]),0)]
set_option maxRecDepth 100000 in
theorem q520_ok : rf_chkB q520_P q520_U wLay q520_M ddX12_isGood [] [] [0] 600 q520_N = true := by decide +kernel
set_option maxHeartbeats 4000000 in
theorem q520_met {G : rfG} (h : okG G) (hh : wHandOK G) : rf_met G q520_M := rf_methodB h.1 (P := q520_P) (U := q520_U) (N := q520_N) ⟨wflT h flokX12, wcsT h csokX12, wlcT h lcokX12, spokX12 h, fun _ h => absurd h List.not_mem_nil, fun _ h => absurd h List.not_mem_nil, fun _ h => absurd h List.not_mem_nil, fun _ h => absurd h List.not_mem_nil, fun _ h => absurd h List.not_mem_nil⟩ dkX12_isGood (by decide +kernel) (by rw [h.2.2.1]; exact q520_ok)
/-- NearSpellModel.isWord -/
def q521_M : rfM := ((⟨"NearSpellModel", "isWord", "(J)Z"⟩, prog_14_method_11_code, 3, (some .boolean)), (0,0), ([.inr (.inl [114]),.inr (.inr 0)],[((114,8),(1,5,1),none)]), [], [(some (.inl ((1,1,0),none)),[],[((114,8),(3,3,1),none)]),(some (.inl ((0,0,0),none)),[],[])])
def ddX12_isWord : List (Nat × Instr × Nat) := [(0,.aload_n 0,1),(1,.getfield 195,3),(4,.iconst 3,1),(5,.if_icmp .ne 16,3),(8,.aload_n 0,1),(9,.getfield 202,3),(12,.lload_n 1,1),(13,.lcmp,1),(14,.ifCond .ne 7,3),(17,.iconst 1,1),(18,.goto 4,3),(21,.iconst 0,1),(22,.ireturn,1)]
set_option maxRecDepth 100000 in
theorem dkX12_isWord : rf_decs prog_14_method_11_code ddX12_isWord := rf_decs_of (by decide +kernel)
def q521_P : rfP := (flX12,csX12,lcX12,spX12,[],[],[],([],[]))
def q521_U : rfU := []
set_option maxHeartbeats 8000000 in
def q521_N : List rfB := [(0,([(0,.inr (.inl [114])),(1,.inr (.inr 0))],[],[((114,8),(1,5,1),some ((114,8),0,0))]),(13,[]),0),
  (21,([(0,.inr (.inl [114])),(1,.inr (.inr 0))],[],[((114,8),(1,5,1),some ((114,8),0,0))]),(1,[]),0)]
set_option maxRecDepth 100000 in
theorem q521_ok : rf_chkB q521_P q521_U wLay q521_M ddX12_isWord [] [] [0,21] 600 q521_N = true := by decide +kernel
set_option maxHeartbeats 4000000 in
theorem q521_met {G : rfG} (h : okG G) (hh : wHandOK G) : rf_met G q521_M := rf_methodB h.1 (P := q521_P) (U := q521_U) (N := q521_N) ⟨wflT h flokX12, wcsT h csokX12, wlcT h lcokX12, spokX12 h, fun _ h => absurd h List.not_mem_nil, fun _ h => absurd h List.not_mem_nil, fun _ h => absurd h List.not_mem_nil, fun _ h => absurd h List.not_mem_nil, fun _ h => absurd h List.not_mem_nil⟩ dkX12_isWord (by decide +kernel) (by rw [h.2.2.1]; exact q521_ok)
/-- NearSpellModel.bit -/
def q522_M : rfM := ((⟨"NearSpellModel", "bit", "(II)Z"⟩, prog_14_method_36_code, 2, (some .boolean)), (0,0), ([.inl (((-2147483648),2147483647,1),none),.inl (((-2147483648),2147483647,1),none)],[]), [], [(some (.inl ((1,1,0),none)),[],[]),(some (.inl ((0,0,0),none)),[],[])])
def ddX12_bit : List (Nat × Instr × Nat) := [(0,.iload_n 0,1),(1,.iload_n 1,1),(2,.ishr,1),(3,.iconst 1,1),(4,.iand,1),(5,.iconst 1,1),(6,.if_icmp .ne 7,3),(9,.iconst 1,1),(10,.goto 4,3),(13,.iconst 0,1),(14,.ireturn,1)]
set_option maxRecDepth 100000 in
theorem dkX12_bit : rf_decs prog_14_method_36_code ddX12_bit := rf_decs_of (by decide +kernel)
def q522_P : rfP := (flX12,csX12,lcX12,spX12,[],[],[],([],[]))
def q522_U : rfU := []
set_option maxHeartbeats 8000000 in
def q522_N : List rfB := [(0,([(0,.inl (((-2147483648),2147483647,1),none)),(1,.inl (((-2147483648),2147483647,1),none))],[],[]),(11,[]),0)]
set_option maxRecDepth 100000 in
theorem q522_ok : rf_chkB q522_P q522_U wLay q522_M ddX12_bit [] [] [0] 600 q522_N = true := by decide +kernel
set_option maxHeartbeats 4000000 in
theorem q522_met {G : rfG} (h : okG G) (hh : wHandOK G) : rf_met G q522_M := rf_methodB h.1 (P := q522_P) (U := q522_U) (N := q522_N) ⟨wflT h flokX12, wcsT h csokX12, wlcT h lcokX12, spokX12 h, fun _ h => absurd h List.not_mem_nil, fun _ h => absurd h List.not_mem_nil, fun _ h => absurd h List.not_mem_nil, fun _ h => absurd h List.not_mem_nil, fun _ h => absurd h List.not_mem_nil⟩ dkX12_bit (by decide +kernel) (by rw [h.2.2.1]; exact q522_ok)
/-- NearSpellModel.isFull -/
def q523_M : rfM := ((⟨"NearSpellModel", "isFull", "()Z"⟩, prog_14_method_17_code, 1, (some .boolean)), (1,22), ([.inr (.inl [114])],[((114,8),(1,5,1),none)]), [], [(some (.inl ((1,1,0),none)),[],[]),(some (.inl ((0,0,0),none)),[],[((114,8),(3,3,1),none)])])
def ddX12_isFull : List (Nat × Instr × Nat) := [(0,.aload_n 0,1),(1,.ldc2_w 157,3),(4,.invokevirtual 248,3),(7,.ifCond .eq 23,3),(10,.aload_n 0,1),(11,.getfield 20,3),(14,.aload_n 0,1),(15,.getfield 233,3),(18,.iaload,1),(19,.bipush 10,2),(21,.if_icmp .ne 7,3),(24,.iconst 1,1),(25,.goto 4,3),(28,.iconst 0,1),(29,.ireturn,1),(30,.aload_n 0,1),(31,.ldc2_w 159,3),(34,.invokevirtual 248,3),(37,.ifCond .eq 17,3),(40,.aload_n 0,1),(41,.getfield 42,3),(44,.aload_n 0,1),(45,.getfield 233,3),(48,.iaload,1),(49,.iconst 1,1),(50,.invokestatic 251,3),(53,.ireturn,1),(54,.aload_n 0,1),(55,.ldc2_w 161,3),(58,.invokevirtual 248,3),(61,.ifCond .eq 17,3),(64,.aload_n 0,1),(65,.getfield 42,3),(68,.aload_n 0,1),(69,.getfield 233,3),(72,.iaload,1),(73,.iconst 2,1),(74,.invokestatic 251,3),(77,.ireturn,1),(78,.aload_n 0,1),(79,.ldc2_w 163,3),(82,.invokevirtual 248,3),(85,.ifCond .eq 17,3),(88,.aload_n 0,1),(89,.getfield 42,3),(92,.aload_n 0,1),(93,.getfield 233,3),(96,.iaload,1),(97,.iconst 0,1),(98,.invokestatic 251,3),(101,.ireturn,1),(102,.aload_n 0,1),(103,.ldc2_w 165,3),(106,.invokevirtual 248,3),(109,.ifCond .eq 17,3),(112,.aload_n 0,1),(113,.getfield 42,3),(116,.aload_n 0,1),(117,.getfield 233,3),(120,.iaload,1),(121,.iconst 3,1),(122,.invokestatic 251,3),(125,.ireturn,1),(126,.aload_n 0,1),(127,.ldc2_w 167,3),(130,.invokevirtual 248,3),(133,.ifCond .eq 17,3),(136,.aload_n 0,1),(137,.getfield 42,3),(140,.aload_n 0,1),(141,.getfield 233,3),(144,.iaload,1),(145,.iconst 4,1),(146,.invokestatic 251,3),(149,.ireturn,1),(150,.aload_n 0,1),(151,.ldc2_w 169,3),(154,.invokevirtual 248,3),(157,.ifCond .eq 19,3),(160,.aload_n 0,1),(161,.getfield 42,3),(164,.aload_n 0,1),(165,.getfield 233,3),(168,.iaload,1),(169,.iconst 5,1),(170,.invokestatic 251,3),(173,.ifCond .eq 7,3),(176,.iconst 1,1),(177,.goto 4,3),(180,.iconst 0,1),(181,.ireturn,1)]
set_option maxRecDepth 100000 in
theorem dkX12_isFull : rf_decs prog_14_method_17_code ddX12_isFull := rf_decs_of (by decide +kernel)
def q523_P : rfP := (flX12,csX12,lcX12,spX12,[q521_M,q522_M],[(251,1)],[(248,0,12)],([],[]))
def q523_U : rfU := []
set_option maxHeartbeats 8000000 in
def q523_N : List rfB := [(0,([(0,.inr (.inl [114]))],[],[((114,8),(1,5,1),some ((114,8),0,0))]),(105,[]),0),
  (176,([(0,.inr (.inl [114]))],[],[((114,8),(1,5,1),some ((114,8),0,0))]),(65,[]),0)]
set_option maxRecDepth 100000 in
theorem q523_ok : rf_chkB q523_P q523_U wLay q523_M ddX12_isFull [(4,[0]),(34,[0]),(50,[1]),(58,[0]),(74,[1]),(82,[0]),(98,[1]),(106,[0]),(122,[1]),(130,[0]),(146,[1]),(154,[0]),(170,[1])] [] [0,176] 600 q523_N = true := by decide +kernel
set_option maxHeartbeats 4000000 in
theorem q523_met {G : rfG} (h : okG G) (hh : wHandOK G) : rf_met G q523_M := rf_methodB h.1 (P := q523_P) (U := q523_U) (N := q523_N) ⟨wflT h flokX12, wcsT h csokX12, wlcT h lcokX12, spokX12 h, List.forall_mem_cons.mpr ⟨q521_met h hh, List.forall_mem_cons.mpr ⟨q522_met h hh, fun _ h => absurd h List.not_mem_nil⟩⟩, List.forall_mem_cons.mpr ⟨fun M hM => Option.some.inj (show some q522_M = some M from hM) ▸ wlkS (lkX12_251 h) q522_M rfl rfl, fun _ h => absurd h List.not_mem_nil⟩, List.forall_mem_cons.mpr ⟨fun M hM => Option.some.inj (show some q521_M = some M from hM) ▸ wlkV (lkX12_248 h) q521_M rfl rfl, fun _ h => absurd h List.not_mem_nil⟩, fun _ h => absurd h List.not_mem_nil, fun _ h => absurd h List.not_mem_nil⟩ dkX12_isFull (by decide +kernel) (by rw [h.2.2.1]; exact q523_ok)
/-- NearSpellModel.fails -/
def q524_M : rfM := ((⟨"NearSpellModel", "fails", "(II)V"⟩, prog_14_method_5_code, 3, none), (0,0), ([.inr (.inl [114]),.inl ((1,1,0),none),.inl ((0,1600,1),none)],[((114,4),(0,0,1),none)]), [(114,5),(114,6)], [(none,[],[((114,4),(1,1,0),none),((114,5),(0,1600,1),none)])])
def ddX12_fails : List (Nat × Instr × Nat) := [(0,.aload_n 0,1),(1,.getfield 154,3),(4,.ifCond .le 4,3),(7,.return_,1),(8,.aload_n 0,1),(9,.iload_n 1,1),(10,.putfield 154,3),(13,.aload_n 0,1),(14,.iload_n 2,1),(15,.putfield 16,3),(18,.return_,1)]
set_option maxRecDepth 100000 in
theorem dkX12_fails : rf_decs prog_14_method_5_code ddX12_fails := rf_decs_of (by decide +kernel)
def q524_P : rfP := (flX12,csX12,lcX12,spX12,[],[],[],([],[]))
def q524_U : rfU := []
set_option maxHeartbeats 8000000 in
def q524_N : List rfB := [(0,([(0,.inr (.inl [114])),(1,.inl ((1,1,0),none)),(2,.inl ((0,1600,1),none))],[],[((114,4),(0,0,1),some ((114,4),0,0))]),(9,[]),0)]
set_option maxRecDepth 100000 in
theorem q524_ok : rf_chkB q524_P q524_U wLay q524_M ddX12_fails [] [] [0] 600 q524_N = true := by decide +kernel
set_option maxHeartbeats 4000000 in
theorem q524_met {G : rfG} (h : okG G) (hh : wHandOK G) : rf_met G q524_M := rf_methodB h.1 (P := q524_P) (U := q524_U) (N := q524_N) ⟨wflT h flokX12, wcsT h csokX12, wlcT h lcokX12, spokX12 h, fun _ h => absurd h List.not_mem_nil, fun _ h => absurd h List.not_mem_nil, fun _ h => absurd h List.not_mem_nil, fun _ h => absurd h List.not_mem_nil, fun _ h => absurd h List.not_mem_nil⟩ dkX12_fails (by decide +kernel) (by rw [h.2.2.1]; exact q524_ok)
/-- NearSpellModel.fails -/
def q525_M : rfM := ((⟨"NearSpellModel", "fails", "(II)V"⟩, prog_14_method_5_code, 3, none), (0,0), ([.inr (.inl [114]),.inl ((2,2,0),none),.inl ((0,1600,1),none)],[((114,4),(0,0,1),none)]), [(114,5),(114,6)], [(none,[],[((114,4),(2,2,0),none),((114,5),(0,1600,1),none)])])
def q525_P : rfP := (flX12,csX12,lcX12,spX12,[],[],[],([],[]))
def q525_U : rfU := []
set_option maxHeartbeats 8000000 in
def q525_N : List rfB := [(0,([(0,.inr (.inl [114])),(1,.inl ((2,2,0),none)),(2,.inl ((0,1600,1),none))],[],[((114,4),(0,0,1),some ((114,4),0,0))]),(9,[]),0)]
set_option maxRecDepth 100000 in
theorem q525_ok : rf_chkB q525_P q525_U wLay q525_M ddX12_fails [] [] [0] 600 q525_N = true := by decide +kernel
set_option maxHeartbeats 4000000 in
theorem q525_met {G : rfG} (h : okG G) (hh : wHandOK G) : rf_met G q525_M := rf_methodB h.1 (P := q525_P) (U := q525_U) (N := q525_N) ⟨wflT h flokX12, wcsT h csokX12, wlcT h lcokX12, spokX12 h, fun _ h => absurd h List.not_mem_nil, fun _ h => absurd h List.not_mem_nil, fun _ h => absurd h List.not_mem_nil, fun _ h => absurd h List.not_mem_nil, fun _ h => absurd h List.not_mem_nil⟩ dkX12_fails (by decide +kernel) (by rw [h.2.2.1]; exact q525_ok)
/-- NearSpellModel.misplaced -/
def q526_M : rfM := ((⟨"NearSpellModel", "misplaced", "()V"⟩, prog_14_method_12_code, 1, none), (1,22), ([.inr (.inl [114])],[((114,4),(0,0,1),none),((114,8),(1,5,1),none)]), [(114,5),(114,6)], [(none,[],[((114,4),(1,2,1),none),((114,5),(0,1600,1),none)])])
def ddX12_misplaced : List (Nat × Instr × Nat) := [(0,.aload_n 0,1),(1,.aload_n 0,1),(2,.getfield 195,3),(5,.iconst 1,1),(6,.if_icmp .ne 7,3),(9,.iconst 1,1),(10,.goto 4,3),(13,.iconst 2,1),(14,.aload_n 0,1),(15,.getfield 188,3),(18,.invokevirtual 219,3),(21,.return_,1)]
set_option maxRecDepth 100000 in
theorem dkX12_misplaced : rf_decs prog_14_method_12_code ddX12_misplaced := rf_decs_of (by decide +kernel)
def q526_P : rfP := (flX12,csX12,lcX12,spX12,[q524_M,q525_M],[],[(219,0,12),(219,1,12)],([],[]))
def q526_U : rfU := []
set_option maxHeartbeats 8000000 in
def q526_N : List rfB := [(0,([(0,.inr (.inl [114]))],[],[((114,4),(0,0,1),some ((114,4),0,0)),((114,8),(1,5,1),some ((114,8),0,0))]),(14,[]),0),
  (21,([(0,.inr (.inl [114]))],[],[((114,4),(1,2,1),none),((114,5),(0,1600,1),none),((114,8),(1,5,1),some ((114,8),0,0))]),(0,[]),0)]
set_option maxRecDepth 100000 in
theorem q526_ok : rf_chkB q526_P q526_U wLay q526_M ddX12_misplaced [(18,[0,1])] [] [0,21] 600 q526_N = true := by decide +kernel
set_option maxHeartbeats 4000000 in
theorem q526_met {G : rfG} (h : okG G) (hh : wHandOK G) : rf_met G q526_M := rf_methodB h.1 (P := q526_P) (U := q526_U) (N := q526_N) ⟨wflT h flokX12, wcsT h csokX12, wlcT h lcokX12, spokX12 h, List.forall_mem_cons.mpr ⟨q524_met h hh, List.forall_mem_cons.mpr ⟨q525_met h hh, fun _ h => absurd h List.not_mem_nil⟩⟩, fun _ h => absurd h List.not_mem_nil, List.forall_mem_cons.mpr ⟨fun M hM => Option.some.inj (show some q524_M = some M from hM) ▸ wlkV (lkX12_219 h) q524_M rfl rfl, List.forall_mem_cons.mpr ⟨fun M hM => Option.some.inj (show some q525_M = some M from hM) ▸ wlkV (lkX12_219 h) q525_M rfl rfl, fun _ h => absurd h List.not_mem_nil⟩⟩, fun _ h => absurd h List.not_mem_nil, fun _ h => absurd h List.not_mem_nil⟩ dkX12_misplaced (by decide +kernel) (by rw [h.2.2.1]; exact q526_ok)
/-- NearSpellModel.isGood -/
def q527_M : rfM := ((⟨"NearSpellModel", "isGood", "()Z"⟩, prog_14_method_6_code, 1, (some .boolean)), (0,0), ([.inr (.inl [114])],[((114,4),(1,4,1),none)]), [], [(some (.inl ((0,0,0),none)),[],[])])
def q527_P : rfP := (flX12,csX12,lcX12,spX12,[],[],[],([],[]))
def q527_U : rfU := []
set_option maxHeartbeats 8000000 in
def q527_N : List rfB := [(0,([(0,.inr (.inl [114]))],[],[((114,4),(1,4,1),some ((114,4),0,0))]),(4,[]),0)]
set_option maxRecDepth 100000 in
theorem q527_ok : rf_chkB q527_P q527_U wLay q527_M ddX12_isGood [] [] [0] 600 q527_N = true := by decide +kernel
set_option maxHeartbeats 4000000 in
theorem q527_met {G : rfG} (h : okG G) (hh : wHandOK G) : rf_met G q527_M := rf_methodB h.1 (P := q527_P) (U := q527_U) (N := q527_N) ⟨wflT h flokX12, wcsT h csokX12, wlcT h lcokX12, spokX12 h, fun _ h => absurd h List.not_mem_nil, fun _ h => absurd h List.not_mem_nil, fun _ h => absurd h List.not_mem_nil, fun _ h => absurd h List.not_mem_nil, fun _ h => absurd h List.not_mem_nil⟩ dkX12_isGood (by decide +kernel) (by rw [h.2.2.1]; exact q527_ok)
/-- NearSpellModel.fails -/
def q530_M : rfM := ((⟨"NearSpellModel", "fails", "(II)V"⟩, prog_14_method_5_code, 3, none), (0,0), ([.inr (.inl [114]),.inl ((4,4,0),none),.inl ((0,1600,1),none)],[((114,4),(0,0,1),none)]), [(114,5),(114,6)], [(none,[],[((114,4),(4,4,0),none),((114,5),(0,1600,1),none)])])
def q530_P : rfP := (flX12,csX12,lcX12,spX12,[],[],[],([],[]))
def q530_U : rfU := []
set_option maxHeartbeats 8000000 in
def q530_N : List rfB := [(0,([(0,.inr (.inl [114])),(1,.inl ((4,4,0),none)),(2,.inl ((0,1600,1),none))],[],[((114,4),(0,0,1),some ((114,4),0,0))]),(9,[]),0)]
set_option maxRecDepth 100000 in
theorem q530_ok : rf_chkB q530_P q530_U wLay q530_M ddX12_fails [] [] [0] 600 q530_N = true := by decide +kernel
set_option maxHeartbeats 4000000 in
theorem q530_met {G : rfG} (h : okG G) (hh : wHandOK G) : rf_met G q530_M := rf_methodB h.1 (P := q530_P) (U := q530_U) (N := q530_N) ⟨wflT h flokX12, wcsT h csokX12, wlcT h lcokX12, spokX12 h, fun _ h => absurd h List.not_mem_nil, fun _ h => absurd h List.not_mem_nil, fun _ h => absurd h List.not_mem_nil, fun _ h => absurd h List.not_mem_nil, fun _ h => absurd h List.not_mem_nil⟩ dkX12_fails (by decide +kernel) (by rw [h.2.2.1]; exact q530_ok)
/-- NearSpellModel.numeral -/
def q531_M : rfM := ((⟨"NearSpellModel", "numeral", "(II)I"⟩, prog_14_method_14_code, 4, (some .int)), (2,44), ([.inr (.inl [114]),.inl ((1,1,0),none),.inl ((6,6,0),none)],[((114,4),(0,0,1),none),((114,7),(0,1600,1),none),((114,8),(1,5,1),none)]), [(114,5),(114,6),(114,7),(114,8),(114,9),(114,10),(114,11)], [(some (.inl ((1,6,1),none)),[],[((114,3),(1,1600,1),none),((114,4),(0,0,1),some ((114,4),0,0)),((114,6),(0,1599,1),some ((114,7),0,4294967296)),((114,7),(1,1600,1),some ((114,7),1,4294967296)),((114,8),(5,5,0),none)]),(some (.inl ((1,6,1),none)),[],[((114,4),(0,0,1),some ((114,4),0,0)),((114,7),(0,1600,1),none),((114,8),(0,0,0),none)]),(some (.inl ((1,6,1),none)),[],[((114,3),(1,1600,1),none),((114,4),(0,0,1),some ((114,4),0,0)),((114,6),(0,1599,1),some ((114,7),0,4294967296)),((114,7),(0,1600,1),some ((114,7),0,4294967296)),((114,8),(1,4,1),none)]),(some (.inl ((1,1,0),none)),[],[((114,4),(1,2,1),none),((114,5),(0,1600,1),none),((114,7),(0,1600,1),some ((114,7),0,0)),((114,8),(1,5,1),some ((114,8),0,0))]),(some (.inl ((1,1,0),none)),[],[((114,4),(4,4,0),none),((114,5),(0,1600,1),none),((114,7),(0,1600,1),some ((114,7),0,0)),((114,8),(4,4,1),some ((114,8),0,0))])])
def ddX12_numeral : List (Nat × Instr × Nat) := [(0,.aload_n 0,1),(1,.invokevirtual 223,3),(4,.ifCond .ne 5,3),(7,.iload_n 1,1),(8,.ireturn,1),(9,.aload_n 0,1),(10,.getfield 195,3),(13,.iconst 4,1),(14,.if_icmp .eq 7,3),(17,.aload_n 0,1),(18,.invokevirtual 230,3),(21,.aload_n 0,1),(22,.invokevirtual 223,3),(25,.ifCond .eq 28,3),(28,.aload_n 0,1),(29,.getfield 213,3),(32,.iload_n 1,1),(33,.if_icmp .lt 11,3),(36,.aload_n 0,1),(37,.getfield 213,3),(40,.iload_n 2,1),(41,.if_icmp .le 12,3),(44,.aload_n 0,1),(45,.iconst 4,1),(46,.aload_n 0,1),(47,.getfield 188,3),(50,.invokevirtual 219,3),(53,.aload_n 0,1),(54,.getfield 213,3),(57,.istore_n 3,1),(58,.aload_n 0,1),(59,.invokevirtual 223,3),(62,.ifCond .eq 7,3),(65,.aload_n 0,1),(66,.invokevirtual 227,3),(69,.aload_n 0,1),(70,.invokevirtual 223,3),(73,.ifCond .eq 7,3),(76,.iload_n 3,1),(77,.goto 4,3),(80,.iload_n 1,1),(81,.ireturn,1)]
set_option maxRecDepth 100000 in
theorem dkX12_numeral : rf_decs prog_14_method_14_code ddX12_numeral := rf_decs_of (by decide +kernel)
def q531_P : rfP := (flX12,csX12,lcX12,spX12,[q520_M,q526_M,q527_M,q530_M,q519_M],[],[(219,3,12),(223,0,12),(223,2,12),(227,4,12),(230,1,12)],([],[]))
def q531_U : rfU := []
set_option maxHeartbeats 8000000 in
def q531_N : List rfB := [(0,([(0,.inr (.inl [114])),(1,.inl ((1,1,0),none)),(2,.inl ((6,6,0),none))],[],[((114,4),(0,0,1),some ((114,4),0,0)),((114,7),(0,1600,1),some ((114,7),0,0)),((114,8),(1,5,1),some ((114,8),0,0))]),(75,[]),0),
  (44,([(0,.inr (.inl [114])),(1,.inl ((1,1,0),none)),(2,.inl ((6,6,0),none))],[],[((114,4),(0,0,1),some ((114,4),0,0)),((114,7),(0,1600,1),some ((114,7),0,0)),((114,8),(4,4,1),some ((114,8),0,0))]),(15,[]),0)]
set_option maxRecDepth 100000 in
theorem q531_ok : rf_chkB q531_P q531_U wLay q531_M ddX12_numeral [(1,[0]),(18,[1]),(22,[0,2]),(50,[3]),(59,[2,0]),(66,[4]),(70,[2,0])] [] [0,44] 600 q531_N = true := by decide +kernel
set_option maxHeartbeats 4000000 in
theorem q531_met {G : rfG} (h : okG G) (hh : wHandOK G) : rf_met G q531_M := rf_methodB h.1 (P := q531_P) (U := q531_U) (N := q531_N) ⟨wflT h flokX12, wcsT h csokX12, wlcT h lcokX12, spokX12 h, List.forall_mem_cons.mpr ⟨q520_met h hh, List.forall_mem_cons.mpr ⟨q526_met h hh, List.forall_mem_cons.mpr ⟨q527_met h hh, List.forall_mem_cons.mpr ⟨q530_met h hh, List.forall_mem_cons.mpr ⟨q519_met h hh, fun _ h => absurd h List.not_mem_nil⟩⟩⟩⟩⟩, fun _ h => absurd h List.not_mem_nil, List.forall_mem_cons.mpr ⟨fun M hM => Option.some.inj (show some q530_M = some M from hM) ▸ wlkV (lkX12_219 h) q530_M rfl rfl, List.forall_mem_cons.mpr ⟨fun M hM => Option.some.inj (show some q520_M = some M from hM) ▸ wlkV (lkX12_223 h) q520_M rfl rfl, List.forall_mem_cons.mpr ⟨fun M hM => Option.some.inj (show some q527_M = some M from hM) ▸ wlkV (lkX12_223 h) q527_M rfl rfl, List.forall_mem_cons.mpr ⟨fun M hM => Option.some.inj (show some q519_M = some M from hM) ▸ wlkV (lkX12_227 h) q519_M rfl rfl, List.forall_mem_cons.mpr ⟨fun M hM => Option.some.inj (show some q526_M = some M from hM) ▸ wlkV (lkX12_230 h) q526_M rfl rfl, fun _ h => absurd h List.not_mem_nil⟩⟩⟩⟩⟩, fun _ h => absurd h List.not_mem_nil, fun _ h => absurd h List.not_mem_nil⟩ dkX12_numeral (by decide +kernel) (by rw [h.2.2.1]; exact q531_ok)
/-- NearSpellModel.once -/
def q532_M : rfM := ((⟨"NearSpellModel", "once", "(III)I"⟩, prog_14_method_18_code, 4, (some .int)), (3,67), ([.inr (.inl [114]),.inl ((1,1,0),none),.inl ((1,1,0),none),.inl ((6,6,0),none)],[((114,4),(0,0,1),none),((114,7),(0,1600,1),none),((114,8),(1,5,1),none)]), [(80,0),(114,5),(114,6),(114,7),(114,8),(114,9),(114,10),(114,11)], [(some (.inl ((1,6,1),none)),[],[((114,3),(1,1600,1),none),((114,4),(0,0,1),some ((114,4),0,0)),((114,6),(0,1599,1),some ((114,7),0,4294967296)),((114,7),(0,1600,1),some ((114,7),0,4294967296)),((114,8),(1,4,1),none)]),(some (.inl ((1,1,0),none)),[],[((114,4),(4,4,0),none),((114,5),(0,1600,1),none),((114,7),(0,1600,1),some ((114,7),0,0)),((114,8),(4,4,1),some ((114,8),0,0))]),(some (.inl ((1,1,0),none)),[],[((114,4),(1,2,1),none),((114,5),(0,1600,1),none),((114,7),(0,1600,1),some ((114,7),0,0)),((114,8),(1,5,1),some ((114,8),0,0))]),(some (.inl ((1,6,1),none)),[],[((114,3),(1,1600,1),none),((114,4),(0,0,1),some ((114,4),0,0)),((114,6),(0,1599,1),some ((114,7),0,4294967296)),((114,7),(1,1600,1),some ((114,7),1,4294967296)),((114,8),(5,5,0),none)]),(some (.inl ((1,6,1),none)),[],[((114,4),(0,0,1),some ((114,4),0,0)),((114,7),(0,1600,1),none),((114,8),(0,0,0),none)])])
def ddX12_once : List (Nat × Instr × Nat) := [(0,.aload_n 0,1),(1,.getfield 42,3),(4,.aload_n 0,1),(5,.getfield 233,3),(8,.dup2,1),(9,.iaload,1),(10,.iconst 1,1),(11,.iload_n 1,1),(12,.ishl,1),(13,.ior,1),(14,.iastore,1),(15,.aload_n 0,1),(16,.iload_n 2,1),(17,.iload_n 3,1),(18,.invokevirtual 255,3),(21,.ireturn,1)]
set_option maxRecDepth 100000 in
theorem dkX12_once : rf_decs prog_14_method_18_code ddX12_once := rf_decs_of (by decide +kernel)
def q532_P : rfP := (flX12,csX12,lcX12,spX12,[q531_M],[],[(255,0,12)],([],[]))
def q532_U : rfU := []
set_option maxHeartbeats 8000000 in
def q532_N : List rfB := [(0,([(0,.inr (.inl [114])),(1,.inl ((1,1,0),none)),(2,.inl ((1,1,0),none)),(3,.inl ((6,6,0),none))],[],[((114,4),(0,0,1),some ((114,4),0,0)),((114,7),(0,1600,1),some ((114,7),0,0)),((114,8),(1,5,1),some ((114,8),0,0))]),(19,[]),0)]
set_option maxRecDepth 100000 in
theorem q532_ok : rf_chkB q532_P q532_U wLay q532_M ddX12_once [(18,[0])] [] [0] 600 q532_N = true := by decide +kernel
set_option maxHeartbeats 4000000 in
theorem q532_met {G : rfG} (h : okG G) (hh : wHandOK G) : rf_met G q532_M := rf_methodB h.1 (P := q532_P) (U := q532_U) (N := q532_N) ⟨wflT h flokX12, wcsT h csokX12, wlcT h lcokX12, spokX12 h, List.forall_mem_cons.mpr ⟨q531_met h hh, fun _ h => absurd h List.not_mem_nil⟩, fun _ h => absurd h List.not_mem_nil, List.forall_mem_cons.mpr ⟨fun M hM => Option.some.inj (show some q531_M = some M from hM) ▸ wlkV (lkX12_255 h) q531_M rfl rfl, fun _ h => absurd h List.not_mem_nil⟩, fun _ h => absurd h List.not_mem_nil, fun _ h => absurd h List.not_mem_nil⟩ dkX12_once (by decide +kernel) (by rw [h.2.2.1]; exact q532_ok)
/-- NearSpellModel.misplaced -/
def q533_M : rfM := ((⟨"NearSpellModel", "misplaced", "()V"⟩, prog_14_method_12_code, 1, none), (1,22), ([.inr (.inl [114])],[((114,4),(0,0,1),none),((114,8),(0,0,1),none)]), [(114,5),(114,6)], [(none,[],[((114,4),(2,2,0),none),((114,5),(0,1600,1),none)])])
def q533_P : rfP := (flX12,csX12,lcX12,spX12,[q525_M],[],[(219,0,12)],([],[]))
def q533_U : rfU := []
set_option maxHeartbeats 8000000 in
def q533_N : List rfB := [(0,([(0,.inr (.inl [114]))],[],[((114,4),(0,0,1),some ((114,4),0,0)),((114,8),(0,0,1),some ((114,8),0,0))]),(9,[]),0)]
set_option maxRecDepth 100000 in
theorem q533_ok : rf_chkB q533_P q533_U wLay q533_M ddX12_misplaced [(18,[0])] [] [0] 600 q533_N = true := by decide +kernel
set_option maxHeartbeats 4000000 in
theorem q533_met {G : rfG} (h : okG G) (hh : wHandOK G) : rf_met G q533_M := rf_methodB h.1 (P := q533_P) (U := q533_U) (N := q533_N) ⟨wflT h flokX12, wcsT h csokX12, wlcT h lcokX12, spokX12 h, List.forall_mem_cons.mpr ⟨q525_met h hh, fun _ h => absurd h List.not_mem_nil⟩, fun _ h => absurd h List.not_mem_nil, List.forall_mem_cons.mpr ⟨fun M hM => Option.some.inj (show some q525_M = some M from hM) ▸ wlkV (lkX12_219 h) q525_M rfl rfl, fun _ h => absurd h List.not_mem_nil⟩, fun _ h => absurd h List.not_mem_nil, fun _ h => absurd h List.not_mem_nil⟩ dkX12_misplaced (by decide +kernel) (by rw [h.2.2.1]; exact q533_ok)
/-- NearSpellModel.numeral -/
def q534_M : rfM := ((⟨"NearSpellModel", "numeral", "(II)I"⟩, prog_14_method_14_code, 4, (some .int)), (2,42), ([.inr (.inl [114]),.inl ((1,1,0),none),.inl ((6,6,0),none)],[((114,4),(0,0,1),none),((114,7),(0,1600,1),none),((114,8),(0,0,1),none)]), [(114,5),(114,6)], [(some (.inl ((1,1,0),none)),[],[((114,4),(2,2,0),none),((114,5),(0,1600,1),none)])])
def q534_P : rfP := (flX12,csX12,lcX12,spX12,[q520_M,q533_M,q527_M],[],[(223,0,12),(223,2,12),(230,1,12)],([],[]))
def q534_U : rfU := []
set_option maxHeartbeats 8000000 in
def q534_N : List rfB := [(0,([(0,.inr (.inl [114])),(1,.inl ((1,1,0),none)),(2,.inl ((6,6,0),none))],[],[((114,4),(0,0,1),some ((114,4),0,0)),((114,7),(0,1600,1),some ((114,7),0,0)),((114,8),(0,0,1),some ((114,8),0,0))]),(22,[]),0)]
set_option maxRecDepth 100000 in
theorem q534_ok : rf_chkB q534_P q534_U wLay q534_M ddX12_numeral [(1,[0]),(18,[1]),(22,[2]),(59,[2]),(70,[2])] [] [0] 600 q534_N = true := by decide +kernel
set_option maxHeartbeats 4000000 in
theorem q534_met {G : rfG} (h : okG G) (hh : wHandOK G) : rf_met G q534_M := rf_methodB h.1 (P := q534_P) (U := q534_U) (N := q534_N) ⟨wflT h flokX12, wcsT h csokX12, wlcT h lcokX12, spokX12 h, List.forall_mem_cons.mpr ⟨q520_met h hh, List.forall_mem_cons.mpr ⟨q533_met h hh, List.forall_mem_cons.mpr ⟨q527_met h hh, fun _ h => absurd h List.not_mem_nil⟩⟩⟩, fun _ h => absurd h List.not_mem_nil, List.forall_mem_cons.mpr ⟨fun M hM => Option.some.inj (show some q520_M = some M from hM) ▸ wlkV (lkX12_223 h) q520_M rfl rfl, List.forall_mem_cons.mpr ⟨fun M hM => Option.some.inj (show some q527_M = some M from hM) ▸ wlkV (lkX12_223 h) q527_M rfl rfl, List.forall_mem_cons.mpr ⟨fun M hM => Option.some.inj (show some q533_M = some M from hM) ▸ wlkV (lkX12_230 h) q533_M rfl rfl, fun _ h => absurd h List.not_mem_nil⟩⟩⟩, fun _ h => absurd h List.not_mem_nil, fun _ h => absurd h List.not_mem_nil⟩ dkX12_numeral (by decide +kernel) (by rw [h.2.2.1]; exact q534_ok)
/-- NearSpellModel.once -/
def q535_M : rfM := ((⟨"NearSpellModel", "once", "(III)I"⟩, prog_14_method_18_code, 4, (some .int)), (3,65), ([.inr (.inl [114]),.inl ((1,1,0),none),.inl ((1,1,0),none),.inl ((6,6,0),none)],[((114,4),(0,0,1),none),((114,7),(0,1600,1),none),((114,8),(0,0,1),none)]), [(80,0),(114,5),(114,6)], [(some (.inl ((1,1,0),none)),[],[((114,4),(2,2,0),none),((114,5),(0,1600,1),none)])])
def q535_P : rfP := (flX12,csX12,lcX12,spX12,[q534_M],[],[(255,0,12)],([],[]))
def q535_U : rfU := []
set_option maxHeartbeats 8000000 in
def q535_N : List rfB := [(0,([(0,.inr (.inl [114])),(1,.inl ((1,1,0),none)),(2,.inl ((1,1,0),none)),(3,.inl ((6,6,0),none))],[],[((114,4),(0,0,1),some ((114,4),0,0)),((114,7),(0,1600,1),some ((114,7),0,0)),((114,8),(0,0,1),some ((114,8),0,0))]),(15,[]),0)]
set_option maxRecDepth 100000 in
theorem q535_ok : rf_chkB q535_P q535_U wLay q535_M ddX12_once [(18,[0])] [] [0] 600 q535_N = true := by decide +kernel
set_option maxHeartbeats 4000000 in
theorem q535_met {G : rfG} (h : okG G) (hh : wHandOK G) : rf_met G q535_M := rf_methodB h.1 (P := q535_P) (U := q535_U) (N := q535_N) ⟨wflT h flokX12, wcsT h csokX12, wlcT h lcokX12, spokX12 h, List.forall_mem_cons.mpr ⟨q534_met h hh, fun _ h => absurd h List.not_mem_nil⟩, fun _ h => absurd h List.not_mem_nil, List.forall_mem_cons.mpr ⟨fun M hM => Option.some.inj (show some q534_M = some M from hM) ▸ wlkV (lkX12_255 h) q534_M rfl rfl, fun _ h => absurd h List.not_mem_nil⟩, fun _ h => absurd h List.not_mem_nil, fun _ h => absurd h List.not_mem_nil⟩ dkX12_once (by decide +kernel) (by rw [h.2.2.1]; exact q535_ok)
/-- NearSpellModel.numeral -/
def q536_M : rfM := ((⟨"NearSpellModel", "numeral", "(II)I"⟩, prog_14_method_14_code, 4, (some .int)), (1,20), ([.inr (.inl [114]),.inl ((1,1,0),none),.inl ((6,6,0),none)],[((114,4),(1,4,1),none),((114,7),(0,1600,1),none)]), [], [(some (.inl ((1,1,0),none)),[],[])])
def q536_P : rfP := (flX12,csX12,lcX12,spX12,[q527_M],[],[(223,0,12)],([],[]))
def q536_U : rfU := []
set_option maxHeartbeats 8000000 in
def q536_N : List rfB := [(0,([(0,.inr (.inl [114])),(1,.inl ((1,1,0),none)),(2,.inl ((6,6,0),none))],[],[((114,4),(1,4,1),some ((114,4),0,0)),((114,7),(0,1600,1),some ((114,7),0,0))]),(4,[]),0)]
set_option maxRecDepth 100000 in
theorem q536_ok : rf_chkB q536_P q536_U wLay q536_M ddX12_numeral [(1,[0])] [] [0] 600 q536_N = true := by decide +kernel
set_option maxHeartbeats 4000000 in
theorem q536_met {G : rfG} (h : okG G) (hh : wHandOK G) : rf_met G q536_M := rf_methodB h.1 (P := q536_P) (U := q536_U) (N := q536_N) ⟨wflT h flokX12, wcsT h csokX12, wlcT h lcokX12, spokX12 h, List.forall_mem_cons.mpr ⟨q527_met h hh, fun _ h => absurd h List.not_mem_nil⟩, fun _ h => absurd h List.not_mem_nil, List.forall_mem_cons.mpr ⟨fun M hM => Option.some.inj (show some q527_M = some M from hM) ▸ wlkV (lkX12_223 h) q527_M rfl rfl, fun _ h => absurd h List.not_mem_nil⟩, fun _ h => absurd h List.not_mem_nil, fun _ h => absurd h List.not_mem_nil⟩ dkX12_numeral (by decide +kernel) (by rw [h.2.2.1]; exact q536_ok)
/-- NearSpellModel.once -/
def q537_M : rfM := ((⟨"NearSpellModel", "once", "(III)I"⟩, prog_14_method_18_code, 4, (some .int)), (2,43), ([.inr (.inl [114]),.inl ((1,1,0),none),.inl ((1,1,0),none),.inl ((6,6,0),none)],[((114,4),(1,4,1),none),((114,7),(0,1600,1),none)]), [(80,0)], [(some (.inl ((1,1,0),none)),[],[])])
def q537_P : rfP := (flX12,csX12,lcX12,spX12,[q536_M],[],[(255,0,12)],([],[]))
def q537_U : rfU := []
set_option maxHeartbeats 8000000 in
def q537_N : List rfB := [(0,([(0,.inr (.inl [114])),(1,.inl ((1,1,0),none)),(2,.inl ((1,1,0),none)),(3,.inl ((6,6,0),none))],[],[((114,4),(1,4,1),some ((114,4),0,0)),((114,7),(0,1600,1),some ((114,7),0,0))]),(15,[]),0)]
set_option maxRecDepth 100000 in
theorem q537_ok : rf_chkB q537_P q537_U wLay q537_M ddX12_once [(18,[0])] [] [0] 600 q537_N = true := by decide +kernel
set_option maxHeartbeats 4000000 in
theorem q537_met {G : rfG} (h : okG G) (hh : wHandOK G) : rf_met G q537_M := rf_methodB h.1 (P := q537_P) (U := q537_U) (N := q537_N) ⟨wflT h flokX12, wcsT h csokX12, wlcT h lcokX12, spokX12 h, List.forall_mem_cons.mpr ⟨q536_met h hh, fun _ h => absurd h List.not_mem_nil⟩, fun _ h => absurd h List.not_mem_nil, List.forall_mem_cons.mpr ⟨fun M hM => Option.some.inj (show some q536_M = some M from hM) ▸ wlkV (lkX12_255 h) q536_M rfl rfl, fun _ h => absurd h List.not_mem_nil⟩, fun _ h => absurd h List.not_mem_nil, fun _ h => absurd h List.not_mem_nil⟩ dkX12_once (by decide +kernel) (by rw [h.2.2.1]; exact q537_ok)
/-- NearSpellModel.numeral -/
def q538_M : rfM := ((⟨"NearSpellModel", "numeral", "(II)I"⟩, prog_14_method_14_code, 4, (some .int)), (2,44), ([.inr (.inl [114]),.inl ((0,0,0),none),.inl ((2,2,0),none)],[((114,4),(0,0,1),none),((114,7),(0,1600,1),none),((114,8),(1,5,1),none)]), [(114,5),(114,6),(114,7),(114,8),(114,9),(114,10),(114,11)], [(some (.inl ((0,2,1),none)),[],[((114,3),(1,1600,1),none),((114,4),(0,0,1),some ((114,4),0,0)),((114,6),(0,1599,1),some ((114,7),0,4294967296)),((114,7),(1,1600,1),some ((114,7),1,4294967296)),((114,8),(5,5,0),none)]),(some (.inl ((0,2,1),none)),[],[((114,4),(0,0,1),some ((114,4),0,0)),((114,7),(0,1600,1),none),((114,8),(0,0,0),none)]),(some (.inl ((0,2,1),none)),[],[((114,3),(1,1600,1),none),((114,4),(0,0,1),some ((114,4),0,0)),((114,6),(0,1599,1),some ((114,7),0,4294967296)),((114,7),(0,1600,1),some ((114,7),0,4294967296)),((114,8),(1,4,1),none)]),(some (.inl ((0,0,0),none)),[],[((114,4),(1,2,1),none),((114,5),(0,1600,1),none),((114,7),(0,1600,1),some ((114,7),0,0)),((114,8),(1,5,1),some ((114,8),0,0))]),(some (.inl ((0,0,0),none)),[],[((114,4),(4,4,0),none),((114,5),(0,1600,1),none),((114,7),(0,1600,1),some ((114,7),0,0)),((114,8),(4,4,1),some ((114,8),0,0))])])
def q538_P : rfP := (flX12,csX12,lcX12,spX12,[q520_M,q526_M,q527_M,q530_M,q519_M],[],[(219,3,12),(223,0,12),(223,2,12),(227,4,12),(230,1,12)],([],[]))
def q538_U : rfU := []
set_option maxHeartbeats 8000000 in
def q538_N : List rfB := [(0,([(0,.inr (.inl [114])),(1,.inl ((0,0,0),none)),(2,.inl ((2,2,0),none))],[],[((114,4),(0,0,1),some ((114,4),0,0)),((114,7),(0,1600,1),some ((114,7),0,0)),((114,8),(1,5,1),some ((114,8),0,0))]),(75,[]),0),
  (44,([(0,.inr (.inl [114])),(1,.inl ((0,0,0),none)),(2,.inl ((2,2,0),none))],[],[((114,4),(0,0,1),some ((114,4),0,0)),((114,7),(0,1600,1),some ((114,7),0,0)),((114,8),(4,4,1),some ((114,8),0,0))]),(15,[]),0)]
set_option maxRecDepth 100000 in
theorem q538_ok : rf_chkB q538_P q538_U wLay q538_M ddX12_numeral [(1,[0]),(18,[1]),(22,[0,2]),(50,[3]),(59,[2,0]),(66,[4]),(70,[2,0])] [] [0,44] 600 q538_N = true := by decide +kernel
set_option maxHeartbeats 4000000 in
theorem q538_met {G : rfG} (h : okG G) (hh : wHandOK G) : rf_met G q538_M := rf_methodB h.1 (P := q538_P) (U := q538_U) (N := q538_N) ⟨wflT h flokX12, wcsT h csokX12, wlcT h lcokX12, spokX12 h, List.forall_mem_cons.mpr ⟨q520_met h hh, List.forall_mem_cons.mpr ⟨q526_met h hh, List.forall_mem_cons.mpr ⟨q527_met h hh, List.forall_mem_cons.mpr ⟨q530_met h hh, List.forall_mem_cons.mpr ⟨q519_met h hh, fun _ h => absurd h List.not_mem_nil⟩⟩⟩⟩⟩, fun _ h => absurd h List.not_mem_nil, List.forall_mem_cons.mpr ⟨fun M hM => Option.some.inj (show some q530_M = some M from hM) ▸ wlkV (lkX12_219 h) q530_M rfl rfl, List.forall_mem_cons.mpr ⟨fun M hM => Option.some.inj (show some q520_M = some M from hM) ▸ wlkV (lkX12_223 h) q520_M rfl rfl, List.forall_mem_cons.mpr ⟨fun M hM => Option.some.inj (show some q527_M = some M from hM) ▸ wlkV (lkX12_223 h) q527_M rfl rfl, List.forall_mem_cons.mpr ⟨fun M hM => Option.some.inj (show some q519_M = some M from hM) ▸ wlkV (lkX12_227 h) q519_M rfl rfl, List.forall_mem_cons.mpr ⟨fun M hM => Option.some.inj (show some q526_M = some M from hM) ▸ wlkV (lkX12_230 h) q526_M rfl rfl, fun _ h => absurd h List.not_mem_nil⟩⟩⟩⟩⟩, fun _ h => absurd h List.not_mem_nil, fun _ h => absurd h List.not_mem_nil⟩ dkX12_numeral (by decide +kernel) (by rw [h.2.2.1]; exact q538_ok)
/-- NearSpellModel.once -/
def q539_M : rfM := ((⟨"NearSpellModel", "once", "(III)I"⟩, prog_14_method_18_code, 4, (some .int)), (3,67), ([.inr (.inl [114]),.inl ((2,2,0),none),.inl ((0,0,0),none),.inl ((2,2,0),none)],[((114,4),(0,0,1),none),((114,7),(0,1600,1),none),((114,8),(1,5,1),none)]), [(80,0),(114,5),(114,6),(114,7),(114,8),(114,9),(114,10),(114,11)], [(some (.inl ((0,2,1),none)),[],[((114,3),(1,1600,1),none),((114,4),(0,0,1),some ((114,4),0,0)),((114,6),(0,1599,1),some ((114,7),0,4294967296)),((114,7),(0,1600,1),some ((114,7),0,4294967296)),((114,8),(1,4,1),none)]),(some (.inl ((0,0,0),none)),[],[((114,4),(4,4,0),none),((114,5),(0,1600,1),none),((114,7),(0,1600,1),some ((114,7),0,0)),((114,8),(4,4,1),some ((114,8),0,0))]),(some (.inl ((0,0,0),none)),[],[((114,4),(1,2,1),none),((114,5),(0,1600,1),none),((114,7),(0,1600,1),some ((114,7),0,0)),((114,8),(1,5,1),some ((114,8),0,0))]),(some (.inl ((0,2,1),none)),[],[((114,3),(1,1600,1),none),((114,4),(0,0,1),some ((114,4),0,0)),((114,6),(0,1599,1),some ((114,7),0,4294967296)),((114,7),(1,1600,1),some ((114,7),1,4294967296)),((114,8),(5,5,0),none)]),(some (.inl ((0,2,1),none)),[],[((114,4),(0,0,1),some ((114,4),0,0)),((114,7),(0,1600,1),none),((114,8),(0,0,0),none)])])
def q539_P : rfP := (flX12,csX12,lcX12,spX12,[q538_M],[],[(255,0,12)],([],[]))
def q539_U : rfU := []
set_option maxHeartbeats 8000000 in
def q539_N : List rfB := [(0,([(0,.inr (.inl [114])),(1,.inl ((2,2,0),none)),(2,.inl ((0,0,0),none)),(3,.inl ((2,2,0),none))],[],[((114,4),(0,0,1),some ((114,4),0,0)),((114,7),(0,1600,1),some ((114,7),0,0)),((114,8),(1,5,1),some ((114,8),0,0))]),(19,[]),0)]
set_option maxRecDepth 100000 in
theorem q539_ok : rf_chkB q539_P q539_U wLay q539_M ddX12_once [(18,[0])] [] [0] 600 q539_N = true := by decide +kernel
set_option maxHeartbeats 4000000 in
theorem q539_met {G : rfG} (h : okG G) (hh : wHandOK G) : rf_met G q539_M := rf_methodB h.1 (P := q539_P) (U := q539_U) (N := q539_N) ⟨wflT h flokX12, wcsT h csokX12, wlcT h lcokX12, spokX12 h, List.forall_mem_cons.mpr ⟨q538_met h hh, fun _ h => absurd h List.not_mem_nil⟩, fun _ h => absurd h List.not_mem_nil, List.forall_mem_cons.mpr ⟨fun M hM => Option.some.inj (show some q538_M = some M from hM) ▸ wlkV (lkX12_255 h) q538_M rfl rfl, fun _ h => absurd h List.not_mem_nil⟩, fun _ h => absurd h List.not_mem_nil, fun _ h => absurd h List.not_mem_nil⟩ dkX12_once (by decide +kernel) (by rw [h.2.2.1]; exact q539_ok)
/-- NearSpellModel.numeral -/
def q540_M : rfM := ((⟨"NearSpellModel", "numeral", "(II)I"⟩, prog_14_method_14_code, 4, (some .int)), (2,42), ([.inr (.inl [114]),.inl ((0,0,0),none),.inl ((2,2,0),none)],[((114,4),(0,0,1),none),((114,7),(0,1600,1),none),((114,8),(0,0,1),none)]), [(114,5),(114,6)], [(some (.inl ((0,0,0),none)),[],[((114,4),(2,2,0),none),((114,5),(0,1600,1),none)])])
def q540_P : rfP := (flX12,csX12,lcX12,spX12,[q520_M,q533_M,q527_M],[],[(223,0,12),(223,2,12),(230,1,12)],([],[]))
def q540_U : rfU := []
set_option maxHeartbeats 8000000 in
def q540_N : List rfB := [(0,([(0,.inr (.inl [114])),(1,.inl ((0,0,0),none)),(2,.inl ((2,2,0),none))],[],[((114,4),(0,0,1),some ((114,4),0,0)),((114,7),(0,1600,1),some ((114,7),0,0)),((114,8),(0,0,1),some ((114,8),0,0))]),(22,[]),0)]
set_option maxRecDepth 100000 in
theorem q540_ok : rf_chkB q540_P q540_U wLay q540_M ddX12_numeral [(1,[0]),(18,[1]),(22,[2]),(59,[2]),(70,[2])] [] [0] 600 q540_N = true := by decide +kernel
set_option maxHeartbeats 4000000 in
theorem q540_met {G : rfG} (h : okG G) (hh : wHandOK G) : rf_met G q540_M := rf_methodB h.1 (P := q540_P) (U := q540_U) (N := q540_N) ⟨wflT h flokX12, wcsT h csokX12, wlcT h lcokX12, spokX12 h, List.forall_mem_cons.mpr ⟨q520_met h hh, List.forall_mem_cons.mpr ⟨q533_met h hh, List.forall_mem_cons.mpr ⟨q527_met h hh, fun _ h => absurd h List.not_mem_nil⟩⟩⟩, fun _ h => absurd h List.not_mem_nil, List.forall_mem_cons.mpr ⟨fun M hM => Option.some.inj (show some q520_M = some M from hM) ▸ wlkV (lkX12_223 h) q520_M rfl rfl, List.forall_mem_cons.mpr ⟨fun M hM => Option.some.inj (show some q527_M = some M from hM) ▸ wlkV (lkX12_223 h) q527_M rfl rfl, List.forall_mem_cons.mpr ⟨fun M hM => Option.some.inj (show some q533_M = some M from hM) ▸ wlkV (lkX12_230 h) q533_M rfl rfl, fun _ h => absurd h List.not_mem_nil⟩⟩⟩, fun _ h => absurd h List.not_mem_nil, fun _ h => absurd h List.not_mem_nil⟩ dkX12_numeral (by decide +kernel) (by rw [h.2.2.1]; exact q540_ok)
/-- NearSpellModel.once -/
def q541_M : rfM := ((⟨"NearSpellModel", "once", "(III)I"⟩, prog_14_method_18_code, 4, (some .int)), (3,65), ([.inr (.inl [114]),.inl ((2,2,0),none),.inl ((0,0,0),none),.inl ((2,2,0),none)],[((114,4),(0,0,1),none),((114,7),(0,1600,1),none),((114,8),(0,0,1),none)]), [(80,0),(114,5),(114,6)], [(some (.inl ((0,0,0),none)),[],[((114,4),(2,2,0),none),((114,5),(0,1600,1),none)])])
def q541_P : rfP := (flX12,csX12,lcX12,spX12,[q540_M],[],[(255,0,12)],([],[]))
def q541_U : rfU := []
set_option maxHeartbeats 8000000 in
def q541_N : List rfB := [(0,([(0,.inr (.inl [114])),(1,.inl ((2,2,0),none)),(2,.inl ((0,0,0),none)),(3,.inl ((2,2,0),none))],[],[((114,4),(0,0,1),some ((114,4),0,0)),((114,7),(0,1600,1),some ((114,7),0,0)),((114,8),(0,0,1),some ((114,8),0,0))]),(15,[]),0)]
set_option maxRecDepth 100000 in
theorem q541_ok : rf_chkB q541_P q541_U wLay q541_M ddX12_once [(18,[0])] [] [0] 600 q541_N = true := by decide +kernel
set_option maxHeartbeats 4000000 in
theorem q541_met {G : rfG} (h : okG G) (hh : wHandOK G) : rf_met G q541_M := rf_methodB h.1 (P := q541_P) (U := q541_U) (N := q541_N) ⟨wflT h flokX12, wcsT h csokX12, wlcT h lcokX12, spokX12 h, List.forall_mem_cons.mpr ⟨q540_met h hh, fun _ h => absurd h List.not_mem_nil⟩, fun _ h => absurd h List.not_mem_nil, List.forall_mem_cons.mpr ⟨fun M hM => Option.some.inj (show some q540_M = some M from hM) ▸ wlkV (lkX12_255 h) q540_M rfl rfl, fun _ h => absurd h List.not_mem_nil⟩, fun _ h => absurd h List.not_mem_nil, fun _ h => absurd h List.not_mem_nil⟩ dkX12_once (by decide +kernel) (by rw [h.2.2.1]; exact q541_ok)
/-- NearSpellModel.numeral -/
def q542_M : rfM := ((⟨"NearSpellModel", "numeral", "(II)I"⟩, prog_14_method_14_code, 4, (some .int)), (1,20), ([.inr (.inl [114]),.inl ((0,0,0),none),.inl ((2,2,0),none)],[((114,4),(1,4,1),none),((114,7),(0,1600,1),none)]), [], [(some (.inl ((0,0,0),none)),[],[])])
def q542_P : rfP := (flX12,csX12,lcX12,spX12,[q527_M],[],[(223,0,12)],([],[]))
def q542_U : rfU := []
set_option maxHeartbeats 8000000 in
def q542_N : List rfB := [(0,([(0,.inr (.inl [114])),(1,.inl ((0,0,0),none)),(2,.inl ((2,2,0),none))],[],[((114,4),(1,4,1),some ((114,4),0,0)),((114,7),(0,1600,1),some ((114,7),0,0))]),(4,[]),0)]
set_option maxRecDepth 100000 in
theorem q542_ok : rf_chkB q542_P q542_U wLay q542_M ddX12_numeral [(1,[0])] [] [0] 600 q542_N = true := by decide +kernel
set_option maxHeartbeats 4000000 in
theorem q542_met {G : rfG} (h : okG G) (hh : wHandOK G) : rf_met G q542_M := rf_methodB h.1 (P := q542_P) (U := q542_U) (N := q542_N) ⟨wflT h flokX12, wcsT h csokX12, wlcT h lcokX12, spokX12 h, List.forall_mem_cons.mpr ⟨q527_met h hh, fun _ h => absurd h List.not_mem_nil⟩, fun _ h => absurd h List.not_mem_nil, List.forall_mem_cons.mpr ⟨fun M hM => Option.some.inj (show some q527_M = some M from hM) ▸ wlkV (lkX12_223 h) q527_M rfl rfl, fun _ h => absurd h List.not_mem_nil⟩, fun _ h => absurd h List.not_mem_nil, fun _ h => absurd h List.not_mem_nil⟩ dkX12_numeral (by decide +kernel) (by rw [h.2.2.1]; exact q542_ok)
/-- NearSpellModel.once -/
def q543_M : rfM := ((⟨"NearSpellModel", "once", "(III)I"⟩, prog_14_method_18_code, 4, (some .int)), (2,43), ([.inr (.inl [114]),.inl ((2,2,0),none),.inl ((0,0,0),none),.inl ((2,2,0),none)],[((114,4),(1,4,1),none),((114,7),(0,1600,1),none)]), [(80,0)], [(some (.inl ((0,0,0),none)),[],[])])
def q543_P : rfP := (flX12,csX12,lcX12,spX12,[q542_M],[],[(255,0,12)],([],[]))
def q543_U : rfU := []
set_option maxHeartbeats 8000000 in
def q543_N : List rfB := [(0,([(0,.inr (.inl [114])),(1,.inl ((2,2,0),none)),(2,.inl ((0,0,0),none)),(3,.inl ((2,2,0),none))],[],[((114,4),(1,4,1),some ((114,4),0,0)),((114,7),(0,1600,1),some ((114,7),0,0))]),(15,[]),0)]
set_option maxRecDepth 100000 in
theorem q543_ok : rf_chkB q543_P q543_U wLay q543_M ddX12_once [(18,[0])] [] [0] 600 q543_N = true := by decide +kernel
set_option maxHeartbeats 4000000 in
theorem q543_met {G : rfG} (h : okG G) (hh : wHandOK G) : rf_met G q543_M := rf_methodB h.1 (P := q543_P) (U := q543_U) (N := q543_N) ⟨wflT h flokX12, wcsT h csokX12, wlcT h lcokX12, spokX12 h, List.forall_mem_cons.mpr ⟨q542_met h hh, fun _ h => absurd h List.not_mem_nil⟩, fun _ h => absurd h List.not_mem_nil, List.forall_mem_cons.mpr ⟨fun M hM => Option.some.inj (show some q542_M = some M from hM) ▸ wlkV (lkX12_255 h) q542_M rfl rfl, fun _ h => absurd h List.not_mem_nil⟩, fun _ h => absurd h List.not_mem_nil, fun _ h => absurd h List.not_mem_nil⟩ dkX12_once (by decide +kernel) (by rw [h.2.2.1]; exact q543_ok)
/-- NearSpellModel.numeral -/
def q544_M : rfM := ((⟨"NearSpellModel", "numeral", "(II)I"⟩, prog_14_method_14_code, 4, (some .int)), (1,20), ([.inr (.inl [114]),.inl ((0,0,0),none),.inl ((2,2,0),none)],[((114,4),(1,4,1),none),((114,7),(0,1600,1),none),((114,8),(1,5,1),none)]), [], [(some (.inl ((0,0,0),none)),[],[])])
def q544_P : rfP := (flX12,csX12,lcX12,spX12,[q527_M],[],[(223,0,12)],([],[]))
def q544_U : rfU := []
set_option maxHeartbeats 8000000 in
def q544_N : List rfB := [(0,([(0,.inr (.inl [114])),(1,.inl ((0,0,0),none)),(2,.inl ((2,2,0),none))],[],[((114,4),(1,4,1),some ((114,4),0,0)),((114,7),(0,1600,1),some ((114,7),0,0)),((114,8),(1,5,1),some ((114,8),0,0))]),(4,[]),0)]
set_option maxRecDepth 100000 in
theorem q544_ok : rf_chkB q544_P q544_U wLay q544_M ddX12_numeral [(1,[0])] [] [0] 600 q544_N = true := by decide +kernel
set_option maxHeartbeats 4000000 in
theorem q544_met {G : rfG} (h : okG G) (hh : wHandOK G) : rf_met G q544_M := rf_methodB h.1 (P := q544_P) (U := q544_U) (N := q544_N) ⟨wflT h flokX12, wcsT h csokX12, wlcT h lcokX12, spokX12 h, List.forall_mem_cons.mpr ⟨q527_met h hh, fun _ h => absurd h List.not_mem_nil⟩, fun _ h => absurd h List.not_mem_nil, List.forall_mem_cons.mpr ⟨fun M hM => Option.some.inj (show some q527_M = some M from hM) ▸ wlkV (lkX12_223 h) q527_M rfl rfl, fun _ h => absurd h List.not_mem_nil⟩, fun _ h => absurd h List.not_mem_nil, fun _ h => absurd h List.not_mem_nil⟩ dkX12_numeral (by decide +kernel) (by rw [h.2.2.1]; exact q544_ok)
/-- NearSpellModel.once -/
def q545_M : rfM := ((⟨"NearSpellModel", "once", "(III)I"⟩, prog_14_method_18_code, 4, (some .int)), (2,43), ([.inr (.inl [114]),.inl ((2,2,0),none),.inl ((0,0,0),none),.inl ((2,2,0),none)],[((114,4),(1,4,1),none),((114,7),(0,1600,1),none),((114,8),(1,5,1),none)]), [(80,0)], [(some (.inl ((0,0,0),none)),[],[])])
def q545_P : rfP := (flX12,csX12,lcX12,spX12,[q544_M],[],[(255,0,12)],([],[]))
def q545_U : rfU := []
set_option maxHeartbeats 8000000 in
def q545_N : List rfB := [(0,([(0,.inr (.inl [114])),(1,.inl ((2,2,0),none)),(2,.inl ((0,0,0),none)),(3,.inl ((2,2,0),none))],[],[((114,4),(1,4,1),some ((114,4),0,0)),((114,7),(0,1600,1),some ((114,7),0,0)),((114,8),(1,5,1),some ((114,8),0,0))]),(15,[]),0)]
set_option maxRecDepth 100000 in
theorem q545_ok : rf_chkB q545_P q545_U wLay q545_M ddX12_once [(18,[0])] [] [0] 600 q545_N = true := by decide +kernel
set_option maxHeartbeats 4000000 in
theorem q545_met {G : rfG} (h : okG G) (hh : wHandOK G) : rf_met G q545_M := rf_methodB h.1 (P := q545_P) (U := q545_U) (N := q545_N) ⟨wflT h flokX12, wcsT h csokX12, wlcT h lcokX12, spokX12 h, List.forall_mem_cons.mpr ⟨q544_met h hh, fun _ h => absurd h List.not_mem_nil⟩, fun _ h => absurd h List.not_mem_nil, List.forall_mem_cons.mpr ⟨fun M hM => Option.some.inj (show some q544_M = some M from hM) ▸ wlkV (lkX12_255 h) q544_M rfl rfl, fun _ h => absurd h List.not_mem_nil⟩, fun _ h => absurd h List.not_mem_nil, fun _ h => absurd h List.not_mem_nil⟩ dkX12_once (by decide +kernel) (by rw [h.2.2.1]; exact q545_ok)
/-- NearSpellModel.numeral -/
def q546_M : rfM := ((⟨"NearSpellModel", "numeral", "(II)I"⟩, prog_14_method_14_code, 4, (some .int)), (1,20), ([.inr (.inl [114]),.inl ((0,0,0),none),.inl ((2,2,0),none)],[((114,4),(1,4,1),none),((114,7),(0,1600,1),none),((114,8),(0,0,1),none)]), [], [(some (.inl ((0,0,0),none)),[],[])])
def q546_P : rfP := (flX12,csX12,lcX12,spX12,[q527_M],[],[(223,0,12)],([],[]))
def q546_U : rfU := []
set_option maxHeartbeats 8000000 in
def q546_N : List rfB := [(0,([(0,.inr (.inl [114])),(1,.inl ((0,0,0),none)),(2,.inl ((2,2,0),none))],[],[((114,4),(1,4,1),some ((114,4),0,0)),((114,7),(0,1600,1),some ((114,7),0,0)),((114,8),(0,0,1),some ((114,8),0,0))]),(4,[]),0)]
set_option maxRecDepth 100000 in
theorem q546_ok : rf_chkB q546_P q546_U wLay q546_M ddX12_numeral [(1,[0])] [] [0] 600 q546_N = true := by decide +kernel
set_option maxHeartbeats 4000000 in
theorem q546_met {G : rfG} (h : okG G) (hh : wHandOK G) : rf_met G q546_M := rf_methodB h.1 (P := q546_P) (U := q546_U) (N := q546_N) ⟨wflT h flokX12, wcsT h csokX12, wlcT h lcokX12, spokX12 h, List.forall_mem_cons.mpr ⟨q527_met h hh, fun _ h => absurd h List.not_mem_nil⟩, fun _ h => absurd h List.not_mem_nil, List.forall_mem_cons.mpr ⟨fun M hM => Option.some.inj (show some q527_M = some M from hM) ▸ wlkV (lkX12_223 h) q527_M rfl rfl, fun _ h => absurd h List.not_mem_nil⟩, fun _ h => absurd h List.not_mem_nil, fun _ h => absurd h List.not_mem_nil⟩ dkX12_numeral (by decide +kernel) (by rw [h.2.2.1]; exact q546_ok)
/-- NearSpellModel.once -/
def q547_M : rfM := ((⟨"NearSpellModel", "once", "(III)I"⟩, prog_14_method_18_code, 4, (some .int)), (2,43), ([.inr (.inl [114]),.inl ((2,2,0),none),.inl ((0,0,0),none),.inl ((2,2,0),none)],[((114,4),(1,4,1),none),((114,7),(0,1600,1),none),((114,8),(0,0,1),none)]), [(80,0)], [(some (.inl ((0,0,0),none)),[],[])])
def q547_P : rfP := (flX12,csX12,lcX12,spX12,[q546_M],[],[(255,0,12)],([],[]))
def q547_U : rfU := []
set_option maxHeartbeats 8000000 in
def q547_N : List rfB := [(0,([(0,.inr (.inl [114])),(1,.inl ((2,2,0),none)),(2,.inl ((0,0,0),none)),(3,.inl ((2,2,0),none))],[],[((114,4),(1,4,1),some ((114,4),0,0)),((114,7),(0,1600,1),some ((114,7),0,0)),((114,8),(0,0,1),some ((114,8),0,0))]),(15,[]),0)]
set_option maxRecDepth 100000 in
theorem q547_ok : rf_chkB q547_P q547_U wLay q547_M ddX12_once [(18,[0])] [] [0] 600 q547_N = true := by decide +kernel
set_option maxHeartbeats 4000000 in
theorem q547_met {G : rfG} (h : okG G) (hh : wHandOK G) : rf_met G q547_M := rf_methodB h.1 (P := q547_P) (U := q547_U) (N := q547_N) ⟨wflT h flokX12, wcsT h csokX12, wlcT h lcokX12, spokX12 h, List.forall_mem_cons.mpr ⟨q546_met h hh, fun _ h => absurd h List.not_mem_nil⟩, fun _ h => absurd h List.not_mem_nil, List.forall_mem_cons.mpr ⟨fun M hM => Option.some.inj (show some q546_M = some M from hM) ▸ wlkV (lkX12_255 h) q546_M rfl rfl, fun _ h => absurd h List.not_mem_nil⟩, fun _ h => absurd h List.not_mem_nil, fun _ h => absurd h List.not_mem_nil⟩ dkX12_once (by decide +kernel) (by rw [h.2.2.1]; exact q547_ok)
/-- NearSpellModel.readRule -/
def q549_M : rfM := ((⟨"NearSpellModel", "readRule", "()V"⟩, prog_14_method_21_code, 1, none), (21,2021), ([.inr (.inl [114])],[((114,4),(0,0,1),none),((114,7),(0,1600,1),none),((114,8),(1,5,1),none)]), [(74,0),(80,0),(83,0),(84,0),(85,0),(86,0),(87,0),(88,0),(114,5),(114,6),(114,7),(114,8),(114,9),(114,10),(114,11),(114,31),(114,32),(114,33),(114,34)], [(none,[],[((114,4),(0,0,1),none),((114,7),(0,1600,1),none),((114,8),(0,0,1),none)]),(none,[],[((114,4),(0,0,1),none),((114,7),(0,1600,1),some ((114,7),0,4294967296)),((114,8),(1,4,1),none)]),(none,[],[((114,4),(1,4,1),none),((114,7),(0,1600,1),none)]),(none,[],[((114,4),(0,0,1),none),((114,7),(1,1600,1),some ((114,7),1,4294967296)),((114,8),(5,5,1),none)])])
def ddX12_readRule : List (Nat × Instr × Nat) := [(0,.aload_n 0,1),(1,.getfield 42,3),(4,.aload_n 0,1),(5,.getfield 233,3),(8,.dup2,1),(9,.iaload,1),(10,.iconst 1,1),(11,.ior,1),(12,.iastore,1),(13,.aload_n 0,1),(14,.iconst 0,1),(15,.putfield 279,3),(18,.aload_n 0,1),(19,.getfield 51,3),(22,.aload_n 0,1),(23,.getfield 233,3),(26,.aload_n 0,1),(27,.getfield 236,3),(30,.iastore,1),(31,.aload_n 0,1),(32,.invokevirtual 282,3),(35,.aload_n 0,1),(36,.getfield 54,3),(39,.aload_n 0,1),(40,.getfield 233,3),(43,.aload_n 0,1),(44,.getfield 236,3),(47,.iastore,1),(48,.return_,1)]
set_option maxRecDepth 100000 in
theorem dkX12_readRule : rf_decs prog_14_method_21_code ddX12_readRule := rf_decs_of (by decide +kernel)
def q549_P : rfP := (flX12,csX12,lcX12,spX12,[q548_M],[],[(282,0,12)],([],[]))
def q549_U : rfU := []
set_option maxHeartbeats 8000000 in
def q549_N : List rfB := [(0,([(0,.inr (.inl [114]))],[],[((114,4),(0,0,1),some ((114,4),0,0)),((114,7),(0,1600,1),some ((114,7),0,0)),((114,8),(1,5,1),some ((114,8),0,0))]),(52,[]),0)]
set_option maxRecDepth 100000 in
theorem q549_ok : rf_chkB q549_P q549_U wLay q549_M ddX12_readRule [(32,[0])] [] [0] 600 q549_N = true := by decide +kernel
set_option maxHeartbeats 4000000 in
theorem q549_met {G : rfG} (h : okG G) (hh : wHandOK G) : rf_met G q549_M := rf_methodB h.1 (P := q549_P) (U := q549_U) (N := q549_N) ⟨wflT h flokX12, wcsT h csokX12, wlcT h lcokX12, spokX12 h, List.forall_mem_cons.mpr ⟨q548_met h hh, fun _ h => absurd h List.not_mem_nil⟩, fun _ h => absurd h List.not_mem_nil, List.forall_mem_cons.mpr ⟨fun M hM => Option.some.inj (show some q548_M = some M from hM) ▸ wlkV (lkX12_282 h) q548_M rfl rfl, fun _ h => absurd h List.not_mem_nil⟩, fun _ h => absurd h List.not_mem_nil, fun _ h => absurd h List.not_mem_nil⟩ dkX12_readRule (by decide +kernel) (by rw [h.2.2.1]; exact q549_ok)
/-- NearSpellModel.readRule -/
def q551_M : rfM := ((⟨"NearSpellModel", "readRule", "()V"⟩, prog_14_method_21_code, 1, none), (21,2021), ([.inr (.inl [114])],[((114,4),(0,0,1),none),((114,7),(0,1600,1),none),((114,8),(0,0,1),none)]), [(74,0),(80,0),(83,0),(84,0),(85,0),(86,0),(87,0),(88,0),(114,5),(114,6),(114,7),(114,8),(114,9),(114,10),(114,11),(114,31),(114,32),(114,33),(114,34)], [(none,[],[((114,4),(1,4,1),none),((114,7),(0,1600,1),none)])])
def q551_P : rfP := (flX12,csX12,lcX12,spX12,[q550_M],[],[(282,0,12)],([],[]))
def q551_U : rfU := []
set_option maxHeartbeats 8000000 in
def q551_N : List rfB := [(0,([(0,.inr (.inl [114]))],[],[((114,4),(0,0,1),some ((114,4),0,0)),((114,7),(0,1600,1),some ((114,7),0,0)),((114,8),(0,0,1),some ((114,8),0,0))]),(28,[]),0)]
set_option maxRecDepth 100000 in
theorem q551_ok : rf_chkB q551_P q551_U wLay q551_M ddX12_readRule [(32,[0])] [] [0] 600 q551_N = true := by decide +kernel
set_option maxHeartbeats 4000000 in
theorem q551_met {G : rfG} (h : okG G) (hh : wHandOK G) : rf_met G q551_M := rf_methodB h.1 (P := q551_P) (U := q551_U) (N := q551_N) ⟨wflT h flokX12, wcsT h csokX12, wlcT h lcokX12, spokX12 h, List.forall_mem_cons.mpr ⟨q550_met h hh, fun _ h => absurd h List.not_mem_nil⟩, fun _ h => absurd h List.not_mem_nil, List.forall_mem_cons.mpr ⟨fun M hM => Option.some.inj (show some q550_M = some M from hM) ▸ wlkV (lkX12_282 h) q550_M rfl rfl, fun _ h => absurd h List.not_mem_nil⟩, fun _ h => absurd h List.not_mem_nil, fun _ h => absurd h List.not_mem_nil⟩ dkX12_readRule (by decide +kernel) (by rw [h.2.2.1]; exact q551_ok)
/-- NearSpellModel.readRule -/
def q553_M : rfM := ((⟨"NearSpellModel", "readRule", "()V"⟩, prog_14_method_21_code, 1, none), (21,2021), ([.inr (.inl [114])],[((114,4),(1,4,1),none),((114,7),(0,1600,1),none)]), [(74,0),(80,0),(83,0),(84,0),(85,0),(86,0),(87,0),(88,0),(114,5),(114,6),(114,7),(114,8),(114,9),(114,10),(114,11),(114,31),(114,32),(114,33),(114,34)], [(none,[],[((114,4),(1,4,1),none),((114,7),(0,1600,1),none)])])
def q553_P : rfP := (flX12,csX12,lcX12,spX12,[q552_M],[],[(282,0,12)],([],[]))
def q553_U : rfU := []
set_option maxHeartbeats 8000000 in
def q553_N : List rfB := [(0,([(0,.inr (.inl [114]))],[],[((114,4),(1,4,1),some ((114,4),0,0)),((114,7),(0,1600,1),some ((114,7),0,0))]),(28,[]),0)]
set_option maxRecDepth 100000 in
theorem q553_ok : rf_chkB q553_P q553_U wLay q553_M ddX12_readRule [(32,[0])] [] [0] 600 q553_N = true := by decide +kernel
set_option maxHeartbeats 4000000 in
theorem q553_met {G : rfG} (h : okG G) (hh : wHandOK G) : rf_met G q553_M := rf_methodB h.1 (P := q553_P) (U := q553_U) (N := q553_N) ⟨wflT h flokX12, wcsT h csokX12, wlcT h lcokX12, spokX12 h, List.forall_mem_cons.mpr ⟨q552_met h hh, fun _ h => absurd h List.not_mem_nil⟩, fun _ h => absurd h List.not_mem_nil, List.forall_mem_cons.mpr ⟨fun M hM => Option.some.inj (show some q552_M = some M from hM) ▸ wlkV (lkX12_282 h) q552_M rfl rfl, fun _ h => absurd h List.not_mem_nil⟩, fun _ h => absurd h List.not_mem_nil, fun _ h => absurd h List.not_mem_nil⟩ dkX12_readRule (by decide +kernel) (by rw [h.2.2.1]; exact q553_ok)
/-- NearSpellModel.readRule -/
def q555_M : rfM := ((⟨"NearSpellModel", "readRule", "()V"⟩, prog_14_method_21_code, 1, none), (21,2021), ([.inr (.inl [114])],[((114,4),(1,4,1),none),((114,7),(0,1600,1),none),((114,8),(1,5,1),none)]), [(74,0),(80,0),(83,0),(84,0),(85,0),(86,0),(87,0),(88,0),(114,5),(114,6),(114,7),(114,8),(114,9),(114,10),(114,11),(114,31),(114,32),(114,33),(114,34)], [(none,[],[((114,4),(1,4,1),none),((114,7),(0,1600,1),none)])])
def q555_P : rfP := (flX12,csX12,lcX12,spX12,[q554_M],[],[(282,0,12)],([],[]))
def q555_U : rfU := []
set_option maxHeartbeats 8000000 in
def q555_N : List rfB := [(0,([(0,.inr (.inl [114]))],[],[((114,4),(1,4,1),some ((114,4),0,0)),((114,7),(0,1600,1),some ((114,7),0,0)),((114,8),(1,5,1),some ((114,8),0,0))]),(28,[]),0)]
set_option maxRecDepth 100000 in
theorem q555_ok : rf_chkB q555_P q555_U wLay q555_M ddX12_readRule [(32,[0])] [] [0] 600 q555_N = true := by decide +kernel
set_option maxHeartbeats 4000000 in
theorem q555_met {G : rfG} (h : okG G) (hh : wHandOK G) : rf_met G q555_M := rf_methodB h.1 (P := q555_P) (U := q555_U) (N := q555_N) ⟨wflT h flokX12, wcsT h csokX12, wlcT h lcokX12, spokX12 h, List.forall_mem_cons.mpr ⟨q554_met h hh, fun _ h => absurd h List.not_mem_nil⟩, fun _ h => absurd h List.not_mem_nil, List.forall_mem_cons.mpr ⟨fun M hM => Option.some.inj (show some q554_M = some M from hM) ▸ wlkV (lkX12_282 h) q554_M rfl rfl, fun _ h => absurd h List.not_mem_nil⟩, fun _ h => absurd h List.not_mem_nil, fun _ h => absurd h List.not_mem_nil⟩ dkX12_readRule (by decide +kernel) (by rw [h.2.2.1]; exact q555_ok)
/-- NearSpellModel.readRule -/
def q557_M : rfM := ((⟨"NearSpellModel", "readRule", "()V"⟩, prog_14_method_21_code, 1, none), (21,2021), ([.inr (.inl [114])],[((114,4),(1,4,1),none),((114,7),(0,1600,1),none),((114,8),(0,0,1),none)]), [(74,0),(80,0),(83,0),(84,0),(85,0),(86,0),(87,0),(88,0),(114,5),(114,6),(114,7),(114,8),(114,9),(114,10),(114,11),(114,31),(114,32),(114,33),(114,34)], [(none,[],[((114,4),(1,4,1),none),((114,7),(0,1600,1),none)])])
def q557_P : rfP := (flX12,csX12,lcX12,spX12,[q556_M],[],[(282,0,12)],([],[]))
def q557_U : rfU := []
set_option maxHeartbeats 8000000 in
def q557_N : List rfB := [(0,([(0,.inr (.inl [114]))],[],[((114,4),(1,4,1),some ((114,4),0,0)),((114,7),(0,1600,1),some ((114,7),0,0)),((114,8),(0,0,1),some ((114,8),0,0))]),(28,[]),0)]
set_option maxRecDepth 100000 in
theorem q557_ok : rf_chkB q557_P q557_U wLay q557_M ddX12_readRule [(32,[0])] [] [0] 600 q557_N = true := by decide +kernel
set_option maxHeartbeats 4000000 in
theorem q557_met {G : rfG} (h : okG G) (hh : wHandOK G) : rf_met G q557_M := rf_methodB h.1 (P := q557_P) (U := q557_U) (N := q557_N) ⟨wflT h flokX12, wcsT h csokX12, wlcT h lcokX12, spokX12 h, List.forall_mem_cons.mpr ⟨q556_met h hh, fun _ h => absurd h List.not_mem_nil⟩, fun _ h => absurd h List.not_mem_nil, List.forall_mem_cons.mpr ⟨fun M hM => Option.some.inj (show some q556_M = some M from hM) ▸ wlkV (lkX12_282 h) q556_M rfl rfl, fun _ h => absurd h List.not_mem_nil⟩, fun _ h => absurd h List.not_mem_nil, fun _ h => absurd h List.not_mem_nil⟩ dkX12_readRule (by decide +kernel) (by rw [h.2.2.1]; exact q557_ok)
/-- NearSpellModel.numeral -/
def q558_M : rfM := ((⟨"NearSpellModel", "numeral", "(II)I"⟩, prog_14_method_14_code, 4, (some .int)), (2,44), ([.inr (.inl [114]),.inl ((1,1,0),none),.inl ((31,31,0),none)],[((114,4),(0,0,1),none),((114,7),(0,1600,1),none),((114,8),(1,5,1),none)]), [(114,5),(114,6),(114,7),(114,8),(114,9),(114,10),(114,11)], [(some (.inl ((1,31,1),none)),[],[((114,3),(1,1600,1),none),((114,4),(0,0,1),some ((114,4),0,0)),((114,6),(0,1599,1),some ((114,7),0,4294967296)),((114,7),(1,1600,1),some ((114,7),1,4294967296)),((114,8),(5,5,0),none)]),(some (.inl ((1,31,1),none)),[],[((114,4),(0,0,1),some ((114,4),0,0)),((114,7),(0,1600,1),none),((114,8),(0,0,0),none)]),(some (.inl ((1,31,1),none)),[],[((114,3),(1,1600,1),none),((114,4),(0,0,1),some ((114,4),0,0)),((114,6),(0,1599,1),some ((114,7),0,4294967296)),((114,7),(0,1600,1),some ((114,7),0,4294967296)),((114,8),(1,4,1),none)]),(some (.inl ((1,1,0),none)),[],[((114,4),(1,2,1),none),((114,5),(0,1600,1),none),((114,7),(0,1600,1),some ((114,7),0,0)),((114,8),(1,5,1),some ((114,8),0,0))]),(some (.inl ((1,1,0),none)),[],[((114,4),(4,4,0),none),((114,5),(0,1600,1),none),((114,7),(0,1600,1),some ((114,7),0,0)),((114,8),(4,4,1),some ((114,8),0,0))])])
def q558_P : rfP := (flX12,csX12,lcX12,spX12,[q520_M,q526_M,q527_M,q530_M,q519_M],[],[(219,3,12),(223,0,12),(223,2,12),(227,4,12),(230,1,12)],([],[]))
def q558_U : rfU := []
set_option maxHeartbeats 8000000 in
def q558_N : List rfB := [(0,([(0,.inr (.inl [114])),(1,.inl ((1,1,0),none)),(2,.inl ((31,31,0),none))],[],[((114,4),(0,0,1),some ((114,4),0,0)),((114,7),(0,1600,1),some ((114,7),0,0)),((114,8),(1,5,1),some ((114,8),0,0))]),(75,[]),0),
  (44,([(0,.inr (.inl [114])),(1,.inl ((1,1,0),none)),(2,.inl ((31,31,0),none))],[],[((114,4),(0,0,1),some ((114,4),0,0)),((114,7),(0,1600,1),some ((114,7),0,0)),((114,8),(4,4,1),some ((114,8),0,0))]),(15,[]),0)]
set_option maxRecDepth 100000 in
theorem q558_ok : rf_chkB q558_P q558_U wLay q558_M ddX12_numeral [(1,[0]),(18,[1]),(22,[0,2]),(50,[3]),(59,[2,0]),(66,[4]),(70,[2,0])] [] [0,44] 600 q558_N = true := by decide +kernel
set_option maxHeartbeats 4000000 in
theorem q558_met {G : rfG} (h : okG G) (hh : wHandOK G) : rf_met G q558_M := rf_methodB h.1 (P := q558_P) (U := q558_U) (N := q558_N) ⟨wflT h flokX12, wcsT h csokX12, wlcT h lcokX12, spokX12 h, List.forall_mem_cons.mpr ⟨q520_met h hh, List.forall_mem_cons.mpr ⟨q526_met h hh, List.forall_mem_cons.mpr ⟨q527_met h hh, List.forall_mem_cons.mpr ⟨q530_met h hh, List.forall_mem_cons.mpr ⟨q519_met h hh, fun _ h => absurd h List.not_mem_nil⟩⟩⟩⟩⟩, fun _ h => absurd h List.not_mem_nil, List.forall_mem_cons.mpr ⟨fun M hM => Option.some.inj (show some q530_M = some M from hM) ▸ wlkV (lkX12_219 h) q530_M rfl rfl, List.forall_mem_cons.mpr ⟨fun M hM => Option.some.inj (show some q520_M = some M from hM) ▸ wlkV (lkX12_223 h) q520_M rfl rfl, List.forall_mem_cons.mpr ⟨fun M hM => Option.some.inj (show some q527_M = some M from hM) ▸ wlkV (lkX12_223 h) q527_M rfl rfl, List.forall_mem_cons.mpr ⟨fun M hM => Option.some.inj (show some q519_M = some M from hM) ▸ wlkV (lkX12_227 h) q519_M rfl rfl, List.forall_mem_cons.mpr ⟨fun M hM => Option.some.inj (show some q526_M = some M from hM) ▸ wlkV (lkX12_230 h) q526_M rfl rfl, fun _ h => absurd h List.not_mem_nil⟩⟩⟩⟩⟩, fun _ h => absurd h List.not_mem_nil, fun _ h => absurd h List.not_mem_nil⟩ dkX12_numeral (by decide +kernel) (by rw [h.2.2.1]; exact q558_ok)
/-- NearSpellModel.once -/
def q559_M : rfM := ((⟨"NearSpellModel", "once", "(III)I"⟩, prog_14_method_18_code, 4, (some .int)), (3,67), ([.inr (.inl [114]),.inl ((3,3,0),none),.inl ((1,1,0),none),.inl ((31,31,0),none)],[((114,4),(0,0,1),none),((114,7),(0,1600,1),none),((114,8),(1,5,1),none)]), [(80,0),(114,5),(114,6),(114,7),(114,8),(114,9),(114,10),(114,11)], [(some (.inl ((1,31,1),none)),[],[((114,3),(1,1600,1),none),((114,4),(0,0,1),some ((114,4),0,0)),((114,6),(0,1599,1),some ((114,7),0,4294967296)),((114,7),(0,1600,1),some ((114,7),0,4294967296)),((114,8),(1,4,1),none)]),(some (.inl ((1,1,0),none)),[],[((114,4),(4,4,0),none),((114,5),(0,1600,1),none),((114,7),(0,1600,1),some ((114,7),0,0)),((114,8),(4,4,1),some ((114,8),0,0))]),(some (.inl ((1,1,0),none)),[],[((114,4),(1,2,1),none),((114,5),(0,1600,1),none),((114,7),(0,1600,1),some ((114,7),0,0)),((114,8),(1,5,1),some ((114,8),0,0))]),(some (.inl ((1,31,1),none)),[],[((114,3),(1,1600,1),none),((114,4),(0,0,1),some ((114,4),0,0)),((114,6),(0,1599,1),some ((114,7),0,4294967296)),((114,7),(1,1600,1),some ((114,7),1,4294967296)),((114,8),(5,5,0),none)]),(some (.inl ((1,31,1),none)),[],[((114,4),(0,0,1),some ((114,4),0,0)),((114,7),(0,1600,1),none),((114,8),(0,0,0),none)])])
def q559_P : rfP := (flX12,csX12,lcX12,spX12,[q558_M],[],[(255,0,12)],([],[]))
def q559_U : rfU := []
set_option maxHeartbeats 8000000 in
def q559_N : List rfB := [(0,([(0,.inr (.inl [114])),(1,.inl ((3,3,0),none)),(2,.inl ((1,1,0),none)),(3,.inl ((31,31,0),none))],[],[((114,4),(0,0,1),some ((114,4),0,0)),((114,7),(0,1600,1),some ((114,7),0,0)),((114,8),(1,5,1),some ((114,8),0,0))]),(19,[]),0)]
set_option maxRecDepth 100000 in
theorem q559_ok : rf_chkB q559_P q559_U wLay q559_M ddX12_once [(18,[0])] [] [0] 600 q559_N = true := by decide +kernel
set_option maxHeartbeats 4000000 in
theorem q559_met {G : rfG} (h : okG G) (hh : wHandOK G) : rf_met G q559_M := rf_methodB h.1 (P := q559_P) (U := q559_U) (N := q559_N) ⟨wflT h flokX12, wcsT h csokX12, wlcT h lcokX12, spokX12 h, List.forall_mem_cons.mpr ⟨q558_met h hh, fun _ h => absurd h List.not_mem_nil⟩, fun _ h => absurd h List.not_mem_nil, List.forall_mem_cons.mpr ⟨fun M hM => Option.some.inj (show some q558_M = some M from hM) ▸ wlkV (lkX12_255 h) q558_M rfl rfl, fun _ h => absurd h List.not_mem_nil⟩, fun _ h => absurd h List.not_mem_nil, fun _ h => absurd h List.not_mem_nil⟩ dkX12_once (by decide +kernel) (by rw [h.2.2.1]; exact q559_ok)
/-- NearSpellModel.numeral -/
def q560_M : rfM := ((⟨"NearSpellModel", "numeral", "(II)I"⟩, prog_14_method_14_code, 4, (some .int)), (2,42), ([.inr (.inl [114]),.inl ((1,1,0),none),.inl ((31,31,0),none)],[((114,4),(0,0,1),none),((114,7),(0,1600,1),none),((114,8),(0,0,1),none)]), [(114,5),(114,6)], [(some (.inl ((1,1,0),none)),[],[((114,4),(2,2,0),none),((114,5),(0,1600,1),none)])])
def q560_P : rfP := (flX12,csX12,lcX12,spX12,[q520_M,q533_M,q527_M],[],[(223,0,12),(223,2,12),(230,1,12)],([],[]))
def q560_U : rfU := []
set_option maxHeartbeats 8000000 in
def q560_N : List rfB := [(0,([(0,.inr (.inl [114])),(1,.inl ((1,1,0),none)),(2,.inl ((31,31,0),none))],[],[((114,4),(0,0,1),some ((114,4),0,0)),((114,7),(0,1600,1),some ((114,7),0,0)),((114,8),(0,0,1),some ((114,8),0,0))]),(22,[]),0)]
set_option maxRecDepth 100000 in
theorem q560_ok : rf_chkB q560_P q560_U wLay q560_M ddX12_numeral [(1,[0]),(18,[1]),(22,[2]),(59,[2]),(70,[2])] [] [0] 600 q560_N = true := by decide +kernel
set_option maxHeartbeats 4000000 in
theorem q560_met {G : rfG} (h : okG G) (hh : wHandOK G) : rf_met G q560_M := rf_methodB h.1 (P := q560_P) (U := q560_U) (N := q560_N) ⟨wflT h flokX12, wcsT h csokX12, wlcT h lcokX12, spokX12 h, List.forall_mem_cons.mpr ⟨q520_met h hh, List.forall_mem_cons.mpr ⟨q533_met h hh, List.forall_mem_cons.mpr ⟨q527_met h hh, fun _ h => absurd h List.not_mem_nil⟩⟩⟩, fun _ h => absurd h List.not_mem_nil, List.forall_mem_cons.mpr ⟨fun M hM => Option.some.inj (show some q520_M = some M from hM) ▸ wlkV (lkX12_223 h) q520_M rfl rfl, List.forall_mem_cons.mpr ⟨fun M hM => Option.some.inj (show some q527_M = some M from hM) ▸ wlkV (lkX12_223 h) q527_M rfl rfl, List.forall_mem_cons.mpr ⟨fun M hM => Option.some.inj (show some q533_M = some M from hM) ▸ wlkV (lkX12_230 h) q533_M rfl rfl, fun _ h => absurd h List.not_mem_nil⟩⟩⟩, fun _ h => absurd h List.not_mem_nil, fun _ h => absurd h List.not_mem_nil⟩ dkX12_numeral (by decide +kernel) (by rw [h.2.2.1]; exact q560_ok)
/-- NearSpellModel.once -/
def q561_M : rfM := ((⟨"NearSpellModel", "once", "(III)I"⟩, prog_14_method_18_code, 4, (some .int)), (3,65), ([.inr (.inl [114]),.inl ((3,3,0),none),.inl ((1,1,0),none),.inl ((31,31,0),none)],[((114,4),(0,0,1),none),((114,7),(0,1600,1),none),((114,8),(0,0,1),none)]), [(80,0),(114,5),(114,6)], [(some (.inl ((1,1,0),none)),[],[((114,4),(2,2,0),none),((114,5),(0,1600,1),none)])])
def q561_P : rfP := (flX12,csX12,lcX12,spX12,[q560_M],[],[(255,0,12)],([],[]))
def q561_U : rfU := []
set_option maxHeartbeats 8000000 in
def q561_N : List rfB := [(0,([(0,.inr (.inl [114])),(1,.inl ((3,3,0),none)),(2,.inl ((1,1,0),none)),(3,.inl ((31,31,0),none))],[],[((114,4),(0,0,1),some ((114,4),0,0)),((114,7),(0,1600,1),some ((114,7),0,0)),((114,8),(0,0,1),some ((114,8),0,0))]),(15,[]),0)]
set_option maxRecDepth 100000 in
theorem q561_ok : rf_chkB q561_P q561_U wLay q561_M ddX12_once [(18,[0])] [] [0] 600 q561_N = true := by decide +kernel
set_option maxHeartbeats 4000000 in
theorem q561_met {G : rfG} (h : okG G) (hh : wHandOK G) : rf_met G q561_M := rf_methodB h.1 (P := q561_P) (U := q561_U) (N := q561_N) ⟨wflT h flokX12, wcsT h csokX12, wlcT h lcokX12, spokX12 h, List.forall_mem_cons.mpr ⟨q560_met h hh, fun _ h => absurd h List.not_mem_nil⟩, fun _ h => absurd h List.not_mem_nil, List.forall_mem_cons.mpr ⟨fun M hM => Option.some.inj (show some q560_M = some M from hM) ▸ wlkV (lkX12_255 h) q560_M rfl rfl, fun _ h => absurd h List.not_mem_nil⟩, fun _ h => absurd h List.not_mem_nil, fun _ h => absurd h List.not_mem_nil⟩ dkX12_once (by decide +kernel) (by rw [h.2.2.1]; exact q561_ok)
/-- NearSpellModel.numeral -/
def q562_M : rfM := ((⟨"NearSpellModel", "numeral", "(II)I"⟩, prog_14_method_14_code, 4, (some .int)), (1,20), ([.inr (.inl [114]),.inl ((1,1,0),none),.inl ((31,31,0),none)],[((114,4),(1,4,1),none),((114,7),(0,1600,1),none)]), [], [(some (.inl ((1,1,0),none)),[],[])])
def q562_P : rfP := (flX12,csX12,lcX12,spX12,[q527_M],[],[(223,0,12)],([],[]))
def q562_U : rfU := []
set_option maxHeartbeats 8000000 in
def q562_N : List rfB := [(0,([(0,.inr (.inl [114])),(1,.inl ((1,1,0),none)),(2,.inl ((31,31,0),none))],[],[((114,4),(1,4,1),some ((114,4),0,0)),((114,7),(0,1600,1),some ((114,7),0,0))]),(4,[]),0)]
set_option maxRecDepth 100000 in
theorem q562_ok : rf_chkB q562_P q562_U wLay q562_M ddX12_numeral [(1,[0])] [] [0] 600 q562_N = true := by decide +kernel
set_option maxHeartbeats 4000000 in
theorem q562_met {G : rfG} (h : okG G) (hh : wHandOK G) : rf_met G q562_M := rf_methodB h.1 (P := q562_P) (U := q562_U) (N := q562_N) ⟨wflT h flokX12, wcsT h csokX12, wlcT h lcokX12, spokX12 h, List.forall_mem_cons.mpr ⟨q527_met h hh, fun _ h => absurd h List.not_mem_nil⟩, fun _ h => absurd h List.not_mem_nil, List.forall_mem_cons.mpr ⟨fun M hM => Option.some.inj (show some q527_M = some M from hM) ▸ wlkV (lkX12_223 h) q527_M rfl rfl, fun _ h => absurd h List.not_mem_nil⟩, fun _ h => absurd h List.not_mem_nil, fun _ h => absurd h List.not_mem_nil⟩ dkX12_numeral (by decide +kernel) (by rw [h.2.2.1]; exact q562_ok)
/-- NearSpellModel.once -/
def q563_M : rfM := ((⟨"NearSpellModel", "once", "(III)I"⟩, prog_14_method_18_code, 4, (some .int)), (2,43), ([.inr (.inl [114]),.inl ((3,3,0),none),.inl ((1,1,0),none),.inl ((31,31,0),none)],[((114,4),(1,4,1),none),((114,7),(0,1600,1),none)]), [(80,0)], [(some (.inl ((1,1,0),none)),[],[])])
def q563_P : rfP := (flX12,csX12,lcX12,spX12,[q562_M],[],[(255,0,12)],([],[]))
def q563_U : rfU := []
set_option maxHeartbeats 8000000 in
def q563_N : List rfB := [(0,([(0,.inr (.inl [114])),(1,.inl ((3,3,0),none)),(2,.inl ((1,1,0),none)),(3,.inl ((31,31,0),none))],[],[((114,4),(1,4,1),some ((114,4),0,0)),((114,7),(0,1600,1),some ((114,7),0,0))]),(15,[]),0)]
set_option maxRecDepth 100000 in
theorem q563_ok : rf_chkB q563_P q563_U wLay q563_M ddX12_once [(18,[0])] [] [0] 600 q563_N = true := by decide +kernel
set_option maxHeartbeats 4000000 in
theorem q563_met {G : rfG} (h : okG G) (hh : wHandOK G) : rf_met G q563_M := rf_methodB h.1 (P := q563_P) (U := q563_U) (N := q563_N) ⟨wflT h flokX12, wcsT h csokX12, wlcT h lcokX12, spokX12 h, List.forall_mem_cons.mpr ⟨q562_met h hh, fun _ h => absurd h List.not_mem_nil⟩, fun _ h => absurd h List.not_mem_nil, List.forall_mem_cons.mpr ⟨fun M hM => Option.some.inj (show some q562_M = some M from hM) ▸ wlkV (lkX12_255 h) q562_M rfl rfl, fun _ h => absurd h List.not_mem_nil⟩, fun _ h => absurd h List.not_mem_nil, fun _ h => absurd h List.not_mem_nil⟩ dkX12_once (by decide +kernel) (by rw [h.2.2.1]; exact q563_ok)
/-- NearSpellModel.numeral -/
def q564_M : rfM := ((⟨"NearSpellModel", "numeral", "(II)I"⟩, prog_14_method_14_code, 4, (some .int)), (1,20), ([.inr (.inl [114]),.inl ((1,1,0),none),.inl ((31,31,0),none)],[((114,4),(1,4,1),none),((114,7),(0,1600,1),none),((114,8),(1,5,1),none)]), [], [(some (.inl ((1,1,0),none)),[],[])])
def q564_P : rfP := (flX12,csX12,lcX12,spX12,[q527_M],[],[(223,0,12)],([],[]))
def q564_U : rfU := []
set_option maxHeartbeats 8000000 in
def q564_N : List rfB := [(0,([(0,.inr (.inl [114])),(1,.inl ((1,1,0),none)),(2,.inl ((31,31,0),none))],[],[((114,4),(1,4,1),some ((114,4),0,0)),((114,7),(0,1600,1),some ((114,7),0,0)),((114,8),(1,5,1),some ((114,8),0,0))]),(4,[]),0)]
set_option maxRecDepth 100000 in
theorem q564_ok : rf_chkB q564_P q564_U wLay q564_M ddX12_numeral [(1,[0])] [] [0] 600 q564_N = true := by decide +kernel
set_option maxHeartbeats 4000000 in
theorem q564_met {G : rfG} (h : okG G) (hh : wHandOK G) : rf_met G q564_M := rf_methodB h.1 (P := q564_P) (U := q564_U) (N := q564_N) ⟨wflT h flokX12, wcsT h csokX12, wlcT h lcokX12, spokX12 h, List.forall_mem_cons.mpr ⟨q527_met h hh, fun _ h => absurd h List.not_mem_nil⟩, fun _ h => absurd h List.not_mem_nil, List.forall_mem_cons.mpr ⟨fun M hM => Option.some.inj (show some q527_M = some M from hM) ▸ wlkV (lkX12_223 h) q527_M rfl rfl, fun _ h => absurd h List.not_mem_nil⟩, fun _ h => absurd h List.not_mem_nil, fun _ h => absurd h List.not_mem_nil⟩ dkX12_numeral (by decide +kernel) (by rw [h.2.2.1]; exact q564_ok)
/-- NearSpellModel.once -/
def q565_M : rfM := ((⟨"NearSpellModel", "once", "(III)I"⟩, prog_14_method_18_code, 4, (some .int)), (2,43), ([.inr (.inl [114]),.inl ((3,3,0),none),.inl ((1,1,0),none),.inl ((31,31,0),none)],[((114,4),(1,4,1),none),((114,7),(0,1600,1),none),((114,8),(1,5,1),none)]), [(80,0)], [(some (.inl ((1,1,0),none)),[],[])])
def q565_P : rfP := (flX12,csX12,lcX12,spX12,[q564_M],[],[(255,0,12)],([],[]))
def q565_U : rfU := []
set_option maxHeartbeats 8000000 in
def q565_N : List rfB := [(0,([(0,.inr (.inl [114])),(1,.inl ((3,3,0),none)),(2,.inl ((1,1,0),none)),(3,.inl ((31,31,0),none))],[],[((114,4),(1,4,1),some ((114,4),0,0)),((114,7),(0,1600,1),some ((114,7),0,0)),((114,8),(1,5,1),some ((114,8),0,0))]),(15,[]),0)]
set_option maxRecDepth 100000 in
theorem q565_ok : rf_chkB q565_P q565_U wLay q565_M ddX12_once [(18,[0])] [] [0] 600 q565_N = true := by decide +kernel
set_option maxHeartbeats 4000000 in
theorem q565_met {G : rfG} (h : okG G) (hh : wHandOK G) : rf_met G q565_M := rf_methodB h.1 (P := q565_P) (U := q565_U) (N := q565_N) ⟨wflT h flokX12, wcsT h csokX12, wlcT h lcokX12, spokX12 h, List.forall_mem_cons.mpr ⟨q564_met h hh, fun _ h => absurd h List.not_mem_nil⟩, fun _ h => absurd h List.not_mem_nil, List.forall_mem_cons.mpr ⟨fun M hM => Option.some.inj (show some q564_M = some M from hM) ▸ wlkV (lkX12_255 h) q564_M rfl rfl, fun _ h => absurd h List.not_mem_nil⟩, fun _ h => absurd h List.not_mem_nil, fun _ h => absurd h List.not_mem_nil⟩ dkX12_once (by decide +kernel) (by rw [h.2.2.1]; exact q565_ok)
/-- NearSpellModel.numeral -/
def q566_M : rfM := ((⟨"NearSpellModel", "numeral", "(II)I"⟩, prog_14_method_14_code, 4, (some .int)), (1,20), ([.inr (.inl [114]),.inl ((1,1,0),none),.inl ((31,31,0),none)],[((114,4),(1,4,1),none),((114,7),(0,1600,1),none),((114,8),(0,0,1),none)]), [], [(some (.inl ((1,1,0),none)),[],[])])
def q566_P : rfP := (flX12,csX12,lcX12,spX12,[q527_M],[],[(223,0,12)],([],[]))
def q566_U : rfU := []
set_option maxHeartbeats 8000000 in
def q566_N : List rfB := [(0,([(0,.inr (.inl [114])),(1,.inl ((1,1,0),none)),(2,.inl ((31,31,0),none))],[],[((114,4),(1,4,1),some ((114,4),0,0)),((114,7),(0,1600,1),some ((114,7),0,0)),((114,8),(0,0,1),some ((114,8),0,0))]),(4,[]),0)]
set_option maxRecDepth 100000 in
theorem q566_ok : rf_chkB q566_P q566_U wLay q566_M ddX12_numeral [(1,[0])] [] [0] 600 q566_N = true := by decide +kernel
set_option maxHeartbeats 4000000 in
theorem q566_met {G : rfG} (h : okG G) (hh : wHandOK G) : rf_met G q566_M := rf_methodB h.1 (P := q566_P) (U := q566_U) (N := q566_N) ⟨wflT h flokX12, wcsT h csokX12, wlcT h lcokX12, spokX12 h, List.forall_mem_cons.mpr ⟨q527_met h hh, fun _ h => absurd h List.not_mem_nil⟩, fun _ h => absurd h List.not_mem_nil, List.forall_mem_cons.mpr ⟨fun M hM => Option.some.inj (show some q527_M = some M from hM) ▸ wlkV (lkX12_223 h) q527_M rfl rfl, fun _ h => absurd h List.not_mem_nil⟩, fun _ h => absurd h List.not_mem_nil, fun _ h => absurd h List.not_mem_nil⟩ dkX12_numeral (by decide +kernel) (by rw [h.2.2.1]; exact q566_ok)
/-- NearSpellModel.once -/
def q567_M : rfM := ((⟨"NearSpellModel", "once", "(III)I"⟩, prog_14_method_18_code, 4, (some .int)), (2,43), ([.inr (.inl [114]),.inl ((3,3,0),none),.inl ((1,1,0),none),.inl ((31,31,0),none)],[((114,4),(1,4,1),none),((114,7),(0,1600,1),none),((114,8),(0,0,1),none)]), [(80,0)], [(some (.inl ((1,1,0),none)),[],[])])
def q567_P : rfP := (flX12,csX12,lcX12,spX12,[q566_M],[],[(255,0,12)],([],[]))
def q567_U : rfU := []
set_option maxHeartbeats 8000000 in
def q567_N : List rfB := [(0,([(0,.inr (.inl [114])),(1,.inl ((3,3,0),none)),(2,.inl ((1,1,0),none)),(3,.inl ((31,31,0),none))],[],[((114,4),(1,4,1),some ((114,4),0,0)),((114,7),(0,1600,1),some ((114,7),0,0)),((114,8),(0,0,1),some ((114,8),0,0))]),(15,[]),0)]
set_option maxRecDepth 100000 in
theorem q567_ok : rf_chkB q567_P q567_U wLay q567_M ddX12_once [(18,[0])] [] [0] 600 q567_N = true := by decide +kernel
set_option maxHeartbeats 4000000 in
theorem q567_met {G : rfG} (h : okG G) (hh : wHandOK G) : rf_met G q567_M := rf_methodB h.1 (P := q567_P) (U := q567_U) (N := q567_N) ⟨wflT h flokX12, wcsT h csokX12, wlcT h lcokX12, spokX12 h, List.forall_mem_cons.mpr ⟨q566_met h hh, fun _ h => absurd h List.not_mem_nil⟩, fun _ h => absurd h List.not_mem_nil, List.forall_mem_cons.mpr ⟨fun M hM => Option.some.inj (show some q566_M = some M from hM) ▸ wlkV (lkX12_255 h) q566_M rfl rfl, fun _ h => absurd h List.not_mem_nil⟩, fun _ h => absurd h List.not_mem_nil, fun _ h => absurd h List.not_mem_nil⟩ dkX12_once (by decide +kernel) (by rw [h.2.2.1]; exact q567_ok)
/-- NearSpellModel.numeral -/
def q568_M : rfM := ((⟨"NearSpellModel", "numeral", "(II)I"⟩, prog_14_method_14_code, 4, (some .int)), (2,44), ([.inr (.inl [114]),.inl ((0,0,0),none),.inl ((100,100,0),none)],[((114,4),(0,0,1),none),((114,7),(0,1600,1),none),((114,8),(1,5,1),none)]), [(114,5),(114,6),(114,7),(114,8),(114,9),(114,10),(114,11)], [(some (.inl ((0,100,1),none)),[],[((114,3),(1,1600,1),none),((114,4),(0,0,1),some ((114,4),0,0)),((114,6),(0,1599,1),some ((114,7),0,4294967296)),((114,7),(1,1600,1),some ((114,7),1,4294967296)),((114,8),(5,5,0),none)]),(some (.inl ((0,100,1),none)),[],[((114,4),(0,0,1),some ((114,4),0,0)),((114,7),(0,1600,1),none),((114,8),(0,0,0),none)]),(some (.inl ((0,100,1),none)),[],[((114,3),(1,1600,1),none),((114,4),(0,0,1),some ((114,4),0,0)),((114,6),(0,1599,1),some ((114,7),0,4294967296)),((114,7),(0,1600,1),some ((114,7),0,4294967296)),((114,8),(1,4,1),none)]),(some (.inl ((0,0,0),none)),[],[((114,4),(1,2,1),none),((114,5),(0,1600,1),none),((114,7),(0,1600,1),some ((114,7),0,0)),((114,8),(1,5,1),some ((114,8),0,0))]),(some (.inl ((0,0,0),none)),[],[((114,4),(4,4,0),none),((114,5),(0,1600,1),none),((114,7),(0,1600,1),some ((114,7),0,0)),((114,8),(4,4,1),some ((114,8),0,0))])])
def q568_P : rfP := (flX12,csX12,lcX12,spX12,[q520_M,q526_M,q527_M,q530_M,q519_M],[],[(219,3,12),(223,0,12),(223,2,12),(227,4,12),(230,1,12)],([],[]))
def q568_U : rfU := []
set_option maxHeartbeats 8000000 in
def q568_N : List rfB := [(0,([(0,.inr (.inl [114])),(1,.inl ((0,0,0),none)),(2,.inl ((100,100,0),none))],[],[((114,4),(0,0,1),some ((114,4),0,0)),((114,7),(0,1600,1),some ((114,7),0,0)),((114,8),(1,5,1),some ((114,8),0,0))]),(75,[]),0),
  (44,([(0,.inr (.inl [114])),(1,.inl ((0,0,0),none)),(2,.inl ((100,100,0),none))],[],[((114,4),(0,0,1),some ((114,4),0,0)),((114,7),(0,1600,1),some ((114,7),0,0)),((114,8),(4,4,1),some ((114,8),0,0))]),(15,[]),0)]
set_option maxRecDepth 100000 in
theorem q568_ok : rf_chkB q568_P q568_U wLay q568_M ddX12_numeral [(1,[0]),(18,[1]),(22,[0,2]),(50,[3]),(59,[2,0]),(66,[4]),(70,[2,0])] [] [0,44] 600 q568_N = true := by decide +kernel
set_option maxHeartbeats 4000000 in
theorem q568_met {G : rfG} (h : okG G) (hh : wHandOK G) : rf_met G q568_M := rf_methodB h.1 (P := q568_P) (U := q568_U) (N := q568_N) ⟨wflT h flokX12, wcsT h csokX12, wlcT h lcokX12, spokX12 h, List.forall_mem_cons.mpr ⟨q520_met h hh, List.forall_mem_cons.mpr ⟨q526_met h hh, List.forall_mem_cons.mpr ⟨q527_met h hh, List.forall_mem_cons.mpr ⟨q530_met h hh, List.forall_mem_cons.mpr ⟨q519_met h hh, fun _ h => absurd h List.not_mem_nil⟩⟩⟩⟩⟩, fun _ h => absurd h List.not_mem_nil, List.forall_mem_cons.mpr ⟨fun M hM => Option.some.inj (show some q530_M = some M from hM) ▸ wlkV (lkX12_219 h) q530_M rfl rfl, List.forall_mem_cons.mpr ⟨fun M hM => Option.some.inj (show some q520_M = some M from hM) ▸ wlkV (lkX12_223 h) q520_M rfl rfl, List.forall_mem_cons.mpr ⟨fun M hM => Option.some.inj (show some q527_M = some M from hM) ▸ wlkV (lkX12_223 h) q527_M rfl rfl, List.forall_mem_cons.mpr ⟨fun M hM => Option.some.inj (show some q519_M = some M from hM) ▸ wlkV (lkX12_227 h) q519_M rfl rfl, List.forall_mem_cons.mpr ⟨fun M hM => Option.some.inj (show some q526_M = some M from hM) ▸ wlkV (lkX12_230 h) q526_M rfl rfl, fun _ h => absurd h List.not_mem_nil⟩⟩⟩⟩⟩, fun _ h => absurd h List.not_mem_nil, fun _ h => absurd h List.not_mem_nil⟩ dkX12_numeral (by decide +kernel) (by rw [h.2.2.1]; exact q568_ok)
/-- NearSpellModel.once -/
def q569_M : rfM := ((⟨"NearSpellModel", "once", "(III)I"⟩, prog_14_method_18_code, 4, (some .int)), (3,67), ([.inr (.inl [114]),.inl ((4,4,0),none),.inl ((0,0,0),none),.inl ((100,100,0),none)],[((114,4),(0,0,1),none),((114,7),(0,1600,1),none),((114,8),(1,5,1),none)]), [(80,0),(114,5),(114,6),(114,7),(114,8),(114,9),(114,10),(114,11)], [(some (.inl ((0,100,1),none)),[],[((114,3),(1,1600,1),none),((114,4),(0,0,1),some ((114,4),0,0)),((114,6),(0,1599,1),some ((114,7),0,4294967296)),((114,7),(0,1600,1),some ((114,7),0,4294967296)),((114,8),(1,4,1),none)]),(some (.inl ((0,0,0),none)),[],[((114,4),(4,4,0),none),((114,5),(0,1600,1),none),((114,7),(0,1600,1),some ((114,7),0,0)),((114,8),(4,4,1),some ((114,8),0,0))]),(some (.inl ((0,0,0),none)),[],[((114,4),(1,2,1),none),((114,5),(0,1600,1),none),((114,7),(0,1600,1),some ((114,7),0,0)),((114,8),(1,5,1),some ((114,8),0,0))]),(some (.inl ((0,100,1),none)),[],[((114,3),(1,1600,1),none),((114,4),(0,0,1),some ((114,4),0,0)),((114,6),(0,1599,1),some ((114,7),0,4294967296)),((114,7),(1,1600,1),some ((114,7),1,4294967296)),((114,8),(5,5,0),none)]),(some (.inl ((0,100,1),none)),[],[((114,4),(0,0,1),some ((114,4),0,0)),((114,7),(0,1600,1),none),((114,8),(0,0,0),none)])])
def q569_P : rfP := (flX12,csX12,lcX12,spX12,[q568_M],[],[(255,0,12)],([],[]))
def q569_U : rfU := []
set_option maxHeartbeats 8000000 in
def q569_N : List rfB := [(0,([(0,.inr (.inl [114])),(1,.inl ((4,4,0),none)),(2,.inl ((0,0,0),none)),(3,.inl ((100,100,0),none))],[],[((114,4),(0,0,1),some ((114,4),0,0)),((114,7),(0,1600,1),some ((114,7),0,0)),((114,8),(1,5,1),some ((114,8),0,0))]),(19,[]),0)]
set_option maxRecDepth 100000 in
theorem q569_ok : rf_chkB q569_P q569_U wLay q569_M ddX12_once [(18,[0])] [] [0] 600 q569_N = true := by decide +kernel
set_option maxHeartbeats 4000000 in
theorem q569_met {G : rfG} (h : okG G) (hh : wHandOK G) : rf_met G q569_M := rf_methodB h.1 (P := q569_P) (U := q569_U) (N := q569_N) ⟨wflT h flokX12, wcsT h csokX12, wlcT h lcokX12, spokX12 h, List.forall_mem_cons.mpr ⟨q568_met h hh, fun _ h => absurd h List.not_mem_nil⟩, fun _ h => absurd h List.not_mem_nil, List.forall_mem_cons.mpr ⟨fun M hM => Option.some.inj (show some q568_M = some M from hM) ▸ wlkV (lkX12_255 h) q568_M rfl rfl, fun _ h => absurd h List.not_mem_nil⟩, fun _ h => absurd h List.not_mem_nil, fun _ h => absurd h List.not_mem_nil⟩ dkX12_once (by decide +kernel) (by rw [h.2.2.1]; exact q569_ok)
