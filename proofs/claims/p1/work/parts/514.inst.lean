/-- NearSpellModel.totalOf -/
def q147_M : rfM := ((⟨"NearSpellModel", "totalOf", "(I)I"⟩, prog_14_method_42_code, 3, (some .int)), (0,0), ([.inl (((-2147483648),2147483647,1),none)],[]), [], [(some (.inl (((-2147483648),2147483647,1),none)),[],[])])
def ddX12_totalOf : List (Nat × Instr × Nat) := [(0,.iconst 0,1),(1,.istore_n 1,1),(2,.iload_n 0,1),(3,.istore_n 2,1),(4,.iload_n 2,1),(5,.ifCond .le 18,3),(8,.iload_n 1,1),(9,.iload_n 2,1),(10,.bipush 27,2),(12,.irem,1),(13,.iadd,1),(14,.istore_n 1,1),(15,.iload_n 2,1),(16,.bipush 27,2),(18,.idiv,1),(19,.istore_n 2,1),(20,.goto (-16),3),(23,.iload_n 1,1),(24,.ireturn,1)]
set_option maxRecDepth 100000 in
theorem dkX12_totalOf : rf_decs prog_14_method_42_code ddX12_totalOf := rf_decs_of (by decide +kernel)
def q147_P : rfP := (flX12,csX12,lcX12,spX12,[],[],[],([],[]))
def q147_U : rfU := []
set_option maxHeartbeats 8000000 in
def q147_N : List rfB := [(0,([(0,.inl (((-2147483648),2147483647,1),none))],[],[]),(60129542149,[0]),0)]
set_option maxRecDepth 100000 in
theorem q147_ok : rf_chkB q147_P q147_U wLay q147_M ddX12_totalOf [] [.inl 2] [0] 104 q147_N = true := by decide +kernel
set_option maxHeartbeats 4000000 in
theorem q147_met {G : rfG} (h : okG G) : rf_met G q147_M := rf_methodB h.1 (P := q147_P) (U := q147_U) (N := q147_N) ⟨wflT h flokX12, wcsT h csokX12, wlcT h lcokX12, spokX12 h, fun _ h => absurd h List.not_mem_nil, fun _ h => absurd h List.not_mem_nil, fun _ h => absurd h List.not_mem_nil, fun _ h => absurd h List.not_mem_nil, fun _ h => absurd h List.not_mem_nil⟩ dkX12_totalOf (by decide +kernel) (by rw [h.2.2.1]; exact q147_ok)
/-- NearSpellModel.lengthOf -/
def q148_M : rfM := ((⟨"NearSpellModel", "lengthOf", "(I)I"⟩, prog_14_method_41_code, 3, (some .int)), (0,0), ([.inl (((-2147483648),2147483647,1),none)],[]), [], [(some (.inl ((0,7,1),none)),[],[])])
def q148_P : rfP := (flX12,csX12,lcX12,spX12,[],[],[],([],[]))
def q148_U : rfU := []
set_option maxHeartbeats 8000000 in
def q148_N : List rfB := [(0,([(0,.inl (((-2147483648),2147483647,1),none))],[],[]),(77,[]),0)]
set_option maxRecDepth 100000 in
theorem q148_ok : rf_chkB q148_P q148_U wLay q148_M ddX12_lengthOf [] [] [0] 69 q148_N = true := by decide +kernel
set_option maxHeartbeats 4000000 in
theorem q148_met {G : rfG} (h : okG G) : rf_met G q148_M := rf_methodB h.1 (P := q148_P) (U := q148_U) (N := q148_N) ⟨wflT h flokX12, wcsT h csokX12, wlcT h lcokX12, spokX12 h, fun _ h => absurd h List.not_mem_nil, fun _ h => absurd h List.not_mem_nil, fun _ h => absurd h List.not_mem_nil, fun _ h => absurd h List.not_mem_nil, fun _ h => absurd h List.not_mem_nil⟩ dkX12_lengthOf (by decide +kernel) (by rw [h.2.2.1]; exact q148_ok)
/-- NearSpellModel.bucketOf -/
def q149_M : rfM := ((⟨"NearSpellModel", "bucketOf", "(I)I"⟩, prog_14_method_33_code, 3, (some .int)), (1,22), ([.inr (.inl [114]),.inl (((-2147483648),2147483647,1),none)],[((77,0),(13,13,0),none),((80,0),(0,0,0),none),((114,28),(0,0,0),none),((114,34),(0,0,0),none)]), [(114,35)], [(some (.inl ((0,12,1),none)),[],[])])
def ddX12_bucketOf : List (Nat × Instr × Nat) := [(0,.aload_n 0,1),(1,.iload_n 1,1),(2,.putfield 313,3),(5,.aload_n 0,1),(6,.getfield 42,3),(9,.aload_n 0,1),(10,.getfield 242,3),(13,.iaload,1),(14,.iconst 0,1),(15,.invokestatic 251,3),(18,.ifCond .eq 10,3),(21,.aload_n 0,1),(22,.invokevirtual 330,3),(25,.goto 15,3),(28,.bipush 7,2),(30,.iload_n 1,1),(31,.invokestatic 316,3),(34,.imul,1),(35,.iload_n 1,1),(36,.invokestatic 319,3),(39,.iadd,1),(40,.aload_n 0,1),(41,.getfield 33,3),(44,.aload_n 0,1),(45,.getfield 242,3),(48,.iaload,1),(49,.irem,1),(50,.istore_n 2,1),(51,.iload_n 2,1),(52,.ifCond .ge 17,3),(55,.iload_n 2,1),(56,.aload_n 0,1),(57,.getfield 33,3),(60,.aload_n 0,1),(61,.getfield 242,3),(64,.iaload,1),(65,.iadd,1),(66,.goto 4,3),(69,.iload_n 2,1),(70,.ireturn,1)]
set_option maxRecDepth 100000 in
theorem dkX12_bucketOf : rf_decs prog_14_method_33_code ddX12_bucketOf := rf_decs_of (by decide +kernel)
def q149_P : rfP := (flX12,csX12,lcX12,spX12,[q130_M,q147_M,q148_M],[(251,0),(316,1),(319,2)],[],([],[]))
def q149_U : rfU := []
set_option maxHeartbeats 8000000 in
def q149_N : List rfB := [(0,([(0,.inr (.inl [114])),(1,.inl (((-2147483648),2147483647,1),none))],[],[((77,0),(13,13,0),some ((77,0),0,0)),((80,0),(0,0,0),some ((80,0),0,0)),((114,28),(0,0,0),some ((114,28),0,0)),((114,34),(0,0,0),some ((114,34),0,0))]),(36,[]),0)]
set_option maxRecDepth 100000 in
theorem q149_ok : rf_chkB q149_P q149_U wLay q149_M ddX12_bucketOf [(15,[0]),(31,[1]),(36,[2])] [] [0] 41 q149_N = true := by decide +kernel
set_option maxHeartbeats 4000000 in
theorem q149_met {G : rfG} (h : okG G) : rf_met G q149_M := rf_methodB h.1 (P := q149_P) (U := q149_U) (N := q149_N) ⟨wflT h flokX12, wcsT h csokX12, wlcT h lcokX12, spokX12 h, List.forall_mem_cons.mpr ⟨q130_met h, List.forall_mem_cons.mpr ⟨q147_met h, List.forall_mem_cons.mpr ⟨q148_met h, fun _ h => absurd h List.not_mem_nil⟩⟩⟩, List.forall_mem_cons.mpr ⟨fun M hM => Option.some.inj (show some q130_M = some M from hM) ▸ wlkS (lkX12_251 h) q130_M rfl rfl, List.forall_mem_cons.mpr ⟨fun M hM => Option.some.inj (show some q147_M = some M from hM) ▸ wlkS (lkX12_316 h) q147_M rfl rfl, List.forall_mem_cons.mpr ⟨fun M hM => Option.some.inj (show some q148_M = some M from hM) ▸ wlkS (lkX12_319 h) q148_M rfl rfl, fun _ h => absurd h List.not_mem_nil⟩⟩⟩, fun _ h => absurd h List.not_mem_nil, fun _ h => absurd h List.not_mem_nil, fun _ h => absurd h List.not_mem_nil⟩ dkX12_bucketOf (by decide +kernel) (by rw [h.2.2.1]; exact q149_ok)
/-- NearSpellModel.bucketOf -/
def q150_M : rfM := ((⟨"NearSpellModel", "bucketOf", "(I)I"⟩, prog_14_method_33_code, 3, (some .int)), (1,22), ([.inr (.inl [114]),.inl (((-2147483648),2147483647,1),none)],[((77,0),(13,13,0),none),((80,0),(0,0,0),none),((114,28),(0,0,0),none)]), [(114,35)], [(some (.inl ((0,12,1),none)),[],[])])
def q150_P : rfP := (flX12,csX12,lcX12,spX12,[q130_M,q147_M,q148_M],[(251,0),(316,1),(319,2)],[],([],[]))
def q150_U : rfU := []
set_option maxHeartbeats 8000000 in
def q150_N : List rfB := [(0,([(0,.inr (.inl [114])),(1,.inl (((-2147483648),2147483647,1),none))],[],[((77,0),(13,13,0),some ((77,0),0,0)),((80,0),(0,0,0),some ((80,0),0,0)),((114,28),(0,0,0),some ((114,28),0,0))]),(36,[]),0)]
set_option maxRecDepth 100000 in
theorem q150_ok : rf_chkB q150_P q150_U wLay q150_M ddX12_bucketOf [(15,[0]),(31,[1]),(36,[2])] [] [0] 41 q150_N = true := by decide +kernel
set_option maxHeartbeats 4000000 in
theorem q150_met {G : rfG} (h : okG G) : rf_met G q150_M := rf_methodB h.1 (P := q150_P) (U := q150_U) (N := q150_N) ⟨wflT h flokX12, wcsT h csokX12, wlcT h lcokX12, spokX12 h, List.forall_mem_cons.mpr ⟨q130_met h, List.forall_mem_cons.mpr ⟨q147_met h, List.forall_mem_cons.mpr ⟨q148_met h, fun _ h => absurd h List.not_mem_nil⟩⟩⟩, List.forall_mem_cons.mpr ⟨fun M hM => Option.some.inj (show some q130_M = some M from hM) ▸ wlkS (lkX12_251 h) q130_M rfl rfl, List.forall_mem_cons.mpr ⟨fun M hM => Option.some.inj (show some q147_M = some M from hM) ▸ wlkS (lkX12_316 h) q147_M rfl rfl, List.forall_mem_cons.mpr ⟨fun M hM => Option.some.inj (show some q148_M = some M from hM) ▸ wlkS (lkX12_319 h) q148_M rfl rfl, fun _ h => absurd h List.not_mem_nil⟩⟩⟩, fun _ h => absurd h List.not_mem_nil, fun _ h => absurd h List.not_mem_nil, fun _ h => absurd h List.not_mem_nil⟩ dkX12_bucketOf (by decide +kernel) (by rw [h.2.2.1]; exact q150_ok)
/-- NearSpellModel.metBy -/
def q151_M : rfM := ((⟨"NearSpellModel", "metBy", "(II)I"⟩, prog_14_method_55_code, 9, (some .int)), (4,93), ([.inr (.inl [114]),.inl ((0,387420488,1),none),.inl ((1,1,0),none)],[((75,0),(4,4,0),none),((76,0),(2,2,0),none),((77,0),(13,13,0),none),((80,0),(0,0,0),none),((90,28),(0,0,0),none),((114,28),(0,0,0),none),((114,34),(0,0,0),none),((114,39),(0,0,0),none)]), [(91,0),(93,0),(114,35),(114,40)], [(some (.inl ((0,0,0),none)),[],[])])
def ddX12_metBy : List (Nat × Instr × Nat) := [(0,.aload_n 0,1),(1,.aload_n 0,1),(2,.invokevirtual 372,3),(5,.invokevirtual 375,3),(8,.istore_n 3,1),(9,.aload_n 0,1),(10,.iload_n 1,1),(11,.aload_n 0,1),(12,.invokevirtual 372,3),(15,.invokevirtual 366,3),(18,.iconst 0,1),(19,.istore 4,2),(21,.iconst 0,1),(22,.istore 5,2),(24,.iload 5,2),(26,.aload_n 0,1),(27,.getfield 353,3),(30,.if_icmp .ge 27,3),(33,.iload 4,2),(35,.iconst 1,1),(36,.aload_n 0,1),(37,.aload_n 0,1),(38,.getfield 75,3),(41,.iload 5,2),(43,.iaload,1),(44,.invokevirtual 369,3),(47,.ishl,1),(48,.ior,1),(49,.istore 4,2),(51,.iinc 5 1,3),(54,.goto (-30),3),(57,.iconst 0,1),(58,.istore 5,2),(60,.iconst 0,1),(61,.istore 6,2),(63,.iload 6,2),(65,.bipush 14,2),(67,.if_icmp .ge 101,3),(70,.iload_n 3,1),(71,.ifCond .le 97,3),(74,.iload_n 2,1),(75,.ifCond .ne 19,3),(78,.aload_n 0,1),(79,.iload 6,2),(81,.invokevirtual 378,3),(84,.iload 4,2),(86,.iand,1),(87,.ifCond .eq 7,3),(90,.iconst 1,1),(91,.goto 4,3),(94,.iconst 0,1),(95,.istore 7,2),(97,.iconst 0,1),(98,.istore 8,2),(100,.iload 8,2),(102,.aload_n 0,1),(103,.getfield 353,3),(106,.if_icmp .ge 42,3),(109,.iload_n 2,1),(110,.iconst 1,1),(111,.if_icmp .ne 37,3),(114,.iload 7,2),(116,.ifCond .ne 19,3),(119,.aload_n 0,1),(120,.iload 6,2),(122,.aload_n 0,1),(123,.getfield 75,3),(126,.iload 8,2),(128,.iaload,1),(129,.invokevirtual 381,3),(132,.ifCond .eq 7,3),(135,.iconst 1,1),(136,.goto 4,3),(139,.iconst 0,1),(140,.istore 7,2),(142,.iinc 8 1,3),(145,.goto (-45),3),(148,.iload 7,2),(150,.ifCond .eq 12,3),(153,.iload 5,2),(155,.iconst 1,1),(156,.iload 6,2),(158,.ishl,1),(159,.ior,1),(160,.istore 5,2),(162,.iinc 6 1,3),(165,.goto (-102),3),(168,.iload 5,2),(170,.ireturn,1)]
set_option maxRecDepth 100000 in
theorem dkX12_metBy : rf_decs prog_14_method_55_code ddX12_metBy := rf_decs_of (by decide +kernel)
def q151_P : rfP := (flX12,csX12,lcX12,spX12,[q118_M,q127_M,q146_M,q150_M],[],[(366,2,12),(369,3,12),(372,0,12),(375,1,12)],([],[]))
def q151_U : rfU := []
set_option maxHeartbeats 8000000 in
def q151_N : List rfB := [(0,([(0,.inr (.inl [114])),(1,.inl ((0,387420488,1),none)),(2,.inl ((1,1,0),none))],[],[((75,0),(4,4,0),some ((75,0),0,0)),((76,0),(2,2,0),some ((76,0),0,0)),((77,0),(13,13,0),some ((77,0),0,0)),((80,0),(0,0,0),some ((80,0),0,0)),((90,28),(0,0,0),some ((90,28),0,0)),((114,28),(0,0,0),some ((114,28),0,0)),((114,34),(0,0,0),some ((114,34),0,0)),((114,39),(0,0,0),some ((114,39),0,0))]),(1194,[0]),0),
  (24,([(0,.inr (.inl [114])),(1,.inl ((0,387420488,1),none)),(2,.inl ((1,1,0),none)),(3,.inl ((0,0,0),none)),(4,.inl ((0,8191,1),none)),(5,.inl ((0,64,1),none))],[],[((75,0),(4,4,0),some ((75,0),0,0)),((76,0),(2,2,0),some ((76,0),0,0)),((77,0),(13,13,0),some ((77,0),0,0)),((80,0),(0,0,0),some ((80,0),0,0)),((90,28),(0,0,0),some ((90,28),0,0)),((114,28),(0,0,0),some ((114,28),0,0))]),(1178,[(-18)]),0)]
set_option maxRecDepth 100000 in
theorem q151_ok : rf_chkB q151_P q151_U wLay q151_M ddX12_metBy [(2,[0]),(5,[1]),(12,[0]),(15,[2]),(44,[3])] [.inl 5] [0,24] 600 q151_N = true := by decide +kernel
set_option maxHeartbeats 4000000 in
theorem q151_met {G : rfG} (h : okG G) : rf_met G q151_M := rf_methodB h.1 (P := q151_P) (U := q151_U) (N := q151_N) ⟨wflT h flokX12, wcsT h csokX12, wlcT h lcokX12, spokX12 h, List.forall_mem_cons.mpr ⟨q118_met h, List.forall_mem_cons.mpr ⟨q127_met h, List.forall_mem_cons.mpr ⟨q146_met h, List.forall_mem_cons.mpr ⟨q150_met h, fun _ h => absurd h List.not_mem_nil⟩⟩⟩⟩, fun _ h => absurd h List.not_mem_nil, List.forall_mem_cons.mpr ⟨fun M hM => Option.some.inj (show some q146_M = some M from hM) ▸ wlkV (lkX12_366 h) q146_M rfl rfl, List.forall_mem_cons.mpr ⟨fun M hM => Option.some.inj (show some q150_M = some M from hM) ▸ wlkV (lkX12_369 h) q150_M rfl rfl, List.forall_mem_cons.mpr ⟨fun M hM => Option.some.inj (show some q118_M = some M from hM) ▸ wlkV (lkX12_372 h) q118_M rfl rfl, List.forall_mem_cons.mpr ⟨fun M hM => Option.some.inj (show some q127_M = some M from hM) ▸ wlkV (lkX12_375 h) q127_M rfl rfl, fun _ h => absurd h List.not_mem_nil⟩⟩⟩⟩, fun _ h => absurd h List.not_mem_nil, fun _ h => absurd h List.not_mem_nil⟩ dkX12_metBy (by decide +kernel) (by rw [h.2.2.1]; exact q151_ok)
/-- NearSpellModel.layFar -/
def q152_M : rfM := ((⟨"NearSpellModel", "layFar", "(I)V"⟩, prog_14_method_64_code, 3, none), (2,43), ([.inr (.inl [114]),.inl ((0,387420488,1),none)],[((90,28),(0,0,0),none),((114,44),(0,0,0),none),((114,45),(0,0,0),none)]), [(98,0)], [(none,[],[])])
def ddX12_layFar : List (Nat × Instr × Nat) := [(0,.iconst 0,1),(1,.istore_n 2,1),(2,.iload_n 2,1),(3,.bipush 14,2),(5,.if_icmp .ge 42,3),(8,.aload_n 0,1),(9,.getfield 96,3),(12,.iload_n 2,1),(13,.aload_n 0,1),(14,.iload_n 2,1),(15,.invokevirtual 350,3),(18,.ifCond .eq 19,3),(21,.aload_n 0,1),(22,.iload_n 1,1),(23,.aload_n 0,1),(24,.getfield 72,3),(27,.iconst 0,1),(28,.iload_n 2,1),(29,.iadd,1),(30,.iaload,1),(31,.invokevirtual 408,3),(34,.goto 6,3),(37,.sipush 1000,3),(40,.iastore,1),(41,.iinc 2 1,3),(44,.goto (-42),3),(47,.return_,1)]
set_option maxRecDepth 100000 in
theorem dkX12_layFar : rf_decs prog_14_method_64_code ddX12_layFar := rf_decs_of (by decide +kernel)
def q152_P : rfP := (flX12,csX12,lcX12,spX12,[q126_M],[],[(350,0,12)],([],[]))
def q152_U : rfU := []
set_option maxHeartbeats 8000000 in
def q152_N : List rfB := [(0,([(0,.inr (.inl [114])),(1,.inl ((0,387420488,1),none))],[],[((90,28),(0,0,0),some ((90,28),0,0)),((114,44),(0,0,0),some ((114,44),0,0)),((114,45),(0,0,0),some ((114,45),0,0))]),(227,[0]),0)]
set_option maxRecDepth 100000 in
theorem q152_ok : rf_chkB q152_P q152_U wLay q152_M ddX12_layFar [(15,[0])] [.inl 2] [0] 207 q152_N = true := by decide +kernel
set_option maxHeartbeats 4000000 in
theorem q152_met {G : rfG} (h : okG G) : rf_met G q152_M := rf_methodB h.1 (P := q152_P) (U := q152_U) (N := q152_N) ⟨wflT h flokX12, wcsT h csokX12, wlcT h lcokX12, spokX12 h, List.forall_mem_cons.mpr ⟨q126_met h, fun _ h => absurd h List.not_mem_nil⟩, fun _ h => absurd h List.not_mem_nil, List.forall_mem_cons.mpr ⟨fun M hM => Option.some.inj (show some q126_M = some M from hM) ▸ wlkV (lkX12_350 h) q126_M rfl rfl, fun _ h => absurd h List.not_mem_nil⟩, fun _ h => absurd h List.not_mem_nil, fun _ h => absurd h List.not_mem_nil⟩ dkX12_layFar (by decide +kernel) (by rw [h.2.2.1]; exact q152_ok)
/-- NearSpellModel.nearestOf -/
def q153_M : rfM := ((⟨"NearSpellModel", "nearestOf", "(I)I"⟩, prog_14_method_66_code, 4, (some .int)), (1,21), ([.inr (.inl [114]),.inl ((0,0,0),none)],[((90,28),(0,0,0),none)]), [], [(some (.inl (((-1),(-1),0),none)),[],[])])
def ddX12_nearestOf : List (Nat × Instr × Nat) := [(0,.iconst (-1),1),(1,.istore_n 2,1),(2,.iconst 0,1),(3,.istore_n 3,1),(4,.iload_n 3,1),(5,.bipush 14,2),(7,.if_icmp .ge 77,3),(10,.iload_n 1,1),(11,.iload_n 3,1),(12,.invokestatic 251,3),(15,.ifCond .ne 6,3),(18,.goto 60,3),(21,.iload_n 2,1),(22,.ifCond .lt 54,3),(25,.aload_n 0,1),(26,.getfield 96,3),(29,.iload_n 3,1),(30,.iaload,1),(31,.aload_n 0,1),(32,.getfield 96,3),(35,.iload_n 2,1),(36,.iaload,1),(37,.if_icmp .lt 39,3),(40,.aload_n 0,1),(41,.getfield 96,3),(44,.iload_n 3,1),(45,.iaload,1),(46,.aload_n 0,1),(47,.getfield 96,3),(50,.iload_n 2,1),(51,.iaload,1),(52,.if_icmp .ne 26,3),(55,.aload_n 0,1),(56,.getfield 72,3),(59,.bipush 14,2),(61,.iload_n 3,1),(62,.iadd,1),(63,.iaload,1),(64,.aload_n 0,1),(65,.getfield 72,3),(68,.bipush 14,2),(70,.iload_n 2,1),(71,.iadd,1),(72,.iaload,1),(73,.if_icmp .le 5,3),(76,.iload_n 3,1),(77,.istore_n 2,1),(78,.iinc 3 1,3),(81,.goto (-77),3),(84,.iload_n 2,1),(85,.ireturn,1)]
set_option maxRecDepth 100000 in
theorem dkX12_nearestOf : rf_decs prog_14_method_66_code ddX12_nearestOf := rf_decs_of (by decide +kernel)
def q153_P : rfP := (flX12,csX12,lcX12,spX12,[q130_M],[(251,0)],[],([],[]))
def q153_U : rfU := []
set_option maxHeartbeats 8000000 in
def q153_N : List rfB := [(0,([(0,.inr (.inl [114])),(1,.inl ((0,0,0),none))],[],[((90,28),(0,0,0),some ((90,28),0,0))]),(170,[0]),0)]
set_option maxRecDepth 100000 in
theorem q153_ok : rf_chkB q153_P q153_U wLay q153_M ddX12_nearestOf [(12,[0])] [.inl 3] [0] 154 q153_N = true := by decide +kernel
set_option maxHeartbeats 4000000 in
theorem q153_met {G : rfG} (h : okG G) : rf_met G q153_M := rf_methodB h.1 (P := q153_P) (U := q153_U) (N := q153_N) ⟨wflT h flokX12, wcsT h csokX12, wlcT h lcokX12, spokX12 h, List.forall_mem_cons.mpr ⟨q130_met h, fun _ h => absurd h List.not_mem_nil⟩, List.forall_mem_cons.mpr ⟨fun M hM => Option.some.inj (show some q130_M = some M from hM) ▸ wlkS (lkX12_251 h) q130_M rfl rfl, fun _ h => absurd h List.not_mem_nil⟩, fun _ h => absurd h List.not_mem_nil, fun _ h => absurd h List.not_mem_nil, fun _ h => absurd h List.not_mem_nil⟩ dkX12_nearestOf (by decide +kernel) (by rw [h.2.2.1]; exact q153_ok)
/-- NearSpellModel.nearestTo -/
def q154_M : rfM := ((⟨"NearSpellModel", "nearestTo", "(I)I"⟩, prog_14_method_67_code, 3, (some .int)), (5,121), ([.inr (.inl [114]),.inl ((0,387420488,1),none)],[((75,0),(4,4,0),none),((76,0),(2,2,0),none),((77,0),(13,13,0),none),((80,0),(0,0,0),none),((90,28),(0,0,0),none),((114,28),(0,0,0),none),((114,34),(0,0,0),none),((114,39),(0,0,0),none),((114,44),(0,0,0),none),((114,45),(0,0,0),none)]), [(91,0),(93,0),(98,0),(114,35),(114,40)], [(some (.inl (((-1),(-1),0),none)),[],[])])
def ddX12_nearestTo : List (Nat × Instr × Nat) := [(0,.aload_n 0,1),(1,.iload_n 1,1),(2,.iconst 1,1),(3,.invokevirtual 411,3),(6,.istore_n 2,1),(7,.aload_n 0,1),(8,.iload_n 1,1),(9,.invokevirtual 414,3),(12,.aload_n 0,1),(13,.iload_n 2,1),(14,.invokevirtual 417,3),(17,.ireturn,1)]
set_option maxRecDepth 100000 in
theorem dkX12_nearestTo : rf_decs prog_14_method_67_code ddX12_nearestTo := rf_decs_of (by decide +kernel)
def q154_P : rfP := (flX12,csX12,lcX12,spX12,[q151_M,q152_M,q153_M],[],[(411,0,12),(414,1,12),(417,2,12)],([],[]))
def q154_U : rfU := []
set_option maxHeartbeats 8000000 in
def q154_N : List rfB := [(0,([(0,.inr (.inl [114])),(1,.inl ((0,387420488,1),none))],[],[((75,0),(4,4,0),some ((75,0),0,0)),((76,0),(2,2,0),some ((76,0),0,0)),((77,0),(13,13,0),some ((77,0),0,0)),((80,0),(0,0,0),some ((80,0),0,0)),((90,28),(0,0,0),some ((90,28),0,0)),((114,28),(0,0,0),some ((114,28),0,0)),((114,34),(0,0,0),some ((114,34),0,0)),((114,39),(0,0,0),some ((114,39),0,0)),((114,44),(0,0,0),some ((114,44),0,0)),((114,45),(0,0,0),some ((114,45),0,0))]),(11,[]),0)]
set_option maxRecDepth 100000 in
theorem q154_ok : rf_chkB q154_P q154_U wLay q154_M ddX12_nearestTo [(3,[0]),(9,[1]),(14,[2])] [] [0] 600 q154_N = true := by decide +kernel
set_option maxHeartbeats 4000000 in
theorem q154_met {G : rfG} (h : okG G) : rf_met G q154_M := rf_methodB h.1 (P := q154_P) (U := q154_U) (N := q154_N) ⟨wflT h flokX12, wcsT h csokX12, wlcT h lcokX12, spokX12 h, List.forall_mem_cons.mpr ⟨q151_met h, List.forall_mem_cons.mpr ⟨q152_met h, List.forall_mem_cons.mpr ⟨q153_met h, fun _ h => absurd h List.not_mem_nil⟩⟩⟩, fun _ h => absurd h List.not_mem_nil, List.forall_mem_cons.mpr ⟨fun M hM => Option.some.inj (show some q151_M = some M from hM) ▸ wlkV (lkX12_411 h) q151_M rfl rfl, List.forall_mem_cons.mpr ⟨fun M hM => Option.some.inj (show some q152_M = some M from hM) ▸ wlkV (lkX12_414 h) q152_M rfl rfl, List.forall_mem_cons.mpr ⟨fun M hM => Option.some.inj (show some q153_M = some M from hM) ▸ wlkV (lkX12_417 h) q153_M rfl rfl, fun _ h => absurd h List.not_mem_nil⟩⟩⟩, fun _ h => absurd h List.not_mem_nil, fun _ h => absurd h List.not_mem_nil⟩ dkX12_nearestTo (by decide +kernel) (by rw [h.2.2.1]; exact q154_ok)
/-- NearSpell.wipe -/
def q156_M : rfM := ((⟨"NearSpell", "wipe", "()I"⟩, prog_1_method_11_code, 2, (some .int)), (1,20), ([.inr (.inl [70])],[((12,34),(0,0,0),none),((12,35),(0,0,0),none),((12,36),(0,0,0),none),((16,3),(0,0,0),none),((16,4),(0,0,0),none)]), [], [(some (.inl (((-1),(-1),0),none)),[],[])])
def ddX11_wipe : List (Nat × Instr × Nat) := [(0,.aload_n 0,1),(1,.getfield 35,3),(4,.invokevirtual 189,3),(7,.istore_n 1,1),(8,.iload_n 1,1),(9,.ifCond .ne 5,3),(12,.iconst (-1),1),(13,.ireturn,1),(14,.aload_n 0,1),(15,.getfield 35,3),(18,.invokevirtual 201,3),(21,.aload_n 0,1),(22,.getfield 42,3),(25,.aload_n 0,1),(26,.getfield 35,3),(29,.invokevirtual 177,3),(32,.iload_n 1,1),(33,.ireturn,1)]
set_option maxRecDepth 100000 in
theorem dkX11_wipe : rf_decs prog_1_method_11_code ddX11_wipe := rf_decs_of (by decide +kernel)
def q156_P : rfP := (flX11,csX11,lcX11,spX11,[q87_M],[],[(189,0,8)],([],[]))
def q156_U : rfU := []
set_option maxHeartbeats 8000000 in
def q156_N : List rfB := [(0,([(0,.inr (.inl [70]))],[],[((12,34),(0,0,0),some ((12,34),0,0)),((12,35),(0,0,0),some ((12,35),0,0)),((12,36),(0,0,0),some ((12,36),0,0)),((16,3),(0,0,0),some ((16,3),0,0)),((16,4),(0,0,0),some ((16,4),0,0))]),(7,[]),0)]
set_option maxRecDepth 100000 in
theorem q156_ok : rf_chkB q156_P q156_U wLay q156_M ddX11_wipe [(4,[0])] [] [0] 600 q156_N = true := by decide +kernel
set_option maxHeartbeats 4000000 in
theorem q156_met {G : rfG} (h : okG G) : rf_met G q156_M := rf_methodB h.1 (P := q156_P) (U := q156_U) (N := q156_N) ⟨wflT h flokX11, wcsT h csokX11, wlcT h lcokX11, spokX11 h, List.forall_mem_cons.mpr ⟨q87_met h, fun _ h => absurd h List.not_mem_nil⟩, fun _ h => absurd h List.not_mem_nil, List.forall_mem_cons.mpr ⟨fun M hM => Option.some.inj (show some q87_M = some M from hM) ▸ wlkV (lkX11_189 h) q87_M rfl rfl, fun _ h => absurd h List.not_mem_nil⟩, fun _ h => absurd h List.not_mem_nil, fun _ h => absurd h List.not_mem_nil⟩ dkX11_wipe (by decide +kernel) (by rw [h.2.2.1]; exact q156_ok)
/-- NearSpellModel.wipe -/
def q157_M : rfM := ((⟨"NearSpellModel", "wipe", "()I"⟩, prog_14_method_112_code, 2, (some .int)), (0,0), ([.inr (.inl [114])],[((90,28),(0,0,0),none),((90,29),(0,0,0),none),((90,36),(0,0,0),none),((114,55),(0,0,0),none)]), [], [(some (.inl (((-1),(-1),0),none)),[],[])])
def ddX12_wipe : List (Nat × Instr × Nat) := [(0,.aload_n 0,1),(1,.getfield 72,3),(4,.bipush 29,2),(6,.iaload,1),(7,.istore_n 1,1),(8,.iload_n 1,1),(9,.ifCond .ne 5,3),(12,.iconst (-1),1),(13,.ireturn,1),(14,.aload_n 0,1),(15,.invokevirtual 471,3),(18,.aload_n 0,1),(19,.getfield 72,3),(22,.bipush 29,2),(24,.iconst 0,1),(25,.iastore,1),(26,.iload_n 1,1),(27,.ireturn,1)]
set_option maxRecDepth 100000 in
theorem dkX12_wipe : rf_decs prog_14_method_112_code ddX12_wipe := rf_decs_of (by decide +kernel)
def q157_P : rfP := (flX12,csX12,lcX12,spX12,[],[],[],([],[]))
def q157_U : rfU := []
set_option maxHeartbeats 8000000 in
def q157_N : List rfB := [(0,([(0,.inr (.inl [114]))],[],[((90,28),(0,0,0),some ((90,28),0,0)),((90,29),(0,0,0),some ((90,29),0,0)),((90,36),(0,0,0),some ((90,36),0,0)),((114,55),(0,0,0),some ((114,55),0,0))]),(8,[]),0)]
set_option maxRecDepth 100000 in
theorem q157_ok : rf_chkB q157_P q157_U wLay q157_M ddX12_wipe [] [] [0] 600 q157_N = true := by decide +kernel
set_option maxHeartbeats 4000000 in
theorem q157_met {G : rfG} (h : okG G) : rf_met G q157_M := rf_methodB h.1 (P := q157_P) (U := q157_U) (N := q157_N) ⟨wflT h flokX12, wcsT h csokX12, wlcT h lcokX12, spokX12 h, fun _ h => absurd h List.not_mem_nil, fun _ h => absurd h List.not_mem_nil, fun _ h => absurd h List.not_mem_nil, fun _ h => absurd h List.not_mem_nil, fun _ h => absurd h List.not_mem_nil⟩ dkX12_wipe (by decide +kernel) (by rw [h.2.2.1]; exact q157_ok)
/-- NearSpell.Archive.takeBack -/
def q158_M : rfM := ((⟨"NearSpell$Archive", "takeBack", "(LNearSpell$State;)Z"⟩, prog_2_method_4_code, 2, (some .boolean)), (0,0), ([.inr (.inl [16]),.inr (.inl [13])],[((12,34),(0,0,0),none),((12,35),(0,0,0),none),((12,36),(0,0,0),none),((16,3),(0,0,0),none),((16,4),(0,0,0),none),((16,5),(0,0,0),none)]), [], [(some (.inl ((0,0,0),none)),[],[])])
def ddX0_takeBack : List (Nat × Instr × Nat) := [(0,.aload_n 0,1),(1,.getfield 27,3),(4,.ifCond .ne 5,3),(7,.iconst 0,1),(8,.ireturn,1),(9,.aload_n 0,1),(10,.dup,1),(11,.getfield 27,3),(14,.iconst 1,1),(15,.isub,1),(16,.putfield 27,3),(19,.aload_n 0,1),(20,.dup,1),(21,.getfield 30,3),(24,.iconst 1,1),(25,.iadd,1),(26,.putfield 30,3),(29,.aload_n 0,1),(30,.aload_n 1,1),(31,.invokevirtual 37,3),(34,.iconst 1,1),(35,.ireturn,1)]
set_option maxRecDepth 100000 in
theorem dkX0_takeBack : rf_decs prog_2_method_4_code ddX0_takeBack := rf_decs_of (by decide +kernel)
def q158_P : rfP := (flX0,csX0,lcX0,spX0,[],[],[],([],[]))
def q158_U : rfU := []
set_option maxHeartbeats 8000000 in
def q158_N : List rfB := [(0,([(0,.inr (.inl [16])),(1,.inr (.inl [13]))],[],[((12,34),(0,0,0),some ((12,34),0,0)),((12,35),(0,0,0),some ((12,35),0,0)),((12,36),(0,0,0),some ((12,36),0,0)),((16,3),(0,0,0),some ((16,3),0,0)),((16,4),(0,0,0),some ((16,4),0,0)),((16,5),(0,0,0),some ((16,5),0,0))]),(4,[]),0)]
set_option maxRecDepth 100000 in
theorem q158_ok : rf_chkB q158_P q158_U wLay q158_M ddX0_takeBack [] [] [0] 600 q158_N = true := by decide +kernel
set_option maxHeartbeats 4000000 in
theorem q158_met {G : rfG} (h : okG G) : rf_met G q158_M := rf_methodB h.1 (P := q158_P) (U := q158_U) (N := q158_N) ⟨wflT h flokX0, wcsT h csokX0, wlcT h lcokX0, spokX0 h, fun _ h => absurd h List.not_mem_nil, fun _ h => absurd h List.not_mem_nil, fun _ h => absurd h List.not_mem_nil, fun _ h => absurd h List.not_mem_nil, fun _ h => absurd h List.not_mem_nil⟩ dkX0_takeBack (by decide +kernel) (by rw [h.2.2.1]; exact q158_ok)
/-- NearSpell.undo -/
def q159_M : rfM := ((⟨"NearSpell", "undo", "()Z"⟩, prog_1_method_12_code, 1, (some .boolean)), (1,21), ([.inr (.inl [70])],[((12,34),(0,0,0),none),((12,35),(0,0,0),none),((12,36),(0,0,0),none),((16,3),(0,0,0),none),((16,4),(0,0,0),none),((16,5),(0,0,0),none)]), [], [(some (.inl ((0,0,0),none)),[],[])])
def ddX11_undo : List (Nat × Instr × Nat) := [(0,.aload_n 0,1),(1,.getfield 42,3),(4,.aload_n 0,1),(5,.getfield 35,3),(8,.invokevirtual 204,3),(11,.ireturn,1)]
set_option maxRecDepth 100000 in
theorem dkX11_undo : rf_decs prog_1_method_12_code ddX11_undo := rf_decs_of (by decide +kernel)
def q159_P : rfP := (flX11,csX11,lcX11,spX11,[q158_M],[],[(204,0,0)],([],[]))
def q159_U : rfU := []
set_option maxHeartbeats 8000000 in
def q159_N : List rfB := [(0,([(0,.inr (.inl [70]))],[],[((12,34),(0,0,0),some ((12,34),0,0)),((12,35),(0,0,0),some ((12,35),0,0)),((12,36),(0,0,0),some ((12,36),0,0)),((16,3),(0,0,0),some ((16,3),0,0)),((16,4),(0,0,0),some ((16,4),0,0)),((16,5),(0,0,0),some ((16,5),0,0))]),(5,[]),0)]
set_option maxRecDepth 100000 in
theorem q159_ok : rf_chkB q159_P q159_U wLay q159_M ddX11_undo [(8,[0])] [] [0] 600 q159_N = true := by decide +kernel
set_option maxHeartbeats 4000000 in
theorem q159_met {G : rfG} (h : okG G) : rf_met G q159_M := rf_methodB h.1 (P := q159_P) (U := q159_U) (N := q159_N) ⟨wflT h flokX11, wcsT h csokX11, wlcT h lcokX11, spokX11 h, List.forall_mem_cons.mpr ⟨q158_met h, fun _ h => absurd h List.not_mem_nil⟩, fun _ h => absurd h List.not_mem_nil, List.forall_mem_cons.mpr ⟨fun M hM => Option.some.inj (show some q158_M = some M from hM) ▸ wlkV (lkX11_204 h) q158_M rfl rfl, fun _ h => absurd h List.not_mem_nil⟩, fun _ h => absurd h List.not_mem_nil, fun _ h => absurd h List.not_mem_nil⟩ dkX11_undo (by decide +kernel) (by rw [h.2.2.1]; exact q159_ok)
/-- NearSpellModel.undo -/
def q160_M : rfM := ((⟨"NearSpellModel", "undo", "()Z"⟩, prog_14_method_113_code, 1, (some .boolean)), (0,0), ([.inr (.inl [114])],[((90,28),(0,0,0),none),((90,29),(0,0,0),none),((90,36),(0,0,0),none),((114,55),(0,0,0),none),((114,56),(0,0,0),none)]), [], [(some (.inl ((0,0,0),none)),[],[])])
def ddX12_undo : List (Nat × Instr × Nat) := [(0,.aload_n 0,1),(1,.getfield 338,3),(4,.ifCond .ne 5,3),(7,.iconst 0,1),(8,.ireturn,1),(9,.aload_n 0,1),(10,.dup,1),(11,.getfield 338,3),(14,.iconst 1,1),(15,.isub,1),(16,.putfield 338,3),(19,.aload_n 0,1),(20,.dup,1),(21,.getfield 341,3),(24,.iconst 1,1),(25,.iadd,1),(26,.putfield 341,3),(29,.aload_n 0,1),(30,.invokevirtual 474,3),(33,.iconst 1,1),(34,.ireturn,1)]
set_option maxRecDepth 100000 in
theorem dkX12_undo : rf_decs prog_14_method_113_code ddX12_undo := rf_decs_of (by decide +kernel)
def q160_P : rfP := (flX12,csX12,lcX12,spX12,[],[],[],([],[]))
def q160_U : rfU := []
set_option maxHeartbeats 8000000 in
def q160_N : List rfB := [(0,([(0,.inr (.inl [114]))],[],[((90,28),(0,0,0),some ((90,28),0,0)),((90,29),(0,0,0),some ((90,29),0,0)),((90,36),(0,0,0),some ((90,36),0,0)),((114,55),(0,0,0),some ((114,55),0,0)),((114,56),(0,0,0),some ((114,56),0,0))]),(4,[]),0)]
set_option maxRecDepth 100000 in
theorem q160_ok : rf_chkB q160_P q160_U wLay q160_M ddX12_undo [] [] [0] 600 q160_N = true := by decide +kernel
set_option maxHeartbeats 4000000 in
theorem q160_met {G : rfG} (h : okG G) : rf_met G q160_M := rf_methodB h.1 (P := q160_P) (U := q160_U) (N := q160_N) ⟨wflT h flokX12, wcsT h csokX12, wlcT h lcokX12, spokX12 h, fun _ h => absurd h List.not_mem_nil, fun _ h => absurd h List.not_mem_nil, fun _ h => absurd h List.not_mem_nil, fun _ h => absurd h List.not_mem_nil, fun _ h => absurd h List.not_mem_nil⟩ dkX12_undo (by decide +kernel) (by rw [h.2.2.1]; exact q160_ok)
/-- NearSpell.Archive.doAgain -/
def q161_M : rfM := ((⟨"NearSpell$Archive", "doAgain", "(LNearSpell$State;)Z"⟩, prog_2_method_5_code, 2, (some .boolean)), (0,0), ([.inr (.inl [16]),.inr (.inl [13])],[((12,34),(0,0,0),none),((12,35),(0,0,0),none),((12,36),(0,0,0),none),((16,3),(0,0,0),none),((16,4),(0,0,0),none),((16,5),(0,0,0),none)]), [], [(some (.inl ((0,0,0),none)),[],[])])
def ddX0_doAgain : List (Nat × Instr × Nat) := [(0,.aload_n 0,1),(1,.getfield 30,3),(4,.ifCond .ne 5,3),(7,.iconst 0,1),(8,.ireturn,1),(9,.aload_n 0,1),(10,.dup,1),(11,.getfield 27,3),(14,.iconst 1,1),(15,.iadd,1),(16,.putfield 27,3),(19,.aload_n 0,1),(20,.dup,1),(21,.getfield 30,3),(24,.iconst 1,1),(25,.isub,1),(26,.putfield 30,3),(29,.aload_n 0,1),(30,.aload_n 1,1),(31,.invokevirtual 37,3),(34,.iconst 1,1),(35,.ireturn,1)]
set_option maxRecDepth 100000 in
theorem dkX0_doAgain : rf_decs prog_2_method_5_code ddX0_doAgain := rf_decs_of (by decide +kernel)
def q161_P : rfP := (flX0,csX0,lcX0,spX0,[],[],[],([],[]))
def q161_U : rfU := []
set_option maxHeartbeats 8000000 in
def q161_N : List rfB := [(0,([(0,.inr (.inl [16])),(1,.inr (.inl [13]))],[],[((12,34),(0,0,0),some ((12,34),0,0)),((12,35),(0,0,0),some ((12,35),0,0)),((12,36),(0,0,0),some ((12,36),0,0)),((16,3),(0,0,0),some ((16,3),0,0)),((16,4),(0,0,0),some ((16,4),0,0)),((16,5),(0,0,0),some ((16,5),0,0))]),(4,[]),0)]
set_option maxRecDepth 100000 in
theorem q161_ok : rf_chkB q161_P q161_U wLay q161_M ddX0_doAgain [] [] [0] 600 q161_N = true := by decide +kernel
set_option maxHeartbeats 4000000 in
theorem q161_met {G : rfG} (h : okG G) : rf_met G q161_M := rf_methodB h.1 (P := q161_P) (U := q161_U) (N := q161_N) ⟨wflT h flokX0, wcsT h csokX0, wlcT h lcokX0, spokX0 h, fun _ h => absurd h List.not_mem_nil, fun _ h => absurd h List.not_mem_nil, fun _ h => absurd h List.not_mem_nil, fun _ h => absurd h List.not_mem_nil, fun _ h => absurd h List.not_mem_nil⟩ dkX0_doAgain (by decide +kernel) (by rw [h.2.2.1]; exact q161_ok)
/-- NearSpell.redo -/
def q162_M : rfM := ((⟨"NearSpell", "redo", "()Z"⟩, prog_1_method_13_code, 1, (some .boolean)), (1,21), ([.inr (.inl [70])],[((12,34),(0,0,0),none),((12,35),(0,0,0),none),((12,36),(0,0,0),none),((16,3),(0,0,0),none),((16,4),(0,0,0),none),((16,5),(0,0,0),none)]), [], [(some (.inl ((0,0,0),none)),[],[])])
def ddX11_redo : List (Nat × Instr × Nat) := [(0,.aload_n 0,1),(1,.getfield 42,3),(4,.aload_n 0,1),(5,.getfield 35,3),(8,.invokevirtual 208,3),(11,.ireturn,1)]
set_option maxRecDepth 100000 in
theorem dkX11_redo : rf_decs prog_1_method_13_code ddX11_redo := rf_decs_of (by decide +kernel)
def q162_P : rfP := (flX11,csX11,lcX11,spX11,[q161_M],[],[(208,0,0)],([],[]))
def q162_U : rfU := []
set_option maxHeartbeats 8000000 in
def q162_N : List rfB := [(0,([(0,.inr (.inl [70]))],[],[((12,34),(0,0,0),some ((12,34),0,0)),((12,35),(0,0,0),some ((12,35),0,0)),((12,36),(0,0,0),some ((12,36),0,0)),((16,3),(0,0,0),some ((16,3),0,0)),((16,4),(0,0,0),some ((16,4),0,0)),((16,5),(0,0,0),some ((16,5),0,0))]),(5,[]),0)]
set_option maxRecDepth 100000 in
theorem q162_ok : rf_chkB q162_P q162_U wLay q162_M ddX11_redo [(8,[0])] [] [0] 600 q162_N = true := by decide +kernel
set_option maxHeartbeats 4000000 in
theorem q162_met {G : rfG} (h : okG G) : rf_met G q162_M := rf_methodB h.1 (P := q162_P) (U := q162_U) (N := q162_N) ⟨wflT h flokX11, wcsT h csokX11, wlcT h lcokX11, spokX11 h, List.forall_mem_cons.mpr ⟨q161_met h, fun _ h => absurd h List.not_mem_nil⟩, fun _ h => absurd h List.not_mem_nil, List.forall_mem_cons.mpr ⟨fun M hM => Option.some.inj (show some q161_M = some M from hM) ▸ wlkV (lkX11_208 h) q161_M rfl rfl, fun _ h => absurd h List.not_mem_nil⟩, fun _ h => absurd h List.not_mem_nil, fun _ h => absurd h List.not_mem_nil⟩ dkX11_redo (by decide +kernel) (by rw [h.2.2.1]; exact q162_ok)
/-- NearSpellModel.redo -/
def q163_M : rfM := ((⟨"NearSpellModel", "redo", "()Z"⟩, prog_14_method_114_code, 1, (some .boolean)), (0,0), ([.inr (.inl [114])],[((90,28),(0,0,0),none),((90,29),(0,0,0),none),((90,36),(0,0,0),none),((114,55),(0,0,0),none),((114,56),(0,0,0),none)]), [], [(some (.inl ((0,0,0),none)),[],[])])
def ddX12_redo : List (Nat × Instr × Nat) := [(0,.aload_n 0,1),(1,.getfield 341,3),(4,.ifCond .ne 5,3),(7,.iconst 0,1),(8,.ireturn,1),(9,.aload_n 0,1),(10,.invokevirtual 474,3),(13,.aload_n 0,1),(14,.dup,1),(15,.getfield 338,3),(18,.iconst 1,1),(19,.iadd,1),(20,.putfield 338,3),(23,.aload_n 0,1),(24,.dup,1),(25,.getfield 341,3),(28,.iconst 1,1),(29,.isub,1),(30,.putfield 341,3),(33,.iconst 1,1),(34,.ireturn,1)]
set_option maxRecDepth 100000 in
theorem dkX12_redo : rf_decs prog_14_method_114_code ddX12_redo := rf_decs_of (by decide +kernel)
def q163_P : rfP := (flX12,csX12,lcX12,spX12,[],[],[],([],[]))
def q163_U : rfU := []
set_option maxHeartbeats 8000000 in
def q163_N : List rfB := [(0,([(0,.inr (.inl [114]))],[],[((90,28),(0,0,0),some ((90,28),0,0)),((90,29),(0,0,0),some ((90,29),0,0)),((90,36),(0,0,0),some ((90,36),0,0)),((114,55),(0,0,0),some ((114,55),0,0)),((114,56),(0,0,0),some ((114,56),0,0))]),(4,[]),0)]
set_option maxRecDepth 100000 in
theorem q163_ok : rf_chkB q163_P q163_U wLay q163_M ddX12_redo [] [] [0] 600 q163_N = true := by decide +kernel
set_option maxHeartbeats 4000000 in
theorem q163_met {G : rfG} (h : okG G) : rf_met G q163_M := rf_methodB h.1 (P := q163_P) (U := q163_U) (N := q163_N) ⟨wflT h flokX12, wcsT h csokX12, wlcT h lcokX12, spokX12 h, fun _ h => absurd h List.not_mem_nil, fun _ h => absurd h List.not_mem_nil, fun _ h => absurd h List.not_mem_nil, fun _ h => absurd h List.not_mem_nil, fun _ h => absurd h List.not_mem_nil⟩ dkX12_redo (by decide +kernel) (by rw [h.2.2.1]; exact q163_ok)
/-- NearSpell.typed -/
def q164_M : rfM := ((⟨"NearSpell", "typed", "(I)I"⟩, prog_1_method_14_code, 2, (some .int)), (1,20), ([.inr (.inl [70]),.inl (((-2147483648),2147483647,1),none)],[((12,34),(0,0,0),none),((12,35),(0,0,0),none),((12,36),(0,0,0),none)]), [], [(some (.inl (((-1),(-1),0),none)),[],[])])
def ddX11_typed : List (Nat × Instr × Nat) := [(0,.iload_n 1,1),(1,.ifCond .lt 25,3),(4,.iload_n 1,1),(5,.aload_n 0,1),(6,.getfield 35,3),(9,.invokevirtual 189,3),(12,.if_icmp .ge 14,3),(15,.aload_n 0,1),(16,.getfield 35,3),(19,.iload_n 1,1),(20,.invokevirtual 211,3),(23,.goto 4,3),(26,.iconst (-1),1),(27,.ireturn,1)]
set_option maxRecDepth 100000 in
theorem dkX11_typed : rf_decs prog_1_method_14_code ddX11_typed := rf_decs_of (by decide +kernel)
def q164_P : rfP := (flX11,csX11,lcX11,spX11,[q87_M],[],[(189,0,8)],([],[]))
def q164_U : rfU := []
set_option maxHeartbeats 8000000 in
def q164_N : List rfB := [(0,([(0,.inr (.inl [70])),(1,.inl (((-2147483648),2147483647,1),none))],[],[((12,34),(0,0,0),some ((12,34),0,0)),((12,35),(0,0,0),some ((12,35),0,0)),((12,36),(0,0,0),some ((12,36),0,0))]),(8,[]),0)]
set_option maxRecDepth 100000 in
theorem q164_ok : rf_chkB q164_P q164_U wLay q164_M ddX11_typed [(9,[0])] [] [0] 14 q164_N = true := by decide +kernel
set_option maxHeartbeats 4000000 in
theorem q164_met {G : rfG} (h : okG G) : rf_met G q164_M := rf_methodB h.1 (P := q164_P) (U := q164_U) (N := q164_N) ⟨wflT h flokX11, wcsT h csokX11, wlcT h lcokX11, spokX11 h, List.forall_mem_cons.mpr ⟨q87_met h, fun _ h => absurd h List.not_mem_nil⟩, fun _ h => absurd h List.not_mem_nil, List.forall_mem_cons.mpr ⟨fun M hM => Option.some.inj (show some q87_M = some M from hM) ▸ wlkV (lkX11_189 h) q87_M rfl rfl, fun _ h => absurd h List.not_mem_nil⟩, fun _ h => absurd h List.not_mem_nil, fun _ h => absurd h List.not_mem_nil⟩ dkX11_typed (by decide +kernel) (by rw [h.2.2.1]; exact q164_ok)
/-- NearSpellModel.typed -/
def q165_M : rfM := ((⟨"NearSpellModel", "typed", "(I)I"⟩, prog_14_method_69_code, 2, (some .int)), (1,22), ([.inr (.inl [114]),.inl (((-2147483648),2147483647,1),none)],[((90,28),(0,0,0),none),((90,29),(0,0,0),none),((90,36),(0,0,0),none)]), [], [(some (.inl (((-1),(-1),0),none)),[],[])])
def ddX12_typed : List (Nat × Instr × Nat) := [(0,.iload_n 1,1),(1,.iconst 0,1),(2,.aload_n 0,1),(3,.getfield 72,3),(6,.bipush 29,2),(8,.iaload,1),(9,.iconst 1,1),(10,.isub,1),(11,.invokestatic 334,3),(14,.ifCond .eq 15,3),(17,.aload_n 0,1),(18,.getfield 72,3),(21,.bipush 30,2),(23,.iload_n 1,1),(24,.iadd,1),(25,.iaload,1),(26,.goto 4,3),(29,.iconst (-1),1),(30,.ireturn,1)]
set_option maxRecDepth 100000 in
theorem dkX12_typed : rf_decs prog_14_method_69_code ddX12_typed := rf_decs_of (by decide +kernel)
def q165_P : rfP := (flX12,csX12,lcX12,spX12,[q40_M],[(334,0)],[],([],[]))
def q165_U : rfU := []
set_option maxHeartbeats 8000000 in
def q165_N : List rfB := [(0,([(0,.inr (.inl [114])),(1,.inl (((-2147483648),2147483647,1),none))],[],[((90,28),(0,0,0),some ((90,28),0,0)),((90,29),(0,0,0),some ((90,29),0,0)),((90,36),(0,0,0),some ((90,36),0,0))]),(11,[]),0)]
set_option maxRecDepth 100000 in
theorem q165_ok : rf_chkB q165_P q165_U wLay q165_M ddX12_typed [(11,[0])] [] [0] 600 q165_N = true := by decide +kernel
set_option maxHeartbeats 4000000 in
theorem q165_met {G : rfG} (h : okG G) : rf_met G q165_M := rf_methodB h.1 (P := q165_P) (U := q165_U) (N := q165_N) ⟨wflT h flokX12, wcsT h csokX12, wlcT h lcokX12, spokX12 h, List.forall_mem_cons.mpr ⟨q40_met h, fun _ h => absurd h List.not_mem_nil⟩, List.forall_mem_cons.mpr ⟨fun M hM => Option.some.inj (show some q40_M = some M from hM) ▸ wlkS (lkX12_334 h) q40_M rfl rfl, fun _ h => absurd h List.not_mem_nil⟩, fun _ h => absurd h List.not_mem_nil, fun _ h => absurd h List.not_mem_nil, fun _ h => absurd h List.not_mem_nil⟩ dkX12_typed (by decide +kernel) (by rw [h.2.2.1]; exact q165_ok)
/-- NearSpell.totalOf -/
def q168_M : rfM := ((⟨"NearSpell", "totalOf", "(I)I"⟩, prog_1_method_54_code, 4, (some .int)), (0,0), ([.inl (((-2147483648),2147483647,1),none)],[]), [], [(some (.inl (((-2147483648),2147483647,1),none)),[],[])])
def ddX11_totalOf : List (Nat × Instr × Nat) := [(0,.iconst 0,1),(1,.istore_n 1,1),(2,.iload_n 0,1),(3,.istore_n 2,1),(4,.iconst 0,1),(5,.istore_n 3,1),(6,.iload_n 3,1),(7,.bipush 6,2),(9,.if_icmp .ge 25,3),(12,.iload_n 2,1),(13,.ifCond .eq 21,3),(16,.iload_n 1,1),(17,.iload_n 2,1),(18,.bipush 27,2),(20,.irem,1),(21,.iadd,1),(22,.istore_n 1,1),(23,.iload_n 2,1),(24,.bipush 27,2),(26,.idiv,1),(27,.istore_n 2,1),(28,.iinc 3 1,3),(31,.goto (-25),3),(34,.iload_n 1,1),(35,.ireturn,1)]
set_option maxRecDepth 100000 in
theorem dkX11_totalOf : rf_decs prog_1_method_54_code ddX11_totalOf := rf_decs_of (by decide +kernel)
def q168_P : rfP := (flX11,csX11,lcX11,spX11,[],[],[],([],[]))
def q168_U : rfU := []
set_option maxHeartbeats 8000000 in
def q168_N : List rfB := [(0,([(0,.inl (((-2147483648),2147483647,1),none))],[],[]),(133,[0]),0)]
set_option maxRecDepth 100000 in
theorem q168_ok : rf_chkB q168_P q168_U wLay q168_M ddX11_totalOf [] [.inl 3] [0] 118 q168_N = true := by decide +kernel
set_option maxHeartbeats 4000000 in
theorem q168_met {G : rfG} (h : okG G) : rf_met G q168_M := rf_methodB h.1 (P := q168_P) (U := q168_U) (N := q168_N) ⟨wflT h flokX11, wcsT h csokX11, wlcT h lcokX11, spokX11 h, fun _ h => absurd h List.not_mem_nil, fun _ h => absurd h List.not_mem_nil, fun _ h => absurd h List.not_mem_nil, fun _ h => absurd h List.not_mem_nil, fun _ h => absurd h List.not_mem_nil⟩ dkX11_totalOf (by decide +kernel) (by rw [h.2.2.1]; exact q168_ok)
/-- NearSpell.Book.bucketOf -/
def q169_M : rfM := ((⟨"NearSpell$Book", "bucketOf", "(I)I"⟩, prog_3_method_7_code, 4, (some .int)), (1,23), ([.inr (.inl [5]),.inl (((-2147483648),2147483647,1),none)],[((5,7),(13,13,0),none),((5,11),(0,0,0),none),((5,12),(0,0,0),none),((10,7),(13,13,0),none),((10,11),(0,0,0),none),((10,12),(0,0,0),none)]), [], [(some (.inl ((0,12,1),none)),[],[])])
def ddX1_bucketOf : List (Nat × Instr × Nat) := [(0,.aload_n 0,1),(1,.getfield 49,3),(4,.ifCond .ne 18,3),(7,.iload_n 1,1),(8,.invokestatic 61,3),(11,.bipush 7,2),(13,.imul,1),(14,.iload_n 1,1),(15,.invokestatic 65,3),(18,.iadd,1),(19,.goto 8,3),(22,.aload_n 0,1),(23,.iload_n 1,1),(24,.invokevirtual 68,3),(27,.istore_n 2,1),(28,.aload_n 0,1),(29,.getfield 37,3),(32,.ifCond .gt 5,3),(35,.iconst 0,1),(36,.ireturn,1),(37,.iload_n 2,1),(38,.aload_n 0,1),(39,.getfield 37,3),(42,.irem,1),(43,.istore_n 3,1),(44,.iload_n 3,1),(45,.ifCond .ge 12,3),(48,.iload_n 3,1),(49,.aload_n 0,1),(50,.getfield 37,3),(53,.iadd,1),(54,.goto 4,3),(57,.iload_n 3,1),(58,.ireturn,1)]
set_option maxRecDepth 100000 in
theorem dkX1_bucketOf : rf_decs prog_3_method_7_code ddX1_bucketOf := rf_decs_of (by decide +kernel)
def q169_P : rfP := (flX1,csX1,lcX1,spX1,[q168_M,q98_M],[(61,0),(65,1)],[],([],[]))
def q169_U : rfU := []
set_option maxHeartbeats 8000000 in
def q169_N : List rfB := [(0,([(0,.inr (.inl [5])),(1,.inl (((-2147483648),2147483647,1),none))],[],[((5,7),(13,13,0),some ((5,7),0,0)),((5,11),(0,0,0),some ((5,11),0,0)),((5,12),(0,0,0),some ((5,12),0,0)),((10,7),(13,13,0),some ((10,7),0,0)),((10,11),(0,0,0),some ((10,11),0,0)),((10,12),(0,0,0),some ((10,12),0,0))]),(28,[]),0)]
set_option maxRecDepth 100000 in
theorem q169_ok : rf_chkB q169_P q169_U wLay q169_M ddX1_bucketOf [(8,[0]),(15,[1])] [] [0] 33 q169_N = true := by decide +kernel
set_option maxHeartbeats 4000000 in
theorem q169_met {G : rfG} (h : okG G) : rf_met G q169_M := rf_methodB h.1 (P := q169_P) (U := q169_U) (N := q169_N) ⟨wflT h flokX1, wcsT h csokX1, wlcT h lcokX1, spokX1 h, List.forall_mem_cons.mpr ⟨q168_met h, List.forall_mem_cons.mpr ⟨q98_met h, fun _ h => absurd h List.not_mem_nil⟩⟩, List.forall_mem_cons.mpr ⟨fun M hM => Option.some.inj (show some q168_M = some M from hM) ▸ wlkS (lkX1_61 h) q168_M rfl rfl, List.forall_mem_cons.mpr ⟨fun M hM => Option.some.inj (show some q98_M = some M from hM) ▸ wlkS (lkX1_65 h) q98_M rfl rfl, fun _ h => absurd h List.not_mem_nil⟩⟩, fun _ h => absurd h List.not_mem_nil, fun _ h => absurd h List.not_mem_nil, fun _ h => absurd h List.not_mem_nil⟩ dkX1_bucketOf (by decide +kernel) (by rw [h.2.2.1]; exact q169_ok)
/-- NearSpell.FormList.bucketBits -/
def q170_M : rfM := ((⟨"NearSpell$FormList", "bucketBits", "(LNearSpell$Book;)I"⟩, prog_5_method_7_code, 4, (some .int)), (2,46), ([.inr (.inl [50]),.inr (.inl [5])],[((5,7),(13,13,0),none),((5,11),(0,0,0),none),((5,12),(0,0,0),none),((10,7),(13,13,0),none),((10,11),(0,0,0),none),((10,12),(0,0,0),none)]), [], [(some (.inl ((0,8191,1),none)),[],[])])
def ddX3_bucketBits : List (Nat × Instr × Nat) := [(0,.iconst 0,1),(1,.istore_n 2,1),(2,.iconst 0,1),(3,.istore_n 3,1),(4,.iload_n 3,1),(5,.aload_n 0,1),(6,.getfield 15,3),(9,.if_icmp .ge 24,3),(12,.iload_n 2,1),(13,.iconst 1,1),(14,.aload_n 1,1),(15,.aload_n 0,1),(16,.getfield 9,3),(19,.iload_n 3,1),(20,.iaload,1),(21,.invokevirtual 50,3),(24,.ishl,1),(25,.ior,1),(26,.istore_n 2,1),(27,.iinc 3 1,3),(30,.goto (-26),3),(33,.iload_n 2,1),(34,.ireturn,1)]
set_option maxRecDepth 100000 in
theorem dkX3_bucketBits : rf_decs prog_5_method_7_code ddX3_bucketBits := rf_decs_of (by decide +kernel)
def q170_P : rfP := (flX3,csX3,lcX3,spX3,[q169_M],[],[(50,0,1)],([],[]))
def q170_U : rfU := []
set_option maxHeartbeats 8000000 in
def q170_N : List rfB := [(0,([(0,.inr (.inl [50])),(1,.inr (.inl [5]))],[],[((5,7),(13,13,0),some ((5,7),0,0)),((5,11),(0,0,0),some ((5,11),0,0)),((5,12),(0,0,0),some ((5,12),0,0)),((10,7),(13,13,0),some ((10,7),0,0)),((10,11),(0,0,0),some ((10,11),0,0)),((10,12),(0,0,0),some ((10,12),0,0))]),(419,[0]),0)]
set_option maxRecDepth 100000 in
theorem q170_ok : rf_chkB q170_P q170_U wLay q170_M ddX3_bucketBits [(21,[0])] [.inl 3] [0] 389 q170_N = true := by decide +kernel
set_option maxHeartbeats 4000000 in
theorem q170_met {G : rfG} (h : okG G) : rf_met G q170_M := rf_methodB h.1 (P := q170_P) (U := q170_U) (N := q170_N) ⟨wflT h flokX3, wcsT h csokX3, wlcT h lcokX3, spokX3 h, List.forall_mem_cons.mpr ⟨q169_met h, fun _ h => absurd h List.not_mem_nil⟩, fun _ h => absurd h List.not_mem_nil, List.forall_mem_cons.mpr ⟨fun M hM => Option.some.inj (show some q169_M = some M from hM) ▸ wlkV (lkX3_50 h) q169_M rfl rfl, fun _ h => absurd h List.not_mem_nil⟩, fun _ h => absurd h List.not_mem_nil, fun _ h => absurd h List.not_mem_nil⟩ dkX3_bucketBits (by decide +kernel) (by rw [h.2.2.1]; exact q170_ok)
/-- NearSpell.Finder.metBy -/
def q171_M : rfM := ((⟨"NearSpell$Finder", "metBy", "(I)I"⟩, prog_4_method_2_code, 5, (some .int)), (4,93), ([.inr (.inl [55]),.inl ((0,387420488,1),none)],[((5,5),(4,4,0),none),((5,6),(2,2,0),none),((5,7),(13,13,0),none),((5,11),(0,0,0),none),((5,12),(0,0,0),none),((10,5),(4,4,0),none),((10,6),(2,2,0),none),((10,7),(13,13,0),none),((10,11),(0,0,0),none),((10,12),(0,0,0),none),((12,34),(0,0,0),none),((12,35),(0,0,0),none),((12,36),(0,0,0),none)]), [(49,0),(50,2),(50,3),(50,4),(50,5)], [(some (.inl ((0,0,0),none)),[],[((50,2),(0,387420488,1),none),((50,3),(4,4,1),none),((50,4),(2,2,1),none)])])
def ddX2_metBy : List (Nat × Instr × Nat) := [(0,.aload_n 0,1),(1,.getfield 19,3),(4,.iload_n 1,1),(5,.invokevirtual 31,3),(8,.aload_n 0,1),(9,.getfield 9,3),(12,.invokevirtual 37,3),(15,.istore_n 2,1),(16,.iconst 0,1),(17,.istore_n 3,1),(18,.iconst 0,1),(19,.istore 4,2),(21,.iload 4,2),(23,.aload_n 0,1),(24,.getfield 15,3),(27,.invokevirtual 43,3),(30,.if_icmp .ge 49,3),(33,.aload_n 0,1),(34,.getfield 15,3),(37,.iload 4,2),(39,.invokevirtual 49,3),(42,.ifCond .eq 31,3),(45,.aload_n 0,1),(46,.getfield 19,3),(49,.iload 4,2),(51,.invokevirtual 53,3),(54,.aload_n 0,1),(55,.getfield 9,3),(58,.invokevirtual 37,3),(61,.iload_n 2,1),(62,.iand,1),(63,.ifCond .eq 10,3),(66,.iload_n 3,1),(67,.iconst 1,1),(68,.iload 4,2),(70,.ishl,1),(71,.ior,1),(72,.istore_n 3,1),(73,.iinc 4 1,3),(76,.goto (-55),3),(79,.iload_n 3,1),(80,.ireturn,1)]
set_option maxRecDepth 100000 in
theorem dkX2_metBy : rf_decs prog_4_method_2_code ddX2_metBy := rf_decs_of (by decide +kernel)
def q171_P : rfP := (flX2,csX2,lcX2,spX2,[q113_M,q170_M,q46_M],[],[(31,0,4),(37,1,3),(43,2,8)],([],[]))
def q171_U : rfU := []
set_option maxHeartbeats 8000000 in
def q171_N : List rfB := [(0,([(0,.inr (.inl [55])),(1,.inl ((0,387420488,1),none))],[],[((5,5),(4,4,0),some ((5,5),0,0)),((5,6),(2,2,0),some ((5,6),0,0)),((5,7),(13,13,0),some ((5,7),0,0)),((5,11),(0,0,0),some ((5,11),0,0)),((5,12),(0,0,0),some ((5,12),0,0)),((10,5),(4,4,0),some ((10,5),0,0)),((10,6),(2,2,0),some ((10,6),0,0)),((10,7),(13,13,0),some ((10,7),0,0)),((10,11),(0,0,0),some ((10,11),0,0)),((10,12),(0,0,0),some ((10,12),0,0)),((12,34),(0,0,0),some ((12,34),0,0)),((12,35),(0,0,0),some ((12,35),0,0)),((12,36),(0,0,0),some ((12,36),0,0))]),(18,[]),0)]
set_option maxRecDepth 100000 in
theorem q171_ok : rf_chkB q171_P q171_U wLay q171_M ddX2_metBy [(5,[0]),(12,[1]),(27,[2])] [] [0] 600 q171_N = true := by decide +kernel
set_option maxHeartbeats 4000000 in
theorem q171_met {G : rfG} (h : okG G) : rf_met G q171_M := rf_methodB h.1 (P := q171_P) (U := q171_U) (N := q171_N) ⟨wflT h flokX2, wcsT h csokX2, wlcT h lcokX2, spokX2 h, List.forall_mem_cons.mpr ⟨q113_met h, List.forall_mem_cons.mpr ⟨q170_met h, List.forall_mem_cons.mpr ⟨q46_met h, fun _ h => absurd h List.not_mem_nil⟩⟩⟩, fun _ h => absurd h List.not_mem_nil, List.forall_mem_cons.mpr ⟨fun M hM => Option.some.inj (show some q113_M = some M from hM) ▸ wlkV (lkX2_31 h) q113_M rfl rfl, List.forall_mem_cons.mpr ⟨fun M hM => Option.some.inj (show some q170_M = some M from hM) ▸ wlkV (lkX2_37 h) q170_M rfl rfl, List.forall_mem_cons.mpr ⟨fun M hM => Option.some.inj (show some q46_M = some M from hM) ▸ wlkV (lkX2_43 h) q46_M rfl rfl, fun _ h => absurd h List.not_mem_nil⟩⟩⟩, fun _ h => absurd h List.not_mem_nil, fun _ h => absurd h List.not_mem_nil⟩ dkX2_metBy (by decide +kernel) (by rw [h.2.2.1]; exact q171_ok)
/-- NearSpellModel.isIn -/
def q173_M : rfM := ((⟨"NearSpellModel", "isIn", "(III)Z"⟩, prog_14_method_35_code, 3, (some .boolean)), (0,0), ([.inl ((0,0,0),none),.inl ((0,0,0),none),.inl ((2,2,0),none)],[]), [], [(some (.inl ((1,1,0),none)),[],[])])
def q173_P : rfP := (flX12,csX12,lcX12,spX12,[],[],[],([],[]))
def q173_U : rfU := []
set_option maxHeartbeats 8000000 in
def q173_N : List rfB := [(0,([(0,.inl ((0,0,0),none)),(1,.inl ((0,0,0),none)),(2,.inl ((2,2,0),none))],[],[]),(8,[]),0)]
set_option maxRecDepth 100000 in
theorem q173_ok : rf_chkB q173_P q173_U wLay q173_M ddX12_isIn [] [] [0] 600 q173_N = true := by decide +kernel
set_option maxHeartbeats 4000000 in
theorem q173_met {G : rfG} (h : okG G) : rf_met G q173_M := rf_methodB h.1 (P := q173_P) (U := q173_U) (N := q173_N) ⟨wflT h flokX12, wcsT h csokX12, wlcT h lcokX12, spokX12 h, fun _ h => absurd h List.not_mem_nil, fun _ h => absurd h List.not_mem_nil, fun _ h => absurd h List.not_mem_nil, fun _ h => absurd h List.not_mem_nil, fun _ h => absurd h List.not_mem_nil⟩ dkX12_isIn (by decide +kernel) (by rw [h.2.2.1]; exact q173_ok)
/-- NearSpellModel.layStore -/
def q174_M : rfM := ((⟨"NearSpellModel", "layStore", "(I)I"⟩, prog_14_method_51_code, 5, (some .int)), (2,43), ([.inr (.inl [114]),.inl ((2,2,0),none)],[((75,0),(4,4,0),none),((90,28),(0,0,0),none),((90,29),(0,0,0),none),((90,36),(0,0,0),none),((114,28),(0,0,0),none),((114,39),(0,0,0),none)]), [(93,0)], [(some (.inl ((0,0,0),none)),[],[])])
def q174_P : rfP := (flX12,csX12,lcX12,spX12,[q68_M],[],[(350,0,12)],([],[]))
def q174_U : rfU := []
set_option maxHeartbeats 8000000 in
def q174_N : List rfB := [(0,([(0,.inr (.inl [114])),(1,.inl ((2,2,0),none))],[],[((75,0),(4,4,0),some ((75,0),0,0)),((90,28),(0,0,0),some ((90,28),0,0)),((90,29),(0,0,0),some ((90,29),0,0)),((90,36),(0,0,0),some ((90,36),0,0)),((114,28),(0,0,0),some ((114,28),0,0)),((114,39),(0,0,0),some ((114,39),0,0))]),(245,[0]),0)]
set_option maxRecDepth 100000 in
theorem q174_ok : rf_chkB q174_P q174_U wLay q174_M ddX12_layStore [(19,[0])] [.inl 3] [0] 224 q174_N = true := by decide +kernel
set_option maxHeartbeats 4000000 in
theorem q174_met {G : rfG} (h : okG G) : rf_met G q174_M := rf_methodB h.1 (P := q174_P) (U := q174_U) (N := q174_N) ⟨wflT h flokX12, wcsT h csokX12, wlcT h lcokX12, spokX12 h, List.forall_mem_cons.mpr ⟨q68_met h, fun _ h => absurd h List.not_mem_nil⟩, fun _ h => absurd h List.not_mem_nil, List.forall_mem_cons.mpr ⟨fun M hM => Option.some.inj (show some q68_M = some M from hM) ▸ wlkV (lkX12_350 h) q68_M rfl rfl, fun _ h => absurd h List.not_mem_nil⟩, fun _ h => absurd h List.not_mem_nil, fun _ h => absurd h List.not_mem_nil⟩ dkX12_layStore (by decide +kernel) (by rw [h.2.2.1]; exact q174_ok)
/-- NearSpellModel.metBy -/
def q175_M : rfM := ((⟨"NearSpellModel", "metBy", "(II)I"⟩, prog_14_method_55_code, 9, (some .int)), (4,93), ([.inr (.inl [114]),.inl ((0,387420488,1),none),.inl ((0,0,0),none)],[((75,0),(4,4,0),none),((76,0),(2,2,0),none),((77,0),(13,13,0),none),((80,0),(0,0,0),none),((90,28),(0,0,0),none),((90,29),(0,0,0),none),((90,36),(0,0,0),none),((114,28),(0,0,0),none),((114,34),(0,0,0),none),((114,39),(0,0,0),none)]), [(91,0),(93,0),(114,35),(114,40)], [(some (.inl ((0,0,0),none)),[],[])])
def q175_P : rfP := (flX12,csX12,lcX12,spX12,[q118_M,q174_M,q146_M,q150_M],[],[(366,2,12),(369,3,12),(372,0,12),(375,1,12)],([],[]))
def q175_U : rfU := []
set_option maxHeartbeats 8000000 in
def q175_N : List rfB := [(0,([(0,.inr (.inl [114])),(1,.inl ((0,387420488,1),none)),(2,.inl ((0,0,0),none))],[],[((75,0),(4,4,0),some ((75,0),0,0)),((76,0),(2,2,0),some ((76,0),0,0)),((77,0),(13,13,0),some ((77,0),0,0)),((80,0),(0,0,0),some ((80,0),0,0)),((90,28),(0,0,0),some ((90,28),0,0)),((90,29),(0,0,0),some ((90,29),0,0)),((90,36),(0,0,0),some ((90,36),0,0)),((114,28),(0,0,0),some ((114,28),0,0)),((114,34),(0,0,0),some ((114,34),0,0)),((114,39),(0,0,0),some ((114,39),0,0))]),(1194,[0]),0),
  (24,([(0,.inr (.inl [114])),(1,.inl ((0,387420488,1),none)),(2,.inl ((0,0,0),none)),(3,.inl ((0,0,0),none)),(4,.inl ((0,8191,1),none)),(5,.inl ((0,64,1),none))],[],[((75,0),(4,4,0),some ((75,0),0,0)),((76,0),(2,2,0),some ((76,0),0,0)),((77,0),(13,13,0),some ((77,0),0,0)),((80,0),(0,0,0),some ((80,0),0,0)),((90,28),(0,0,0),some ((90,28),0,0)),((90,29),(0,0,0),some ((90,29),0,0)),((90,36),(0,0,0),some ((90,36),0,0)),((114,28),(0,0,0),some ((114,28),0,0))]),(1178,[(-18)]),0)]
set_option maxRecDepth 100000 in
theorem q175_ok : rf_chkB q175_P q175_U wLay q175_M ddX12_metBy [(2,[0]),(5,[1]),(12,[0]),(15,[2]),(44,[3])] [.inl 5] [0,24] 600 q175_N = true := by decide +kernel
set_option maxHeartbeats 4000000 in
theorem q175_met {G : rfG} (h : okG G) : rf_met G q175_M := rf_methodB h.1 (P := q175_P) (U := q175_U) (N := q175_N) ⟨wflT h flokX12, wcsT h csokX12, wlcT h lcokX12, spokX12 h, List.forall_mem_cons.mpr ⟨q118_met h, List.forall_mem_cons.mpr ⟨q174_met h, List.forall_mem_cons.mpr ⟨q146_met h, List.forall_mem_cons.mpr ⟨q150_met h, fun _ h => absurd h List.not_mem_nil⟩⟩⟩⟩, fun _ h => absurd h List.not_mem_nil, List.forall_mem_cons.mpr ⟨fun M hM => Option.some.inj (show some q146_M = some M from hM) ▸ wlkV (lkX12_366 h) q146_M rfl rfl, List.forall_mem_cons.mpr ⟨fun M hM => Option.some.inj (show some q150_M = some M from hM) ▸ wlkV (lkX12_369 h) q150_M rfl rfl, List.forall_mem_cons.mpr ⟨fun M hM => Option.some.inj (show some q118_M = some M from hM) ▸ wlkV (lkX12_372 h) q118_M rfl rfl, List.forall_mem_cons.mpr ⟨fun M hM => Option.some.inj (show some q174_M = some M from hM) ▸ wlkV (lkX12_375 h) q174_M rfl rfl, fun _ h => absurd h List.not_mem_nil⟩⟩⟩⟩, fun _ h => absurd h List.not_mem_nil, fun _ h => absurd h List.not_mem_nil⟩ dkX12_metBy (by decide +kernel) (by rw [h.2.2.1]; exact q175_ok)
/-- NearSpell.Finder.trulyMetBy -/
def q177_M : rfM := ((⟨"NearSpell$Finder", "trulyMetBy", "(I)I"⟩, prog_4_method_3_code, 5, (some .int)), (4,93), ([.inr (.inl [55]),.inl ((0,387420488,1),none)],[((5,5),(4,4,0),none),((5,6),(2,2,0),none),((10,5),(4,4,0),none),((10,6),(2,2,0),none),((12,34),(0,0,0),none),((12,35),(0,0,0),none),((12,36),(0,0,0),none)]), [(49,0),(50,2),(50,3),(50,4),(50,5)], [(some (.inl ((0,0,0),none)),[],[((50,2),(0,387420488,1),none),((50,3),(4,4,1),none),((50,4),(2,2,1),none)])])
def q177_P : rfP := (flX2,csX2,lcX2,spX2,[q113_M,q46_M],[],[(31,0,4),(43,1,8)],([],[]))
def q177_U : rfU := []
set_option maxHeartbeats 8000000 in
def q177_N : List rfB := [(0,([(0,.inr (.inl [55])),(1,.inl ((0,387420488,1),none))],[],[((5,5),(4,4,0),some ((5,5),0,0)),((5,6),(2,2,0),some ((5,6),0,0)),((10,5),(4,4,0),some ((10,5),0,0)),((10,6),(2,2,0),some ((10,6),0,0)),((12,34),(0,0,0),some ((12,34),0,0)),((12,35),(0,0,0),some ((12,35),0,0)),((12,36),(0,0,0),some ((12,36),0,0))]),(15,[]),0)]
set_option maxRecDepth 100000 in
theorem q177_ok : rf_chkB q177_P q177_U wLay q177_M ddX2_trulyMetBy [(5,[0]),(20,[1])] [] [0] 600 q177_N = true := by decide +kernel
set_option maxHeartbeats 4000000 in
theorem q177_met {G : rfG} (h : okG G) : rf_met G q177_M := rf_methodB h.1 (P := q177_P) (U := q177_U) (N := q177_N) ⟨wflT h flokX2, wcsT h csokX2, wlcT h lcokX2, spokX2 h, List.forall_mem_cons.mpr ⟨q113_met h, List.forall_mem_cons.mpr ⟨q46_met h, fun _ h => absurd h List.not_mem_nil⟩⟩, fun _ h => absurd h List.not_mem_nil, List.forall_mem_cons.mpr ⟨fun M hM => Option.some.inj (show some q113_M = some M from hM) ▸ wlkV (lkX2_31 h) q113_M rfl rfl, List.forall_mem_cons.mpr ⟨fun M hM => Option.some.inj (show some q46_M = some M from hM) ▸ wlkV (lkX2_43 h) q46_M rfl rfl, fun _ h => absurd h List.not_mem_nil⟩⟩, fun _ h => absurd h List.not_mem_nil, fun _ h => absurd h List.not_mem_nil⟩ dkX2_trulyMetBy (by decide +kernel) (by rw [h.2.2.1]; exact q177_ok)
/-- NearSpellModel.isIn -/
def q179_M : rfM := ((⟨"NearSpellModel", "isIn", "(III)Z"⟩, prog_14_method_35_code, 3, (some .boolean)), (0,0), ([.inl ((1,1,0),none),.inl ((0,0,0),none),.inl ((2,2,0),none)],[]), [], [(some (.inl ((1,1,0),none)),[],[])])
def q179_P : rfP := (flX12,csX12,lcX12,spX12,[],[],[],([],[]))
def q179_U : rfU := []
set_option maxHeartbeats 8000000 in
def q179_N : List rfB := [(0,([(0,.inl ((1,1,0),none)),(1,.inl ((0,0,0),none)),(2,.inl ((2,2,0),none))],[],[]),(8,[]),0)]
set_option maxRecDepth 100000 in
theorem q179_ok : rf_chkB q179_P q179_U wLay q179_M ddX12_isIn [] [] [0] 600 q179_N = true := by decide +kernel
set_option maxHeartbeats 4000000 in
theorem q179_met {G : rfG} (h : okG G) : rf_met G q179_M := rf_methodB h.1 (P := q179_P) (U := q179_U) (N := q179_N) ⟨wflT h flokX12, wcsT h csokX12, wlcT h lcokX12, spokX12 h, fun _ h => absurd h List.not_mem_nil, fun _ h => absurd h List.not_mem_nil, fun _ h => absurd h List.not_mem_nil, fun _ h => absurd h List.not_mem_nil, fun _ h => absurd h List.not_mem_nil⟩ dkX12_isIn (by decide +kernel) (by rw [h.2.2.1]; exact q179_ok)
/-- NearSpellModel.metBy -/
def q180_M : rfM := ((⟨"NearSpellModel", "metBy", "(II)I"⟩, prog_14_method_55_code, 9, (some .int)), (4,93), ([.inr (.inl [114]),.inl ((0,387420488,1),none),.inl ((1,1,0),none)],[((75,0),(4,4,0),none),((76,0),(2,2,0),none),((77,0),(13,13,0),none),((80,0),(0,0,0),none),((90,28),(0,0,0),none),((90,29),(0,0,0),none),((90,36),(0,0,0),none),((114,28),(0,0,0),none),((114,34),(0,0,0),none),((114,39),(0,0,0),none)]), [(91,0),(93,0),(114,35),(114,40)], [(some (.inl ((0,0,0),none)),[],[])])
def q180_P : rfP := (flX12,csX12,lcX12,spX12,[q118_M,q174_M,q146_M,q150_M],[],[(366,2,12),(369,3,12),(372,0,12),(375,1,12)],([],[]))
def q180_U : rfU := []
set_option maxHeartbeats 8000000 in
def q180_N : List rfB := [(0,([(0,.inr (.inl [114])),(1,.inl ((0,387420488,1),none)),(2,.inl ((1,1,0),none))],[],[((75,0),(4,4,0),some ((75,0),0,0)),((76,0),(2,2,0),some ((76,0),0,0)),((77,0),(13,13,0),some ((77,0),0,0)),((80,0),(0,0,0),some ((80,0),0,0)),((90,28),(0,0,0),some ((90,28),0,0)),((90,29),(0,0,0),some ((90,29),0,0)),((90,36),(0,0,0),some ((90,36),0,0)),((114,28),(0,0,0),some ((114,28),0,0)),((114,34),(0,0,0),some ((114,34),0,0)),((114,39),(0,0,0),some ((114,39),0,0))]),(1194,[0]),0),
  (24,([(0,.inr (.inl [114])),(1,.inl ((0,387420488,1),none)),(2,.inl ((1,1,0),none)),(3,.inl ((0,0,0),none)),(4,.inl ((0,8191,1),none)),(5,.inl ((0,64,1),none))],[],[((75,0),(4,4,0),some ((75,0),0,0)),((76,0),(2,2,0),some ((76,0),0,0)),((77,0),(13,13,0),some ((77,0),0,0)),((80,0),(0,0,0),some ((80,0),0,0)),((90,28),(0,0,0),some ((90,28),0,0)),((90,29),(0,0,0),some ((90,29),0,0)),((90,36),(0,0,0),some ((90,36),0,0)),((114,28),(0,0,0),some ((114,28),0,0))]),(1178,[(-18)]),0)]
set_option maxRecDepth 100000 in
theorem q180_ok : rf_chkB q180_P q180_U wLay q180_M ddX12_metBy [(2,[0]),(5,[1]),(12,[0]),(15,[2]),(44,[3])] [.inl 5] [0,24] 600 q180_N = true := by decide +kernel
set_option maxHeartbeats 4000000 in
theorem q180_met {G : rfG} (h : okG G) : rf_met G q180_M := rf_methodB h.1 (P := q180_P) (U := q180_U) (N := q180_N) ⟨wflT h flokX12, wcsT h csokX12, wlcT h lcokX12, spokX12 h, List.forall_mem_cons.mpr ⟨q118_met h, List.forall_mem_cons.mpr ⟨q174_met h, List.forall_mem_cons.mpr ⟨q146_met h, List.forall_mem_cons.mpr ⟨q150_met h, fun _ h => absurd h List.not_mem_nil⟩⟩⟩⟩, fun _ h => absurd h List.not_mem_nil, List.forall_mem_cons.mpr ⟨fun M hM => Option.some.inj (show some q146_M = some M from hM) ▸ wlkV (lkX12_366 h) q146_M rfl rfl, List.forall_mem_cons.mpr ⟨fun M hM => Option.some.inj (show some q150_M = some M from hM) ▸ wlkV (lkX12_369 h) q150_M rfl rfl, List.forall_mem_cons.mpr ⟨fun M hM => Option.some.inj (show some q118_M = some M from hM) ▸ wlkV (lkX12_372 h) q118_M rfl rfl, List.forall_mem_cons.mpr ⟨fun M hM => Option.some.inj (show some q174_M = some M from hM) ▸ wlkV (lkX12_375 h) q174_M rfl rfl, fun _ h => absurd h List.not_mem_nil⟩⟩⟩⟩, fun _ h => absurd h List.not_mem_nil, fun _ h => absurd h List.not_mem_nil⟩ dkX12_metBy (by decide +kernel) (by rw [h.2.2.1]; exact q180_ok)
/-- NearSpellModel.isIn -/
def q183_M : rfM := ((⟨"NearSpellModel", "isIn", "(III)Z"⟩, prog_14_method_35_code, 3, (some .boolean)), (0,0), ([.inl ((2,2,0),none),.inl ((0,0,0),none),.inl ((2,2,0),none)],[]), [], [(some (.inl ((1,1,0),none)),[],[])])
def q183_P : rfP := (flX12,csX12,lcX12,spX12,[],[],[],([],[]))
def q183_U : rfU := []
set_option maxHeartbeats 8000000 in
def q183_N : List rfB := [(0,([(0,.inl ((2,2,0),none)),(1,.inl ((0,0,0),none)),(2,.inl ((2,2,0),none))],[],[]),(8,[]),0)]
set_option maxRecDepth 100000 in
theorem q183_ok : rf_chkB q183_P q183_U wLay q183_M ddX12_isIn [] [] [0] 600 q183_N = true := by decide +kernel
set_option maxHeartbeats 4000000 in
theorem q183_met {G : rfG} (h : okG G) : rf_met G q183_M := rf_methodB h.1 (P := q183_P) (U := q183_U) (N := q183_N) ⟨wflT h flokX12, wcsT h csokX12, wlcT h lcokX12, spokX12 h, fun _ h => absurd h List.not_mem_nil, fun _ h => absurd h List.not_mem_nil, fun _ h => absurd h List.not_mem_nil, fun _ h => absurd h List.not_mem_nil, fun _ h => absurd h List.not_mem_nil⟩ dkX12_isIn (by decide +kernel) (by rw [h.2.2.1]; exact q183_ok)
/-- NearSpellModel.layStore -/
def q184_M : rfM := ((⟨"NearSpellModel", "layStore", "(I)I"⟩, prog_14_method_51_code, 5, (some .int)), (2,43), ([.inr (.inl [114]),.inl ((2,2,0),none)],[((75,0),(4,4,0),none),((90,28),(0,0,0),none),((90,29),(0,0,0),none),((90,36),(0,0,0),none),((114,28),(0,0,0),none)]), [(93,0)], [(some (.inl ((0,0,0),none)),[],[])])
def q184_P : rfP := (flX12,csX12,lcX12,spX12,[q68_M],[],[(350,0,12)],([],[]))
def q184_U : rfU := []
set_option maxHeartbeats 8000000 in
def q184_N : List rfB := [(0,([(0,.inr (.inl [114])),(1,.inl ((2,2,0),none))],[],[((75,0),(4,4,0),some ((75,0),0,0)),((90,28),(0,0,0),some ((90,28),0,0)),((90,29),(0,0,0),some ((90,29),0,0)),((90,36),(0,0,0),some ((90,36),0,0)),((114,28),(0,0,0),some ((114,28),0,0))]),(245,[0]),0)]
set_option maxRecDepth 100000 in
theorem q184_ok : rf_chkB q184_P q184_U wLay q184_M ddX12_layStore [(19,[0])] [.inl 3] [0] 224 q184_N = true := by decide +kernel
set_option maxHeartbeats 4000000 in
theorem q184_met {G : rfG} (h : okG G) : rf_met G q184_M := rf_methodB h.1 (P := q184_P) (U := q184_U) (N := q184_N) ⟨wflT h flokX12, wcsT h csokX12, wlcT h lcokX12, spokX12 h, List.forall_mem_cons.mpr ⟨q68_met h, fun _ h => absurd h List.not_mem_nil⟩, fun _ h => absurd h List.not_mem_nil, List.forall_mem_cons.mpr ⟨fun M hM => Option.some.inj (show some q68_M = some M from hM) ▸ wlkV (lkX12_350 h) q68_M rfl rfl, fun _ h => absurd h List.not_mem_nil⟩, fun _ h => absurd h List.not_mem_nil, fun _ h => absurd h List.not_mem_nil⟩ dkX12_layStore (by decide +kernel) (by rw [h.2.2.1]; exact q184_ok)
/-- NearSpellModel.metBy -/
def q185_M : rfM := ((⟨"NearSpellModel", "metBy", "(II)I"⟩, prog_14_method_55_code, 9, (some .int)), (4,93), ([.inr (.inl [114]),.inl ((0,387420488,1),none),.inl ((1,1,0),none)],[((75,0),(4,4,0),none),((76,0),(2,2,0),none),((77,0),(13,13,0),none),((80,0),(0,0,0),none),((90,28),(0,0,0),none),((90,29),(0,0,0),none),((90,36),(0,0,0),none),((114,28),(0,0,0),none)]), [(91,0),(93,0),(114,35),(114,40)], [(some (.inl ((0,0,0),none)),[],[])])
def q185_P : rfP := (flX12,csX12,lcX12,spX12,[q118_M,q184_M,q146_M,q150_M],[],[(366,2,12),(369,3,12),(372,0,12),(375,1,12)],([],[]))
def q185_U : rfU := []
set_option maxHeartbeats 8000000 in
def q185_N : List rfB := [(0,([(0,.inr (.inl [114])),(1,.inl ((0,387420488,1),none)),(2,.inl ((1,1,0),none))],[],[((75,0),(4,4,0),some ((75,0),0,0)),((76,0),(2,2,0),some ((76,0),0,0)),((77,0),(13,13,0),some ((77,0),0,0)),((80,0),(0,0,0),some ((80,0),0,0)),((90,28),(0,0,0),some ((90,28),0,0)),((90,29),(0,0,0),some ((90,29),0,0)),((90,36),(0,0,0),some ((90,36),0,0)),((114,28),(0,0,0),some ((114,28),0,0))]),(1194,[0]),0),
  (24,([(0,.inr (.inl [114])),(1,.inl ((0,387420488,1),none)),(2,.inl ((1,1,0),none)),(3,.inl ((0,0,0),none)),(4,.inl ((0,8191,1),none)),(5,.inl ((0,64,1),none))],[],[((75,0),(4,4,0),some ((75,0),0,0)),((76,0),(2,2,0),some ((76,0),0,0)),((77,0),(13,13,0),some ((77,0),0,0)),((80,0),(0,0,0),some ((80,0),0,0)),((90,28),(0,0,0),some ((90,28),0,0)),((90,29),(0,0,0),some ((90,29),0,0)),((90,36),(0,0,0),some ((90,36),0,0)),((114,28),(0,0,0),some ((114,28),0,0))]),(1178,[(-18)]),0)]
set_option maxRecDepth 100000 in
theorem q185_ok : rf_chkB q185_P q185_U wLay q185_M ddX12_metBy [(2,[0]),(5,[1]),(12,[0]),(15,[2]),(44,[3])] [.inl 5] [0,24] 600 q185_N = true := by decide +kernel
set_option maxHeartbeats 4000000 in
theorem q185_met {G : rfG} (h : okG G) : rf_met G q185_M := rf_methodB h.1 (P := q185_P) (U := q185_U) (N := q185_N) ⟨wflT h flokX12, wcsT h csokX12, wlcT h lcokX12, spokX12 h, List.forall_mem_cons.mpr ⟨q118_met h, List.forall_mem_cons.mpr ⟨q184_met h, List.forall_mem_cons.mpr ⟨q146_met h, List.forall_mem_cons.mpr ⟨q150_met h, fun _ h => absurd h List.not_mem_nil⟩⟩⟩⟩, fun _ h => absurd h List.not_mem_nil, List.forall_mem_cons.mpr ⟨fun M hM => Option.some.inj (show some q146_M = some M from hM) ▸ wlkV (lkX12_366 h) q146_M rfl rfl, List.forall_mem_cons.mpr ⟨fun M hM => Option.some.inj (show some q150_M = some M from hM) ▸ wlkV (lkX12_369 h) q150_M rfl rfl, List.forall_mem_cons.mpr ⟨fun M hM => Option.some.inj (show some q118_M = some M from hM) ▸ wlkV (lkX12_372 h) q118_M rfl rfl, List.forall_mem_cons.mpr ⟨fun M hM => Option.some.inj (show some q184_M = some M from hM) ▸ wlkV (lkX12_375 h) q184_M rfl rfl, fun _ h => absurd h List.not_mem_nil⟩⟩⟩⟩, fun _ h => absurd h List.not_mem_nil, fun _ h => absurd h List.not_mem_nil⟩ dkX12_metBy (by decide +kernel) (by rw [h.2.2.1]; exact q185_ok)
/-- NearSpell.met -/
def q187_M : rfM := ((⟨"NearSpell", "met", "(II)I"⟩, prog_1_method_18_code, 3, (some .int)), (1,22), ([.inr (.inl [70]),.inl (((-2147483648),2147483647,1),none),.inl (((-2147483648),(-1),1),none)],[((5,5),(4,4,0),none),((5,6),(2,2,0),none),((5,7),(13,13,0),none),((5,11),(0,0,0),none),((5,12),(0,0,0),none),((10,5),(4,4,0),none),((10,6),(2,2,0),none),((10,7),(13,13,0),none),((10,11),(0,0,0),none),((10,12),(0,0,0),none),((12,34),(0,0,0),none),((12,35),(0,0,0),none),((12,36),(0,0,0),none)]), [], [(some (.inl (((-1),(-1),0),none)),[],[])])
def ddX11_met : List (Nat × Instr × Nat) := [(0,.iload_n 1,1),(1,.invokestatic 163,3),(4,.ifCond .ne 5,3),(7,.iconst (-1),1),(8,.ireturn,1),(9,.iload_n 2,1),(10,.tableswitch 64 0 2 #[26, 35, 44],26),(36,.aload_n 0,1),(37,.getfield 67,3),(40,.iload_n 1,1),(41,.invokevirtual 226,3),(44,.ireturn,1),(45,.aload_n 0,1),(46,.getfield 67,3),(49,.iload_n 1,1),(50,.invokevirtual 229,3),(53,.ireturn,1),(54,.aload_n 0,1),(55,.getfield 67,3),(58,.iload_n 1,1),(59,.invokevirtual 226,3),(62,.aload_n 0,1),(63,.getfield 67,3),(66,.iload_n 1,1),(67,.invokevirtual 229,3),(70,.iconst (-1),1),(71,.ixor,1),(72,.iand,1),(73,.ireturn,1),(74,.iconst (-1),1),(75,.ireturn,1)]
set_option maxRecDepth 100000 in
theorem dkX11_met : rf_decs prog_1_method_18_code ddX11_met := rf_decs_of (by decide +kernel)
def q187_P : rfP := (flX11,csX11,lcX11,spX11,[q72_M],[(163,0)],[],([],[]))
def q187_U : rfU := []
set_option maxHeartbeats 8000000 in
def q187_N : List rfB := [(0,([(0,.inr (.inl [70])),(1,.inl (((-2147483648),2147483647,1),none)),(2,.inl (((-2147483648),(-1),1),none))],[],[((5,5),(4,4,0),some ((5,5),0,0)),((5,6),(2,2,0),some ((5,6),0,0)),((5,7),(13,13,0),some ((5,7),0,0)),((5,11),(0,0,0),some ((5,11),0,0)),((5,12),(0,0,0),some ((5,12),0,0)),((10,5),(4,4,0),some ((10,5),0,0)),((10,6),(2,2,0),some ((10,6),0,0)),((10,7),(13,13,0),some ((10,7),0,0)),((10,11),(0,0,0),some ((10,11),0,0)),((10,12),(0,0,0),some ((10,12),0,0)),((12,34),(0,0,0),some ((12,34),0,0)),((12,35),(0,0,0),some ((12,35),0,0)),((12,36),(0,0,0),some ((12,36),0,0))]),(9,[]),0)]
set_option maxRecDepth 100000 in
theorem q187_ok : rf_chkB q187_P q187_U wLay q187_M ddX11_met [(1,[0])] [] [0] 600 q187_N = true := by decide +kernel
set_option maxHeartbeats 4000000 in
theorem q187_met {G : rfG} (h : okG G) : rf_met G q187_M := rf_methodB h.1 (P := q187_P) (U := q187_U) (N := q187_N) ⟨wflT h flokX11, wcsT h csokX11, wlcT h lcokX11, spokX11 h, List.forall_mem_cons.mpr ⟨q72_met h, fun _ h => absurd h List.not_mem_nil⟩, List.forall_mem_cons.mpr ⟨fun M hM => Option.some.inj (show some q72_M = some M from hM) ▸ wlkS (lkX11_163 h) q72_M rfl rfl, fun _ h => absurd h List.not_mem_nil⟩, fun _ h => absurd h List.not_mem_nil, fun _ h => absurd h List.not_mem_nil, fun _ h => absurd h List.not_mem_nil⟩ dkX11_met (by decide +kernel) (by rw [h.2.2.1]; exact q187_ok)
/-- NearSpellModel.isIn -/
def q188_M : rfM := ((⟨"NearSpellModel", "isIn", "(III)Z"⟩, prog_14_method_35_code, 3, (some .boolean)), (0,0), ([.inl (((-2147483648),0,1),none),.inl ((0,0,0),none),.inl ((2,2,0),none)],[]), [], [(some (.inl ((1,1,0),none)),[(0,0,0)],[]),(some (.inl ((0,0,0),none)),[(0,(-2147483648),(-1))],[])])
def q188_P : rfP := (flX12,csX12,lcX12,spX12,[],[],[],([],[]))
def q188_U : rfU := []
set_option maxHeartbeats 8000000 in
def q188_N : List rfB := [(0,([(0,.inl (((-2147483648),0,1),none)),(1,.inl ((0,0,0),none)),(2,.inl ((2,2,0),none))],[],[]),(10,[]),0)]
set_option maxRecDepth 100000 in
theorem q188_ok : rf_chkB q188_P q188_U wLay q188_M ddX12_isIn [] [] [0] 600 q188_N = true := by decide +kernel
set_option maxHeartbeats 4000000 in
theorem q188_met {G : rfG} (h : okG G) : rf_met G q188_M := rf_methodB h.1 (P := q188_P) (U := q188_U) (N := q188_N) ⟨wflT h flokX12, wcsT h csokX12, wlcT h lcokX12, spokX12 h, fun _ h => absurd h List.not_mem_nil, fun _ h => absurd h List.not_mem_nil, fun _ h => absurd h List.not_mem_nil, fun _ h => absurd h List.not_mem_nil, fun _ h => absurd h List.not_mem_nil⟩ dkX12_isIn (by decide +kernel) (by rw [h.2.2.1]; exact q188_ok)
/-- NearSpellModel.met -/
def q189_M : rfM := ((⟨"NearSpellModel", "met", "(II)I"⟩, prog_14_method_74_code, 3, (some .int)), (2,43), ([.inr (.inl [114]),.inl (((-2147483648),2147483647,1),none),.inl (((-2147483648),(-1),1),none)],[((75,0),(4,4,0),none),((76,0),(2,2,0),none),((77,0),(13,13,0),none),((80,0),(0,0,0),none),((90,28),(0,0,0),none),((90,29),(0,0,0),none),((90,36),(0,0,0),none),((114,28),(0,0,0),none),((114,34),(0,0,0),none),((114,39),(0,0,0),none)]), [], [(some (.inl (((-1),(-1),0),none)),[],[])])
def ddX12_met : List (Nat × Instr × Nat) := [(0,.iload_n 1,1),(1,.invokestatic 420,3),(4,.ifCond .eq 12,3),(7,.iload_n 2,1),(8,.iconst 0,1),(9,.iconst 2,1),(10,.invokestatic 334,3),(13,.ifCond .ne 5,3),(16,.iconst (-1),1),(17,.ireturn,1),(18,.iload_n 2,1),(19,.iconst 2,1),(20,.if_icmp .ge 12,3),(23,.aload_n 0,1),(24,.iload_n 1,1),(25,.iload_n 2,1),(26,.invokevirtual 411,3),(29,.goto 18,3),(32,.aload_n 0,1),(33,.iload_n 1,1),(34,.iconst 0,1),(35,.invokevirtual 411,3),(38,.aload_n 0,1),(39,.iload_n 1,1),(40,.iconst 1,1),(41,.invokevirtual 411,3),(44,.iconst (-1),1),(45,.ixor,1),(46,.iand,1),(47,.ireturn,1)]
set_option maxRecDepth 100000 in
theorem dkX12_met : rf_decs prog_14_method_74_code ddX12_met := rf_decs_of (by decide +kernel)
def q189_P : rfP := (flX12,csX12,lcX12,spX12,[q75_M,q188_M],[(334,1),(420,0)],[],([],[]))
def q189_U : rfU := []
set_option maxHeartbeats 8000000 in
def q189_N : List rfB := [(0,([(0,.inr (.inl [114])),(1,.inl (((-2147483648),2147483647,1),none)),(2,.inl (((-2147483648),(-1),1),none))],[],[((75,0),(4,4,0),some ((75,0),0,0)),((76,0),(2,2,0),some ((76,0),0,0)),((77,0),(13,13,0),some ((77,0),0,0)),((80,0),(0,0,0),some ((80,0),0,0)),((90,28),(0,0,0),some ((90,28),0,0)),((90,29),(0,0,0),some ((90,29),0,0)),((90,36),(0,0,0),some ((90,36),0,0)),((114,28),(0,0,0),some ((114,28),0,0)),((114,34),(0,0,0),some ((114,34),0,0)),((114,39),(0,0,0),some ((114,39),0,0))]),(10,[]),0)]
set_option maxRecDepth 100000 in
theorem q189_ok : rf_chkB q189_P q189_U wLay q189_M ddX12_met [(1,[0]),(10,[1])] [] [0] 15 q189_N = true := by decide +kernel
set_option maxHeartbeats 4000000 in
theorem q189_met {G : rfG} (h : okG G) : rf_met G q189_M := rf_methodB h.1 (P := q189_P) (U := q189_U) (N := q189_N) ⟨wflT h flokX12, wcsT h csokX12, wlcT h lcokX12, spokX12 h, List.forall_mem_cons.mpr ⟨q75_met h, List.forall_mem_cons.mpr ⟨q188_met h, fun _ h => absurd h List.not_mem_nil⟩⟩, List.forall_mem_cons.mpr ⟨fun M hM => Option.some.inj (show some q188_M = some M from hM) ▸ wlkS (lkX12_334 h) q188_M rfl rfl, List.forall_mem_cons.mpr ⟨fun M hM => Option.some.inj (show some q75_M = some M from hM) ▸ wlkS (lkX12_420 h) q75_M rfl rfl, fun _ h => absurd h List.not_mem_nil⟩⟩, fun _ h => absurd h List.not_mem_nil, fun _ h => absurd h List.not_mem_nil, fun _ h => absurd h List.not_mem_nil⟩ dkX12_met (by decide +kernel) (by rw [h.2.2.1]; exact q189_ok)
/-- NearSpell.met -/
def q190_M : rfM := ((⟨"NearSpell", "met", "(II)I"⟩, prog_1_method_18_code, 3, (some .int)), (1,22), ([.inr (.inl [70]),.inl (((-2147483648),2147483647,1),none),.inl ((3,2147483647,1),none)],[((5,5),(4,4,0),none),((5,6),(2,2,0),none),((5,7),(13,13,0),none),((5,11),(0,0,0),none),((5,12),(0,0,0),none),((10,5),(4,4,0),none),((10,6),(2,2,0),none),((10,7),(13,13,0),none),((10,11),(0,0,0),none),((10,12),(0,0,0),none),((12,34),(0,0,0),none),((12,35),(0,0,0),none),((12,36),(0,0,0),none)]), [], [(some (.inl (((-1),(-1),0),none)),[],[])])
def q190_P : rfP := (flX11,csX11,lcX11,spX11,[q72_M],[(163,0)],[],([],[]))
def q190_U : rfU := []
set_option maxHeartbeats 8000000 in
def q190_N : List rfB := [(0,([(0,.inr (.inl [70])),(1,.inl (((-2147483648),2147483647,1),none)),(2,.inl ((3,2147483647,1),none))],[],[((5,5),(4,4,0),some ((5,5),0,0)),((5,6),(2,2,0),some ((5,6),0,0)),((5,7),(13,13,0),some ((5,7),0,0)),((5,11),(0,0,0),some ((5,11),0,0)),((5,12),(0,0,0),some ((5,12),0,0)),((10,5),(4,4,0),some ((10,5),0,0)),((10,6),(2,2,0),some ((10,6),0,0)),((10,7),(13,13,0),some ((10,7),0,0)),((10,11),(0,0,0),some ((10,11),0,0)),((10,12),(0,0,0),some ((10,12),0,0)),((12,34),(0,0,0),some ((12,34),0,0)),((12,35),(0,0,0),some ((12,35),0,0)),((12,36),(0,0,0),some ((12,36),0,0))]),(9,[]),0)]
set_option maxRecDepth 100000 in
theorem q190_ok : rf_chkB q190_P q190_U wLay q190_M ddX11_met [(1,[0])] [] [0] 600 q190_N = true := by decide +kernel
set_option maxHeartbeats 4000000 in
theorem q190_met {G : rfG} (h : okG G) : rf_met G q190_M := rf_methodB h.1 (P := q190_P) (U := q190_U) (N := q190_N) ⟨wflT h flokX11, wcsT h csokX11, wlcT h lcokX11, spokX11 h, List.forall_mem_cons.mpr ⟨q72_met h, fun _ h => absurd h List.not_mem_nil⟩, List.forall_mem_cons.mpr ⟨fun M hM => Option.some.inj (show some q72_M = some M from hM) ▸ wlkS (lkX11_163 h) q72_M rfl rfl, fun _ h => absurd h List.not_mem_nil⟩, fun _ h => absurd h List.not_mem_nil, fun _ h => absurd h List.not_mem_nil, fun _ h => absurd h List.not_mem_nil⟩ dkX11_met (by decide +kernel) (by rw [h.2.2.1]; exact q190_ok)
/-- NearSpellModel.isIn -/
def q191_M : rfM := ((⟨"NearSpellModel", "isIn", "(III)Z"⟩, prog_14_method_35_code, 3, (some .boolean)), (0,0), ([.inl ((1,2147483647,1),none),.inl ((0,0,0),none),.inl ((2,2,0),none)],[]), [], [(some (.inl ((1,1,0),none)),[(0,1,2)],[]),(some (.inl ((0,0,0),none)),[(0,3,2147483647)],[])])
def q191_P : rfP := (flX12,csX12,lcX12,spX12,[],[],[],([],[]))
def q191_U : rfU := []
set_option maxHeartbeats 8000000 in
def q191_N : List rfB := [(0,([(0,.inl ((1,2147483647,1),none)),(1,.inl ((0,0,0),none)),(2,.inl ((2,2,0),none))],[],[]),(10,[]),0)]
set_option maxRecDepth 100000 in
theorem q191_ok : rf_chkB q191_P q191_U wLay q191_M ddX12_isIn [] [] [0] 600 q191_N = true := by decide +kernel
set_option maxHeartbeats 4000000 in
theorem q191_met {G : rfG} (h : okG G) : rf_met G q191_M := rf_methodB h.1 (P := q191_P) (U := q191_U) (N := q191_N) ⟨wflT h flokX12, wcsT h csokX12, wlcT h lcokX12, spokX12 h, fun _ h => absurd h List.not_mem_nil, fun _ h => absurd h List.not_mem_nil, fun _ h => absurd h List.not_mem_nil, fun _ h => absurd h List.not_mem_nil, fun _ h => absurd h List.not_mem_nil⟩ dkX12_isIn (by decide +kernel) (by rw [h.2.2.1]; exact q191_ok)
/-- NearSpellModel.met -/
def q192_M : rfM := ((⟨"NearSpellModel", "met", "(II)I"⟩, prog_14_method_74_code, 3, (some .int)), (2,43), ([.inr (.inl [114]),.inl (((-2147483648),2147483647,1),none),.inl ((3,2147483647,1),none)],[((75,0),(4,4,0),none),((76,0),(2,2,0),none),((77,0),(13,13,0),none),((80,0),(0,0,0),none),((90,28),(0,0,0),none),((90,29),(0,0,0),none),((90,36),(0,0,0),none),((114,28),(0,0,0),none),((114,34),(0,0,0),none),((114,39),(0,0,0),none)]), [], [(some (.inl (((-1),(-1),0),none)),[],[])])
def q192_P : rfP := (flX12,csX12,lcX12,spX12,[q75_M,q191_M],[(334,1),(420,0)],[],([],[]))
def q192_U : rfU := []
set_option maxHeartbeats 8000000 in
def q192_N : List rfB := [(0,([(0,.inr (.inl [114])),(1,.inl (((-2147483648),2147483647,1),none)),(2,.inl ((3,2147483647,1),none))],[],[((75,0),(4,4,0),some ((75,0),0,0)),((76,0),(2,2,0),some ((76,0),0,0)),((77,0),(13,13,0),some ((77,0),0,0)),((80,0),(0,0,0),some ((80,0),0,0)),((90,28),(0,0,0),some ((90,28),0,0)),((90,29),(0,0,0),some ((90,29),0,0)),((90,36),(0,0,0),some ((90,36),0,0)),((114,28),(0,0,0),some ((114,28),0,0)),((114,34),(0,0,0),some ((114,34),0,0)),((114,39),(0,0,0),some ((114,39),0,0))]),(10,[]),0)]
set_option maxRecDepth 100000 in
theorem q192_ok : rf_chkB q192_P q192_U wLay q192_M ddX12_met [(1,[0]),(10,[1])] [] [0] 15 q192_N = true := by decide +kernel
set_option maxHeartbeats 4000000 in
theorem q192_met {G : rfG} (h : okG G) : rf_met G q192_M := rf_methodB h.1 (P := q192_P) (U := q192_U) (N := q192_N) ⟨wflT h flokX12, wcsT h csokX12, wlcT h lcokX12, spokX12 h, List.forall_mem_cons.mpr ⟨q75_met h, List.forall_mem_cons.mpr ⟨q191_met h, fun _ h => absurd h List.not_mem_nil⟩⟩, List.forall_mem_cons.mpr ⟨fun M hM => Option.some.inj (show some q191_M = some M from hM) ▸ wlkS (lkX12_334 h) q191_M rfl rfl, List.forall_mem_cons.mpr ⟨fun M hM => Option.some.inj (show some q75_M = some M from hM) ▸ wlkS (lkX12_420 h) q75_M rfl rfl, fun _ h => absurd h List.not_mem_nil⟩⟩, fun _ h => absurd h List.not_mem_nil, fun _ h => absurd h List.not_mem_nil, fun _ h => absurd h List.not_mem_nil⟩ dkX12_met (by decide +kernel) (by rw [h.2.2.1]; exact q192_ok)
/-- NearSpell.isApart -/
def q195_M : rfM := ((⟨"NearSpell", "isApart", "(I)Z"⟩, prog_1_method_50_code, 1, (some .boolean)), (0,0), ([.inl ((0,6,1),none)],[]), [], [(some (.inl ((1,1,0),none)),[],[])])
def ddX11_isApart : List (Nat × Instr × Nat) := [(0,.iload_n 0,1),(1,.ifCond .lt 13,3),(4,.iload_n 0,1),(5,.bipush 6,2),(7,.if_icmp .gt 7,3),(10,.iconst 1,1),(11,.goto 4,3),(14,.iconst 0,1),(15,.ireturn,1)]
set_option maxRecDepth 100000 in
theorem dkX11_isApart : rf_decs prog_1_method_50_code ddX11_isApart := rf_decs_of (by decide +kernel)
def q195_P : rfP := (flX11,csX11,lcX11,spX11,[],[],[],([],[]))
def q195_U : rfU := []
set_option maxHeartbeats 8000000 in
def q195_N : List rfB := [(0,([(0,.inl ((0,6,1),none))],[],[]),(7,[]),0)]
set_option maxRecDepth 100000 in
theorem q195_ok : rf_chkB q195_P q195_U wLay q195_M ddX11_isApart [] [] [0] 600 q195_N = true := by decide +kernel
set_option maxHeartbeats 4000000 in
theorem q195_met {G : rfG} (h : okG G) : rf_met G q195_M := rf_methodB h.1 (P := q195_P) (U := q195_U) (N := q195_N) ⟨wflT h flokX11, wcsT h csokX11, wlcT h lcokX11, spokX11 h, fun _ h => absurd h List.not_mem_nil, fun _ h => absurd h List.not_mem_nil, fun _ h => absurd h List.not_mem_nil, fun _ h => absurd h List.not_mem_nil, fun _ h => absurd h List.not_mem_nil⟩ dkX11_isApart (by decide +kernel) (by rw [h.2.2.1]; exact q195_ok)
/-- NearSpell.Finder.within -/
def q196_M : rfM := ((⟨"NearSpell$Finder", "within", "(II)I"⟩, prog_4_method_4_code, 5, (some .int)), (3,67), ([.inr (.inl [55]),.inl ((0,387420488,1),none),.inl ((0,6,1),none)],[((12,34),(0,0,0),none),((12,35),(0,0,0),none),((12,36),(0,0,0),none),((20,3),(0,0,0),none),((20,4),(0,0,0),none)]), [(17,0),(20,4),(20,5)], [(some (.inl ((0,0,0),none)),[],[((20,3),(0,6,1),none),((20,4),(0,0,0),none)])])
def q196_P : rfP := (flX2,csX2,lcX2,spX2,[q93_M,q46_M],[],[(43,1,8),(60,0,7)],([],[]))
def q196_U : rfU := []
set_option maxHeartbeats 8000000 in
def q196_N : List rfB := [(0,([(0,.inr (.inl [55])),(1,.inl ((0,387420488,1),none)),(2,.inl ((0,6,1),none))],[],[((12,34),(0,0,0),some ((12,34),0,0)),((12,35),(0,0,0),some ((12,35),0,0)),((12,36),(0,0,0),some ((12,36),0,0)),((20,3),(0,0,0),some ((20,3),0,0)),((20,4),(0,0,0),some ((20,4),0,0))]),(14,[]),0)]
set_option maxRecDepth 100000 in
theorem q196_ok : rf_chkB q196_P q196_U wLay q196_M ddX2_within [(5,[0]),(19,[1])] [] [0] 600 q196_N = true := by decide +kernel
set_option maxHeartbeats 4000000 in
theorem q196_met {G : rfG} (h : okG G) : rf_met G q196_M := rf_methodB h.1 (P := q196_P) (U := q196_U) (N := q196_N) ⟨wflT h flokX2, wcsT h csokX2, wlcT h lcokX2, spokX2 h, List.forall_mem_cons.mpr ⟨q93_met h, List.forall_mem_cons.mpr ⟨q46_met h, fun _ h => absurd h List.not_mem_nil⟩⟩, fun _ h => absurd h List.not_mem_nil, List.forall_mem_cons.mpr ⟨fun M hM => Option.some.inj (show some q46_M = some M from hM) ▸ wlkV (lkX2_43 h) q46_M rfl rfl, List.forall_mem_cons.mpr ⟨fun M hM => Option.some.inj (show some q93_M = some M from hM) ▸ wlkV (lkX2_60 h) q93_M rfl rfl, fun _ h => absurd h List.not_mem_nil⟩⟩, fun _ h => absurd h List.not_mem_nil, fun _ h => absurd h List.not_mem_nil⟩ dkX2_within (by decide +kernel) (by rw [h.2.2.1]; exact q196_ok)
/-- NearSpellModel.isIn -/
def q198_M : rfM := ((⟨"NearSpellModel", "isIn", "(III)Z"⟩, prog_14_method_35_code, 3, (some .boolean)), (0,0), ([.inl ((0,6,1),none),.inl ((0,0,0),none),.inl ((6,6,0),none)],[]), [], [(some (.inl ((1,1,0),none)),[],[])])
def q198_P : rfP := (flX12,csX12,lcX12,spX12,[],[],[],([],[]))
def q198_U : rfU := []
set_option maxHeartbeats 8000000 in
def q198_N : List rfB := [(0,([(0,.inl ((0,6,1),none)),(1,.inl ((0,0,0),none)),(2,.inl ((6,6,0),none))],[],[]),(8,[]),0)]
set_option maxRecDepth 100000 in
theorem q198_ok : rf_chkB q198_P q198_U wLay q198_M ddX12_isIn [] [] [0] 600 q198_N = true := by decide +kernel
set_option maxHeartbeats 4000000 in
theorem q198_met {G : rfG} (h : okG G) : rf_met G q198_M := rf_methodB h.1 (P := q198_P) (U := q198_U) (N := q198_N) ⟨wflT h flokX12, wcsT h csokX12, wlcT h lcokX12, spokX12 h, fun _ h => absurd h List.not_mem_nil, fun _ h => absurd h List.not_mem_nil, fun _ h => absurd h List.not_mem_nil, fun _ h => absurd h List.not_mem_nil, fun _ h => absurd h List.not_mem_nil⟩ dkX12_isIn (by decide +kernel) (by rw [h.2.2.1]; exact q198_ok)
/-- NearSpellModel.entriesNow -/
def q199_M : rfM := ((⟨"NearSpellModel", "entriesNow", "()I"⟩, prog_14_method_47_code, 3, (some .int)), (2,43), ([.inr (.inl [114])],[((90,28),(0,0,0),none),((90,29),(0,0,0),none),((90,36),(0,0,0),none)]), [], [(some (.inl ((0,0,0),none)),[],[])])
def ddX12_entriesNow : List (Nat × Instr × Nat) := [(0,.iconst 0,1),(1,.istore_n 1,1),(2,.iconst 0,1),(3,.istore_n 2,1),(4,.iload_n 2,1),(5,.bipush 14,2),(7,.if_icmp .ge 23,3),(10,.aload_n 0,1),(11,.iload_n 2,1),(12,.invokevirtual 350,3),(15,.ifCond .eq 9,3),(18,.iload_n 1,1),(19,.iconst 1,1),(20,.iload_n 2,1),(21,.ishl,1),(22,.ior,1),(23,.istore_n 1,1),(24,.iinc 2 1,3),(27,.goto (-23),3),(30,.iload_n 1,1),(31,.ireturn,1)]
set_option maxRecDepth 100000 in
theorem dkX12_entriesNow : rf_decs prog_14_method_47_code ddX12_entriesNow := rf_decs_of (by decide +kernel)
def q199_P : rfP := (flX12,csX12,lcX12,spX12,[q68_M],[],[(350,0,12)],([],[]))
def q199_U : rfU := []
set_option maxHeartbeats 8000000 in
def q199_N : List rfB := [(0,([(0,.inr (.inl [114]))],[],[((90,28),(0,0,0),some ((90,28),0,0)),((90,29),(0,0,0),some ((90,29),0,0)),((90,36),(0,0,0),some ((90,36),0,0))]),(155,[0]),0)]
set_option maxRecDepth 100000 in
theorem q199_ok : rf_chkB q199_P q199_U wLay q199_M ddX12_entriesNow [(12,[0])] [.inl 2] [0] 140 q199_N = true := by decide +kernel
set_option maxHeartbeats 4000000 in
theorem q199_met {G : rfG} (h : okG G) : rf_met G q199_M := rf_methodB h.1 (P := q199_P) (U := q199_U) (N := q199_N) ⟨wflT h flokX12, wcsT h csokX12, wlcT h lcokX12, spokX12 h, List.forall_mem_cons.mpr ⟨q68_met h, fun _ h => absurd h List.not_mem_nil⟩, fun _ h => absurd h List.not_mem_nil, List.forall_mem_cons.mpr ⟨fun M hM => Option.some.inj (show some q68_M = some M from hM) ▸ wlkV (lkX12_350 h) q68_M rfl rfl, fun _ h => absurd h List.not_mem_nil⟩, fun _ h => absurd h List.not_mem_nil, fun _ h => absurd h List.not_mem_nil⟩ dkX12_entriesNow (by decide +kernel) (by rw [h.2.2.1]; exact q199_ok)
/-- NearSpellModel.layFar -/
def q200_M : rfM := ((⟨"NearSpellModel", "layFar", "(I)V"⟩, prog_14_method_64_code, 3, none), (2,43), ([.inr (.inl [114]),.inl ((0,387420488,1),none)],[((90,28),(0,0,0),none),((90,29),(0,0,0),none),((90,36),(0,0,0),none),((114,44),(0,0,0),none),((114,45),(0,0,0),none)]), [(98,0)], [(none,[],[])])
def q200_P : rfP := (flX12,csX12,lcX12,spX12,[q68_M],[],[(350,0,12)],([],[]))
def q200_U : rfU := []
set_option maxHeartbeats 8000000 in
def q200_N : List rfB := [(0,([(0,.inr (.inl [114])),(1,.inl ((0,387420488,1),none))],[],[((90,28),(0,0,0),some ((90,28),0,0)),((90,29),(0,0,0),some ((90,29),0,0)),((90,36),(0,0,0),some ((90,36),0,0)),((114,44),(0,0,0),some ((114,44),0,0)),((114,45),(0,0,0),some ((114,45),0,0))]),(227,[0]),0)]
set_option maxRecDepth 100000 in
theorem q200_ok : rf_chkB q200_P q200_U wLay q200_M ddX12_layFar [(15,[0])] [.inl 2] [0] 207 q200_N = true := by decide +kernel
set_option maxHeartbeats 4000000 in
theorem q200_met {G : rfG} (h : okG G) : rf_met G q200_M := rf_methodB h.1 (P := q200_P) (U := q200_U) (N := q200_N) ⟨wflT h flokX12, wcsT h csokX12, wlcT h lcokX12, spokX12 h, List.forall_mem_cons.mpr ⟨q68_met h, fun _ h => absurd h List.not_mem_nil⟩, fun _ h => absurd h List.not_mem_nil, List.forall_mem_cons.mpr ⟨fun M hM => Option.some.inj (show some q68_M = some M from hM) ▸ wlkV (lkX12_350 h) q68_M rfl rfl, fun _ h => absurd h List.not_mem_nil⟩, fun _ h => absurd h List.not_mem_nil, fun _ h => absurd h List.not_mem_nil⟩ dkX12_layFar (by decide +kernel) (by rw [h.2.2.1]; exact q200_ok)
/-- NearSpellModel.within -/
def q201_M : rfM := ((⟨"NearSpellModel", "within", "(II)I"⟩, prog_14_method_65_code, 5, (some .int)), (1,21), ([.inr (.inl [114]),.inl ((0,0,0),none),.inl ((0,6,1),none)],[]), [], [(some (.inl ((0,0,0),none)),[],[])])
def ddX12_within : List (Nat × Instr × Nat) := [(0,.iconst 0,1),(1,.istore_n 3,1),(2,.iconst 0,1),(3,.istore 4,2),(5,.iload 4,2),(7,.bipush 14,2),(9,.if_icmp .ge 36,3),(12,.iload_n 1,1),(13,.iload 4,2),(15,.invokestatic 251,3),(18,.ifCond .eq 21,3),(21,.aload_n 0,1),(22,.getfield 96,3),(25,.iload 4,2),(27,.iaload,1),(28,.iload_n 2,1),(29,.if_icmp .gt 10,3),(32,.iload_n 3,1),(33,.iconst 1,1),(34,.iload 4,2),(36,.ishl,1),(37,.ior,1),(38,.istore_n 3,1),(39,.iinc 4 1,3),(42,.goto (-37),3),(45,.iload_n 3,1),(46,.ireturn,1)]
set_option maxRecDepth 100000 in
theorem dkX12_within : rf_decs prog_14_method_65_code ddX12_within := rf_decs_of (by decide +kernel)
def q201_P : rfP := (flX12,csX12,lcX12,spX12,[q130_M],[(251,0)],[],([],[]))
def q201_U : rfU := []
set_option maxHeartbeats 8000000 in
def q201_N : List rfB := [(0,([(0,.inr (.inl [114])),(1,.inl ((0,0,0),none)),(2,.inl ((0,6,1),none))],[],[]),(155,[0]),0)]
set_option maxRecDepth 100000 in
theorem q201_ok : rf_chkB q201_P q201_U wLay q201_M ddX12_within [(15,[0])] [.inl 4] [0] 140 q201_N = true := by decide +kernel
set_option maxHeartbeats 4000000 in
theorem q201_met {G : rfG} (h : okG G) : rf_met G q201_M := rf_methodB h.1 (P := q201_P) (U := q201_U) (N := q201_N) ⟨wflT h flokX12, wcsT h csokX12, wlcT h lcokX12, spokX12 h, List.forall_mem_cons.mpr ⟨q130_met h, fun _ h => absurd h List.not_mem_nil⟩, List.forall_mem_cons.mpr ⟨fun M hM => Option.some.inj (show some q130_M = some M from hM) ▸ wlkS (lkX12_251 h) q130_M rfl rfl, fun _ h => absurd h List.not_mem_nil⟩, fun _ h => absurd h List.not_mem_nil, fun _ h => absurd h List.not_mem_nil, fun _ h => absurd h List.not_mem_nil⟩ dkX12_within (by decide +kernel) (by rw [h.2.2.1]; exact q201_ok)
/-- NearSpell.isApart -/
def q203_M : rfM := ((⟨"NearSpell", "isApart", "(I)Z"⟩, prog_1_method_50_code, 1, (some .boolean)), (0,0), ([.inl (((-2147483648),0,1),none)],[]), [], [(some (.inl ((1,1,0),none)),[(0,0,0)],[]),(some (.inl ((0,0,0),none)),[(0,(-2147483648),(-1))],[])])
def q203_P : rfP := (flX11,csX11,lcX11,spX11,[],[],[],([],[]))
def q203_U : rfU := []
set_option maxHeartbeats 8000000 in
def q203_N : List rfB := [(0,([(0,.inl (((-2147483648),0,1),none))],[],[]),(9,[]),0)]
set_option maxRecDepth 100000 in
theorem q203_ok : rf_chkB q203_P q203_U wLay q203_M ddX11_isApart [] [] [0] 600 q203_N = true := by decide +kernel
set_option maxHeartbeats 4000000 in
theorem q203_met {G : rfG} (h : okG G) : rf_met G q203_M := rf_methodB h.1 (P := q203_P) (U := q203_U) (N := q203_N) ⟨wflT h flokX11, wcsT h csokX11, wlcT h lcokX11, spokX11 h, fun _ h => absurd h List.not_mem_nil, fun _ h => absurd h List.not_mem_nil, fun _ h => absurd h List.not_mem_nil, fun _ h => absurd h List.not_mem_nil, fun _ h => absurd h List.not_mem_nil⟩ dkX11_isApart (by decide +kernel) (by rw [h.2.2.1]; exact q203_ok)
/-- NearSpell.missed -/
def q204_M : rfM := ((⟨"NearSpell", "missed", "(II)I"⟩, prog_1_method_19_code, 3, (some .int)), (1,22), ([.inr (.inl [70]),.inl (((-2147483648),2147483647,1),none),.inl (((-2147483648),(-1),1),none)],[((5,5),(4,4,0),none),((5,6),(2,2,0),none),((10,5),(4,4,0),none),((10,6),(2,2,0),none),((12,34),(0,0,0),none),((12,35),(0,0,0),none),((12,36),(0,0,0),none),((20,3),(0,0,0),none),((20,4),(0,0,0),none)]), [], [(some (.inl (((-1),(-1),0),none)),[],[])])
def ddX11_missed : List (Nat × Instr × Nat) := [(0,.iload_n 1,1),(1,.invokestatic 163,3),(4,.ifCond .eq 10,3),(7,.iload_n 2,1),(8,.invokestatic 232,3),(11,.ifCond .ne 5,3),(14,.iconst (-1),1),(15,.ireturn,1),(16,.aload_n 0,1),(17,.getfield 67,3),(20,.iload_n 1,1),(21,.iload_n 2,1),(22,.invokevirtual 235,3),(25,.aload_n 0,1),(26,.getfield 67,3),(29,.iload_n 1,1),(30,.invokevirtual 229,3),(33,.iconst (-1),1),(34,.ixor,1),(35,.iand,1),(36,.ireturn,1)]
set_option maxRecDepth 100000 in
theorem dkX11_missed : rf_decs prog_1_method_19_code ddX11_missed := rf_decs_of (by decide +kernel)
def q204_P : rfP := (flX11,csX11,lcX11,spX11,[q72_M,q203_M],[(163,0),(232,1)],[],([],[]))
def q204_U : rfU := []
set_option maxHeartbeats 8000000 in
def q204_N : List rfB := [(0,([(0,.inr (.inl [70])),(1,.inl (((-2147483648),2147483647,1),none)),(2,.inl (((-2147483648),(-1),1),none))],[],[((5,5),(4,4,0),some ((5,5),0,0)),((5,6),(2,2,0),some ((5,6),0,0)),((10,5),(4,4,0),some ((10,5),0,0)),((10,6),(2,2,0),some ((10,6),0,0)),((12,34),(0,0,0),some ((12,34),0,0)),((12,35),(0,0,0),some ((12,35),0,0)),((12,36),(0,0,0),some ((12,36),0,0)),((20,3),(0,0,0),some ((20,3),0,0)),((20,4),(0,0,0),some ((20,4),0,0))]),(8,[]),0)]
set_option maxRecDepth 100000 in
theorem q204_ok : rf_chkB q204_P q204_U wLay q204_M ddX11_missed [(1,[0]),(8,[1])] [] [0] 13 q204_N = true := by decide +kernel
set_option maxHeartbeats 4000000 in
theorem q204_met {G : rfG} (h : okG G) : rf_met G q204_M := rf_methodB h.1 (P := q204_P) (U := q204_U) (N := q204_N) ⟨wflT h flokX11, wcsT h csokX11, wlcT h lcokX11, spokX11 h, List.forall_mem_cons.mpr ⟨q72_met h, List.forall_mem_cons.mpr ⟨q203_met h, fun _ h => absurd h List.not_mem_nil⟩⟩, List.forall_mem_cons.mpr ⟨fun M hM => Option.some.inj (show some q72_M = some M from hM) ▸ wlkS (lkX11_163 h) q72_M rfl rfl, List.forall_mem_cons.mpr ⟨fun M hM => Option.some.inj (show some q203_M = some M from hM) ▸ wlkS (lkX11_232 h) q203_M rfl rfl, fun _ h => absurd h List.not_mem_nil⟩⟩, fun _ h => absurd h List.not_mem_nil, fun _ h => absurd h List.not_mem_nil, fun _ h => absurd h List.not_mem_nil⟩ dkX11_missed (by decide +kernel) (by rw [h.2.2.1]; exact q204_ok)
