/-- NearSpell.putBytes -/
def q0_M : rfM := ((⟨"NearSpell", "putBytes", "(I)V"⟩, prog_1_method_49_code, 3, none), (0,0), ([.inr (.inl [70]),.inl (((-2147483648),2147483647,1),none)],[((70,1),(0,0,0),none)]), [(0,0),(70,2)], [(none,[],[((70,1),(4,4,0),some ((70,1),4,4))])])
def ddX11_putBytes : List (Nat × Instr × Nat) := [(0,.bipush 24,2),(2,.istore_n 2,1),(3,.iload_n 2,1),(4,.ifCond .lt 44,3),(7,.aload_n 0,1),(8,.getfield 100,3),(11,.aload_n 0,1),(12,.getfield 9,3),(15,.arraylength,1),(16,.if_icmp .ge 32,3),(19,.aload_n 0,1),(20,.getfield 9,3),(23,.aload_n 0,1),(24,.getfield 100,3),(27,.iload_n 1,1),(28,.iload_n 2,1),(29,.ishr,1),(30,.i2b,1),(31,.bastore,1),(32,.aload_n 0,1),(33,.dup,1),(34,.getfield 100,3),(37,.iconst 1,1),(38,.iadd,1),(39,.putfield 100,3),(42,.iinc 2 (-8),3),(45,.goto (-42),3),(48,.return_,1)]
set_option maxRecDepth 100000 in
theorem dkX11_putBytes : rf_decs prog_1_method_49_code ddX11_putBytes := rf_decs_of (by decide +kernel)
def q0_P : rfP := (flX11,csX11,lcX11,spX11,[],[],[],([],[]))
def q0_U : rfU := []
set_option maxHeartbeats 8000000 in
def q0_N : List rfB := [(0,([(0,.inr (.inl [70])),(1,.inl (((-2147483648),2147483647,1),none))],[],[((70,1),(0,0,0),some ((70,1),0,0))]),(104,[]),0)]
set_option maxRecDepth 100000 in
theorem q0_ok : rf_chkB q0_P q0_U wLay q0_M ddX11_putBytes [] [] [0] 110 q0_N = true := by decide +kernel
set_option maxHeartbeats 4000000 in
theorem q0_met {G : rfG} (h : okG G) : rf_met G q0_M := rf_methodB h.1 (P := q0_P) (U := q0_U) (N := q0_N) ⟨wflT h flokX11, wcsT h csokX11, wlcT h lcokX11, spokX11 h, fun _ h => absurd h List.not_mem_nil, fun _ h => absurd h List.not_mem_nil, fun _ h => absurd h List.not_mem_nil, fun _ h => absurd h List.not_mem_nil, fun _ h => absurd h List.not_mem_nil⟩ dkX11_putBytes (by decide +kernel) (by rw [h.2.2.1]; exact q0_ok)
/-- NearSpell.putBytes -/
def q1_M : rfM := ((⟨"NearSpell", "putBytes", "(I)V"⟩, prog_1_method_49_code, 3, none), (0,0), ([.inr (.inl [70]),.inl (((-2147483648),2147483647,1),none)],[((70,1),(4,4,0),none)]), [(0,0),(70,2)], [(none,[],[((70,1),(8,8,0),some ((70,1),4,4))])])
def q1_P : rfP := (flX11,csX11,lcX11,spX11,[],[],[],([],[]))
def q1_U : rfU := []
set_option maxHeartbeats 8000000 in
def q1_N : List rfB := [(0,([(0,.inr (.inl [70])),(1,.inl (((-2147483648),2147483647,1),none))],[],[((70,1),(4,4,0),some ((70,1),0,0))]),(104,[]),0)]
set_option maxRecDepth 100000 in
theorem q1_ok : rf_chkB q1_P q1_U wLay q1_M ddX11_putBytes [] [] [0] 110 q1_N = true := by decide +kernel
set_option maxHeartbeats 4000000 in
theorem q1_met {G : rfG} (h : okG G) : rf_met G q1_M := rf_methodB h.1 (P := q1_P) (U := q1_U) (N := q1_N) ⟨wflT h flokX11, wcsT h csokX11, wlcT h lcokX11, spokX11 h, fun _ h => absurd h List.not_mem_nil, fun _ h => absurd h List.not_mem_nil, fun _ h => absurd h List.not_mem_nil, fun _ h => absurd h List.not_mem_nil, fun _ h => absurd h List.not_mem_nil⟩ dkX11_putBytes (by decide +kernel) (by rw [h.2.2.1]; exact q1_ok)
/-- NearSpell.putBytes -/
def q2_M : rfM := ((⟨"NearSpell", "putBytes", "(I)V"⟩, prog_1_method_49_code, 3, none), (0,0), ([.inr (.inl [70]),.inl (((-2147483648),2147483647,1),none)],[((70,1),(8,8,0),none)]), [(0,0),(70,2)], [(none,[],[((70,1),(12,12,0),some ((70,1),4,4))])])
def q2_P : rfP := (flX11,csX11,lcX11,spX11,[],[],[],([],[]))
def q2_U : rfU := []
set_option maxHeartbeats 8000000 in
def q2_N : List rfB := [(0,([(0,.inr (.inl [70])),(1,.inl (((-2147483648),2147483647,1),none))],[],[((70,1),(8,8,0),some ((70,1),0,0))]),(104,[]),0)]
set_option maxRecDepth 100000 in
theorem q2_ok : rf_chkB q2_P q2_U wLay q2_M ddX11_putBytes [] [] [0] 110 q2_N = true := by decide +kernel
set_option maxHeartbeats 4000000 in
theorem q2_met {G : rfG} (h : okG G) : rf_met G q2_M := rf_methodB h.1 (P := q2_P) (U := q2_U) (N := q2_N) ⟨wflT h flokX11, wcsT h csokX11, wlcT h lcokX11, spokX11 h, fun _ h => absurd h List.not_mem_nil, fun _ h => absurd h List.not_mem_nil, fun _ h => absurd h List.not_mem_nil, fun _ h => absurd h List.not_mem_nil, fun _ h => absurd h List.not_mem_nil⟩ dkX11_putBytes (by decide +kernel) (by rw [h.2.2.1]; exact q2_ok)
/-- NearSpell.putBytes -/
def q3_M : rfM := ((⟨"NearSpell", "putBytes", "(I)V"⟩, prog_1_method_49_code, 3, none), (0,0), ([.inr (.inl [70]),.inl (((-2147483648),2147483647,1),none)],[((70,1),(12,12,0),none)]), [(0,0),(70,2)], [(none,[],[((70,1),(16,16,0),some ((70,1),4,4))])])
def q3_P : rfP := (flX11,csX11,lcX11,spX11,[],[],[],([],[]))
def q3_U : rfU := []
set_option maxHeartbeats 8000000 in
def q3_N : List rfB := [(0,([(0,.inr (.inl [70])),(1,.inl (((-2147483648),2147483647,1),none))],[],[((70,1),(12,12,0),some ((70,1),0,0))]),(104,[]),0)]
set_option maxRecDepth 100000 in
theorem q3_ok : rf_chkB q3_P q3_U wLay q3_M ddX11_putBytes [] [] [0] 110 q3_N = true := by decide +kernel
set_option maxHeartbeats 4000000 in
theorem q3_met {G : rfG} (h : okG G) : rf_met G q3_M := rf_methodB h.1 (P := q3_P) (U := q3_U) (N := q3_N) ⟨wflT h flokX11, wcsT h csokX11, wlcT h lcokX11, spokX11 h, fun _ h => absurd h List.not_mem_nil, fun _ h => absurd h List.not_mem_nil, fun _ h => absurd h List.not_mem_nil, fun _ h => absurd h List.not_mem_nil, fun _ h => absurd h List.not_mem_nil⟩ dkX11_putBytes (by decide +kernel) (by rw [h.2.2.1]; exact q3_ok)
/-- NearSpell.putBytes -/
def q4_M : rfM := ((⟨"NearSpell", "putBytes", "(I)V"⟩, prog_1_method_49_code, 3, none), (0,0), ([.inr (.inl [70]),.inl (((-2147483648),2147483647,1),none)],[((70,1),(16,16,0),none)]), [(0,0),(70,2)], [(none,[],[((70,1),(20,20,0),some ((70,1),4,4))])])
def q4_P : rfP := (flX11,csX11,lcX11,spX11,[],[],[],([],[]))
def q4_U : rfU := []
set_option maxHeartbeats 8000000 in
def q4_N : List rfB := [(0,([(0,.inr (.inl [70])),(1,.inl (((-2147483648),2147483647,1),none))],[],[((70,1),(16,16,0),some ((70,1),0,0))]),(104,[]),0)]
set_option maxRecDepth 100000 in
theorem q4_ok : rf_chkB q4_P q4_U wLay q4_M ddX11_putBytes [] [] [0] 110 q4_N = true := by decide +kernel
set_option maxHeartbeats 4000000 in
theorem q4_met {G : rfG} (h : okG G) : rf_met G q4_M := rf_methodB h.1 (P := q4_P) (U := q4_U) (N := q4_N) ⟨wflT h flokX11, wcsT h csokX11, wlcT h lcokX11, spokX11 h, fun _ h => absurd h List.not_mem_nil, fun _ h => absurd h List.not_mem_nil, fun _ h => absurd h List.not_mem_nil, fun _ h => absurd h List.not_mem_nil, fun _ h => absurd h List.not_mem_nil⟩ dkX11_putBytes (by decide +kernel) (by rw [h.2.2.1]; exact q4_ok)
/-- NearSpell.feed -/
def q5_M : rfM := ((⟨"NearSpell", "feed", "(IIIII)I"⟩, prog_1_method_2_code, 6, (some .int)), (1,22), ([.inr (.inl [70]),.inl (((-2147483648),2147483647,1),none),.inl (((-2147483648),2147483647,1),none),.inl (((-2147483648),2147483647,1),none),.inl (((-2147483648),2147483647,1),none),.inl (((-2147483648),2147483647,1),none)],[((70,1),(0,0,0),none)]), [(0,0),(70,2)], [(some (.inl ((20,20,0),none)),[],[((70,1),(20,20,0),some ((70,1),20,20))])])
def ddX11_feed : List (Nat × Instr × Nat) := [(0,.aload_n 0,1),(1,.getfield 100,3),(4,.bipush 20,2),(6,.iadd,1),(7,.sipush 1600,3),(10,.if_icmp .le 5,3),(13,.iconst (-1),1),(14,.ireturn,1),(15,.aload_n 0,1),(16,.iload_n 1,1),(17,.invokevirtual 107,3),(20,.aload_n 0,1),(21,.iload_n 2,1),(22,.invokevirtual 107,3),(25,.aload_n 0,1),(26,.iload_n 3,1),(27,.invokevirtual 107,3),(30,.aload_n 0,1),(31,.iload 4,2),(33,.invokevirtual 107,3),(36,.aload_n 0,1),(37,.iload 5,2),(39,.invokevirtual 107,3),(42,.aload_n 0,1),(43,.getfield 100,3),(46,.ireturn,1)]
set_option maxRecDepth 100000 in
theorem dkX11_feed : rf_decs prog_1_method_2_code ddX11_feed := rf_decs_of (by decide +kernel)
def q5_P : rfP := (flX11,csX11,lcX11,spX11,[q0_M,q1_M,q2_M,q3_M,q4_M],[],[(107,0,11),(107,1,11),(107,2,11),(107,3,11),(107,4,11)],([],[]))
def q5_U : rfU := []
set_option maxHeartbeats 8000000 in
def q5_N : List rfB := [(0,([(0,.inr (.inl [70])),(1,.inl (((-2147483648),2147483647,1),none)),(2,.inl (((-2147483648),2147483647,1),none)),(3,.inl (((-2147483648),2147483647,1),none)),(4,.inl (((-2147483648),2147483647,1),none)),(5,.inl (((-2147483648),2147483647,1),none))],[],[((70,1),(0,0,0),some ((70,1),0,0))]),(23,[]),0)]
set_option maxRecDepth 100000 in
theorem q5_ok : rf_chkB q5_P q5_U wLay q5_M ddX11_feed [(17,[0]),(22,[1]),(27,[2]),(33,[3]),(39,[4])] [] [0] 600 q5_N = true := by decide +kernel
set_option maxHeartbeats 4000000 in
theorem q5_met {G : rfG} (h : okG G) : rf_met G q5_M := rf_methodB h.1 (P := q5_P) (U := q5_U) (N := q5_N) ⟨wflT h flokX11, wcsT h csokX11, wlcT h lcokX11, spokX11 h, List.forall_mem_cons.mpr ⟨q0_met h, List.forall_mem_cons.mpr ⟨q1_met h, List.forall_mem_cons.mpr ⟨q2_met h, List.forall_mem_cons.mpr ⟨q3_met h, List.forall_mem_cons.mpr ⟨q4_met h, fun _ h => absurd h List.not_mem_nil⟩⟩⟩⟩⟩, fun _ h => absurd h List.not_mem_nil, List.forall_mem_cons.mpr ⟨fun M hM => Option.some.inj (show some q0_M = some M from hM) ▸ wlkV (lkX11_107 h) q0_M rfl rfl, List.forall_mem_cons.mpr ⟨fun M hM => Option.some.inj (show some q1_M = some M from hM) ▸ wlkV (lkX11_107 h) q1_M rfl rfl, List.forall_mem_cons.mpr ⟨fun M hM => Option.some.inj (show some q2_M = some M from hM) ▸ wlkV (lkX11_107 h) q2_M rfl rfl, List.forall_mem_cons.mpr ⟨fun M hM => Option.some.inj (show some q3_M = some M from hM) ▸ wlkV (lkX11_107 h) q3_M rfl rfl, List.forall_mem_cons.mpr ⟨fun M hM => Option.some.inj (show some q4_M = some M from hM) ▸ wlkV (lkX11_107 h) q4_M rfl rfl, fun _ h => absurd h List.not_mem_nil⟩⟩⟩⟩⟩, fun _ h => absurd h List.not_mem_nil, fun _ h => absurd h List.not_mem_nil⟩ dkX11_feed (by decide +kernel) (by rw [h.2.2.1]; exact q5_ok)
/-- NearSpellModel.feed -/
def q6_M : rfM := ((⟨"NearSpellModel", "feed", "(IIIII)I"⟩, prog_14_method_128_code, 8, (some .int)), (0,0), ([.inr (.inl [114]),.inl (((-2147483648),2147483647,1),none),.inl (((-2147483648),2147483647,1),none),.inl (((-2147483648),2147483647,1),none),.inl (((-2147483648),2147483647,1),none),.inl (((-2147483648),2147483647,1),none)],[((114,2),(0,0,0),none)]), [(71,0),(114,3)], [(some (.inl ((20,20,0),none)),[],[((114,2),(20,20,0),some ((114,2),20,20))])])
def ddX12_feed : List (Nat × Instr × Nat) := [(0,.aload_n 0,1),(1,.getfield 239,3),(4,.bipush 20,2),(6,.iadd,1),(7,.sipush 1600,3),(10,.if_icmp .le 5,3),(13,.iconst (-1),1),(14,.ireturn,1),(15,.iconst 0,1),(16,.istore 6,2),(18,.iload 6,2),(20,.bipush 20,2),(22,.if_icmp .ge 83,3),(25,.iload 6,2),(27,.iconst 4,1),(28,.if_icmp .ge 7,3),(31,.iload_n 1,1),(32,.goto 39,3),(35,.iload 6,2),(37,.bipush 8,2),(39,.if_icmp .ge 7,3),(42,.iload_n 2,1),(43,.goto 28,3),(46,.iload 6,2),(48,.bipush 12,2),(50,.if_icmp .ge 7,3),(53,.iload_n 3,1),(54,.goto 17,3),(57,.iload 6,2),(59,.bipush 16,2),(61,.if_icmp .ge 8,3),(64,.iload 4,2),(66,.goto 5,3),(69,.iload 5,2),(71,.istore 7,2),(73,.aload_n 0,1),(74,.getfield 7,3),(77,.aload_n 0,1),(78,.getfield 239,3),(81,.iload 6,2),(83,.iadd,1),(84,.iload 7,2),(86,.bipush 24,2),(88,.bipush 8,2),(90,.iload 6,2),(92,.iconst 3,1),(93,.iand,1),(94,.imul,1),(95,.isub,1),(96,.ishr,1),(97,.i2b,1),(98,.bastore,1),(99,.iinc 6 1,3),(102,.goto (-84),3),(105,.aload_n 0,1),(106,.dup,1),(107,.getfield 239,3),(110,.bipush 20,2),(112,.iadd,1),(113,.putfield 239,3),(116,.aload_n 0,1),(117,.getfield 239,3),(120,.ireturn,1)]
set_option maxRecDepth 100000 in
theorem dkX12_feed : rf_decs prog_14_method_128_code ddX12_feed := rf_decs_of (by decide +kernel)
def q6_P : rfP := (flX12,csX12,lcX12,spX12,[],[],[],([],[]))
def q6_U : rfU := []
set_option maxHeartbeats 8000000 in
def q6_N : List rfB := [(0,([(0,.inr (.inl [114])),(1,.inl (((-2147483648),2147483647,1),none)),(2,.inl (((-2147483648),2147483647,1),none)),(3,.inl (((-2147483648),2147483647,1),none)),(4,.inl (((-2147483648),2147483647,1),none)),(5,.inl (((-2147483648),2147483647,1),none))],[],[((114,2),(0,0,0),some ((114,2),0,0))]),(961,[0]),0)]
set_option maxRecDepth 100000 in
theorem q6_ok : rf_chkB q6_P q6_U wLay q6_M ddX12_feed [] [.inl 6] [0] 689 q6_N = true := by decide +kernel
set_option maxHeartbeats 4000000 in
theorem q6_met {G : rfG} (h : okG G) : rf_met G q6_M := rf_methodB h.1 (P := q6_P) (U := q6_U) (N := q6_N) ⟨wflT h flokX12, wcsT h csokX12, wlcT h lcokX12, spokX12 h, fun _ h => absurd h List.not_mem_nil, fun _ h => absurd h List.not_mem_nil, fun _ h => absurd h List.not_mem_nil, fun _ h => absurd h List.not_mem_nil, fun _ h => absurd h List.not_mem_nil⟩ dkX12_feed (by decide +kernel) (by rw [h.2.2.1]; exact q6_ok)
/-- NearSpell.end -/
def q7_M : rfM := ((⟨"NearSpell", "end", "(I)I"⟩, prog_1_method_3_code, 2, (some .int)), (0,0), ([.inr (.inl [70]),.inl (((-2147483648),(-1),1),none)],[((70,1),(0,0,0),none)]), [], [(some (.inl (((-1),(-1),0),none)),[],[])])
def ddX11_end : List (Nat × Instr × Nat) := [(0,.iload_n 1,1),(1,.ifCond .lt 11,3),(4,.iload_n 1,1),(5,.aload_n 0,1),(6,.getfield 100,3),(9,.if_icmp .le 5,3),(12,.iconst (-1),1),(13,.ireturn,1),(14,.aload_n 0,1),(15,.iload_n 1,1),(16,.putfield 100,3),(19,.iload_n 1,1),(20,.ireturn,1)]
set_option maxRecDepth 100000 in
theorem dkX11_end : rf_decs prog_1_method_3_code ddX11_end := rf_decs_of (by decide +kernel)
def q7_P : rfP := (flX11,csX11,lcX11,spX11,[],[],[],([],[]))
def q7_U : rfU := []
set_option maxHeartbeats 8000000 in
def q7_N : List rfB := [(0,([(0,.inr (.inl [70])),(1,.inl (((-2147483648),(-1),1),none))],[],[((70,1),(0,0,0),some ((70,1),0,0))]),(3,[]),0)]
set_option maxRecDepth 100000 in
theorem q7_ok : rf_chkB q7_P q7_U wLay q7_M ddX11_end [] [] [0] 600 q7_N = true := by decide +kernel
set_option maxHeartbeats 4000000 in
theorem q7_met {G : rfG} (h : okG G) : rf_met G q7_M := rf_methodB h.1 (P := q7_P) (U := q7_U) (N := q7_N) ⟨wflT h flokX11, wcsT h csokX11, wlcT h lcokX11, spokX11 h, fun _ h => absurd h List.not_mem_nil, fun _ h => absurd h List.not_mem_nil, fun _ h => absurd h List.not_mem_nil, fun _ h => absurd h List.not_mem_nil, fun _ h => absurd h List.not_mem_nil⟩ dkX11_end (by decide +kernel) (by rw [h.2.2.1]; exact q7_ok)
/-- NearSpellModel.end -/
def q8_M : rfM := ((⟨"NearSpellModel", "end", "(I)I"⟩, prog_14_method_129_code, 2, (some .int)), (0,0), ([.inr (.inl [114]),.inl (((-2147483648),(-1),1),none)],[((114,2),(0,0,0),none)]), [], [(some (.inl (((-1),(-1),0),none)),[],[])])
def ddX12_end : List (Nat × Instr × Nat) := [(0,.iload_n 1,1),(1,.ifCond .lt 11,3),(4,.iload_n 1,1),(5,.aload_n 0,1),(6,.getfield 239,3),(9,.if_icmp .le 5,3),(12,.iconst (-1),1),(13,.ireturn,1),(14,.aload_n 0,1),(15,.iload_n 1,1),(16,.putfield 239,3),(19,.iload_n 1,1),(20,.ireturn,1)]
set_option maxRecDepth 100000 in
theorem dkX12_end : rf_decs prog_14_method_129_code ddX12_end := rf_decs_of (by decide +kernel)
def q8_P : rfP := (flX12,csX12,lcX12,spX12,[],[],[],([],[]))
def q8_U : rfU := []
set_option maxHeartbeats 8000000 in
def q8_N : List rfB := [(0,([(0,.inr (.inl [114])),(1,.inl (((-2147483648),(-1),1),none))],[],[((114,2),(0,0,0),some ((114,2),0,0))]),(3,[]),0)]
set_option maxRecDepth 100000 in
theorem q8_ok : rf_chkB q8_P q8_U wLay q8_M ddX12_end [] [] [0] 600 q8_N = true := by decide +kernel
set_option maxHeartbeats 4000000 in
theorem q8_met {G : rfG} (h : okG G) : rf_met G q8_M := rf_methodB h.1 (P := q8_P) (U := q8_U) (N := q8_N) ⟨wflT h flokX12, wcsT h csokX12, wlcT h lcokX12, spokX12 h, fun _ h => absurd h List.not_mem_nil, fun _ h => absurd h List.not_mem_nil, fun _ h => absurd h List.not_mem_nil, fun _ h => absurd h List.not_mem_nil, fun _ h => absurd h List.not_mem_nil⟩ dkX12_end (by decide +kernel) (by rw [h.2.2.1]; exact q8_ok)
/-- NearSpell.end -/
def q9_M : rfM := ((⟨"NearSpell", "end", "(I)I"⟩, prog_1_method_3_code, 2, (some .int)), (0,0), ([.inr (.inl [70]),.inl ((0,0,0),none)],[((70,1),(0,0,0),none)]), [(70,2)], [(some (.inl ((0,0,0),none)),[],[((70,1),(0,0,0),none)])])
def q9_P : rfP := (flX11,csX11,lcX11,spX11,[],[],[],([],[]))
def q9_U : rfU := []
set_option maxHeartbeats 8000000 in
def q9_N : List rfB := [(0,([(0,.inr (.inl [70])),(1,.inl ((0,0,0),none))],[],[((70,1),(0,0,0),some ((70,1),0,0))]),(10,[]),0)]
set_option maxRecDepth 100000 in
theorem q9_ok : rf_chkB q9_P q9_U wLay q9_M ddX11_end [] [] [0] 600 q9_N = true := by decide +kernel
set_option maxHeartbeats 4000000 in
theorem q9_met {G : rfG} (h : okG G) : rf_met G q9_M := rf_methodB h.1 (P := q9_P) (U := q9_U) (N := q9_N) ⟨wflT h flokX11, wcsT h csokX11, wlcT h lcokX11, spokX11 h, fun _ h => absurd h List.not_mem_nil, fun _ h => absurd h List.not_mem_nil, fun _ h => absurd h List.not_mem_nil, fun _ h => absurd h List.not_mem_nil, fun _ h => absurd h List.not_mem_nil⟩ dkX11_end (by decide +kernel) (by rw [h.2.2.1]; exact q9_ok)
/-- NearSpellModel.end -/
def q10_M : rfM := ((⟨"NearSpellModel", "end", "(I)I"⟩, prog_14_method_129_code, 2, (some .int)), (0,0), ([.inr (.inl [114]),.inl ((0,0,0),none)],[((114,2),(0,0,0),none)]), [(114,3)], [(some (.inl ((0,0,0),none)),[],[((114,2),(0,0,0),none)])])
def q10_P : rfP := (flX12,csX12,lcX12,spX12,[],[],[],([],[]))
def q10_U : rfU := []
set_option maxHeartbeats 8000000 in
def q10_N : List rfB := [(0,([(0,.inr (.inl [114])),(1,.inl ((0,0,0),none))],[],[((114,2),(0,0,0),some ((114,2),0,0))]),(10,[]),0)]
set_option maxRecDepth 100000 in
theorem q10_ok : rf_chkB q10_P q10_U wLay q10_M ddX12_end [] [] [0] 600 q10_N = true := by decide +kernel
set_option maxHeartbeats 4000000 in
theorem q10_met {G : rfG} (h : okG G) : rf_met G q10_M := rf_methodB h.1 (P := q10_P) (U := q10_U) (N := q10_N) ⟨wflT h flokX12, wcsT h csokX12, wlcT h lcokX12, spokX12 h, fun _ h => absurd h List.not_mem_nil, fun _ h => absurd h List.not_mem_nil, fun _ h => absurd h List.not_mem_nil, fun _ h => absurd h List.not_mem_nil, fun _ h => absurd h List.not_mem_nil⟩ dkX12_end (by decide +kernel) (by rw [h.2.2.1]; exact q10_ok)
/-- NearSpell.end -/
def q11_M : rfM := ((⟨"NearSpell", "end", "(I)I"⟩, prog_1_method_3_code, 2, (some .int)), (0,0), ([.inr (.inl [70]),.inl ((1,2147483647,1),none)],[((70,1),(0,0,0),none)]), [], [(some (.inl (((-1),(-1),0),none)),[],[])])
def q11_P : rfP := (flX11,csX11,lcX11,spX11,[],[],[],([],[]))
def q11_U : rfU := []
set_option maxHeartbeats 8000000 in
def q11_N : List rfB := [(0,([(0,.inr (.inl [70])),(1,.inl ((1,2147483647,1),none))],[],[((70,1),(0,0,0),some ((70,1),0,0))]),(7,[]),0)]
set_option maxRecDepth 100000 in
theorem q11_ok : rf_chkB q11_P q11_U wLay q11_M ddX11_end [] [] [0] 600 q11_N = true := by decide +kernel
set_option maxHeartbeats 4000000 in
theorem q11_met {G : rfG} (h : okG G) : rf_met G q11_M := rf_methodB h.1 (P := q11_P) (U := q11_U) (N := q11_N) ⟨wflT h flokX11, wcsT h csokX11, wlcT h lcokX11, spokX11 h, fun _ h => absurd h List.not_mem_nil, fun _ h => absurd h List.not_mem_nil, fun _ h => absurd h List.not_mem_nil, fun _ h => absurd h List.not_mem_nil, fun _ h => absurd h List.not_mem_nil⟩ dkX11_end (by decide +kernel) (by rw [h.2.2.1]; exact q11_ok)
/-- NearSpellModel.end -/
def q12_M : rfM := ((⟨"NearSpellModel", "end", "(I)I"⟩, prog_14_method_129_code, 2, (some .int)), (0,0), ([.inr (.inl [114]),.inl ((1,2147483647,1),none)],[((114,2),(0,0,0),none)]), [], [(some (.inl (((-1),(-1),0),none)),[],[])])
def q12_P : rfP := (flX12,csX12,lcX12,spX12,[],[],[],([],[]))
def q12_U : rfU := []
set_option maxHeartbeats 8000000 in
def q12_N : List rfB := [(0,([(0,.inr (.inl [114])),(1,.inl ((1,2147483647,1),none))],[],[((114,2),(0,0,0),some ((114,2),0,0))]),(7,[]),0)]
set_option maxRecDepth 100000 in
theorem q12_ok : rf_chkB q12_P q12_U wLay q12_M ddX12_end [] [] [0] 600 q12_N = true := by decide +kernel
set_option maxHeartbeats 4000000 in
theorem q12_met {G : rfG} (h : okG G) : rf_met G q12_M := rf_methodB h.1 (P := q12_P) (U := q12_U) (N := q12_N) ⟨wflT h flokX12, wcsT h csokX12, wlcT h lcokX12, spokX12 h, fun _ h => absurd h List.not_mem_nil, fun _ h => absurd h List.not_mem_nil, fun _ h => absurd h List.not_mem_nil, fun _ h => absurd h List.not_mem_nil, fun _ h => absurd h List.not_mem_nil⟩ dkX12_end (by decide +kernel) (by rw [h.2.2.1]; exact q12_ok)
/-- NearSpell.Book.reset -/
def q13_M : rfM := ((⟨"NearSpell$Book", "reset", "()V"⟩, prog_3_method_2_code, 1, none), (0,0), ([.inr (.inl [10])],[]), [(10,5),(10,6),(10,7),(10,8),(10,9),(10,10),(10,11),(10,12),(10,13)], [(none,[],[((10,4),(0,0,0),none),((10,5),(4,4,0),none),((10,6),(2,2,0),none),((10,7),(13,13,0),none),((10,8),(0,0,0),none),((10,9),(0,0,0),none),((10,10),(0,0,0),none),((10,11),(0,0,0),none),((10,12),(0,0,0),none)])])
def ddX1_reset : List (Nat × Instr × Nat) := [(0,.aload_n 0,1),(1,.iconst 0,1),(2,.putfield 27,3),(5,.aload_n 0,1),(6,.iconst 4,1),(7,.putfield 31,3),(10,.aload_n 0,1),(11,.iconst 2,1),(12,.putfield 34,3),(15,.aload_n 0,1),(16,.bipush 13,2),(18,.putfield 37,3),(21,.aload_n 0,1),(22,.iconst 0,1),(23,.putfield 40,3),(26,.aload_n 0,1),(27,.iconst 0,1),(28,.putfield 43,3),(31,.aload_n 0,1),(32,.iconst 0,1),(33,.putfield 46,3),(36,.aload_n 0,1),(37,.iconst 0,1),(38,.putfield 49,3),(41,.aload_n 0,1),(42,.iconst 0,1),(43,.putfield 52,3),(46,.return_,1)]
set_option maxRecDepth 100000 in
theorem dkX1_reset : rf_decs prog_3_method_2_code ddX1_reset := rf_decs_of (by decide +kernel)
def q13_P : rfP := (flX1,csX1,lcX1,spX1,[],[],[],([],[]))
def q13_U : rfU := []
set_option maxHeartbeats 8000000 in
def q13_N : List rfB := [(0,([(0,.inr (.inl [10]))],[],[]),(27,[]),0)]
set_option maxRecDepth 100000 in
theorem q13_ok : rf_chkB q13_P q13_U wLay q13_M ddX1_reset [] [] [0] 600 q13_N = true := by decide +kernel
set_option maxHeartbeats 4000000 in
theorem q13_met {G : rfG} (h : okG G) : rf_met G q13_M := rf_methodB h.1 (P := q13_P) (U := q13_U) (N := q13_N) ⟨wflT h flokX1, wcsT h csokX1, wlcT h lcokX1, spokX1 h, fun _ h => absurd h List.not_mem_nil, fun _ h => absurd h List.not_mem_nil, fun _ h => absurd h List.not_mem_nil, fun _ h => absurd h List.not_mem_nil, fun _ h => absurd h List.not_mem_nil⟩ dkX1_reset (by decide +kernel) (by rw [h.2.2.1]; exact q13_ok)
/-- NearSpell.Reader.takeToken -/
def q14_M : rfM := ((⟨"NearSpell$Reader", "takeToken", "()V"⟩, prog_8_method_15_code, 1, none), (0,0), ([.inr (.inl [11])],[((11,2),(0,0,0),none),((11,3),(0,0,0),none),((11,4),(0,0,0),none),((11,6),(0,0,0),none),((11,8),(0,0,0),none)]), [(11,5),(11,6)], [(none,[],[((11,4),(0,0,0),some ((11,3),0,0)),((11,5),(16,16,0),none)])])
def ddX6_takeToken : List (Nat × Instr × Nat) := [(0,.aload_n 0,1),(1,.getfield 19,3),(4,.ifCond .eq 4,3),(7,.return_,1),(8,.aload_n 0,1),(9,.getfield 40,3),(12,.aload_n 0,1),(13,.getfield 37,3),(16,.if_icmp .ge 44,3),(19,.aload_n 0,1),(20,.getfield 9,3),(23,.aload_n 0,1),(24,.getfield 40,3),(27,.baload,1),(28,.bipush 32,2),(30,.if_icmp .eq 17,3),(33,.aload_n 0,1),(34,.getfield 9,3),(37,.aload_n 0,1),(38,.getfield 40,3),(41,.baload,1),(42,.bipush 10,2),(44,.if_icmp .ne 16,3),(47,.aload_n 0,1),(48,.dup,1),(49,.getfield 40,3),(52,.iconst 1,1),(53,.iadd,1),(54,.putfield 40,3),(57,.goto (-49),3),(60,.aload_n 0,1),(61,.aload_n 0,1),(62,.getfield 40,3),(65,.putfield 55,3),(68,.aload_n 0,1),(69,.getfield 40,3),(72,.aload_n 0,1),(73,.getfield 37,3),(76,.if_icmp .lt 12,3),(79,.aload_n 0,1),(80,.bipush 16,2),(82,.putfield 49,3),(85,.goto 100,3),(88,.aload_n 0,1),(89,.aload_n 0,1),(90,.getfield 40,3),(93,.invokevirtual 127,3),(96,.ifCond .eq 10,3),(99,.aload_n 0,1),(100,.invokevirtual 130,3),(103,.goto 82,3),(106,.aload_n 0,1),(107,.aload_n 0,1),(108,.getfield 40,3),(111,.invokevirtual 133,3),(114,.ifCond .eq 10,3),(117,.aload_n 0,1),(118,.invokevirtual 136,3),(121,.goto 64,3),(124,.aload_n 0,1),(125,.getfield 9,3),(128,.aload_n 0,1),(129,.getfield 40,3),(132,.baload,1),(133,.ifCond .le 47,3),(136,.ldc 139,2),(138,.aload_n 0,1),(139,.getfield 9,3),(142,.aload_n 0,1),(143,.getfield 40,3),(146,.baload,1),(147,.i2c,1),(148,.invokevirtual 141,3),(151,.ifCond .lt 29,3),(154,.aload_n 0,1),(155,.aload_n 0,1),(156,.getfield 9,3),(159,.aload_n 0,1),(160,.getfield 40,3),(163,.baload,1),(164,.putfield 49,3),(167,.aload_n 0,1),(168,.dup,1),(169,.getfield 40,3),(172,.iconst 1,1),(173,.iadd,1),(174,.putfield 40,3),(177,.goto 8,3),(180,.aload_n 0,1),(181,.iconst 1,1),(182,.invokevirtual 62,3),(185,.return_,1)]
set_option maxRecDepth 100000 in
theorem dkX6_takeToken : rf_decs prog_8_method_15_code ddX6_takeToken := rf_decs_of (by decide +kernel)
def q14_P : rfP := (flX6,csX6,lcX6,spX6,[],[],[],([],[]))
def q14_U : rfU := []
set_option maxHeartbeats 8000000 in
def q14_N : List rfB := [(0,([(0,.inr (.inl [11]))],[],[((11,2),(0,0,0),some ((11,2),0,0)),((11,3),(0,0,0),some ((11,3),0,0)),((11,4),(0,0,0),some ((11,4),0,0)),((11,6),(0,0,0),some ((11,6),0,0)),((11,8),(0,0,0),some ((11,8),0,0))]),(21,[]),0)]
set_option maxRecDepth 100000 in
theorem q14_ok : rf_chkB q14_P q14_U wLay q14_M ddX6_takeToken [] [] [0] 600 q14_N = true := by decide +kernel
set_option maxHeartbeats 4000000 in
theorem q14_met {G : rfG} (h : okG G) : rf_met G q14_M := rf_methodB h.1 (P := q14_P) (U := q14_U) (N := q14_N) ⟨wflT h flokX6, wcsT h csokX6, wlcT h lcokX6, spokX6 h, fun _ h => absurd h List.not_mem_nil, fun _ h => absurd h List.not_mem_nil, fun _ h => absurd h List.not_mem_nil, fun _ h => absurd h List.not_mem_nil, fun _ h => absurd h List.not_mem_nil⟩ dkX6_takeToken (by decide +kernel) (by rw [h.2.2.1]; exact q14_ok)
/-- NearSpell.Reader.readText -/
def q15_M : rfM := ((⟨"NearSpell$Reader", "readText", "(I)Z"⟩, prog_8_method_2_code, 3, (some .boolean)), (1,20), ([.inr (.inl [11]),.inl ((0,0,0),none)],[((5,4),(0,0,0),none),((5,10),(0,0,0),none),((5,11),(0,0,0),none),((10,4),(0,0,0),none),((10,10),(0,0,0),none),((10,11),(0,0,0),none),((11,2),(0,0,0),none),((11,3),(0,0,0),none),((11,4),(0,0,0),none),((11,5),(0,0,0),none),((11,6),(0,0,0),none),((11,7),(0,0,0),none),((11,8),(0,0,0),none)]), [(10,5),(10,6),(10,7),(10,8),(10,9),(10,10),(10,11),(10,12),(10,13),(11,3),(11,4),(11,5),(11,6),(11,8),(11,9),(11,10)], [(some (.inl ((1,1,0),none)),[],[((10,4),(0,0,0),none),((10,5),(4,4,0),none),((10,6),(2,2,0),none),((10,7),(13,13,0),none),((10,8),(0,0,0),none),((10,9),(0,0,0),none),((10,10),(0,0,0),none),((10,11),(0,0,0),none),((10,12),(0,0,0),none),((11,2),(0,0,1),none),((11,3),(0,0,0),none),((11,4),(0,0,0),none),((11,5),(16,16,0),none),((11,7),(0,0,0),none),((11,8),(0,0,0),none),((11,9),((-1),(-1),0),none)])])
def ddX6_readText : List (Nat × Instr × Nat) := [(0,.aload_n 0,1),(1,.getfield 15,3),(4,.invokevirtual 26,3),(7,.aload_n 0,1),(8,.iload_n 1,1),(9,.aload_n 0,1),(10,.getfield 9,3),(13,.arraylength,1),(14,.invokestatic 31,3),(17,.putfield 37,3),(20,.aload_n 0,1),(21,.iconst 0,1),(22,.putfield 40,3),(25,.aload_n 0,1),(26,.iconst 0,1),(27,.putfield 43,3),(30,.aload_n 0,1),(31,.iconst 0,1),(32,.putfield 19,3),(35,.aload_n 0,1),(36,.iconst (-1),1),(37,.putfield 23,3),(40,.aload_n 0,1),(41,.invokevirtual 46,3),(44,.iconst 0,1),(45,.istore_n 2,1),(46,.iload_n 2,1),(47,.sipush 1600,3),(50,.if_icmp .gt 29,3),(53,.aload_n 0,1),(54,.getfield 49,3),(57,.bipush 16,2),(59,.if_icmp .eq 20,3),(62,.aload_n 0,1),(63,.getfield 19,3),(66,.ifCond .ne 13,3),(69,.aload_n 0,1),(70,.invokevirtual 52,3),(73,.iinc 2 1,3),(76,.goto (-30),3),(79,.aload_n 0,1),(80,.getfield 19,3),(83,.ifCond .ne 7,3),(86,.iconst 1,1),(87,.goto 4,3),(90,.iconst 0,1),(91,.ireturn,1)]
set_option maxRecDepth 100000 in
theorem dkX6_readText : rf_decs prog_8_method_2_code ddX6_readText := rf_decs_of (by decide +kernel)
def q15_P : rfP := (flX6,csX6,lcX6,spX6,[q13_M,q14_M],[],[(26,0,1),(46,1,6)],([],[(31,1)]))
def q15_U : rfU := []
set_option maxHeartbeats 8000000 in
def q15_N : List rfB := [(0,([(0,.inr (.inl [11])),(1,.inl ((0,0,0),none))],[],[((5,4),(0,0,0),some ((5,4),0,0)),((5,10),(0,0,0),some ((5,10),0,0)),((5,11),(0,0,0),some ((5,11),0,0)),((10,4),(0,0,0),some ((10,4),0,0)),((10,10),(0,0,0),some ((10,10),0,0)),((10,11),(0,0,0),some ((10,11),0,0)),((11,2),(0,0,0),some ((11,2),0,0)),((11,3),(0,0,0),some ((11,3),0,0)),((11,4),(0,0,0),some ((11,4),0,0)),((11,5),(0,0,0),some ((11,5),0,0)),((11,6),(0,0,0),some ((11,6),0,0)),((11,7),(0,0,0),some ((11,7),0,0)),((11,8),(0,0,0),some ((11,8),0,0))]),(38,[]),0)]
set_option maxRecDepth 100000 in
theorem q15_ok : rf_chkB q15_P q15_U wLay q15_M ddX6_readText [(4,[0]),(41,[1])] [] [0] 600 q15_N = true := by decide +kernel
set_option maxHeartbeats 4000000 in
theorem q15_met {G : rfG} (h : okG G) : rf_met G q15_M := rf_methodB h.1 (P := q15_P) (U := q15_U) (N := q15_N) ⟨wflT h flokX6, wcsT h csokX6, wlcT h lcokX6, spokX6 h, List.forall_mem_cons.mpr ⟨q13_met h, List.forall_mem_cons.mpr ⟨q14_met h, fun _ h => absurd h List.not_mem_nil⟩⟩, fun _ h => absurd h List.not_mem_nil, List.forall_mem_cons.mpr ⟨fun M hM => Option.some.inj (show some q13_M = some M from hM) ▸ wlkV (lkX6_26 h) q13_M rfl rfl, List.forall_mem_cons.mpr ⟨fun M hM => Option.some.inj (show some q14_M = some M from hM) ▸ wlkV (lkX6_46 h) q14_M rfl rfl, fun _ h => absurd h List.not_mem_nil⟩⟩, fun _ h => absurd h List.not_mem_nil, List.forall_mem_cons.mpr ⟨⟨wmT h (wm130), fun h => absurd h (by decide), fun _ => ⟨wmT h (wm556), wmT h (wm557), wmT h (wm558)⟩, fun h => absurd h (by decide)⟩, fun _ h => absurd h List.not_mem_nil⟩⟩ dkX6_readText (by decide +kernel) (by rw [h.2.2.1]; exact q15_ok)
/-- NearSpell.Book.takeOver -/
def q16_M : rfM := ((⟨"NearSpell$Book", "takeOver", "(LNearSpell$Book;)V"⟩, prog_3_method_3_code, 2, none), (1,18), ([.inr (.inl [5]),.inr (.inl [10])],[((5,4),(0,0,0),none),((5,5),(4,4,0),none),((5,6),(2,2,0),none),((5,7),(13,13,0),none),((5,8),(0,0,0),none),((5,9),(0,0,0),none),((5,10),(0,0,0),none),((5,11),(0,0,0),none),((10,4),(0,0,0),none),((10,5),(4,4,0),none),((10,6),(2,2,0),none),((10,7),(13,13,0),none),((10,8),(0,0,0),none),((10,9),(0,0,0),none),((10,10),(0,0,0),none),((10,11),(0,0,0),none)]), [(1,0),(2,0),(3,0),(5,5),(5,6),(5,7),(5,8),(5,9),(5,10),(5,11),(5,12)], [(none,[],[((5,4),(0,0,0),some ((10,4),0,0)),((5,5),(4,4,0),some ((10,5),0,0)),((5,6),(2,2,0),some ((10,6),0,0)),((5,7),(13,13,0),some ((10,7),0,0)),((5,8),(0,0,0),some ((10,8),0,0)),((5,9),(0,0,0),some ((10,9),0,0)),((5,10),(0,0,0),some ((10,10),0,0)),((5,11),(0,0,0),some ((10,11),0,0))])])
def ddX1_takeOver : List (Nat × Instr × Nat) := [(0,.aload_n 1,1),(1,.getfield 9,3),(4,.iconst 0,1),(5,.aload_n 0,1),(6,.getfield 9,3),(9,.iconst 0,1),(10,.bipush 10,2),(12,.invokestatic 55,3),(15,.aload_n 1,1),(16,.getfield 15,3),(19,.iconst 0,1),(20,.aload_n 0,1),(21,.getfield 15,3),(24,.iconst 0,1),(25,.bipush 10,2),(27,.invokestatic 55,3),(30,.aload_n 1,1),(31,.getfield 18,3),(34,.iconst 0,1),(35,.aload_n 0,1),(36,.getfield 18,3),(39,.iconst 0,1),(40,.sipush 300,3),(43,.invokestatic 55,3),(46,.aload_n 0,1),(47,.aload_n 1,1),(48,.getfield 27,3),(51,.putfield 27,3),(54,.aload_n 0,1),(55,.aload_n 1,1),(56,.getfield 31,3),(59,.putfield 31,3),(62,.aload_n 0,1),(63,.aload_n 1,1),(64,.getfield 34,3),(67,.putfield 34,3),(70,.aload_n 0,1),(71,.aload_n 1,1),(72,.getfield 37,3),(75,.putfield 37,3),(78,.aload_n 0,1),(79,.aload_n 1,1),(80,.getfield 40,3),(83,.putfield 40,3),(86,.aload_n 0,1),(87,.aload_n 1,1),(88,.getfield 43,3),(91,.putfield 43,3),(94,.aload_n 0,1),(95,.aload_n 1,1),(96,.getfield 46,3),(99,.putfield 46,3),(102,.aload_n 0,1),(103,.aload_n 1,1),(104,.getfield 49,3),(107,.putfield 49,3),(110,.return_,1)]
set_option maxRecDepth 100000 in
theorem dkX1_takeOver : rf_decs prog_3_method_3_code ddX1_takeOver := rf_decs_of (by decide +kernel)
def q16_P : rfP := (flX1,csX1,lcX1,spX1,[],[],[],([55],[]))
def q16_U : rfU := []
set_option maxHeartbeats 8000000 in
def q16_N : List rfB := [(0,([(0,.inr (.inl [5])),(1,.inr (.inl [10]))],[],[((5,4),(0,0,0),some ((5,4),0,0)),((5,5),(4,4,0),some ((5,5),0,0)),((5,6),(2,2,0),some ((5,6),0,0)),((5,7),(13,13,0),some ((5,7),0,0)),((5,8),(0,0,0),some ((5,8),0,0)),((5,9),(0,0,0),some ((5,9),0,0)),((5,10),(0,0,0),some ((5,10),0,0)),((5,11),(0,0,0),some ((5,11),0,0)),((10,4),(0,0,0),some ((10,4),0,0)),((10,5),(4,4,0),some ((10,5),0,0)),((10,6),(2,2,0),some ((10,6),0,0)),((10,7),(13,13,0),some ((10,7),0,0)),((10,8),(0,0,0),some ((10,8),0,0)),((10,9),(0,0,0),some ((10,9),0,0)),((10,10),(0,0,0),some ((10,10),0,0)),((10,11),(0,0,0),some ((10,11),0,0))]),(56,[]),0)]
set_option maxRecDepth 100000 in
theorem q16_ok : rf_chkB q16_P q16_U wLay q16_M ddX1_takeOver [] [] [0] 600 q16_N = true := by decide +kernel
set_option maxHeartbeats 4000000 in
theorem q16_met {G : rfG} (h : okG G) : rf_met G q16_M := rf_methodB h.1 (P := q16_P) (U := q16_U) (N := q16_N) ⟨wflT h flokX1, wcsT h csokX1, wlcT h lcokX1, spokX1 h, fun _ h => absurd h List.not_mem_nil, fun _ h => absurd h List.not_mem_nil, fun _ h => absurd h List.not_mem_nil, List.forall_mem_cons.mpr ⟨⟨wmT h (wm753), wmT h (wm755), wmT h (wm754), wmT h (wm136)⟩, fun _ h => absurd h List.not_mem_nil⟩, fun _ h => absurd h List.not_mem_nil⟩ dkX1_takeOver (by decide +kernel) (by rw [h.2.2.1]; exact q16_ok)
/-- NearSpell.State.begin -/
def q17_M : rfM := ((⟨"NearSpell$State", "begin", "(LNearSpell$Book;)V"⟩, prog_10_method_2_code, 3, none), (0,0), ([.inr (.inl [13]),.inr (.inl [5])],[((5,4),(0,0,0),none),((5,9),(0,0,0),none),((10,4),(0,0,0),none),((10,9),(0,0,0),none),((12,34),(0,0,0),none),((12,35),(0,0,0),none),((12,36),(0,0,0),none)]), [(12,0)], [(none,[],[((12,36),(0,0,0),some ((5,9),0,0))])])
def ddX8_begin : List (Nat × Instr × Nat) := [(0,.iconst 0,1),(1,.istore_n 2,1),(2,.iload_n 2,1),(3,.bipush 37,2),(5,.if_icmp .ge 16,3),(8,.aload_n 0,1),(9,.getfield 11,3),(12,.iload_n 2,1),(13,.iconst 0,1),(14,.iastore,1),(15,.iinc 2 1,3),(18,.goto (-16),3),(21,.iconst 0,1),(22,.istore_n 2,1),(23,.iload_n 2,1),(24,.aload_n 1,1),(25,.getfield 15,3),(28,.if_icmp .ge 26,3),(31,.aload_n 0,1),(32,.aload_n 1,1),(33,.getfield 21,3),(36,.iload_n 2,1),(37,.iaload,1),(38,.aload_n 1,1),(39,.getfield 24,3),(42,.iload_n 2,1),(43,.iaload,1),(44,.invokevirtual 27,3),(47,.pop,1),(48,.iinc 2 1,3),(51,.goto (-28),3),(54,.aload_n 0,1),(55,.getfield 11,3),(58,.bipush 36,2),(60,.aload_n 1,1),(61,.getfield 31,3),(64,.iastore,1),(65,.return_,1)]
set_option maxRecDepth 100000 in
theorem dkX8_begin : rf_decs prog_10_method_2_code ddX8_begin := rf_decs_of (by decide +kernel)
def q17_P : rfP := (flX8,csX8,lcX8,spX8,[],[],[],([],[]))
def q17_U : rfU := []
set_option maxHeartbeats 8000000 in
def q17_N : List rfB := [(0,([(0,.inr (.inl [13])),(1,.inr (.inl [5]))],[],[((5,4),(0,0,0),some ((5,4),0,0)),((5,9),(0,0,0),some ((5,9),0,0)),((10,4),(0,0,0),some ((10,4),0,0)),((10,9),(0,0,0),some ((10,9),0,0)),((12,34),(0,0,0),some ((12,34),0,0)),((12,35),(0,0,0),some ((12,35),0,0)),((12,36),(0,0,0),some ((12,36),0,0))]),(432,[0]),0)]
set_option maxRecDepth 100000 in
theorem q17_ok : rf_chkB q17_P q17_U wLay q17_M ddX8_begin [] [.inl 2] [0] 393 q17_N = true := by decide +kernel
set_option maxHeartbeats 4000000 in
theorem q17_met {G : rfG} (h : okG G) : rf_met G q17_M := rf_methodB h.1 (P := q17_P) (U := q17_U) (N := q17_N) ⟨wflT h flokX8, wcsT h csokX8, wlcT h lcokX8, spokX8 h, fun _ h => absurd h List.not_mem_nil, fun _ h => absurd h List.not_mem_nil, fun _ h => absurd h List.not_mem_nil, fun _ h => absurd h List.not_mem_nil, fun _ h => absurd h List.not_mem_nil⟩ dkX8_begin (by decide +kernel) (by rw [h.2.2.1]; exact q17_ok)
/-- NearSpell.Archive.rowPlace -/
def q18_M : rfM := ((⟨"NearSpell$Archive", "rowPlace", "()I"⟩, prog_2_method_6_code, 1, (some .int)), (0,0), ([.inr (.inl [16])],[((16,3),(0,0,0),none),((16,4),(0,0,0),none)]), [], [(some (.inl ((0,0,37),none)),[],[])])
def ddX0_rowPlace : List (Nat × Instr × Nat) := [(0,.aload_n 0,1),(1,.getfield 24,3),(4,.aload_n 0,1),(5,.getfield 27,3),(8,.iadd,1),(9,.bipush 41,2),(11,.irem,1),(12,.bipush 37,2),(14,.imul,1),(15,.ireturn,1)]
set_option maxRecDepth 100000 in
theorem dkX0_rowPlace : rf_decs prog_2_method_6_code ddX0_rowPlace := rf_decs_of (by decide +kernel)
def q18_P : rfP := (flX0,csX0,lcX0,spX0,[],[],[],([],[]))
def q18_U : rfU := []
set_option maxHeartbeats 8000000 in
def q18_N : List rfB := [(0,([(0,.inr (.inl [16]))],[],[((16,3),(0,0,0),some ((16,3),0,0)),((16,4),(0,0,0),some ((16,4),0,0))]),(9,[]),0)]
set_option maxRecDepth 100000 in
theorem q18_ok : rf_chkB q18_P q18_U wLay q18_M ddX0_rowPlace [] [] [0] 600 q18_N = true := by decide +kernel
set_option maxHeartbeats 4000000 in
theorem q18_met {G : rfG} (h : okG G) : rf_met G q18_M := rf_methodB h.1 (P := q18_P) (U := q18_U) (N := q18_N) ⟨wflT h flokX0, wcsT h csokX0, wlcT h lcokX0, spokX0 h, fun _ h => absurd h List.not_mem_nil, fun _ h => absurd h List.not_mem_nil, fun _ h => absurd h List.not_mem_nil, fun _ h => absurd h List.not_mem_nil, fun _ h => absurd h List.not_mem_nil⟩ dkX0_rowPlace (by decide +kernel) (by rw [h.2.2.1]; exact q18_ok)
/-- NearSpell.Archive.keepRow -/
def q19_M : rfM := ((⟨"NearSpell$Archive", "keepRow", "(LNearSpell$State;)V"⟩, prog_2_method_7_code, 2, none), (1,20), ([.inr (.inl [16]),.inr (.inl [13])],[((12,36),(0,0,0),none),((16,3),(0,0,0),none),((16,4),(0,0,0),none)]), [(14,0)], [(none,[],[])])
def ddX0_keepRow : List (Nat × Instr × Nat) := [(0,.aload_n 1,1),(1,.getfield 40,3),(4,.iconst 0,1),(5,.aload_n 0,1),(6,.getfield 13,3),(9,.aload_n 0,1),(10,.invokevirtual 43,3),(13,.bipush 37,2),(15,.invokestatic 47,3),(18,.return_,1)]
set_option maxRecDepth 100000 in
theorem dkX0_keepRow : rf_decs prog_2_method_7_code ddX0_keepRow := rf_decs_of (by decide +kernel)
def q19_P : rfP := (flX0,csX0,lcX0,spX0,[q18_M],[],[(43,0,0)],([47],[]))
def q19_U : rfU := []
set_option maxHeartbeats 8000000 in
def q19_N : List rfB := [(0,([(0,.inr (.inl [16])),(1,.inr (.inl [13]))],[],[((12,36),(0,0,0),some ((12,36),0,0)),((16,3),(0,0,0),some ((16,3),0,0)),((16,4),(0,0,0),some ((16,4),0,0))]),(9,[]),0)]
set_option maxRecDepth 100000 in
theorem q19_ok : rf_chkB q19_P q19_U wLay q19_M ddX0_keepRow [(10,[0])] [] [0] 600 q19_N = true := by decide +kernel
set_option maxHeartbeats 4000000 in
theorem q19_met {G : rfG} (h : okG G) : rf_met G q19_M := rf_methodB h.1 (P := q19_P) (U := q19_U) (N := q19_N) ⟨wflT h flokX0, wcsT h csokX0, wlcT h lcokX0, spokX0 h, List.forall_mem_cons.mpr ⟨q18_met h, fun _ h => absurd h List.not_mem_nil⟩, fun _ h => absurd h List.not_mem_nil, List.forall_mem_cons.mpr ⟨fun M hM => Option.some.inj (show some q18_M = some M from hM) ▸ wlkV (lkX0_43 h) q18_M rfl rfl, fun _ h => absurd h List.not_mem_nil⟩, List.forall_mem_cons.mpr ⟨⟨wmT h (wm776), wmT h (wm755), wmT h (wm754), wmT h (wm136)⟩, fun _ h => absurd h List.not_mem_nil⟩, fun _ h => absurd h List.not_mem_nil⟩ dkX0_keepRow (by decide +kernel) (by rw [h.2.2.1]; exact q19_ok)
/-- NearSpell.Archive.dropActs -/
def q20_M : rfM := ((⟨"NearSpell$Archive", "dropActs", "(LNearSpell$State;)V"⟩, prog_2_method_2_code, 2, none), (2,41), ([.inr (.inl [16]),.inr (.inl [13])],[((12,36),(0,0,0),none),((16,3),(0,0,0),none),((16,4),(0,0,0),none)]), [(14,0),(16,4),(16,5),(16,6)], [(none,[],[((16,3),(0,0,0),none),((16,4),(0,0,0),none),((16,5),(0,0,0),none)])])
def ddX0_dropActs : List (Nat × Instr × Nat) := [(0,.aload_n 0,1),(1,.iconst 0,1),(2,.putfield 24,3),(5,.aload_n 0,1),(6,.iconst 0,1),(7,.putfield 27,3),(10,.aload_n 0,1),(11,.iconst 0,1),(12,.putfield 30,3),(15,.aload_n 0,1),(16,.aload_n 1,1),(17,.invokevirtual 33,3),(20,.return_,1)]
set_option maxRecDepth 100000 in
theorem dkX0_dropActs : rf_decs prog_2_method_2_code ddX0_dropActs := rf_decs_of (by decide +kernel)
def q20_P : rfP := (flX0,csX0,lcX0,spX0,[q19_M],[],[(33,0,0)],([],[]))
def q20_U : rfU := []
set_option maxHeartbeats 8000000 in
def q20_N : List rfB := [(0,([(0,.inr (.inl [16])),(1,.inr (.inl [13]))],[],[((12,36),(0,0,0),some ((12,36),0,0)),((16,3),(0,0,0),some ((16,3),0,0)),((16,4),(0,0,0),some ((16,4),0,0))]),(12,[]),0)]
set_option maxRecDepth 100000 in
theorem q20_ok : rf_chkB q20_P q20_U wLay q20_M ddX0_dropActs [(17,[0])] [] [0] 600 q20_N = true := by decide +kernel
set_option maxHeartbeats 4000000 in
theorem q20_met {G : rfG} (h : okG G) : rf_met G q20_M := rf_methodB h.1 (P := q20_P) (U := q20_U) (N := q20_N) ⟨wflT h flokX0, wcsT h csokX0, wlcT h lcokX0, spokX0 h, List.forall_mem_cons.mpr ⟨q19_met h, fun _ h => absurd h List.not_mem_nil⟩, fun _ h => absurd h List.not_mem_nil, List.forall_mem_cons.mpr ⟨fun M hM => Option.some.inj (show some q19_M = some M from hM) ▸ wlkV (lkX0_33 h) q19_M rfl rfl, fun _ h => absurd h List.not_mem_nil⟩, fun _ h => absurd h List.not_mem_nil, fun _ h => absurd h List.not_mem_nil⟩ dkX0_dropActs (by decide +kernel) (by rw [h.2.2.1]; exact q20_ok)
/-- NearSpell.Archive.dropBoxes -/
def q21_M : rfM := ((⟨"NearSpell$Archive", "dropBoxes", "()V"⟩, prog_2_method_9_code, 1, none), (0,0), ([.inr (.inl [16])],[]), [(16,3)], [(none,[],[((16,2),(0,0,0),none)])])
def ddX0_dropBoxes : List (Nat × Instr × Nat) := [(0,.aload_n 0,1),(1,.iconst 0,1),(2,.putfield 20,3),(5,.return_,1)]
set_option maxRecDepth 100000 in
theorem dkX0_dropBoxes : rf_decs prog_2_method_9_code ddX0_dropBoxes := rf_decs_of (by decide +kernel)
def q21_P : rfP := (flX0,csX0,lcX0,spX0,[],[],[],([],[]))
def q21_U : rfU := []
set_option maxHeartbeats 8000000 in
def q21_N : List rfB := [(0,([(0,.inr (.inl [16]))],[],[]),(3,[]),0)]
set_option maxRecDepth 100000 in
theorem q21_ok : rf_chkB q21_P q21_U wLay q21_M ddX0_dropBoxes [] [] [0] 600 q21_N = true := by decide +kernel
set_option maxHeartbeats 4000000 in
theorem q21_met {G : rfG} (h : okG G) : rf_met G q21_M := rf_methodB h.1 (P := q21_P) (U := q21_U) (N := q21_N) ⟨wflT h flokX0, wcsT h csokX0, wlcT h lcokX0, spokX0 h, fun _ h => absurd h List.not_mem_nil, fun _ h => absurd h List.not_mem_nil, fun _ h => absurd h List.not_mem_nil, fun _ h => absurd h List.not_mem_nil, fun _ h => absurd h List.not_mem_nil⟩ dkX0_dropBoxes (by decide +kernel) (by rw [h.2.2.1]; exact q21_ok)
/-- NearSpell.Witness.dropSeen -/
def q22_M : rfM := ((⟨"NearSpell$Witness", "dropSeen", "()V"⟩, prog_12_method_2_code, 1, none), (0,0), ([.inr (.inl [68])],[]), [(68,9)], [(none,[],[((68,8),(0,0,0),none)])])
def ddX10_dropSeen : List (Nat × Instr × Nat) := [(0,.aload_n 0,1),(1,.iconst 0,1),(2,.putfield 31,3),(5,.return_,1)]
set_option maxRecDepth 100000 in
theorem dkX10_dropSeen : rf_decs prog_12_method_2_code ddX10_dropSeen := rf_decs_of (by decide +kernel)
def q22_P : rfP := (flX10,csX10,lcX10,spX10,[],[],[],([],[]))
def q22_U : rfU := []
set_option maxHeartbeats 8000000 in
def q22_N : List rfB := [(0,([(0,.inr (.inl [68]))],[],[]),(3,[]),0)]
set_option maxRecDepth 100000 in
theorem q22_ok : rf_chkB q22_P q22_U wLay q22_M ddX10_dropSeen [] [] [0] 600 q22_N = true := by decide +kernel
set_option maxHeartbeats 4000000 in
theorem q22_met {G : rfG} (h : okG G) : rf_met G q22_M := rf_methodB h.1 (P := q22_P) (U := q22_U) (N := q22_N) ⟨wflT h flokX10, wcsT h csokX10, wlcT h lcokX10, spokX10 h, fun _ h => absurd h List.not_mem_nil, fun _ h => absurd h List.not_mem_nil, fun _ h => absurd h List.not_mem_nil, fun _ h => absurd h List.not_mem_nil, fun _ h => absurd h List.not_mem_nil⟩ dkX10_dropSeen (by decide +kernel) (by rw [h.2.2.1]; exact q22_ok)
/-- NearSpell.book -/
def q23_M : rfM := ((⟨"NearSpell", "book", "()I"⟩, prog_1_method_4_code, 1, (some .int)), (3,62), ([.inr (.inl [70])],[((5,4),(0,0,0),none),((5,5),(4,4,0),none),((5,6),(2,2,0),none),((5,7),(13,13,0),none),((5,8),(0,0,0),none),((5,9),(0,0,0),none),((5,10),(0,0,0),none),((5,11),(0,0,0),none),((10,4),(0,0,0),none),((10,5),(4,4,0),none),((10,6),(2,2,0),none),((10,7),(13,13,0),none),((10,8),(0,0,0),none),((10,9),(0,0,0),none),((10,10),(0,0,0),none),((10,11),(0,0,0),none),((11,2),(0,0,0),none),((11,3),(0,0,0),none),((11,4),(0,0,0),none),((11,5),(0,0,0),none),((11,6),(0,0,0),none),((11,7),(0,0,0),none),((11,8),(0,0,0),none),((12,34),(0,0,0),none),((12,35),(0,0,0),none),((12,36),(0,0,0),none),((16,3),(0,0,0),none),((16,4),(0,0,0),none),((70,1),(0,0,0),none)]), [(1,0),(2,0),(3,0),(5,5),(5,6),(5,7),(5,8),(5,9),(5,10),(5,11),(5,12),(10,5),(10,6),(10,7),(10,8),(10,9),(10,10),(10,11),(10,12),(10,13),(11,3),(11,4),(11,5),(11,6),(11,8),(11,9),(11,10),(12,0),(14,0),(16,3),(16,4),(16,5),(16,6),(68,9),(70,2),(70,15)], [(some (.inl ((0,0,0),none)),[],[((5,4),(0,0,0),none),((5,5),(4,4,0),none),((5,6),(2,2,0),none),((5,7),(13,13,0),none),((5,8),(0,0,0),none),((5,9),(0,0,0),none),((5,10),(0,0,0),none),((5,11),(0,0,0),none),((10,4),(0,0,0),none),((10,5),(4,4,0),none),((10,6),(2,2,0),none),((10,7),(13,13,0),none),((10,8),(0,0,0),none),((10,9),(0,0,0),none),((10,10),(0,0,0),none),((10,11),(0,0,0),none),((10,12),(0,0,0),none),((11,2),(0,0,1),none),((11,3),(0,0,0),none),((11,4),(0,0,0),none),((11,5),(16,16,0),none),((11,7),(0,0,0),none),((11,8),(0,0,0),none),((11,9),((-1),(-1),0),none),((12,36),(0,0,0),none),((16,2),(0,0,0),none),((16,3),(0,0,0),none),((16,4),(0,0,0),none),((16,5),(0,0,0),none),((68,8),(0,0,0),none),((70,1),(0,0,0),none),((70,14),(0,0,0),none)])])
def ddX11_book : List (Nat × Instr × Nat) := [(0,.aload_n 0,1),(1,.getfield 28,3),(4,.aload_n 0,1),(5,.getfield 100,3),(8,.invokevirtual 111,3),(11,.ifCond .ne 5,3),(14,.iconst (-1),1),(15,.ireturn,1),(16,.aload_n 0,1),(17,.getfield 16,3),(20,.aload_n 0,1),(21,.getfield 20,3),(24,.invokevirtual 115,3),(27,.aload_n 0,1),(28,.getfield 35,3),(31,.aload_n 0,1),(32,.getfield 16,3),(35,.invokevirtual 119,3),(38,.aload_n 0,1),(39,.getfield 42,3),(42,.aload_n 0,1),(43,.getfield 35,3),(46,.invokevirtual 122,3),(49,.aload_n 0,1),(50,.getfield 42,3),(53,.invokevirtual 126,3),(56,.aload_n 0,1),(57,.getfield 92,3),(60,.invokevirtual 129,3),(63,.aload_n 0,1),(64,.iconst 0,1),(65,.putfield 100,3),(68,.aload_n 0,1),(69,.iconst 0,1),(70,.putfield 104,3),(73,.aload_n 0,1),(74,.getfield 16,3),(77,.getfield 132,3),(80,.ireturn,1)]
set_option maxRecDepth 100000 in
theorem dkX11_book : rf_decs prog_1_method_4_code ddX11_book := rf_decs_of (by decide +kernel)
def q23_P : rfP := (flX11,csX11,lcX11,spX11,[q15_M,q16_M,q17_M,q20_M,q21_M,q22_M],[],[(111,0,6),(115,1,1),(119,2,8),(122,3,0),(126,4,0),(129,5,10)],([],[]))
def q23_U : rfU := []
set_option maxHeartbeats 8000000 in
def q23_N : List rfB := [(0,([(0,.inr (.inl [70]))],[],[((5,4),(0,0,0),some ((5,4),0,0)),((5,5),(4,4,0),some ((5,5),0,0)),((5,6),(2,2,0),some ((5,6),0,0)),((5,7),(13,13,0),some ((5,7),0,0)),((5,8),(0,0,0),some ((5,8),0,0)),((5,9),(0,0,0),some ((5,9),0,0)),((5,10),(0,0,0),some ((5,10),0,0)),((5,11),(0,0,0),some ((5,11),0,0)),((10,4),(0,0,0),some ((10,4),0,0)),((10,5),(4,4,0),some ((10,5),0,0)),((10,6),(2,2,0),some ((10,6),0,0)),((10,7),(13,13,0),some ((10,7),0,0)),((10,8),(0,0,0),some ((10,8),0,0)),((10,9),(0,0,0),some ((10,9),0,0)),((10,10),(0,0,0),some ((10,10),0,0)),((10,11),(0,0,0),some ((10,11),0,0)),((11,2),(0,0,0),some ((11,2),0,0)),((11,3),(0,0,0),some ((11,3),0,0)),((11,4),(0,0,0),some ((11,4),0,0)),((11,5),(0,0,0),some ((11,5),0,0)),((11,6),(0,0,0),some ((11,6),0,0)),((11,7),(0,0,0),some ((11,7),0,0)),((11,8),(0,0,0),some ((11,8),0,0)),((12,34),(0,0,0),some ((12,34),0,0)),((12,35),(0,0,0),some ((12,35),0,0)),((12,36),(0,0,0),some ((12,36),0,0)),((16,3),(0,0,0),some ((16,3),0,0)),((16,4),(0,0,0),some ((16,4),0,0)),((70,1),(0,0,0),some ((70,1),0,0))]),(36,[]),0)]
set_option maxRecDepth 100000 in
theorem q23_ok : rf_chkB q23_P q23_U wLay q23_M ddX11_book [(8,[0]),(24,[1]),(35,[2]),(46,[3]),(53,[4]),(60,[5])] [] [0] 600 q23_N = true := by decide +kernel
set_option maxHeartbeats 4000000 in
theorem q23_met {G : rfG} (h : okG G) : rf_met G q23_M := rf_methodB h.1 (P := q23_P) (U := q23_U) (N := q23_N) ⟨wflT h flokX11, wcsT h csokX11, wlcT h lcokX11, spokX11 h, List.forall_mem_cons.mpr ⟨q15_met h, List.forall_mem_cons.mpr ⟨q16_met h, List.forall_mem_cons.mpr ⟨q17_met h, List.forall_mem_cons.mpr ⟨q20_met h, List.forall_mem_cons.mpr ⟨q21_met h, List.forall_mem_cons.mpr ⟨q22_met h, fun _ h => absurd h List.not_mem_nil⟩⟩⟩⟩⟩⟩, fun _ h => absurd h List.not_mem_nil, List.forall_mem_cons.mpr ⟨fun M hM => Option.some.inj (show some q15_M = some M from hM) ▸ wlkV (lkX11_111 h) q15_M rfl rfl, List.forall_mem_cons.mpr ⟨fun M hM => Option.some.inj (show some q16_M = some M from hM) ▸ wlkV (lkX11_115 h) q16_M rfl rfl, List.forall_mem_cons.mpr ⟨fun M hM => Option.some.inj (show some q17_M = some M from hM) ▸ wlkV (lkX11_119 h) q17_M rfl rfl, List.forall_mem_cons.mpr ⟨fun M hM => Option.some.inj (show some q20_M = some M from hM) ▸ wlkV (lkX11_122 h) q20_M rfl rfl, List.forall_mem_cons.mpr ⟨fun M hM => Option.some.inj (show some q21_M = some M from hM) ▸ wlkV (lkX11_126 h) q21_M rfl rfl, List.forall_mem_cons.mpr ⟨fun M hM => Option.some.inj (show some q22_M = some M from hM) ▸ wlkV (lkX11_129 h) q22_M rfl rfl, fun _ h => absurd h List.not_mem_nil⟩⟩⟩⟩⟩⟩, fun _ h => absurd h List.not_mem_nil, fun _ h => absurd h List.not_mem_nil⟩ dkX11_book (by decide +kernel) (by rw [h.2.2.1]; exact q23_ok)
/-- NearSpellModel.clearBank -/
def q24_M : rfM := ((⟨"NearSpellModel", "clearBank", "()V"⟩, prog_14_method_15_code, 1, none), (0,0), ([.inr (.inl [114])],[((73,0),(0,0,0),none),((74,0),(0,0,0),none),((75,0),(4,4,0),none),((76,0),(2,2,0),none),((77,0),(13,13,0),none),((78,0),(0,0,0),none),((79,0),(0,0,0),none),((80,0),(0,0,0),none),((114,29),(1,1,0),none)]), [(73,0),(74,0),(75,0),(76,0),(77,0),(78,0),(79,0),(80,0),(114,31),(998,3)], [(none,[],[((73,0),(0,0,0),some ((73,0),0,0)),((73,1),(0,0,0),none),((74,0),(0,0,0),some ((74,0),0,0)),((74,1),(0,0,0),none),((75,0),(4,4,0),some ((75,0),0,0)),((75,1),(4,4,0),none),((76,0),(2,2,0),some ((76,0),0,0)),((76,1),(2,2,0),none),((77,0),(13,13,0),some ((77,0),0,0)),((77,1),(13,13,0),none),((78,0),(0,0,0),some ((78,0),0,0)),((78,1),(0,0,0),none),((79,0),(0,0,0),some ((79,0),0,0)),((79,1),(0,0,0),none),((80,0),(0,0,0),some ((80,0),0,0)),((80,1),(0,0,0),none),((114,30),(560,560,0),none)])])
def ddX12_clearBank : List (Nat × Instr × Nat) := [(0,.aload_n 0,1),(1,.getfield 20,3),(4,.aload_n 0,1),(5,.getfield 233,3),(8,.iconst 0,1),(9,.iastore,1),(10,.aload_n 0,1),(11,.getfield 24,3),(14,.aload_n 0,1),(15,.getfield 233,3),(18,.iconst 0,1),(19,.iastore,1),(20,.aload_n 0,1),(21,.getfield 27,3),(24,.aload_n 0,1),(25,.getfield 233,3),(28,.iconst 4,1),(29,.iastore,1),(30,.aload_n 0,1),(31,.getfield 30,3),(34,.aload_n 0,1),(35,.getfield 233,3),(38,.iconst 2,1),(39,.iastore,1),(40,.aload_n 0,1),(41,.getfield 33,3),(44,.aload_n 0,1),(45,.getfield 233,3),(48,.bipush 13,2),(50,.iastore,1),(51,.aload_n 0,1),(52,.getfield 36,3),(55,.aload_n 0,1),(56,.getfield 233,3),(59,.iconst 0,1),(60,.iastore,1),(61,.aload_n 0,1),(62,.getfield 39,3),(65,.aload_n 0,1),(66,.getfield 233,3),(69,.iconst 0,1),(70,.iastore,1),(71,.aload_n 0,1),(72,.getfield 42,3),(75,.aload_n 0,1),(76,.getfield 233,3),(79,.iconst 0,1),(80,.iastore,1),(81,.aload_n 0,1),(82,.sipush 560,3),(85,.aload_n 0,1),(86,.getfield 233,3),(89,.imul,1),(90,.putfield 236,3),(93,.return_,1)]
set_option maxRecDepth 100000 in
theorem dkX12_clearBank : rf_decs prog_14_method_15_code ddX12_clearBank := rf_decs_of (by decide +kernel)
def q24_P : rfP := (flX12,csX12,lcX12,spX12,[],[],[],([],[]))
def q24_U : rfU := []
set_option maxHeartbeats 8000000 in
def q24_N : List rfB := [(0,([(0,.inr (.inl [114]))],[],[((73,0),(0,0,0),some ((73,0),0,0)),((74,0),(0,0,0),some ((74,0),0,0)),((75,0),(4,4,0),some ((75,0),0,0)),((76,0),(2,2,0),some ((76,0),0,0)),((77,0),(13,13,0),some ((77,0),0,0)),((78,0),(0,0,0),some ((78,0),0,0)),((79,0),(0,0,0),some ((79,0),0,0)),((80,0),(0,0,0),some ((80,0),0,0)),((114,29),(1,1,0),some ((114,29),0,0))]),(54,[]),0)]
set_option maxRecDepth 100000 in
theorem q24_ok : rf_chkB q24_P q24_U wLay q24_M ddX12_clearBank [] [] [0] 600 q24_N = true := by decide +kernel
set_option maxHeartbeats 4000000 in
theorem q24_met {G : rfG} (h : okG G) : rf_met G q24_M := rf_methodB h.1 (P := q24_P) (U := q24_U) (N := q24_N) ⟨wflT h flokX12, wcsT h csokX12, wlcT h lcokX12, spokX12 h, fun _ h => absurd h List.not_mem_nil, fun _ h => absurd h List.not_mem_nil, fun _ h => absurd h List.not_mem_nil, fun _ h => absurd h List.not_mem_nil, fun _ h => absurd h List.not_mem_nil⟩ dkX12_clearBank (by decide +kernel) (by rw [h.2.2.1]; exact q24_ok)
/-- NearSpellModel.sign -/
def q25_M : rfM := ((⟨"NearSpellModel", "sign", "(I)I"⟩, prog_14_method_2_code, 2, (some .int)), (0,0), ([.inr (.inl [114]),.inl ((0,0,0),none)],[((114,3),(0,0,0),none)]), [], [(some (.inl ((0,0,0),none)),[],[])])
def ddX12_sign : List (Nat × Instr × Nat) := [(0,.iload_n 1,1),(1,.aload_n 0,1),(2,.getfield 151,3),(5,.if_icmp .ge 16,3),(8,.aload_n 0,1),(9,.getfield 13,3),(12,.iload_n 1,1),(13,.baload,1),(14,.sipush 255,3),(17,.iand,1),(18,.goto 4,3),(21,.iconst 0,1),(22,.ireturn,1)]
set_option maxRecDepth 100000 in
theorem dkX12_sign : rf_decs prog_14_method_2_code ddX12_sign := rf_decs_of (by decide +kernel)
def q25_P : rfP := (flX12,csX12,lcX12,spX12,[],[],[],([],[]))
def q25_U : rfU := []
set_option maxHeartbeats 8000000 in
def q25_N : List rfB := [(0,([(0,.inr (.inl [114])),(1,.inl ((0,0,0),none))],[],[((114,3),(0,0,0),some ((114,3),0,0))]),(5,[]),0)]
set_option maxRecDepth 100000 in
theorem q25_ok : rf_chkB q25_P q25_U wLay q25_M ddX12_sign [] [] [0] 600 q25_N = true := by decide +kernel
set_option maxHeartbeats 4000000 in
theorem q25_met {G : rfG} (h : okG G) : rf_met G q25_M := rf_methodB h.1 (P := q25_P) (U := q25_U) (N := q25_N) ⟨wflT h flokX12, wcsT h csokX12, wlcT h lcokX12, spokX12 h, fun _ h => absurd h List.not_mem_nil, fun _ h => absurd h List.not_mem_nil, fun _ h => absurd h List.not_mem_nil, fun _ h => absurd h List.not_mem_nil, fun _ h => absurd h List.not_mem_nil⟩ dkX12_sign (by decide +kernel) (by rw [h.2.2.1]; exact q25_ok)
/-- NearSpellModel.goOn -/
def q26_M : rfM := ((⟨"NearSpellModel", "goOn", "()V"⟩, prog_14_method_9_code, 3, none), (1,21), ([.inr (.inl [114])],[((114,3),(0,0,0),none),((114,6),(0,0,0),none),((114,7),(0,0,0),none),((114,9),(0,0,0),none)]), [(114,7),(114,8),(114,9),(998,2)], [(none,[],[((114,6),(0,0,0),some ((114,3),0,0)),((114,7),(0,0,0),some ((114,3),0,0)),((114,8),(0,0,0),none)])])
def ddX12_goOn : List (Nat × Instr × Nat) := [(0,.aload_n 0,1),(1,.aload_n 0,1),(2,.getfield 185,3),(5,.putfield 188,3),(8,.aload_n 0,1),(9,.getfield 188,3),(12,.aload_n 0,1),(13,.getfield 151,3),(16,.if_icmp .ge 42,3),(19,.aload_n 0,1),(20,.aload_n 0,1),(21,.getfield 188,3),(24,.invokevirtual 191,3),(27,.bipush 32,2),(29,.if_icmp .eq 16,3),(32,.aload_n 0,1),(33,.aload_n 0,1),(34,.getfield 188,3),(37,.invokevirtual 191,3),(40,.bipush 10,2),(42,.if_icmp .ne 16,3),(45,.aload_n 0,1),(46,.dup,1),(47,.getfield 188,3),(50,.iconst 1,1),(51,.iadd,1),(52,.putfield 188,3),(55,.goto (-47),3),(58,.aload_n 0,1),(59,.aload_n 0,1),(60,.getfield 188,3),(63,.invokevirtual 191,3),(66,.istore_n 1,1),(67,.aload_n 0,1),(68,.aload_n 0,1),(69,.getfield 188,3),(72,.iconst 1,1),(73,.iadd,1),(74,.putfield 185,3),(77,.aload_n 0,1),(78,.getfield 188,3),(81,.aload_n 0,1),(82,.getfield 151,3),(85,.if_icmp .lt 27,3),(88,.aload_n 0,1),(89,.iconst 0,1),(90,.putfield 195,3),(93,.aload_n 0,1),(94,.aload_n 0,1),(95,.getfield 151,3),(98,.putfield 188,3),(101,.aload_n 0,1),(102,.aload_n 0,1),(103,.getfield 151,3),(106,.putfield 185,3),(109,.goto 268,3),(112,.iload_n 1,1),(113,.invokestatic 198,3),(116,.ifCond .eq 123,3),(119,.aload_n 0,1),(120,.aload_n 0,1),(121,.getfield 185,3),(124,.invokevirtual 191,3),(127,.invokestatic 198,3),(130,.ifCond .eq 16,3),(133,.aload_n 0,1),(134,.dup,1),(135,.getfield 185,3),(138,.iconst 1,1),(139,.iadd,1),(140,.putfield 185,3),(143,.goto (-24),3),(146,.aload_n 0,1),(147,.lconst 0,1),(148,.putfield 202,3),(151,.aload_n 0,1),(152,.getfield 188,3),(155,.istore_n 2,1),(156,.iload_n 2,1),(157,.aload_n 0,1),(158,.getfield 185,3),(161,.if_icmp .ge 38,3),(164,.iload_n 2,1),(165,.aload_n 0,1),(166,.getfield 188,3),(169,.bipush 8,2),(171,.iadd,1),(172,.if_icmp .ge 27,3),(175,.aload_n 0,1),(176,.aload_n 0,1),(177,.getfield 202,3),(180,.bipush 8,2),(182,.lshl,1),(183,.aload_n 0,1),(184,.iload_n 2,1),(185,.invokevirtual 191,3),(188,.i2l,1),(189,.lor,1),(190,.putfield 202,3),(193,.iinc 2 1,3),(196,.goto (-40),3),(199,.aload_n 0,1),(200,.aload_n 0,1),(201,.getfield 185,3),(204,.aload_n 0,1),(205,.getfield 188,3),(208,.isub,1),(209,.bipush 8,2),(211,.if_icmp .le 7,3),(214,.iconst 1,1),(215,.goto 18,3),(218,.aload_n 0,1),(219,.getfield 202,3),(222,.invokestatic 206,3),(225,.ifCond .eq 7,3),(228,.iconst 3,1),(229,.goto 4,3),(232,.iconst 2,1),(233,.putfield 195,3),(236,.goto 141,3),(239,.iload_n 1,1),(240,.invokestatic 210,3),(243,.ifCond .eq 118,3),(246,.aload_n 0,1),(247,.iconst 0,1),(248,.putfield 213,3),(251,.aload_n 0,1),(252,.aload_n 0,1),(253,.getfield 188,3),(256,.putfield 185,3),(259,.aload_n 0,1),(260,.aload_n 0,1),(261,.getfield 185,3),(264,.invokevirtual 191,3),(267,.invokestatic 210,3),(270,.ifCond .eq 52,3),(273,.aload_n 0,1),(274,.getfield 185,3),(277,.aload_n 0,1),(278,.getfield 188,3),(281,.isub,1),(282,.iconst 4,1),(283,.if_icmp .ge 26,3),(286,.aload_n 0,1),(287,.bipush 10,2),(289,.aload_n 0,1),(290,.getfield 213,3),(293,.imul,1),(294,.aload_n 0,1),(295,.aload_n 0,1),(296,.getfield 185,3),(299,.invokevirtual 191,3),(302,.iadd,1),(303,.bipush 48,2),(305,.isub,1),(306,.putfield 213,3),(309,.aload_n 0,1),(310,.dup,1),(311,.getfield 185,3),(314,.iconst 1,1),(315,.iadd,1),(316,.putfield 185,3),(319,.goto (-60),3),(322,.aload_n 0,1),(323,.aload_n 0,1),(324,.getfield 185,3),(327,.aload_n 0,1),(328,.getfield 188,3),(331,.isub,1),(332,.iconst 4,1),(333,.if_icmp .gt 17,3),(336,.aload_n 0,1),(337,.aload_n 0,1),(338,.getfield 185,3),(341,.invokevirtual 191,3),(344,.invokestatic 198,3),(347,.ifCond .eq 7,3),(350,.iconst 1,1),(351,.goto 4,3),(354,.iconst 4,1),(355,.putfield 195,3),(358,.goto 19,3),(361,.aload_n 0,1),(362,.iload_n 1,1),(363,.invokestatic 216,3),(366,.ifCond .eq 7,3),(369,.iconst 5,1),(370,.goto 4,3),(373,.iconst 1,1),(374,.putfield 195,3),(377,.return_,1)]
set_option maxRecDepth 100000 in
theorem dkX12_goOn : rf_decs prog_14_method_9_code ddX12_goOn := rf_decs_of (by decide +kernel)
def q26_P : rfP := (flX12,csX12,lcX12,spX12,[q25_M],[],[(191,0,12)],([],[]))
def q26_U : rfU := []
set_option maxHeartbeats 8000000 in
def q26_N : List rfB := [(0,([(0,.inr (.inl [114]))],[],[((114,3),(0,0,0),some ((114,3),0,0)),((114,6),(0,0,0),some ((114,6),0,0)),((114,7),(0,0,0),some ((114,7),0,0)),((114,9),(0,0,0),some ((114,9),0,0))]),(37,[]),0)]
set_option maxRecDepth 100000 in
theorem q26_ok : rf_chkB q26_P q26_U wLay q26_M ddX12_goOn [(63,[0])] [] [0] 600 q26_N = true := by decide +kernel
set_option maxHeartbeats 4000000 in
theorem q26_met {G : rfG} (h : okG G) : rf_met G q26_M := rf_methodB h.1 (P := q26_P) (U := q26_U) (N := q26_N) ⟨wflT h flokX12, wcsT h csokX12, wlcT h lcokX12, spokX12 h, List.forall_mem_cons.mpr ⟨q25_met h, fun _ h => absurd h List.not_mem_nil⟩, fun _ h => absurd h List.not_mem_nil, List.forall_mem_cons.mpr ⟨fun M hM => Option.some.inj (show some q25_M = some M from hM) ▸ wlkV (lkX12_191 h) q25_M rfl rfl, fun _ h => absurd h List.not_mem_nil⟩, fun _ h => absurd h List.not_mem_nil, fun _ h => absurd h List.not_mem_nil⟩ dkX12_goOn (by decide +kernel) (by rw [h.2.2.1]; exact q26_ok)
/-- NearSpellModel.isGood -/
def q27_M : rfM := ((⟨"NearSpellModel", "isGood", "()Z"⟩, prog_14_method_6_code, 1, (some .boolean)), (0,0), ([.inr (.inl [114])],[((114,4),(0,0,0),none)]), [], [(some (.inl ((1,1,0),none)),[],[])])
def ddX12_isGood : List (Nat × Instr × Nat) := [(0,.aload_n 0,1),(1,.getfield 154,3),(4,.ifCond .ne 7,3),(7,.iconst 1,1),(8,.goto 4,3),(11,.iconst 0,1),(12,.ireturn,1)]
set_option maxRecDepth 100000 in
theorem dkX12_isGood : rf_decs prog_14_method_6_code ddX12_isGood := rf_decs_of (by decide +kernel)
def q27_P : rfP := (flX12,csX12,lcX12,spX12,[],[],[],([],[]))
def q27_U : rfU := []
set_option maxHeartbeats 8000000 in
def q27_N : List rfB := [(0,([(0,.inr (.inl [114]))],[],[((114,4),(0,0,0),some ((114,4),0,0))]),(5,[]),0)]
set_option maxRecDepth 100000 in
theorem q27_ok : rf_chkB q27_P q27_U wLay q27_M ddX12_isGood [] [] [0] 600 q27_N = true := by decide +kernel
set_option maxHeartbeats 4000000 in
theorem q27_met {G : rfG} (h : okG G) : rf_met G q27_M := rf_methodB h.1 (P := q27_P) (U := q27_U) (N := q27_N) ⟨wflT h flokX12, wcsT h csokX12, wlcT h lcokX12, spokX12 h, fun _ h => absurd h List.not_mem_nil, fun _ h => absurd h List.not_mem_nil, fun _ h => absurd h List.not_mem_nil, fun _ h => absurd h List.not_mem_nil, fun _ h => absurd h List.not_mem_nil⟩ dkX12_isGood (by decide +kernel) (by rw [h.2.2.1]; exact q27_ok)
/-- NearSpellModel.startAnew -/
def q28_M : rfM := ((⟨"NearSpellModel", "startAnew", "()V"⟩, prog_14_method_45_code, 2, none), (0,0), ([.inr (.inl [114])],[((73,0),(0,0,0),none),((73,1),(0,0,0),none),((79,0),(0,0,0),none),((79,1),(0,0,0),none),((90,28),(0,0,0),none),((90,29),(0,0,0),none),((90,36),(0,0,0),none),((113,0),(0,0,0),none),((113,1),(0,0,0),none),((113,2),(0,0,0),none),((114,28),(1,1,0),none)]), [(90,0),(113,0),(114,49),(114,56),(114,57),(114,64)], [(none,[],[((90,28),(0,0,0),some ((73,1),0,0)),((90,36),(0,0,0),some ((79,1),0,0)),((114,48),(0,0,0),none),((114,55),(0,0,0),none),((114,56),(0,0,0),none),((114,63),(0,0,0),none)])])
def ddX12_startAnew : List (Nat × Instr × Nat) := [(0,.iconst 0,1),(1,.istore_n 1,1),(2,.iload_n 1,1),(3,.bipush 37,2),(5,.if_icmp .ge 16,3),(8,.aload_n 0,1),(9,.getfield 72,3),(12,.iload_n 1,1),(13,.iconst 0,1),(14,.iastore,1),(15,.iinc 1 1,3),(18,.goto (-16),3),(21,.iconst 0,1),(22,.istore_n 1,1),(23,.iload_n 1,1),(24,.bipush 14,2),(26,.if_icmp .ge 18,3),(29,.aload_n 0,1),(30,.getfield 72,3),(33,.iconst 0,1),(34,.iload_n 1,1),(35,.iadd,1),(36,.iconst (-1),1),(37,.iastore,1),(38,.iinc 1 1,3),(41,.goto (-18),3),(44,.iconst 0,1),(45,.istore_n 1,1),(46,.iload_n 1,1),(47,.aload_n 0,1),(48,.getfield 20,3),(51,.aload_n 0,1),(52,.getfield 242,3),(55,.iaload,1),(56,.if_icmp .ge 54,3),(59,.aload_n 0,1),(60,.getfield 72,3),(63,.iconst 0,1),(64,.iload_n 1,1),(65,.iadd,1),(66,.aload_n 0,1),(67,.getfield 45,3),(70,.bipush 10,2),(72,.aload_n 0,1),(73,.getfield 242,3),(76,.imul,1),(77,.iload_n 1,1),(78,.iadd,1),(79,.iaload,1),(80,.iastore,1),(81,.aload_n 0,1),(82,.getfield 72,3),(85,.bipush 14,2),(87,.iload_n 1,1),(88,.iadd,1),(89,.aload_n 0,1),(90,.getfield 48,3),(93,.bipush 10,2),(95,.aload_n 0,1),(96,.getfield 242,3),(99,.imul,1),(100,.iload_n 1,1),(101,.iadd,1),(102,.iaload,1),(103,.iastore,1),(104,.iinc 1 1,3),(107,.goto (-61),3),(110,.aload_n 0,1),(111,.getfield 72,3),(114,.bipush 28,2),(116,.aload_n 0,1),(117,.getfield 20,3),(120,.aload_n 0,1),(121,.getfield 242,3),(124,.iaload,1),(125,.iastore,1),(126,.aload_n 0,1),(127,.getfield 72,3),(130,.bipush 36,2),(132,.aload_n 0,1),(133,.getfield 39,3),(136,.aload_n 0,1),(137,.getfield 242,3),(140,.iaload,1),(141,.iastore,1),(142,.aload_n 0,1),(143,.iconst 0,1),(144,.putfield 338,3),(147,.aload_n 0,1),(148,.iconst 0,1),(149,.putfield 341,3),(152,.aload_n 0,1),(153,.iconst 0,1),(154,.putfield 344,3),(157,.aload_n 0,1),(158,.iconst 0,1),(159,.putfield 347,3),(162,.iconst 0,1),(163,.istore_n 1,1),(164,.iload_n 1,1),(165,.iconst 3,1),(166,.if_icmp .ge 16,3),(169,.aload_n 0,1),(170,.getfield 141,3),(173,.iload_n 1,1),(174,.iconst 0,1),(175,.bastore,1),(176,.iinc 1 1,3),(179,.goto (-15),3),(182,.return_,1)]
set_option maxRecDepth 100000 in
theorem dkX12_startAnew : rf_decs prog_14_method_45_code ddX12_startAnew := rf_decs_of (by decide +kernel)
def q28_P : rfP := (flX12,csX12,lcX12,spX12,[],[],[],([],[]))
def q28_U : rfU := []
set_option maxHeartbeats 8000000 in
def q28_N : List rfB := [(0,([(0,.inr (.inl [114]))],[],[((73,0),(0,0,0),some ((73,0),0,0)),((73,1),(0,0,0),some ((73,1),0,0)),((79,0),(0,0,0),some ((79,0),0,0)),((79,1),(0,0,0),some ((79,1),0,0)),((90,28),(0,0,0),some ((90,28),0,0)),((90,29),(0,0,0),some ((90,29),0,0)),((90,36),(0,0,0),some ((90,36),0,0)),((113,0),(0,0,0),some ((113,0),0,0)),((113,1),(0,0,0),some ((113,1),0,0)),((113,2),(0,0,0),some ((113,2),0,0)),((114,28),(1,1,0),some ((114,28),0,0))]),(702,[0]),0)]
set_option maxRecDepth 100000 in
theorem q28_ok : rf_chkB q28_P q28_U wLay q28_M ddX12_startAnew [] [.inl 1] [0] 628 q28_N = true := by decide +kernel
set_option maxHeartbeats 4000000 in
theorem q28_met {G : rfG} (h : okG G) : rf_met G q28_M := rf_methodB h.1 (P := q28_P) (U := q28_U) (N := q28_N) ⟨wflT h flokX12, wcsT h csokX12, wlcT h lcokX12, spokX12 h, fun _ h => absurd h List.not_mem_nil, fun _ h => absurd h List.not_mem_nil, fun _ h => absurd h List.not_mem_nil, fun _ h => absurd h List.not_mem_nil, fun _ h => absurd h List.not_mem_nil⟩ dkX12_startAnew (by decide +kernel) (by rw [h.2.2.1]; exact q28_ok)
/-- NearSpellModel.book -/
def q29_M : rfM := ((⟨"NearSpellModel", "book", "()I"⟩, prog_14_method_16_code, 2, (some .int)), (2,43), ([.inr (.inl [114])],[((73,0),(0,0,0),none),((74,0),(0,0,0),none),((75,0),(4,4,0),none),((76,0),(2,2,0),none),((77,0),(13,13,0),none),((78,0),(0,0,0),none),((79,0),(0,0,0),none),((80,0),(0,0,0),none),((90,28),(0,0,0),none),((90,29),(0,0,0),none),((90,36),(0,0,0),none),((113,0),(0,0,0),none),((113,1),(0,0,0),none),((113,2),(0,0,0),none),((114,2),(0,0,0),none),((114,3),(0,0,0),none),((114,4),(0,0,0),none),((114,6),(0,0,0),none),((114,7),(0,0,0),none),((114,8),(0,0,0),none),((114,9),(0,0,0),none),((114,28),(0,0,0),none),((114,29),(0,0,0),none),((114,30),(0,0,0),none),((114,31),(0,0,0),none),((114,32),(0,0,0),none),((114,33),(0,0,0),none)]), [(73,0),(74,0),(75,0),(76,0),(77,0),(78,0),(79,0),(80,0),(90,0),(113,0),(114,3),(114,4),(114,5),(114,6),(114,7),(114,8),(114,9),(114,29),(114,30),(114,31),(114,49),(114,56),(114,57),(114,64),(998,2),(998,3)], [(some (.inl ((0,0,0),none)),[],[((73,0),(0,0,0),some ((73,0),0,0)),((73,1),(0,0,0),none),((74,0),(0,0,0),some ((74,0),0,0)),((74,1),(0,0,0),none),((75,0),(4,4,0),some ((75,0),0,0)),((75,1),(4,4,0),none),((76,0),(2,2,0),some ((76,0),0,0)),((76,1),(2,2,0),none),((77,0),(13,13,0),some ((77,0),0,0)),((77,1),(13,13,0),none),((78,0),(0,0,0),some ((78,0),0,0)),((78,1),(0,0,0),none),((79,0),(0,0,0),some ((79,0),0,0)),((79,1),(0,0,0),none),((80,0),(0,0,0),some ((80,0),0,0)),((80,1),(0,0,0),none),((90,28),(0,0,0),none),((90,36),(0,0,0),none),((114,2),(0,0,0),none),((114,3),(0,0,0),some ((114,2),0,0)),((114,4),(0,0,0),none),((114,5),((-1),(-1),0),none),((114,6),(0,0,0),some ((114,2),0,0)),((114,7),(0,0,0),some ((114,2),0,0)),((114,8),(0,0,0),none),((114,28),(1,1,0),none),((114,29),(1,1,0),none),((114,30),(560,560,0),none),((114,48),(0,0,0),none),((114,55),(0,0,0),none),((114,56),(0,0,0),none),((114,63),(0,0,0),none)])])
def ddX12_book : List (Nat × Instr × Nat) := [(0,.aload_n 0,1),(1,.iconst 0,1),(2,.putfield 154,3),(5,.aload_n 0,1),(6,.iconst (-1),1),(7,.putfield 16,3),(10,.aload_n 0,1),(11,.aload_n 0,1),(12,.getfield 239,3),(15,.putfield 151,3),(18,.iconst 0,1),(19,.istore_n 1,1),(20,.iload_n 1,1),(21,.aload_n 0,1),(22,.getfield 151,3),(25,.if_icmp .ge 21,3),(28,.aload_n 0,1),(29,.getfield 13,3),(32,.iload_n 1,1),(33,.aload_n 0,1),(34,.getfield 7,3),(37,.iload_n 1,1),(38,.baload,1),(39,.bastore,1),(40,.iinc 1 1,3),(43,.goto (-23),3),(46,.aload_n 0,1),(47,.iconst 0,1),(48,.putfield 239,3),(51,.aload_n 0,1),(52,.iconst 0,1),(53,.putfield 185,3),(56,.aload_n 0,1),(57,.iconst 1,1),(58,.aload_n 0,1),(59,.getfield 242,3),(62,.isub,1),(63,.putfield 233,3),(66,.aload_n 0,1),(67,.invokevirtual 145,3),(70,.aload_n 0,1),(71,.invokevirtual 227,3),(74,.aload_n 0,1),(75,.invokevirtual 223,3),(78,.ifCond .eq 17,3),(81,.aload_n 0,1),(82,.getfield 195,3),(85,.ifCond .eq 10,3),(88,.aload_n 0,1),(89,.invokevirtual 245,3),(92,.goto (-18),3),(95,.aload_n 0,1),(96,.invokevirtual 223,3),(99,.ifCond .ne 5,3),(102,.iconst (-1),1),(103,.ireturn,1),(104,.aload_n 0,1),(105,.aload_n 0,1),(106,.getfield 233,3),(109,.putfield 242,3),(112,.aload_n 0,1),(113,.invokevirtual 148,3),(116,.aload_n 0,1),(117,.getfield 20,3),(120,.aload_n 0,1),(121,.getfield 242,3),(124,.iaload,1),(125,.ireturn,1)]
set_option maxRecDepth 100000 in
theorem dkX12_book : rf_decs prog_14_method_16_code ddX12_book := rf_decs_of (by decide +kernel)
def q29_P : rfP := (flX12,csX12,lcX12,spX12,[q24_M,q26_M,q27_M,q28_M],[],[(145,0,12),(148,3,12),(223,2,12),(227,1,12)],([],[]))
def q29_U : rfU := []
set_option maxHeartbeats 8000000 in
def q29_N : List rfB := [(0,([(0,.inr (.inl [114]))],[],[((73,0),(0,0,0),some ((73,0),0,0)),((74,0),(0,0,0),some ((74,0),0,0)),((75,0),(4,4,0),some ((75,0),0,0)),((76,0),(2,2,0),some ((76,0),0,0)),((77,0),(13,13,0),some ((77,0),0,0)),((78,0),(0,0,0),some ((78,0),0,0)),((79,0),(0,0,0),some ((79,0),0,0)),((80,0),(0,0,0),some ((80,0),0,0)),((90,28),(0,0,0),some ((90,28),0,0)),((90,29),(0,0,0),some ((90,29),0,0)),((90,36),(0,0,0),some ((90,36),0,0)),((113,0),(0,0,0),some ((113,0),0,0)),((113,1),(0,0,0),some ((113,1),0,0)),((113,2),(0,0,0),some ((113,2),0,0)),((114,2),(0,0,0),some ((114,2),0,0)),((114,3),(0,0,0),some ((114,3),0,0)),((114,4),(0,0,0),some ((114,4),0,0)),((114,6),(0,0,0),some ((114,6),0,0)),((114,7),(0,0,0),some ((114,7),0,0)),((114,8),(0,0,0),some ((114,8),0,0)),((114,9),(0,0,0),some ((114,9),0,0)),((114,28),(0,0,0),some ((114,28),0,0)),((114,29),(0,0,0),some ((114,29),0,0)),((114,30),(0,0,0),some ((114,30),0,0)),((114,31),(0,0,0),some ((114,31),0,0)),((114,32),(0,0,0),some ((114,32),0,0)),((114,33),(0,0,0),some ((114,33),0,0))]),(52,[]),0)]
set_option maxRecDepth 100000 in
theorem q29_ok : rf_chkB q29_P q29_U wLay q29_M ddX12_book [(67,[0]),(71,[1]),(75,[2]),(96,[2]),(113,[3])] [] [0] 600 q29_N = true := by decide +kernel
set_option maxHeartbeats 4000000 in
theorem q29_met {G : rfG} (h : okG G) : rf_met G q29_M := rf_methodB h.1 (P := q29_P) (U := q29_U) (N := q29_N) ⟨wflT h flokX12, wcsT h csokX12, wlcT h lcokX12, spokX12 h, List.forall_mem_cons.mpr ⟨q24_met h, List.forall_mem_cons.mpr ⟨q26_met h, List.forall_mem_cons.mpr ⟨q27_met h, List.forall_mem_cons.mpr ⟨q28_met h, fun _ h => absurd h List.not_mem_nil⟩⟩⟩⟩, fun _ h => absurd h List.not_mem_nil, List.forall_mem_cons.mpr ⟨fun M hM => Option.some.inj (show some q24_M = some M from hM) ▸ wlkV (lkX12_145 h) q24_M rfl rfl, List.forall_mem_cons.mpr ⟨fun M hM => Option.some.inj (show some q28_M = some M from hM) ▸ wlkV (lkX12_148 h) q28_M rfl rfl, List.forall_mem_cons.mpr ⟨fun M hM => Option.some.inj (show some q27_M = some M from hM) ▸ wlkV (lkX12_223 h) q27_M rfl rfl, List.forall_mem_cons.mpr ⟨fun M hM => Option.some.inj (show some q26_M = some M from hM) ▸ wlkV (lkX12_227 h) q26_M rfl rfl, fun _ h => absurd h List.not_mem_nil⟩⟩⟩⟩, fun _ h => absurd h List.not_mem_nil, fun _ h => absurd h List.not_mem_nil⟩ dkX12_book (by decide +kernel) (by rw [h.2.2.1]; exact q29_ok)
/-- NearSpell.fault -/
def q30_M : rfM := ((⟨"NearSpell", "fault", "(I)I"⟩, prog_1_method_5_code, 2, (some .int)), (0,0), ([.inr (.inl [70]),.inl (((-2147483648),(-1),1),none)],[((11,8),(0,0,0),none),((11,9),((-1),(-1),0),none)]), [], [(some (.inl (((-1),(-1),0),none)),[],[])])
def ddX11_fault : List (Nat × Instr × Nat) := [(0,.iload_n 1,1),(1,.ifCond .ne 11,3),(4,.aload_n 0,1),(5,.getfield 28,3),(8,.getfield 135,3),(11,.ireturn,1),(12,.iload_n 1,1),(13,.iconst 1,1),(14,.if_icmp .ne 13,3),(17,.aload_n 0,1),(18,.getfield 28,3),(21,.getfield 138,3),(24,.goto 4,3),(27,.iconst (-1),1),(28,.ireturn,1)]
set_option maxRecDepth 100000 in
theorem dkX11_fault : rf_decs prog_1_method_5_code ddX11_fault := rf_decs_of (by decide +kernel)
def q30_P : rfP := (flX11,csX11,lcX11,spX11,[],[],[],([],[]))
def q30_U : rfU := []
set_option maxHeartbeats 8000000 in
def q30_N : List rfB := [(0,([(0,.inr (.inl [70])),(1,.inl (((-2147483648),(-1),1),none))],[],[((11,8),(0,0,0),some ((11,8),0,0)),((11,9),((-1),(-1),0),some ((11,9),0,0))]),(6,[]),0)]
set_option maxRecDepth 100000 in
theorem q30_ok : rf_chkB q30_P q30_U wLay q30_M ddX11_fault [] [] [0] 600 q30_N = true := by decide +kernel
set_option maxHeartbeats 4000000 in
theorem q30_met {G : rfG} (h : okG G) : rf_met G q30_M := rf_methodB h.1 (P := q30_P) (U := q30_U) (N := q30_N) ⟨wflT h flokX11, wcsT h csokX11, wlcT h lcokX11, spokX11 h, fun _ h => absurd h List.not_mem_nil, fun _ h => absurd h List.not_mem_nil, fun _ h => absurd h List.not_mem_nil, fun _ h => absurd h List.not_mem_nil, fun _ h => absurd h List.not_mem_nil⟩ dkX11_fault (by decide +kernel) (by rw [h.2.2.1]; exact q30_ok)
/-- NearSpellModel.fault -/
def q31_M : rfM := ((⟨"NearSpellModel", "fault", "(I)I"⟩, prog_14_method_34_code, 2, (some .int)), (0,0), ([.inr (.inl [114]),.inl (((-2147483648),(-1),1),none)],[((114,4),(0,0,0),none),((114,5),((-1),(-1),0),none)]), [], [(some (.inl (((-1),(-1),0),none)),[],[])])
def ddX12_fault : List (Nat × Instr × Nat) := [(0,.iload_n 1,1),(1,.ifCond .ne 10,3),(4,.aload_n 0,1),(5,.getfield 154,3),(8,.goto 16,3),(11,.iload_n 1,1),(12,.iconst 1,1),(13,.if_icmp .ne 10,3),(16,.aload_n 0,1),(17,.getfield 16,3),(20,.goto 4,3),(23,.iconst (-1),1),(24,.ireturn,1)]
set_option maxRecDepth 100000 in
theorem dkX12_fault : rf_decs prog_14_method_34_code ddX12_fault := rf_decs_of (by decide +kernel)
def q31_P : rfP := (flX12,csX12,lcX12,spX12,[],[],[],([],[]))
def q31_U : rfU := []
set_option maxHeartbeats 8000000 in
def q31_N : List rfB := [(0,([(0,.inr (.inl [114])),(1,.inl (((-2147483648),(-1),1),none))],[],[((114,4),(0,0,0),some ((114,4),0,0)),((114,5),((-1),(-1),0),some ((114,5),0,0))]),(6,[]),0)]
set_option maxRecDepth 100000 in
theorem q31_ok : rf_chkB q31_P q31_U wLay q31_M ddX12_fault [] [] [0] 600 q31_N = true := by decide +kernel
set_option maxHeartbeats 4000000 in
theorem q31_met {G : rfG} (h : okG G) : rf_met G q31_M := rf_methodB h.1 (P := q31_P) (U := q31_U) (N := q31_N) ⟨wflT h flokX12, wcsT h csokX12, wlcT h lcokX12, spokX12 h, fun _ h => absurd h List.not_mem_nil, fun _ h => absurd h List.not_mem_nil, fun _ h => absurd h List.not_mem_nil, fun _ h => absurd h List.not_mem_nil, fun _ h => absurd h List.not_mem_nil⟩ dkX12_fault (by decide +kernel) (by rw [h.2.2.1]; exact q31_ok)
/-- NearSpell.fault -/
def q32_M : rfM := ((⟨"NearSpell", "fault", "(I)I"⟩, prog_1_method_5_code, 2, (some .int)), (0,0), ([.inr (.inl [70]),.inl ((0,0,0),none)],[((11,8),(0,0,0),none),((11,9),((-1),(-1),0),none)]), [], [(some (.inl ((0,0,0),none)),[],[])])
def q32_P : rfP := (flX11,csX11,lcX11,spX11,[],[],[],([],[]))
def q32_U : rfU := []
set_option maxHeartbeats 8000000 in
def q32_N : List rfB := [(0,([(0,.inr (.inl [70])),(1,.inl ((0,0,0),none))],[],[((11,8),(0,0,0),some ((11,8),0,0)),((11,9),((-1),(-1),0),some ((11,9),0,0))]),(5,[]),0)]
set_option maxRecDepth 100000 in
theorem q32_ok : rf_chkB q32_P q32_U wLay q32_M ddX11_fault [] [] [0] 600 q32_N = true := by decide +kernel
set_option maxHeartbeats 4000000 in
theorem q32_met {G : rfG} (h : okG G) : rf_met G q32_M := rf_methodB h.1 (P := q32_P) (U := q32_U) (N := q32_N) ⟨wflT h flokX11, wcsT h csokX11, wlcT h lcokX11, spokX11 h, fun _ h => absurd h List.not_mem_nil, fun _ h => absurd h List.not_mem_nil, fun _ h => absurd h List.not_mem_nil, fun _ h => absurd h List.not_mem_nil, fun _ h => absurd h List.not_mem_nil⟩ dkX11_fault (by decide +kernel) (by rw [h.2.2.1]; exact q32_ok)
/-- NearSpellModel.fault -/
def q33_M : rfM := ((⟨"NearSpellModel", "fault", "(I)I"⟩, prog_14_method_34_code, 2, (some .int)), (0,0), ([.inr (.inl [114]),.inl ((0,0,0),none)],[((114,4),(0,0,0),none),((114,5),((-1),(-1),0),none)]), [], [(some (.inl ((0,0,0),none)),[],[])])
def q33_P : rfP := (flX12,csX12,lcX12,spX12,[],[],[],([],[]))
def q33_U : rfU := []
set_option maxHeartbeats 8000000 in
def q33_N : List rfB := [(0,([(0,.inr (.inl [114])),(1,.inl ((0,0,0),none))],[],[((114,4),(0,0,0),some ((114,4),0,0)),((114,5),((-1),(-1),0),some ((114,5),0,0))]),(5,[]),0)]
set_option maxRecDepth 100000 in
theorem q33_ok : rf_chkB q33_P q33_U wLay q33_M ddX12_fault [] [] [0] 600 q33_N = true := by decide +kernel
set_option maxHeartbeats 4000000 in
theorem q33_met {G : rfG} (h : okG G) : rf_met G q33_M := rf_methodB h.1 (P := q33_P) (U := q33_U) (N := q33_N) ⟨wflT h flokX12, wcsT h csokX12, wlcT h lcokX12, spokX12 h, fun _ h => absurd h List.not_mem_nil, fun _ h => absurd h List.not_mem_nil, fun _ h => absurd h List.not_mem_nil, fun _ h => absurd h List.not_mem_nil, fun _ h => absurd h List.not_mem_nil⟩ dkX12_fault (by decide +kernel) (by rw [h.2.2.1]; exact q33_ok)
/-- NearSpell.fault -/
def q34_M : rfM := ((⟨"NearSpell", "fault", "(I)I"⟩, prog_1_method_5_code, 2, (some .int)), (0,0), ([.inr (.inl [70]),.inl ((1,1,0),none)],[((11,8),(0,0,0),none),((11,9),((-1),(-1),0),none)]), [], [(some (.inl (((-1),(-1),0),none)),[],[])])
def q34_P : rfP := (flX11,csX11,lcX11,spX11,[],[],[],([],[]))
def q34_U : rfU := []
set_option maxHeartbeats 8000000 in
def q34_N : List rfB := [(0,([(0,.inr (.inl [70])),(1,.inl ((1,1,0),none))],[],[((11,8),(0,0,0),some ((11,8),0,0)),((11,9),((-1),(-1),0),some ((11,9),0,0))]),(9,[]),0)]
set_option maxRecDepth 100000 in
theorem q34_ok : rf_chkB q34_P q34_U wLay q34_M ddX11_fault [] [] [0] 600 q34_N = true := by decide +kernel
set_option maxHeartbeats 4000000 in
theorem q34_met {G : rfG} (h : okG G) : rf_met G q34_M := rf_methodB h.1 (P := q34_P) (U := q34_U) (N := q34_N) ⟨wflT h flokX11, wcsT h csokX11, wlcT h lcokX11, spokX11 h, fun _ h => absurd h List.not_mem_nil, fun _ h => absurd h List.not_mem_nil, fun _ h => absurd h List.not_mem_nil, fun _ h => absurd h List.not_mem_nil, fun _ h => absurd h List.not_mem_nil⟩ dkX11_fault (by decide +kernel) (by rw [h.2.2.1]; exact q34_ok)
/-- NearSpellModel.fault -/
def q35_M : rfM := ((⟨"NearSpellModel", "fault", "(I)I"⟩, prog_14_method_34_code, 2, (some .int)), (0,0), ([.inr (.inl [114]),.inl ((1,1,0),none)],[((114,4),(0,0,0),none),((114,5),((-1),(-1),0),none)]), [], [(some (.inl (((-1),(-1),0),none)),[],[])])
def q35_P : rfP := (flX12,csX12,lcX12,spX12,[],[],[],([],[]))
def q35_U : rfU := []
set_option maxHeartbeats 8000000 in
def q35_N : List rfB := [(0,([(0,.inr (.inl [114])),(1,.inl ((1,1,0),none))],[],[((114,4),(0,0,0),some ((114,4),0,0)),((114,5),((-1),(-1),0),some ((114,5),0,0))]),(8,[]),0)]
set_option maxRecDepth 100000 in
theorem q35_ok : rf_chkB q35_P q35_U wLay q35_M ddX12_fault [] [] [0] 600 q35_N = true := by decide +kernel
set_option maxHeartbeats 4000000 in
theorem q35_met {G : rfG} (h : okG G) : rf_met G q35_M := rf_methodB h.1 (P := q35_P) (U := q35_U) (N := q35_N) ⟨wflT h flokX12, wcsT h csokX12, wlcT h lcokX12, spokX12 h, fun _ h => absurd h List.not_mem_nil, fun _ h => absurd h List.not_mem_nil, fun _ h => absurd h List.not_mem_nil, fun _ h => absurd h List.not_mem_nil, fun _ h => absurd h List.not_mem_nil⟩ dkX12_fault (by decide +kernel) (by rw [h.2.2.1]; exact q35_ok)
/-- NearSpell.fault -/
def q36_M : rfM := ((⟨"NearSpell", "fault", "(I)I"⟩, prog_1_method_5_code, 2, (some .int)), (0,0), ([.inr (.inl [70]),.inl ((2,2147483647,1),none)],[((11,8),(0,0,0),none),((11,9),((-1),(-1),0),none)]), [], [(some (.inl (((-1),(-1),0),none)),[],[])])
def q36_P : rfP := (flX11,csX11,lcX11,spX11,[],[],[],([],[]))
def q36_U : rfU := []
set_option maxHeartbeats 8000000 in
def q36_N : List rfB := [(0,([(0,.inr (.inl [70])),(1,.inl ((2,2147483647,1),none))],[],[((11,8),(0,0,0),some ((11,8),0,0)),((11,9),((-1),(-1),0),some ((11,9),0,0))]),(6,[]),0)]
set_option maxRecDepth 100000 in
theorem q36_ok : rf_chkB q36_P q36_U wLay q36_M ddX11_fault [] [] [0] 600 q36_N = true := by decide +kernel
set_option maxHeartbeats 4000000 in
theorem q36_met {G : rfG} (h : okG G) : rf_met G q36_M := rf_methodB h.1 (P := q36_P) (U := q36_U) (N := q36_N) ⟨wflT h flokX11, wcsT h csokX11, wlcT h lcokX11, spokX11 h, fun _ h => absurd h List.not_mem_nil, fun _ h => absurd h List.not_mem_nil, fun _ h => absurd h List.not_mem_nil, fun _ h => absurd h List.not_mem_nil, fun _ h => absurd h List.not_mem_nil⟩ dkX11_fault (by decide +kernel) (by rw [h.2.2.1]; exact q36_ok)
/-- NearSpellModel.fault -/
def q37_M : rfM := ((⟨"NearSpellModel", "fault", "(I)I"⟩, prog_14_method_34_code, 2, (some .int)), (0,0), ([.inr (.inl [114]),.inl ((2,2147483647,1),none)],[((114,4),(0,0,0),none),((114,5),((-1),(-1),0),none)]), [], [(some (.inl (((-1),(-1),0),none)),[],[])])
def q37_P : rfP := (flX12,csX12,lcX12,spX12,[],[],[],([],[]))
def q37_U : rfU := []
set_option maxHeartbeats 8000000 in
def q37_N : List rfB := [(0,([(0,.inr (.inl [114])),(1,.inl ((2,2147483647,1),none))],[],[((114,4),(0,0,0),some ((114,4),0,0)),((114,5),((-1),(-1),0),some ((114,5),0,0))]),(6,[]),0)]
set_option maxRecDepth 100000 in
theorem q37_ok : rf_chkB q37_P q37_U wLay q37_M ddX12_fault [] [] [0] 600 q37_N = true := by decide +kernel
set_option maxHeartbeats 4000000 in
theorem q37_met {G : rfG} (h : okG G) : rf_met G q37_M := rf_methodB h.1 (P := q37_P) (U := q37_U) (N := q37_N) ⟨wflT h flokX12, wcsT h csokX12, wlcT h lcokX12, spokX12 h, fun _ h => absurd h List.not_mem_nil, fun _ h => absurd h List.not_mem_nil, fun _ h => absurd h List.not_mem_nil, fun _ h => absurd h List.not_mem_nil, fun _ h => absurd h List.not_mem_nil⟩ dkX12_fault (by decide +kernel) (by rw [h.2.2.1]; exact q37_ok)
/-- NearSpell.State.isEntry -/
def q38_M : rfM := ((⟨"NearSpell$State", "isEntry", "(I)Z"⟩, prog_10_method_6_code, 2, (some .boolean)), (0,0), ([.inr (.inl [13]),.inl (((-2147483648),2147483647,1),none)],[((12,34),(0,0,0),none),((12,35),(0,0,0),none),((12,36),(0,0,0),none)]), [], [(some (.inl ((0,0,0),none)),[],[])])
def ddX8_isEntry : List (Nat × Instr × Nat) := [(0,.iload_n 1,1),(1,.ifCond .lt 31,3),(4,.iload_n 1,1),(5,.aload_n 0,1),(6,.getfield 11,3),(9,.bipush 34,2),(11,.iaload,1),(12,.if_icmp .ge 20,3),(15,.aload_n 0,1),(16,.getfield 11,3),(19,.bipush 14,2),(21,.iload_n 1,1),(22,.iadd,1),(23,.iaload,1),(24,.iconst (-1),1),(25,.if_icmp .eq 7,3),(28,.iconst 1,1),(29,.goto 4,3),(32,.iconst 0,1),(33,.ireturn,1)]
set_option maxRecDepth 100000 in
theorem dkX8_isEntry : rf_decs prog_10_method_6_code ddX8_isEntry := rf_decs_of (by decide +kernel)
def q38_P : rfP := (flX8,csX8,lcX8,spX8,[],[],[],([],[]))
def q38_U : rfU := []
set_option maxHeartbeats 8000000 in
def q38_N : List rfB := [(0,([(0,.inr (.inl [13])),(1,.inl (((-2147483648),2147483647,1),none))],[],[((12,34),(0,0,0),some ((12,34),0,0)),((12,35),(0,0,0),some ((12,35),0,0)),((12,36),(0,0,0),some ((12,36),0,0))]),(9,[]),0)]
set_option maxRecDepth 100000 in
theorem q38_ok : rf_chkB q38_P q38_U wLay q38_M ddX8_isEntry [] [] [0] 15 q38_N = true := by decide +kernel
set_option maxHeartbeats 4000000 in
theorem q38_met {G : rfG} (h : okG G) : rf_met G q38_M := rf_methodB h.1 (P := q38_P) (U := q38_U) (N := q38_N) ⟨wflT h flokX8, wcsT h csokX8, wlcT h lcokX8, spokX8 h, fun _ h => absurd h List.not_mem_nil, fun _ h => absurd h List.not_mem_nil, fun _ h => absurd h List.not_mem_nil, fun _ h => absurd h List.not_mem_nil, fun _ h => absurd h List.not_mem_nil⟩ dkX8_isEntry (by decide +kernel) (by rw [h.2.2.1]; exact q38_ok)
/-- NearSpell.entry -/
def q39_M : rfM := ((⟨"NearSpell", "entry", "(II)I"⟩, prog_1_method_6_code, 3, (some .int)), (1,21), ([.inr (.inl [70]),.inl (((-2147483648),2147483647,1),none),.inl (((-2147483648),2147483647,1),none)],[((5,5),(4,4,0),none),((5,6),(2,2,0),none),((10,5),(4,4,0),none),((10,6),(2,2,0),none),((12,34),(0,0,0),none),((12,35),(0,0,0),none),((12,36),(0,0,0),none)]), [], [(some (.inl (((-1),(-1),0),none)),[],[])])
def ddX11_entry : List (Nat × Instr × Nat) := [(0,.aload_n 0,1),(1,.getfield 35,3),(4,.iload_n 1,1),(5,.invokevirtual 141,3),(8,.ifCond .ne 5,3),(11,.iconst (-1),1),(12,.ireturn,1),(13,.iload_n 2,1),(14,.tableswitch 72 0 3 #[30, 39, 51, 60],30),(44,.aload_n 0,1),(45,.getfield 35,3),(48,.iload_n 1,1),(49,.invokevirtual 144,3),(52,.ireturn,1),(53,.aload_n 0,1),(54,.getfield 35,3),(57,.iload_n 1,1),(58,.invokevirtual 144,3),(61,.invokestatic 148,3),(64,.ireturn,1),(65,.aload_n 0,1),(66,.getfield 35,3),(69,.iload_n 1,1),(70,.invokevirtual 151,3),(73,.ireturn,1),(74,.aload_n 0,1),(75,.getfield 58,3),(78,.iload_n 1,1),(79,.invokevirtual 154,3),(82,.getfield 158,3),(85,.ireturn,1),(86,.iconst (-1),1),(87,.ireturn,1)]
set_option maxRecDepth 100000 in
theorem dkX11_entry : rf_decs prog_1_method_6_code ddX11_entry := rf_decs_of (by decide +kernel)
def q39_P : rfP := (flX11,csX11,lcX11,spX11,[q38_M],[],[(141,0,8)],([],[]))
def q39_U : rfU := []
set_option maxHeartbeats 8000000 in
def q39_N : List rfB := [(0,([(0,.inr (.inl [70])),(1,.inl (((-2147483648),2147483647,1),none)),(2,.inl (((-2147483648),2147483647,1),none))],[],[((5,5),(4,4,0),some ((5,5),0,0)),((5,6),(2,2,0),some ((5,6),0,0)),((10,5),(4,4,0),some ((10,5),0,0)),((10,6),(2,2,0),some ((10,6),0,0)),((12,34),(0,0,0),some ((12,34),0,0)),((12,35),(0,0,0),some ((12,35),0,0)),((12,36),(0,0,0),some ((12,36),0,0))]),(6,[]),0)]
set_option maxRecDepth 100000 in
theorem q39_ok : rf_chkB q39_P q39_U wLay q39_M ddX11_entry [(5,[0])] [] [0] 600 q39_N = true := by decide +kernel
set_option maxHeartbeats 4000000 in
theorem q39_met {G : rfG} (h : okG G) : rf_met G q39_M := rf_methodB h.1 (P := q39_P) (U := q39_U) (N := q39_N) ⟨wflT h flokX11, wcsT h csokX11, wlcT h lcokX11, spokX11 h, List.forall_mem_cons.mpr ⟨q38_met h, fun _ h => absurd h List.not_mem_nil⟩, fun _ h => absurd h List.not_mem_nil, List.forall_mem_cons.mpr ⟨fun M hM => Option.some.inj (show some q38_M = some M from hM) ▸ wlkV (lkX11_141 h) q38_M rfl rfl, fun _ h => absurd h List.not_mem_nil⟩, fun _ h => absurd h List.not_mem_nil, fun _ h => absurd h List.not_mem_nil⟩ dkX11_entry (by decide +kernel) (by rw [h.2.2.1]; exact q39_ok)
/-- NearSpellModel.isIn -/
def q40_M : rfM := ((⟨"NearSpellModel", "isIn", "(III)Z"⟩, prog_14_method_35_code, 3, (some .boolean)), (0,0), ([.inl (((-2147483648),2147483647,1),none),.inl ((0,0,0),none),.inl (((-1),(-1),0),none)],[]), [], [(some (.inl ((0,0,0),none)),[],[])])
def ddX12_isIn : List (Nat × Instr × Nat) := [(0,.iload_n 0,1),(1,.iload_n 1,1),(2,.if_icmp .lt 12,3),(5,.iload_n 0,1),(6,.iload_n 2,1),(7,.if_icmp .gt 7,3),(10,.iconst 1,1),(11,.goto 4,3),(14,.iconst 0,1),(15,.ireturn,1)]
set_option maxRecDepth 100000 in
theorem dkX12_isIn : rf_decs prog_14_method_35_code ddX12_isIn := rf_decs_of (by decide +kernel)
def q40_P : rfP := (flX12,csX12,lcX12,spX12,[],[],[],([],[]))
def q40_U : rfU := []
set_option maxHeartbeats 8000000 in
def q40_N : List rfB := [(0,([(0,.inl (((-2147483648),2147483647,1),none)),(1,.inl ((0,0,0),none)),(2,.inl (((-1),(-1),0),none))],[],[]),(7,[]),0)]
set_option maxRecDepth 100000 in
theorem q40_ok : rf_chkB q40_P q40_U wLay q40_M ddX12_isIn [] [] [0] 13 q40_N = true := by decide +kernel
set_option maxHeartbeats 4000000 in
theorem q40_met {G : rfG} (h : okG G) : rf_met G q40_M := rf_methodB h.1 (P := q40_P) (U := q40_U) (N := q40_N) ⟨wflT h flokX12, wcsT h csokX12, wlcT h lcokX12, spokX12 h, fun _ h => absurd h List.not_mem_nil, fun _ h => absurd h List.not_mem_nil, fun _ h => absurd h List.not_mem_nil, fun _ h => absurd h List.not_mem_nil, fun _ h => absurd h List.not_mem_nil⟩ dkX12_isIn (by decide +kernel) (by rw [h.2.2.1]; exact q40_ok)
/-- NearSpellModel.isEntry -/
def q41_M : rfM := ((⟨"NearSpellModel", "isEntry", "(I)Z"⟩, prog_14_method_46_code, 2, (some .boolean)), (1,22), ([.inr (.inl [114]),.inl (((-2147483648),2147483647,1),none)],[((90,28),(0,0,0),none),((90,29),(0,0,0),none),((90,36),(0,0,0),none)]), [], [(some (.inl ((0,0,0),none)),[],[])])
def ddX12_isEntry : List (Nat × Instr × Nat) := [(0,.iload_n 1,1),(1,.iconst 0,1),(2,.aload_n 0,1),(3,.getfield 72,3),(6,.bipush 28,2),(8,.iaload,1),(9,.iconst 1,1),(10,.isub,1),(11,.invokestatic 334,3),(14,.ifCond .eq 18,3),(17,.aload_n 0,1),(18,.getfield 72,3),(21,.iconst 0,1),(22,.iload_n 1,1),(23,.iadd,1),(24,.iaload,1),(25,.ifCond .lt 7,3),(28,.iconst 1,1),(29,.goto 4,3),(32,.iconst 0,1),(33,.ireturn,1)]
set_option maxRecDepth 100000 in
theorem dkX12_isEntry : rf_decs prog_14_method_46_code ddX12_isEntry := rf_decs_of (by decide +kernel)
def q41_P : rfP := (flX12,csX12,lcX12,spX12,[q40_M],[(334,0)],[],([],[]))
def q41_U : rfU := []
set_option maxHeartbeats 8000000 in
def q41_N : List rfB := [(0,([(0,.inr (.inl [114])),(1,.inl (((-2147483648),2147483647,1),none))],[],[((90,28),(0,0,0),some ((90,28),0,0)),((90,29),(0,0,0),some ((90,29),0,0)),((90,36),(0,0,0),some ((90,36),0,0))]),(11,[]),0)]
set_option maxRecDepth 100000 in
theorem q41_ok : rf_chkB q41_P q41_U wLay q41_M ddX12_isEntry [(11,[0])] [] [0] 600 q41_N = true := by decide +kernel
set_option maxHeartbeats 4000000 in
theorem q41_met {G : rfG} (h : okG G) : rf_met G q41_M := rf_methodB h.1 (P := q41_P) (U := q41_U) (N := q41_N) ⟨wflT h flokX12, wcsT h csokX12, wlcT h lcokX12, spokX12 h, List.forall_mem_cons.mpr ⟨q40_met h, fun _ h => absurd h List.not_mem_nil⟩, List.forall_mem_cons.mpr ⟨fun M hM => Option.some.inj (show some q40_M = some M from hM) ▸ wlkS (lkX12_334 h) q40_M rfl rfl, fun _ h => absurd h List.not_mem_nil⟩, fun _ h => absurd h List.not_mem_nil, fun _ h => absurd h List.not_mem_nil, fun _ h => absurd h List.not_mem_nil⟩ dkX12_isEntry (by decide +kernel) (by rw [h.2.2.1]; exact q41_ok)
/-- NearSpellModel.entry -/
def q42_M : rfM := ((⟨"NearSpellModel", "entry", "(II)I"⟩, prog_14_method_68_code, 3, (some .int)), (2,43), ([.inr (.inl [114]),.inl (((-2147483648),2147483647,1),none),.inl (((-2147483648),2147483647,1),none)],[((75,0),(4,4,0),none),((76,0),(2,2,0),none),((90,28),(0,0,0),none),((90,29),(0,0,0),none),((90,36),(0,0,0),none),((114,28),(0,0,0),none),((114,39),(0,0,0),none)]), [], [(some (.inl (((-1),(-1),0),none)),[],[])])
def ddX12_entry : List (Nat × Instr × Nat) := [(0,.aload_n 0,1),(1,.iload_n 1,1),(2,.invokevirtual 350,3),(5,.ifCond .ne 5,3),(8,.iconst (-1),1),(9,.ireturn,1),(10,.iload_n 2,1),(11,.tableswitch 81 0 3 #[29, 38, 50, 60],29),(40,.aload_n 0,1),(41,.getfield 72,3),(44,.iconst 0,1),(45,.iload_n 1,1),(46,.iadd,1),(47,.iaload,1),(48,.ireturn,1),(49,.aload_n 0,1),(50,.getfield 72,3),(53,.iconst 0,1),(54,.iload_n 1,1),(55,.iadd,1),(56,.iaload,1),(57,.invokestatic 319,3),(60,.ireturn,1),(61,.aload_n 0,1),(62,.getfield 72,3),(65,.bipush 14,2),(67,.iload_n 1,1),(68,.iadd,1),(69,.iaload,1),(70,.ireturn,1),(71,.aload_n 0,1),(72,.aload_n 0,1),(73,.getfield 72,3),(76,.iconst 0,1),(77,.iload_n 1,1),(78,.iadd,1),(79,.iaload,1),(80,.aload_n 0,1),(81,.invokevirtual 372,3),(84,.invokevirtual 366,3),(87,.aload_n 0,1),(88,.getfield 353,3),(91,.ireturn,1),(92,.iconst (-1),1),(93,.ireturn,1)]
set_option maxRecDepth 100000 in
theorem dkX12_entry : rf_decs prog_14_method_68_code ddX12_entry := rf_decs_of (by decide +kernel)
def q42_P : rfP := (flX12,csX12,lcX12,spX12,[q41_M],[],[(350,0,12)],([],[]))
def q42_U : rfU := []
set_option maxHeartbeats 8000000 in
def q42_N : List rfB := [(0,([(0,.inr (.inl [114])),(1,.inl (((-2147483648),2147483647,1),none)),(2,.inl (((-2147483648),2147483647,1),none))],[],[((75,0),(4,4,0),some ((75,0),0,0)),((76,0),(2,2,0),some ((76,0),0,0)),((90,28),(0,0,0),some ((90,28),0,0)),((90,29),(0,0,0),some ((90,29),0,0)),((90,36),(0,0,0),some ((90,36),0,0)),((114,28),(0,0,0),some ((114,28),0,0)),((114,39),(0,0,0),some ((114,39),0,0))]),(5,[]),0)]
set_option maxRecDepth 100000 in
theorem q42_ok : rf_chkB q42_P q42_U wLay q42_M ddX12_entry [(2,[0])] [] [0] 600 q42_N = true := by decide +kernel
set_option maxHeartbeats 4000000 in
theorem q42_met {G : rfG} (h : okG G) : rf_met G q42_M := rf_methodB h.1 (P := q42_P) (U := q42_U) (N := q42_N) ⟨wflT h flokX12, wcsT h csokX12, wlcT h lcokX12, spokX12 h, List.forall_mem_cons.mpr ⟨q41_met h, fun _ h => absurd h List.not_mem_nil⟩, fun _ h => absurd h List.not_mem_nil, List.forall_mem_cons.mpr ⟨fun M hM => Option.some.inj (show some q41_M = some M from hM) ▸ wlkV (lkX12_350 h) q41_M rfl rfl, fun _ h => absurd h List.not_mem_nil⟩, fun _ h => absurd h List.not_mem_nil, fun _ h => absurd h List.not_mem_nil⟩ dkX12_entry (by decide +kernel) (by rw [h.2.2.1]; exact q42_ok)
/-- NearSpell.State.numberOf -/
def q45_M : rfM := ((⟨"NearSpell$State", "numberOf", "(I)I"⟩, prog_10_method_11_code, 3, (some .int)), (0,0), ([.inr (.inl [13]),.inl ((0,387420488,1),none)],[((12,34),(0,0,0),none),((12,35),(0,0,0),none),((12,36),(0,0,0),none)]), [], [(some (.inl (((-1),(-1),0),none)),[],[])])
def ddX8_numberOf : List (Nat × Instr × Nat) := [(0,.iconst 0,1),(1,.istore_n 2,1),(2,.iload_n 2,1),(3,.aload_n 0,1),(4,.getfield 11,3),(7,.bipush 34,2),(9,.iaload,1),(10,.if_icmp .ge 28,3),(13,.aload_n 0,1),(14,.iload_n 2,1),(15,.invokevirtual 34,3),(18,.ifCond .eq 14,3),(21,.aload_n 0,1),(22,.iload_n 2,1),(23,.invokevirtual 38,3),(26,.iload_n 1,1),(27,.if_icmp .ne 5,3),(30,.iload_n 2,1),(31,.ireturn,1),(32,.iinc 2 1,3),(35,.goto (-33),3),(38,.iconst (-1),1),(39,.ireturn,1)]
set_option maxRecDepth 100000 in
theorem dkX8_numberOf : rf_decs prog_10_method_11_code ddX8_numberOf := rf_decs_of (by decide +kernel)
def q45_P : rfP := (flX8,csX8,lcX8,spX8,[],[],[],([],[]))
def q45_U : rfU := []
set_option maxHeartbeats 8000000 in
def q45_N : List rfB := [(0,([(0,.inr (.inl [13])),(1,.inl ((0,387420488,1),none))],[],[((12,34),(0,0,0),some ((12,34),0,0)),((12,35),(0,0,0),some ((12,35),0,0)),((12,36),(0,0,0),some ((12,36),0,0))]),(9,[]),0)]
set_option maxRecDepth 100000 in
theorem q45_ok : rf_chkB q45_P q45_U wLay q45_M ddX8_numberOf [] [] [0] 600 q45_N = true := by decide +kernel
set_option maxHeartbeats 4000000 in
theorem q45_met {G : rfG} (h : okG G) : rf_met G q45_M := rf_methodB h.1 (P := q45_P) (U := q45_U) (N := q45_N) ⟨wflT h flokX8, wcsT h csokX8, wlcT h lcokX8, spokX8 h, fun _ h => absurd h List.not_mem_nil, fun _ h => absurd h List.not_mem_nil, fun _ h => absurd h List.not_mem_nil, fun _ h => absurd h List.not_mem_nil, fun _ h => absurd h List.not_mem_nil⟩ dkX8_numberOf (by decide +kernel) (by rw [h.2.2.1]; exact q45_ok)
/-- NearSpell.State.given -/
def q46_M : rfM := ((⟨"NearSpell$State", "given", "()I"⟩, prog_10_method_3_code, 1, (some .int)), (0,0), ([.inr (.inl [13])],[((12,34),(0,0,0),none),((12,35),(0,0,0),none),((12,36),(0,0,0),none)]), [], [(some (.inl ((0,0,0),none)),[],[])])
def ddX8_given : List (Nat × Instr × Nat) := [(0,.aload_n 0,1),(1,.getfield 11,3),(4,.bipush 34,2),(6,.iaload,1),(7,.ireturn,1)]
set_option maxRecDepth 100000 in
theorem dkX8_given : rf_decs prog_10_method_3_code ddX8_given := rf_decs_of (by decide +kernel)
def q46_P : rfP := (flX8,csX8,lcX8,spX8,[],[],[],([],[]))
def q46_U : rfU := []
set_option maxHeartbeats 8000000 in
def q46_N : List rfB := [(0,([(0,.inr (.inl [13]))],[],[((12,34),(0,0,0),some ((12,34),0,0)),((12,35),(0,0,0),some ((12,35),0,0)),((12,36),(0,0,0),some ((12,36),0,0))]),(4,[]),0)]
set_option maxRecDepth 100000 in
theorem q46_ok : rf_chkB q46_P q46_U wLay q46_M ddX8_given [] [] [0] 600 q46_N = true := by decide +kernel
set_option maxHeartbeats 4000000 in
theorem q46_met {G : rfG} (h : okG G) : rf_met G q46_M := rf_methodB h.1 (P := q46_P) (U := q46_U) (N := q46_N) ⟨wflT h flokX8, wcsT h csokX8, wlcT h lcokX8, spokX8 h, fun _ h => absurd h List.not_mem_nil, fun _ h => absurd h List.not_mem_nil, fun _ h => absurd h List.not_mem_nil, fun _ h => absurd h List.not_mem_nil, fun _ h => absurd h List.not_mem_nil⟩ dkX8_given (by decide +kernel) (by rw [h.2.2.1]; exact q46_ok)
/-- NearSpell.State.addEntry -/
def q47_M : rfM := ((⟨"NearSpell$State", "addEntry", "(II)I"⟩, prog_10_method_12_code, 4, (some .int)), (0,0), ([.inr (.inl [13]),.inl ((0,387420488,1),none),.inl ((0,999,1),none)],[((12,34),(0,0,0),none),((12,35),(0,0,0),none),((12,36),(0,0,0),none)]), [(12,0)], [(some (.inl ((0,0,0),none)),[],[((12,0),(0,387420488,1),none),((12,14),(0,999,1),none),((12,34),(1,1,0),some ((12,34),1,1)),((12,35),(0,0,0),some ((12,35),0,0)),((12,36),(0,0,0),some ((12,36),0,0))])])
def ddX8_addEntry : List (Nat × Instr × Nat) := [(0,.aload_n 0,1),(1,.getfield 11,3),(4,.bipush 34,2),(6,.iaload,1),(7,.istore_n 3,1),(8,.iload_n 3,1),(9,.bipush 14,2),(11,.if_icmp .lt 5,3),(14,.iconst (-1),1),(15,.ireturn,1),(16,.aload_n 0,1),(17,.getfield 11,3),(20,.iconst 0,1),(21,.iload_n 3,1),(22,.iadd,1),(23,.iload_n 1,1),(24,.iastore,1),(25,.aload_n 0,1),(26,.getfield 11,3),(29,.bipush 14,2),(31,.iload_n 3,1),(32,.iadd,1),(33,.iload_n 2,1),(34,.iastore,1),(35,.aload_n 0,1),(36,.getfield 11,3),(39,.bipush 34,2),(41,.dup2,1),(42,.iaload,1),(43,.iconst 1,1),(44,.iadd,1),(45,.iastore,1),(46,.iload_n 3,1),(47,.ireturn,1)]
set_option maxRecDepth 100000 in
theorem dkX8_addEntry : rf_decs prog_10_method_12_code ddX8_addEntry := rf_decs_of (by decide +kernel)
def q47_P : rfP := (flX8,csX8,lcX8,spX8,[],[],[],([],[]))
def q47_U : rfU := []
set_option maxHeartbeats 8000000 in
def q47_N : List rfB := [(0,([(0,.inr (.inl [13])),(1,.inl ((0,387420488,1),none)),(2,.inl ((0,999,1),none))],[],[((12,34),(0,0,0),some ((12,34),0,0)),((12,35),(0,0,0),some ((12,35),0,0)),((12,36),(0,0,0),some ((12,36),0,0))]),(31,[]),0)]
set_option maxRecDepth 100000 in
theorem q47_ok : rf_chkB q47_P q47_U wLay q47_M ddX8_addEntry [] [] [0] 600 q47_N = true := by decide +kernel
set_option maxHeartbeats 4000000 in
theorem q47_met {G : rfG} (h : okG G) : rf_met G q47_M := rf_methodB h.1 (P := q47_P) (U := q47_U) (N := q47_N) ⟨wflT h flokX8, wcsT h csokX8, wlcT h lcokX8, spokX8 h, fun _ h => absurd h List.not_mem_nil, fun _ h => absurd h List.not_mem_nil, fun _ h => absurd h List.not_mem_nil, fun _ h => absurd h List.not_mem_nil, fun _ h => absurd h List.not_mem_nil⟩ dkX8_addEntry (by decide +kernel) (by rw [h.2.2.1]; exact q47_ok)
/-- NearSpell.Archive.rowPlace -/
def q48_M : rfM := ((⟨"NearSpell$Archive", "rowPlace", "()I"⟩, prog_2_method_6_code, 1, (some .int)), (0,0), ([.inr (.inl [16])],[((16,3),(0,0,0),none),((16,4),(1,1,0),none)]), [], [(some (.inl ((0,37,37),none)),[],[])])
def q48_P : rfP := (flX0,csX0,lcX0,spX0,[],[],[],([],[]))
def q48_U : rfU := []
set_option maxHeartbeats 8000000 in
def q48_N : List rfB := [(0,([(0,.inr (.inl [16]))],[],[((16,3),(0,0,0),some ((16,3),0,0)),((16,4),(1,1,0),some ((16,4),0,0))]),(9,[]),0)]
set_option maxRecDepth 100000 in
theorem q48_ok : rf_chkB q48_P q48_U wLay q48_M ddX0_rowPlace [] [] [0] 600 q48_N = true := by decide +kernel
set_option maxHeartbeats 4000000 in
theorem q48_met {G : rfG} (h : okG G) : rf_met G q48_M := rf_methodB h.1 (P := q48_P) (U := q48_U) (N := q48_N) ⟨wflT h flokX0, wcsT h csokX0, wlcT h lcokX0, spokX0 h, fun _ h => absurd h List.not_mem_nil, fun _ h => absurd h List.not_mem_nil, fun _ h => absurd h List.not_mem_nil, fun _ h => absurd h List.not_mem_nil, fun _ h => absurd h List.not_mem_nil⟩ dkX0_rowPlace (by decide +kernel) (by rw [h.2.2.1]; exact q48_ok)
/-- NearSpell.Archive.keepRow -/
def q49_M : rfM := ((⟨"NearSpell$Archive", "keepRow", "(LNearSpell$State;)V"⟩, prog_2_method_7_code, 2, none), (1,20), ([.inr (.inl [16]),.inr (.inl [13])],[((12,35),(0,0,0),none),((12,36),(0,0,0),none),((16,3),(0,0,0),none),((16,4),(1,1,0),none)]), [(14,0)], [(none,[],[])])
def q49_P : rfP := (flX0,csX0,lcX0,spX0,[q48_M],[],[(43,0,0)],([47],[]))
def q49_U : rfU := []
set_option maxHeartbeats 8000000 in
def q49_N : List rfB := [(0,([(0,.inr (.inl [16])),(1,.inr (.inl [13]))],[],[((12,35),(0,0,0),some ((12,35),0,0)),((12,36),(0,0,0),some ((12,36),0,0)),((16,3),(0,0,0),some ((16,3),0,0)),((16,4),(1,1,0),some ((16,4),0,0))]),(9,[]),0)]
set_option maxRecDepth 100000 in
theorem q49_ok : rf_chkB q49_P q49_U wLay q49_M ddX0_keepRow [(10,[0])] [] [0] 600 q49_N = true := by decide +kernel
set_option maxHeartbeats 4000000 in
theorem q49_met {G : rfG} (h : okG G) : rf_met G q49_M := rf_methodB h.1 (P := q49_P) (U := q49_U) (N := q49_N) ⟨wflT h flokX0, wcsT h csokX0, wlcT h lcokX0, spokX0 h, List.forall_mem_cons.mpr ⟨q48_met h, fun _ h => absurd h List.not_mem_nil⟩, fun _ h => absurd h List.not_mem_nil, List.forall_mem_cons.mpr ⟨fun M hM => Option.some.inj (show some q48_M = some M from hM) ▸ wlkV (lkX0_43 h) q48_M rfl rfl, fun _ h => absurd h List.not_mem_nil⟩, List.forall_mem_cons.mpr ⟨⟨wmT h (wm776), wmT h (wm755), wmT h (wm754), wmT h (wm136)⟩, fun _ h => absurd h List.not_mem_nil⟩, fun _ h => absurd h List.not_mem_nil⟩ dkX0_keepRow (by decide +kernel) (by rw [h.2.2.1]; exact q49_ok)
/-- NearSpell.Archive.keepAct -/
def q50_M : rfM := ((⟨"NearSpell$Archive", "keepAct", "(LNearSpell$State;)V"⟩, prog_2_method_3_code, 2, none), (2,41), ([.inr (.inl [16]),.inr (.inl [13])],[((12,35),(0,0,0),none),((12,36),(0,0,0),none),((16,3),(0,0,0),none),((16,4),(0,0,0),none)]), [(14,0),(16,5),(16,6)], [(none,[],[((16,4),(1,1,0),some ((16,4),1,1)),((16,5),(0,0,0),none)])])
def ddX0_keepAct : List (Nat × Instr × Nat) := [(0,.aload_n 0,1),(1,.iconst 0,1),(2,.putfield 30,3),(5,.aload_n 0,1),(6,.getfield 27,3),(9,.bipush 40,2),(11,.if_icmp .ge 16,3),(14,.aload_n 0,1),(15,.dup,1),(16,.getfield 27,3),(19,.iconst 1,1),(20,.iadd,1),(21,.putfield 27,3),(24,.goto 16,3),(27,.aload_n 0,1),(28,.aload_n 0,1),(29,.getfield 24,3),(32,.iconst 1,1),(33,.iadd,1),(34,.bipush 41,2),(36,.irem,1),(37,.putfield 24,3),(40,.aload_n 0,1),(41,.aload_n 1,1),(42,.invokevirtual 33,3),(45,.return_,1)]
set_option maxRecDepth 100000 in
theorem dkX0_keepAct : rf_decs prog_2_method_3_code ddX0_keepAct := rf_decs_of (by decide +kernel)
def q50_P : rfP := (flX0,csX0,lcX0,spX0,[q49_M],[],[(33,0,0)],([],[]))
def q50_U : rfU := []
set_option maxHeartbeats 8000000 in
def q50_N : List rfB := [(0,([(0,.inr (.inl [16])),(1,.inr (.inl [13]))],[],[((12,35),(0,0,0),some ((12,35),0,0)),((12,36),(0,0,0),some ((12,36),0,0)),((16,3),(0,0,0),some ((16,3),0,0)),((16,4),(0,0,0),some ((16,4),0,0))]),(17,[]),0)]
set_option maxRecDepth 100000 in
theorem q50_ok : rf_chkB q50_P q50_U wLay q50_M ddX0_keepAct [(42,[0])] [] [0] 600 q50_N = true := by decide +kernel
set_option maxHeartbeats 4000000 in
theorem q50_met {G : rfG} (h : okG G) : rf_met G q50_M := rf_methodB h.1 (P := q50_P) (U := q50_U) (N := q50_N) ⟨wflT h flokX0, wcsT h csokX0, wlcT h lcokX0, spokX0 h, List.forall_mem_cons.mpr ⟨q49_met h, fun _ h => absurd h List.not_mem_nil⟩, fun _ h => absurd h List.not_mem_nil, List.forall_mem_cons.mpr ⟨fun M hM => Option.some.inj (show some q49_M = some M from hM) ▸ wlkV (lkX0_33 h) q49_M rfl rfl, fun _ h => absurd h List.not_mem_nil⟩, fun _ h => absurd h List.not_mem_nil, fun _ h => absurd h List.not_mem_nil⟩ dkX0_keepAct (by decide +kernel) (by rw [h.2.2.1]; exact q50_ok)
/-- NearSpellModel.isIn -/
def q52_M : rfM := ((⟨"NearSpellModel", "isIn", "(III)Z"⟩, prog_14_method_35_code, 3, (some .boolean)), (0,0), ([.inl ((0,999,1),none),.inl ((0,0,0),none),.inl ((999,999,0),none)],[]), [], [(some (.inl ((1,1,0),none)),[],[])])
def q52_P : rfP := (flX12,csX12,lcX12,spX12,[],[],[],([],[]))
def q52_U : rfU := []
set_option maxHeartbeats 8000000 in
def q52_N : List rfB := [(0,([(0,.inl ((0,999,1),none)),(1,.inl ((0,0,0),none)),(2,.inl ((999,999,0),none))],[],[]),(8,[]),0)]
set_option maxRecDepth 100000 in
theorem q52_ok : rf_chkB q52_P q52_U wLay q52_M ddX12_isIn [] [] [0] 600 q52_N = true := by decide +kernel
set_option maxHeartbeats 4000000 in
theorem q52_met {G : rfG} (h : okG G) : rf_met G q52_M := rf_methodB h.1 (P := q52_P) (U := q52_U) (N := q52_N) ⟨wflT h flokX12, wcsT h csokX12, wlcT h lcokX12, spokX12 h, fun _ h => absurd h List.not_mem_nil, fun _ h => absurd h List.not_mem_nil, fun _ h => absurd h List.not_mem_nil, fun _ h => absurd h List.not_mem_nil, fun _ h => absurd h List.not_mem_nil⟩ dkX12_isIn (by decide +kernel) (by rw [h.2.2.1]; exact q52_ok)
/-- NearSpellModel.isIn -/
def q53_M : rfM := ((⟨"NearSpellModel", "isIn", "(III)Z"⟩, prog_14_method_35_code, 3, (some .boolean)), (0,0), ([.inl ((0,0,0),none),.inl ((0,0,0),none),.inl (((-1),(-1),0),none)],[]), [], [(some (.inl ((0,0,0),none)),[],[])])
def q53_P : rfP := (flX12,csX12,lcX12,spX12,[],[],[],([],[]))
def q53_U : rfU := []
set_option maxHeartbeats 8000000 in
def q53_N : List rfB := [(0,([(0,.inl ((0,0,0),none)),(1,.inl ((0,0,0),none)),(2,.inl (((-1),(-1),0),none))],[],[]),(7,[]),0)]
set_option maxRecDepth 100000 in
theorem q53_ok : rf_chkB q53_P q53_U wLay q53_M ddX12_isIn [] [] [0] 600 q53_N = true := by decide +kernel
set_option maxHeartbeats 4000000 in
theorem q53_met {G : rfG} (h : okG G) : rf_met G q53_M := rf_methodB h.1 (P := q53_P) (U := q53_U) (N := q53_N) ⟨wflT h flokX12, wcsT h csokX12, wlcT h lcokX12, spokX12 h, fun _ h => absurd h List.not_mem_nil, fun _ h => absurd h List.not_mem_nil, fun _ h => absurd h List.not_mem_nil, fun _ h => absurd h List.not_mem_nil, fun _ h => absurd h List.not_mem_nil⟩ dkX12_isIn (by decide +kernel) (by rw [h.2.2.1]; exact q53_ok)
/-- NearSpellModel.isEntry -/
def q54_M : rfM := ((⟨"NearSpellModel", "isEntry", "(I)Z"⟩, prog_14_method_46_code, 2, (some .boolean)), (1,22), ([.inr (.inl [114]),.inl ((0,0,0),none)],[((90,28),(0,0,0),none),((90,29),(0,0,0),none),((90,36),(0,0,0),none)]), [], [(some (.inl ((0,0,0),none)),[],[])])
def q54_P : rfP := (flX12,csX12,lcX12,spX12,[q53_M],[(334,0)],[],([],[]))
def q54_U : rfU := []
set_option maxHeartbeats 8000000 in
def q54_N : List rfB := [(0,([(0,.inr (.inl [114])),(1,.inl ((0,0,0),none))],[],[((90,28),(0,0,0),some ((90,28),0,0)),((90,29),(0,0,0),some ((90,29),0,0)),((90,36),(0,0,0),some ((90,36),0,0))]),(11,[]),0)]
set_option maxRecDepth 100000 in
theorem q54_ok : rf_chkB q54_P q54_U wLay q54_M ddX12_isEntry [(11,[0])] [] [0] 600 q54_N = true := by decide +kernel
set_option maxHeartbeats 4000000 in
theorem q54_met {G : rfG} (h : okG G) : rf_met G q54_M := rf_methodB h.1 (P := q54_P) (U := q54_U) (N := q54_N) ⟨wflT h flokX12, wcsT h csokX12, wlcT h lcokX12, spokX12 h, List.forall_mem_cons.mpr ⟨q53_met h, fun _ h => absurd h List.not_mem_nil⟩, List.forall_mem_cons.mpr ⟨fun M hM => Option.some.inj (show some q53_M = some M from hM) ▸ wlkS (lkX12_334 h) q53_M rfl rfl, fun _ h => absurd h List.not_mem_nil⟩, fun _ h => absurd h List.not_mem_nil, fun _ h => absurd h List.not_mem_nil, fun _ h => absurd h List.not_mem_nil⟩ dkX12_isEntry (by decide +kernel) (by rw [h.2.2.1]; exact q54_ok)
/-- NearSpellModel.isIn -/
def q55_M : rfM := ((⟨"NearSpellModel", "isIn", "(III)Z"⟩, prog_14_method_35_code, 3, (some .boolean)), (0,0), ([.inl ((0,1,1),none),.inl ((0,0,0),none),.inl (((-1),(-1),0),none)],[]), [], [(some (.inl ((0,0,0),none)),[],[])])
def q55_P : rfP := (flX12,csX12,lcX12,spX12,[],[],[],([],[]))
def q55_U : rfU := []
set_option maxHeartbeats 8000000 in
def q55_N : List rfB := [(0,([(0,.inl ((0,1,1),none)),(1,.inl ((0,0,0),none)),(2,.inl (((-1),(-1),0),none))],[],[]),(7,[]),0)]
set_option maxRecDepth 100000 in
theorem q55_ok : rf_chkB q55_P q55_U wLay q55_M ddX12_isIn [] [] [0] 600 q55_N = true := by decide +kernel
set_option maxHeartbeats 4000000 in
theorem q55_met {G : rfG} (h : okG G) : rf_met G q55_M := rf_methodB h.1 (P := q55_P) (U := q55_U) (N := q55_N) ⟨wflT h flokX12, wcsT h csokX12, wlcT h lcokX12, spokX12 h, fun _ h => absurd h List.not_mem_nil, fun _ h => absurd h List.not_mem_nil, fun _ h => absurd h List.not_mem_nil, fun _ h => absurd h List.not_mem_nil, fun _ h => absurd h List.not_mem_nil⟩ dkX12_isIn (by decide +kernel) (by rw [h.2.2.1]; exact q55_ok)
/-- NearSpellModel.isEntry -/
def q56_M : rfM := ((⟨"NearSpellModel", "isEntry", "(I)Z"⟩, prog_14_method_46_code, 2, (some .boolean)), (1,22), ([.inr (.inl [114]),.inl ((0,1,1),none)],[((90,28),(0,0,0),none),((90,29),(0,0,0),none),((90,36),(0,0,0),none)]), [], [(some (.inl ((0,0,0),none)),[],[])])
def q56_P : rfP := (flX12,csX12,lcX12,spX12,[q55_M],[(334,0)],[],([],[]))
def q56_U : rfU := []
set_option maxHeartbeats 8000000 in
def q56_N : List rfB := [(0,([(0,.inr (.inl [114])),(1,.inl ((0,1,1),none))],[],[((90,28),(0,0,0),some ((90,28),0,0)),((90,29),(0,0,0),some ((90,29),0,0)),((90,36),(0,0,0),some ((90,36),0,0))]),(11,[]),0)]
set_option maxRecDepth 100000 in
theorem q56_ok : rf_chkB q56_P q56_U wLay q56_M ddX12_isEntry [(11,[0])] [] [0] 600 q56_N = true := by decide +kernel
set_option maxHeartbeats 4000000 in
theorem q56_met {G : rfG} (h : okG G) : rf_met G q56_M := rf_methodB h.1 (P := q56_P) (U := q56_U) (N := q56_N) ⟨wflT h flokX12, wcsT h csokX12, wlcT h lcokX12, spokX12 h, List.forall_mem_cons.mpr ⟨q55_met h, fun _ h => absurd h List.not_mem_nil⟩, List.forall_mem_cons.mpr ⟨fun M hM => Option.some.inj (show some q55_M = some M from hM) ▸ wlkS (lkX12_334 h) q55_M rfl rfl, fun _ h => absurd h List.not_mem_nil⟩, fun _ h => absurd h List.not_mem_nil, fun _ h => absurd h List.not_mem_nil, fun _ h => absurd h List.not_mem_nil⟩ dkX12_isEntry (by decide +kernel) (by rw [h.2.2.1]; exact q56_ok)
/-- NearSpellModel.isIn -/
def q57_M : rfM := ((⟨"NearSpellModel", "isIn", "(III)Z"⟩, prog_14_method_35_code, 3, (some .boolean)), (0,0), ([.inl ((0,2,1),none),.inl ((0,0,0),none),.inl (((-1),(-1),0),none)],[]), [], [(some (.inl ((0,0,0),none)),[],[])])
def q57_P : rfP := (flX12,csX12,lcX12,spX12,[],[],[],([],[]))
def q57_U : rfU := []
set_option maxHeartbeats 8000000 in
def q57_N : List rfB := [(0,([(0,.inl ((0,2,1),none)),(1,.inl ((0,0,0),none)),(2,.inl (((-1),(-1),0),none))],[],[]),(7,[]),0)]
set_option maxRecDepth 100000 in
theorem q57_ok : rf_chkB q57_P q57_U wLay q57_M ddX12_isIn [] [] [0] 600 q57_N = true := by decide +kernel
set_option maxHeartbeats 4000000 in
theorem q57_met {G : rfG} (h : okG G) : rf_met G q57_M := rf_methodB h.1 (P := q57_P) (U := q57_U) (N := q57_N) ⟨wflT h flokX12, wcsT h csokX12, wlcT h lcokX12, spokX12 h, fun _ h => absurd h List.not_mem_nil, fun _ h => absurd h List.not_mem_nil, fun _ h => absurd h List.not_mem_nil, fun _ h => absurd h List.not_mem_nil, fun _ h => absurd h List.not_mem_nil⟩ dkX12_isIn (by decide +kernel) (by rw [h.2.2.1]; exact q57_ok)
/-- NearSpellModel.isEntry -/
def q58_M : rfM := ((⟨"NearSpellModel", "isEntry", "(I)Z"⟩, prog_14_method_46_code, 2, (some .boolean)), (1,22), ([.inr (.inl [114]),.inl ((0,2,1),none)],[((90,28),(0,0,0),none),((90,29),(0,0,0),none),((90,36),(0,0,0),none)]), [], [(some (.inl ((0,0,0),none)),[],[])])
def q58_P : rfP := (flX12,csX12,lcX12,spX12,[q57_M],[(334,0)],[],([],[]))
def q58_U : rfU := []
set_option maxHeartbeats 8000000 in
def q58_N : List rfB := [(0,([(0,.inr (.inl [114])),(1,.inl ((0,2,1),none))],[],[((90,28),(0,0,0),some ((90,28),0,0)),((90,29),(0,0,0),some ((90,29),0,0)),((90,36),(0,0,0),some ((90,36),0,0))]),(11,[]),0)]
set_option maxRecDepth 100000 in
theorem q58_ok : rf_chkB q58_P q58_U wLay q58_M ddX12_isEntry [(11,[0])] [] [0] 600 q58_N = true := by decide +kernel
set_option maxHeartbeats 4000000 in
theorem q58_met {G : rfG} (h : okG G) : rf_met G q58_M := rf_methodB h.1 (P := q58_P) (U := q58_U) (N := q58_N) ⟨wflT h flokX12, wcsT h csokX12, wlcT h lcokX12, spokX12 h, List.forall_mem_cons.mpr ⟨q57_met h, fun _ h => absurd h List.not_mem_nil⟩, List.forall_mem_cons.mpr ⟨fun M hM => Option.some.inj (show some q57_M = some M from hM) ▸ wlkS (lkX12_334 h) q57_M rfl rfl, fun _ h => absurd h List.not_mem_nil⟩, fun _ h => absurd h List.not_mem_nil, fun _ h => absurd h List.not_mem_nil, fun _ h => absurd h List.not_mem_nil⟩ dkX12_isEntry (by decide +kernel) (by rw [h.2.2.1]; exact q58_ok)
/-- NearSpellModel.isIn -/
def q59_M : rfM := ((⟨"NearSpellModel", "isIn", "(III)Z"⟩, prog_14_method_35_code, 3, (some .boolean)), (0,0), ([.inl ((0,3,1),none),.inl ((0,0,0),none),.inl (((-1),(-1),0),none)],[]), [], [(some (.inl ((0,0,0),none)),[],[])])
def q59_P : rfP := (flX12,csX12,lcX12,spX12,[],[],[],([],[]))
def q59_U : rfU := []
set_option maxHeartbeats 8000000 in
def q59_N : List rfB := [(0,([(0,.inl ((0,3,1),none)),(1,.inl ((0,0,0),none)),(2,.inl (((-1),(-1),0),none))],[],[]),(7,[]),0)]
set_option maxRecDepth 100000 in
theorem q59_ok : rf_chkB q59_P q59_U wLay q59_M ddX12_isIn [] [] [0] 600 q59_N = true := by decide +kernel
set_option maxHeartbeats 4000000 in
theorem q59_met {G : rfG} (h : okG G) : rf_met G q59_M := rf_methodB h.1 (P := q59_P) (U := q59_U) (N := q59_N) ⟨wflT h flokX12, wcsT h csokX12, wlcT h lcokX12, spokX12 h, fun _ h => absurd h List.not_mem_nil, fun _ h => absurd h List.not_mem_nil, fun _ h => absurd h List.not_mem_nil, fun _ h => absurd h List.not_mem_nil, fun _ h => absurd h List.not_mem_nil⟩ dkX12_isIn (by decide +kernel) (by rw [h.2.2.1]; exact q59_ok)
/-- NearSpellModel.isEntry -/
def q60_M : rfM := ((⟨"NearSpellModel", "isEntry", "(I)Z"⟩, prog_14_method_46_code, 2, (some .boolean)), (1,22), ([.inr (.inl [114]),.inl ((0,3,1),none)],[((90,28),(0,0,0),none),((90,29),(0,0,0),none),((90,36),(0,0,0),none)]), [], [(some (.inl ((0,0,0),none)),[],[])])
def q60_P : rfP := (flX12,csX12,lcX12,spX12,[q59_M],[(334,0)],[],([],[]))
def q60_U : rfU := []
set_option maxHeartbeats 8000000 in
def q60_N : List rfB := [(0,([(0,.inr (.inl [114])),(1,.inl ((0,3,1),none))],[],[((90,28),(0,0,0),some ((90,28),0,0)),((90,29),(0,0,0),some ((90,29),0,0)),((90,36),(0,0,0),some ((90,36),0,0))]),(11,[]),0)]
set_option maxRecDepth 100000 in
theorem q60_ok : rf_chkB q60_P q60_U wLay q60_M ddX12_isEntry [(11,[0])] [] [0] 600 q60_N = true := by decide +kernel
set_option maxHeartbeats 4000000 in
theorem q60_met {G : rfG} (h : okG G) : rf_met G q60_M := rf_methodB h.1 (P := q60_P) (U := q60_U) (N := q60_N) ⟨wflT h flokX12, wcsT h csokX12, wlcT h lcokX12, spokX12 h, List.forall_mem_cons.mpr ⟨q59_met h, fun _ h => absurd h List.not_mem_nil⟩, List.forall_mem_cons.mpr ⟨fun M hM => Option.some.inj (show some q59_M = some M from hM) ▸ wlkS (lkX12_334 h) q59_M rfl rfl, fun _ h => absurd h List.not_mem_nil⟩, fun _ h => absurd h List.not_mem_nil, fun _ h => absurd h List.not_mem_nil, fun _ h => absurd h List.not_mem_nil⟩ dkX12_isEntry (by decide +kernel) (by rw [h.2.2.1]; exact q60_ok)
/-- NearSpellModel.isIn -/
def q61_M : rfM := ((⟨"NearSpellModel", "isIn", "(III)Z"⟩, prog_14_method_35_code, 3, (some .boolean)), (0,0), ([.inl ((0,6,1),none),.inl ((0,0,0),none),.inl (((-1),(-1),0),none)],[]), [], [(some (.inl ((0,0,0),none)),[],[])])
def q61_P : rfP := (flX12,csX12,lcX12,spX12,[],[],[],([],[]))
def q61_U : rfU := []
set_option maxHeartbeats 8000000 in
def q61_N : List rfB := [(0,([(0,.inl ((0,6,1),none)),(1,.inl ((0,0,0),none)),(2,.inl (((-1),(-1),0),none))],[],[]),(7,[]),0)]
set_option maxRecDepth 100000 in
theorem q61_ok : rf_chkB q61_P q61_U wLay q61_M ddX12_isIn [] [] [0] 600 q61_N = true := by decide +kernel
set_option maxHeartbeats 4000000 in
theorem q61_met {G : rfG} (h : okG G) : rf_met G q61_M := rf_methodB h.1 (P := q61_P) (U := q61_U) (N := q61_N) ⟨wflT h flokX12, wcsT h csokX12, wlcT h lcokX12, spokX12 h, fun _ h => absurd h List.not_mem_nil, fun _ h => absurd h List.not_mem_nil, fun _ h => absurd h List.not_mem_nil, fun _ h => absurd h List.not_mem_nil, fun _ h => absurd h List.not_mem_nil⟩ dkX12_isIn (by decide +kernel) (by rw [h.2.2.1]; exact q61_ok)
/-- NearSpellModel.isEntry -/
def q62_M : rfM := ((⟨"NearSpellModel", "isEntry", "(I)Z"⟩, prog_14_method_46_code, 2, (some .boolean)), (1,22), ([.inr (.inl [114]),.inl ((0,6,1),none)],[((90,28),(0,0,0),none),((90,29),(0,0,0),none),((90,36),(0,0,0),none)]), [], [(some (.inl ((0,0,0),none)),[],[])])
def q62_P : rfP := (flX12,csX12,lcX12,spX12,[q61_M],[(334,0)],[],([],[]))
def q62_U : rfU := []
set_option maxHeartbeats 8000000 in
def q62_N : List rfB := [(0,([(0,.inr (.inl [114])),(1,.inl ((0,6,1),none))],[],[((90,28),(0,0,0),some ((90,28),0,0)),((90,29),(0,0,0),some ((90,29),0,0)),((90,36),(0,0,0),some ((90,36),0,0))]),(11,[]),0)]
set_option maxRecDepth 100000 in
theorem q62_ok : rf_chkB q62_P q62_U wLay q62_M ddX12_isEntry [(11,[0])] [] [0] 600 q62_N = true := by decide +kernel
set_option maxHeartbeats 4000000 in
theorem q62_met {G : rfG} (h : okG G) : rf_met G q62_M := rf_methodB h.1 (P := q62_P) (U := q62_U) (N := q62_N) ⟨wflT h flokX12, wcsT h csokX12, wlcT h lcokX12, spokX12 h, List.forall_mem_cons.mpr ⟨q61_met h, fun _ h => absurd h List.not_mem_nil⟩, List.forall_mem_cons.mpr ⟨fun M hM => Option.some.inj (show some q61_M = some M from hM) ▸ wlkS (lkX12_334 h) q61_M rfl rfl, fun _ h => absurd h List.not_mem_nil⟩, fun _ h => absurd h List.not_mem_nil, fun _ h => absurd h List.not_mem_nil, fun _ h => absurd h List.not_mem_nil⟩ dkX12_isEntry (by decide +kernel) (by rw [h.2.2.1]; exact q62_ok)
