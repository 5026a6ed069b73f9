/-- NearSpell.putBytes -/
def q0_M : rfM := ((⟨"NearSpell", "putBytes", "(I)V"⟩, prog_1_method_49_code, 3, none), (0,0), ([.inr (.inl [70]),.inl (((-2147483648),2147483647,1),none)],[]), [(0,0),(70,2)], [(none,[],[])])
def ddX11_putBytes : List (Nat × Instr × Nat) := [(0,.bipush 24,2),(2,.istore_n 2,1),(3,.iload_n 2,1),(4,.ifCond .lt 44,3),(7,.aload_n 0,1),(8,.getfield 100,3),(11,.aload_n 0,1),(12,.getfield 9,3),(15,.arraylength,1),(16,.if_icmp .ge 32,3),(19,.aload_n 0,1),(20,.getfield 9,3),(23,.aload_n 0,1),(24,.getfield 100,3),(27,.iload_n 1,1),(28,.iload_n 2,1),(29,.ishr,1),(30,.i2b,1),(31,.bastore,1),(32,.aload_n 0,1),(33,.dup,1),(34,.getfield 100,3),(37,.iconst 1,1),(38,.iadd,1),(39,.putfield 100,3),(42,.iinc 2 (-8),3),(45,.goto (-42),3),(48,.return_,1)]
set_option maxRecDepth 100000 in
theorem dkX11_putBytes : rf_decs prog_1_method_49_code ddX11_putBytes := rf_decs_of (by decide +kernel)
def q0_P : rfP := (flX11,csX11,lcX11,spX11,[],[],[],([],[]))
def q0_U : rfU := []
set_option maxHeartbeats 8000000 in
def q0_N : List rfB := [(0,([(0,.inr (.inl [70])),(1,.inl (((-2147483648),2147483647,1),none))],[],[]),(41628,[0]),0),
  (3,([(0,.inr (.inl [70])),(1,.inl (((-2147483648),2147483647,1),none)),(2,.inl (((-24),24,1),none))],[],[]),(41623,[(-26)]),0),
  (48,([(0,.inr (.inl [70])),(1,.inl (((-2147483648),2147483647,1),none)),(2,.inl (((-24),24,1),none))],[],[]),(0,[0]),0)]
set_option maxRecDepth 100000 in
theorem q0_ok : rf_chkB q0_P q0_U wLay q0_M ddX11_putBytes [] [.inr (70,1)] [0,3,48] 600 q0_N = true := by decide +kernel
set_option maxHeartbeats 4000000 in
theorem q0_met {G : rfG} (h : okG G) : rf_met G q0_M := rf_methodB h.1 (P := q0_P) (U := q0_U) (N := q0_N) ⟨wflT h flokX11, wcsT h csokX11, wlcT h lcokX11, spokX11 h, fun _ h => absurd h List.not_mem_nil, fun _ h => absurd h List.not_mem_nil, fun _ h => absurd h List.not_mem_nil, fun _ h => absurd h List.not_mem_nil, fun _ h => absurd h List.not_mem_nil⟩ dkX11_putBytes (by decide +kernel) (by rw [h.2.2.1]; exact q0_ok)
/-- NearSpell.feed -/
def q1_M : rfM := ((⟨"NearSpell", "feed", "(IIIII)I"⟩, prog_1_method_2_code, 6, (some .int)), (1,22), ([.inr (.inl [70]),.inl (((-2147483648),2147483647,1),none),.inl (((-2147483648),2147483647,1),none),.inl (((-2147483648),2147483647,1),none),.inl (((-2147483648),2147483647,1),none),.inl (((-2147483648),2147483647,1),none)],[]), [(0,0),(70,2)], [(some (.inl (((-1),1600,1),none)),[],[])])
def ddX11_feed : List (Nat × Instr × Nat) := [(0,.aload_n 0,1),(1,.getfield 100,3),(4,.bipush 20,2),(6,.iadd,1),(7,.sipush 1600,3),(10,.if_icmp .le 5,3),(13,.iconst (-1),1),(14,.ireturn,1),(15,.aload_n 0,1),(16,.iload_n 1,1),(17,.invokevirtual 107,3),(20,.aload_n 0,1),(21,.iload_n 2,1),(22,.invokevirtual 107,3),(25,.aload_n 0,1),(26,.iload_n 3,1),(27,.invokevirtual 107,3),(30,.aload_n 0,1),(31,.iload 4,2),(33,.invokevirtual 107,3),(36,.aload_n 0,1),(37,.iload 5,2),(39,.invokevirtual 107,3),(42,.aload_n 0,1),(43,.getfield 100,3),(46,.ireturn,1)]
set_option maxRecDepth 100000 in
theorem dkX11_feed : rf_decs prog_1_method_2_code ddX11_feed := rf_decs_of (by decide +kernel)
def q1_P : rfP := (flX11,csX11,lcX11,spX11,[q0_M],[],[(107,0,11)],([],[]))
def q1_U : rfU := []
set_option maxHeartbeats 8000000 in
def q1_N : List rfB := [(0,([(0,.inr (.inl [70])),(1,.inl (((-2147483648),2147483647,1),none)),(2,.inl (((-2147483648),2147483647,1),none)),(3,.inl (((-2147483648),2147483647,1),none)),(4,.inl (((-2147483648),2147483647,1),none)),(5,.inl (((-2147483648),2147483647,1),none))],[],[]),(25,[]),0)]
set_option maxRecDepth 100000 in
theorem q1_ok : rf_chkB q1_P q1_U wLay q1_M ddX11_feed [(17,[0]),(22,[0]),(27,[0]),(33,[0]),(39,[0])] [] [0] 600 q1_N = true := by decide +kernel
set_option maxHeartbeats 4000000 in
theorem q1_met {G : rfG} (h : okG G) : rf_met G q1_M := rf_methodB h.1 (P := q1_P) (U := q1_U) (N := q1_N) ⟨wflT h flokX11, wcsT h csokX11, wlcT h lcokX11, spokX11 h, List.forall_mem_cons.mpr ⟨q0_met h, fun _ h => absurd h List.not_mem_nil⟩, fun _ h => absurd h List.not_mem_nil, List.forall_mem_cons.mpr ⟨fun M hM => Option.some.inj (show some q0_M = some M from hM) ▸ wlkV (lkX11_107 h) q0_M rfl rfl, fun _ h => absurd h List.not_mem_nil⟩, fun _ h => absurd h List.not_mem_nil, fun _ h => absurd h List.not_mem_nil⟩ dkX11_feed (by decide +kernel) (by rw [h.2.2.1]; exact q1_ok)
/-- NearSpell.end -/
def q2_M : rfM := ((⟨"NearSpell", "end", "(I)I"⟩, prog_1_method_3_code, 2, (some .int)), (0,0), ([.inr (.inl [70]),.inl (((-2147483648),2147483647,1),none)],[]), [(70,2)], [(some (.inl (((-1),1600,1),none)),[],[])])
def ddX11_end : List (Nat × Instr × Nat) := [(0,.iload_n 1,1),(1,.ifCond .lt 11,3),(4,.iload_n 1,1),(5,.aload_n 0,1),(6,.getfield 100,3),(9,.if_icmp .le 5,3),(12,.iconst (-1),1),(13,.ireturn,1),(14,.aload_n 0,1),(15,.iload_n 1,1),(16,.putfield 100,3),(19,.iload_n 1,1),(20,.ireturn,1)]
set_option maxRecDepth 100000 in
theorem dkX11_end : rf_decs prog_1_method_3_code ddX11_end := rf_decs_of (by decide +kernel)
def q2_P : rfP := (flX11,csX11,lcX11,spX11,[],[],[],([],[]))
def q2_U : rfU := []
set_option maxHeartbeats 8000000 in
def q2_N : List rfB := [(0,([(0,.inr (.inl [70])),(1,.inl (((-2147483648),2147483647,1),none))],[],[]),(12,[]),0),
  (12,([(0,.inr (.inl [70])),(1,.inl (((-2147483648),2147483647,1),none))],[],[]),(1,[]),0)]
set_option maxRecDepth 100000 in
theorem q2_ok : rf_chkB q2_P q2_U wLay q2_M ddX11_end [] [] [0,12] 600 q2_N = true := by decide +kernel
set_option maxHeartbeats 4000000 in
theorem q2_met {G : rfG} (h : okG G) : rf_met G q2_M := rf_methodB h.1 (P := q2_P) (U := q2_U) (N := q2_N) ⟨wflT h flokX11, wcsT h csokX11, wlcT h lcokX11, spokX11 h, fun _ h => absurd h List.not_mem_nil, fun _ h => absurd h List.not_mem_nil, fun _ h => absurd h List.not_mem_nil, fun _ h => absurd h List.not_mem_nil, fun _ h => absurd h List.not_mem_nil⟩ dkX11_end (by decide +kernel) (by rw [h.2.2.1]; exact q2_ok)
/-- NearSpell.Book.reset -/
def q3_M : rfM := ((⟨"NearSpell$Book", "reset", "()V"⟩, prog_3_method_2_code, 1, none), (0,0), ([.inr (.inl [10])],[]), [(10,5),(10,6),(10,7),(10,8),(10,9),(10,10),(10,11),(10,12),(10,13)], [(none,[],[((10,4),(0,0,0),none),((10,5),(4,4,0),none),((10,6),(2,2,0),none),((10,7),(13,13,0),none),((10,8),(0,0,0),none),((10,9),(0,0,0),none),((10,10),(0,0,0),none),((10,11),(0,0,0),none),((10,12),(0,0,0),none)])])
def ddX1_reset : List (Nat × Instr × Nat) := [(0,.aload_n 0,1),(1,.iconst 0,1),(2,.putfield 27,3),(5,.aload_n 0,1),(6,.iconst 4,1),(7,.putfield 31,3),(10,.aload_n 0,1),(11,.iconst 2,1),(12,.putfield 34,3),(15,.aload_n 0,1),(16,.bipush 13,2),(18,.putfield 37,3),(21,.aload_n 0,1),(22,.iconst 0,1),(23,.putfield 40,3),(26,.aload_n 0,1),(27,.iconst 0,1),(28,.putfield 43,3),(31,.aload_n 0,1),(32,.iconst 0,1),(33,.putfield 46,3),(36,.aload_n 0,1),(37,.iconst 0,1),(38,.putfield 49,3),(41,.aload_n 0,1),(42,.iconst 0,1),(43,.putfield 52,3),(46,.return_,1)]
set_option maxRecDepth 100000 in
theorem dkX1_reset : rf_decs prog_3_method_2_code ddX1_reset := rf_decs_of (by decide +kernel)
def q3_P : rfP := (flX1,csX1,lcX1,spX1,[],[],[],([],[]))
def q3_U : rfU := []
set_option maxHeartbeats 8000000 in
def q3_N : List rfB := [(0,([(0,.inr (.inl [10]))],[],[]),(27,[]),0)]
set_option maxRecDepth 100000 in
theorem q3_ok : rf_chkB q3_P q3_U wLay q3_M ddX1_reset [] [] [0] 600 q3_N = true := by decide +kernel
set_option maxHeartbeats 4000000 in
theorem q3_met {G : rfG} (h : okG G) : rf_met G q3_M := rf_methodB h.1 (P := q3_P) (U := q3_U) (N := q3_N) ⟨wflT h flokX1, wcsT h csokX1, wlcT h lcokX1, spokX1 h, fun _ h => absurd h List.not_mem_nil, fun _ h => absurd h List.not_mem_nil, fun _ h => absurd h List.not_mem_nil, fun _ h => absurd h List.not_mem_nil, fun _ h => absurd h List.not_mem_nil⟩ dkX1_reset (by decide +kernel) (by rw [h.2.2.1]; exact q3_ok)
/-- NearSpell.Reader.isLetter -/
def q4_M : rfM := ((⟨"NearSpell$Reader", "isLetter", "(I)Z"⟩, prog_8_method_19_code, 2, (some .boolean)), (0,0), ([.inr (.inl [11]),.inl ((0,1600,1),none)],[]), [], [(some (.inl ((1,1,0),none)),[(1,0,1599)],[((11,2),(1,1600,1),none)]),(some (.inl ((0,0,0),none)),[],[])])
def ddX6_isLetter : List (Nat × Instr × Nat) := [(0,.iload_n 1,1),(1,.aload_n 0,1),(2,.getfield 37,3),(5,.if_icmp .ge 29,3),(8,.aload_n 0,1),(9,.getfield 9,3),(12,.iload_n 1,1),(13,.baload,1),(14,.bipush 97,2),(16,.if_icmp .lt 18,3),(19,.aload_n 0,1),(20,.getfield 9,3),(23,.iload_n 1,1),(24,.baload,1),(25,.bipush 122,2),(27,.if_icmp .gt 7,3),(30,.iconst 1,1),(31,.goto 4,3),(34,.iconst 0,1),(35,.ireturn,1)]
set_option maxRecDepth 100000 in
theorem dkX6_isLetter : rf_decs prog_8_method_19_code ddX6_isLetter := rf_decs_of (by decide +kernel)
def q4_P : rfP := (flX6,csX6,lcX6,spX6,[],[],[],([],[]))
def q4_U : rfU := []
set_option maxHeartbeats 8000000 in
def q4_N : List rfB := [(0,([(0,.inr (.inl [11])),(1,.inl ((0,1600,1),none))],[],[]),(20,[]),0),
  (34,([(0,.inr (.inl [11])),(1,.inl ((0,1600,1),none))],[],[]),(1,[]),0)]
set_option maxRecDepth 100000 in
theorem q4_ok : rf_chkB q4_P q4_U wLay q4_M ddX6_isLetter [] [] [0,34] 600 q4_N = true := by decide +kernel
set_option maxHeartbeats 4000000 in
theorem q4_met {G : rfG} (h : okG G) : rf_met G q4_M := rf_methodB h.1 (P := q4_P) (U := q4_U) (N := q4_N) ⟨wflT h flokX6, wcsT h csokX6, wlcT h lcokX6, spokX6 h, fun _ h => absurd h List.not_mem_nil, fun _ h => absurd h List.not_mem_nil, fun _ h => absurd h List.not_mem_nil, fun _ h => absurd h List.not_mem_nil, fun _ h => absurd h List.not_mem_nil⟩ dkX6_isLetter (by decide +kernel) (by rw [h.2.2.1]; exact q4_ok)
/-- NearSpell.Reader.fail -/
def q5_M : rfM := ((⟨"NearSpell$Reader", "fail", "(I)V"⟩, prog_8_method_3_code, 2, none), (0,0), ([.inr (.inl [11]),.inl ((1,1,0),none)],[]), [(11,6),(11,9),(11,10)], [(none,[],[((11,5),(17,17,0),none),((11,8),(1,4,1),none)])])
def ddX6_fail : List (Nat × Instr × Nat) := [(0,.aload_n 0,1),(1,.getfield 19,3),(4,.ifCond .ne 16,3),(7,.aload_n 0,1),(8,.iload_n 1,1),(9,.putfield 19,3),(12,.aload_n 0,1),(13,.aload_n 0,1),(14,.getfield 55,3),(17,.putfield 23,3),(20,.aload_n 0,1),(21,.bipush 17,2),(23,.putfield 49,3),(26,.return_,1)]
set_option maxRecDepth 100000 in
theorem dkX6_fail : rf_decs prog_8_method_3_code ddX6_fail := rf_decs_of (by decide +kernel)
def q5_P : rfP := (flX6,csX6,lcX6,spX6,[],[],[],([],[]))
def q5_U : rfU := []
set_option maxHeartbeats 8000000 in
def q5_N : List rfB := [(0,([(0,.inr (.inl [11])),(1,.inl ((1,1,0),none))],[],[]),(13,[]),0),
  (20,([(0,.inr (.inl [11])),(1,.inl ((1,1,0),none))],[],[((11,8),(1,4,1),none)]),(3,[]),0)]
set_option maxRecDepth 100000 in
theorem q5_ok : rf_chkB q5_P q5_U wLay q5_M ddX6_fail [] [] [0,20] 600 q5_N = true := by decide +kernel
set_option maxHeartbeats 4000000 in
theorem q5_met {G : rfG} (h : okG G) : rf_met G q5_M := rf_methodB h.1 (P := q5_P) (U := q5_U) (N := q5_N) ⟨wflT h flokX6, wcsT h csokX6, wlcT h lcokX6, spokX6 h, fun _ h => absurd h List.not_mem_nil, fun _ h => absurd h List.not_mem_nil, fun _ h => absurd h List.not_mem_nil, fun _ h => absurd h List.not_mem_nil, fun _ h => absurd h List.not_mem_nil⟩ dkX6_fail (by decide +kernel) (by rw [h.2.2.1]; exact q5_ok)
/-- java/lang/String.isLatin1 -/
def q6_M : rfM := ((⟨"java/lang/String", "isLatin1", "()Z"⟩, prog_18_method_154_code, 1, (some .boolean)), (0,0), ([.inr (.inr 2)],[]), [], [(some (.inl ((1,1,0),none)),[],[])])
def ddJ0_isLatin1_aae02 : List (Nat × Instr × Nat) := [(0,.getstatic 38,3),(3,.ifCond .eq 14,3),(6,.aload_n 0,1),(7,.getfield 15,3),(10,.ifCond .ne 7,3),(13,.iconst 1,1),(14,.goto 4,3),(17,.iconst 0,1),(18,.ireturn,1)]
set_option maxRecDepth 100000 in
theorem dkJ0_isLatin1_aae02 : rf_decs prog_18_method_154_code ddJ0_isLatin1_aae02 := rf_decs_of (by decide +kernel)
def q6_P : rfP := (flJ0,csJ0,lcJ0,spJ0,[],[],[],([],[]))
def q6_U : rfU := []
set_option maxHeartbeats 8000000 in
def q6_N : List rfB := [(0,([(0,.inr (.inr 2))],[],[]),(7,[]),0)]
set_option maxRecDepth 100000 in
theorem q6_ok : rf_chkB q6_P q6_U wLay q6_M ddJ0_isLatin1_aae02 [] [] [0] 600 q6_N = true := by decide +kernel
set_option maxHeartbeats 4000000 in
theorem q6_met {G : rfG} (h : okG G) : rf_met G q6_M := rf_methodB h.1 (P := q6_P) (U := q6_U) (N := q6_N) ⟨wflT h flokJ0, wcsT h csokJ0, wlcT h lcokJ0, spokJ0 h, fun _ h => absurd h List.not_mem_nil, fun _ h => absurd h List.not_mem_nil, fun _ h => absurd h List.not_mem_nil, fun _ h => absurd h List.not_mem_nil, fun _ h => absurd h List.not_mem_nil⟩ dkJ0_isLatin1_aae02 (by decide +kernel) (by rw [h.2.2.1]; exact q6_ok)
/-- jdk/internal/util/Preconditions.checkIndex -/
def q7_M : rfM := ((⟨"jdk/internal/util/Preconditions", "checkIndex", "(IILjava/util/function/BiFunction;)I"⟩, prog_22_method_11_code, 3, (some .int)), (0,0), ([.inl ((0,111,1),none),.inl ((112,112,0),none),.inr (.inr 1000)],[]), [], [(some (.inl ((0,111,1),none)),[],[])])
def ddJ3_checkIndex_8e157 : List (Nat × Instr × Nat) := [(0,.iload_n 0,1),(1,.ifCond .lt 8,3),(4,.iload_n 0,1),(5,.iload_n 1,1),(6,.if_icmp .lt 10,3),(9,.aload_n 2,1),(10,.iload_n 0,1),(11,.iload_n 1,1),(12,.invokestatic 95,3),(15,.athrow,1),(16,.iload_n 0,1),(17,.ireturn,1)]
set_option maxRecDepth 100000 in
theorem dkJ3_checkIndex_8e157 : rf_decs prog_22_method_11_code ddJ3_checkIndex_8e157 := rf_decs_of (by decide +kernel)
def q7_P : rfP := (flJ3,csJ3,lcJ3,spJ3,[],[],[],([],[]))
def q7_U : rfU := []
set_option maxHeartbeats 8000000 in
def q7_N : List rfB := [(0,([(0,.inl ((0,111,1),none)),(1,.inl ((112,112,0),none)),(2,.inr (.inr 1000))],[],[]),(6,[]),0)]
set_option maxRecDepth 100000 in
theorem q7_ok : rf_chkB q7_P q7_U wLay q7_M ddJ3_checkIndex_8e157 [] [] [0] 600 q7_N = true := by decide +kernel
set_option maxHeartbeats 4000000 in
theorem q7_met {G : rfG} (h : okG G) : rf_met G q7_M := rf_methodB h.1 (P := q7_P) (U := q7_U) (N := q7_N) ⟨wflT h flokJ3, wcsT h csokJ3, wlcT h lcokJ3, spokJ3 h, fun _ h => absurd h List.not_mem_nil, fun _ h => absurd h List.not_mem_nil, fun _ h => absurd h List.not_mem_nil, fun _ h => absurd h List.not_mem_nil, fun _ h => absurd h List.not_mem_nil⟩ dkJ3_checkIndex_8e157 (by decide +kernel) (by rw [h.2.2.1]; exact q7_ok)
/-- java/lang/String.checkIndex -/
def q8_M : rfM := ((⟨"java/lang/String", "checkIndex", "(II)V"⟩, prog_18_method_155_code, 2, none), (1,22), ([.inl ((0,111,1),none),.inl ((112,112,0),none)],[]), [], [(none,[],[])])
def ddJ0_checkIndex_df160 : List (Nat × Instr × Nat) := [(0,.iload_n 0,1),(1,.iload_n 1,1),(2,.getstatic 1053,3),(5,.invokestatic 1059,3),(8,.pop,1),(9,.return_,1)]
set_option maxRecDepth 100000 in
theorem dkJ0_checkIndex_df160 : rf_decs prog_18_method_155_code ddJ0_checkIndex_df160 := rf_decs_of (by decide +kernel)
def q8_P : rfP := (flJ0,csJ0,lcJ0,spJ0,[q7_M],[(1059,0)],[],([],[]))
def q8_U : rfU := []
set_option maxHeartbeats 8000000 in
def q8_N : List rfB := [(0,([(0,.inl ((0,111,1),none)),(1,.inl ((112,112,0),none))],[],[]),(5,[]),0)]
set_option maxRecDepth 100000 in
theorem q8_ok : rf_chkB q8_P q8_U wLay q8_M ddJ0_checkIndex_df160 [(5,[0])] [] [0] 600 q8_N = true := by decide +kernel
set_option maxHeartbeats 4000000 in
theorem q8_met {G : rfG} (h : okG G) : rf_met G q8_M := rf_methodB h.1 (P := q8_P) (U := q8_U) (N := q8_N) ⟨wflT h flokJ0, wcsT h csokJ0, wlcT h lcokJ0, spokJ0 h, List.forall_mem_cons.mpr ⟨q7_met h, fun _ h => absurd h List.not_mem_nil⟩, List.forall_mem_cons.mpr ⟨fun M hM => Option.some.inj (show some q7_M = some M from hM) ▸ wlkS (lkJ0_1059 h) q7_M rfl rfl, fun _ h => absurd h List.not_mem_nil⟩, fun _ h => absurd h List.not_mem_nil, fun _ h => absurd h List.not_mem_nil, fun _ h => absurd h List.not_mem_nil⟩ dkJ0_checkIndex_df160 (by decide +kernel) (by rw [h.2.2.1]; exact q8_ok)
/-- java/lang/StringLatin1.charAt -/
def q9_M : rfM := ((⟨"java/lang/StringLatin1", "charAt", "([BI)C"⟩, prog_19_method_2_code, 2, (some .char)), (2,43), ([.inr (.inr 4),.inl ((0,111,1),none)],[]), [], [(some (.inl ((0,120,1),none)),[],[])])
def ddJ1_charAt_3b067 : List (Nat × Instr × Nat) := [(0,.iload_n 1,1),(1,.aload_n 0,1),(2,.arraylength,1),(3,.invokestatic 9,3),(6,.aload_n 0,1),(7,.iload_n 1,1),(8,.baload,1),(9,.sipush 255,3),(12,.iand,1),(13,.i2c,1),(14,.ireturn,1)]
set_option maxRecDepth 100000 in
theorem dkJ1_charAt_3b067 : rf_decs prog_19_method_2_code ddJ1_charAt_3b067 := rf_decs_of (by decide +kernel)
def q9_P : rfP := (flJ1,csJ1,lcJ1,spJ1,[q8_M],[(9,0)],[],([],[]))
def q9_U : rfU := []
set_option maxHeartbeats 8000000 in
def q9_N : List rfB := [(0,([(0,.inr (.inr 4)),(1,.inl ((0,111,1),none))],[],[]),(10,[]),0)]
set_option maxRecDepth 100000 in
theorem q9_ok : rf_chkB q9_P q9_U wLay q9_M ddJ1_charAt_3b067 [(3,[0])] [] [0] 600 q9_N = true := by decide +kernel
set_option maxHeartbeats 4000000 in
theorem q9_met {G : rfG} (h : okG G) : rf_met G q9_M := rf_methodB h.1 (P := q9_P) (U := q9_U) (N := q9_N) ⟨wflT h flokJ1, wcsT h csokJ1, wlcT h lcokJ1, spokJ1 h, List.forall_mem_cons.mpr ⟨q8_met h, fun _ h => absurd h List.not_mem_nil⟩, List.forall_mem_cons.mpr ⟨fun M hM => Option.some.inj (show some q8_M = some M from hM) ▸ wlkS (lkJ1_9 h) q8_M rfl rfl, fun _ h => absurd h List.not_mem_nil⟩, fun _ h => absurd h List.not_mem_nil, fun _ h => absurd h List.not_mem_nil, fun _ h => absurd h List.not_mem_nil⟩ dkJ1_charAt_3b067 (by decide +kernel) (by rw [h.2.2.1]; exact q9_ok)
/-- java/lang/String.charAt -/
def q10_M : rfM := ((⟨"java/lang/String", "charAt", "(I)C"⟩, prog_18_method_56_code, 2, (some .char)), (3,64), ([.inr (.inr 2),.inl ((0,111,1),none)],[]), [], [(some (.inl ((0,120,1),none)),[],[])])
def ddJ0_charAt_5068e : List (Nat × Instr × Nat) := [(0,.aload_n 0,1),(1,.invokevirtual 492,3),(4,.ifCond .eq 12,3),(7,.aload_n 0,1),(8,.getfield 9,3),(11,.iload_n 1,1),(12,.invokestatic 495,3),(15,.ireturn,1),(16,.aload_n 0,1),(17,.getfield 9,3),(20,.iload_n 1,1),(21,.invokestatic 498,3),(24,.ireturn,1)]
set_option maxRecDepth 100000 in
theorem dkJ0_charAt_5068e : rf_decs prog_18_method_56_code ddJ0_charAt_5068e := rf_decs_of (by decide +kernel)
def q10_P : rfP := (flJ0,csJ0,lcJ0,spJ0,[q6_M,q9_M],[(495,1)],[(492,0,1000)],([],[]))
def q10_U : rfU := []
set_option maxHeartbeats 8000000 in
def q10_N : List rfB := [(0,([(0,.inr (.inr 2)),(1,.inl ((0,111,1),none))],[],[]),(7,[]),0)]
set_option maxRecDepth 100000 in
theorem q10_ok : rf_chkB q10_P q10_U wLay q10_M ddJ0_charAt_5068e [(1,[0]),(12,[1])] [] [0] 600 q10_N = true := by decide +kernel
set_option maxHeartbeats 4000000 in
theorem q10_met {G : rfG} (h : okG G) : rf_met G q10_M := rf_methodB h.1 (P := q10_P) (U := q10_U) (N := q10_N) ⟨wflT h flokJ0, wcsT h csokJ0, wlcT h lcokJ0, spokJ0 h, List.forall_mem_cons.mpr ⟨q6_met h, List.forall_mem_cons.mpr ⟨q9_met h, fun _ h => absurd h List.not_mem_nil⟩⟩, List.forall_mem_cons.mpr ⟨fun M hM => Option.some.inj (show some q9_M = some M from hM) ▸ wlkS (lkJ0_495 h) q9_M rfl rfl, fun _ h => absurd h List.not_mem_nil⟩, List.forall_mem_cons.mpr ⟨fun M hM => Option.some.inj (show some q6_M = some M from hM) ▸ wlkV (lkJ0_492 h) q6_M rfl rfl, fun _ h => absurd h List.not_mem_nil⟩, fun _ h => absurd h List.not_mem_nil, fun _ h => absurd h List.not_mem_nil⟩ dkJ0_charAt_5068e (by decide +kernel) (by rw [h.2.2.1]; exact q10_ok)
/-- NearSpell.Reader.isOwnWord -/
def q11_M : rfM := ((⟨"NearSpell$Reader", "isOwnWord", "(I)Z"⟩, prog_8_method_18_code, 5, (some .boolean)), (4,85), ([.inr (.inl [11]),.inl ((0,0,0),none)],[]), [], [(some (.inl ((0,0,0),none)),[],[]),(some (.inl ((1,1,0),none)),[],[])])
def ddX6_isOwnWord : List (Nat × Instr × Nat) := [(0,.iconst 0,1),(1,.istore_n 2,1),(2,.iload_n 2,1),(3,.bipush 8,2),(5,.if_icmp .ge 65,3),(8,.ldc 150,2),(10,.iload_n 1,1),(11,.bipush 8,2),(13,.imul,1),(14,.iload_n 2,1),(15,.iadd,1),(16,.invokevirtual 152,3),(19,.istore_n 3,1),(20,.aload_n 0,1),(21,.getfield 55,3),(24,.iload_n 2,1),(25,.iadd,1),(26,.aload_n 0,1),(27,.getfield 40,3),(30,.if_icmp .ge 22,3),(33,.aload_n 0,1),(34,.getfield 9,3),(37,.aload_n 0,1),(38,.getfield 55,3),(41,.iload_n 2,1),(42,.iadd,1),(43,.baload,1),(44,.sipush 255,3),(47,.iand,1),(48,.i2c,1),(49,.goto 5,3),(52,.bipush 32,2),(54,.istore 4,2),(56,.iload_n 3,1),(57,.iload 4,2),(59,.if_icmp .eq 5,3),(62,.iconst 0,1),(63,.ireturn,1),(64,.iinc 2 1,3),(67,.goto (-65),3),(70,.iconst 1,1),(71,.ireturn,1)]
set_option maxRecDepth 100000 in
theorem dkX6_isOwnWord : rf_decs prog_8_method_18_code ddX6_isOwnWord := rf_decs_of (by decide +kernel)
def q11_P : rfP := (flX6,csX6,lcX6,spX6,[q10_M],[],[(152,0,1000)],([],[]))
def q11_U : rfU := []
set_option maxHeartbeats 8000000 in
def q11_N : List rfB := [(0,([(0,.inr (.inl [11])),(1,.inl ((0,0,0),none))],[],[]),(310,[]),0),
  (2,([(0,.inr (.inl [11])),(1,.inl ((0,0,0),none)),(2,.inl ((0,0,0),none))],[],[]),(308,[]),0),
  (54,([(0,.inr (.inl [11])),(1,.inl ((0,0,0),none)),(2,.inl ((0,0,0),none)),(3,.inl ((0,120,1),none))],[.inl ((0,255,1),none)],[]),(278,[]),0),
  (2,([(0,.inr (.inl [11])),(1,.inl ((0,0,0),none)),(2,.inl ((1,1,0),none)),(3,.inl ((0,120,1),none)),(4,.inl ((0,120,1),none))],[],[]),(270,[]),0),
  (54,([(0,.inr (.inl [11])),(1,.inl ((0,0,0),none)),(2,.inl ((1,1,0),none)),(3,.inl ((0,120,1),none)),(4,.inl ((0,120,1),none))],[.inl ((0,255,1),none)],[]),(240,[]),0),
  (2,([(0,.inr (.inl [11])),(1,.inl ((0,0,0),none)),(2,.inl ((2,2,0),none)),(3,.inl ((0,120,1),none)),(4,.inl ((0,120,1),none))],[],[]),(232,[]),0),
  (54,([(0,.inr (.inl [11])),(1,.inl ((0,0,0),none)),(2,.inl ((2,2,0),none)),(3,.inl ((0,120,1),none)),(4,.inl ((0,120,1),none))],[.inl ((0,255,1),none)],[]),(202,[]),0),
  (2,([(0,.inr (.inl [11])),(1,.inl ((0,0,0),none)),(2,.inl ((3,3,0),none)),(3,.inl ((0,120,1),none)),(4,.inl ((0,120,1),none))],[],[]),(194,[]),0),
  (54,([(0,.inr (.inl [11])),(1,.inl ((0,0,0),none)),(2,.inl ((3,3,0),none)),(3,.inl ((0,120,1),none)),(4,.inl ((0,120,1),none))],[.inl ((0,255,1),none)],[]),(164,[]),0),
  (2,([(0,.inr (.inl [11])),(1,.inl ((0,0,0),none)),(2,.inl ((4,4,0),none)),(3,.inl ((0,120,1),none)),(4,.inl ((0,120,1),none))],[],[]),(156,[]),0),
  (54,([(0,.inr (.inl [11])),(1,.inl ((0,0,0),none)),(2,.inl ((4,4,0),none)),(3,.inl ((0,120,1),none)),(4,.inl ((0,120,1),none))],[.inl ((0,255,1),none)],[]),(126,[]),0),
  (2,([(0,.inr (.inl [11])),(1,.inl ((0,0,0),none)),(2,.inl ((5,5,0),none)),(3,.inl ((0,120,1),none)),(4,.inl ((0,120,1),none))],[],[]),(118,[]),0),
  (54,([(0,.inr (.inl [11])),(1,.inl ((0,0,0),none)),(2,.inl ((5,5,0),none)),(3,.inl ((0,120,1),none)),(4,.inl ((0,120,1),none))],[.inl ((0,255,1),none)],[]),(88,[]),0),
  (2,([(0,.inr (.inl [11])),(1,.inl ((0,0,0),none)),(2,.inl ((6,6,0),none)),(3,.inl ((0,120,1),none)),(4,.inl ((0,120,1),none))],[],[]),(80,[]),0),
  (54,([(0,.inr (.inl [11])),(1,.inl ((0,0,0),none)),(2,.inl ((6,6,0),none)),(3,.inl ((0,120,1),none)),(4,.inl ((0,120,1),none))],[.inl ((0,255,1),none)],[]),(50,[]),0),
  (2,([(0,.inr (.inl [11])),(1,.inl ((0,0,0),none)),(2,.inl ((7,7,0),none)),(3,.inl ((0,120,1),none)),(4,.inl ((0,120,1),none))],[],[]),(42,[]),0),
  (54,([(0,.inr (.inl [11])),(1,.inl ((0,0,0),none)),(2,.inl ((7,7,0),none)),(3,.inl ((0,120,1),none)),(4,.inl ((0,120,1),none))],[.inl ((0,255,1),none)],[]),(12,[]),0),
  (2,([(0,.inr (.inl [11])),(1,.inl ((0,0,0),none)),(2,.inl ((8,8,0),none)),(3,.inl ((0,120,1),none)),(4,.inl ((0,120,1),none))],[],[]),(4,[]),0)]
set_option maxRecDepth 100000 in
theorem q11_ok : rf_chkB q11_P q11_U wLay q11_M ddX6_isOwnWord [(16,[0])] [] [0,2,54] 600 q11_N = true := by decide +kernel
set_option maxHeartbeats 4000000 in
theorem q11_met {G : rfG} (h : okG G) : rf_met G q11_M := rf_methodB h.1 (P := q11_P) (U := q11_U) (N := q11_N) ⟨wflT h flokX6, wcsT h csokX6, wlcT h lcokX6, spokX6 h, List.forall_mem_cons.mpr ⟨q10_met h, fun _ h => absurd h List.not_mem_nil⟩, fun _ h => absurd h List.not_mem_nil, List.forall_mem_cons.mpr ⟨fun M hM => Option.some.inj (show some q10_M = some M from hM) ▸ wlkV (lkX6_152 h) q10_M rfl rfl, fun _ h => absurd h List.not_mem_nil⟩, fun _ h => absurd h List.not_mem_nil, fun _ h => absurd h List.not_mem_nil⟩ dkX6_isOwnWord (by decide +kernel) (by rw [h.2.2.1]; exact q11_ok)
/-- NearSpell.Reader.isOwnWord -/
def q12_M : rfM := ((⟨"NearSpell$Reader", "isOwnWord", "(I)Z"⟩, prog_8_method_18_code, 5, (some .boolean)), (4,85), ([.inr (.inl [11]),.inl ((0,1,1),none)],[]), [], [(some (.inl ((0,0,0),none)),[],[]),(some (.inl ((1,1,0),none)),[],[])])
def q12_P : rfP := (flX6,csX6,lcX6,spX6,[q10_M],[],[(152,0,1000)],([],[]))
def q12_U : rfU := []
set_option maxHeartbeats 8000000 in
def q12_N : List rfB := [(0,([(0,.inr (.inl [11])),(1,.inl ((0,1,1),none))],[],[]),(310,[]),0),
  (2,([(0,.inr (.inl [11])),(1,.inl ((0,1,1),none)),(2,.inl ((0,0,0),none))],[],[]),(308,[]),0),
  (54,([(0,.inr (.inl [11])),(1,.inl ((0,1,1),none)),(2,.inl ((0,0,0),none)),(3,.inl ((0,120,1),none))],[.inl ((0,255,1),none)],[]),(278,[]),0),
  (2,([(0,.inr (.inl [11])),(1,.inl ((0,1,1),none)),(2,.inl ((1,1,0),none)),(3,.inl ((0,120,1),none)),(4,.inl ((0,120,1),none))],[],[]),(270,[]),0),
  (54,([(0,.inr (.inl [11])),(1,.inl ((0,1,1),none)),(2,.inl ((1,1,0),none)),(3,.inl ((0,120,1),none)),(4,.inl ((0,120,1),none))],[.inl ((0,255,1),none)],[]),(240,[]),0),
  (2,([(0,.inr (.inl [11])),(1,.inl ((0,1,1),none)),(2,.inl ((2,2,0),none)),(3,.inl ((0,120,1),none)),(4,.inl ((0,120,1),none))],[],[]),(232,[]),0),
  (54,([(0,.inr (.inl [11])),(1,.inl ((0,1,1),none)),(2,.inl ((2,2,0),none)),(3,.inl ((0,120,1),none)),(4,.inl ((0,120,1),none))],[.inl ((0,255,1),none)],[]),(202,[]),0),
  (2,([(0,.inr (.inl [11])),(1,.inl ((0,1,1),none)),(2,.inl ((3,3,0),none)),(3,.inl ((0,120,1),none)),(4,.inl ((0,120,1),none))],[],[]),(194,[]),0),
  (54,([(0,.inr (.inl [11])),(1,.inl ((0,1,1),none)),(2,.inl ((3,3,0),none)),(3,.inl ((0,120,1),none)),(4,.inl ((0,120,1),none))],[.inl ((0,255,1),none)],[]),(164,[]),0),
  (2,([(0,.inr (.inl [11])),(1,.inl ((0,1,1),none)),(2,.inl ((4,4,0),none)),(3,.inl ((0,120,1),none)),(4,.inl ((0,120,1),none))],[],[]),(156,[]),0),
  (54,([(0,.inr (.inl [11])),(1,.inl ((0,1,1),none)),(2,.inl ((4,4,0),none)),(3,.inl ((0,120,1),none)),(4,.inl ((0,120,1),none))],[.inl ((0,255,1),none)],[]),(126,[]),0),
  (2,([(0,.inr (.inl [11])),(1,.inl ((0,1,1),none)),(2,.inl ((5,5,0),none)),(3,.inl ((0,120,1),none)),(4,.inl ((0,120,1),none))],[],[]),(118,[]),0),
  (54,([(0,.inr (.inl [11])),(1,.inl ((0,1,1),none)),(2,.inl ((5,5,0),none)),(3,.inl ((0,120,1),none)),(4,.inl ((0,120,1),none))],[.inl ((0,255,1),none)],[]),(88,[]),0),
  (2,([(0,.inr (.inl [11])),(1,.inl ((0,1,1),none)),(2,.inl ((6,6,0),none)),(3,.inl ((0,120,1),none)),(4,.inl ((0,120,1),none))],[],[]),(80,[]),0),
  (54,([(0,.inr (.inl [11])),(1,.inl ((0,1,1),none)),(2,.inl ((6,6,0),none)),(3,.inl ((0,120,1),none)),(4,.inl ((0,120,1),none))],[.inl ((0,255,1),none)],[]),(50,[]),0),
  (2,([(0,.inr (.inl [11])),(1,.inl ((0,1,1),none)),(2,.inl ((7,7,0),none)),(3,.inl ((0,120,1),none)),(4,.inl ((0,120,1),none))],[],[]),(42,[]),0),
  (54,([(0,.inr (.inl [11])),(1,.inl ((0,1,1),none)),(2,.inl ((7,7,0),none)),(3,.inl ((0,120,1),none)),(4,.inl ((0,120,1),none))],[.inl ((0,255,1),none)],[]),(12,[]),0),
  (2,([(0,.inr (.inl [11])),(1,.inl ((0,1,1),none)),(2,.inl ((8,8,0),none)),(3,.inl ((0,120,1),none)),(4,.inl ((0,120,1),none))],[],[]),(4,[]),0)]
set_option maxRecDepth 100000 in
theorem q12_ok : rf_chkB q12_P q12_U wLay q12_M ddX6_isOwnWord [(16,[0])] [] [0,2,54] 600 q12_N = true := by decide +kernel
set_option maxHeartbeats 4000000 in
theorem q12_met {G : rfG} (h : okG G) : rf_met G q12_M := rf_methodB h.1 (P := q12_P) (U := q12_U) (N := q12_N) ⟨wflT h flokX6, wcsT h csokX6, wlcT h lcokX6, spokX6 h, List.forall_mem_cons.mpr ⟨q10_met h, fun _ h => absurd h List.not_mem_nil⟩, fun _ h => absurd h List.not_mem_nil, List.forall_mem_cons.mpr ⟨fun M hM => Option.some.inj (show some q10_M = some M from hM) ▸ wlkV (lkX6_152 h) q10_M rfl rfl, fun _ h => absurd h List.not_mem_nil⟩, fun _ h => absurd h List.not_mem_nil, fun _ h => absurd h List.not_mem_nil⟩ dkX6_isOwnWord (by decide +kernel) (by rw [h.2.2.1]; exact q12_ok)
/-- NearSpell.Reader.isOwnWord -/
def q13_M : rfM := ((⟨"NearSpell$Reader", "isOwnWord", "(I)Z"⟩, prog_8_method_18_code, 5, (some .boolean)), (4,85), ([.inr (.inl [11]),.inl ((0,2,1),none)],[]), [], [(some (.inl ((0,0,0),none)),[],[]),(some (.inl ((1,1,0),none)),[],[])])
def q13_P : rfP := (flX6,csX6,lcX6,spX6,[q10_M],[],[(152,0,1000)],([],[]))
def q13_U : rfU := []
set_option maxHeartbeats 8000000 in
def q13_N : List rfB := [(0,([(0,.inr (.inl [11])),(1,.inl ((0,2,1),none))],[],[]),(310,[]),0),
  (2,([(0,.inr (.inl [11])),(1,.inl ((0,2,1),none)),(2,.inl ((0,0,0),none))],[],[]),(308,[]),0),
  (54,([(0,.inr (.inl [11])),(1,.inl ((0,2,1),none)),(2,.inl ((0,0,0),none)),(3,.inl ((0,120,1),none))],[.inl ((0,255,1),none)],[]),(278,[]),0),
  (2,([(0,.inr (.inl [11])),(1,.inl ((0,2,1),none)),(2,.inl ((1,1,0),none)),(3,.inl ((0,120,1),none)),(4,.inl ((0,120,1),none))],[],[]),(270,[]),0),
  (54,([(0,.inr (.inl [11])),(1,.inl ((0,2,1),none)),(2,.inl ((1,1,0),none)),(3,.inl ((0,120,1),none)),(4,.inl ((0,120,1),none))],[.inl ((0,255,1),none)],[]),(240,[]),0),
  (2,([(0,.inr (.inl [11])),(1,.inl ((0,2,1),none)),(2,.inl ((2,2,0),none)),(3,.inl ((0,120,1),none)),(4,.inl ((0,120,1),none))],[],[]),(232,[]),0),
  (54,([(0,.inr (.inl [11])),(1,.inl ((0,2,1),none)),(2,.inl ((2,2,0),none)),(3,.inl ((0,120,1),none)),(4,.inl ((0,120,1),none))],[.inl ((0,255,1),none)],[]),(202,[]),0),
  (2,([(0,.inr (.inl [11])),(1,.inl ((0,2,1),none)),(2,.inl ((3,3,0),none)),(3,.inl ((0,120,1),none)),(4,.inl ((0,120,1),none))],[],[]),(194,[]),0),
  (54,([(0,.inr (.inl [11])),(1,.inl ((0,2,1),none)),(2,.inl ((3,3,0),none)),(3,.inl ((0,120,1),none)),(4,.inl ((0,120,1),none))],[.inl ((0,255,1),none)],[]),(164,[]),0),
  (2,([(0,.inr (.inl [11])),(1,.inl ((0,2,1),none)),(2,.inl ((4,4,0),none)),(3,.inl ((0,120,1),none)),(4,.inl ((0,120,1),none))],[],[]),(156,[]),0),
  (54,([(0,.inr (.inl [11])),(1,.inl ((0,2,1),none)),(2,.inl ((4,4,0),none)),(3,.inl ((0,120,1),none)),(4,.inl ((0,120,1),none))],[.inl ((0,255,1),none)],[]),(126,[]),0),
  (2,([(0,.inr (.inl [11])),(1,.inl ((0,2,1),none)),(2,.inl ((5,5,0),none)),(3,.inl ((0,120,1),none)),(4,.inl ((0,120,1),none))],[],[]),(118,[]),0),
  (54,([(0,.inr (.inl [11])),(1,.inl ((0,2,1),none)),(2,.inl ((5,5,0),none)),(3,.inl ((0,120,1),none)),(4,.inl ((0,120,1),none))],[.inl ((0,255,1),none)],[]),(88,[]),0),
  (2,([(0,.inr (.inl [11])),(1,.inl ((0,2,1),none)),(2,.inl ((6,6,0),none)),(3,.inl ((0,120,1),none)),(4,.inl ((0,120,1),none))],[],[]),(80,[]),0),
  (54,([(0,.inr (.inl [11])),(1,.inl ((0,2,1),none)),(2,.inl ((6,6,0),none)),(3,.inl ((0,120,1),none)),(4,.inl ((0,120,1),none))],[.inl ((0,255,1),none)],[]),(50,[]),0),
  (2,([(0,.inr (.inl [11])),(1,.inl ((0,2,1),none)),(2,.inl ((7,7,0),none)),(3,.inl ((0,120,1),none)),(4,.inl ((0,120,1),none))],[],[]),(42,[]),0),
  (54,([(0,.inr (.inl [11])),(1,.inl ((0,2,1),none)),(2,.inl ((7,7,0),none)),(3,.inl ((0,120,1),none)),(4,.inl ((0,120,1),none))],[.inl ((0,255,1),none)],[]),(12,[]),0),
  (2,([(0,.inr (.inl [11])),(1,.inl ((0,2,1),none)),(2,.inl ((8,8,0),none)),(3,.inl ((0,120,1),none)),(4,.inl ((0,120,1),none))],[],[]),(4,[]),0)]
set_option maxRecDepth 100000 in
theorem q13_ok : rf_chkB q13_P q13_U wLay q13_M ddX6_isOwnWord [(16,[0])] [] [0,2,54] 600 q13_N = true := by decide +kernel
set_option maxHeartbeats 4000000 in
theorem q13_met {G : rfG} (h : okG G) : rf_met G q13_M := rf_methodB h.1 (P := q13_P) (U := q13_U) (N := q13_N) ⟨wflT h flokX6, wcsT h csokX6, wlcT h lcokX6, spokX6 h, List.forall_mem_cons.mpr ⟨q10_met h, fun _ h => absurd h List.not_mem_nil⟩, fun _ h => absurd h List.not_mem_nil, List.forall_mem_cons.mpr ⟨fun M hM => Option.some.inj (show some q10_M = some M from hM) ▸ wlkV (lkX6_152 h) q10_M rfl rfl, fun _ h => absurd h List.not_mem_nil⟩, fun _ h => absurd h List.not_mem_nil, fun _ h => absurd h List.not_mem_nil⟩ dkX6_isOwnWord (by decide +kernel) (by rw [h.2.2.1]; exact q13_ok)
/-- NearSpell.Reader.isOwnWord -/
def q14_M : rfM := ((⟨"NearSpell$Reader", "isOwnWord", "(I)Z"⟩, prog_8_method_18_code, 5, (some .boolean)), (4,85), ([.inr (.inl [11]),.inl ((0,3,1),none)],[]), [], [(some (.inl ((0,0,0),none)),[],[]),(some (.inl ((1,1,0),none)),[],[])])
def q14_P : rfP := (flX6,csX6,lcX6,spX6,[q10_M],[],[(152,0,1000)],([],[]))
def q14_U : rfU := []
set_option maxHeartbeats 8000000 in
def q14_N : List rfB := [(0,([(0,.inr (.inl [11])),(1,.inl ((0,3,1),none))],[],[]),(310,[]),0),
  (2,([(0,.inr (.inl [11])),(1,.inl ((0,3,1),none)),(2,.inl ((0,0,0),none))],[],[]),(308,[]),0),
  (54,([(0,.inr (.inl [11])),(1,.inl ((0,3,1),none)),(2,.inl ((0,0,0),none)),(3,.inl ((0,120,1),none))],[.inl ((0,255,1),none)],[]),(278,[]),0),
  (2,([(0,.inr (.inl [11])),(1,.inl ((0,3,1),none)),(2,.inl ((1,1,0),none)),(3,.inl ((0,120,1),none)),(4,.inl ((0,120,1),none))],[],[]),(270,[]),0),
  (54,([(0,.inr (.inl [11])),(1,.inl ((0,3,1),none)),(2,.inl ((1,1,0),none)),(3,.inl ((0,120,1),none)),(4,.inl ((0,120,1),none))],[.inl ((0,255,1),none)],[]),(240,[]),0),
  (2,([(0,.inr (.inl [11])),(1,.inl ((0,3,1),none)),(2,.inl ((2,2,0),none)),(3,.inl ((0,120,1),none)),(4,.inl ((0,120,1),none))],[],[]),(232,[]),0),
  (54,([(0,.inr (.inl [11])),(1,.inl ((0,3,1),none)),(2,.inl ((2,2,0),none)),(3,.inl ((0,120,1),none)),(4,.inl ((0,120,1),none))],[.inl ((0,255,1),none)],[]),(202,[]),0),
  (2,([(0,.inr (.inl [11])),(1,.inl ((0,3,1),none)),(2,.inl ((3,3,0),none)),(3,.inl ((0,120,1),none)),(4,.inl ((0,120,1),none))],[],[]),(194,[]),0),
  (54,([(0,.inr (.inl [11])),(1,.inl ((0,3,1),none)),(2,.inl ((3,3,0),none)),(3,.inl ((0,120,1),none)),(4,.inl ((0,120,1),none))],[.inl ((0,255,1),none)],[]),(164,[]),0),
  (2,([(0,.inr (.inl [11])),(1,.inl ((0,3,1),none)),(2,.inl ((4,4,0),none)),(3,.inl ((0,120,1),none)),(4,.inl ((0,120,1),none))],[],[]),(156,[]),0),
  (54,([(0,.inr (.inl [11])),(1,.inl ((0,3,1),none)),(2,.inl ((4,4,0),none)),(3,.inl ((0,120,1),none)),(4,.inl ((0,120,1),none))],[.inl ((0,255,1),none)],[]),(126,[]),0),
  (2,([(0,.inr (.inl [11])),(1,.inl ((0,3,1),none)),(2,.inl ((5,5,0),none)),(3,.inl ((0,120,1),none)),(4,.inl ((0,120,1),none))],[],[]),(118,[]),0),
  (54,([(0,.inr (.inl [11])),(1,.inl ((0,3,1),none)),(2,.inl ((5,5,0),none)),(3,.inl ((0,120,1),none)),(4,.inl ((0,120,1),none))],[.inl ((0,255,1),none)],[]),(88,[]),0),
  (2,([(0,.inr (.inl [11])),(1,.inl ((0,3,1),none)),(2,.inl ((6,6,0),none)),(3,.inl ((0,120,1),none)),(4,.inl ((0,120,1),none))],[],[]),(80,[]),0),
  (54,([(0,.inr (.inl [11])),(1,.inl ((0,3,1),none)),(2,.inl ((6,6,0),none)),(3,.inl ((0,120,1),none)),(4,.inl ((0,120,1),none))],[.inl ((0,255,1),none)],[]),(50,[]),0),
  (2,([(0,.inr (.inl [11])),(1,.inl ((0,3,1),none)),(2,.inl ((7,7,0),none)),(3,.inl ((0,120,1),none)),(4,.inl ((0,120,1),none))],[],[]),(42,[]),0),
  (54,([(0,.inr (.inl [11])),(1,.inl ((0,3,1),none)),(2,.inl ((7,7,0),none)),(3,.inl ((0,120,1),none)),(4,.inl ((0,120,1),none))],[.inl ((0,255,1),none)],[]),(12,[]),0),
  (2,([(0,.inr (.inl [11])),(1,.inl ((0,3,1),none)),(2,.inl ((8,8,0),none)),(3,.inl ((0,120,1),none)),(4,.inl ((0,120,1),none))],[],[]),(4,[]),0)]
set_option maxRecDepth 100000 in
theorem q14_ok : rf_chkB q14_P q14_U wLay q14_M ddX6_isOwnWord [(16,[0])] [] [0,2,54] 600 q14_N = true := by decide +kernel
set_option maxHeartbeats 4000000 in
theorem q14_met {G : rfG} (h : okG G) : rf_met G q14_M := rf_methodB h.1 (P := q14_P) (U := q14_U) (N := q14_N) ⟨wflT h flokX6, wcsT h csokX6, wlcT h lcokX6, spokX6 h, List.forall_mem_cons.mpr ⟨q10_met h, fun _ h => absurd h List.not_mem_nil⟩, fun _ h => absurd h List.not_mem_nil, List.forall_mem_cons.mpr ⟨fun M hM => Option.some.inj (show some q10_M = some M from hM) ▸ wlkV (lkX6_152 h) q10_M rfl rfl, fun _ h => absurd h List.not_mem_nil⟩, fun _ h => absurd h List.not_mem_nil, fun _ h => absurd h List.not_mem_nil⟩ dkX6_isOwnWord (by decide +kernel) (by rw [h.2.2.1]; exact q14_ok)
/-- NearSpell.Reader.isOwnWord -/
def q15_M : rfM := ((⟨"NearSpell$Reader", "isOwnWord", "(I)Z"⟩, prog_8_method_18_code, 5, (some .boolean)), (4,85), ([.inr (.inl [11]),.inl ((0,9,1),none)],[]), [], [(some (.inl ((0,0,0),none)),[],[]),(some (.inl ((1,1,0),none)),[],[])])
def q15_P : rfP := (flX6,csX6,lcX6,spX6,[q10_M],[],[(152,0,1000)],([],[]))
def q15_U : rfU := []
set_option maxHeartbeats 8000000 in
def q15_N : List rfB := [(0,([(0,.inr (.inl [11])),(1,.inl ((0,9,1),none))],[],[]),(310,[]),0),
  (2,([(0,.inr (.inl [11])),(1,.inl ((0,9,1),none)),(2,.inl ((0,0,0),none))],[],[]),(308,[]),0),
  (54,([(0,.inr (.inl [11])),(1,.inl ((0,9,1),none)),(2,.inl ((0,0,0),none)),(3,.inl ((0,120,1),none))],[.inl ((0,255,1),none)],[]),(278,[]),0),
  (2,([(0,.inr (.inl [11])),(1,.inl ((0,9,1),none)),(2,.inl ((1,1,0),none)),(3,.inl ((0,120,1),none)),(4,.inl ((0,120,1),none))],[],[]),(270,[]),0),
  (54,([(0,.inr (.inl [11])),(1,.inl ((0,9,1),none)),(2,.inl ((1,1,0),none)),(3,.inl ((0,120,1),none)),(4,.inl ((0,120,1),none))],[.inl ((0,255,1),none)],[]),(240,[]),0),
  (2,([(0,.inr (.inl [11])),(1,.inl ((0,9,1),none)),(2,.inl ((2,2,0),none)),(3,.inl ((0,120,1),none)),(4,.inl ((0,120,1),none))],[],[]),(232,[]),0),
  (54,([(0,.inr (.inl [11])),(1,.inl ((0,9,1),none)),(2,.inl ((2,2,0),none)),(3,.inl ((0,120,1),none)),(4,.inl ((0,120,1),none))],[.inl ((0,255,1),none)],[]),(202,[]),0),
  (2,([(0,.inr (.inl [11])),(1,.inl ((0,9,1),none)),(2,.inl ((3,3,0),none)),(3,.inl ((0,120,1),none)),(4,.inl ((0,120,1),none))],[],[]),(194,[]),0),
  (54,([(0,.inr (.inl [11])),(1,.inl ((0,9,1),none)),(2,.inl ((3,3,0),none)),(3,.inl ((0,120,1),none)),(4,.inl ((0,120,1),none))],[.inl ((0,255,1),none)],[]),(164,[]),0),
  (2,([(0,.inr (.inl [11])),(1,.inl ((0,9,1),none)),(2,.inl ((4,4,0),none)),(3,.inl ((0,120,1),none)),(4,.inl ((0,120,1),none))],[],[]),(156,[]),0),
  (54,([(0,.inr (.inl [11])),(1,.inl ((0,9,1),none)),(2,.inl ((4,4,0),none)),(3,.inl ((0,120,1),none)),(4,.inl ((0,120,1),none))],[.inl ((0,255,1),none)],[]),(126,[]),0),
  (2,([(0,.inr (.inl [11])),(1,.inl ((0,9,1),none)),(2,.inl ((5,5,0),none)),(3,.inl ((0,120,1),none)),(4,.inl ((0,120,1),none))],[],[]),(118,[]),0),
  (54,([(0,.inr (.inl [11])),(1,.inl ((0,9,1),none)),(2,.inl ((5,5,0),none)),(3,.inl ((0,120,1),none)),(4,.inl ((0,120,1),none))],[.inl ((0,255,1),none)],[]),(88,[]),0),
  (2,([(0,.inr (.inl [11])),(1,.inl ((0,9,1),none)),(2,.inl ((6,6,0),none)),(3,.inl ((0,120,1),none)),(4,.inl ((0,120,1),none))],[],[]),(80,[]),0),
  (54,([(0,.inr (.inl [11])),(1,.inl ((0,9,1),none)),(2,.inl ((6,6,0),none)),(3,.inl ((0,120,1),none)),(4,.inl ((0,120,1),none))],[.inl ((0,255,1),none)],[]),(50,[]),0),
  (2,([(0,.inr (.inl [11])),(1,.inl ((0,9,1),none)),(2,.inl ((7,7,0),none)),(3,.inl ((0,120,1),none)),(4,.inl ((0,120,1),none))],[],[]),(42,[]),0),
  (54,([(0,.inr (.inl [11])),(1,.inl ((0,9,1),none)),(2,.inl ((7,7,0),none)),(3,.inl ((0,120,1),none)),(4,.inl ((0,120,1),none))],[.inl ((0,255,1),none)],[]),(12,[]),0),
  (2,([(0,.inr (.inl [11])),(1,.inl ((0,9,1),none)),(2,.inl ((8,8,0),none)),(3,.inl ((0,120,1),none)),(4,.inl ((0,120,1),none))],[],[]),(4,[]),0)]
set_option maxRecDepth 100000 in
theorem q15_ok : rf_chkB q15_P q15_U wLay q15_M ddX6_isOwnWord [(16,[0])] [] [0,2,54] 600 q15_N = true := by decide +kernel
set_option maxHeartbeats 4000000 in
theorem q15_met {G : rfG} (h : okG G) : rf_met G q15_M := rf_methodB h.1 (P := q15_P) (U := q15_U) (N := q15_N) ⟨wflT h flokX6, wcsT h csokX6, wlcT h lcokX6, spokX6 h, List.forall_mem_cons.mpr ⟨q10_met h, fun _ h => absurd h List.not_mem_nil⟩, fun _ h => absurd h List.not_mem_nil, List.forall_mem_cons.mpr ⟨fun M hM => Option.some.inj (show some q10_M = some M from hM) ▸ wlkV (lkX6_152 h) q10_M rfl rfl, fun _ h => absurd h List.not_mem_nil⟩, fun _ h => absurd h List.not_mem_nil, fun _ h => absurd h List.not_mem_nil⟩ dkX6_isOwnWord (by decide +kernel) (by rw [h.2.2.1]; exact q15_ok)
/-- NearSpell.Reader.isOwnWord -/
def q16_M : rfM := ((⟨"NearSpell$Reader", "isOwnWord", "(I)Z"⟩, prog_8_method_18_code, 5, (some .boolean)), (4,85), ([.inr (.inl [11]),.inl ((0,12,1),none)],[]), [], [(some (.inl ((0,0,0),none)),[],[]),(some (.inl ((1,1,0),none)),[],[])])
def q16_P : rfP := (flX6,csX6,lcX6,spX6,[q10_M],[],[(152,0,1000)],([],[]))
def q16_U : rfU := []
set_option maxHeartbeats 8000000 in
def q16_N : List rfB := [(0,([(0,.inr (.inl [11])),(1,.inl ((0,12,1),none))],[],[]),(310,[]),0),
  (2,([(0,.inr (.inl [11])),(1,.inl ((0,12,1),none)),(2,.inl ((0,0,0),none))],[],[]),(308,[]),0),
  (54,([(0,.inr (.inl [11])),(1,.inl ((0,12,1),none)),(2,.inl ((0,0,0),none)),(3,.inl ((0,120,1),none))],[.inl ((0,255,1),none)],[]),(278,[]),0),
  (2,([(0,.inr (.inl [11])),(1,.inl ((0,12,1),none)),(2,.inl ((1,1,0),none)),(3,.inl ((0,120,1),none)),(4,.inl ((0,120,1),none))],[],[]),(270,[]),0),
  (54,([(0,.inr (.inl [11])),(1,.inl ((0,12,1),none)),(2,.inl ((1,1,0),none)),(3,.inl ((0,120,1),none)),(4,.inl ((0,120,1),none))],[.inl ((0,255,1),none)],[]),(240,[]),0),
  (2,([(0,.inr (.inl [11])),(1,.inl ((0,12,1),none)),(2,.inl ((2,2,0),none)),(3,.inl ((0,120,1),none)),(4,.inl ((0,120,1),none))],[],[]),(232,[]),0),
  (54,([(0,.inr (.inl [11])),(1,.inl ((0,12,1),none)),(2,.inl ((2,2,0),none)),(3,.inl ((0,120,1),none)),(4,.inl ((0,120,1),none))],[.inl ((0,255,1),none)],[]),(202,[]),0),
  (2,([(0,.inr (.inl [11])),(1,.inl ((0,12,1),none)),(2,.inl ((3,3,0),none)),(3,.inl ((0,120,1),none)),(4,.inl ((0,120,1),none))],[],[]),(194,[]),0),
  (54,([(0,.inr (.inl [11])),(1,.inl ((0,12,1),none)),(2,.inl ((3,3,0),none)),(3,.inl ((0,120,1),none)),(4,.inl ((0,120,1),none))],[.inl ((0,255,1),none)],[]),(164,[]),0),
  (2,([(0,.inr (.inl [11])),(1,.inl ((0,12,1),none)),(2,.inl ((4,4,0),none)),(3,.inl ((0,120,1),none)),(4,.inl ((0,120,1),none))],[],[]),(156,[]),0),
  (54,([(0,.inr (.inl [11])),(1,.inl ((0,12,1),none)),(2,.inl ((4,4,0),none)),(3,.inl ((0,120,1),none)),(4,.inl ((0,120,1),none))],[.inl ((0,255,1),none)],[]),(126,[]),0),
  (2,([(0,.inr (.inl [11])),(1,.inl ((0,12,1),none)),(2,.inl ((5,5,0),none)),(3,.inl ((0,120,1),none)),(4,.inl ((0,120,1),none))],[],[]),(118,[]),0),
  (54,([(0,.inr (.inl [11])),(1,.inl ((0,12,1),none)),(2,.inl ((5,5,0),none)),(3,.inl ((0,120,1),none)),(4,.inl ((0,120,1),none))],[.inl ((0,255,1),none)],[]),(88,[]),0),
  (2,([(0,.inr (.inl [11])),(1,.inl ((0,12,1),none)),(2,.inl ((6,6,0),none)),(3,.inl ((0,120,1),none)),(4,.inl ((0,120,1),none))],[],[]),(80,[]),0),
  (54,([(0,.inr (.inl [11])),(1,.inl ((0,12,1),none)),(2,.inl ((6,6,0),none)),(3,.inl ((0,120,1),none)),(4,.inl ((0,120,1),none))],[.inl ((0,255,1),none)],[]),(50,[]),0),
  (2,([(0,.inr (.inl [11])),(1,.inl ((0,12,1),none)),(2,.inl ((7,7,0),none)),(3,.inl ((0,120,1),none)),(4,.inl ((0,120,1),none))],[],[]),(42,[]),0),
  (54,([(0,.inr (.inl [11])),(1,.inl ((0,12,1),none)),(2,.inl ((7,7,0),none)),(3,.inl ((0,120,1),none)),(4,.inl ((0,120,1),none))],[.inl ((0,255,1),none)],[]),(12,[]),0),
  (2,([(0,.inr (.inl [11])),(1,.inl ((0,12,1),none)),(2,.inl ((8,8,0),none)),(3,.inl ((0,120,1),none)),(4,.inl ((0,120,1),none))],[],[]),(4,[]),0)]
set_option maxRecDepth 100000 in
theorem q16_ok : rf_chkB q16_P q16_U wLay q16_M ddX6_isOwnWord [(16,[0])] [] [0,2,54] 600 q16_N = true := by decide +kernel
set_option maxHeartbeats 4000000 in
theorem q16_met {G : rfG} (h : okG G) : rf_met G q16_M := rf_methodB h.1 (P := q16_P) (U := q16_U) (N := q16_N) ⟨wflT h flokX6, wcsT h csokX6, wlcT h lcokX6, spokX6 h, List.forall_mem_cons.mpr ⟨q10_met h, fun _ h => absurd h List.not_mem_nil⟩, fun _ h => absurd h List.not_mem_nil, List.forall_mem_cons.mpr ⟨fun M hM => Option.some.inj (show some q10_M = some M from hM) ▸ wlkV (lkX6_152 h) q10_M rfl rfl, fun _ h => absurd h List.not_mem_nil⟩, fun _ h => absurd h List.not_mem_nil, fun _ h => absurd h List.not_mem_nil⟩ dkX6_isOwnWord (by decide +kernel) (by rw [h.2.2.1]; exact q16_ok)
/-- NearSpell.Reader.isOwnWord -/
def q17_M : rfM := ((⟨"NearSpell$Reader", "isOwnWord", "(I)Z"⟩, prog_8_method_18_code, 5, (some .boolean)), (4,85), ([.inr (.inl [11]),.inl ((0,13,1),none)],[]), [], [(some (.inl ((0,0,0),none)),[],[]),(some (.inl ((1,1,0),none)),[],[])])
def q17_P : rfP := (flX6,csX6,lcX6,spX6,[q10_M],[],[(152,0,1000)],([],[]))
def q17_U : rfU := []
set_option maxHeartbeats 8000000 in
def q17_N : List rfB := [(0,([(0,.inr (.inl [11])),(1,.inl ((0,13,1),none))],[],[]),(310,[]),0),
  (2,([(0,.inr (.inl [11])),(1,.inl ((0,13,1),none)),(2,.inl ((0,0,0),none))],[],[]),(308,[]),0),
  (54,([(0,.inr (.inl [11])),(1,.inl ((0,13,1),none)),(2,.inl ((0,0,0),none)),(3,.inl ((0,120,1),none))],[.inl ((0,255,1),none)],[]),(278,[]),0),
  (2,([(0,.inr (.inl [11])),(1,.inl ((0,13,1),none)),(2,.inl ((1,1,0),none)),(3,.inl ((0,120,1),none)),(4,.inl ((0,120,1),none))],[],[]),(270,[]),0),
  (54,([(0,.inr (.inl [11])),(1,.inl ((0,13,1),none)),(2,.inl ((1,1,0),none)),(3,.inl ((0,120,1),none)),(4,.inl ((0,120,1),none))],[.inl ((0,255,1),none)],[]),(240,[]),0),
  (2,([(0,.inr (.inl [11])),(1,.inl ((0,13,1),none)),(2,.inl ((2,2,0),none)),(3,.inl ((0,120,1),none)),(4,.inl ((0,120,1),none))],[],[]),(232,[]),0),
  (54,([(0,.inr (.inl [11])),(1,.inl ((0,13,1),none)),(2,.inl ((2,2,0),none)),(3,.inl ((0,120,1),none)),(4,.inl ((0,120,1),none))],[.inl ((0,255,1),none)],[]),(202,[]),0),
  (2,([(0,.inr (.inl [11])),(1,.inl ((0,13,1),none)),(2,.inl ((3,3,0),none)),(3,.inl ((0,120,1),none)),(4,.inl ((0,120,1),none))],[],[]),(194,[]),0),
  (54,([(0,.inr (.inl [11])),(1,.inl ((0,13,1),none)),(2,.inl ((3,3,0),none)),(3,.inl ((0,120,1),none)),(4,.inl ((0,120,1),none))],[.inl ((0,255,1),none)],[]),(164,[]),0),
  (2,([(0,.inr (.inl [11])),(1,.inl ((0,13,1),none)),(2,.inl ((4,4,0),none)),(3,.inl ((0,120,1),none)),(4,.inl ((0,120,1),none))],[],[]),(156,[]),0),
  (54,([(0,.inr (.inl [11])),(1,.inl ((0,13,1),none)),(2,.inl ((4,4,0),none)),(3,.inl ((0,120,1),none)),(4,.inl ((0,120,1),none))],[.inl ((0,255,1),none)],[]),(126,[]),0),
  (2,([(0,.inr (.inl [11])),(1,.inl ((0,13,1),none)),(2,.inl ((5,5,0),none)),(3,.inl ((0,120,1),none)),(4,.inl ((0,120,1),none))],[],[]),(118,[]),0),
  (54,([(0,.inr (.inl [11])),(1,.inl ((0,13,1),none)),(2,.inl ((5,5,0),none)),(3,.inl ((0,120,1),none)),(4,.inl ((0,120,1),none))],[.inl ((0,255,1),none)],[]),(88,[]),0),
  (2,([(0,.inr (.inl [11])),(1,.inl ((0,13,1),none)),(2,.inl ((6,6,0),none)),(3,.inl ((0,120,1),none)),(4,.inl ((0,120,1),none))],[],[]),(80,[]),0),
  (54,([(0,.inr (.inl [11])),(1,.inl ((0,13,1),none)),(2,.inl ((6,6,0),none)),(3,.inl ((0,120,1),none)),(4,.inl ((0,120,1),none))],[.inl ((0,255,1),none)],[]),(50,[]),0),
  (2,([(0,.inr (.inl [11])),(1,.inl ((0,13,1),none)),(2,.inl ((7,7,0),none)),(3,.inl ((0,120,1),none)),(4,.inl ((0,120,1),none))],[],[]),(42,[]),0),
  (54,([(0,.inr (.inl [11])),(1,.inl ((0,13,1),none)),(2,.inl ((7,7,0),none)),(3,.inl ((0,120,1),none)),(4,.inl ((0,120,1),none))],[.inl ((0,255,1),none)],[]),(12,[]),0),
  (2,([(0,.inr (.inl [11])),(1,.inl ((0,13,1),none)),(2,.inl ((8,8,0),none)),(3,.inl ((0,120,1),none)),(4,.inl ((0,120,1),none))],[],[]),(4,[]),0)]
set_option maxRecDepth 100000 in
theorem q17_ok : rf_chkB q17_P q17_U wLay q17_M ddX6_isOwnWord [(16,[0])] [] [0,2,54] 600 q17_N = true := by decide +kernel
set_option maxHeartbeats 4000000 in
theorem q17_met {G : rfG} (h : okG G) : rf_met G q17_M := rf_methodB h.1 (P := q17_P) (U := q17_U) (N := q17_N) ⟨wflT h flokX6, wcsT h csokX6, wlcT h lcokX6, spokX6 h, List.forall_mem_cons.mpr ⟨q10_met h, fun _ h => absurd h List.not_mem_nil⟩, fun _ h => absurd h List.not_mem_nil, List.forall_mem_cons.mpr ⟨fun M hM => Option.some.inj (show some q10_M = some M from hM) ▸ wlkV (lkX6_152 h) q10_M rfl rfl, fun _ h => absurd h List.not_mem_nil⟩, fun _ h => absurd h List.not_mem_nil, fun _ h => absurd h List.not_mem_nil⟩ dkX6_isOwnWord (by decide +kernel) (by rw [h.2.2.1]; exact q17_ok)
/-- NearSpell.Reader.takeLetters -/
def q18_M : rfM := ((⟨"NearSpell$Reader", "takeLetters", "()V"⟩, prog_8_method_16_code, 2, none), (5,109), ([.inr (.inl [11])],[]), [(11,4),(11,6),(11,7),(11,9),(11,10)], [(none,[],[((11,5),(0,17,1),none)])])
def ddX6_takeLetters : List (Nat × Instr × Nat) := [(0,.aload_n 0,1),(1,.iconst 0,1),(2,.putfield 96,3),(5,.aload_n 0,1),(6,.getfield 40,3),(9,.aload_n 0,1),(10,.getfield 37,3),(13,.if_icmp .ge 53,3),(16,.aload_n 0,1),(17,.aload_n 0,1),(18,.getfield 40,3),(21,.invokevirtual 127,3),(24,.ifCond .eq 42,3),(27,.aload_n 0,1),(28,.aload_n 0,1),(29,.getfield 96,3),(32,.bipush 27,2),(34,.imul,1),(35,.aload_n 0,1),(36,.getfield 9,3),(39,.aload_n 0,1),(40,.getfield 40,3),(43,.baload,1),(44,.iadd,1),(45,.bipush 97,2),(47,.isub,1),(48,.iconst 1,1),(49,.iadd,1),(50,.putfield 96,3),(53,.aload_n 0,1),(54,.dup,1),(55,.getfield 40,3),(58,.iconst 1,1),(59,.iadd,1),(60,.putfield 40,3),(63,.goto (-58),3),(66,.aload_n 0,1),(67,.getfield 40,3),(70,.aload_n 0,1),(71,.getfield 55,3),(74,.isub,1),(75,.bipush 8,2),(77,.if_icmp .le 9,3),(80,.aload_n 0,1),(81,.iconst 1,1),(82,.invokevirtual 62,3),(85,.return_,1),(86,.aload_n 0,1),(87,.bipush 14,2),(89,.putfield 49,3),(92,.iconst 0,1),(93,.istore_n 1,1),(94,.iload_n 1,1),(95,.bipush 14,2),(97,.if_icmp .ge 22,3),(100,.aload_n 0,1),(101,.iload_n 1,1),(102,.invokevirtual 147,3),(105,.ifCond .eq 8,3),(108,.aload_n 0,1),(109,.iload_n 1,1),(110,.putfield 49,3),(113,.iinc 1 1,3),(116,.goto (-22),3),(119,.return_,1)]
set_option maxRecDepth 100000 in
theorem dkX6_takeLetters : rf_decs prog_8_method_16_code ddX6_takeLetters := rf_decs_of (by decide +kernel)
def q18_P : rfP := (flX6,csX6,lcX6,spX6,[q4_M,q5_M,q17_M],[],[(62,1,6),(127,0,6),(147,2,6)],([],[]))
def q18_U : rfU := []
set_option maxHeartbeats 8000000 in
def q18_N : List rfB := [(0,([(0,.inr (.inl [11]))],[],[]),(54664,[0,0]),0),
  (5,([(0,.inr (.inl [11]))],[],[]),(54659,[(-34),0]),0),
  (66,([(0,.inr (.inl [11]))],[],[]),(226,[0,0]),0),
  (94,([(0,.inr (.inl [11])),(1,.inl ((0,14,1),none))],[],[((11,5),(0,14,1),none)]),(208,[0,(-14)]),0),
  (113,([(0,.inr (.inl [11])),(1,.inl ((0,13,1),none))],[],[((11,5),(0,14,1),none)]),(197,[0,(-14)]),0)]
set_option maxRecDepth 100000 in
theorem q18_ok : rf_chkB q18_P q18_U wLay q18_M ddX6_takeLetters [(21,[0]),(82,[1]),(102,[2])] [.inr (11,3),.inl 1] [0,5,66,94,113] 600 q18_N = true := by decide +kernel
set_option maxHeartbeats 4000000 in
theorem q18_met {G : rfG} (h : okG G) : rf_met G q18_M := rf_methodB h.1 (P := q18_P) (U := q18_U) (N := q18_N) ⟨wflT h flokX6, wcsT h csokX6, wlcT h lcokX6, spokX6 h, List.forall_mem_cons.mpr ⟨q4_met h, List.forall_mem_cons.mpr ⟨q5_met h, List.forall_mem_cons.mpr ⟨q17_met h, fun _ h => absurd h List.not_mem_nil⟩⟩⟩, fun _ h => absurd h List.not_mem_nil, List.forall_mem_cons.mpr ⟨fun M hM => Option.some.inj (show some q5_M = some M from hM) ▸ wlkV (lkX6_62 h) q5_M rfl rfl, List.forall_mem_cons.mpr ⟨fun M hM => Option.some.inj (show some q4_M = some M from hM) ▸ wlkV (lkX6_127 h) q4_M rfl rfl, List.forall_mem_cons.mpr ⟨fun M hM => Option.some.inj (show some q17_M = some M from hM) ▸ wlkV (lkX6_147 h) q17_M rfl rfl, fun _ h => absurd h List.not_mem_nil⟩⟩⟩, fun _ h => absurd h List.not_mem_nil, fun _ h => absurd h List.not_mem_nil⟩ dkX6_takeLetters (by decide +kernel) (by rw [h.2.2.1]; exact q18_ok)
/-- NearSpell.Reader.isDigit -/
def q19_M : rfM := ((⟨"NearSpell$Reader", "isDigit", "(I)Z"⟩, prog_8_method_20_code, 2, (some .boolean)), (0,0), ([.inr (.inl [11]),.inl ((0,1600,1),none)],[]), [], [(some (.inl ((1,1,0),none)),[(1,0,1599)],[((11,2),(1,1600,1),none)]),(some (.inl ((0,0,0),none)),[],[])])
def ddX6_isDigit : List (Nat × Instr × Nat) := [(0,.iload_n 1,1),(1,.aload_n 0,1),(2,.getfield 37,3),(5,.if_icmp .ge 29,3),(8,.aload_n 0,1),(9,.getfield 9,3),(12,.iload_n 1,1),(13,.baload,1),(14,.bipush 48,2),(16,.if_icmp .lt 18,3),(19,.aload_n 0,1),(20,.getfield 9,3),(23,.iload_n 1,1),(24,.baload,1),(25,.bipush 57,2),(27,.if_icmp .gt 7,3),(30,.iconst 1,1),(31,.goto 4,3),(34,.iconst 0,1),(35,.ireturn,1)]
set_option maxRecDepth 100000 in
theorem dkX6_isDigit : rf_decs prog_8_method_20_code ddX6_isDigit := rf_decs_of (by decide +kernel)
def q19_P : rfP := (flX6,csX6,lcX6,spX6,[],[],[],([],[]))
def q19_U : rfU := []
set_option maxHeartbeats 8000000 in
def q19_N : List rfB := [(0,([(0,.inr (.inl [11])),(1,.inl ((0,1600,1),none))],[],[]),(20,[]),0),
  (34,([(0,.inr (.inl [11])),(1,.inl ((0,1600,1),none))],[],[]),(1,[]),0)]
set_option maxRecDepth 100000 in
theorem q19_ok : rf_chkB q19_P q19_U wLay q19_M ddX6_isDigit [] [] [0,34] 600 q19_N = true := by decide +kernel
set_option maxHeartbeats 4000000 in
theorem q19_met {G : rfG} (h : okG G) : rf_met G q19_M := rf_methodB h.1 (P := q19_P) (U := q19_U) (N := q19_N) ⟨wflT h flokX6, wcsT h csokX6, wlcT h lcokX6, spokX6 h, fun _ h => absurd h List.not_mem_nil, fun _ h => absurd h List.not_mem_nil, fun _ h => absurd h List.not_mem_nil, fun _ h => absurd h List.not_mem_nil, fun _ h => absurd h List.not_mem_nil⟩ dkX6_isDigit (by decide +kernel) (by rw [h.2.2.1]; exact q19_ok)
/-- NearSpell.Reader.takeDigits -/
def q20_M : rfM := ((⟨"NearSpell$Reader", "takeDigits", "()V"⟩, prog_8_method_17_code, 1, none), (1,21), ([.inr (.inl [11])],[]), [(11,4),(11,6),(11,7),(11,9),(11,10)], [(none,[],[((11,5),(15,17,2),none)])])
def ddX6_takeDigits : List (Nat × Instr × Nat) := [(0,.aload_n 0,1),(1,.iconst 0,1),(2,.putfield 96,3),(5,.aload_n 0,1),(6,.getfield 40,3),(9,.aload_n 0,1),(10,.getfield 37,3),(13,.if_icmp .ge 51,3),(16,.aload_n 0,1),(17,.aload_n 0,1),(18,.getfield 40,3),(21,.invokevirtual 133,3),(24,.ifCond .eq 40,3),(27,.aload_n 0,1),(28,.aload_n 0,1),(29,.getfield 96,3),(32,.bipush 10,2),(34,.imul,1),(35,.aload_n 0,1),(36,.getfield 9,3),(39,.aload_n 0,1),(40,.getfield 40,3),(43,.baload,1),(44,.iadd,1),(45,.bipush 48,2),(47,.isub,1),(48,.putfield 96,3),(51,.aload_n 0,1),(52,.dup,1),(53,.getfield 40,3),(56,.iconst 1,1),(57,.iadd,1),(58,.putfield 40,3),(61,.goto (-56),3),(64,.aload_n 0,1),(65,.getfield 40,3),(68,.aload_n 0,1),(69,.getfield 55,3),(72,.isub,1),(73,.iconst 4,1),(74,.if_icmp .gt 14,3),(77,.aload_n 0,1),(78,.aload_n 0,1),(79,.getfield 40,3),(82,.invokevirtual 127,3),(85,.ifCond .eq 9,3),(88,.aload_n 0,1),(89,.iconst 1,1),(90,.invokevirtual 62,3),(93,.return_,1),(94,.aload_n 0,1),(95,.bipush 15,2),(97,.putfield 49,3),(100,.return_,1)]
set_option maxRecDepth 100000 in
theorem dkX6_takeDigits : rf_decs prog_8_method_17_code ddX6_takeDigits := rf_decs_of (by decide +kernel)
def q20_P : rfP := (flX6,csX6,lcX6,spX6,[q19_M,q4_M,q5_M],[],[(62,2,6),(127,1,6),(133,0,6)],([],[]))
def q20_U : rfU := []
set_option maxHeartbeats 8000000 in
def q20_N : List rfB := [(0,([(0,.inr (.inl [11]))],[],[]),(51256,[0]),0),
  (5,([(0,.inr (.inl [11]))],[],[]),(51251,[(-32)]),0),
  (64,([(0,.inr (.inl [11]))],[],[]),(20,[0]),0),
  (88,([(0,.inr (.inl [11]))],[],[]),(3,[0]),0)]
set_option maxRecDepth 100000 in
theorem q20_ok : rf_chkB q20_P q20_U wLay q20_M ddX6_takeDigits [(21,[0]),(82,[1]),(90,[2])] [.inr (11,3)] [0,5,64,88] 600 q20_N = true := by decide +kernel
set_option maxHeartbeats 4000000 in
theorem q20_met {G : rfG} (h : okG G) : rf_met G q20_M := rf_methodB h.1 (P := q20_P) (U := q20_U) (N := q20_N) ⟨wflT h flokX6, wcsT h csokX6, wlcT h lcokX6, spokX6 h, List.forall_mem_cons.mpr ⟨q19_met h, List.forall_mem_cons.mpr ⟨q4_met h, List.forall_mem_cons.mpr ⟨q5_met h, fun _ h => absurd h List.not_mem_nil⟩⟩⟩, fun _ h => absurd h List.not_mem_nil, List.forall_mem_cons.mpr ⟨fun M hM => Option.some.inj (show some q5_M = some M from hM) ▸ wlkV (lkX6_62 h) q5_M rfl rfl, List.forall_mem_cons.mpr ⟨fun M hM => Option.some.inj (show some q4_M = some M from hM) ▸ wlkV (lkX6_127 h) q4_M rfl rfl, List.forall_mem_cons.mpr ⟨fun M hM => Option.some.inj (show some q19_M = some M from hM) ▸ wlkV (lkX6_133 h) q19_M rfl rfl, fun _ h => absurd h List.not_mem_nil⟩⟩⟩, fun _ h => absurd h List.not_mem_nil, fun _ h => absurd h List.not_mem_nil⟩ dkX6_takeDigits (by decide +kernel) (by rw [h.2.2.1]; exact q20_ok)
/-- java/lang/String.isLatin1 -/
def q21_M : rfM := ((⟨"java/lang/String", "isLatin1", "()Z"⟩, prog_18_method_154_code, 1, (some .boolean)), (0,0), ([.inr (.inr 3)],[]), [], [(some (.inl ((1,1,0),none)),[],[])])
def q21_P : rfP := (flJ0,csJ0,lcJ0,spJ0,[],[],[],([],[]))
def q21_U : rfU := []
set_option maxHeartbeats 8000000 in
def q21_N : List rfB := [(0,([(0,.inr (.inr 3))],[],[]),(7,[]),0)]
set_option maxRecDepth 100000 in
theorem q21_ok : rf_chkB q21_P q21_U wLay q21_M ddJ0_isLatin1_aae02 [] [] [0] 600 q21_N = true := by decide +kernel
set_option maxHeartbeats 4000000 in
theorem q21_met {G : rfG} (h : okG G) : rf_met G q21_M := rf_methodB h.1 (P := q21_P) (U := q21_U) (N := q21_N) ⟨wflT h flokJ0, wcsT h csokJ0, wlcT h lcokJ0, spokJ0 h, fun _ h => absurd h List.not_mem_nil, fun _ h => absurd h List.not_mem_nil, fun _ h => absurd h List.not_mem_nil, fun _ h => absurd h List.not_mem_nil, fun _ h => absurd h List.not_mem_nil⟩ dkJ0_isLatin1_aae02 (by decide +kernel) (by rw [h.2.2.1]; exact q21_ok)
/-- java/lang/String.coder -/
def q22_M : rfM := ((⟨"java/lang/String", "coder", "()B"⟩, prog_18_method_152_code, 1, (some .byte)), (0,0), ([.inr (.inr 3)],[]), [], [(some (.inl ((0,0,0),none)),[],[])])
def ddJ0_coder_7d493 : List (Nat × Instr × Nat) := [(0,.getstatic 38,3),(3,.ifCond .eq 10,3),(6,.aload_n 0,1),(7,.getfield 15,3),(10,.goto 4,3),(13,.iconst 1,1),(14,.ireturn,1)]
set_option maxRecDepth 100000 in
theorem dkJ0_coder_7d493 : rf_decs prog_18_method_152_code ddJ0_coder_7d493 := rf_decs_of (by decide +kernel)
def q22_P : rfP := (flJ0,csJ0,lcJ0,spJ0,[],[],[],([],[]))
def q22_U : rfU := []
set_option maxHeartbeats 8000000 in
def q22_N : List rfB := [(0,([(0,.inr (.inr 3))],[],[]),(5,[]),0)]
set_option maxRecDepth 100000 in
theorem q22_ok : rf_chkB q22_P q22_U wLay q22_M ddJ0_coder_7d493 [] [] [0] 600 q22_N = true := by decide +kernel
set_option maxHeartbeats 4000000 in
theorem q22_met {G : rfG} (h : okG G) : rf_met G q22_M := rf_methodB h.1 (P := q22_P) (U := q22_U) (N := q22_N) ⟨wflT h flokJ0, wcsT h csokJ0, wlcT h lcokJ0, spokJ0 h, fun _ h => absurd h List.not_mem_nil, fun _ h => absurd h List.not_mem_nil, fun _ h => absurd h List.not_mem_nil, fun _ h => absurd h List.not_mem_nil, fun _ h => absurd h List.not_mem_nil⟩ dkJ0_coder_7d493 (by decide +kernel) (by rw [h.2.2.1]; exact q22_ok)
/-- java/lang/String.length -/
def q23_M : rfM := ((⟨"java/lang/String", "length", "()I"⟩, prog_18_method_54_code, 1, (some .int)), (1,20), ([.inr (.inr 3)],[]), [], [(some (.inl ((0,11,1),none)),[],[])])
def ddJ0_length_8abf5 : List (Nat × Instr × Nat) := [(0,.aload_n 0,1),(1,.getfield 9,3),(4,.arraylength,1),(5,.aload_n 0,1),(6,.invokevirtual 335,3),(9,.ishr,1),(10,.ireturn,1)]
set_option maxRecDepth 100000 in
theorem dkJ0_length_8abf5 : rf_decs prog_18_method_54_code ddJ0_length_8abf5 := rf_decs_of (by decide +kernel)
def q23_P : rfP := (flJ0,csJ0,lcJ0,spJ0,[q22_M],[],[(335,0,1000)],([],[]))
def q23_U : rfU := []
set_option maxHeartbeats 8000000 in
def q23_N : List rfB := [(0,([(0,.inr (.inr 3))],[],[]),(6,[]),0)]
set_option maxRecDepth 100000 in
theorem q23_ok : rf_chkB q23_P q23_U wLay q23_M ddJ0_length_8abf5 [(6,[0])] [] [0] 600 q23_N = true := by decide +kernel
set_option maxHeartbeats 4000000 in
theorem q23_met {G : rfG} (h : okG G) : rf_met G q23_M := rf_methodB h.1 (P := q23_P) (U := q23_U) (N := q23_N) ⟨wflT h flokJ0, wcsT h csokJ0, wlcT h lcokJ0, spokJ0 h, List.forall_mem_cons.mpr ⟨q22_met h, fun _ h => absurd h List.not_mem_nil⟩, fun _ h => absurd h List.not_mem_nil, List.forall_mem_cons.mpr ⟨fun M hM => Option.some.inj (show some q22_M = some M from hM) ▸ wlkV (lkJ0_335 h) q22_M rfl rfl, fun _ h => absurd h List.not_mem_nil⟩, fun _ h => absurd h List.not_mem_nil, fun _ h => absurd h List.not_mem_nil⟩ dkJ0_length_8abf5 (by decide +kernel) (by rw [h.2.2.1]; exact q23_ok)
/-- java/lang/StringLatin1.canEncode -/
def q24_M : rfM := ((⟨"java/lang/StringLatin1", "canEncode", "(I)Z"⟩, prog_19_method_4_code, 1, (some .boolean)), (0,0), ([.inl ((0,65535,1),none)],[]), [], [(some (.inl ((1,1,0),none)),[(0,0,255)],[]),(some (.inl ((0,0,0),none)),[(0,256,65535)],[])])
def ddJ1_canEncode_9a6ad : List (Nat × Instr × Nat) := [(0,.iload_n 0,1),(1,.ifCond .lt 14,3),(4,.iload_n 0,1),(5,.sipush 255,3),(8,.if_icmp .gt 7,3),(11,.iconst 1,1),(12,.goto 4,3),(15,.iconst 0,1),(16,.ireturn,1)]
set_option maxRecDepth 100000 in
theorem dkJ1_canEncode_9a6ad : rf_decs prog_19_method_4_code ddJ1_canEncode_9a6ad := rf_decs_of (by decide +kernel)
def q24_P : rfP := (flJ1,csJ1,lcJ1,spJ1,[],[],[],([],[]))
def q24_U : rfU := []
set_option maxHeartbeats 8000000 in
def q24_N : List rfB := [(0,([(0,.inl ((0,65535,1),none))],[],[]),(9,[]),0)]
set_option maxRecDepth 100000 in
theorem q24_ok : rf_chkB q24_P q24_U wLay q24_M ddJ1_canEncode_9a6ad [] [] [0] 600 q24_N = true := by decide +kernel
set_option maxHeartbeats 4000000 in
theorem q24_met {G : rfG} (h : okG G) : rf_met G q24_M := rf_methodB h.1 (P := q24_P) (U := q24_U) (N := q24_N) ⟨wflT h flokJ1, wcsT h csokJ1, wlcT h lcokJ1, spokJ1 h, fun _ h => absurd h List.not_mem_nil, fun _ h => absurd h List.not_mem_nil, fun _ h => absurd h List.not_mem_nil, fun _ h => absurd h List.not_mem_nil, fun _ h => absurd h List.not_mem_nil⟩ dkJ1_canEncode_9a6ad (by decide +kernel) (by rw [h.2.2.1]; exact q24_ok)
/-- java/lang/StringLatin1.indexOfChar -/
def q25_M : rfM := ((⟨"java/lang/StringLatin1", "indexOfChar", "([BIII)I"⟩, prog_19_method_23_code, 6, (some .int)), (0,0), ([.inr (.inr 5),.inl ((0,255,1),none),.inl ((0,0,0),none),.inl ((1,11,1),none)],[]), [], [(some (.inl (((-1),10,1),none)),[],[])])
def ddJ1_indexOfChar_4cfef : List (Nat × Instr × Nat) := [(0,.iload_n 1,1),(1,.i2b,1),(2,.istore 4,2),(4,.iload_n 2,1),(5,.istore 5,2),(7,.iload 5,2),(9,.iload_n 3,1),(10,.if_icmp .ge 21,3),(13,.aload_n 0,1),(14,.iload 5,2),(16,.baload,1),(17,.iload 4,2),(19,.if_icmp .ne 6,3),(22,.iload 5,2),(24,.ireturn,1),(25,.iinc 5 1,3),(28,.goto (-21),3),(31,.iconst (-1),1),(32,.ireturn,1)]
set_option maxRecDepth 100000 in
theorem dkJ1_indexOfChar_4cfef : rf_decs prog_19_method_23_code ddJ1_indexOfChar_4cfef := rf_decs_of (by decide +kernel)
def q25_P : rfP := (flJ1,csJ1,lcJ1,spJ1,[],[],[],([],[]))
def q25_U : rfU := []
set_option maxHeartbeats 8000000 in
def q25_N : List rfB := [(0,([(0,.inr (.inr 5)),(1,.inl ((0,255,1),none)),(2,.inl ((0,0,0),none)),(3,.inl ((1,11,1),none))],[],[]),(140,[0]),0),
  (7,([(0,.inr (.inr 5)),(1,.inl ((0,255,1),none)),(2,.inl ((0,0,0),none)),(3,.inl ((1,11,1),none)),(4,.inl (((-128),127,1),none)),(5,.inl ((0,11,1),none))],[],[]),(133,[(-11)]),0)]
set_option maxRecDepth 100000 in
theorem q25_ok : rf_chkB q25_P q25_U wLay q25_M ddJ1_indexOfChar_4cfef [] [.inl 5] [0,7] 600 q25_N = true := by decide +kernel
set_option maxHeartbeats 4000000 in
theorem q25_met {G : rfG} (h : okG G) : rf_met G q25_M := rf_methodB h.1 (P := q25_P) (U := q25_U) (N := q25_N) ⟨wflT h flokJ1, wcsT h csokJ1, wlcT h lcokJ1, spokJ1 h, fun _ h => absurd h List.not_mem_nil, fun _ h => absurd h List.not_mem_nil, fun _ h => absurd h List.not_mem_nil, fun _ h => absurd h List.not_mem_nil, fun _ h => absurd h List.not_mem_nil⟩ dkJ1_indexOfChar_4cfef (by decide +kernel) (by rw [h.2.2.1]; exact q25_ok)
/-- java/lang/StringLatin1.indexOf -/
def q26_M : rfM := ((⟨"java/lang/StringLatin1", "indexOf", "([BIII)I"⟩, prog_19_method_22_code, 4, (some .int)), (1,25), ([.inr (.inr 5),.inl ((0,65535,1),none),.inl ((0,0,0),none),.inl ((0,11,1),none)],[]), [], [(some (.inl (((-1),10,1),none)),[],[])])
def ddJ1_indexOf_4cfef : List (Nat × Instr × Nat) := [(0,.iload_n 1,1),(1,.invokestatic 88,3),(4,.ifCond .ne 5,3),(7,.iconst (-1),1),(8,.ireturn,1),(9,.iload_n 2,1),(10,.iconst 0,1),(11,.invokestatic 92,3),(14,.istore_n 2,1),(15,.iload_n 3,1),(16,.aload_n 0,1),(17,.arraylength,1),(18,.invokestatic 38,3),(21,.istore_n 3,1),(22,.iload_n 2,1),(23,.iload_n 3,1),(24,.if_icmp .lt 5,3),(27,.iconst (-1),1),(28,.ireturn,1),(29,.aload_n 0,1),(30,.iload_n 1,1),(31,.iload_n 2,1),(32,.iload_n 3,1),(33,.invokestatic 95,3),(36,.ireturn,1)]
set_option maxRecDepth 100000 in
theorem dkJ1_indexOf_4cfef : rf_decs prog_19_method_22_code ddJ1_indexOf_4cfef := rf_decs_of (by decide +kernel)
def q26_P : rfP := (flJ1,csJ1,lcJ1,spJ1,[q24_M,q25_M],[(88,0),(95,1)],[],([],[(38,1),(92,0)]))
def q26_U : rfU := []
set_option maxHeartbeats 8000000 in
def q26_N : List rfB := [(0,([(0,.inr (.inr 5)),(1,.inl ((0,65535,1),none)),(2,.inl ((0,0,0),none)),(3,.inl ((0,11,1),none))],[],[]),(25,[]),0)]
set_option maxRecDepth 100000 in
theorem q26_ok : rf_chkB q26_P q26_U wLay q26_M ddJ1_indexOf_4cfef [(1,[0]),(33,[1])] [] [0] 600 q26_N = true := by decide +kernel
set_option maxHeartbeats 4000000 in
theorem q26_met {G : rfG} (h : okG G) : rf_met G q26_M := rf_methodB h.1 (P := q26_P) (U := q26_U) (N := q26_N) ⟨wflT h flokJ1, wcsT h csokJ1, wlcT h lcokJ1, spokJ1 h, List.forall_mem_cons.mpr ⟨q24_met h, List.forall_mem_cons.mpr ⟨q25_met h, fun _ h => absurd h List.not_mem_nil⟩⟩, List.forall_mem_cons.mpr ⟨fun M hM => Option.some.inj (show some q24_M = some M from hM) ▸ wlkS (lkJ1_88 h) q24_M rfl rfl, List.forall_mem_cons.mpr ⟨fun M hM => Option.some.inj (show some q25_M = some M from hM) ▸ wlkS (lkJ1_95 h) q25_M rfl rfl, fun _ h => absurd h List.not_mem_nil⟩⟩, fun _ h => absurd h List.not_mem_nil, fun _ h => absurd h List.not_mem_nil, List.forall_mem_cons.mpr ⟨⟨wmT h (wm130), fun h => absurd h (by decide), fun _ => ⟨wmT h (wm654), wmT h (wm557), wmT h (wm558)⟩, fun h => absurd h (by decide)⟩, List.forall_mem_cons.mpr ⟨⟨wmT h (wm130), fun _ => ⟨wmT h (wm651), wmT h (wm652), wmT h (wm653)⟩, fun h => absurd h (by decide), fun h => absurd h (by decide)⟩, fun _ h => absurd h List.not_mem_nil⟩⟩⟩ dkJ1_indexOf_4cfef (by decide +kernel) (by rw [h.2.2.1]; exact q26_ok)
/-- java/lang/String.indexOf -/
def q27_M : rfM := ((⟨"java/lang/String", "indexOf", "(II)I"⟩, prog_18_method_80_code, 3, (some .int)), (2,48), ([.inr (.inr 3),.inl ((0,65535,1),none),.inl ((0,0,0),none)],[]), [], [(some (.inl (((-1),10,1),none)),[],[])])
def ddJ0_indexOf_7cf53 : List (Nat × Instr × Nat) := [(0,.aload_n 0,1),(1,.invokevirtual 492,3),(4,.ifCond .eq 19,3),(7,.aload_n 0,1),(8,.getfield 9,3),(11,.iload_n 1,1),(12,.iload_n 2,1),(13,.aload_n 0,1),(14,.invokevirtual 505,3),(17,.invokestatic 637,3),(20,.goto 16,3),(23,.aload_n 0,1),(24,.getfield 9,3),(27,.iload_n 1,1),(28,.iload_n 2,1),(29,.aload_n 0,1),(30,.invokevirtual 505,3),(33,.invokestatic 640,3),(36,.ireturn,1)]
set_option maxRecDepth 100000 in
theorem dkJ0_indexOf_7cf53 : rf_decs prog_18_method_80_code ddJ0_indexOf_7cf53 := rf_decs_of (by decide +kernel)
def q27_P : rfP := (flJ0,csJ0,lcJ0,spJ0,[q21_M,q23_M,q26_M],[(637,2)],[(492,0,1000),(505,1,1000)],([],[]))
def q27_U : rfU := []
set_option maxHeartbeats 8000000 in
def q27_N : List rfB := [(0,([(0,.inr (.inr 3)),(1,.inl ((0,65535,1),none)),(2,.inl ((0,0,0),none))],[],[]),(11,[]),0)]
set_option maxRecDepth 100000 in
theorem q27_ok : rf_chkB q27_P q27_U wLay q27_M ddJ0_indexOf_7cf53 [(1,[0]),(14,[1]),(17,[2])] [] [0] 600 q27_N = true := by decide +kernel
set_option maxHeartbeats 4000000 in
theorem q27_met {G : rfG} (h : okG G) : rf_met G q27_M := rf_methodB h.1 (P := q27_P) (U := q27_U) (N := q27_N) ⟨wflT h flokJ0, wcsT h csokJ0, wlcT h lcokJ0, spokJ0 h, List.forall_mem_cons.mpr ⟨q21_met h, List.forall_mem_cons.mpr ⟨q23_met h, List.forall_mem_cons.mpr ⟨q26_met h, fun _ h => absurd h List.not_mem_nil⟩⟩⟩, List.forall_mem_cons.mpr ⟨fun M hM => Option.some.inj (show some q26_M = some M from hM) ▸ wlkS (lkJ0_637 h) q26_M rfl rfl, fun _ h => absurd h List.not_mem_nil⟩, List.forall_mem_cons.mpr ⟨fun M hM => Option.some.inj (show some q21_M = some M from hM) ▸ wlkV (lkJ0_492 h) q21_M rfl rfl, List.forall_mem_cons.mpr ⟨fun M hM => Option.some.inj (show some q23_M = some M from hM) ▸ wlkV (lkJ0_505 h) q23_M rfl rfl, fun _ h => absurd h List.not_mem_nil⟩⟩, fun _ h => absurd h List.not_mem_nil, fun _ h => absurd h List.not_mem_nil⟩ dkJ0_indexOf_7cf53 (by decide +kernel) (by rw [h.2.2.1]; exact q27_ok)
/-- java/lang/String.indexOf -/
def q28_M : rfM := ((⟨"java/lang/String", "indexOf", "(I)I"⟩, prog_18_method_79_code, 2, (some .int)), (3,70), ([.inr (.inr 3),.inl ((0,65535,1),none)],[]), [], [(some (.inl (((-1),10,1),none)),[],[])])
def ddJ0_indexOf_0f7a4 : List (Nat × Instr × Nat) := [(0,.aload_n 0,1),(1,.iload_n 1,1),(2,.iconst 0,1),(3,.invokevirtual 633,3),(6,.ireturn,1)]
set_option maxRecDepth 100000 in
theorem dkJ0_indexOf_0f7a4 : rf_decs prog_18_method_79_code ddJ0_indexOf_0f7a4 := rf_decs_of (by decide +kernel)
def q28_P : rfP := (flJ0,csJ0,lcJ0,spJ0,[q27_M],[],[(633,0,1000)],([],[]))
def q28_U : rfU := []
set_option maxHeartbeats 8000000 in
def q28_N : List rfB := [(0,([(0,.inr (.inr 3)),(1,.inl ((0,65535,1),none))],[],[]),(4,[]),0)]
set_option maxRecDepth 100000 in
theorem q28_ok : rf_chkB q28_P q28_U wLay q28_M ddJ0_indexOf_0f7a4 [(3,[0])] [] [0] 600 q28_N = true := by decide +kernel
set_option maxHeartbeats 4000000 in
theorem q28_met {G : rfG} (h : okG G) : rf_met G q28_M := rf_methodB h.1 (P := q28_P) (U := q28_U) (N := q28_N) ⟨wflT h flokJ0, wcsT h csokJ0, wlcT h lcokJ0, spokJ0 h, List.forall_mem_cons.mpr ⟨q27_met h, fun _ h => absurd h List.not_mem_nil⟩, fun _ h => absurd h List.not_mem_nil, List.forall_mem_cons.mpr ⟨fun M hM => Option.some.inj (show some q27_M = some M from hM) ▸ wlkV (lkJ0_633 h) q27_M rfl rfl, fun _ h => absurd h List.not_mem_nil⟩, fun _ h => absurd h List.not_mem_nil, fun _ h => absurd h List.not_mem_nil⟩ dkJ0_indexOf_0f7a4 (by decide +kernel) (by rw [h.2.2.1]; exact q28_ok)
/-- NearSpell.Reader.takeToken -/
def q29_M : rfM := ((⟨"NearSpell$Reader", "takeToken", "()V"⟩, prog_8_method_15_code, 1, none), (6,130), ([.inr (.inl [11])],[]), [(11,4),(11,5),(11,6),(11,7),(11,9),(11,10)], [(none,[],[])])
def ddX6_takeToken : List (Nat × Instr × Nat) := [(0,.aload_n 0,1),(1,.getfield 19,3),(4,.ifCond .eq 4,3),(7,.return_,1),(8,.aload_n 0,1),(9,.getfield 40,3),(12,.aload_n 0,1),(13,.getfield 37,3),(16,.if_icmp .ge 44,3),(19,.aload_n 0,1),(20,.getfield 9,3),(23,.aload_n 0,1),(24,.getfield 40,3),(27,.baload,1),(28,.bipush 32,2),(30,.if_icmp .eq 17,3),(33,.aload_n 0,1),(34,.getfield 9,3),(37,.aload_n 0,1),(38,.getfield 40,3),(41,.baload,1),(42,.bipush 10,2),(44,.if_icmp .ne 16,3),(47,.aload_n 0,1),(48,.dup,1),(49,.getfield 40,3),(52,.iconst 1,1),(53,.iadd,1),(54,.putfield 40,3),(57,.goto (-49),3),(60,.aload_n 0,1),(61,.aload_n 0,1),(62,.getfield 40,3),(65,.putfield 55,3),(68,.aload_n 0,1),(69,.getfield 40,3),(72,.aload_n 0,1),(73,.getfield 37,3),(76,.if_icmp .lt 12,3),(79,.aload_n 0,1),(80,.bipush 16,2),(82,.putfield 49,3),(85,.goto 100,3),(88,.aload_n 0,1),(89,.aload_n 0,1),(90,.getfield 40,3),(93,.invokevirtual 127,3),(96,.ifCond .eq 10,3),(99,.aload_n 0,1),(100,.invokevirtual 130,3),(103,.goto 82,3),(106,.aload_n 0,1),(107,.aload_n 0,1),(108,.getfield 40,3),(111,.invokevirtual 133,3),(114,.ifCond .eq 10,3),(117,.aload_n 0,1),(118,.invokevirtual 136,3),(121,.goto 64,3),(124,.aload_n 0,1),(125,.getfield 9,3),(128,.aload_n 0,1),(129,.getfield 40,3),(132,.baload,1),(133,.ifCond .le 47,3),(136,.ldc 139,2),(138,.aload_n 0,1),(139,.getfield 9,3),(142,.aload_n 0,1),(143,.getfield 40,3),(146,.baload,1),(147,.i2c,1),(148,.invokevirtual 141,3),(151,.ifCond .lt 29,3),(154,.aload_n 0,1),(155,.aload_n 0,1),(156,.getfield 9,3),(159,.aload_n 0,1),(160,.getfield 40,3),(163,.baload,1),(164,.putfield 49,3),(167,.aload_n 0,1),(168,.dup,1),(169,.getfield 40,3),(172,.iconst 1,1),(173,.iadd,1),(174,.putfield 40,3),(177,.goto 8,3),(180,.aload_n 0,1),(181,.iconst 1,1),(182,.invokevirtual 62,3),(185,.return_,1)]
set_option maxRecDepth 100000 in
theorem dkX6_takeToken : rf_decs prog_8_method_15_code ddX6_takeToken := rf_decs_of (by decide +kernel)
def q29_P : rfP := (flX6,csX6,lcX6,spX6,[q4_M,q18_M,q19_M,q20_M,q28_M,q5_M],[],[(62,5,6),(127,0,6),(130,1,6),(133,2,6),(136,3,6),(141,4,1000)],([],[]))
def q29_U : rfU := []
set_option maxHeartbeats 8000000 in
def q29_N : List rfB := [(0,([(0,.inr (.inl [11]))],[],[]),(43294,[0]),0),
  (8,([(0,.inr (.inl [11]))],[],[((11,8),(0,0,1),none)]),(43288,[(-27)]),0),
  (60,([(0,.inr (.inl [11]))],[],[((11,8),(0,0,1),none)]),(63,[0]),0),
  (47,([(0,.inr (.inl [11]))],[],[((11,2),(1,1600,1),none),((11,3),(0,1599,1),none),((11,8),(0,0,1),none)]),(43269,[(-27)]),0),
  (185,([(0,.inr (.inl [11]))],[],[]),(0,[0]),0),
  (180,([(0,.inr (.inl [11]))],[],[((11,2),(1,1600,1),none),((11,3),(0,1599,1),none),((11,8),(0,0,1),none)]),(11,[0]),0)]
set_option maxRecDepth 100000 in
theorem q29_ok : rf_chkB q29_P q29_U wLay q29_M ddX6_takeToken [(93,[0]),(100,[1]),(111,[2]),(118,[3]),(148,[4]),(182,[5])] [.inr (11,3)] [0,8,47,60,180,185] 600 q29_N = true := by decide +kernel
set_option maxHeartbeats 4000000 in
theorem q29_met {G : rfG} (h : okG G) : rf_met G q29_M := rf_methodB h.1 (P := q29_P) (U := q29_U) (N := q29_N) ⟨wflT h flokX6, wcsT h csokX6, wlcT h lcokX6, spokX6 h, List.forall_mem_cons.mpr ⟨q4_met h, List.forall_mem_cons.mpr ⟨q18_met h, List.forall_mem_cons.mpr ⟨q19_met h, List.forall_mem_cons.mpr ⟨q20_met h, List.forall_mem_cons.mpr ⟨q28_met h, List.forall_mem_cons.mpr ⟨q5_met h, fun _ h => absurd h List.not_mem_nil⟩⟩⟩⟩⟩⟩, fun _ h => absurd h List.not_mem_nil, List.forall_mem_cons.mpr ⟨fun M hM => Option.some.inj (show some q5_M = some M from hM) ▸ wlkV (lkX6_62 h) q5_M rfl rfl, List.forall_mem_cons.mpr ⟨fun M hM => Option.some.inj (show some q4_M = some M from hM) ▸ wlkV (lkX6_127 h) q4_M rfl rfl, List.forall_mem_cons.mpr ⟨fun M hM => Option.some.inj (show some q18_M = some M from hM) ▸ wlkV (lkX6_130 h) q18_M rfl rfl, List.forall_mem_cons.mpr ⟨fun M hM => Option.some.inj (show some q19_M = some M from hM) ▸ wlkV (lkX6_133 h) q19_M rfl rfl, List.forall_mem_cons.mpr ⟨fun M hM => Option.some.inj (show some q20_M = some M from hM) ▸ wlkV (lkX6_136 h) q20_M rfl rfl, List.forall_mem_cons.mpr ⟨fun M hM => Option.some.inj (show some q28_M = some M from hM) ▸ wlkV (lkX6_141 h) q28_M rfl rfl, fun _ h => absurd h List.not_mem_nil⟩⟩⟩⟩⟩⟩, fun _ h => absurd h List.not_mem_nil, fun _ h => absurd h List.not_mem_nil⟩ dkX6_takeToken (by decide +kernel) (by rw [h.2.2.1]; exact q29_ok)
/-- NearSpell.Reader.isTooMany -/
def q30_M : rfM := ((⟨"NearSpell$Reader", "isTooMany", "(I)Z"⟩, prog_8_method_5_code, 2, (some .boolean)), (0,0), ([.inr (.inl [11]),.inl ((0,6,1),none)],[]), [], [(some (.inl ((1,1,0),none)),[],[]),(some (.inl ((0,0,0),none)),[],[])])
def ddX6_isTooMany : List (Nat × Instr × Nat) := [(0,.iload_n 1,1),(1,.ifCond .ne 21,3),(4,.aload_n 0,1),(5,.getfield 15,3),(8,.getfield 93,3),(11,.bipush 10,2),(13,.if_icmp .lt 7,3),(16,.iconst 1,1),(17,.goto 4,3),(20,.iconst 0,1),(21,.ireturn,1),(22,.aload_n 0,1),(23,.getfield 43,3),(26,.iload_n 1,1),(27,.ishr,1),(28,.iconst 1,1),(29,.iand,1),(30,.ifCond .eq 7,3),(33,.iconst 1,1),(34,.goto 4,3),(37,.iconst 0,1),(38,.ireturn,1)]
set_option maxRecDepth 100000 in
theorem dkX6_isTooMany : rf_decs prog_8_method_5_code ddX6_isTooMany := rf_decs_of (by decide +kernel)
def q30_P : rfP := (flX6,csX6,lcX6,spX6,[],[],[],([],[]))
def q30_U : rfU := []
set_option maxHeartbeats 8000000 in
def q30_N : List rfB := [(0,([(0,.inr (.inl [11])),(1,.inl ((0,6,1),none))],[],[]),(23,[]),0)]
set_option maxRecDepth 100000 in
theorem q30_ok : rf_chkB q30_P q30_U wLay q30_M ddX6_isTooMany [] [] [0] 600 q30_N = true := by decide +kernel
set_option maxHeartbeats 4000000 in
theorem q30_met {G : rfG} (h : okG G) : rf_met G q30_M := rf_methodB h.1 (P := q30_P) (U := q30_U) (N := q30_N) ⟨wflT h flokX6, wcsT h csokX6, wlcT h lcokX6, spokX6 h, fun _ h => absurd h List.not_mem_nil, fun _ h => absurd h List.not_mem_nil, fun _ h => absurd h List.not_mem_nil, fun _ h => absurd h List.not_mem_nil, fun _ h => absurd h List.not_mem_nil⟩ dkX6_isTooMany (by decide +kernel) (by rw [h.2.2.1]; exact q30_ok)
/-- NearSpell.Reader.fail -/
def q31_M : rfM := ((⟨"NearSpell$Reader", "fail", "(I)V"⟩, prog_8_method_3_code, 2, none), (0,0), ([.inr (.inl [11]),.inl ((2,2,0),none)],[]), [(11,6),(11,9),(11,10)], [(none,[],[((11,5),(17,17,0),none),((11,8),(1,4,1),none)])])
def q31_P : rfP := (flX6,csX6,lcX6,spX6,[],[],[],([],[]))
def q31_U : rfU := []
set_option maxHeartbeats 8000000 in
def q31_N : List rfB := [(0,([(0,.inr (.inl [11])),(1,.inl ((2,2,0),none))],[],[]),(13,[]),0),
  (20,([(0,.inr (.inl [11])),(1,.inl ((2,2,0),none))],[],[((11,8),(1,4,1),none)]),(3,[]),0)]
set_option maxRecDepth 100000 in
theorem q31_ok : rf_chkB q31_P q31_U wLay q31_M ddX6_fail [] [] [0,20] 600 q31_N = true := by decide +kernel
set_option maxHeartbeats 4000000 in
theorem q31_met {G : rfG} (h : okG G) : rf_met G q31_M := rf_methodB h.1 (P := q31_P) (U := q31_U) (N := q31_N) ⟨wflT h flokX6, wcsT h csokX6, wlcT h lcokX6, spokX6 h, fun _ h => absurd h List.not_mem_nil, fun _ h => absurd h List.not_mem_nil, fun _ h => absurd h List.not_mem_nil, fun _ h => absurd h List.not_mem_nil, fun _ h => absurd h List.not_mem_nil⟩ dkX6_fail (by decide +kernel) (by rw [h.2.2.1]; exact q31_ok)
/-- NearSpell.Reader.fail -/
def q32_M : rfM := ((⟨"NearSpell$Reader", "fail", "(I)V"⟩, prog_8_method_3_code, 2, none), (0,0), ([.inr (.inl [11]),.inl ((4,4,0),none)],[]), [(11,6),(11,9),(11,10)], [(none,[],[((11,5),(17,17,0),none),((11,8),(1,4,1),none)])])
def q32_P : rfP := (flX6,csX6,lcX6,spX6,[],[],[],([],[]))
def q32_U : rfU := []
set_option maxHeartbeats 8000000 in
def q32_N : List rfB := [(0,([(0,.inr (.inl [11])),(1,.inl ((4,4,0),none))],[],[]),(13,[]),0),
  (20,([(0,.inr (.inl [11])),(1,.inl ((4,4,0),none))],[],[((11,8),(1,4,1),none)]),(3,[]),0)]
set_option maxRecDepth 100000 in
theorem q32_ok : rf_chkB q32_P q32_U wLay q32_M ddX6_fail [] [] [0,20] 600 q32_N = true := by decide +kernel
set_option maxHeartbeats 4000000 in
theorem q32_met {G : rfG} (h : okG G) : rf_met G q32_M := rf_methodB h.1 (P := q32_P) (U := q32_U) (N := q32_N) ⟨wflT h flokX6, wcsT h csokX6, wlcT h lcokX6, spokX6 h, fun _ h => absurd h List.not_mem_nil, fun _ h => absurd h List.not_mem_nil, fun _ h => absurd h List.not_mem_nil, fun _ h => absurd h List.not_mem_nil, fun _ h => absurd h List.not_mem_nil⟩ dkX6_fail (by decide +kernel) (by rw [h.2.2.1]; exact q32_ok)
/-- NearSpell.Book.tells -/
def q33_M : rfM := ((⟨"NearSpell$Book", "tells", "(I)Z"⟩, prog_3_method_4_code, 3, (some .boolean)), (0,0), ([.inr (.inl [10]),.inl (((-2147483648),2147483647,1),none)],[]), [], [(some (.inl ((1,1,0),none)),[],[((10,4),(1,10,1),none)]),(some (.inl ((0,0,0),none)),[],[])])
def ddX1_tells : List (Nat × Instr × Nat) := [(0,.iconst 0,1),(1,.istore_n 2,1),(2,.iload_n 2,1),(3,.aload_n 0,1),(4,.getfield 27,3),(7,.if_icmp .ge 21,3),(10,.aload_n 0,1),(11,.getfield 9,3),(14,.iload_n 2,1),(15,.iaload,1),(16,.iload_n 1,1),(17,.if_icmp .ne 5,3),(20,.iconst 1,1),(21,.ireturn,1),(22,.iinc 2 1,3),(25,.goto (-23),3),(28,.iconst 0,1),(29,.ireturn,1)]
set_option maxRecDepth 100000 in
theorem dkX1_tells : rf_decs prog_3_method_4_code ddX1_tells := rf_decs_of (by decide +kernel)
def q33_P : rfP := (flX1,csX1,lcX1,spX1,[],[],[],([],[]))
def q33_U : rfU := []
set_option maxHeartbeats 8000000 in
def q33_N : List rfB := [(0,([(0,.inr (.inl [10])),(1,.inl (((-2147483648),2147483647,1),none))],[],[]),(148,[0]),0),
  (2,([(0,.inr (.inl [10])),(1,.inl (((-2147483648),2147483647,1),none)),(2,.inl ((0,10,1),none))],[],[]),(144,[(-13)]),0)]
set_option maxRecDepth 100000 in
theorem q33_ok : rf_chkB q33_P q33_U wLay q33_M ddX1_tells [] [.inl 2] [0,2] 600 q33_N = true := by decide +kernel
set_option maxHeartbeats 4000000 in
theorem q33_met {G : rfG} (h : okG G) : rf_met G q33_M := rf_methodB h.1 (P := q33_P) (U := q33_U) (N := q33_N) ⟨wflT h flokX1, wcsT h csokX1, wlcT h lcokX1, spokX1 h, fun _ h => absurd h List.not_mem_nil, fun _ h => absurd h List.not_mem_nil, fun _ h => absurd h List.not_mem_nil, fun _ h => absurd h List.not_mem_nil, fun _ h => absurd h List.not_mem_nil⟩ dkX1_tells (by decide +kernel) (by rw [h.2.2.1]; exact q33_ok)
/-- NearSpell.Reader.fail -/
def q34_M : rfM := ((⟨"NearSpell$Reader", "fail", "(I)V"⟩, prog_8_method_3_code, 2, none), (0,0), ([.inr (.inl [11]),.inl ((3,3,0),none)],[]), [(11,6),(11,9),(11,10)], [(none,[],[((11,5),(17,17,0),none),((11,8),(1,4,1),none)])])
def q34_P : rfP := (flX6,csX6,lcX6,spX6,[],[],[],([],[]))
def q34_U : rfU := []
set_option maxHeartbeats 8000000 in
def q34_N : List rfB := [(0,([(0,.inr (.inl [11])),(1,.inl ((3,3,0),none))],[],[]),(13,[]),0),
  (20,([(0,.inr (.inl [11])),(1,.inl ((3,3,0),none))],[],[((11,8),(1,4,1),none)]),(3,[]),0)]
set_option maxRecDepth 100000 in
theorem q34_ok : rf_chkB q34_P q34_U wLay q34_M ddX6_fail [] [] [0,20] 600 q34_N = true := by decide +kernel
set_option maxHeartbeats 4000000 in
theorem q34_met {G : rfG} (h : okG G) : rf_met G q34_M := rf_methodB h.1 (P := q34_P) (U := q34_U) (N := q34_N) ⟨wflT h flokX6, wcsT h csokX6, wlcT h lcokX6, spokX6 h, fun _ h => absurd h List.not_mem_nil, fun _ h => absurd h List.not_mem_nil, fun _ h => absurd h List.not_mem_nil, fun _ h => absurd h List.not_mem_nil, fun _ h => absurd h List.not_mem_nil⟩ dkX6_fail (by decide +kernel) (by rw [h.2.2.1]; exact q34_ok)
/-- NearSpell.Reader.readNumber -/
def q35_M : rfM := ((⟨"NearSpell$Reader", "readNumber", "(II)I"⟩, prog_8_method_7_code, 4, (some .int)), (7,150), ([.inr (.inl [11]),.inl ((0,0,0),none),.inl ((999,999,0),none)],[]), [(11,4),(11,5),(11,6),(11,7),(11,9),(11,10)], [(some (.inl ((0,999,1),none)),[],[])])
def ddX6_readNumber : List (Nat × Instr × Nat) := [(0,.aload_n 0,1),(1,.getfield 96,3),(4,.istore_n 3,1),(5,.aload_n 0,1),(6,.getfield 49,3),(9,.bipush 15,2),(11,.if_icmp .eq 10,3),(14,.aload_n 0,1),(15,.iconst 2,1),(16,.invokevirtual 62,3),(19,.iload_n 1,1),(20,.ireturn,1),(21,.iload_n 3,1),(22,.iload_n 1,1),(23,.if_icmp .lt 8,3),(26,.iload_n 3,1),(27,.iload_n 2,1),(28,.if_icmp .le 10,3),(31,.aload_n 0,1),(32,.iconst 4,1),(33,.invokevirtual 62,3),(36,.iload_n 1,1),(37,.ireturn,1),(38,.aload_n 0,1),(39,.invokevirtual 46,3),(42,.iload_n 3,1),(43,.ireturn,1)]
set_option maxRecDepth 100000 in
theorem dkX6_readNumber : rf_decs prog_8_method_7_code ddX6_readNumber := rf_decs_of (by decide +kernel)
def q35_P : rfP := (flX6,csX6,lcX6,spX6,[q31_M,q32_M,q29_M],[],[(46,2,6),(62,0,6),(62,1,6)],([],[]))
def q35_U : rfU := []
set_option maxHeartbeats 8000000 in
def q35_N : List rfB := [(0,([(0,.inr (.inl [11])),(1,.inl ((0,0,0),none)),(2,.inl ((999,999,0),none))],[],[]),(26,[]),0),
  (31,([(0,.inr (.inl [11])),(1,.inl ((0,0,0),none)),(2,.inl ((999,999,0),none)),(3,.inl (((-2147483648),2147483647,1),some (.inr (11,6),some 0)))],[],[((11,5),(15,15,1),none)]),(4,[]),0)]
set_option maxRecDepth 100000 in
theorem q35_ok : rf_chkB q35_P q35_U wLay q35_M ddX6_readNumber [(16,[0]),(33,[1]),(39,[2])] [] [0,31] 600 q35_N = true := by decide +kernel
set_option maxHeartbeats 4000000 in
theorem q35_met {G : rfG} (h : okG G) : rf_met G q35_M := rf_methodB h.1 (P := q35_P) (U := q35_U) (N := q35_N) ⟨wflT h flokX6, wcsT h csokX6, wlcT h lcokX6, spokX6 h, List.forall_mem_cons.mpr ⟨q31_met h, List.forall_mem_cons.mpr ⟨q32_met h, List.forall_mem_cons.mpr ⟨q29_met h, fun _ h => absurd h List.not_mem_nil⟩⟩⟩, fun _ h => absurd h List.not_mem_nil, List.forall_mem_cons.mpr ⟨fun M hM => Option.some.inj (show some q29_M = some M from hM) ▸ wlkV (lkX6_46 h) q29_M rfl rfl, List.forall_mem_cons.mpr ⟨fun M hM => Option.some.inj (show some q31_M = some M from hM) ▸ wlkV (lkX6_62 h) q31_M rfl rfl, List.forall_mem_cons.mpr ⟨fun M hM => Option.some.inj (show some q32_M = some M from hM) ▸ wlkV (lkX6_62 h) q32_M rfl rfl, fun _ h => absurd h List.not_mem_nil⟩⟩⟩, fun _ h => absurd h List.not_mem_nil, fun _ h => absurd h List.not_mem_nil⟩ dkX6_readNumber (by decide +kernel) (by rw [h.2.2.1]; exact q35_ok)
/-- NearSpell.Book.addWord -/
def q36_M : rfM := ((⟨"NearSpell$Book", "addWord", "(II)V"⟩, prog_3_method_5_code, 3, none), (0,0), ([.inr (.inl [10]),.inl (((-2147483648),2147483647,1),none),.inl ((0,999,1),none)],[]), [(6,0),(7,0),(10,5)], [(none,[],[((10,4),(1,10,1),none)])])
def ddX1_addWord : List (Nat × Instr × Nat) := [(0,.aload_n 0,1),(1,.getfield 27,3),(4,.bipush 10,2),(6,.if_icmp .ge 33,3),(9,.aload_n 0,1),(10,.getfield 9,3),(13,.aload_n 0,1),(14,.getfield 27,3),(17,.iload_n 1,1),(18,.iastore,1),(19,.aload_n 0,1),(20,.getfield 15,3),(23,.aload_n 0,1),(24,.getfield 27,3),(27,.iload_n 2,1),(28,.iastore,1),(29,.aload_n 0,1),(30,.dup,1),(31,.getfield 27,3),(34,.iconst 1,1),(35,.iadd,1),(36,.putfield 27,3),(39,.return_,1)]
set_option maxRecDepth 100000 in
theorem dkX1_addWord : rf_decs prog_3_method_5_code ddX1_addWord := rf_decs_of (by decide +kernel)
def q36_P : rfP := (flX1,csX1,lcX1,spX1,[],[],[],([],[]))
def q36_U : rfU := []
set_option maxHeartbeats 8000000 in
def q36_N : List rfB := [(0,([(0,.inr (.inl [10])),(1,.inl (((-2147483648),2147483647,1),none)),(2,.inl ((0,999,1),none))],[],[]),(22,[]),0),
  (39,([(0,.inr (.inl [10])),(1,.inl (((-2147483648),2147483647,1),none)),(2,.inl ((0,999,1),none))],[],[((10,4),(1,10,1),none)]),(0,[]),0)]
set_option maxRecDepth 100000 in
theorem q36_ok : rf_chkB q36_P q36_U wLay q36_M ddX1_addWord [] [] [0,39] 600 q36_N = true := by decide +kernel
set_option maxHeartbeats 4000000 in
theorem q36_met {G : rfG} (h : okG G) : rf_met G q36_M := rf_methodB h.1 (P := q36_P) (U := q36_U) (N := q36_N) ⟨wflT h flokX1, wcsT h csokX1, wlcT h lcokX1, spokX1 h, fun _ h => absurd h List.not_mem_nil, fun _ h => absurd h List.not_mem_nil, fun _ h => absurd h List.not_mem_nil, fun _ h => absurd h List.not_mem_nil, fun _ h => absurd h List.not_mem_nil⟩ dkX1_addWord (by decide +kernel) (by rw [h.2.2.1]; exact q36_ok)
/-- NearSpell.Reader.readWord -/
def q37_M : rfM := ((⟨"NearSpell$Reader", "readWord", "()V"⟩, prog_8_method_6_code, 2, none), (8,173), ([.inr (.inl [11])],[]), [(6,0),(7,0),(10,5),(11,4),(11,5),(11,6),(11,7),(11,9),(11,10)], [(none,[],[])])
def ddX6_readWord : List (Nat × Instr × Nat) := [(0,.aload_n 0,1),(1,.getfield 96,3),(4,.istore_n 1,1),(5,.aload_n 0,1),(6,.getfield 49,3),(9,.bipush 14,2),(11,.if_icmp .eq 11,3),(14,.aload_n 0,1),(15,.iconst 2,1),(16,.invokevirtual 62,3),(19,.goto 64,3),(22,.aload_n 0,1),(23,.getfield 40,3),(26,.aload_n 0,1),(27,.getfield 55,3),(30,.isub,1),(31,.bipush 6,2),(33,.if_icmp .le 11,3),(36,.aload_n 0,1),(37,.iconst 4,1),(38,.invokevirtual 62,3),(41,.goto 42,3),(44,.aload_n 0,1),(45,.getfield 15,3),(48,.iload_n 1,1),(49,.invokevirtual 99,3),(52,.ifCond .eq 11,3),(55,.aload_n 0,1),(56,.iconst 3,1),(57,.invokevirtual 62,3),(60,.goto 23,3),(63,.aload_n 0,1),(64,.invokevirtual 46,3),(67,.aload_n 0,1),(68,.getfield 15,3),(71,.iload_n 1,1),(72,.aload_n 0,1),(73,.iconst 0,1),(74,.sipush 999,3),(77,.invokevirtual 69,3),(80,.invokevirtual 102,3),(83,.return_,1)]
set_option maxRecDepth 100000 in
theorem dkX6_readWord : rf_decs prog_8_method_6_code ddX6_readWord := rf_decs_of (by decide +kernel)
def q37_P : rfP := (flX6,csX6,lcX6,spX6,[q31_M,q32_M,q33_M,q34_M,q29_M,q35_M,q36_M],[],[(46,4,6),(62,0,6),(62,1,6),(62,3,6),(69,5,6),(99,2,1),(102,6,1)],([],[]))
def q37_U : rfU := []
set_option maxHeartbeats 8000000 in
def q37_N : List rfB := [(0,([(0,.inr (.inl [11]))],[],[]),(42,[]),0),
  (83,([(0,.inr (.inl [11])),(1,.inl (((-2147483648),2147483647,1),none))],[],[]),(0,[]),0)]
set_option maxRecDepth 100000 in
theorem q37_ok : rf_chkB q37_P q37_U wLay q37_M ddX6_readWord [(16,[0]),(38,[1]),(49,[2]),(57,[3]),(64,[4]),(77,[5]),(80,[6])] [] [0,83] 600 q37_N = true := by decide +kernel
set_option maxHeartbeats 4000000 in
theorem q37_met {G : rfG} (h : okG G) : rf_met G q37_M := rf_methodB h.1 (P := q37_P) (U := q37_U) (N := q37_N) ⟨wflT h flokX6, wcsT h csokX6, wlcT h lcokX6, spokX6 h, List.forall_mem_cons.mpr ⟨q31_met h, List.forall_mem_cons.mpr ⟨q32_met h, List.forall_mem_cons.mpr ⟨q33_met h, List.forall_mem_cons.mpr ⟨q34_met h, List.forall_mem_cons.mpr ⟨q29_met h, List.forall_mem_cons.mpr ⟨q35_met h, List.forall_mem_cons.mpr ⟨q36_met h, fun _ h => absurd h List.not_mem_nil⟩⟩⟩⟩⟩⟩⟩, fun _ h => absurd h List.not_mem_nil, List.forall_mem_cons.mpr ⟨fun M hM => Option.some.inj (show some q29_M = some M from hM) ▸ wlkV (lkX6_46 h) q29_M rfl rfl, List.forall_mem_cons.mpr ⟨fun M hM => Option.some.inj (show some q31_M = some M from hM) ▸ wlkV (lkX6_62 h) q31_M rfl rfl, List.forall_mem_cons.mpr ⟨fun M hM => Option.some.inj (show some q32_M = some M from hM) ▸ wlkV (lkX6_62 h) q32_M rfl rfl, List.forall_mem_cons.mpr ⟨fun M hM => Option.some.inj (show some q34_M = some M from hM) ▸ wlkV (lkX6_62 h) q34_M rfl rfl, List.forall_mem_cons.mpr ⟨fun M hM => Option.some.inj (show some q35_M = some M from hM) ▸ wlkV (lkX6_69 h) q35_M rfl rfl, List.forall_mem_cons.mpr ⟨fun M hM => Option.some.inj (show some q33_M = some M from hM) ▸ wlkV (lkX6_99 h) q33_M rfl rfl, List.forall_mem_cons.mpr ⟨fun M hM => Option.some.inj (show some q36_M = some M from hM) ▸ wlkV (lkX6_102 h) q36_M rfl rfl, fun _ h => absurd h List.not_mem_nil⟩⟩⟩⟩⟩⟩⟩, fun _ h => absurd h List.not_mem_nil, fun _ h => absurd h List.not_mem_nil⟩ dkX6_readWord (by decide +kernel) (by rw [h.2.2.1]; exact q37_ok)
/-- NearSpell.Reader.readNumber -/
def q38_M : rfM := ((⟨"NearSpell$Reader", "readNumber", "(II)I"⟩, prog_8_method_7_code, 4, (some .int)), (7,150), ([.inr (.inl [11]),.inl ((1,1,0),none),.inl ((6,6,0),none)],[]), [(11,4),(11,5),(11,6),(11,7),(11,9),(11,10)], [(some (.inl ((1,6,1),none)),[],[])])
def q38_P : rfP := (flX6,csX6,lcX6,spX6,[q31_M,q32_M,q29_M],[],[(46,2,6),(62,0,6),(62,1,6)],([],[]))
def q38_U : rfU := []
set_option maxHeartbeats 8000000 in
def q38_N : List rfB := [(0,([(0,.inr (.inl [11])),(1,.inl ((1,1,0),none)),(2,.inl ((6,6,0),none))],[],[]),(26,[]),0),
  (31,([(0,.inr (.inl [11])),(1,.inl ((1,1,0),none)),(2,.inl ((6,6,0),none)),(3,.inl (((-2147483648),2147483647,1),some (.inr (11,6),some 0)))],[],[((11,5),(15,15,1),none)]),(4,[]),0)]
set_option maxRecDepth 100000 in
theorem q38_ok : rf_chkB q38_P q38_U wLay q38_M ddX6_readNumber [(16,[0]),(33,[1]),(39,[2])] [] [0,31] 600 q38_N = true := by decide +kernel
set_option maxHeartbeats 4000000 in
theorem q38_met {G : rfG} (h : okG G) : rf_met G q38_M := rf_methodB h.1 (P := q38_P) (U := q38_U) (N := q38_N) ⟨wflT h flokX6, wcsT h csokX6, wlcT h lcokX6, spokX6 h, List.forall_mem_cons.mpr ⟨q31_met h, List.forall_mem_cons.mpr ⟨q32_met h, List.forall_mem_cons.mpr ⟨q29_met h, fun _ h => absurd h List.not_mem_nil⟩⟩⟩, fun _ h => absurd h List.not_mem_nil, List.forall_mem_cons.mpr ⟨fun M hM => Option.some.inj (show some q29_M = some M from hM) ▸ wlkV (lkX6_46 h) q29_M rfl rfl, List.forall_mem_cons.mpr ⟨fun M hM => Option.some.inj (show some q31_M = some M from hM) ▸ wlkV (lkX6_62 h) q31_M rfl rfl, List.forall_mem_cons.mpr ⟨fun M hM => Option.some.inj (show some q32_M = some M from hM) ▸ wlkV (lkX6_62 h) q32_M rfl rfl, fun _ h => absurd h List.not_mem_nil⟩⟩⟩, fun _ h => absurd h List.not_mem_nil, fun _ h => absurd h List.not_mem_nil⟩ dkX6_readNumber (by decide +kernel) (by rw [h.2.2.1]; exact q38_ok)
/-- NearSpell.Reader.readNumber -/
def q39_M : rfM := ((⟨"NearSpell$Reader", "readNumber", "(II)I"⟩, prog_8_method_7_code, 4, (some .int)), (7,150), ([.inr (.inl [11]),.inl ((0,0,0),none),.inl ((2,2,0),none)],[]), [(11,4),(11,5),(11,6),(11,7),(11,9),(11,10)], [(some (.inl ((0,2,1),none)),[],[])])
def q39_P : rfP := (flX6,csX6,lcX6,spX6,[q31_M,q32_M,q29_M],[],[(46,2,6),(62,0,6),(62,1,6)],([],[]))
def q39_U : rfU := []
set_option maxHeartbeats 8000000 in
def q39_N : List rfB := [(0,([(0,.inr (.inl [11])),(1,.inl ((0,0,0),none)),(2,.inl ((2,2,0),none))],[],[]),(26,[]),0),
  (31,([(0,.inr (.inl [11])),(1,.inl ((0,0,0),none)),(2,.inl ((2,2,0),none)),(3,.inl (((-2147483648),2147483647,1),some (.inr (11,6),some 0)))],[],[((11,5),(15,15,1),none)]),(4,[]),0)]
set_option maxRecDepth 100000 in
theorem q39_ok : rf_chkB q39_P q39_U wLay q39_M ddX6_readNumber [(16,[0]),(33,[1]),(39,[2])] [] [0,31] 600 q39_N = true := by decide +kernel
set_option maxHeartbeats 4000000 in
theorem q39_met {G : rfG} (h : okG G) : rf_met G q39_M := rf_methodB h.1 (P := q39_P) (U := q39_U) (N := q39_N) ⟨wflT h flokX6, wcsT h csokX6, wlcT h lcokX6, spokX6 h, List.forall_mem_cons.mpr ⟨q31_met h, List.forall_mem_cons.mpr ⟨q32_met h, List.forall_mem_cons.mpr ⟨q29_met h, fun _ h => absurd h List.not_mem_nil⟩⟩⟩, fun _ h => absurd h List.not_mem_nil, List.forall_mem_cons.mpr ⟨fun M hM => Option.some.inj (show some q29_M = some M from hM) ▸ wlkV (lkX6_46 h) q29_M rfl rfl, List.forall_mem_cons.mpr ⟨fun M hM => Option.some.inj (show some q31_M = some M from hM) ▸ wlkV (lkX6_62 h) q31_M rfl rfl, List.forall_mem_cons.mpr ⟨fun M hM => Option.some.inj (show some q32_M = some M from hM) ▸ wlkV (lkX6_62 h) q32_M rfl rfl, fun _ h => absurd h List.not_mem_nil⟩⟩⟩, fun _ h => absurd h List.not_mem_nil, fun _ h => absurd h List.not_mem_nil⟩ dkX6_readNumber (by decide +kernel) (by rw [h.2.2.1]; exact q39_ok)
/-- NearSpell.Book.addStep -/
def q40_M : rfM := ((⟨"NearSpell$Book", "addStep", "(I)V"⟩, prog_3_method_6_code, 2, none), (0,0), ([.inr (.inl [10]),.inl (((-2147483648),2147483647,1),none)],[]), [(8,0),(10,12)], [(none,[],[((10,11),(1,300,1),none)])])
def ddX1_addStep : List (Nat × Instr × Nat) := [(0,.aload_n 0,1),(1,.getfield 49,3),(4,.sipush 300,3),(7,.if_icmp .ge 23,3),(10,.aload_n 0,1),(11,.getfield 18,3),(14,.aload_n 0,1),(15,.getfield 49,3),(18,.iload_n 1,1),(19,.iastore,1),(20,.aload_n 0,1),(21,.dup,1),(22,.getfield 49,3),(25,.iconst 1,1),(26,.iadd,1),(27,.putfield 49,3),(30,.return_,1)]
set_option maxRecDepth 100000 in
theorem dkX1_addStep : rf_decs prog_3_method_6_code ddX1_addStep := rf_decs_of (by decide +kernel)
def q40_P : rfP := (flX1,csX1,lcX1,spX1,[],[],[],([],[]))
def q40_U : rfU := []
set_option maxHeartbeats 8000000 in
def q40_N : List rfB := [(0,([(0,.inr (.inl [10])),(1,.inl (((-2147483648),2147483647,1),none))],[],[]),(16,[]),0),
  (30,([(0,.inr (.inl [10])),(1,.inl (((-2147483648),2147483647,1),none))],[],[((10,11),(1,300,1),none)]),(0,[]),0)]
set_option maxRecDepth 100000 in
theorem q40_ok : rf_chkB q40_P q40_U wLay q40_M ddX1_addStep [] [] [0,30] 600 q40_N = true := by decide +kernel
set_option maxHeartbeats 4000000 in
theorem q40_met {G : rfG} (h : okG G) : rf_met G q40_M := rf_methodB h.1 (P := q40_P) (U := q40_U) (N := q40_N) ⟨wflT h flokX1, wcsT h csokX1, wlcT h lcokX1, spokX1 h, fun _ h => absurd h List.not_mem_nil, fun _ h => absurd h List.not_mem_nil, fun _ h => absurd h List.not_mem_nil, fun _ h => absurd h List.not_mem_nil, fun _ h => absurd h List.not_mem_nil⟩ dkX1_addStep (by decide +kernel) (by rw [h.2.2.1]; exact q40_ok)
/-- NearSpell.Reader.readUnit -/
def q41_M : rfM := ((⟨"NearSpell$Reader", "readUnit", "(I)V"⟩, prog_8_method_14_code, 4, none), (7,150), ([.inr (.inl [11]),.inl ((7,7,0),none)],[]), [(8,0),(10,11),(10,12),(11,4),(11,5),(11,6),(11,7),(11,9),(11,10)], [(none,[],[])])
def ddX6_readUnit : List (Nat × Instr × Nat) := [(0,.aload_n 0,1),(1,.getfield 49,3),(4,.bipush 40,2),(6,.if_icmp .ne 7,3),(9,.iconst 1,1),(10,.goto 4,3),(13,.iconst 0,1),(14,.istore_n 2,1),(15,.aload_n 0,1),(16,.getfield 49,3),(19,.bipush 10,2),(21,.if_icmp .lt 16,3),(24,.aload_n 0,1),(25,.getfield 49,3),(28,.bipush 13,2),(30,.if_icmp .gt 7,3),(33,.iconst 1,1),(34,.goto 4,3),(37,.iconst 0,1),(38,.istore_n 3,1),(39,.iload_n 2,1),(40,.ifCond .ne 22,3),(43,.iload_n 3,1),(44,.ifCond .ne 18,3),(47,.aload_n 0,1),(48,.getfield 49,3),(51,.bipush 15,2),(53,.if_icmp .eq 9,3),(56,.aload_n 0,1),(57,.iconst 2,1),(58,.invokevirtual 62,3),(61,.return_,1),(62,.aload_n 0,1),(63,.getfield 15,3),(66,.getfield 124,3),(69,.bipush 30,2),(71,.if_icmp .ge 13,3),(74,.iload_n 2,1),(75,.ifCond .eq 15,3),(78,.iload_n 1,1),(79,.bipush 6,2),(81,.if_icmp .le 9,3),(84,.aload_n 0,1),(85,.iconst 2,1),(86,.invokevirtual 62,3),(89,.return_,1),(90,.aload_n 0,1),(91,.getfield 15,3),(94,.dup,1),(95,.getfield 124,3),(98,.iconst 1,1),(99,.iadd,1),(100,.putfield 124,3),(103,.iload_n 2,1),(104,.ifCond .ne 31,3),(107,.aload_n 0,1),(108,.getfield 15,3),(111,.iload_n 3,1),(112,.ifCond .eq 11,3),(115,.aload_n 0,1),(116,.getfield 49,3),(119,.ineg,1),(120,.goto 7,3),(123,.aload_n 0,1),(124,.getfield 96,3),(127,.invokevirtual 109,3),(130,.aload_n 0,1),(131,.invokevirtual 46,3),(134,.return_,1),(135,.aload_n 0,1),(136,.invokevirtual 46,3),(139,.aload_n 0,1),(140,.iload_n 1,1),(141,.iconst 1,1),(142,.iadd,1),(143,.invokevirtual 78,3),(146,.aload_n 0,1),(147,.bipush 41,2),(149,.invokevirtual 90,3),(152,.return_,1)]
set_option maxRecDepth 100000 in
theorem dkX6_readUnit : rf_decs prog_8_method_14_code ddX6_readUnit := rf_decs_of (by decide +kernel)
def q41_P : rfP := (flX6,csX6,lcX6,spX6,[q31_M,q40_M,q29_M],[],[(46,2,6),(62,0,6),(109,1,1)],([],[]))
def q41_U : rfU := []
set_option maxHeartbeats 8000000 in
def q41_N : List rfB := [(0,([(0,.inr (.inl [11])),(1,.inl ((7,7,0),none))],[],[]),(70,[]),0),
  (15,([(0,.inr (.inl [11])),(1,.inl ((7,7,0),none)),(2,.inl ((0,1,1),none))],[],[]),(61,[]),0),
  (37,([(0,.inr (.inl [11])),(1,.inl ((7,7,0),none)),(2,.inl ((0,1,1),none))],[],[]),(50,[]),0),
  (39,([(0,.inr (.inl [11])),(1,.inl ((7,7,0),none)),(2,.inl ((0,1,1),none)),(3,.inl ((0,1,1),none))],[],[]),(48,[]),0),
  (62,([(0,.inr (.inl [11])),(1,.inl ((7,7,0),none)),(2,.inl ((0,1,1),none)),(3,.inl ((0,1,1),none))],[],[]),(36,[]),0),
  (84,([(0,.inr (.inl [11])),(1,.inl ((7,7,0),none)),(2,.inl ((0,1,1),none)),(3,.inl ((0,1,1),none))],[],[]),(3,[]),0),
  (127,([(0,.inr (.inl [11])),(1,.inl ((7,7,0),none)),(2,.inl ((0,0,1),none)),(3,.inl ((0,1,1),none))],[.inl (((-2147483648),2147483647,1),none),.inr (.inl [10])],[((10,10),(1,30,1),none)]),(7,[]),0)]
set_option maxRecDepth 100000 in
theorem q41_ok : rf_chkB q41_P q41_U wLay q41_M ddX6_readUnit [(58,[0]),(86,[0]),(127,[1]),(131,[2])] [] [0,15,37,39,62,84,127] 600 q41_N = true := by decide +kernel
set_option maxHeartbeats 4000000 in
theorem q41_met {G : rfG} (h : okG G) : rf_met G q41_M := rf_methodB h.1 (P := q41_P) (U := q41_U) (N := q41_N) ⟨wflT h flokX6, wcsT h csokX6, wlcT h lcokX6, spokX6 h, List.forall_mem_cons.mpr ⟨q31_met h, List.forall_mem_cons.mpr ⟨q40_met h, List.forall_mem_cons.mpr ⟨q29_met h, fun _ h => absurd h List.not_mem_nil⟩⟩⟩, fun _ h => absurd h List.not_mem_nil, List.forall_mem_cons.mpr ⟨fun M hM => Option.some.inj (show some q29_M = some M from hM) ▸ wlkV (lkX6_46 h) q29_M rfl rfl, List.forall_mem_cons.mpr ⟨fun M hM => Option.some.inj (show some q31_M = some M from hM) ▸ wlkV (lkX6_62 h) q31_M rfl rfl, List.forall_mem_cons.mpr ⟨fun M hM => Option.some.inj (show some q40_M = some M from hM) ▸ wlkV (lkX6_109 h) q40_M rfl rfl, fun _ h => absurd h List.not_mem_nil⟩⟩⟩, fun _ h => absurd h List.not_mem_nil, fun _ h => absurd h List.not_mem_nil⟩ dkX6_readUnit (by decide +kernel) (by rw [h.2.2.1]; exact q41_ok)
/-- NearSpell.Book.addStep -/
def q42_M : rfM := ((⟨"NearSpell$Book", "addStep", "(I)V"⟩, prog_3_method_6_code, 2, none), (0,0), ([.inr (.inl [10]),.inl (((-2147483648),0,1),none)],[]), [(8,0),(10,12)], [(none,[],[((10,11),(1,300,1),none)])])
def q42_P : rfP := (flX1,csX1,lcX1,spX1,[],[],[],([],[]))
def q42_U : rfU := []
set_option maxHeartbeats 8000000 in
def q42_N : List rfB := [(0,([(0,.inr (.inl [10])),(1,.inl (((-2147483648),0,1),none))],[],[]),(16,[]),0),
  (30,([(0,.inr (.inl [10])),(1,.inl (((-2147483648),0,1),none))],[],[((10,11),(1,300,1),none)]),(0,[]),0)]
set_option maxRecDepth 100000 in
theorem q42_ok : rf_chkB q42_P q42_U wLay q42_M ddX1_addStep [] [] [0,30] 600 q42_N = true := by decide +kernel
set_option maxHeartbeats 4000000 in
theorem q42_met {G : rfG} (h : okG G) : rf_met G q42_M := rf_methodB h.1 (P := q42_P) (U := q42_U) (N := q42_N) ⟨wflT h flokX1, wcsT h csokX1, wlcT h lcokX1, spokX1 h, fun _ h => absurd h List.not_mem_nil, fun _ h => absurd h List.not_mem_nil, fun _ h => absurd h List.not_mem_nil, fun _ h => absurd h List.not_mem_nil, fun _ h => absurd h List.not_mem_nil⟩ dkX1_addStep (by decide +kernel) (by rw [h.2.2.1]; exact q42_ok)
/-- NearSpell.Reader.readTerm -/
def q43_M : rfM := ((⟨"NearSpell$Reader", "readTerm", "(I)V"⟩, prog_8_method_13_code, 4, none), (8,173), ([.inr (.inl [11]),.inl ((7,7,0),none)],[]), [(8,0),(10,11),(10,12),(11,4),(11,5),(11,6),(11,7),(11,9),(11,10)], [(none,[],[])])
def ddX6_readTerm : List (Nat × Instr × Nat) := [(0,.aload_n 0,1),(1,.iload_n 1,1),(2,.invokevirtual 121,3),(5,.iconst 0,1),(6,.istore_n 2,1),(7,.iload_n 2,1),(8,.sipush 1600,3),(11,.if_icmp .ge 59,3),(14,.aload_n 0,1),(15,.getfield 49,3),(18,.bipush 42,2),(20,.if_icmp .eq 21,3),(23,.aload_n 0,1),(24,.getfield 49,3),(27,.bipush 47,2),(29,.if_icmp .eq 12,3),(32,.aload_n 0,1),(33,.getfield 49,3),(36,.bipush 37,2),(38,.if_icmp .ne 32,3),(41,.aload_n 0,1),(42,.getfield 49,3),(45,.istore_n 3,1),(46,.aload_n 0,1),(47,.invokevirtual 46,3),(50,.aload_n 0,1),(51,.iload_n 1,1),(52,.invokevirtual 121,3),(55,.aload_n 0,1),(56,.getfield 15,3),(59,.iload_n 3,1),(60,.ineg,1),(61,.invokevirtual 109,3),(64,.iinc 2 1,3),(67,.goto (-60),3),(70,.return_,1)]
set_option maxRecDepth 100000 in
theorem dkX6_readTerm : rf_decs prog_8_method_13_code ddX6_readTerm := rf_decs_of (by decide +kernel)
def q43_P : rfP := (flX6,csX6,lcX6,spX6,[q41_M,q29_M,q42_M],[],[(46,1,6),(109,2,1),(121,0,6)],([],[]))
def q43_U : rfU := []
set_option maxHeartbeats 8000000 in
def q43_N : List rfB := [(0,([(0,.inr (.inl [11])),(1,.inl ((7,7,0),none))],[],[]),(49636,[0]),0),
  (7,([(0,.inr (.inl [11])),(1,.inl ((7,7,0),none)),(2,.inl ((0,1600,1),none))],[],[]),(49629,[(-31)]),0),
  (41,([(0,.inr (.inl [11])),(1,.inl ((7,7,0),none)),(2,.inl ((0,1599,1),none))],[],[((11,5),(37,47,1),none)]),(49614,[(-31)]),0),
  (70,([(0,.inr (.inl [11])),(1,.inl ((7,7,0),none)),(2,.inl ((0,1600,1),none))],[],[]),(0,[0]),0)]
set_option maxRecDepth 100000 in
theorem q43_ok : rf_chkB q43_P q43_U wLay q43_M ddX6_readTerm [(2,[0]),(47,[1]),(52,[0]),(61,[2])] [.inl 2] [0,7,41,70] 600 q43_N = true := by decide +kernel
set_option maxHeartbeats 4000000 in
theorem q43_met {G : rfG} (h : okG G) : rf_met G q43_M := rf_methodB h.1 (P := q43_P) (U := q43_U) (N := q43_N) ⟨wflT h flokX6, wcsT h csokX6, wlcT h lcokX6, spokX6 h, List.forall_mem_cons.mpr ⟨q41_met h, List.forall_mem_cons.mpr ⟨q29_met h, List.forall_mem_cons.mpr ⟨q42_met h, fun _ h => absurd h List.not_mem_nil⟩⟩⟩, fun _ h => absurd h List.not_mem_nil, List.forall_mem_cons.mpr ⟨fun M hM => Option.some.inj (show some q29_M = some M from hM) ▸ wlkV (lkX6_46 h) q29_M rfl rfl, List.forall_mem_cons.mpr ⟨fun M hM => Option.some.inj (show some q42_M = some M from hM) ▸ wlkV (lkX6_109 h) q42_M rfl rfl, List.forall_mem_cons.mpr ⟨fun M hM => Option.some.inj (show some q41_M = some M from hM) ▸ wlkV (lkX6_121 h) q41_M rfl rfl, fun _ h => absurd h List.not_mem_nil⟩⟩⟩, fun _ h => absurd h List.not_mem_nil, fun _ h => absurd h List.not_mem_nil⟩ dkX6_readTerm (by decide +kernel) (by rw [h.2.2.1]; exact q43_ok)
/-- NearSpell.Reader.readSum -/
def q44_M : rfM := ((⟨"NearSpell$Reader", "readSum", "(I)V"⟩, prog_8_method_12_code, 4, none), (9,196), ([.inr (.inl [11]),.inl ((7,7,0),none)],[]), [(8,0),(10,11),(10,12),(11,4),(11,5),(11,6),(11,7),(11,9),(11,10)], [(none,[],[])])
def ddX6_readSum : List (Nat × Instr × Nat) := [(0,.aload_n 0,1),(1,.iload_n 1,1),(2,.invokevirtual 118,3),(5,.iconst 0,1),(6,.istore_n 2,1),(7,.iload_n 2,1),(8,.sipush 1600,3),(11,.if_icmp .ge 50,3),(14,.aload_n 0,1),(15,.getfield 49,3),(18,.bipush 43,2),(20,.if_icmp .eq 12,3),(23,.aload_n 0,1),(24,.getfield 49,3),(27,.bipush 45,2),(29,.if_icmp .ne 32,3),(32,.aload_n 0,1),(33,.getfield 49,3),(36,.istore_n 3,1),(37,.aload_n 0,1),(38,.invokevirtual 46,3),(41,.aload_n 0,1),(42,.iload_n 1,1),(43,.invokevirtual 118,3),(46,.aload_n 0,1),(47,.getfield 15,3),(50,.iload_n 3,1),(51,.ineg,1),(52,.invokevirtual 109,3),(55,.iinc 2 1,3),(58,.goto (-51),3),(61,.return_,1)]
set_option maxRecDepth 100000 in
theorem dkX6_readSum : rf_decs prog_8_method_12_code ddX6_readSum := rf_decs_of (by decide +kernel)
def q44_P : rfP := (flX6,csX6,lcX6,spX6,[q43_M,q29_M,q42_M],[],[(46,1,6),(109,2,1),(118,0,6)],([],[]))
def q44_U : rfU := []
set_option maxHeartbeats 8000000 in
def q44_N : List rfB := [(0,([(0,.inr (.inl [11])),(1,.inl ((7,7,0),none))],[],[]),(43232,[0]),0),
  (7,([(0,.inr (.inl [11])),(1,.inl ((7,7,0),none)),(2,.inl ((0,1600,1),none))],[],[]),(43225,[(-27)]),0),
  (32,([(0,.inr (.inl [11])),(1,.inl ((7,7,0),none)),(2,.inl ((0,1599,1),none))],[],[((11,5),(43,45,1),none)]),(43214,[(-27)]),0),
  (61,([(0,.inr (.inl [11])),(1,.inl ((7,7,0),none)),(2,.inl ((0,1600,1),none))],[],[]),(0,[0]),0)]
set_option maxRecDepth 100000 in
theorem q44_ok : rf_chkB q44_P q44_U wLay q44_M ddX6_readSum [(2,[0]),(38,[1]),(43,[0]),(52,[2])] [.inl 2] [0,7,32,61] 600 q44_N = true := by decide +kernel
set_option maxHeartbeats 4000000 in
theorem q44_met {G : rfG} (h : okG G) : rf_met G q44_M := rf_methodB h.1 (P := q44_P) (U := q44_U) (N := q44_N) ⟨wflT h flokX6, wcsT h csokX6, wlcT h lcokX6, spokX6 h, List.forall_mem_cons.mpr ⟨q43_met h, List.forall_mem_cons.mpr ⟨q29_met h, List.forall_mem_cons.mpr ⟨q42_met h, fun _ h => absurd h List.not_mem_nil⟩⟩⟩, fun _ h => absurd h List.not_mem_nil, List.forall_mem_cons.mpr ⟨fun M hM => Option.some.inj (show some q29_M = some M from hM) ▸ wlkV (lkX6_46 h) q29_M rfl rfl, List.forall_mem_cons.mpr ⟨fun M hM => Option.some.inj (show some q42_M = some M from hM) ▸ wlkV (lkX6_109 h) q42_M rfl rfl, List.forall_mem_cons.mpr ⟨fun M hM => Option.some.inj (show some q43_M = some M from hM) ▸ wlkV (lkX6_118 h) q43_M rfl rfl, fun _ h => absurd h List.not_mem_nil⟩⟩⟩, fun _ h => absurd h List.not_mem_nil, fun _ h => absurd h List.not_mem_nil⟩ dkX6_readSum (by decide +kernel) (by rw [h.2.2.1]; exact q44_ok)
/-- NearSpell.Reader.readOne -/
def q45_M : rfM := ((⟨"NearSpell$Reader", "readOne", "(I)V"⟩, prog_8_method_11_code, 3, none), (10,219), ([.inr (.inl [11]),.inl ((7,7,0),none)],[]), [(8,0),(10,11),(10,12),(11,4),(11,5),(11,6),(11,7),(11,9),(11,10)], [(none,[],[])])
def ddX6_readOne : List (Nat × Instr × Nat) := [(0,.aload_n 0,1),(1,.getfield 49,3),(4,.bipush 9,2),(6,.if_icmp .ne 36,3),(9,.iload_n 1,1),(10,.bipush 6,2),(12,.if_icmp .le 9,3),(15,.aload_n 0,1),(16,.iconst 2,1),(17,.invokevirtual 62,3),(20,.return_,1),(21,.aload_n 0,1),(22,.invokevirtual 46,3),(25,.aload_n 0,1),(26,.iload_n 1,1),(27,.iconst 1,1),(28,.iadd,1),(29,.invokevirtual 112,3),(32,.aload_n 0,1),(33,.getfield 15,3),(36,.bipush (-9),2),(38,.invokevirtual 109,3),(41,.return_,1),(42,.aload_n 0,1),(43,.iload_n 1,1),(44,.invokevirtual 115,3),(47,.aload_n 0,1),(48,.getfield 49,3),(51,.istore_n 2,1),(52,.iload_n 2,1),(53,.bipush 60,2),(55,.if_icmp .eq 15,3),(58,.iload_n 2,1),(59,.bipush 62,2),(61,.if_icmp .eq 9,3),(64,.iload_n 2,1),(65,.bipush 61,2),(67,.if_icmp .ne 21,3),(70,.aload_n 0,1),(71,.invokevirtual 46,3),(74,.aload_n 0,1),(75,.iload_n 1,1),(76,.invokevirtual 115,3),(79,.aload_n 0,1),(80,.getfield 15,3),(83,.iload_n 2,1),(84,.ineg,1),(85,.invokevirtual 109,3),(88,.return_,1)]
set_option maxRecDepth 100000 in
theorem dkX6_readOne : rf_decs prog_8_method_11_code ddX6_readOne := rf_decs_of (by decide +kernel)
def q45_P : rfP := (flX6,csX6,lcX6,spX6,[q31_M,q44_M,q29_M,q42_M],[],[(46,2,6),(62,0,6),(109,3,1),(115,1,6)],([],[]))
def q45_U : rfU := []
set_option maxHeartbeats 8000000 in
def q45_N : List rfB := [(0,([(0,.inr (.inl [11])),(1,.inl ((7,7,0),none))],[],[]),(36,[]),0),
  (70,([(0,.inr (.inl [11])),(1,.inl ((7,7,0),none)),(2,.inl ((60,62,1),some (.inr (11,5),some 0)))],[],[((11,5),(60,62,1),none)]),(10,[]),0),
  (88,([(0,.inr (.inl [11])),(1,.inl ((7,7,0),none)),(2,.inl (((-128),127,1),none))],[],[]),(0,[]),0)]
set_option maxRecDepth 100000 in
theorem q45_ok : rf_chkB q45_P q45_U wLay q45_M ddX6_readOne [(17,[0]),(44,[1]),(71,[2]),(76,[1]),(85,[3])] [] [0,70,88] 600 q45_N = true := by decide +kernel
set_option maxHeartbeats 4000000 in
theorem q45_met {G : rfG} (h : okG G) : rf_met G q45_M := rf_methodB h.1 (P := q45_P) (U := q45_U) (N := q45_N) ⟨wflT h flokX6, wcsT h csokX6, wlcT h lcokX6, spokX6 h, List.forall_mem_cons.mpr ⟨q31_met h, List.forall_mem_cons.mpr ⟨q44_met h, List.forall_mem_cons.mpr ⟨q29_met h, List.forall_mem_cons.mpr ⟨q42_met h, fun _ h => absurd h List.not_mem_nil⟩⟩⟩⟩, fun _ h => absurd h List.not_mem_nil, List.forall_mem_cons.mpr ⟨fun M hM => Option.some.inj (show some q29_M = some M from hM) ▸ wlkV (lkX6_46 h) q29_M rfl rfl, List.forall_mem_cons.mpr ⟨fun M hM => Option.some.inj (show some q31_M = some M from hM) ▸ wlkV (lkX6_62 h) q31_M rfl rfl, List.forall_mem_cons.mpr ⟨fun M hM => Option.some.inj (show some q42_M = some M from hM) ▸ wlkV (lkX6_109 h) q42_M rfl rfl, List.forall_mem_cons.mpr ⟨fun M hM => Option.some.inj (show some q44_M = some M from hM) ▸ wlkV (lkX6_115 h) q44_M rfl rfl, fun _ h => absurd h List.not_mem_nil⟩⟩⟩⟩, fun _ h => absurd h List.not_mem_nil, fun _ h => absurd h List.not_mem_nil⟩ dkX6_readOne (by decide +kernel) (by rw [h.2.2.1]; exact q45_ok)
/-- NearSpell.Book.addStep -/
def q46_M : rfM := ((⟨"NearSpell$Book", "addStep", "(I)V"⟩, prog_3_method_6_code, 2, none), (0,0), ([.inr (.inl [10]),.inl (((-9),(-9),0),none)],[]), [(8,0),(10,12)], [(none,[],[((10,11),(1,300,1),none)])])
def q46_P : rfP := (flX1,csX1,lcX1,spX1,[],[],[],([],[]))
def q46_U : rfU := []
set_option maxHeartbeats 8000000 in
def q46_N : List rfB := [(0,([(0,.inr (.inl [10])),(1,.inl (((-9),(-9),0),none))],[],[]),(16,[]),0),
  (30,([(0,.inr (.inl [10])),(1,.inl (((-9),(-9),0),none))],[],[((10,11),(1,300,1),none)]),(0,[]),0)]
set_option maxRecDepth 100000 in
theorem q46_ok : rf_chkB q46_P q46_U wLay q46_M ddX1_addStep [] [] [0,30] 600 q46_N = true := by decide +kernel
set_option maxHeartbeats 4000000 in
theorem q46_met {G : rfG} (h : okG G) : rf_met G q46_M := rf_methodB h.1 (P := q46_P) (U := q46_U) (N := q46_N) ⟨wflT h flokX1, wcsT h csokX1, wlcT h lcokX1, spokX1 h, fun _ h => absurd h List.not_mem_nil, fun _ h => absurd h List.not_mem_nil, fun _ h => absurd h List.not_mem_nil, fun _ h => absurd h List.not_mem_nil, fun _ h => absurd h List.not_mem_nil⟩ dkX1_addStep (by decide +kernel) (by rw [h.2.2.1]; exact q46_ok)
/-- NearSpell.Book.addStep -/
def q47_M : rfM := ((⟨"NearSpell$Book", "addStep", "(I)V"⟩, prog_3_method_6_code, 2, none), (0,0), ([.inr (.inl [10]),.inl (((-8),(-8),0),none)],[]), [(8,0),(10,12)], [(none,[],[((10,11),(1,300,1),none)])])
def q47_P : rfP := (flX1,csX1,lcX1,spX1,[],[],[],([],[]))
def q47_U : rfU := []
set_option maxHeartbeats 8000000 in
def q47_N : List rfB := [(0,([(0,.inr (.inl [10])),(1,.inl (((-8),(-8),0),none))],[],[]),(16,[]),0),
  (30,([(0,.inr (.inl [10])),(1,.inl (((-8),(-8),0),none))],[],[((10,11),(1,300,1),none)]),(0,[]),0)]
set_option maxRecDepth 100000 in
theorem q47_ok : rf_chkB q47_P q47_U wLay q47_M ddX1_addStep [] [] [0,30] 600 q47_N = true := by decide +kernel
set_option maxHeartbeats 4000000 in
theorem q47_met {G : rfG} (h : okG G) : rf_met G q47_M := rf_methodB h.1 (P := q47_P) (U := q47_U) (N := q47_N) ⟨wflT h flokX1, wcsT h csokX1, wlcT h lcokX1, spokX1 h, fun _ h => absurd h List.not_mem_nil, fun _ h => absurd h List.not_mem_nil, fun _ h => absurd h List.not_mem_nil, fun _ h => absurd h List.not_mem_nil, fun _ h => absurd h List.not_mem_nil⟩ dkX1_addStep (by decide +kernel) (by rw [h.2.2.1]; exact q47_ok)
/-- NearSpell.Reader.readBoth -/
def q48_M : rfM := ((⟨"NearSpell$Reader", "readBoth", "(I)V"⟩, prog_8_method_10_code, 3, none), (11,241), ([.inr (.inl [11]),.inl ((7,7,0),none)],[]), [(8,0),(10,11),(10,12),(11,4),(11,5),(11,6),(11,7),(11,9),(11,10)], [(none,[],[])])
def ddX6_readBoth : List (Nat × Instr × Nat) := [(0,.aload_n 0,1),(1,.iload_n 1,1),(2,.invokevirtual 112,3),(5,.iconst 0,1),(6,.istore_n 2,1),(7,.iload_n 2,1),(8,.sipush 1600,3),(11,.if_icmp .ge 36,3),(14,.aload_n 0,1),(15,.getfield 49,3),(18,.bipush 8,2),(20,.if_icmp .ne 27,3),(23,.aload_n 0,1),(24,.invokevirtual 46,3),(27,.aload_n 0,1),(28,.iload_n 1,1),(29,.invokevirtual 112,3),(32,.aload_n 0,1),(33,.getfield 15,3),(36,.bipush (-8),2),(38,.invokevirtual 109,3),(41,.iinc 2 1,3),(44,.goto (-37),3),(47,.return_,1)]
set_option maxRecDepth 100000 in
theorem dkX6_readBoth : rf_decs prog_8_method_10_code ddX6_readBoth := rf_decs_of (by decide +kernel)
def q48_P : rfP := (flX6,csX6,lcX6,spX6,[q45_M,q29_M,q47_M],[],[(46,1,6),(109,2,1),(112,0,6)],([],[]))
def q48_U : rfU := []
set_option maxHeartbeats 8000000 in
def q48_N : List rfB := [(0,([(0,.inr (.inl [11])),(1,.inl ((7,7,0),none))],[],[]),(30424,[0]),0),
  (7,([(0,.inr (.inl [11])),(1,.inl ((7,7,0),none)),(2,.inl ((0,1600,1),none))],[],[]),(30417,[(-19)]),0),
  (47,([(0,.inr (.inl [11])),(1,.inl ((7,7,0),none)),(2,.inl ((0,1600,1),none))],[],[]),(0,[0]),0)]
set_option maxRecDepth 100000 in
theorem q48_ok : rf_chkB q48_P q48_U wLay q48_M ddX6_readBoth [(2,[0]),(24,[1]),(29,[0]),(38,[2])] [.inl 2] [0,7,47] 600 q48_N = true := by decide +kernel
set_option maxHeartbeats 4000000 in
theorem q48_met {G : rfG} (h : okG G) : rf_met G q48_M := rf_methodB h.1 (P := q48_P) (U := q48_U) (N := q48_N) ⟨wflT h flokX6, wcsT h csokX6, wlcT h lcokX6, spokX6 h, List.forall_mem_cons.mpr ⟨q45_met h, List.forall_mem_cons.mpr ⟨q29_met h, List.forall_mem_cons.mpr ⟨q47_met h, fun _ h => absurd h List.not_mem_nil⟩⟩⟩, fun _ h => absurd h List.not_mem_nil, List.forall_mem_cons.mpr ⟨fun M hM => Option.some.inj (show some q29_M = some M from hM) ▸ wlkV (lkX6_46 h) q29_M rfl rfl, List.forall_mem_cons.mpr ⟨fun M hM => Option.some.inj (show some q47_M = some M from hM) ▸ wlkV (lkX6_109 h) q47_M rfl rfl, List.forall_mem_cons.mpr ⟨fun M hM => Option.some.inj (show some q45_M = some M from hM) ▸ wlkV (lkX6_112 h) q45_M rfl rfl, fun _ h => absurd h List.not_mem_nil⟩⟩⟩, fun _ h => absurd h List.not_mem_nil, fun _ h => absurd h List.not_mem_nil⟩ dkX6_readBoth (by decide +kernel) (by rw [h.2.2.1]; exact q48_ok)
/-- NearSpell.Book.addStep -/
def q49_M : rfM := ((⟨"NearSpell$Book", "addStep", "(I)V"⟩, prog_3_method_6_code, 2, none), (0,0), ([.inr (.inl [10]),.inl (((-7),(-7),0),none)],[]), [(8,0),(10,12)], [(none,[],[((10,11),(1,300,1),none)])])
def q49_P : rfP := (flX1,csX1,lcX1,spX1,[],[],[],([],[]))
def q49_U : rfU := []
set_option maxHeartbeats 8000000 in
def q49_N : List rfB := [(0,([(0,.inr (.inl [10])),(1,.inl (((-7),(-7),0),none))],[],[]),(16,[]),0),
  (30,([(0,.inr (.inl [10])),(1,.inl (((-7),(-7),0),none))],[],[((10,11),(1,300,1),none)]),(0,[]),0)]
set_option maxRecDepth 100000 in
theorem q49_ok : rf_chkB q49_P q49_U wLay q49_M ddX1_addStep [] [] [0,30] 600 q49_N = true := by decide +kernel
set_option maxHeartbeats 4000000 in
theorem q49_met {G : rfG} (h : okG G) : rf_met G q49_M := rf_methodB h.1 (P := q49_P) (U := q49_U) (N := q49_N) ⟨wflT h flokX1, wcsT h csokX1, wlcT h lcokX1, spokX1 h, fun _ h => absurd h List.not_mem_nil, fun _ h => absurd h List.not_mem_nil, fun _ h => absurd h List.not_mem_nil, fun _ h => absurd h List.not_mem_nil, fun _ h => absurd h List.not_mem_nil⟩ dkX1_addStep (by decide +kernel) (by rw [h.2.2.1]; exact q49_ok)
