/-- NearSpell.Laid.tallyEntry -/
def q600_M : rfM := ((⟨"NearSpell$Laid", "tallyEntry", "(IZ)V"⟩, prog_6_method_13_code, 7, none), (4,94), ([.inr (.inl [53]),.inl ((0,3,1),none),.inl ((0,0,0),none)],[]), [(4,0),(5,13),(52,0)], [(none,[],[])])
def q600_P : rfP := (flX4,csX4,lcX4,spX4,[q432_M],[],[(92,0,1)],([],[]))
def q600_U : rfU := []
set_option maxHeartbeats 8000000 in
def q600_N : List rfB := [(0,([(0,.inr (.inl [53])),(1,.inl ((0,3,1),none)),(2,.inl ((0,0,0),none))],[],[]),(743,[0]),0),
  (10,([(0,.inr (.inl [53])),(1,.inl ((0,3,1),none)),(2,.inl ((0,0,0),none)),(3,.inr (.inl [22,24,26,28,30,32,34,36,38,40,42,44,46,48])),(4,.inl ((0,22,1),none))],[],[]),(734,[(-32)]),0)]
set_option maxRecDepth 100000 in
theorem q600_ok : rf_chkB q600_P q600_U wLay q600_M ddX4_tallyEntry [(30,[0])] [.inl 4] [0,10] 600 q600_N = true := by decide +kernel
set_option maxHeartbeats 4000000 in
theorem q600_met {G : rfG} (h : okG G) : rf_met G q600_M := rf_methodB h.1 (P := q600_P) (U := q600_U) (N := q600_N) ⟨wflT h flokX4, wcsT h csokX4, wlcT h lcokX4, spokX4 h, List.forall_mem_cons.mpr ⟨q432_met h, fun _ h => absurd h List.not_mem_nil⟩, fun _ h => absurd h List.not_mem_nil, List.forall_mem_cons.mpr ⟨fun M hM => Option.some.inj (show some q432_M = some M from hM) ▸ wlkV (lkX4_92 h) q432_M rfl rfl, fun _ h => absurd h List.not_mem_nil⟩, fun _ h => absurd h List.not_mem_nil, fun _ h => absurd h List.not_mem_nil⟩ dkX4_tallyEntry (by decide +kernel) (by rw [h.2.2.1]; exact q600_ok)
/-- NearSpell.Laid.tallyEntry -/
def q601_M : rfM := ((⟨"NearSpell$Laid", "tallyEntry", "(IZ)V"⟩, prog_6_method_13_code, 7, none), (4,94), ([.inr (.inl [53]),.inl ((0,12,1),none),.inl ((0,0,0),none)],[]), [(4,0),(5,13),(52,0)], [(none,[],[])])
def q601_P : rfP := (flX4,csX4,lcX4,spX4,[q432_M],[],[(92,0,1)],([],[]))
def q601_U : rfU := []
set_option maxHeartbeats 8000000 in
def q601_N : List rfB := [(0,([(0,.inr (.inl [53])),(1,.inl ((0,12,1),none)),(2,.inl ((0,0,0),none))],[],[]),(743,[0]),0),
  (10,([(0,.inr (.inl [53])),(1,.inl ((0,12,1),none)),(2,.inl ((0,0,0),none)),(3,.inr (.inl [22,24,26,28,30,32,34,36,38,40,42,44,46,48])),(4,.inl ((0,22,1),none))],[],[]),(734,[(-32)]),0)]
set_option maxRecDepth 100000 in
theorem q601_ok : rf_chkB q601_P q601_U wLay q601_M ddX4_tallyEntry [(30,[0])] [.inl 4] [0,10] 600 q601_N = true := by decide +kernel
set_option maxHeartbeats 4000000 in
theorem q601_met {G : rfG} (h : okG G) : rf_met G q601_M := rf_methodB h.1 (P := q601_P) (U := q601_U) (N := q601_N) ⟨wflT h flokX4, wcsT h csokX4, wlcT h lcokX4, spokX4 h, List.forall_mem_cons.mpr ⟨q432_met h, fun _ h => absurd h List.not_mem_nil⟩, fun _ h => absurd h List.not_mem_nil, List.forall_mem_cons.mpr ⟨fun M hM => Option.some.inj (show some q432_M = some M from hM) ▸ wlkV (lkX4_92 h) q432_M rfl rfl, fun _ h => absurd h List.not_mem_nil⟩, fun _ h => absurd h List.not_mem_nil, fun _ h => absurd h List.not_mem_nil⟩ dkX4_tallyEntry (by decide +kernel) (by rw [h.2.2.1]; exact q601_ok)
/-- NearSpell.Laid.tallyEntry -/
def q602_M : rfM := ((⟨"NearSpell$Laid", "tallyEntry", "(IZ)V"⟩, prog_6_method_13_code, 7, none), (4,94), ([.inr (.inl [53]),.inl ((0,13,1),none),.inl ((0,0,0),none)],[]), [(4,0),(5,13),(52,0)], [(none,[],[])])
def q602_P : rfP := (flX4,csX4,lcX4,spX4,[q432_M],[],[(92,0,1)],([],[]))
def q602_U : rfU := []
set_option maxHeartbeats 8000000 in
def q602_N : List rfB := [(0,([(0,.inr (.inl [53])),(1,.inl ((0,13,1),none)),(2,.inl ((0,0,0),none))],[],[]),(743,[0]),0),
  (10,([(0,.inr (.inl [53])),(1,.inl ((0,13,1),none)),(2,.inl ((0,0,0),none)),(3,.inr (.inl [22,24,26,28,30,32,34,36,38,40,42,44,46,48])),(4,.inl ((0,22,1),none))],[],[]),(734,[(-32)]),0)]
set_option maxRecDepth 100000 in
theorem q602_ok : rf_chkB q602_P q602_U wLay q602_M ddX4_tallyEntry [(30,[0])] [.inl 4] [0,10] 600 q602_N = true := by decide +kernel
set_option maxHeartbeats 4000000 in
theorem q602_met {G : rfG} (h : okG G) : rf_met G q602_M := rf_methodB h.1 (P := q602_P) (U := q602_U) (N := q602_N) ⟨wflT h flokX4, wcsT h csokX4, wlcT h lcokX4, spokX4 h, List.forall_mem_cons.mpr ⟨q432_met h, fun _ h => absurd h List.not_mem_nil⟩, fun _ h => absurd h List.not_mem_nil, List.forall_mem_cons.mpr ⟨fun M hM => Option.some.inj (show some q432_M = some M from hM) ▸ wlkV (lkX4_92 h) q432_M rfl rfl, fun _ h => absurd h List.not_mem_nil⟩, fun _ h => absurd h List.not_mem_nil, fun _ h => absurd h List.not_mem_nil⟩ dkX4_tallyEntry (by decide +kernel) (by rw [h.2.2.1]; exact q602_ok)
/-- NearSpell.Laid.tally -/
def q603_M : rfM := ((⟨"NearSpell$Laid", "tally", "(Z)V"⟩, prog_6_method_12_code, 3, none), (5,120), ([.inr (.inl [53]),.inl ((0,0,0),none)],[]), [(4,0),(5,13),(21,0),(22,2),(22,3),(22,4),(22,5),(23,0),(24,2),(24,3),(24,4),(24,5),(25,0),(26,2),(26,3),(26,4),(26,5),(27,0),(28,2),(28,3),(28,4),(28,5),(29,0),(30,2),(30,3),(30,4),(30,5),(31,0),(32,2),(32,3),(32,4),(32,5),(33,0),(34,2),(34,3),(34,4),(34,5),(35,0),(36,2),(36,3),(36,4),(36,5),(37,0),(38,2),(38,3),(38,4),(38,5),(39,0),(40,2),(40,3),(40,4),(40,5),(41,0),(42,2),(42,3),(42,4),(42,5),(43,0),(44,2),(44,3),(44,4),(44,5),(45,0),(46,2),(46,3),(46,4),(46,5),(47,0),(48,2),(48,3),(48,4),(48,5),(52,0)], [(none,[],[])])
def ddX4_tally : List (Nat × Instr × Nat) := [(0,.aload_n 0,1),(1,.invokevirtual 72,3),(4,.iconst 0,1),(5,.istore_n 2,1),(6,.iload_n 2,1),(7,.bipush 31,2),(9,.if_icmp .ge 16,3),(12,.aload_n 0,1),(13,.getfield 30,3),(16,.iload_n 2,1),(17,.iconst 0,1),(18,.iastore,1),(19,.iinc 2 1,3),(22,.goto (-16),3),(25,.iconst 0,1),(26,.istore_n 2,1),(27,.iload_n 2,1),(28,.aload_n 0,1),(29,.getfield 15,3),(32,.invokevirtual 57,3),(35,.if_icmp .ge 26,3),(38,.aload_n 0,1),(39,.getfield 15,3),(42,.iload_n 2,1),(43,.invokevirtual 65,3),(46,.ifCond .eq 9,3),(49,.aload_n 0,1),(50,.iload_n 2,1),(51,.iload_n 1,1),(52,.invokevirtual 88,3),(55,.iinc 2 1,3),(58,.goto (-31),3),(61,.return_,1)]
set_option maxRecDepth 100000 in
theorem dkX4_tally : rf_decs prog_6_method_12_code ddX4_tally := rf_decs_of (by decide +kernel)
def q603_P : rfP := (flX4,csX4,lcX4,spX4,[q596_M,q187_M,q185_M,q602_M],[],[(57,1,8),(65,2,8),(72,0,4),(88,3,4)],([],[]))
def q603_U : rfU := []
set_option maxHeartbeats 8000000 in
def q603_N : List rfB := [(0,([(0,.inr (.inl [53])),(1,.inl ((0,0,0),none))],[],[]),(628,[0]),0),
  (6,([(0,.inr (.inl [53])),(1,.inl ((0,0,0),none)),(2,.inl ((0,31,1),none))],[],[]),(622,[(-11)]),0),
  (27,([(0,.inr (.inl [53])),(1,.inl ((0,0,0),none)),(2,.inl ((0,14,1),none))],[],[]),(268,[(-18)]),0),
  (55,([(0,.inr (.inl [53])),(1,.inl ((0,0,0),none)),(2,.inl ((0,13,1),none))],[],[]),(253,[(-18)]),0)]
set_option maxRecDepth 100000 in
theorem q603_ok : rf_chkB q603_P q603_U wLay q603_M ddX4_tally [(1,[0]),(32,[1]),(43,[2]),(52,[3])] [.inl 2] [0,6,27,55] 600 q603_N = true := by decide +kernel
set_option maxHeartbeats 4000000 in
theorem q603_met {G : rfG} (h : okG G) : rf_met G q603_M := rf_methodB h.1 (P := q603_P) (U := q603_U) (N := q603_N) ⟨wflT h flokX4, wcsT h csokX4, wlcT h lcokX4, spokX4 h, List.forall_mem_cons.mpr ⟨q596_met h, List.forall_mem_cons.mpr ⟨q187_met h, List.forall_mem_cons.mpr ⟨q185_met h, List.forall_mem_cons.mpr ⟨q602_met h, fun _ h => absurd h List.not_mem_nil⟩⟩⟩⟩, fun _ h => absurd h List.not_mem_nil, List.forall_mem_cons.mpr ⟨fun M hM => Option.some.inj (show some q187_M = some M from hM) ▸ wlkV (lkX4_57 h) q187_M rfl rfl, List.forall_mem_cons.mpr ⟨fun M hM => Option.some.inj (show some q185_M = some M from hM) ▸ wlkV (lkX4_65 h) q185_M rfl rfl, List.forall_mem_cons.mpr ⟨fun M hM => Option.some.inj (show some q596_M = some M from hM) ▸ wlkV (lkX4_72 h) q596_M rfl rfl, List.forall_mem_cons.mpr ⟨fun M hM => Option.some.inj (show some q602_M = some M from hM) ▸ wlkV (lkX4_88 h) q602_M rfl rfl, fun _ h => absurd h List.not_mem_nil⟩⟩⟩⟩, fun _ h => absurd h List.not_mem_nil, fun _ h => absurd h List.not_mem_nil⟩ dkX4_tally (by decide +kernel) (by rw [h.2.2.1]; exact q603_ok)
/-- NearSpell.Laid.countIn -/
def q604_M : rfM := ((⟨"NearSpell$Laid", "countIn", "(I)I"⟩, prog_6_method_5_code, 2, (some .int)), (6,142), ([.inr (.inl [53]),.inl ((0,30,1),none)],[]), [(4,0),(5,13),(21,0),(22,2),(22,3),(22,4),(22,5),(23,0),(24,2),(24,3),(24,4),(24,5),(25,0),(26,2),(26,3),(26,4),(26,5),(27,0),(28,2),(28,3),(28,4),(28,5),(29,0),(30,2),(30,3),(30,4),(30,5),(31,0),(32,2),(32,3),(32,4),(32,5),(33,0),(34,2),(34,3),(34,4),(34,5),(35,0),(36,2),(36,3),(36,4),(36,5),(37,0),(38,2),(38,3),(38,4),(38,5),(39,0),(40,2),(40,3),(40,4),(40,5),(41,0),(42,2),(42,3),(42,4),(42,5),(43,0),(44,2),(44,3),(44,4),(44,5),(45,0),(46,2),(46,3),(46,4),(46,5),(47,0),(48,2),(48,3),(48,4),(48,5),(52,0)], [(some (.inl (((-2147483648),2147483647,1),none)),[],[])])
def ddX4_countIn : List (Nat × Instr × Nat) := [(0,.aload_n 0,1),(1,.iconst 0,1),(2,.invokevirtual 61,3),(5,.iload_n 1,1),(6,.ifCond .lt 18,3),(9,.iload_n 1,1),(10,.bipush 31,2),(12,.if_icmp .ge 12,3),(15,.aload_n 0,1),(16,.getfield 30,3),(19,.iload_n 1,1),(20,.iaload,1),(21,.goto 4,3),(24,.iconst 0,1),(25,.ireturn,1)]
set_option maxRecDepth 100000 in
theorem dkX4_countIn : rf_decs prog_6_method_5_code ddX4_countIn := rf_decs_of (by decide +kernel)
def q604_P : rfP := (flX4,csX4,lcX4,spX4,[q603_M],[],[(61,0,4)],([],[]))
def q604_U : rfU := []
set_option maxHeartbeats 8000000 in
def q604_N : List rfB := [(0,([(0,.inr (.inl [53])),(1,.inl ((0,30,1),none))],[],[]),(13,[]),0)]
set_option maxRecDepth 100000 in
theorem q604_ok : rf_chkB q604_P q604_U wLay q604_M ddX4_countIn [(2,[0])] [] [0] 600 q604_N = true := by decide +kernel
set_option maxHeartbeats 4000000 in
theorem q604_met {G : rfG} (h : okG G) : rf_met G q604_M := rf_methodB h.1 (P := q604_P) (U := q604_U) (N := q604_N) ⟨wflT h flokX4, wcsT h csokX4, wlcT h lcokX4, spokX4 h, List.forall_mem_cons.mpr ⟨q603_met h, fun _ h => absurd h List.not_mem_nil⟩, fun _ h => absurd h List.not_mem_nil, List.forall_mem_cons.mpr ⟨fun M hM => Option.some.inj (show some q603_M = some M from hM) ▸ wlkV (lkX4_61 h) q603_M rfl rfl, fun _ h => absurd h List.not_mem_nil⟩, fun _ h => absurd h List.not_mem_nil, fun _ h => absurd h List.not_mem_nil⟩ dkX4_countIn (by decide +kernel) (by rw [h.2.2.1]; exact q604_ok)
/-- NearSpell.load -/
def q605_M : rfM := ((⟨"NearSpell", "load", "(I)I"⟩, prog_1_method_33_code, 2, (some .int)), (7,163), ([.inr (.inl [70]),.inl (((-2147483648),2147483647,1),none)],[]), [(4,0),(5,13),(21,0),(22,2),(22,3),(22,4),(22,5),(23,0),(24,2),(24,3),(24,4),(24,5),(25,0),(26,2),(26,3),(26,4),(26,5),(27,0),(28,2),(28,3),(28,4),(28,5),(29,0),(30,2),(30,3),(30,4),(30,5),(31,0),(32,2),(32,3),(32,4),(32,5),(33,0),(34,2),(34,3),(34,4),(34,5),(35,0),(36,2),(36,3),(36,4),(36,5),(37,0),(38,2),(38,3),(38,4),(38,5),(39,0),(40,2),(40,3),(40,4),(40,5),(41,0),(42,2),(42,3),(42,4),(42,5),(43,0),(44,2),(44,3),(44,4),(44,5),(45,0),(46,2),(46,3),(46,4),(46,5),(47,0),(48,2),(48,3),(48,4),(48,5),(52,0)], [(some (.inl (((-2147483648),2147483647,1),none)),[],[])])
def ddX11_load : List (Nat × Instr × Nat) := [(0,.iload_n 1,1),(1,.ifCond .lt 25,3),(4,.iload_n 1,1),(5,.aload_n 0,1),(6,.getfield 16,3),(9,.getfield 294,3),(12,.if_icmp .ge 14,3),(15,.aload_n 0,1),(16,.getfield 58,3),(19,.iload_n 1,1),(20,.invokevirtual 297,3),(23,.goto 4,3),(26,.iconst (-1),1),(27,.ireturn,1)]
set_option maxRecDepth 100000 in
theorem dkX11_load : rf_decs prog_1_method_33_code ddX11_load := rf_decs_of (by decide +kernel)
def q605_P : rfP := (flX11,csX11,lcX11,spX11,[q604_M],[],[(297,0,4)],([],[]))
def q605_U : rfU := []
set_option maxHeartbeats 8000000 in
def q605_N : List rfB := [(0,([(0,.inr (.inl [70])),(1,.inl (((-2147483648),2147483647,1),none))],[],[]),(14,[]),0),
  (26,([(0,.inr (.inl [70])),(1,.inl (((-2147483648),2147483647,1),none))],[],[]),(1,[]),0)]
set_option maxRecDepth 100000 in
theorem q605_ok : rf_chkB q605_P q605_U wLay q605_M ddX11_load [(20,[0])] [] [0,26] 600 q605_N = true := by decide +kernel
set_option maxHeartbeats 4000000 in
theorem q605_met {G : rfG} (h : okG G) : rf_met G q605_M := rf_methodB h.1 (P := q605_P) (U := q605_U) (N := q605_N) ⟨wflT h flokX11, wcsT h csokX11, wlcT h lcokX11, spokX11 h, List.forall_mem_cons.mpr ⟨q604_met h, fun _ h => absurd h List.not_mem_nil⟩, fun _ h => absurd h List.not_mem_nil, List.forall_mem_cons.mpr ⟨fun M hM => Option.some.inj (show some q604_M = some M from hM) ▸ wlkV (lkX11_297 h) q604_M rfl rfl, fun _ h => absurd h List.not_mem_nil⟩, fun _ h => absurd h List.not_mem_nil, fun _ h => absurd h List.not_mem_nil⟩ dkX11_load (by decide +kernel) (by rw [h.2.2.1]; exact q605_ok)
/-- NearSpell.Laid.fullestBucket -/
def q606_M : rfM := ((⟨"NearSpell$Laid", "fullestBucket", "()I"⟩, prog_6_method_6_code, 3, (some .int)), (6,142), ([.inr (.inl [53])],[]), [(4,0),(5,13),(21,0),(22,2),(22,3),(22,4),(22,5),(23,0),(24,2),(24,3),(24,4),(24,5),(25,0),(26,2),(26,3),(26,4),(26,5),(27,0),(28,2),(28,3),(28,4),(28,5),(29,0),(30,2),(30,3),(30,4),(30,5),(31,0),(32,2),(32,3),(32,4),(32,5),(33,0),(34,2),(34,3),(34,4),(34,5),(35,0),(36,2),(36,3),(36,4),(36,5),(37,0),(38,2),(38,3),(38,4),(38,5),(39,0),(40,2),(40,3),(40,4),(40,5),(41,0),(42,2),(42,3),(42,4),(42,5),(43,0),(44,2),(44,3),(44,4),(44,5),(45,0),(46,2),(46,3),(46,4),(46,5),(47,0),(48,2),(48,3),(48,4),(48,5),(52,0)], [(some (.inl ((0,30,1),none)),[],[])])
def ddX4_fullestBucket : List (Nat × Instr × Nat) := [(0,.aload_n 0,1),(1,.iconst 0,1),(2,.invokevirtual 61,3),(5,.iconst 0,1),(6,.istore_n 1,1),(7,.iconst 1,1),(8,.istore_n 2,1),(9,.iload_n 2,1),(10,.bipush 31,2),(12,.if_icmp .ge 26,3),(15,.aload_n 0,1),(16,.getfield 30,3),(19,.iload_n 2,1),(20,.iaload,1),(21,.aload_n 0,1),(22,.getfield 30,3),(25,.iload_n 1,1),(26,.iaload,1),(27,.if_icmp .le 5,3),(30,.iload_n 2,1),(31,.istore_n 1,1),(32,.iinc 2 1,3),(35,.goto (-26),3),(38,.iload_n 1,1),(39,.ireturn,1)]
set_option maxRecDepth 100000 in
theorem dkX4_fullestBucket : rf_decs prog_6_method_6_code ddX4_fullestBucket := rf_decs_of (by decide +kernel)
def q606_P : rfP := (flX4,csX4,lcX4,spX4,[q603_M],[],[(61,0,4)],([],[]))
def q606_U : rfU := []
set_option maxHeartbeats 8000000 in
def q606_N : List rfB := [(0,([(0,.inr (.inl [53]))],[],[]),(535,[0]),0),
  (9,([(0,.inr (.inl [53])),(1,.inl ((0,30,1),none)),(2,.inl ((1,31,1),none))],[],[]),(543,[(-17)]),0),
  (32,([(0,.inr (.inl [53])),(1,.inl ((0,30,1),none)),(2,.inl ((1,30,1),none))],[],[]),(529,[(-17)]),0)]
set_option maxRecDepth 100000 in
theorem q606_ok : rf_chkB q606_P q606_U wLay q606_M ddX4_fullestBucket [(2,[0])] [.inl 2] [0,9,32] 600 q606_N = true := by decide +kernel
set_option maxHeartbeats 4000000 in
theorem q606_met {G : rfG} (h : okG G) : rf_met G q606_M := rf_methodB h.1 (P := q606_P) (U := q606_U) (N := q606_N) ⟨wflT h flokX4, wcsT h csokX4, wlcT h lcokX4, spokX4 h, List.forall_mem_cons.mpr ⟨q603_met h, fun _ h => absurd h List.not_mem_nil⟩, fun _ h => absurd h List.not_mem_nil, List.forall_mem_cons.mpr ⟨fun M hM => Option.some.inj (show some q603_M = some M from hM) ▸ wlkV (lkX4_61 h) q603_M rfl rfl, fun _ h => absurd h List.not_mem_nil⟩, fun _ h => absurd h List.not_mem_nil, fun _ h => absurd h List.not_mem_nil⟩ dkX4_fullestBucket (by decide +kernel) (by rw [h.2.2.1]; exact q606_ok)
/-- NearSpell.fullest -/
def q607_M : rfM := ((⟨"NearSpell", "fullest", "()I"⟩, prog_1_method_34_code, 1, (some .int)), (7,164), ([.inr (.inl [70])],[]), [(4,0),(5,13),(21,0),(22,2),(22,3),(22,4),(22,5),(23,0),(24,2),(24,3),(24,4),(24,5),(25,0),(26,2),(26,3),(26,4),(26,5),(27,0),(28,2),(28,3),(28,4),(28,5),(29,0),(30,2),(30,3),(30,4),(30,5),(31,0),(32,2),(32,3),(32,4),(32,5),(33,0),(34,2),(34,3),(34,4),(34,5),(35,0),(36,2),(36,3),(36,4),(36,5),(37,0),(38,2),(38,3),(38,4),(38,5),(39,0),(40,2),(40,3),(40,4),(40,5),(41,0),(42,2),(42,3),(42,4),(42,5),(43,0),(44,2),(44,3),(44,4),(44,5),(45,0),(46,2),(46,3),(46,4),(46,5),(47,0),(48,2),(48,3),(48,4),(48,5),(52,0)], [(some (.inl ((0,30,1),none)),[],[])])
def ddX11_fullest : List (Nat × Instr × Nat) := [(0,.aload_n 0,1),(1,.getfield 58,3),(4,.invokevirtual 300,3),(7,.ireturn,1)]
set_option maxRecDepth 100000 in
theorem dkX11_fullest : rf_decs prog_1_method_34_code ddX11_fullest := rf_decs_of (by decide +kernel)
def q607_P : rfP := (flX11,csX11,lcX11,spX11,[q606_M],[],[(300,0,4)],([],[]))
def q607_U : rfU := []
set_option maxHeartbeats 8000000 in
def q607_N : List rfB := [(0,([(0,.inr (.inl [70]))],[],[]),(3,[]),0)]
set_option maxRecDepth 100000 in
theorem q607_ok : rf_chkB q607_P q607_U wLay q607_M ddX11_fullest [(4,[0])] [] [0] 600 q607_N = true := by decide +kernel
set_option maxHeartbeats 4000000 in
theorem q607_met {G : rfG} (h : okG G) : rf_met G q607_M := rf_methodB h.1 (P := q607_P) (U := q607_U) (N := q607_N) ⟨wflT h flokX11, wcsT h csokX11, wlcT h lcokX11, spokX11 h, List.forall_mem_cons.mpr ⟨q606_met h, fun _ h => absurd h List.not_mem_nil⟩, fun _ h => absurd h List.not_mem_nil, List.forall_mem_cons.mpr ⟨fun M hM => Option.some.inj (show some q606_M = some M from hM) ▸ wlkV (lkX11_300 h) q606_M rfl rfl, fun _ h => absurd h List.not_mem_nil⟩, fun _ h => absurd h List.not_mem_nil, fun _ h => absurd h List.not_mem_nil⟩ dkX11_fullest (by decide +kernel) (by rw [h.2.2.1]; exact q607_ok)
/-- NearSpell.FormList.fill -/
def q608_M : rfM := ((⟨"NearSpell$FormList", "fill", "(III)V"⟩, prog_5_method_2_code, 5, none), (2,48), ([.inr (.inl [50]),.inl (((-2147483648),2147483647,1),none),.inl ((1,6,1),none),.inl ((0,2,1),none)],[]), [(49,0),(50,2),(50,3),(50,4),(50,5)], [(none,[],[((50,3),(1,6,1),none),((50,4),(0,2,1),none)])])
def q608_P : rfP := (flX3,csX3,lcX3,spX3,[q113_M,q211_M,q213_M],[(28,0)],[(32,1,3),(36,2,3)],([],[]))
def q608_U : rfU := []
set_option maxHeartbeats 8000000 in
def q608_N : List rfB := [(0,([(0,.inr (.inl [50])),(1,.inl (((-2147483648),2147483647,1),none)),(2,.inl ((1,6,1),none)),(3,.inl ((0,2,1),none))],[],[]),(40,[]),0),
  (25,([(0,.inr (.inl [50])),(1,.inl (((-2147483648),2147483647,1),none)),(2,.inl ((1,6,1),none)),(3,.inl ((0,2,1),none))],[],[]),(27,[]),0),
  (77,([(0,.inr (.inl [50])),(1,.inl (((-2147483648),2147483647,1),none)),(2,.inl ((1,6,1),none)),(3,.inl ((0,2,1),none)),(4,.inl (((-2147483648),2147483647,1),none))],[],[((50,3),(1,6,1),none),((50,4),(0,2,1),none)]),(0,[]),0)]
set_option maxRecDepth 100000 in
theorem q608_ok : rf_chkB q608_P q608_U wLay q608_M ddX3_fill [(53,[0]),(61,[1]),(74,[2])] [] [0,25,77] 600 q608_N = true := by decide +kernel
set_option maxHeartbeats 4000000 in
theorem q608_met {G : rfG} (h : okG G) : rf_met G q608_M := rf_methodB h.1 (P := q608_P) (U := q608_U) (N := q608_N) ⟨wflT h flokX3, wcsT h csokX3, wlcT h lcokX3, spokX3 h, List.forall_mem_cons.mpr ⟨q113_met h, List.forall_mem_cons.mpr ⟨q211_met h, List.forall_mem_cons.mpr ⟨q213_met h, fun _ h => absurd h List.not_mem_nil⟩⟩⟩, List.forall_mem_cons.mpr ⟨fun M hM => Option.some.inj (show some q113_M = some M from hM) ▸ wlkS (lkX3_28 h) q113_M rfl rfl, fun _ h => absurd h List.not_mem_nil⟩, List.forall_mem_cons.mpr ⟨fun M hM => Option.some.inj (show some q211_M = some M from hM) ▸ wlkV (lkX3_32 h) q211_M rfl rfl, List.forall_mem_cons.mpr ⟨fun M hM => Option.some.inj (show some q213_M = some M from hM) ▸ wlkV (lkX3_36 h) q213_M rfl rfl, fun _ h => absurd h List.not_mem_nil⟩⟩, fun _ h => absurd h List.not_mem_nil, fun _ h => absurd h List.not_mem_nil⟩ dkX3_fill (by decide +kernel) (by rw [h.2.2.1]; exact q608_ok)
/-- NearSpell.State.isEntry -/
def q609_M : rfM := ((⟨"NearSpell$State", "isEntry", "(I)Z"⟩, prog_10_method_6_code, 2, (some .boolean)), (0,0), ([.inr (.inl [13]),.inl ((0,5,1),none)],[]), [], [(some (.inl ((1,1,0),none)),[],[((12,34),(1,14,1),none)]),(some (.inl ((0,0,0),none)),[],[])])
def q609_P : rfP := (flX8,csX8,lcX8,spX8,[],[],[],([],[]))
def q609_U : rfU := []
set_option maxHeartbeats 8000000 in
def q609_N : List rfB := [(0,([(0,.inr (.inl [13])),(1,.inl ((0,5,1),none))],[],[]),(20,[]),0),
  (32,([(0,.inr (.inl [13])),(1,.inl ((0,5,1),none))],[],[]),(1,[]),0)]
set_option maxRecDepth 100000 in
theorem q609_ok : rf_chkB q609_P q609_U wLay q609_M ddX8_isEntry [] [] [0,32] 600 q609_N = true := by decide +kernel
set_option maxHeartbeats 4000000 in
theorem q609_met {G : rfG} (h : okG G) : rf_met G q609_M := rf_methodB h.1 (P := q609_P) (U := q609_U) (N := q609_N) ⟨wflT h flokX8, wcsT h csokX8, wlcT h lcokX8, spokX8 h, fun _ h => absurd h List.not_mem_nil, fun _ h => absurd h List.not_mem_nil, fun _ h => absurd h List.not_mem_nil, fun _ h => absurd h List.not_mem_nil, fun _ h => absurd h List.not_mem_nil⟩ dkX8_isEntry (by decide +kernel) (by rw [h.2.2.1]; exact q609_ok)
/-- NearSpell.Laid.countAll -/
def q610_M : rfM := ((⟨"NearSpell$Laid", "countAll", "(I)I"⟩, prog_6_method_7_code, 4, (some .int)), (3,72), ([.inr (.inl [53]),.inl ((0,2,1),none)],[]), [(49,0),(50,2),(50,3),(50,4),(50,5)], [(some (.inl (((-2147483648),2147483647,1),none)),[],[])])
def ddX4_countAll : List (Nat × Instr × Nat) := [(0,.iconst 0,1),(1,.istore_n 2,1),(2,.iconst 0,1),(3,.istore_n 3,1),(4,.iload_n 3,1),(5,.aload_n 0,1),(6,.getfield 15,3),(9,.invokevirtual 57,3),(12,.if_icmp .ge 53,3),(15,.aload_n 0,1),(16,.getfield 15,3),(19,.iload_n 3,1),(20,.invokevirtual 65,3),(23,.ifCond .eq 36,3),(26,.aload_n 0,1),(27,.getfield 26,3),(30,.aload_n 0,1),(31,.getfield 15,3),(34,.iload_n 3,1),(35,.invokevirtual 51,3),(38,.aload_n 0,1),(39,.getfield 9,3),(42,.getfield 34,3),(45,.iload_n 1,1),(46,.invokevirtual 43,3),(49,.iload_n 2,1),(50,.aload_n 0,1),(51,.getfield 26,3),(54,.getfield 69,3),(57,.iadd,1),(58,.istore_n 2,1),(59,.iinc 3 1,3),(62,.goto (-58),3),(65,.iload_n 2,1),(66,.ireturn,1)]
set_option maxRecDepth 100000 in
theorem dkX4_countAll : rf_decs prog_6_method_7_code ddX4_countAll := rf_decs_of (by decide +kernel)
def q610_P : rfP := (flX4,csX4,lcX4,spX4,[q187_M,q185_M,q110_M,q608_M],[],[(43,3,3),(51,2,8),(57,0,8),(65,1,8)],([],[]))
def q610_U : rfU := []
set_option maxHeartbeats 8000000 in
def q610_N : List rfB := [(0,([(0,.inr (.inl [53])),(1,.inl ((0,2,1),none))],[],[]),(470,[0]),0),
  (4,([(0,.inr (.inl [53])),(1,.inl ((0,2,1),none)),(2,.inl (((-2147483648),2147483647,1),none)),(3,.inl ((0,14,1),none))],[],[]),(464,[(-31)]),0),
  (59,([(0,.inr (.inl [53])),(1,.inl ((0,2,1),none)),(2,.inl (((-2147483648),2147483647,1),none)),(3,.inl ((0,13,1),none))],[],[]),(436,[(-31)]),0)]
set_option maxRecDepth 100000 in
theorem q610_ok : rf_chkB q610_P q610_U wLay q610_M ddX4_countAll [(9,[0]),(20,[1]),(35,[2]),(46,[3])] [.inl 3] [0,4,59] 600 q610_N = true := by decide +kernel
set_option maxHeartbeats 4000000 in
theorem q610_met {G : rfG} (h : okG G) : rf_met G q610_M := rf_methodB h.1 (P := q610_P) (U := q610_U) (N := q610_N) ⟨wflT h flokX4, wcsT h csokX4, wlcT h lcokX4, spokX4 h, List.forall_mem_cons.mpr ⟨q187_met h, List.forall_mem_cons.mpr ⟨q185_met h, List.forall_mem_cons.mpr ⟨q110_met h, List.forall_mem_cons.mpr ⟨q608_met h, fun _ h => absurd h List.not_mem_nil⟩⟩⟩⟩, fun _ h => absurd h List.not_mem_nil, List.forall_mem_cons.mpr ⟨fun M hM => Option.some.inj (show some q608_M = some M from hM) ▸ wlkV (lkX4_43 h) q608_M rfl rfl, List.forall_mem_cons.mpr ⟨fun M hM => Option.some.inj (show some q110_M = some M from hM) ▸ wlkV (lkX4_51 h) q110_M rfl rfl, List.forall_mem_cons.mpr ⟨fun M hM => Option.some.inj (show some q187_M = some M from hM) ▸ wlkV (lkX4_57 h) q187_M rfl rfl, List.forall_mem_cons.mpr ⟨fun M hM => Option.some.inj (show some q185_M = some M from hM) ▸ wlkV (lkX4_65 h) q185_M rfl rfl, fun _ h => absurd h List.not_mem_nil⟩⟩⟩⟩, fun _ h => absurd h List.not_mem_nil, fun _ h => absurd h List.not_mem_nil⟩ dkX4_countAll (by decide +kernel) (by rw [h.2.2.1]; exact q610_ok)
/-- NearSpell.store -/
def q611_M : rfM := ((⟨"NearSpell", "store", "()I"⟩, prog_1_method_35_code, 1, (some .int)), (4,95), ([.inr (.inl [70])],[]), [(49,0),(50,2),(50,3),(50,4),(50,5)], [(some (.inl (((-2147483648),2147483647,1),none)),[],[])])
def ddX11_store : List (Nat × Instr × Nat) := [(0,.aload_n 0,1),(1,.getfield 58,3),(4,.aload_n 0,1),(5,.getfield 16,3),(8,.getfield 303,3),(11,.invokevirtual 306,3),(14,.ireturn,1)]
set_option maxRecDepth 100000 in
theorem dkX11_store : rf_decs prog_1_method_35_code ddX11_store := rf_decs_of (by decide +kernel)
def q611_P : rfP := (flX11,csX11,lcX11,spX11,[q610_M],[],[(306,0,4)],([],[]))
def q611_U : rfU := []
set_option maxHeartbeats 8000000 in
def q611_N : List rfB := [(0,([(0,.inr (.inl [70]))],[],[]),(6,[]),0)]
set_option maxRecDepth 100000 in
theorem q611_ok : rf_chkB q611_P q611_U wLay q611_M ddX11_store [(11,[0])] [] [0] 600 q611_N = true := by decide +kernel
set_option maxHeartbeats 4000000 in
theorem q611_met {G : rfG} (h : okG G) : rf_met G q611_M := rf_methodB h.1 (P := q611_P) (U := q611_U) (N := q611_N) ⟨wflT h flokX11, wcsT h csokX11, wlcT h lcokX11, spokX11 h, List.forall_mem_cons.mpr ⟨q610_met h, fun _ h => absurd h List.not_mem_nil⟩, fun _ h => absurd h List.not_mem_nil, List.forall_mem_cons.mpr ⟨fun M hM => Option.some.inj (show some q610_M = some M from hM) ▸ wlkV (lkX11_306 h) q610_M rfl rfl, fun _ h => absurd h List.not_mem_nil⟩, fun _ h => absurd h List.not_mem_nil, fun _ h => absurd h List.not_mem_nil⟩ dkX11_store (by decide +kernel) (by rw [h.2.2.1]; exact q611_ok)
/-- NearSpell.Laid.isOfOthers -/
def q612_M : rfM := ((⟨"NearSpell$Laid", "isOfOthers", "(III)Z"⟩, prog_6_method_11_code, 5, (some .boolean)), (0,0), ([.inr (.inl [53]),.inl (((-2147483648),2147483647,1),none),.inl ((0,0,0),none),.inl ((0,0,0),none)],[]), [], [(some (.inl ((0,0,0),none)),[],[])])
def ddX4_isOfOthers : List (Nat × Instr × Nat) := [(0,.iconst 0,1),(1,.istore 4,2),(3,.iload 4,2),(5,.iload_n 3,1),(6,.if_icmp .ge 43,3),(9,.iload 4,2),(11,.iload_n 2,1),(12,.if_icmp .eq 31,3),(15,.aload_n 0,1),(16,.getfield 15,3),(19,.iload 4,2),(21,.invokevirtual 65,3),(24,.ifCond .eq 19,3),(27,.aload_n 0,1),(28,.getfield 21,3),(31,.iload 4,2),(33,.aaload,1),(34,.iload_n 1,1),(35,.invokevirtual 85,3),(38,.ifCond .eq 5,3),(41,.iconst 1,1),(42,.ireturn,1),(43,.iinc 4 1,3),(46,.goto (-43),3),(49,.iconst 0,1),(50,.ireturn,1)]
set_option maxRecDepth 100000 in
theorem dkX4_isOfOthers : rf_decs prog_6_method_11_code ddX4_isOfOthers := rf_decs_of (by decide +kernel)
def q612_P : rfP := (flX4,csX4,lcX4,spX4,[],[],[],([],[]))
def q612_U : rfU := []
set_option maxHeartbeats 8000000 in
def q612_N : List rfB := [(0,([(0,.inr (.inl [53])),(1,.inl (((-2147483648),2147483647,1),none)),(2,.inl ((0,0,0),none)),(3,.inl ((0,0,0),none))],[],[]),(6,[]),0)]
set_option maxRecDepth 100000 in
theorem q612_ok : rf_chkB q612_P q612_U wLay q612_M ddX4_isOfOthers [] [] [0] 600 q612_N = true := by decide +kernel
set_option maxHeartbeats 4000000 in
theorem q612_met {G : rfG} (h : okG G) : rf_met G q612_M := rf_methodB h.1 (P := q612_P) (U := q612_U) (N := q612_N) ⟨wflT h flokX4, wcsT h csokX4, wlcT h lcokX4, spokX4 h, fun _ h => absurd h List.not_mem_nil, fun _ h => absurd h List.not_mem_nil, fun _ h => absurd h List.not_mem_nil, fun _ h => absurd h List.not_mem_nil, fun _ h => absurd h List.not_mem_nil⟩ dkX4_isOfOthers (by decide +kernel) (by rw [h.2.2.1]; exact q612_ok)
/-- NearSpell.Laid.tallyEntry -/
def q613_M : rfM := ((⟨"NearSpell$Laid", "tallyEntry", "(IZ)V"⟩, prog_6_method_13_code, 7, none), (4,94), ([.inr (.inl [53]),.inl ((0,0,0),none),.inl ((1,1,0),none)],[]), [(4,0),(5,13),(52,0)], [(none,[],[])])
def q613_P : rfP := (flX4,csX4,lcX4,spX4,[q432_M,q612_M],[],[(81,1,4),(92,0,1)],([],[]))
def q613_U : rfU := []
set_option maxHeartbeats 8000000 in
def q613_N : List rfB := [(0,([(0,.inr (.inl [53])),(1,.inl ((0,0,0),none)),(2,.inl ((1,1,0),none))],[],[]),(950,[0]),0),
  (10,([(0,.inr (.inl [53])),(1,.inl ((0,0,0),none)),(2,.inl ((1,1,0),none)),(3,.inr (.inl [22,24,26,28,30,32,34,36,38,40,42,44,46,48])),(4,.inl ((0,22,1),none))],[],[]),(941,[(-41)]),0)]
set_option maxRecDepth 100000 in
theorem q613_ok : rf_chkB q613_P q613_U wLay q613_M ddX4_tallyEntry [(30,[0]),(49,[1])] [.inl 4] [0,10] 600 q613_N = true := by decide +kernel
set_option maxHeartbeats 4000000 in
theorem q613_met {G : rfG} (h : okG G) : rf_met G q613_M := rf_methodB h.1 (P := q613_P) (U := q613_U) (N := q613_N) ⟨wflT h flokX4, wcsT h csokX4, wlcT h lcokX4, spokX4 h, List.forall_mem_cons.mpr ⟨q432_met h, List.forall_mem_cons.mpr ⟨q612_met h, fun _ h => absurd h List.not_mem_nil⟩⟩, fun _ h => absurd h List.not_mem_nil, List.forall_mem_cons.mpr ⟨fun M hM => Option.some.inj (show some q612_M = some M from hM) ▸ wlkV (lkX4_81 h) q612_M rfl rfl, List.forall_mem_cons.mpr ⟨fun M hM => Option.some.inj (show some q432_M = some M from hM) ▸ wlkV (lkX4_92 h) q432_M rfl rfl, fun _ h => absurd h List.not_mem_nil⟩⟩, fun _ h => absurd h List.not_mem_nil, fun _ h => absurd h List.not_mem_nil⟩ dkX4_tallyEntry (by decide +kernel) (by rw [h.2.2.1]; exact q613_ok)
/-- NearSpell.FormList.has -/
def q614_M : rfM := ((⟨"NearSpell$FormList", "has", "(I)Z"⟩, prog_5_method_5_code, 3, (some .boolean)), (0,0), ([.inr (.inl [22,24,26,28,30,32,34,36,38,40,42,44,46,48]),.inl (((-2147483648),2147483647,1),none)],[]), [], [(some (.inl ((1,1,0),none)),[],[]),(some (.inl ((0,0,0),none)),[],[])])
def q614_P : rfP := (flX3,csX3,lcX3,spX3,[],[],[],([],[]))
def q614_U : rfU := []
set_option maxHeartbeats 8000000 in
def q614_N : List rfB := [(0,([(0,.inr (.inl [22,24,26,28,30,32,34,36,38,40,42,44,46,48])),(1,.inl (((-2147483648),2147483647,1),none))],[],[]),(6202,[0]),2000000),
  (2,([(0,.inr (.inl [40])),(1,.inl (((-2147483648),2147483647,1),none)),(2,.inl ((0,22,1),none))],[],[]),(4425,[(-19)]),0),
  (2,([(0,.inr (.inl [24])),(1,.inl (((-2147483648),2147483647,1),none)),(2,.inl ((0,22,1),none))],[],[]),(881,[(-19)]),0),
  (2,([(0,.inr (.inl [34])),(1,.inl (((-2147483648),2147483647,1),none)),(2,.inl ((0,22,1),none))],[],[]),(3096,[(-19)]),0),
  (2,([(0,.inr (.inl [42])),(1,.inl (((-2147483648),2147483647,1),none)),(2,.inl ((0,22,1),none))],[],[]),(4868,[(-19)]),0),
  (2,([(0,.inr (.inl [32])),(1,.inl (((-2147483648),2147483647,1),none)),(2,.inl ((0,22,1),none))],[],[]),(2653,[(-19)]),0),
  (2,([(0,.inr (.inl [26])),(1,.inl (((-2147483648),2147483647,1),none)),(2,.inl ((0,22,1),none))],[],[]),(1324,[(-19)]),0),
  (2,([(0,.inr (.inl [44])),(1,.inl (((-2147483648),2147483647,1),none)),(2,.inl ((0,22,1),none))],[],[]),(5311,[(-19)]),0),
  (2,([(0,.inr (.inl [22])),(1,.inl (((-2147483648),2147483647,1),none)),(2,.inl ((0,22,1),none))],[],[]),(438,[(-19)]),0),
  (2,([(0,.inr (.inl [46])),(1,.inl (((-2147483648),2147483647,1),none)),(2,.inl ((0,22,1),none))],[],[]),(5754,[(-19)]),0),
  (2,([(0,.inr (.inl [48])),(1,.inl (((-2147483648),2147483647,1),none)),(2,.inl ((0,22,1),none))],[],[]),(6197,[(-19)]),0),
  (2,([(0,.inr (.inl [38])),(1,.inl (((-2147483648),2147483647,1),none)),(2,.inl ((0,22,1),none))],[],[]),(3982,[(-19)]),0),
  (2,([(0,.inr (.inl [30])),(1,.inl (((-2147483648),2147483647,1),none)),(2,.inl ((0,22,1),none))],[],[]),(2210,[(-19)]),0),
  (2,([(0,.inr (.inl [28])),(1,.inl (((-2147483648),2147483647,1),none)),(2,.inl ((0,22,1),none))],[],[]),(1767,[(-19)]),0),
  (2,([(0,.inr (.inl [36])),(1,.inl (((-2147483648),2147483647,1),none)),(2,.inl ((0,22,1),none))],[],[]),(3539,[(-19)]),0),
  (38,([(0,.inr (.inl [40])),(1,.inl (((-2147483648),2147483647,1),none)),(2,.inl ((0,22,1),none))],[],[]),(3988,[0]),0),
  (38,([(0,.inr (.inl [24])),(1,.inl (((-2147483648),2147483647,1),none)),(2,.inl ((0,22,1),none))],[],[]),(444,[0]),0),
  (38,([(0,.inr (.inl [34])),(1,.inl (((-2147483648),2147483647,1),none)),(2,.inl ((0,22,1),none))],[],[]),(2659,[0]),0),
  (38,([(0,.inr (.inl [42])),(1,.inl (((-2147483648),2147483647,1),none)),(2,.inl ((0,22,1),none))],[],[]),(4431,[0]),0),
  (38,([(0,.inr (.inl [32])),(1,.inl (((-2147483648),2147483647,1),none)),(2,.inl ((0,22,1),none))],[],[]),(2216,[0]),0),
  (38,([(0,.inr (.inl [26])),(1,.inl (((-2147483648),2147483647,1),none)),(2,.inl ((0,22,1),none))],[],[]),(887,[0]),0),
  (38,([(0,.inr (.inl [44])),(1,.inl (((-2147483648),2147483647,1),none)),(2,.inl ((0,22,1),none))],[],[]),(4874,[0]),0),
  (38,([(0,.inr (.inl [22])),(1,.inl (((-2147483648),2147483647,1),none)),(2,.inl ((0,22,1),none))],[],[]),(1,[0]),0),
  (38,([(0,.inr (.inl [46])),(1,.inl (((-2147483648),2147483647,1),none)),(2,.inl ((0,22,1),none))],[],[]),(5317,[0]),0),
  (38,([(0,.inr (.inl [48])),(1,.inl (((-2147483648),2147483647,1),none)),(2,.inl ((0,22,1),none))],[],[]),(5760,[0]),0),
  (38,([(0,.inr (.inl [38])),(1,.inl (((-2147483648),2147483647,1),none)),(2,.inl ((0,22,1),none))],[],[]),(3545,[0]),0),
  (38,([(0,.inr (.inl [30])),(1,.inl (((-2147483648),2147483647,1),none)),(2,.inl ((0,22,1),none))],[],[]),(1773,[0]),0),
  (38,([(0,.inr (.inl [28])),(1,.inl (((-2147483648),2147483647,1),none)),(2,.inl ((0,22,1),none))],[],[]),(1330,[0]),0),
  (38,([(0,.inr (.inl [36])),(1,.inl (((-2147483648),2147483647,1),none)),(2,.inl ((0,22,1),none))],[],[]),(3102,[0]),0)]
set_option maxRecDepth 100000 in
theorem q614_ok : rf_chkB q614_P q614_U wLay q614_M ddX3_has [] [.inl 2] [0,2,38] 600 q614_N = true := by decide +kernel
set_option maxHeartbeats 4000000 in
theorem q614_met {G : rfG} (h : okG G) : rf_met G q614_M := rf_methodB h.1 (P := q614_P) (U := q614_U) (N := q614_N) ⟨wflT h flokX3, wcsT h csokX3, wlcT h lcokX3, spokX3 h, fun _ h => absurd h List.not_mem_nil, fun _ h => absurd h List.not_mem_nil, fun _ h => absurd h List.not_mem_nil, fun _ h => absurd h List.not_mem_nil, fun _ h => absurd h List.not_mem_nil⟩ dkX3_has (by decide +kernel) (by rw [h.2.2.1]; exact q614_ok)
/-- NearSpell.Laid.isOfOthers -/
def q615_M : rfM := ((⟨"NearSpell$Laid", "isOfOthers", "(III)Z"⟩, prog_6_method_11_code, 5, (some .boolean)), (1,22), ([.inr (.inl [53]),.inl (((-2147483648),2147483647,1),none),.inl ((0,1,1),none),.inl ((0,1,1),none)],[]), [], [(some (.inl ((1,1,0),none)),[(2,1,1),(3,1,1)],[((12,34),(1,14,1),none)]),(some (.inl ((0,0,0),none)),[],[])])
def q615_P : rfP := (flX4,csX4,lcX4,spX4,[q171_M,q614_M],[],[(65,0,8),(85,1,3)],([],[]))
def q615_U : rfU := []
set_option maxHeartbeats 8000000 in
def q615_N : List rfB := [(0,([(0,.inr (.inl [53])),(1,.inl (((-2147483648),2147483647,1),none)),(2,.inl ((0,1,1),none)),(3,.inl ((0,1,1),none))],[],[]),(50,[0]),0),
  (3,([(0,.inr (.inl [53])),(1,.inl (((-2147483648),2147483647,1),none)),(2,.inl ((0,1,1),none)),(3,.inl ((0,1,1),none)),(4,.inl ((0,1,1),none))],[],[]),(46,[(-22)]),0),
  (43,([(0,.inr (.inl [53])),(1,.inl (((-2147483648),2147483647,1),none)),(2,.inl ((0,1,1),none)),(3,.inl ((1,1,1),none)),(4,.inl ((0,0,1),none))],[],[]),(27,[(-22)]),0)]
set_option maxRecDepth 100000 in
theorem q615_ok : rf_chkB q615_P q615_U wLay q615_M ddX4_isOfOthers [(21,[0]),(35,[1])] [.inl 4] [0,3,43] 600 q615_N = true := by decide +kernel
set_option maxHeartbeats 4000000 in
theorem q615_met {G : rfG} (h : okG G) : rf_met G q615_M := rf_methodB h.1 (P := q615_P) (U := q615_U) (N := q615_N) ⟨wflT h flokX4, wcsT h csokX4, wlcT h lcokX4, spokX4 h, List.forall_mem_cons.mpr ⟨q171_met h, List.forall_mem_cons.mpr ⟨q614_met h, fun _ h => absurd h List.not_mem_nil⟩⟩, fun _ h => absurd h List.not_mem_nil, List.forall_mem_cons.mpr ⟨fun M hM => Option.some.inj (show some q171_M = some M from hM) ▸ wlkV (lkX4_65 h) q171_M rfl rfl, List.forall_mem_cons.mpr ⟨fun M hM => Option.some.inj (show some q614_M = some M from hM) ▸ wlkV (lkX4_85 h) q614_M rfl rfl, fun _ h => absurd h List.not_mem_nil⟩⟩, fun _ h => absurd h List.not_mem_nil, fun _ h => absurd h List.not_mem_nil⟩ dkX4_isOfOthers (by decide +kernel) (by rw [h.2.2.1]; exact q615_ok)
/-- NearSpell.Laid.tallyEntry -/
def q616_M : rfM := ((⟨"NearSpell$Laid", "tallyEntry", "(IZ)V"⟩, prog_6_method_13_code, 7, none), (4,94), ([.inr (.inl [53]),.inl ((0,1,1),none),.inl ((1,1,0),none)],[]), [(4,0),(5,13),(52,0)], [(none,[],[])])
def q616_P : rfP := (flX4,csX4,lcX4,spX4,[q432_M,q615_M],[],[(81,1,4),(92,0,1)],([],[]))
def q616_U : rfU := []
set_option maxHeartbeats 8000000 in
def q616_N : List rfB := [(0,([(0,.inr (.inl [53])),(1,.inl ((0,1,1),none)),(2,.inl ((1,1,0),none))],[],[]),(1042,[0]),0),
  (10,([(0,.inr (.inl [53])),(1,.inl ((0,1,1),none)),(2,.inl ((1,1,0),none)),(3,.inr (.inl [22,24,26,28,30,32,34,36,38,40,42,44,46,48])),(4,.inl ((0,22,1),none))],[],[]),(1033,[(-45)]),0),
  (62,([(0,.inr (.inl [53])),(1,.inl ((0,1,1),none)),(2,.inl ((1,1,0),none)),(3,.inr (.inl [22,24,26,28,30,32,34,36,38,40,42,44,46,48])),(4,.inl ((0,21,1),none)),(5,.inl ((0,30,1),none)),(6,.inl ((0,1,1),none))],[],[]),(1004,[(-45)]),0),
  (85,([(0,.inr (.inl [53])),(1,.inl ((0,1,1),none)),(2,.inl ((1,1,0),none)),(3,.inr (.inl [22,24,26,28,30,32,34,36,38,40,42,44,46,48])),(4,.inl ((0,21,1),none)),(5,.inl ((0,30,1),none)),(6,.inl ((0,1,1),none))],[],[]),(991,[(-45)]),0)]
set_option maxRecDepth 100000 in
theorem q616_ok : rf_chkB q616_P q616_U wLay q616_M ddX4_tallyEntry [(30,[0]),(49,[1])] [.inl 4] [0,10,62,85] 600 q616_N = true := by decide +kernel
set_option maxHeartbeats 4000000 in
theorem q616_met {G : rfG} (h : okG G) : rf_met G q616_M := rf_methodB h.1 (P := q616_P) (U := q616_U) (N := q616_N) ⟨wflT h flokX4, wcsT h csokX4, wlcT h lcokX4, spokX4 h, List.forall_mem_cons.mpr ⟨q432_met h, List.forall_mem_cons.mpr ⟨q615_met h, fun _ h => absurd h List.not_mem_nil⟩⟩, fun _ h => absurd h List.not_mem_nil, List.forall_mem_cons.mpr ⟨fun M hM => Option.some.inj (show some q615_M = some M from hM) ▸ wlkV (lkX4_81 h) q615_M rfl rfl, List.forall_mem_cons.mpr ⟨fun M hM => Option.some.inj (show some q432_M = some M from hM) ▸ wlkV (lkX4_92 h) q432_M rfl rfl, fun _ h => absurd h List.not_mem_nil⟩⟩, fun _ h => absurd h List.not_mem_nil, fun _ h => absurd h List.not_mem_nil⟩ dkX4_tallyEntry (by decide +kernel) (by rw [h.2.2.1]; exact q616_ok)
/-- NearSpell.Laid.isOfOthers -/
def q617_M : rfM := ((⟨"NearSpell$Laid", "isOfOthers", "(III)Z"⟩, prog_6_method_11_code, 5, (some .boolean)), (1,22), ([.inr (.inl [53]),.inl (((-2147483648),2147483647,1),none),.inl ((0,2,1),none),.inl ((0,2,1),none)],[]), [], [(some (.inl ((1,1,0),none)),[(3,1,2)],[((12,34),(1,14,1),none)]),(some (.inl ((0,0,0),none)),[],[])])
def q617_P : rfP := (flX4,csX4,lcX4,spX4,[q173_M,q614_M],[],[(65,0,8),(85,1,3)],([],[]))
def q617_U : rfU := []
set_option maxHeartbeats 8000000 in
def q617_N : List rfB := [(0,([(0,.inr (.inl [53])),(1,.inl (((-2147483648),2147483647,1),none)),(2,.inl ((0,2,1),none)),(3,.inl ((0,2,1),none))],[],[]),(72,[0]),0),
  (3,([(0,.inr (.inl [53])),(1,.inl (((-2147483648),2147483647,1),none)),(2,.inl ((0,2,1),none)),(3,.inl ((0,2,1),none)),(4,.inl ((0,2,1),none))],[],[]),(68,[(-22)]),0),
  (43,([(0,.inr (.inl [53])),(1,.inl (((-2147483648),2147483647,1),none)),(2,.inl ((0,2,1),none)),(3,.inl ((1,2,1),none)),(4,.inl ((0,1,1),none))],[],[]),(49,[(-22)]),0)]
set_option maxRecDepth 100000 in
theorem q617_ok : rf_chkB q617_P q617_U wLay q617_M ddX4_isOfOthers [(21,[0]),(35,[1])] [.inl 4] [0,3,43] 600 q617_N = true := by decide +kernel
set_option maxHeartbeats 4000000 in
theorem q617_met {G : rfG} (h : okG G) : rf_met G q617_M := rf_methodB h.1 (P := q617_P) (U := q617_U) (N := q617_N) ⟨wflT h flokX4, wcsT h csokX4, wlcT h lcokX4, spokX4 h, List.forall_mem_cons.mpr ⟨q173_met h, List.forall_mem_cons.mpr ⟨q614_met h, fun _ h => absurd h List.not_mem_nil⟩⟩, fun _ h => absurd h List.not_mem_nil, List.forall_mem_cons.mpr ⟨fun M hM => Option.some.inj (show some q173_M = some M from hM) ▸ wlkV (lkX4_65 h) q173_M rfl rfl, List.forall_mem_cons.mpr ⟨fun M hM => Option.some.inj (show some q614_M = some M from hM) ▸ wlkV (lkX4_85 h) q614_M rfl rfl, fun _ h => absurd h List.not_mem_nil⟩⟩, fun _ h => absurd h List.not_mem_nil, fun _ h => absurd h List.not_mem_nil⟩ dkX4_isOfOthers (by decide +kernel) (by rw [h.2.2.1]; exact q617_ok)
/-- NearSpell.Laid.tallyEntry -/
def q618_M : rfM := ((⟨"NearSpell$Laid", "tallyEntry", "(IZ)V"⟩, prog_6_method_13_code, 7, none), (4,94), ([.inr (.inl [53]),.inl ((0,2,1),none),.inl ((1,1,0),none)],[]), [(4,0),(5,13),(52,0)], [(none,[],[])])
def q618_P : rfP := (flX4,csX4,lcX4,spX4,[q432_M,q617_M],[],[(81,1,4),(92,0,1)],([],[]))
def q618_U : rfU := []
set_option maxHeartbeats 8000000 in
def q618_N : List rfB := [(0,([(0,.inr (.inl [53])),(1,.inl ((0,2,1),none)),(2,.inl ((1,1,0),none))],[],[]),(1042,[0]),0),
  (10,([(0,.inr (.inl [53])),(1,.inl ((0,2,1),none)),(2,.inl ((1,1,0),none)),(3,.inr (.inl [22,24,26,28,30,32,34,36,38,40,42,44,46,48])),(4,.inl ((0,22,1),none))],[],[]),(1033,[(-45)]),0),
  (62,([(0,.inr (.inl [53])),(1,.inl ((0,2,1),none)),(2,.inl ((1,1,0),none)),(3,.inr (.inl [22,24,26,28,30,32,34,36,38,40,42,44,46,48])),(4,.inl ((0,21,1),none)),(5,.inl ((0,30,1),none)),(6,.inl ((0,1,1),none))],[],[]),(1004,[(-45)]),0),
  (85,([(0,.inr (.inl [53])),(1,.inl ((0,2,1),none)),(2,.inl ((1,1,0),none)),(3,.inr (.inl [22,24,26,28,30,32,34,36,38,40,42,44,46,48])),(4,.inl ((0,21,1),none)),(5,.inl ((0,30,1),none)),(6,.inl ((0,1,1),none))],[],[]),(991,[(-45)]),0)]
set_option maxRecDepth 100000 in
theorem q618_ok : rf_chkB q618_P q618_U wLay q618_M ddX4_tallyEntry [(30,[0]),(49,[1])] [.inl 4] [0,10,62,85] 600 q618_N = true := by decide +kernel
set_option maxHeartbeats 4000000 in
theorem q618_met {G : rfG} (h : okG G) : rf_met G q618_M := rf_methodB h.1 (P := q618_P) (U := q618_U) (N := q618_N) ⟨wflT h flokX4, wcsT h csokX4, wlcT h lcokX4, spokX4 h, List.forall_mem_cons.mpr ⟨q432_met h, List.forall_mem_cons.mpr ⟨q617_met h, fun _ h => absurd h List.not_mem_nil⟩⟩, fun _ h => absurd h List.not_mem_nil, List.forall_mem_cons.mpr ⟨fun M hM => Option.some.inj (show some q617_M = some M from hM) ▸ wlkV (lkX4_81 h) q617_M rfl rfl, List.forall_mem_cons.mpr ⟨fun M hM => Option.some.inj (show some q432_M = some M from hM) ▸ wlkV (lkX4_92 h) q432_M rfl rfl, fun _ h => absurd h List.not_mem_nil⟩⟩, fun _ h => absurd h List.not_mem_nil, fun _ h => absurd h List.not_mem_nil⟩ dkX4_tallyEntry (by decide +kernel) (by rw [h.2.2.1]; exact q618_ok)
/-- NearSpell.Laid.isOfOthers -/
def q619_M : rfM := ((⟨"NearSpell$Laid", "isOfOthers", "(III)Z"⟩, prog_6_method_11_code, 5, (some .boolean)), (1,22), ([.inr (.inl [53]),.inl (((-2147483648),2147483647,1),none),.inl ((0,3,1),none),.inl ((0,3,1),none)],[]), [], [(some (.inl ((1,1,0),none)),[(3,1,3)],[((12,34),(1,14,1),none)]),(some (.inl ((0,0,0),none)),[],[])])
def q619_P : rfP := (flX4,csX4,lcX4,spX4,[q175_M,q614_M],[],[(65,0,8),(85,1,3)],([],[]))
def q619_U : rfU := []
set_option maxHeartbeats 8000000 in
def q619_N : List rfB := [(0,([(0,.inr (.inl [53])),(1,.inl (((-2147483648),2147483647,1),none)),(2,.inl ((0,3,1),none)),(3,.inl ((0,3,1),none))],[],[]),(94,[0]),0),
  (3,([(0,.inr (.inl [53])),(1,.inl (((-2147483648),2147483647,1),none)),(2,.inl ((0,3,1),none)),(3,.inl ((0,3,1),none)),(4,.inl ((0,3,1),none))],[],[]),(90,[(-22)]),0),
  (43,([(0,.inr (.inl [53])),(1,.inl (((-2147483648),2147483647,1),none)),(2,.inl ((0,3,1),none)),(3,.inl ((1,3,1),none)),(4,.inl ((0,2,1),none))],[],[]),(71,[(-22)]),0)]
set_option maxRecDepth 100000 in
theorem q619_ok : rf_chkB q619_P q619_U wLay q619_M ddX4_isOfOthers [(21,[0]),(35,[1])] [.inl 4] [0,3,43] 600 q619_N = true := by decide +kernel
set_option maxHeartbeats 4000000 in
theorem q619_met {G : rfG} (h : okG G) : rf_met G q619_M := rf_methodB h.1 (P := q619_P) (U := q619_U) (N := q619_N) ⟨wflT h flokX4, wcsT h csokX4, wlcT h lcokX4, spokX4 h, List.forall_mem_cons.mpr ⟨q175_met h, List.forall_mem_cons.mpr ⟨q614_met h, fun _ h => absurd h List.not_mem_nil⟩⟩, fun _ h => absurd h List.not_mem_nil, List.forall_mem_cons.mpr ⟨fun M hM => Option.some.inj (show some q175_M = some M from hM) ▸ wlkV (lkX4_65 h) q175_M rfl rfl, List.forall_mem_cons.mpr ⟨fun M hM => Option.some.inj (show some q614_M = some M from hM) ▸ wlkV (lkX4_85 h) q614_M rfl rfl, fun _ h => absurd h List.not_mem_nil⟩⟩, fun _ h => absurd h List.not_mem_nil, fun _ h => absurd h List.not_mem_nil⟩ dkX4_isOfOthers (by decide +kernel) (by rw [h.2.2.1]; exact q619_ok)
/-- NearSpell.Laid.tallyEntry -/
def q620_M : rfM := ((⟨"NearSpell$Laid", "tallyEntry", "(IZ)V"⟩, prog_6_method_13_code, 7, none), (4,94), ([.inr (.inl [53]),.inl ((0,3,1),none),.inl ((1,1,0),none)],[]), [(4,0),(5,13),(52,0)], [(none,[],[])])
def q620_P : rfP := (flX4,csX4,lcX4,spX4,[q432_M,q619_M],[],[(81,1,4),(92,0,1)],([],[]))
def q620_U : rfU := []
set_option maxHeartbeats 8000000 in
def q620_N : List rfB := [(0,([(0,.inr (.inl [53])),(1,.inl ((0,3,1),none)),(2,.inl ((1,1,0),none))],[],[]),(1042,[0]),0),
  (10,([(0,.inr (.inl [53])),(1,.inl ((0,3,1),none)),(2,.inl ((1,1,0),none)),(3,.inr (.inl [22,24,26,28,30,32,34,36,38,40,42,44,46,48])),(4,.inl ((0,22,1),none))],[],[]),(1033,[(-45)]),0),
  (62,([(0,.inr (.inl [53])),(1,.inl ((0,3,1),none)),(2,.inl ((1,1,0),none)),(3,.inr (.inl [22,24,26,28,30,32,34,36,38,40,42,44,46,48])),(4,.inl ((0,21,1),none)),(5,.inl ((0,30,1),none)),(6,.inl ((0,1,1),none))],[],[]),(1004,[(-45)]),0),
  (85,([(0,.inr (.inl [53])),(1,.inl ((0,3,1),none)),(2,.inl ((1,1,0),none)),(3,.inr (.inl [22,24,26,28,30,32,34,36,38,40,42,44,46,48])),(4,.inl ((0,21,1),none)),(5,.inl ((0,30,1),none)),(6,.inl ((0,1,1),none))],[],[]),(991,[(-45)]),0)]
set_option maxRecDepth 100000 in
theorem q620_ok : rf_chkB q620_P q620_U wLay q620_M ddX4_tallyEntry [(30,[0]),(49,[1])] [.inl 4] [0,10,62,85] 600 q620_N = true := by decide +kernel
set_option maxHeartbeats 4000000 in
theorem q620_met {G : rfG} (h : okG G) : rf_met G q620_M := rf_methodB h.1 (P := q620_P) (U := q620_U) (N := q620_N) ⟨wflT h flokX4, wcsT h csokX4, wlcT h lcokX4, spokX4 h, List.forall_mem_cons.mpr ⟨q432_met h, List.forall_mem_cons.mpr ⟨q619_met h, fun _ h => absurd h List.not_mem_nil⟩⟩, fun _ h => absurd h List.not_mem_nil, List.forall_mem_cons.mpr ⟨fun M hM => Option.some.inj (show some q619_M = some M from hM) ▸ wlkV (lkX4_81 h) q619_M rfl rfl, List.forall_mem_cons.mpr ⟨fun M hM => Option.some.inj (show some q432_M = some M from hM) ▸ wlkV (lkX4_92 h) q432_M rfl rfl, fun _ h => absurd h List.not_mem_nil⟩⟩, fun _ h => absurd h List.not_mem_nil, fun _ h => absurd h List.not_mem_nil⟩ dkX4_tallyEntry (by decide +kernel) (by rw [h.2.2.1]; exact q620_ok)
/-- NearSpell.Laid.isOfOthers -/
def q621_M : rfM := ((⟨"NearSpell$Laid", "isOfOthers", "(III)Z"⟩, prog_6_method_11_code, 5, (some .boolean)), (1,22), ([.inr (.inl [53]),.inl (((-2147483648),2147483647,1),none),.inl ((0,12,1),none),.inl ((0,12,1),none)],[]), [], [(some (.inl ((1,1,0),none)),[(3,1,12)],[((12,34),(1,14,1),none)]),(some (.inl ((0,0,0),none)),[],[])])
def q621_P : rfP := (flX4,csX4,lcX4,spX4,[q183_M,q614_M],[],[(65,0,8),(85,1,3)],([],[]))
def q621_U : rfU := []
set_option maxHeartbeats 8000000 in
def q621_N : List rfB := [(0,([(0,.inr (.inl [53])),(1,.inl (((-2147483648),2147483647,1),none)),(2,.inl ((0,12,1),none)),(3,.inl ((0,12,1),none))],[],[]),(292,[0]),0),
  (3,([(0,.inr (.inl [53])),(1,.inl (((-2147483648),2147483647,1),none)),(2,.inl ((0,12,1),none)),(3,.inl ((0,12,1),none)),(4,.inl ((0,12,1),none))],[],[]),(288,[(-22)]),0),
  (43,([(0,.inr (.inl [53])),(1,.inl (((-2147483648),2147483647,1),none)),(2,.inl ((0,12,1),none)),(3,.inl ((1,12,1),none)),(4,.inl ((0,11,1),none))],[],[]),(269,[(-22)]),0)]
set_option maxRecDepth 100000 in
theorem q621_ok : rf_chkB q621_P q621_U wLay q621_M ddX4_isOfOthers [(21,[0]),(35,[1])] [.inl 4] [0,3,43] 600 q621_N = true := by decide +kernel
set_option maxHeartbeats 4000000 in
theorem q621_met {G : rfG} (h : okG G) : rf_met G q621_M := rf_methodB h.1 (P := q621_P) (U := q621_U) (N := q621_N) ⟨wflT h flokX4, wcsT h csokX4, wlcT h lcokX4, spokX4 h, List.forall_mem_cons.mpr ⟨q183_met h, List.forall_mem_cons.mpr ⟨q614_met h, fun _ h => absurd h List.not_mem_nil⟩⟩, fun _ h => absurd h List.not_mem_nil, List.forall_mem_cons.mpr ⟨fun M hM => Option.some.inj (show some q183_M = some M from hM) ▸ wlkV (lkX4_65 h) q183_M rfl rfl, List.forall_mem_cons.mpr ⟨fun M hM => Option.some.inj (show some q614_M = some M from hM) ▸ wlkV (lkX4_85 h) q614_M rfl rfl, fun _ h => absurd h List.not_mem_nil⟩⟩, fun _ h => absurd h List.not_mem_nil, fun _ h => absurd h List.not_mem_nil⟩ dkX4_isOfOthers (by decide +kernel) (by rw [h.2.2.1]; exact q621_ok)
/-- NearSpell.Laid.tallyEntry -/
def q622_M : rfM := ((⟨"NearSpell$Laid", "tallyEntry", "(IZ)V"⟩, prog_6_method_13_code, 7, none), (4,94), ([.inr (.inl [53]),.inl ((0,12,1),none),.inl ((1,1,0),none)],[]), [(4,0),(5,13),(52,0)], [(none,[],[])])
def q622_P : rfP := (flX4,csX4,lcX4,spX4,[q432_M,q621_M],[],[(81,1,4),(92,0,1)],([],[]))
def q622_U : rfU := []
set_option maxHeartbeats 8000000 in
def q622_N : List rfB := [(0,([(0,.inr (.inl [53])),(1,.inl ((0,12,1),none)),(2,.inl ((1,1,0),none))],[],[]),(1042,[0]),0),
  (10,([(0,.inr (.inl [53])),(1,.inl ((0,12,1),none)),(2,.inl ((1,1,0),none)),(3,.inr (.inl [22,24,26,28,30,32,34,36,38,40,42,44,46,48])),(4,.inl ((0,22,1),none))],[],[]),(1033,[(-45)]),0),
  (62,([(0,.inr (.inl [53])),(1,.inl ((0,12,1),none)),(2,.inl ((1,1,0),none)),(3,.inr (.inl [22,24,26,28,30,32,34,36,38,40,42,44,46,48])),(4,.inl ((0,21,1),none)),(5,.inl ((0,30,1),none)),(6,.inl ((0,1,1),none))],[],[]),(1004,[(-45)]),0),
  (85,([(0,.inr (.inl [53])),(1,.inl ((0,12,1),none)),(2,.inl ((1,1,0),none)),(3,.inr (.inl [22,24,26,28,30,32,34,36,38,40,42,44,46,48])),(4,.inl ((0,21,1),none)),(5,.inl ((0,30,1),none)),(6,.inl ((0,1,1),none))],[],[]),(991,[(-45)]),0)]
set_option maxRecDepth 100000 in
theorem q622_ok : rf_chkB q622_P q622_U wLay q622_M ddX4_tallyEntry [(30,[0]),(49,[1])] [.inl 4] [0,10,62,85] 600 q622_N = true := by decide +kernel
set_option maxHeartbeats 4000000 in
theorem q622_met {G : rfG} (h : okG G) : rf_met G q622_M := rf_methodB h.1 (P := q622_P) (U := q622_U) (N := q622_N) ⟨wflT h flokX4, wcsT h csokX4, wlcT h lcokX4, spokX4 h, List.forall_mem_cons.mpr ⟨q432_met h, List.forall_mem_cons.mpr ⟨q621_met h, fun _ h => absurd h List.not_mem_nil⟩⟩, fun _ h => absurd h List.not_mem_nil, List.forall_mem_cons.mpr ⟨fun M hM => Option.some.inj (show some q621_M = some M from hM) ▸ wlkV (lkX4_81 h) q621_M rfl rfl, List.forall_mem_cons.mpr ⟨fun M hM => Option.some.inj (show some q432_M = some M from hM) ▸ wlkV (lkX4_92 h) q432_M rfl rfl, fun _ h => absurd h List.not_mem_nil⟩⟩, fun _ h => absurd h List.not_mem_nil, fun _ h => absurd h List.not_mem_nil⟩ dkX4_tallyEntry (by decide +kernel) (by rw [h.2.2.1]; exact q622_ok)
/-- NearSpell.Laid.isOfOthers -/
def q623_M : rfM := ((⟨"NearSpell$Laid", "isOfOthers", "(III)Z"⟩, prog_6_method_11_code, 5, (some .boolean)), (1,22), ([.inr (.inl [53]),.inl (((-2147483648),2147483647,1),none),.inl ((0,13,1),none),.inl ((0,13,1),none)],[]), [], [(some (.inl ((1,1,0),none)),[(3,1,13)],[((12,34),(1,14,1),none)]),(some (.inl ((0,0,0),none)),[],[])])
def q623_P : rfP := (flX4,csX4,lcX4,spX4,[q183_M,q614_M],[],[(65,0,8),(85,1,3)],([],[]))
def q623_U : rfU := []
set_option maxHeartbeats 8000000 in
def q623_N : List rfB := [(0,([(0,.inr (.inl [53])),(1,.inl (((-2147483648),2147483647,1),none)),(2,.inl ((0,13,1),none)),(3,.inl ((0,13,1),none))],[],[]),(314,[0]),0),
  (3,([(0,.inr (.inl [53])),(1,.inl (((-2147483648),2147483647,1),none)),(2,.inl ((0,13,1),none)),(3,.inl ((0,13,1),none)),(4,.inl ((0,13,1),none))],[],[]),(310,[(-22)]),0),
  (43,([(0,.inr (.inl [53])),(1,.inl (((-2147483648),2147483647,1),none)),(2,.inl ((0,13,1),none)),(3,.inl ((1,13,1),none)),(4,.inl ((0,12,1),none))],[],[]),(291,[(-22)]),0)]
set_option maxRecDepth 100000 in
theorem q623_ok : rf_chkB q623_P q623_U wLay q623_M ddX4_isOfOthers [(21,[0]),(35,[1])] [.inl 4] [0,3,43] 600 q623_N = true := by decide +kernel
set_option maxHeartbeats 4000000 in
theorem q623_met {G : rfG} (h : okG G) : rf_met G q623_M := rf_methodB h.1 (P := q623_P) (U := q623_U) (N := q623_N) ⟨wflT h flokX4, wcsT h csokX4, wlcT h lcokX4, spokX4 h, List.forall_mem_cons.mpr ⟨q183_met h, List.forall_mem_cons.mpr ⟨q614_met h, fun _ h => absurd h List.not_mem_nil⟩⟩, fun _ h => absurd h List.not_mem_nil, List.forall_mem_cons.mpr ⟨fun M hM => Option.some.inj (show some q183_M = some M from hM) ▸ wlkV (lkX4_65 h) q183_M rfl rfl, List.forall_mem_cons.mpr ⟨fun M hM => Option.some.inj (show some q614_M = some M from hM) ▸ wlkV (lkX4_85 h) q614_M rfl rfl, fun _ h => absurd h List.not_mem_nil⟩⟩, fun _ h => absurd h List.not_mem_nil, fun _ h => absurd h List.not_mem_nil⟩ dkX4_isOfOthers (by decide +kernel) (by rw [h.2.2.1]; exact q623_ok)
/-- NearSpell.Laid.tallyEntry -/
def q624_M : rfM := ((⟨"NearSpell$Laid", "tallyEntry", "(IZ)V"⟩, prog_6_method_13_code, 7, none), (4,94), ([.inr (.inl [53]),.inl ((0,13,1),none),.inl ((1,1,0),none)],[]), [(4,0),(5,13),(52,0)], [(none,[],[])])
def q624_P : rfP := (flX4,csX4,lcX4,spX4,[q432_M,q623_M],[],[(81,1,4),(92,0,1)],([],[]))
def q624_U : rfU := []
set_option maxHeartbeats 8000000 in
def q624_N : List rfB := [(0,([(0,.inr (.inl [53])),(1,.inl ((0,13,1),none)),(2,.inl ((1,1,0),none))],[],[]),(1042,[0]),0),
  (10,([(0,.inr (.inl [53])),(1,.inl ((0,13,1),none)),(2,.inl ((1,1,0),none)),(3,.inr (.inl [22,24,26,28,30,32,34,36,38,40,42,44,46,48])),(4,.inl ((0,22,1),none))],[],[]),(1033,[(-45)]),0),
  (62,([(0,.inr (.inl [53])),(1,.inl ((0,13,1),none)),(2,.inl ((1,1,0),none)),(3,.inr (.inl [22,24,26,28,30,32,34,36,38,40,42,44,46,48])),(4,.inl ((0,21,1),none)),(5,.inl ((0,30,1),none)),(6,.inl ((0,1,1),none))],[],[]),(1004,[(-45)]),0),
  (85,([(0,.inr (.inl [53])),(1,.inl ((0,13,1),none)),(2,.inl ((1,1,0),none)),(3,.inr (.inl [22,24,26,28,30,32,34,36,38,40,42,44,46,48])),(4,.inl ((0,21,1),none)),(5,.inl ((0,30,1),none)),(6,.inl ((0,1,1),none))],[],[]),(991,[(-45)]),0)]
set_option maxRecDepth 100000 in
theorem q624_ok : rf_chkB q624_P q624_U wLay q624_M ddX4_tallyEntry [(30,[0]),(49,[1])] [.inl 4] [0,10,62,85] 600 q624_N = true := by decide +kernel
set_option maxHeartbeats 4000000 in
theorem q624_met {G : rfG} (h : okG G) : rf_met G q624_M := rf_methodB h.1 (P := q624_P) (U := q624_U) (N := q624_N) ⟨wflT h flokX4, wcsT h csokX4, wlcT h lcokX4, spokX4 h, List.forall_mem_cons.mpr ⟨q432_met h, List.forall_mem_cons.mpr ⟨q623_met h, fun _ h => absurd h List.not_mem_nil⟩⟩, fun _ h => absurd h List.not_mem_nil, List.forall_mem_cons.mpr ⟨fun M hM => Option.some.inj (show some q623_M = some M from hM) ▸ wlkV (lkX4_81 h) q623_M rfl rfl, List.forall_mem_cons.mpr ⟨fun M hM => Option.some.inj (show some q432_M = some M from hM) ▸ wlkV (lkX4_92 h) q432_M rfl rfl, fun _ h => absurd h List.not_mem_nil⟩⟩, fun _ h => absurd h List.not_mem_nil, fun _ h => absurd h List.not_mem_nil⟩ dkX4_tallyEntry (by decide +kernel) (by rw [h.2.2.1]; exact q624_ok)
/-- NearSpell.Laid.tally -/
def q625_M : rfM := ((⟨"NearSpell$Laid", "tally", "(Z)V"⟩, prog_6_method_12_code, 3, none), (5,120), ([.inr (.inl [53]),.inl ((1,1,0),none)],[]), [(4,0),(5,13),(21,0),(22,2),(22,3),(22,4),(22,5),(23,0),(24,2),(24,3),(24,4),(24,5),(25,0),(26,2),(26,3),(26,4),(26,5),(27,0),(28,2),(28,3),(28,4),(28,5),(29,0),(30,2),(30,3),(30,4),(30,5),(31,0),(32,2),(32,3),(32,4),(32,5),(33,0),(34,2),(34,3),(34,4),(34,5),(35,0),(36,2),(36,3),(36,4),(36,5),(37,0),(38,2),(38,3),(38,4),(38,5),(39,0),(40,2),(40,3),(40,4),(40,5),(41,0),(42,2),(42,3),(42,4),(42,5),(43,0),(44,2),(44,3),(44,4),(44,5),(45,0),(46,2),(46,3),(46,4),(46,5),(47,0),(48,2),(48,3),(48,4),(48,5),(52,0)], [(none,[],[])])
def q625_P : rfP := (flX4,csX4,lcX4,spX4,[q596_M,q187_M,q185_M,q624_M],[],[(57,1,8),(65,2,8),(72,0,4),(88,3,4)],([],[]))
def q625_U : rfU := []
set_option maxHeartbeats 8000000 in
def q625_N : List rfB := [(0,([(0,.inr (.inl [53])),(1,.inl ((1,1,0),none))],[],[]),(628,[0]),0),
  (6,([(0,.inr (.inl [53])),(1,.inl ((1,1,0),none)),(2,.inl ((0,31,1),none))],[],[]),(622,[(-11)]),0),
  (27,([(0,.inr (.inl [53])),(1,.inl ((1,1,0),none)),(2,.inl ((0,14,1),none))],[],[]),(268,[(-18)]),0),
  (55,([(0,.inr (.inl [53])),(1,.inl ((1,1,0),none)),(2,.inl ((0,13,1),none))],[],[]),(253,[(-18)]),0)]
set_option maxRecDepth 100000 in
theorem q625_ok : rf_chkB q625_P q625_U wLay q625_M ddX4_tally [(1,[0]),(32,[1]),(43,[2]),(52,[3])] [.inl 2] [0,6,27,55] 600 q625_N = true := by decide +kernel
set_option maxHeartbeats 4000000 in
theorem q625_met {G : rfG} (h : okG G) : rf_met G q625_M := rf_methodB h.1 (P := q625_P) (U := q625_U) (N := q625_N) ⟨wflT h flokX4, wcsT h csokX4, wlcT h lcokX4, spokX4 h, List.forall_mem_cons.mpr ⟨q596_met h, List.forall_mem_cons.mpr ⟨q187_met h, List.forall_mem_cons.mpr ⟨q185_met h, List.forall_mem_cons.mpr ⟨q624_met h, fun _ h => absurd h List.not_mem_nil⟩⟩⟩⟩, fun _ h => absurd h List.not_mem_nil, List.forall_mem_cons.mpr ⟨fun M hM => Option.some.inj (show some q187_M = some M from hM) ▸ wlkV (lkX4_57 h) q187_M rfl rfl, List.forall_mem_cons.mpr ⟨fun M hM => Option.some.inj (show some q185_M = some M from hM) ▸ wlkV (lkX4_65 h) q185_M rfl rfl, List.forall_mem_cons.mpr ⟨fun M hM => Option.some.inj (show some q596_M = some M from hM) ▸ wlkV (lkX4_72 h) q596_M rfl rfl, List.forall_mem_cons.mpr ⟨fun M hM => Option.some.inj (show some q624_M = some M from hM) ▸ wlkV (lkX4_88 h) q624_M rfl rfl, fun _ h => absurd h List.not_mem_nil⟩⟩⟩⟩, fun _ h => absurd h List.not_mem_nil, fun _ h => absurd h List.not_mem_nil⟩ dkX4_tally (by decide +kernel) (by rw [h.2.2.1]; exact q625_ok)
/-- NearSpell.Laid.countClashes -/
def q626_M : rfM := ((⟨"NearSpell$Laid", "countClashes", "()I"⟩, prog_6_method_8_code, 3, (some .int)), (6,142), ([.inr (.inl [53])],[]), [(4,0),(5,13),(21,0),(22,2),(22,3),(22,4),(22,5),(23,0),(24,2),(24,3),(24,4),(24,5),(25,0),(26,2),(26,3),(26,4),(26,5),(27,0),(28,2),(28,3),(28,4),(28,5),(29,0),(30,2),(30,3),(30,4),(30,5),(31,0),(32,2),(32,3),(32,4),(32,5),(33,0),(34,2),(34,3),(34,4),(34,5),(35,0),(36,2),(36,3),(36,4),(36,5),(37,0),(38,2),(38,3),(38,4),(38,5),(39,0),(40,2),(40,3),(40,4),(40,5),(41,0),(42,2),(42,3),(42,4),(42,5),(43,0),(44,2),(44,3),(44,4),(44,5),(45,0),(46,2),(46,3),(46,4),(46,5),(47,0),(48,2),(48,3),(48,4),(48,5),(52,0)], [(some (.inl (((-2147483648),2147483647,1),none)),[],[])])
def ddX4_countClashes : List (Nat × Instr × Nat) := [(0,.aload_n 0,1),(1,.iconst 1,1),(2,.invokevirtual 61,3),(5,.iconst 0,1),(6,.istore_n 1,1),(7,.iconst 0,1),(8,.istore_n 2,1),(9,.iload_n 2,1),(10,.bipush 31,2),(12,.if_icmp .ge 29,3),(15,.iload_n 1,1),(16,.aload_n 0,1),(17,.getfield 30,3),(20,.iload_n 2,1),(21,.iaload,1),(22,.aload_n 0,1),(23,.getfield 30,3),(26,.iload_n 2,1),(27,.iaload,1),(28,.iconst 1,1),(29,.isub,1),(30,.imul,1),(31,.iconst 2,1),(32,.idiv,1),(33,.iadd,1),(34,.istore_n 1,1),(35,.iinc 2 1,3),(38,.goto (-29),3),(41,.iload_n 1,1),(42,.ireturn,1)]
set_option maxRecDepth 100000 in
theorem dkX4_countClashes : rf_decs prog_6_method_8_code ddX4_countClashes := rf_decs_of (by decide +kernel)
def q626_P : rfP := (flX4,csX4,lcX4,spX4,[q625_M],[],[(61,0,4)],([],[]))
def q626_U : rfU := []
set_option maxHeartbeats 8000000 in
def q626_N : List rfB := [(0,([(0,.inr (.inl [53]))],[],[]),(712,[0]),0),
  (9,([(0,.inr (.inl [53])),(1,.inl (((-2147483648),2147483647,1),none)),(2,.inl ((0,31,1),none))],[],[]),(703,[(-22)]),0)]
set_option maxRecDepth 100000 in
theorem q626_ok : rf_chkB q626_P q626_U wLay q626_M ddX4_countClashes [(2,[0])] [.inl 2] [0,9] 600 q626_N = true := by decide +kernel
set_option maxHeartbeats 4000000 in
theorem q626_met {G : rfG} (h : okG G) : rf_met G q626_M := rf_methodB h.1 (P := q626_P) (U := q626_U) (N := q626_N) ⟨wflT h flokX4, wcsT h csokX4, wlcT h lcokX4, spokX4 h, List.forall_mem_cons.mpr ⟨q625_met h, fun _ h => absurd h List.not_mem_nil⟩, fun _ h => absurd h List.not_mem_nil, List.forall_mem_cons.mpr ⟨fun M hM => Option.some.inj (show some q625_M = some M from hM) ▸ wlkV (lkX4_61 h) q625_M rfl rfl, fun _ h => absurd h List.not_mem_nil⟩, fun _ h => absurd h List.not_mem_nil, fun _ h => absurd h List.not_mem_nil⟩ dkX4_countClashes (by decide +kernel) (by rw [h.2.2.1]; exact q626_ok)
/-- NearSpell.clashes -/
def q627_M : rfM := ((⟨"NearSpell", "clashes", "()I"⟩, prog_1_method_36_code, 1, (some .int)), (7,164), ([.inr (.inl [70])],[]), [(4,0),(5,13),(21,0),(22,2),(22,3),(22,4),(22,5),(23,0),(24,2),(24,3),(24,4),(24,5),(25,0),(26,2),(26,3),(26,4),(26,5),(27,0),(28,2),(28,3),(28,4),(28,5),(29,0),(30,2),(30,3),(30,4),(30,5),(31,0),(32,2),(32,3),(32,4),(32,5),(33,0),(34,2),(34,3),(34,4),(34,5),(35,0),(36,2),(36,3),(36,4),(36,5),(37,0),(38,2),(38,3),(38,4),(38,5),(39,0),(40,2),(40,3),(40,4),(40,5),(41,0),(42,2),(42,3),(42,4),(42,5),(43,0),(44,2),(44,3),(44,4),(44,5),(45,0),(46,2),(46,3),(46,4),(46,5),(47,0),(48,2),(48,3),(48,4),(48,5),(52,0)], [(some (.inl (((-2147483648),2147483647,1),none)),[],[])])
def ddX11_clashes : List (Nat × Instr × Nat) := [(0,.aload_n 0,1),(1,.getfield 58,3),(4,.invokevirtual 309,3),(7,.ireturn,1)]
set_option maxRecDepth 100000 in
theorem dkX11_clashes : rf_decs prog_1_method_36_code ddX11_clashes := rf_decs_of (by decide +kernel)
def q627_P : rfP := (flX11,csX11,lcX11,spX11,[q626_M],[],[(309,0,4)],([],[]))
def q627_U : rfU := []
set_option maxHeartbeats 8000000 in
def q627_N : List rfB := [(0,([(0,.inr (.inl [70]))],[],[]),(3,[]),0)]
set_option maxRecDepth 100000 in
theorem q627_ok : rf_chkB q627_P q627_U wLay q627_M ddX11_clashes [(4,[0])] [] [0] 600 q627_N = true := by decide +kernel
set_option maxHeartbeats 4000000 in
theorem q627_met {G : rfG} (h : okG G) : rf_met G q627_M := rf_methodB h.1 (P := q627_P) (U := q627_U) (N := q627_N) ⟨wflT h flokX11, wcsT h csokX11, wlcT h lcokX11, spokX11 h, List.forall_mem_cons.mpr ⟨q626_met h, fun _ h => absurd h List.not_mem_nil⟩, fun _ h => absurd h List.not_mem_nil, List.forall_mem_cons.mpr ⟨fun M hM => Option.some.inj (show some q626_M = some M from hM) ▸ wlkV (lkX11_309 h) q626_M rfl rfl, fun _ h => absurd h List.not_mem_nil⟩, fun _ h => absurd h List.not_mem_nil, fun _ h => absurd h List.not_mem_nil⟩ dkX11_clashes (by decide +kernel) (by rw [h.2.2.1]; exact q627_ok)
/-- NearSpell.State.isEntry -/
def q628_M : rfM := ((⟨"NearSpell$State", "isEntry", "(I)Z"⟩, prog_10_method_6_code, 2, (some .boolean)), (0,0), ([.inr (.inl [13]),.inl ((1,1,0),none)],[]), [], [(some (.inl ((1,1,0),none)),[],[((12,34),(2,14,1),none)]),(some (.inl ((0,0,0),none)),[],[])])
def q628_P : rfP := (flX8,csX8,lcX8,spX8,[],[],[],([],[]))
def q628_U : rfU := []
set_option maxHeartbeats 8000000 in
def q628_N : List rfB := [(0,([(0,.inr (.inl [13])),(1,.inl ((1,1,0),none))],[],[]),(20,[]),0),
  (32,([(0,.inr (.inl [13])),(1,.inl ((1,1,0),none))],[],[]),(1,[]),0)]
set_option maxRecDepth 100000 in
theorem q628_ok : rf_chkB q628_P q628_U wLay q628_M ddX8_isEntry [] [] [0,32] 600 q628_N = true := by decide +kernel
set_option maxHeartbeats 4000000 in
theorem q628_met {G : rfG} (h : okG G) : rf_met G q628_M := rf_methodB h.1 (P := q628_P) (U := q628_U) (N := q628_N) ⟨wflT h flokX8, wcsT h csokX8, wlcT h lcokX8, spokX8 h, fun _ h => absurd h List.not_mem_nil, fun _ h => absurd h List.not_mem_nil, fun _ h => absurd h List.not_mem_nil, fun _ h => absurd h List.not_mem_nil, fun _ h => absurd h List.not_mem_nil⟩ dkX8_isEntry (by decide +kernel) (by rw [h.2.2.1]; exact q628_ok)
/-- NearSpell.State.isEntry -/
def q629_M : rfM := ((⟨"NearSpell$State", "isEntry", "(I)Z"⟩, prog_10_method_6_code, 2, (some .boolean)), (0,0), ([.inr (.inl [13]),.inl ((1,2,1),none)],[]), [], [(some (.inl ((1,1,0),none)),[],[((12,34),(2,14,1),none)]),(some (.inl ((0,0,0),none)),[],[])])
def q629_P : rfP := (flX8,csX8,lcX8,spX8,[],[],[],([],[]))
def q629_U : rfU := []
set_option maxHeartbeats 8000000 in
def q629_N : List rfB := [(0,([(0,.inr (.inl [13])),(1,.inl ((1,2,1),none))],[],[]),(20,[]),0),
  (32,([(0,.inr (.inl [13])),(1,.inl ((1,2,1),none))],[],[]),(1,[]),0)]
set_option maxRecDepth 100000 in
theorem q629_ok : rf_chkB q629_P q629_U wLay q629_M ddX8_isEntry [] [] [0,32] 600 q629_N = true := by decide +kernel
set_option maxHeartbeats 4000000 in
theorem q629_met {G : rfG} (h : okG G) : rf_met G q629_M := rf_methodB h.1 (P := q629_P) (U := q629_U) (N := q629_N) ⟨wflT h flokX8, wcsT h csokX8, wlcT h lcokX8, spokX8 h, fun _ h => absurd h List.not_mem_nil, fun _ h => absurd h List.not_mem_nil, fun _ h => absurd h List.not_mem_nil, fun _ h => absurd h List.not_mem_nil, fun _ h => absurd h List.not_mem_nil⟩ dkX8_isEntry (by decide +kernel) (by rw [h.2.2.1]; exact q629_ok)
/-- NearSpell.State.isEntry -/
def q630_M : rfM := ((⟨"NearSpell$State", "isEntry", "(I)Z"⟩, prog_10_method_6_code, 2, (some .boolean)), (0,0), ([.inr (.inl [13]),.inl ((1,3,1),none)],[]), [], [(some (.inl ((1,1,0),none)),[],[((12,34),(2,14,1),none)]),(some (.inl ((0,0,0),none)),[],[])])
def q630_P : rfP := (flX8,csX8,lcX8,spX8,[],[],[],([],[]))
def q630_U : rfU := []
set_option maxHeartbeats 8000000 in
def q630_N : List rfB := [(0,([(0,.inr (.inl [13])),(1,.inl ((1,3,1),none))],[],[]),(20,[]),0),
  (32,([(0,.inr (.inl [13])),(1,.inl ((1,3,1),none))],[],[]),(1,[]),0)]
set_option maxRecDepth 100000 in
theorem q630_ok : rf_chkB q630_P q630_U wLay q630_M ddX8_isEntry [] [] [0,32] 600 q630_N = true := by decide +kernel
set_option maxHeartbeats 4000000 in
theorem q630_met {G : rfG} (h : okG G) : rf_met G q630_M := rf_methodB h.1 (P := q630_P) (U := q630_U) (N := q630_N) ⟨wflT h flokX8, wcsT h csokX8, wlcT h lcokX8, spokX8 h, fun _ h => absurd h List.not_mem_nil, fun _ h => absurd h List.not_mem_nil, fun _ h => absurd h List.not_mem_nil, fun _ h => absurd h List.not_mem_nil, fun _ h => absurd h List.not_mem_nil⟩ dkX8_isEntry (by decide +kernel) (by rw [h.2.2.1]; exact q630_ok)
/-- NearSpell.State.isEntry -/
def q631_M : rfM := ((⟨"NearSpell$State", "isEntry", "(I)Z"⟩, prog_10_method_6_code, 2, (some .boolean)), (0,0), ([.inr (.inl [13]),.inl ((1,12,1),none)],[]), [], [(some (.inl ((1,1,0),none)),[],[((12,34),(2,14,1),none)]),(some (.inl ((0,0,0),none)),[],[])])
def q631_P : rfP := (flX8,csX8,lcX8,spX8,[],[],[],([],[]))
def q631_U : rfU := []
set_option maxHeartbeats 8000000 in
def q631_N : List rfB := [(0,([(0,.inr (.inl [13])),(1,.inl ((1,12,1),none))],[],[]),(20,[]),0),
  (32,([(0,.inr (.inl [13])),(1,.inl ((1,12,1),none))],[],[]),(1,[]),0)]
set_option maxRecDepth 100000 in
theorem q631_ok : rf_chkB q631_P q631_U wLay q631_M ddX8_isEntry [] [] [0,32] 600 q631_N = true := by decide +kernel
set_option maxHeartbeats 4000000 in
theorem q631_met {G : rfG} (h : okG G) : rf_met G q631_M := rf_methodB h.1 (P := q631_P) (U := q631_U) (N := q631_N) ⟨wflT h flokX8, wcsT h csokX8, wlcT h lcokX8, spokX8 h, fun _ h => absurd h List.not_mem_nil, fun _ h => absurd h List.not_mem_nil, fun _ h => absurd h List.not_mem_nil, fun _ h => absurd h List.not_mem_nil, fun _ h => absurd h List.not_mem_nil⟩ dkX8_isEntry (by decide +kernel) (by rw [h.2.2.1]; exact q631_ok)
/-- NearSpell.State.isEntry -/
def q632_M : rfM := ((⟨"NearSpell$State", "isEntry", "(I)Z"⟩, prog_10_method_6_code, 2, (some .boolean)), (0,0), ([.inr (.inl [13]),.inl ((1,13,1),none)],[]), [], [(some (.inl ((1,1,0),none)),[],[((12,34),(2,14,1),none)]),(some (.inl ((0,0,0),none)),[],[])])
def q632_P : rfP := (flX8,csX8,lcX8,spX8,[],[],[],([],[]))
def q632_U : rfU := []
set_option maxHeartbeats 8000000 in
def q632_N : List rfB := [(0,([(0,.inr (.inl [13])),(1,.inl ((1,13,1),none))],[],[]),(20,[]),0),
  (32,([(0,.inr (.inl [13])),(1,.inl ((1,13,1),none))],[],[]),(1,[]),0)]
set_option maxRecDepth 100000 in
theorem q632_ok : rf_chkB q632_P q632_U wLay q632_M ddX8_isEntry [] [] [0,32] 600 q632_N = true := by decide +kernel
set_option maxHeartbeats 4000000 in
theorem q632_met {G : rfG} (h : okG G) : rf_met G q632_M := rf_methodB h.1 (P := q632_P) (U := q632_U) (N := q632_N) ⟨wflT h flokX8, wcsT h csokX8, wlcT h lcokX8, spokX8 h, fun _ h => absurd h List.not_mem_nil, fun _ h => absurd h List.not_mem_nil, fun _ h => absurd h List.not_mem_nil, fun _ h => absurd h List.not_mem_nil, fun _ h => absurd h List.not_mem_nil⟩ dkX8_isEntry (by decide +kernel) (by rw [h.2.2.1]; exact q632_ok)
/-- NearSpell.Laid.isOfOthers -/
def q633_M : rfM := ((⟨"NearSpell$Laid", "isOfOthers", "(III)Z"⟩, prog_6_method_11_code, 5, (some .boolean)), (1,22), ([.inr (.inl [53]),.inl (((-2147483648),2147483647,1),none),.inl ((0,0,0),none),.inl ((0,14,1),none)],[]), [], [(some (.inl ((1,1,0),none)),[(3,1,14)],[((12,34),(2,14,1),none)]),(some (.inl ((0,0,0),none)),[],[])])
def q633_P : rfP := (flX4,csX4,lcX4,spX4,[q632_M,q614_M],[],[(65,0,8),(85,1,3)],([],[]))
def q633_U : rfU := []
set_option maxHeartbeats 8000000 in
def q633_N : List rfB := [(0,([(0,.inr (.inl [53])),(1,.inl (((-2147483648),2147483647,1),none)),(2,.inl ((0,0,0),none)),(3,.inl ((0,14,1),none))],[],[]),(336,[0]),0),
  (3,([(0,.inr (.inl [53])),(1,.inl (((-2147483648),2147483647,1),none)),(2,.inl ((0,0,0),none)),(3,.inl ((0,14,1),none)),(4,.inl ((0,14,1),none))],[],[]),(332,[(-22)]),0),
  (43,([(0,.inr (.inl [53])),(1,.inl (((-2147483648),2147483647,1),none)),(2,.inl ((0,0,0),none)),(3,.inl ((1,14,1),none)),(4,.inl ((0,13,1),none))],[],[]),(313,[(-22)]),0)]
set_option maxRecDepth 100000 in
theorem q633_ok : rf_chkB q633_P q633_U wLay q633_M ddX4_isOfOthers [(21,[0]),(35,[1])] [.inl 4] [0,3,43] 600 q633_N = true := by decide +kernel
set_option maxHeartbeats 4000000 in
theorem q633_met {G : rfG} (h : okG G) : rf_met G q633_M := rf_methodB h.1 (P := q633_P) (U := q633_U) (N := q633_N) ⟨wflT h flokX4, wcsT h csokX4, wlcT h lcokX4, spokX4 h, List.forall_mem_cons.mpr ⟨q632_met h, List.forall_mem_cons.mpr ⟨q614_met h, fun _ h => absurd h List.not_mem_nil⟩⟩, fun _ h => absurd h List.not_mem_nil, List.forall_mem_cons.mpr ⟨fun M hM => Option.some.inj (show some q632_M = some M from hM) ▸ wlkV (lkX4_65 h) q632_M rfl rfl, List.forall_mem_cons.mpr ⟨fun M hM => Option.some.inj (show some q614_M = some M from hM) ▸ wlkV (lkX4_85 h) q614_M rfl rfl, fun _ h => absurd h List.not_mem_nil⟩⟩, fun _ h => absurd h List.not_mem_nil, fun _ h => absurd h List.not_mem_nil⟩ dkX4_isOfOthers (by decide +kernel) (by rw [h.2.2.1]; exact q633_ok)
/-- NearSpell.Laid.countOwn -/
def q634_M : rfM := ((⟨"NearSpell$Laid", "countOwn", "(I)I"⟩, prog_6_method_10_code, 5, (some .int)), (2,46), ([.inr (.inl [53]),.inl ((0,0,0),none)],[]), [], [(some (.inl (((-2147483648),2147483647,1),none)),[],[])])
def ddX4_countOwn : List (Nat × Instr × Nat) := [(0,.aload_n 0,1),(1,.getfield 21,3),(4,.iload_n 1,1),(5,.aaload,1),(6,.astore_n 2,1),(7,.iconst 0,1),(8,.istore_n 3,1),(9,.iconst 0,1),(10,.istore 4,2),(12,.iload 4,2),(14,.aload_n 2,1),(15,.getfield 69,3),(18,.if_icmp .ge 34,3),(21,.aload_n 0,1),(22,.aload_n 2,1),(23,.getfield 78,3),(26,.iload 4,2),(28,.iaload,1),(29,.iload_n 1,1),(30,.aload_n 0,1),(31,.getfield 15,3),(34,.invokevirtual 57,3),(37,.invokevirtual 81,3),(40,.ifCond .ne 6,3),(43,.iinc 3 1,3),(46,.iinc 4 1,3),(49,.goto (-37),3),(52,.iload_n 3,1),(53,.ireturn,1)]
set_option maxRecDepth 100000 in
theorem dkX4_countOwn : rf_decs prog_6_method_10_code ddX4_countOwn := rf_decs_of (by decide +kernel)
def q634_P : rfP := (flX4,csX4,lcX4,spX4,[q187_M,q633_M],[],[(57,0,8),(81,1,4)],([],[]))
def q634_U : rfU := []
set_option maxHeartbeats 8000000 in
def q634_N : List rfB := [(0,([(0,.inr (.inl [53])),(1,.inl ((0,0,0),none))],[],[]),(470,[0]),0),
  (12,([(0,.inr (.inl [53])),(1,.inl ((0,0,0),none)),(2,.inr (.inl [22,24,26,28,30,32,34,36,38,40,42,44,46,48])),(3,.inl (((-2147483648),2147483647,1),none)),(4,.inl ((0,22,1),none))],[],[]),(459,[(-20)]),0),
  (46,([(0,.inr (.inl [53])),(1,.inl ((0,0,0),none)),(2,.inr (.inl [22,24,26,28,30,32,34,36,38,40,42,44,46,48])),(3,.inl (((-2147483648),2147483647,1),none)),(4,.inl ((0,21,1),none))],[],[]),(442,[(-20)]),0)]
set_option maxRecDepth 100000 in
theorem q634_ok : rf_chkB q634_P q634_U wLay q634_M ddX4_countOwn [(34,[0]),(37,[1])] [.inl 4] [0,12,46] 600 q634_N = true := by decide +kernel
set_option maxHeartbeats 4000000 in
theorem q634_met {G : rfG} (h : okG G) : rf_met G q634_M := rf_methodB h.1 (P := q634_P) (U := q634_U) (N := q634_N) ⟨wflT h flokX4, wcsT h csokX4, wlcT h lcokX4, spokX4 h, List.forall_mem_cons.mpr ⟨q187_met h, List.forall_mem_cons.mpr ⟨q633_met h, fun _ h => absurd h List.not_mem_nil⟩⟩, fun _ h => absurd h List.not_mem_nil, List.forall_mem_cons.mpr ⟨fun M hM => Option.some.inj (show some q187_M = some M from hM) ▸ wlkV (lkX4_57 h) q187_M rfl rfl, List.forall_mem_cons.mpr ⟨fun M hM => Option.some.inj (show some q633_M = some M from hM) ▸ wlkV (lkX4_81 h) q633_M rfl rfl, fun _ h => absurd h List.not_mem_nil⟩⟩, fun _ h => absurd h List.not_mem_nil, fun _ h => absurd h List.not_mem_nil⟩ dkX4_countOwn (by decide +kernel) (by rw [h.2.2.1]; exact q634_ok)
/-- NearSpell.Laid.isOfOthers -/
def q635_M : rfM := ((⟨"NearSpell$Laid", "isOfOthers", "(III)Z"⟩, prog_6_method_11_code, 5, (some .boolean)), (1,22), ([.inr (.inl [53]),.inl (((-2147483648),2147483647,1),none),.inl ((0,1,1),none),.inl ((0,14,1),none)],[]), [], [(some (.inl ((1,1,0),none)),[(3,1,14)],[((12,34),(1,14,1),none)]),(some (.inl ((0,0,0),none)),[],[])])
def q635_P : rfP := (flX4,csX4,lcX4,spX4,[q185_M,q614_M],[],[(65,0,8),(85,1,3)],([],[]))
def q635_U : rfU := []
set_option maxHeartbeats 8000000 in
def q635_N : List rfB := [(0,([(0,.inr (.inl [53])),(1,.inl (((-2147483648),2147483647,1),none)),(2,.inl ((0,1,1),none)),(3,.inl ((0,14,1),none))],[],[]),(336,[0]),0),
  (3,([(0,.inr (.inl [53])),(1,.inl (((-2147483648),2147483647,1),none)),(2,.inl ((0,1,1),none)),(3,.inl ((0,14,1),none)),(4,.inl ((0,14,1),none))],[],[]),(332,[(-22)]),0),
  (43,([(0,.inr (.inl [53])),(1,.inl (((-2147483648),2147483647,1),none)),(2,.inl ((0,1,1),none)),(3,.inl ((1,14,1),none)),(4,.inl ((0,13,1),none))],[],[]),(313,[(-22)]),0)]
set_option maxRecDepth 100000 in
theorem q635_ok : rf_chkB q635_P q635_U wLay q635_M ddX4_isOfOthers [(21,[0]),(35,[1])] [.inl 4] [0,3,43] 600 q635_N = true := by decide +kernel
set_option maxHeartbeats 4000000 in
theorem q635_met {G : rfG} (h : okG G) : rf_met G q635_M := rf_methodB h.1 (P := q635_P) (U := q635_U) (N := q635_N) ⟨wflT h flokX4, wcsT h csokX4, wlcT h lcokX4, spokX4 h, List.forall_mem_cons.mpr ⟨q185_met h, List.forall_mem_cons.mpr ⟨q614_met h, fun _ h => absurd h List.not_mem_nil⟩⟩, fun _ h => absurd h List.not_mem_nil, List.forall_mem_cons.mpr ⟨fun M hM => Option.some.inj (show some q185_M = some M from hM) ▸ wlkV (lkX4_65 h) q185_M rfl rfl, List.forall_mem_cons.mpr ⟨fun M hM => Option.some.inj (show some q614_M = some M from hM) ▸ wlkV (lkX4_85 h) q614_M rfl rfl, fun _ h => absurd h List.not_mem_nil⟩⟩, fun _ h => absurd h List.not_mem_nil, fun _ h => absurd h List.not_mem_nil⟩ dkX4_isOfOthers (by decide +kernel) (by rw [h.2.2.1]; exact q635_ok)
/-- NearSpell.Laid.countOwn -/
def q636_M : rfM := ((⟨"NearSpell$Laid", "countOwn", "(I)I"⟩, prog_6_method_10_code, 5, (some .int)), (2,46), ([.inr (.inl [53]),.inl ((0,1,1),none)],[]), [], [(some (.inl (((-2147483648),2147483647,1),none)),[],[])])
def q636_P : rfP := (flX4,csX4,lcX4,spX4,[q187_M,q635_M],[],[(57,0,8),(81,1,4)],([],[]))
def q636_U : rfU := []
set_option maxHeartbeats 8000000 in
def q636_N : List rfB := [(0,([(0,.inr (.inl [53])),(1,.inl ((0,1,1),none))],[],[]),(470,[0]),0),
  (12,([(0,.inr (.inl [53])),(1,.inl ((0,1,1),none)),(2,.inr (.inl [22,24,26,28,30,32,34,36,38,40,42,44,46,48])),(3,.inl (((-2147483648),2147483647,1),none)),(4,.inl ((0,22,1),none))],[],[]),(459,[(-20)]),0),
  (46,([(0,.inr (.inl [53])),(1,.inl ((0,1,1),none)),(2,.inr (.inl [22,24,26,28,30,32,34,36,38,40,42,44,46,48])),(3,.inl (((-2147483648),2147483647,1),none)),(4,.inl ((0,21,1),none))],[],[]),(442,[(-20)]),0)]
set_option maxRecDepth 100000 in
theorem q636_ok : rf_chkB q636_P q636_U wLay q636_M ddX4_countOwn [(34,[0]),(37,[1])] [.inl 4] [0,12,46] 600 q636_N = true := by decide +kernel
set_option maxHeartbeats 4000000 in
theorem q636_met {G : rfG} (h : okG G) : rf_met G q636_M := rf_methodB h.1 (P := q636_P) (U := q636_U) (N := q636_N) ⟨wflT h flokX4, wcsT h csokX4, wlcT h lcokX4, spokX4 h, List.forall_mem_cons.mpr ⟨q187_met h, List.forall_mem_cons.mpr ⟨q635_met h, fun _ h => absurd h List.not_mem_nil⟩⟩, fun _ h => absurd h List.not_mem_nil, List.forall_mem_cons.mpr ⟨fun M hM => Option.some.inj (show some q187_M = some M from hM) ▸ wlkV (lkX4_57 h) q187_M rfl rfl, List.forall_mem_cons.mpr ⟨fun M hM => Option.some.inj (show some q635_M = some M from hM) ▸ wlkV (lkX4_81 h) q635_M rfl rfl, fun _ h => absurd h List.not_mem_nil⟩⟩, fun _ h => absurd h List.not_mem_nil, fun _ h => absurd h List.not_mem_nil⟩ dkX4_countOwn (by decide +kernel) (by rw [h.2.2.1]; exact q636_ok)
/-- NearSpell.Laid.isOfOthers -/
def q637_M : rfM := ((⟨"NearSpell$Laid", "isOfOthers", "(III)Z"⟩, prog_6_method_11_code, 5, (some .boolean)), (1,22), ([.inr (.inl [53]),.inl (((-2147483648),2147483647,1),none),.inl ((0,2,1),none),.inl ((0,14,1),none)],[]), [], [(some (.inl ((1,1,0),none)),[(3,1,14)],[((12,34),(1,14,1),none)]),(some (.inl ((0,0,0),none)),[],[])])
def q637_P : rfP := (flX4,csX4,lcX4,spX4,[q185_M,q614_M],[],[(65,0,8),(85,1,3)],([],[]))
def q637_U : rfU := []
set_option maxHeartbeats 8000000 in
def q637_N : List rfB := [(0,([(0,.inr (.inl [53])),(1,.inl (((-2147483648),2147483647,1),none)),(2,.inl ((0,2,1),none)),(3,.inl ((0,14,1),none))],[],[]),(336,[0]),0),
  (3,([(0,.inr (.inl [53])),(1,.inl (((-2147483648),2147483647,1),none)),(2,.inl ((0,2,1),none)),(3,.inl ((0,14,1),none)),(4,.inl ((0,14,1),none))],[],[]),(332,[(-22)]),0),
  (43,([(0,.inr (.inl [53])),(1,.inl (((-2147483648),2147483647,1),none)),(2,.inl ((0,2,1),none)),(3,.inl ((1,14,1),none)),(4,.inl ((0,13,1),none))],[],[]),(313,[(-22)]),0)]
set_option maxRecDepth 100000 in
theorem q637_ok : rf_chkB q637_P q637_U wLay q637_M ddX4_isOfOthers [(21,[0]),(35,[1])] [.inl 4] [0,3,43] 600 q637_N = true := by decide +kernel
set_option maxHeartbeats 4000000 in
theorem q637_met {G : rfG} (h : okG G) : rf_met G q637_M := rf_methodB h.1 (P := q637_P) (U := q637_U) (N := q637_N) ⟨wflT h flokX4, wcsT h csokX4, wlcT h lcokX4, spokX4 h, List.forall_mem_cons.mpr ⟨q185_met h, List.forall_mem_cons.mpr ⟨q614_met h, fun _ h => absurd h List.not_mem_nil⟩⟩, fun _ h => absurd h List.not_mem_nil, List.forall_mem_cons.mpr ⟨fun M hM => Option.some.inj (show some q185_M = some M from hM) ▸ wlkV (lkX4_65 h) q185_M rfl rfl, List.forall_mem_cons.mpr ⟨fun M hM => Option.some.inj (show some q614_M = some M from hM) ▸ wlkV (lkX4_85 h) q614_M rfl rfl, fun _ h => absurd h List.not_mem_nil⟩⟩, fun _ h => absurd h List.not_mem_nil, fun _ h => absurd h List.not_mem_nil⟩ dkX4_isOfOthers (by decide +kernel) (by rw [h.2.2.1]; exact q637_ok)
/-- NearSpell.Laid.countOwn -/
def q638_M : rfM := ((⟨"NearSpell$Laid", "countOwn", "(I)I"⟩, prog_6_method_10_code, 5, (some .int)), (2,46), ([.inr (.inl [53]),.inl ((0,2,1),none)],[]), [], [(some (.inl (((-2147483648),2147483647,1),none)),[],[])])
def q638_P : rfP := (flX4,csX4,lcX4,spX4,[q187_M,q637_M],[],[(57,0,8),(81,1,4)],([],[]))
def q638_U : rfU := []
set_option maxHeartbeats 8000000 in
def q638_N : List rfB := [(0,([(0,.inr (.inl [53])),(1,.inl ((0,2,1),none))],[],[]),(470,[0]),0),
  (12,([(0,.inr (.inl [53])),(1,.inl ((0,2,1),none)),(2,.inr (.inl [22,24,26,28,30,32,34,36,38,40,42,44,46,48])),(3,.inl (((-2147483648),2147483647,1),none)),(4,.inl ((0,22,1),none))],[],[]),(459,[(-20)]),0),
  (46,([(0,.inr (.inl [53])),(1,.inl ((0,2,1),none)),(2,.inr (.inl [22,24,26,28,30,32,34,36,38,40,42,44,46,48])),(3,.inl (((-2147483648),2147483647,1),none)),(4,.inl ((0,21,1),none))],[],[]),(442,[(-20)]),0)]
set_option maxRecDepth 100000 in
theorem q638_ok : rf_chkB q638_P q638_U wLay q638_M ddX4_countOwn [(34,[0]),(37,[1])] [.inl 4] [0,12,46] 600 q638_N = true := by decide +kernel
set_option maxHeartbeats 4000000 in
theorem q638_met {G : rfG} (h : okG G) : rf_met G q638_M := rf_methodB h.1 (P := q638_P) (U := q638_U) (N := q638_N) ⟨wflT h flokX4, wcsT h csokX4, wlcT h lcokX4, spokX4 h, List.forall_mem_cons.mpr ⟨q187_met h, List.forall_mem_cons.mpr ⟨q637_met h, fun _ h => absurd h List.not_mem_nil⟩⟩, fun _ h => absurd h List.not_mem_nil, List.forall_mem_cons.mpr ⟨fun M hM => Option.some.inj (show some q187_M = some M from hM) ▸ wlkV (lkX4_57 h) q187_M rfl rfl, List.forall_mem_cons.mpr ⟨fun M hM => Option.some.inj (show some q637_M = some M from hM) ▸ wlkV (lkX4_81 h) q637_M rfl rfl, fun _ h => absurd h List.not_mem_nil⟩⟩, fun _ h => absurd h List.not_mem_nil, fun _ h => absurd h List.not_mem_nil⟩ dkX4_countOwn (by decide +kernel) (by rw [h.2.2.1]; exact q638_ok)
/-- NearSpell.Laid.isOfOthers -/
def q639_M : rfM := ((⟨"NearSpell$Laid", "isOfOthers", "(III)Z"⟩, prog_6_method_11_code, 5, (some .boolean)), (1,22), ([.inr (.inl [53]),.inl (((-2147483648),2147483647,1),none),.inl ((0,3,1),none),.inl ((0,14,1),none)],[]), [], [(some (.inl ((1,1,0),none)),[(3,1,14)],[((12,34),(1,14,1),none)]),(some (.inl ((0,0,0),none)),[],[])])
def q639_P : rfP := (flX4,csX4,lcX4,spX4,[q185_M,q614_M],[],[(65,0,8),(85,1,3)],([],[]))
def q639_U : rfU := []
set_option maxHeartbeats 8000000 in
def q639_N : List rfB := [(0,([(0,.inr (.inl [53])),(1,.inl (((-2147483648),2147483647,1),none)),(2,.inl ((0,3,1),none)),(3,.inl ((0,14,1),none))],[],[]),(336,[0]),0),
  (3,([(0,.inr (.inl [53])),(1,.inl (((-2147483648),2147483647,1),none)),(2,.inl ((0,3,1),none)),(3,.inl ((0,14,1),none)),(4,.inl ((0,14,1),none))],[],[]),(332,[(-22)]),0),
  (43,([(0,.inr (.inl [53])),(1,.inl (((-2147483648),2147483647,1),none)),(2,.inl ((0,3,1),none)),(3,.inl ((1,14,1),none)),(4,.inl ((0,13,1),none))],[],[]),(313,[(-22)]),0)]
set_option maxRecDepth 100000 in
theorem q639_ok : rf_chkB q639_P q639_U wLay q639_M ddX4_isOfOthers [(21,[0]),(35,[1])] [.inl 4] [0,3,43] 600 q639_N = true := by decide +kernel
set_option maxHeartbeats 4000000 in
theorem q639_met {G : rfG} (h : okG G) : rf_met G q639_M := rf_methodB h.1 (P := q639_P) (U := q639_U) (N := q639_N) ⟨wflT h flokX4, wcsT h csokX4, wlcT h lcokX4, spokX4 h, List.forall_mem_cons.mpr ⟨q185_met h, List.forall_mem_cons.mpr ⟨q614_met h, fun _ h => absurd h List.not_mem_nil⟩⟩, fun _ h => absurd h List.not_mem_nil, List.forall_mem_cons.mpr ⟨fun M hM => Option.some.inj (show some q185_M = some M from hM) ▸ wlkV (lkX4_65 h) q185_M rfl rfl, List.forall_mem_cons.mpr ⟨fun M hM => Option.some.inj (show some q614_M = some M from hM) ▸ wlkV (lkX4_85 h) q614_M rfl rfl, fun _ h => absurd h List.not_mem_nil⟩⟩, fun _ h => absurd h List.not_mem_nil, fun _ h => absurd h List.not_mem_nil⟩ dkX4_isOfOthers (by decide +kernel) (by rw [h.2.2.1]; exact q639_ok)
/-- NearSpell.Laid.countOwn -/
def q640_M : rfM := ((⟨"NearSpell$Laid", "countOwn", "(I)I"⟩, prog_6_method_10_code, 5, (some .int)), (2,46), ([.inr (.inl [53]),.inl ((0,3,1),none)],[]), [], [(some (.inl (((-2147483648),2147483647,1),none)),[],[])])
def q640_P : rfP := (flX4,csX4,lcX4,spX4,[q187_M,q639_M],[],[(57,0,8),(81,1,4)],([],[]))
def q640_U : rfU := []
set_option maxHeartbeats 8000000 in
def q640_N : List rfB := [(0,([(0,.inr (.inl [53])),(1,.inl ((0,3,1),none))],[],[]),(470,[0]),0),
  (12,([(0,.inr (.inl [53])),(1,.inl ((0,3,1),none)),(2,.inr (.inl [22,24,26,28,30,32,34,36,38,40,42,44,46,48])),(3,.inl (((-2147483648),2147483647,1),none)),(4,.inl ((0,22,1),none))],[],[]),(459,[(-20)]),0),
  (46,([(0,.inr (.inl [53])),(1,.inl ((0,3,1),none)),(2,.inr (.inl [22,24,26,28,30,32,34,36,38,40,42,44,46,48])),(3,.inl (((-2147483648),2147483647,1),none)),(4,.inl ((0,21,1),none))],[],[]),(442,[(-20)]),0)]
set_option maxRecDepth 100000 in
theorem q640_ok : rf_chkB q640_P q640_U wLay q640_M ddX4_countOwn [(34,[0]),(37,[1])] [.inl 4] [0,12,46] 600 q640_N = true := by decide +kernel
set_option maxHeartbeats 4000000 in
theorem q640_met {G : rfG} (h : okG G) : rf_met G q640_M := rf_methodB h.1 (P := q640_P) (U := q640_U) (N := q640_N) ⟨wflT h flokX4, wcsT h csokX4, wlcT h lcokX4, spokX4 h, List.forall_mem_cons.mpr ⟨q187_met h, List.forall_mem_cons.mpr ⟨q639_met h, fun _ h => absurd h List.not_mem_nil⟩⟩, fun _ h => absurd h List.not_mem_nil, List.forall_mem_cons.mpr ⟨fun M hM => Option.some.inj (show some q187_M = some M from hM) ▸ wlkV (lkX4_57 h) q187_M rfl rfl, List.forall_mem_cons.mpr ⟨fun M hM => Option.some.inj (show some q639_M = some M from hM) ▸ wlkV (lkX4_81 h) q639_M rfl rfl, fun _ h => absurd h List.not_mem_nil⟩⟩, fun _ h => absurd h List.not_mem_nil, fun _ h => absurd h List.not_mem_nil⟩ dkX4_countOwn (by decide +kernel) (by rw [h.2.2.1]; exact q640_ok)
/-- NearSpell.Laid.isOfOthers -/
def q641_M : rfM := ((⟨"NearSpell$Laid", "isOfOthers", "(III)Z"⟩, prog_6_method_11_code, 5, (some .boolean)), (1,22), ([.inr (.inl [53]),.inl (((-2147483648),2147483647,1),none),.inl ((0,12,1),none),.inl ((0,14,1),none)],[]), [], [(some (.inl ((1,1,0),none)),[(3,1,14)],[((12,34),(1,14,1),none)]),(some (.inl ((0,0,0),none)),[],[])])
def q641_P : rfP := (flX4,csX4,lcX4,spX4,[q185_M,q614_M],[],[(65,0,8),(85,1,3)],([],[]))
def q641_U : rfU := []
set_option maxHeartbeats 8000000 in
def q641_N : List rfB := [(0,([(0,.inr (.inl [53])),(1,.inl (((-2147483648),2147483647,1),none)),(2,.inl ((0,12,1),none)),(3,.inl ((0,14,1),none))],[],[]),(336,[0]),0),
  (3,([(0,.inr (.inl [53])),(1,.inl (((-2147483648),2147483647,1),none)),(2,.inl ((0,12,1),none)),(3,.inl ((0,14,1),none)),(4,.inl ((0,14,1),none))],[],[]),(332,[(-22)]),0),
  (43,([(0,.inr (.inl [53])),(1,.inl (((-2147483648),2147483647,1),none)),(2,.inl ((0,12,1),none)),(3,.inl ((1,14,1),none)),(4,.inl ((0,13,1),none))],[],[]),(313,[(-22)]),0)]
set_option maxRecDepth 100000 in
theorem q641_ok : rf_chkB q641_P q641_U wLay q641_M ddX4_isOfOthers [(21,[0]),(35,[1])] [.inl 4] [0,3,43] 600 q641_N = true := by decide +kernel
set_option maxHeartbeats 4000000 in
theorem q641_met {G : rfG} (h : okG G) : rf_met G q641_M := rf_methodB h.1 (P := q641_P) (U := q641_U) (N := q641_N) ⟨wflT h flokX4, wcsT h csokX4, wlcT h lcokX4, spokX4 h, List.forall_mem_cons.mpr ⟨q185_met h, List.forall_mem_cons.mpr ⟨q614_met h, fun _ h => absurd h List.not_mem_nil⟩⟩, fun _ h => absurd h List.not_mem_nil, List.forall_mem_cons.mpr ⟨fun M hM => Option.some.inj (show some q185_M = some M from hM) ▸ wlkV (lkX4_65 h) q185_M rfl rfl, List.forall_mem_cons.mpr ⟨fun M hM => Option.some.inj (show some q614_M = some M from hM) ▸ wlkV (lkX4_85 h) q614_M rfl rfl, fun _ h => absurd h List.not_mem_nil⟩⟩, fun _ h => absurd h List.not_mem_nil, fun _ h => absurd h List.not_mem_nil⟩ dkX4_isOfOthers (by decide +kernel) (by rw [h.2.2.1]; exact q641_ok)
/-- NearSpell.Laid.countOwn -/
def q642_M : rfM := ((⟨"NearSpell$Laid", "countOwn", "(I)I"⟩, prog_6_method_10_code, 5, (some .int)), (2,46), ([.inr (.inl [53]),.inl ((0,12,1),none)],[]), [], [(some (.inl (((-2147483648),2147483647,1),none)),[],[])])
def q642_P : rfP := (flX4,csX4,lcX4,spX4,[q187_M,q641_M],[],[(57,0,8),(81,1,4)],([],[]))
def q642_U : rfU := []
set_option maxHeartbeats 8000000 in
def q642_N : List rfB := [(0,([(0,.inr (.inl [53])),(1,.inl ((0,12,1),none))],[],[]),(470,[0]),0),
  (12,([(0,.inr (.inl [53])),(1,.inl ((0,12,1),none)),(2,.inr (.inl [22,24,26,28,30,32,34,36,38,40,42,44,46,48])),(3,.inl (((-2147483648),2147483647,1),none)),(4,.inl ((0,22,1),none))],[],[]),(459,[(-20)]),0),
  (46,([(0,.inr (.inl [53])),(1,.inl ((0,12,1),none)),(2,.inr (.inl [22,24,26,28,30,32,34,36,38,40,42,44,46,48])),(3,.inl (((-2147483648),2147483647,1),none)),(4,.inl ((0,21,1),none))],[],[]),(442,[(-20)]),0)]
set_option maxRecDepth 100000 in
theorem q642_ok : rf_chkB q642_P q642_U wLay q642_M ddX4_countOwn [(34,[0]),(37,[1])] [.inl 4] [0,12,46] 600 q642_N = true := by decide +kernel
set_option maxHeartbeats 4000000 in
theorem q642_met {G : rfG} (h : okG G) : rf_met G q642_M := rf_methodB h.1 (P := q642_P) (U := q642_U) (N := q642_N) ⟨wflT h flokX4, wcsT h csokX4, wlcT h lcokX4, spokX4 h, List.forall_mem_cons.mpr ⟨q187_met h, List.forall_mem_cons.mpr ⟨q641_met h, fun _ h => absurd h List.not_mem_nil⟩⟩, fun _ h => absurd h List.not_mem_nil, List.forall_mem_cons.mpr ⟨fun M hM => Option.some.inj (show some q187_M = some M from hM) ▸ wlkV (lkX4_57 h) q187_M rfl rfl, List.forall_mem_cons.mpr ⟨fun M hM => Option.some.inj (show some q641_M = some M from hM) ▸ wlkV (lkX4_81 h) q641_M rfl rfl, fun _ h => absurd h List.not_mem_nil⟩⟩, fun _ h => absurd h List.not_mem_nil, fun _ h => absurd h List.not_mem_nil⟩ dkX4_countOwn (by decide +kernel) (by rw [h.2.2.1]; exact q642_ok)
/-- NearSpell.Laid.isOfOthers -/
def q643_M : rfM := ((⟨"NearSpell$Laid", "isOfOthers", "(III)Z"⟩, prog_6_method_11_code, 5, (some .boolean)), (1,22), ([.inr (.inl [53]),.inl (((-2147483648),2147483647,1),none),.inl ((0,13,1),none),.inl ((0,14,1),none)],[]), [], [(some (.inl ((1,1,0),none)),[(3,1,14)],[((12,34),(1,14,1),none)]),(some (.inl ((0,0,0),none)),[],[])])
def q643_P : rfP := (flX4,csX4,lcX4,spX4,[q185_M,q614_M],[],[(65,0,8),(85,1,3)],([],[]))
def q643_U : rfU := []
set_option maxHeartbeats 8000000 in
def q643_N : List rfB := [(0,([(0,.inr (.inl [53])),(1,.inl (((-2147483648),2147483647,1),none)),(2,.inl ((0,13,1),none)),(3,.inl ((0,14,1),none))],[],[]),(336,[0]),0),
  (3,([(0,.inr (.inl [53])),(1,.inl (((-2147483648),2147483647,1),none)),(2,.inl ((0,13,1),none)),(3,.inl ((0,14,1),none)),(4,.inl ((0,14,1),none))],[],[]),(332,[(-22)]),0),
  (43,([(0,.inr (.inl [53])),(1,.inl (((-2147483648),2147483647,1),none)),(2,.inl ((0,13,1),none)),(3,.inl ((1,14,1),none)),(4,.inl ((0,13,1),none))],[],[]),(313,[(-22)]),0)]
set_option maxRecDepth 100000 in
theorem q643_ok : rf_chkB q643_P q643_U wLay q643_M ddX4_isOfOthers [(21,[0]),(35,[1])] [.inl 4] [0,3,43] 600 q643_N = true := by decide +kernel
set_option maxHeartbeats 4000000 in
theorem q643_met {G : rfG} (h : okG G) : rf_met G q643_M := rf_methodB h.1 (P := q643_P) (U := q643_U) (N := q643_N) ⟨wflT h flokX4, wcsT h csokX4, wlcT h lcokX4, spokX4 h, List.forall_mem_cons.mpr ⟨q185_met h, List.forall_mem_cons.mpr ⟨q614_met h, fun _ h => absurd h List.not_mem_nil⟩⟩, fun _ h => absurd h List.not_mem_nil, List.forall_mem_cons.mpr ⟨fun M hM => Option.some.inj (show some q185_M = some M from hM) ▸ wlkV (lkX4_65 h) q185_M rfl rfl, List.forall_mem_cons.mpr ⟨fun M hM => Option.some.inj (show some q614_M = some M from hM) ▸ wlkV (lkX4_85 h) q614_M rfl rfl, fun _ h => absurd h List.not_mem_nil⟩⟩, fun _ h => absurd h List.not_mem_nil, fun _ h => absurd h List.not_mem_nil⟩ dkX4_isOfOthers (by decide +kernel) (by rw [h.2.2.1]; exact q643_ok)
/-- NearSpell.Laid.countOwn -/
def q644_M : rfM := ((⟨"NearSpell$Laid", "countOwn", "(I)I"⟩, prog_6_method_10_code, 5, (some .int)), (2,46), ([.inr (.inl [53]),.inl ((0,13,1),none)],[]), [], [(some (.inl (((-2147483648),2147483647,1),none)),[],[])])
def q644_P : rfP := (flX4,csX4,lcX4,spX4,[q187_M,q643_M],[],[(57,0,8),(81,1,4)],([],[]))
def q644_U : rfU := []
set_option maxHeartbeats 8000000 in
def q644_N : List rfB := [(0,([(0,.inr (.inl [53])),(1,.inl ((0,13,1),none))],[],[]),(470,[0]),0),
  (12,([(0,.inr (.inl [53])),(1,.inl ((0,13,1),none)),(2,.inr (.inl [22,24,26,28,30,32,34,36,38,40,42,44,46,48])),(3,.inl (((-2147483648),2147483647,1),none)),(4,.inl ((0,22,1),none))],[],[]),(459,[(-20)]),0),
  (46,([(0,.inr (.inl [53])),(1,.inl ((0,13,1),none)),(2,.inr (.inl [22,24,26,28,30,32,34,36,38,40,42,44,46,48])),(3,.inl (((-2147483648),2147483647,1),none)),(4,.inl ((0,21,1),none))],[],[]),(442,[(-20)]),0)]
set_option maxRecDepth 100000 in
theorem q644_ok : rf_chkB q644_P q644_U wLay q644_M ddX4_countOwn [(34,[0]),(37,[1])] [.inl 4] [0,12,46] 600 q644_N = true := by decide +kernel
set_option maxHeartbeats 4000000 in
theorem q644_met {G : rfG} (h : okG G) : rf_met G q644_M := rf_methodB h.1 (P := q644_P) (U := q644_U) (N := q644_N) ⟨wflT h flokX4, wcsT h csokX4, wlcT h lcokX4, spokX4 h, List.forall_mem_cons.mpr ⟨q187_met h, List.forall_mem_cons.mpr ⟨q643_met h, fun _ h => absurd h List.not_mem_nil⟩⟩, fun _ h => absurd h List.not_mem_nil, List.forall_mem_cons.mpr ⟨fun M hM => Option.some.inj (show some q187_M = some M from hM) ▸ wlkV (lkX4_57 h) q187_M rfl rfl, List.forall_mem_cons.mpr ⟨fun M hM => Option.some.inj (show some q643_M = some M from hM) ▸ wlkV (lkX4_81 h) q643_M rfl rfl, fun _ h => absurd h List.not_mem_nil⟩⟩, fun _ h => absurd h List.not_mem_nil, fun _ h => absurd h List.not_mem_nil⟩ dkX4_countOwn (by decide +kernel) (by rw [h.2.2.1]; exact q644_ok)
/-- NearSpell.Laid.rarestEntry -/
def q645_M : rfM := ((⟨"NearSpell$Laid", "rarestEntry", "()I"⟩, prog_6_method_9_code, 5, (some .int)), (4,93), ([.inr (.inl [53])],[]), [(21,0),(22,2),(22,3),(22,4),(22,5),(23,0),(24,2),(24,3),(24,4),(24,5),(25,0),(26,2),(26,3),(26,4),(26,5),(27,0),(28,2),(28,3),(28,4),(28,5),(29,0),(30,2),(30,3),(30,4),(30,5),(31,0),(32,2),(32,3),(32,4),(32,5),(33,0),(34,2),(34,3),(34,4),(34,5),(35,0),(36,2),(36,3),(36,4),(36,5),(37,0),(38,2),(38,3),(38,4),(38,5),(39,0),(40,2),(40,3),(40,4),(40,5),(41,0),(42,2),(42,3),(42,4),(42,5),(43,0),(44,2),(44,3),(44,4),(44,5),(45,0),(46,2),(46,3),(46,4),(46,5),(47,0),(48,2),(48,3),(48,4),(48,5)], [(some (.inl (((-1),13,1),none)),[],[])])
def ddX4_rarestEntry : List (Nat × Instr × Nat) := [(0,.aload_n 0,1),(1,.invokevirtual 72,3),(4,.iconst (-1),1),(5,.istore_n 1,1),(6,.iconst (-1),1),(7,.istore_n 2,1),(8,.iconst 0,1),(9,.istore_n 3,1),(10,.iload_n 3,1),(11,.aload_n 0,1),(12,.getfield 15,3),(15,.invokevirtual 57,3),(18,.if_icmp .ge 42,3),(21,.aload_n 0,1),(22,.getfield 15,3),(25,.iload_n 3,1),(26,.invokevirtual 65,3),(29,.ifCond .eq 11,3),(32,.aload_n 0,1),(33,.iload_n 3,1),(34,.invokevirtual 75,3),(37,.goto 4,3),(40,.iconst (-1),1),(41,.istore 4,2),(43,.iload 4,2),(45,.iload_n 2,1),(46,.if_icmp .le 8,3),(49,.iload_n 3,1),(50,.istore_n 1,1),(51,.iload 4,2),(53,.istore_n 2,1),(54,.iinc 3 1,3),(57,.goto (-47),3),(60,.iload_n 1,1),(61,.ireturn,1)]
set_option maxRecDepth 100000 in
theorem dkX4_rarestEntry : rf_decs prog_6_method_9_code ddX4_rarestEntry := rf_decs_of (by decide +kernel)
def q645_P : rfP := (flX4,csX4,lcX4,spX4,[q596_M,q187_M,q185_M,q644_M],[],[(57,1,8),(65,2,8),(72,0,4),(75,3,4)],([],[]))
def q645_U : rfU := []
set_option maxHeartbeats 8000000 in
def q645_N : List rfB := [(0,([(0,.inr (.inl [53]))],[],[]),(429,[0]),0),
  (10,([(0,.inr (.inl [53])),(1,.inl (((-1),13,1),none)),(2,.inl (((-1),2147483647,1),none)),(3,.inl ((0,14,1),none))],[],[]),(419,[(-28)]),0),
  (43,([(0,.inr (.inl [53])),(1,.inl (((-1),13,1),none)),(2,.inl (((-1),2147483647,1),none)),(3,.inl ((0,13,1),none)),(4,.inl (((-2147483648),2147483647,1),none))],[],[]),(401,[(-28)]),0),
  (54,([(0,.inr (.inl [53])),(1,.inl (((-1),13,1),none)),(2,.inl (((-1),2147483647,1),none)),(3,.inl ((0,13,1),none)),(4,.inl (((-2147483648),2147483647,1),none))],[],[]),(394,[(-28)]),0)]
set_option maxRecDepth 100000 in
theorem q645_ok : rf_chkB q645_P q645_U wLay q645_M ddX4_rarestEntry [(1,[0]),(15,[1]),(26,[2]),(34,[3])] [.inl 3] [0,10,43,54] 600 q645_N = true := by decide +kernel
set_option maxHeartbeats 4000000 in
theorem q645_met {G : rfG} (h : okG G) : rf_met G q645_M := rf_methodB h.1 (P := q645_P) (U := q645_U) (N := q645_N) ⟨wflT h flokX4, wcsT h csokX4, wlcT h lcokX4, spokX4 h, List.forall_mem_cons.mpr ⟨q596_met h, List.forall_mem_cons.mpr ⟨q187_met h, List.forall_mem_cons.mpr ⟨q185_met h, List.forall_mem_cons.mpr ⟨q644_met h, fun _ h => absurd h List.not_mem_nil⟩⟩⟩⟩, fun _ h => absurd h List.not_mem_nil, List.forall_mem_cons.mpr ⟨fun M hM => Option.some.inj (show some q187_M = some M from hM) ▸ wlkV (lkX4_57 h) q187_M rfl rfl, List.forall_mem_cons.mpr ⟨fun M hM => Option.some.inj (show some q185_M = some M from hM) ▸ wlkV (lkX4_65 h) q185_M rfl rfl, List.forall_mem_cons.mpr ⟨fun M hM => Option.some.inj (show some q596_M = some M from hM) ▸ wlkV (lkX4_72 h) q596_M rfl rfl, List.forall_mem_cons.mpr ⟨fun M hM => Option.some.inj (show some q644_M = some M from hM) ▸ wlkV (lkX4_75 h) q644_M rfl rfl, fun _ h => absurd h List.not_mem_nil⟩⟩⟩⟩, fun _ h => absurd h List.not_mem_nil, fun _ h => absurd h List.not_mem_nil⟩ dkX4_rarestEntry (by decide +kernel) (by rw [h.2.2.1]; exact q645_ok)
/-- NearSpell.rarest -/
def q646_M : rfM := ((⟨"NearSpell", "rarest", "()I"⟩, prog_1_method_37_code, 1, (some .int)), (5,117), ([.inr (.inl [70])],[]), [(21,0),(22,2),(22,3),(22,4),(22,5),(23,0),(24,2),(24,3),(24,4),(24,5),(25,0),(26,2),(26,3),(26,4),(26,5),(27,0),(28,2),(28,3),(28,4),(28,5),(29,0),(30,2),(30,3),(30,4),(30,5),(31,0),(32,2),(32,3),(32,4),(32,5),(33,0),(34,2),(34,3),(34,4),(34,5),(35,0),(36,2),(36,3),(36,4),(36,5),(37,0),(38,2),(38,3),(38,4),(38,5),(39,0),(40,2),(40,3),(40,4),(40,5),(41,0),(42,2),(42,3),(42,4),(42,5),(43,0),(44,2),(44,3),(44,4),(44,5),(45,0),(46,2),(46,3),(46,4),(46,5),(47,0),(48,2),(48,3),(48,4),(48,5)], [(some (.inl (((-1),13,1),none)),[],[])])
def ddX11_rarest : List (Nat × Instr × Nat) := [(0,.aload_n 0,1),(1,.getfield 58,3),(4,.invokevirtual 312,3),(7,.ireturn,1)]
set_option maxRecDepth 100000 in
theorem dkX11_rarest : rf_decs prog_1_method_37_code ddX11_rarest := rf_decs_of (by decide +kernel)
def q646_P : rfP := (flX11,csX11,lcX11,spX11,[q645_M],[],[(312,0,4)],([],[]))
def q646_U : rfU := []
set_option maxHeartbeats 8000000 in
def q646_N : List rfB := [(0,([(0,.inr (.inl [70]))],[],[]),(3,[]),0)]
set_option maxRecDepth 100000 in
theorem q646_ok : rf_chkB q646_P q646_U wLay q646_M ddX11_rarest [(4,[0])] [] [0] 600 q646_N = true := by decide +kernel
set_option maxHeartbeats 4000000 in
theorem q646_met {G : rfG} (h : okG G) : rf_met G q646_M := rf_methodB h.1 (P := q646_P) (U := q646_U) (N := q646_N) ⟨wflT h flokX11, wcsT h csokX11, wlcT h lcokX11, spokX11 h, List.forall_mem_cons.mpr ⟨q645_met h, fun _ h => absurd h List.not_mem_nil⟩, fun _ h => absurd h List.not_mem_nil, List.forall_mem_cons.mpr ⟨fun M hM => Option.some.inj (show some q645_M = some M from hM) ▸ wlkV (lkX11_312 h) q645_M rfl rfl, fun _ h => absurd h List.not_mem_nil⟩, fun _ h => absurd h List.not_mem_nil, fun _ h => absurd h List.not_mem_nil⟩ dkX11_rarest (by decide +kernel) (by rw [h.2.2.1]; exact q646_ok)
/-- NearSpell.law -/
def q647_M : rfM := ((⟨"NearSpell", "law", "(I)I"⟩, prog_1_method_38_code, 2, (some .int)), (4,95), ([.inr (.inl [70]),.inl (((-2147483648),2147483647,1),none)],[]), [(49,0),(50,2),(50,3),(50,4),(50,5)], [(some (.inl (((-2147483648),2147483647,1),none)),[],[])])
def ddX11_law : List (Nat × Instr × Nat) := [(0,.iload_n 1,1),(1,.ifCond .lt 19,3),(4,.iload_n 1,1),(5,.iconst 2,1),(6,.if_icmp .gt 14,3),(9,.aload_n 0,1),(10,.getfield 58,3),(13,.iload_n 1,1),(14,.invokevirtual 306,3),(17,.goto 4,3),(20,.iconst (-1),1),(21,.ireturn,1)]
set_option maxRecDepth 100000 in
theorem dkX11_law : rf_decs prog_1_method_38_code ddX11_law := rf_decs_of (by decide +kernel)
def q647_P : rfP := (flX11,csX11,lcX11,spX11,[q610_M],[],[(306,0,4)],([],[]))
def q647_U : rfU := []
set_option maxHeartbeats 8000000 in
def q647_N : List rfB := [(0,([(0,.inr (.inl [70])),(1,.inl (((-2147483648),2147483647,1),none))],[],[]),(12,[]),0),
  (20,([(0,.inr (.inl [70])),(1,.inl (((-2147483648),2147483647,1),none))],[],[]),(1,[]),0)]
set_option maxRecDepth 100000 in
theorem q647_ok : rf_chkB q647_P q647_U wLay q647_M ddX11_law [(14,[0])] [] [0,20] 600 q647_N = true := by decide +kernel
set_option maxHeartbeats 4000000 in
theorem q647_met {G : rfG} (h : okG G) : rf_met G q647_M := rf_methodB h.1 (P := q647_P) (U := q647_U) (N := q647_N) ⟨wflT h flokX11, wcsT h csokX11, wlcT h lcokX11, spokX11 h, List.forall_mem_cons.mpr ⟨q610_met h, fun _ h => absurd h List.not_mem_nil⟩, fun _ h => absurd h List.not_mem_nil, List.forall_mem_cons.mpr ⟨fun M hM => Option.some.inj (show some q610_M = some M from hM) ▸ wlkV (lkX11_306 h) q610_M rfl rfl, fun _ h => absurd h List.not_mem_nil⟩, fun _ h => absurd h List.not_mem_nil, fun _ h => absurd h List.not_mem_nil⟩ dkX11_law (by decide +kernel) (by rw [h.2.2.1]; exact q647_ok)
/-- NearSpell.commonDivisor -/
def q648_M : rfM := ((⟨"NearSpell", "commonDivisor", "(II)I"⟩, prog_1_method_51_code, 6, (some .int)), (0,0), ([.inl ((100,100,0),none),.inl ((0,100,1),none)],[]), [], [(some (.inl ((1,100,1),none)),[],[])])
def ddX11_commonDivisor : List (Nat × Instr × Nat) := [(0,.iload_n 0,1),(1,.istore_n 2,1),(2,.iload_n 1,1),(3,.istore_n 3,1),(4,.iconst 0,1),(5,.istore 4,2),(7,.iload 4,2),(9,.bipush 100,2),(11,.if_icmp .ge 23,3),(14,.iload_n 3,1),(15,.ifCond .eq 19,3),(18,.iload_n 2,1),(19,.iload_n 3,1),(20,.irem,1),(21,.istore 5,2),(23,.iload_n 3,1),(24,.istore_n 2,1),(25,.iload 5,2),(27,.istore_n 3,1),(28,.iinc 4 1,3),(31,.goto (-24),3),(34,.iload_n 2,1),(35,.ireturn,1)]
set_option maxRecDepth 100000 in
theorem dkX11_commonDivisor : rf_decs prog_1_method_51_code ddX11_commonDivisor := rf_decs_of (by decide +kernel)
def q648_P : rfP := (flX11,csX11,lcX11,spX11,[],[],[],([],[]))
def q648_U : rfU := []
set_option maxHeartbeats 8000000 in
def q648_N : List rfB := [(0,([(0,.inl ((100,100,0),none)),(1,.inl ((0,100,1),none))],[],[]),(1623,[0]),0),
  (7,([(0,.inl ((100,100,0),none)),(1,.inl ((0,100,1),none)),(2,.inl ((1,100,1),none)),(3,.inl ((0,100,1),none)),(4,.inl ((0,100,1),none))],[],[]),(14,[16]),0),
  (34,([(0,.inl ((100,100,0),none)),(1,.inl ((0,100,1),none)),(2,.inl ((1,100,1),none)),(3,.inl ((0,100,1),none)),(4,.inl ((0,100,1),none))],[],[]),(1,[0]),0)]
set_option maxRecDepth 100000 in
theorem q648_ok : rf_chkB q648_P q648_U wLay q648_M ddX11_commonDivisor [] [.inl 3] [0,7,34] 600 q648_N = true := by decide +kernel
set_option maxHeartbeats 4000000 in
theorem q648_met {G : rfG} (h : okG G) : rf_met G q648_M := rf_methodB h.1 (P := q648_P) (U := q648_U) (N := q648_N) ⟨wflT h flokX11, wcsT h csokX11, wlcT h lcokX11, spokX11 h, fun _ h => absurd h List.not_mem_nil, fun _ h => absurd h List.not_mem_nil, fun _ h => absurd h List.not_mem_nil, fun _ h => absurd h List.not_mem_nil, fun _ h => absurd h List.not_mem_nil⟩ dkX11_commonDivisor (by decide +kernel) (by rw [h.2.2.1]; exact q648_ok)
/-- NearSpell.odds -/
def q649_M : rfM := ((⟨"NearSpell", "odds", "(II)I"⟩, prog_1_method_39_code, 8, (some .int)), (1,25), ([.inr (.inl [70]),.inl (((-2147483648),2147483647,1),none),.inl (((-2147483648),2147483647,1),none)],[]), [], [(some (.inl (((-2147483648),2147483647,1),none)),[],[])])
def ddX11_odds : List (Nat × Instr × Nat) := [(0,.iload_n 1,1),(1,.ifCond .lt 17,3),(4,.iload_n 1,1),(5,.iconst 4,1),(6,.if_icmp .gt 12,3),(9,.iload_n 2,1),(10,.ifCond .lt 8,3),(13,.iload_n 2,1),(14,.iconst 1,1),(15,.if_icmp .le 5,3),(18,.iconst (-1),1),(19,.ireturn,1),(20,.bipush 100,2),(22,.aload_n 0,1),(23,.getfield 16,3),(26,.getfield 192,3),(29,.isub,1),(30,.istore_n 3,1),(31,.bipush 100,2),(33,.iload_n 3,1),(34,.invokestatic 315,3),(37,.istore 4,2),(39,.iload_n 2,1),(40,.ifCond .ne 7,3),(43,.iload_n 3,1),(44,.goto 5,3),(47,.bipush 100,2),(49,.istore 5,2),(51,.iload 4,2),(53,.ifCond .le 10,3),(56,.iload 5,2),(58,.iload 4,2),(60,.idiv,1),(61,.istore 5,2),(63,.iconst 1,1),(64,.istore 6,2),(66,.iconst 0,1),(67,.istore 7,2),(69,.iload 7,2),(71,.iload_n 1,1),(72,.if_icmp .ge 16,3),(75,.iload 6,2),(77,.iload 5,2),(79,.imul,1),(80,.istore 6,2),(82,.iinc 7 1,3),(85,.goto (-16),3),(88,.iload 6,2),(90,.ireturn,1)]
set_option maxRecDepth 100000 in
theorem dkX11_odds : rf_decs prog_1_method_39_code ddX11_odds := rf_decs_of (by decide +kernel)
def q649_P : rfP := (flX11,csX11,lcX11,spX11,[q648_M],[(315,0)],[],([],[]))
def q649_U : rfU := []
set_option maxHeartbeats 8000000 in
def q649_N : List rfB := [(0,([(0,.inr (.inl [70])),(1,.inl (((-2147483648),2147483647,1),none)),(2,.inl (((-2147483648),2147483647,1),none))],[],[]),(89,[0]),0),
  (18,([(0,.inr (.inl [70])),(1,.inl (((-2147483648),2147483647,1),none)),(2,.inl (((-2147483648),2147483647,1),none))],[],[]),(1,[0]),0),
  (49,([(0,.inr (.inl [70])),(1,.inl ((0,4,1),none)),(2,.inl ((0,1,1),none)),(3,.inl ((0,100,1),none)),(4,.inl ((1,100,1),none))],[.inl ((0,100,1),none)],[]),(64,[0]),0),
  (69,([(0,.inr (.inl [70])),(1,.inl ((0,4,1),none)),(2,.inl ((0,1,1),none)),(3,.inl ((0,100,1),none)),(4,.inl ((1,100,1),none)),(5,.inl (((-2147483648),2147483647,1),none)),(6,.inl (((-2147483648),2147483647,1),none)),(7,.inl ((0,4,1),none))],[],[]),(51,[(-10)]),0)]
set_option maxRecDepth 100000 in
theorem q649_ok : rf_chkB q649_P q649_U wLay q649_M ddX11_odds [(34,[0])] [.inl 7] [0,18,49,69] 600 q649_N = true := by decide +kernel
set_option maxHeartbeats 4000000 in
theorem q649_met {G : rfG} (h : okG G) : rf_met G q649_M := rf_methodB h.1 (P := q649_P) (U := q649_U) (N := q649_N) ⟨wflT h flokX11, wcsT h csokX11, wlcT h lcokX11, spokX11 h, List.forall_mem_cons.mpr ⟨q648_met h, fun _ h => absurd h List.not_mem_nil⟩, List.forall_mem_cons.mpr ⟨fun M hM => Option.some.inj (show some q648_M = some M from hM) ▸ wlkS (lkX11_315 h) q648_M rfl rfl, fun _ h => absurd h List.not_mem_nil⟩, fun _ h => absurd h List.not_mem_nil, fun _ h => absurd h List.not_mem_nil, fun _ h => absurd h List.not_mem_nil⟩ dkX11_odds (by decide +kernel) (by rw [h.2.2.1]; exact q649_ok)
