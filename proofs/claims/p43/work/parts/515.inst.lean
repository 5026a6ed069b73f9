/-- NearSpellModel.readTwo -/
def q778_M : rfM := ((⟨"NearSpellModel", "readTwo", "(I)V"⟩, prog_14_method_82_code, 3, none), (21,2021), ([.inr (.inl [114]),.inl ((0,4,1),none)],[]), [(94,0),(95,0),(96,0),(97,0),(100,0),(101,0),(114,45),(114,46)], [(none,[],[])])
def q778_P : rfP := (flX12,csX12,lcX12,spX12,[q751_M,q646_M,q685_M,q683_M,q777_M],[],[(350,1,12),(399,0,12),(402,2,12),(405,3,12),(431,4,12)],([],[]))
def q778_U : rfU := []
set_option maxHeartbeats 8000000 in
def q778_N : List rfB := [(0,([(0,.inr (.inl [114])),(1,.inl ((0,4,1),none))],[],[]),(483,[0]),0),
  (26,([(0,.inr (.inl [114])),(1,.inl ((0,4,1),none)),(2,.inl ((0,14,1),none))],[],[]),(463,[(-31)]),0),
  (70,([(0,.inr (.inl [114])),(1,.inl ((0,4,1),none)),(2,.inl ((0,13,1),none))],[],[]),(435,[(-31)]),0)]
set_option maxRecDepth 100000 in
theorem q778_ok : rf_chkB q778_P q778_U wLay q778_M ddX12_readTwo [(21,[0]),(34,[1]),(53,[2]),(62,[3]),(67,[4])] [.inl 2] [0,26,70] 600 q778_N = true := by decide +kernel
set_option maxHeartbeats 4000000 in
theorem q778_met {G : rfG} (h : okG G) (hh : wHandOK G) : rf_met G q778_M := rf_methodB h.1 (P := q778_P) (U := q778_U) (N := q778_N) ⟨wflT h flokX12, wcsT h csokX12, wlcT h lcokX12, spokX12 h, List.forall_mem_cons.mpr ⟨q751_met h hh, List.forall_mem_cons.mpr ⟨q646_met h hh, List.forall_mem_cons.mpr ⟨q685_met h hh, List.forall_mem_cons.mpr ⟨q683_met h hh, List.forall_mem_cons.mpr ⟨q777_met h hh, fun _ h => absurd h List.not_mem_nil⟩⟩⟩⟩⟩, fun _ h => absurd h List.not_mem_nil, List.forall_mem_cons.mpr ⟨fun M hM => Option.some.inj (show some q646_M = some M from hM) ▸ wlkV (lkX12_350 h) q646_M rfl rfl, List.forall_mem_cons.mpr ⟨fun M hM => Option.some.inj (show some q751_M = some M from hM) ▸ wlkV (lkX12_399 h) q751_M rfl rfl, List.forall_mem_cons.mpr ⟨fun M hM => Option.some.inj (show some q685_M = some M from hM) ▸ wlkV (lkX12_402 h) q685_M rfl rfl, List.forall_mem_cons.mpr ⟨fun M hM => Option.some.inj (show some q683_M = some M from hM) ▸ wlkV (lkX12_405 h) q683_M rfl rfl, List.forall_mem_cons.mpr ⟨fun M hM => Option.some.inj (show some q777_M = some M from hM) ▸ wlkV (lkX12_431 h) q777_M rfl rfl, fun _ h => absurd h List.not_mem_nil⟩⟩⟩⟩⟩, fun _ h => absurd h List.not_mem_nil, fun _ h => absurd h List.not_mem_nil⟩ dkX12_readTwo (by decide +kernel) (by rw [h.2.2.1]; exact q778_ok)
/-- NearSpellModel.layReadings -/
def q779_M : rfM := ((⟨"NearSpellModel", "layReadings", "()V"⟩, prog_14_method_83_code, 2, none), (22,2044), ([.inr (.inl [114])],[]), [(94,0),(95,0),(96,0),(97,0),(100,0),(101,0),(114,45),(114,46)], [(none,[],[])])
def ddX12_layReadings : List (Nat × Instr × Nat) := [(0,.iconst 0,1),(1,.istore_n 1,1),(2,.iload_n 1,1),(3,.bipush 6,2),(5,.if_icmp .gt 41,3),(8,.aload_n 0,1),(9,.getfield 102,3),(12,.iload_n 1,1),(13,.iload_n 1,1),(14,.ifCond .ne 7,3),(17,.iconst 0,1),(18,.goto 6,3),(21,.sipush 1000,3),(24,.iastore,1),(25,.aload_n 0,1),(26,.getfield 105,3),(29,.iload_n 1,1),(30,.iload_n 1,1),(31,.ifCond .ne 7,3),(34,.iconst 1,1),(35,.goto 4,3),(38,.iconst 0,1),(39,.iastore,1),(40,.iinc 1 1,3),(43,.goto (-41),3),(46,.iconst 0,1),(47,.istore_n 1,1),(48,.iload_n 1,1),(49,.aload_n 0,1),(50,.getfield 72,3),(53,.bipush 29,2),(55,.iaload,1),(56,.if_icmp .ge 32,3),(59,.aload_n 0,1),(60,.iload_n 1,1),(61,.invokevirtual 435,3),(64,.iload_n 1,1),(65,.iconst 1,1),(66,.iadd,1),(67,.aload_n 0,1),(68,.getfield 72,3),(71,.bipush 29,2),(73,.iaload,1),(74,.if_icmp .ge 8,3),(77,.aload_n 0,1),(78,.iload_n 1,1),(79,.invokevirtual 438,3),(82,.iinc 1 1,3),(85,.goto (-37),3),(88,.return_,1)]
set_option maxRecDepth 100000 in
theorem dkX12_layReadings : rf_decs prog_14_method_83_code ddX12_layReadings := rf_decs_of (by decide +kernel)
def q779_P : rfP := (flX12,csX12,lcX12,spX12,[q776_M,q778_M],[],[(435,0,12),(438,1,12)],([],[]))
def q779_U : rfU := []
set_option maxHeartbeats 8000000 in
def q779_N : List rfB := [(0,([(0,.inr (.inl [114]))],[],[]),(373,[0]),0),
  (2,([(0,.inr (.inl [114])),(1,.inl ((0,7,1),none))],[],[]),(369,[(-26)]),0),
  (25,([(0,.inr (.inl [114])),(1,.inl ((0,6,1),none))],[],[]),(356,[(-26)]),0),
  (40,([(0,.inr (.inl [114])),(1,.inl ((0,6,1),none))],[],[]),(346,[(-26)]),0),
  (48,([(0,.inr (.inl [114])),(1,.inl ((0,6,1),none))],[],[]),(159,[(-23)]),0),
  (82,([(0,.inr (.inl [114])),(1,.inl ((0,5,1),none))],[],[((90,29),(1,6,1),none)]),(139,[(-23)]),0)]
set_option maxRecDepth 100000 in
theorem q779_ok : rf_chkB q779_P q779_U wLay q779_M ddX12_layReadings [(61,[0]),(79,[1])] [.inl 1] [0,2,25,40,48,82] 600 q779_N = true := by decide +kernel
set_option maxHeartbeats 4000000 in
theorem q779_met {G : rfG} (h : okG G) (hh : wHandOK G) : rf_met G q779_M := rf_methodB h.1 (P := q779_P) (U := q779_U) (N := q779_N) ⟨wflT h flokX12, wcsT h csokX12, wlcT h lcokX12, spokX12 h, List.forall_mem_cons.mpr ⟨q776_met h hh, List.forall_mem_cons.mpr ⟨q778_met h hh, fun _ h => absurd h List.not_mem_nil⟩⟩, fun _ h => absurd h List.not_mem_nil, List.forall_mem_cons.mpr ⟨fun M hM => Option.some.inj (show some q776_M = some M from hM) ▸ wlkV (lkX12_435 h) q776_M rfl rfl, List.forall_mem_cons.mpr ⟨fun M hM => Option.some.inj (show some q778_M = some M from hM) ▸ wlkV (lkX12_438 h) q778_M rfl rfl, fun _ h => absurd h List.not_mem_nil⟩⟩, fun _ h => absurd h List.not_mem_nil, fun _ h => absurd h List.not_mem_nil⟩ dkX12_layReadings (by decide +kernel) (by rw [h.2.2.1]; exact q779_ok)
/-- NearSpellModel.reading -/
def q780_M : rfM := ((⟨"NearSpellModel", "reading", "()I"⟩, prog_14_method_84_code, 1, (some .int)), (23,2065), ([.inr (.inl [114])],[((114,28),(0,0,0),none)]), [(94,0),(95,0),(96,0),(97,0),(100,0),(101,0),(114,45),(114,46)], [(some (.inl (((-2147483648),2147483647,1),none)),[],[])])
def ddX12_reading : List (Nat × Instr × Nat) := [(0,.aload_n 0,1),(1,.getfield 72,3),(4,.bipush 29,2),(6,.iaload,1),(7,.ifCond .le 12,3),(10,.aload_n 0,1),(11,.invokevirtual 423,3),(14,.ifCond .ne 5,3),(17,.iconst (-1),1),(18,.ireturn,1),(19,.aload_n 0,1),(20,.invokevirtual 441,3),(23,.aload_n 0,1),(24,.getfield 102,3),(27,.aload_n 0,1),(28,.getfield 72,3),(31,.bipush 29,2),(33,.iaload,1),(34,.iaload,1),(35,.ireturn,1)]
set_option maxRecDepth 100000 in
theorem dkX12_reading : rf_decs prog_14_method_84_code ddX12_reading := rf_decs_of (by decide +kernel)
def q780_P : rfP := (flX12,csX12,lcX12,spX12,[q651_M,q779_M],[],[(423,0,12),(441,1,12)],([],[]))
def q780_U : rfU := []
set_option maxHeartbeats 8000000 in
def q780_N : List rfB := [(0,([(0,.inr (.inl [114]))],[],[((114,28),(0,0,0),some ((114,28),0,0))]),(19,[]),0),
  (19,([(0,.inr (.inl [114]))],[],[((114,28),(0,0,0),some ((114,28),0,0))]),(9,[]),0)]
set_option maxRecDepth 100000 in
theorem q780_ok : rf_chkB q780_P q780_U wLay q780_M ddX12_reading [(11,[0]),(20,[1])] [] [0,19] 600 q780_N = true := by decide +kernel
set_option maxHeartbeats 4000000 in
theorem q780_met {G : rfG} (h : okG G) (hh : wHandOK G) : rf_met G q780_M := rf_methodB h.1 (P := q780_P) (U := q780_U) (N := q780_N) ⟨wflT h flokX12, wcsT h csokX12, wlcT h lcokX12, spokX12 h, List.forall_mem_cons.mpr ⟨q651_met h hh, List.forall_mem_cons.mpr ⟨q779_met h hh, fun _ h => absurd h List.not_mem_nil⟩⟩, fun _ h => absurd h List.not_mem_nil, List.forall_mem_cons.mpr ⟨fun M hM => Option.some.inj (show some q651_M = some M from hM) ▸ wlkV (lkX12_423 h) q651_M rfl rfl, List.forall_mem_cons.mpr ⟨fun M hM => Option.some.inj (show some q779_M = some M from hM) ▸ wlkV (lkX12_441 h) q779_M rfl rfl, fun _ h => absurd h List.not_mem_nil⟩⟩, fun _ h => absurd h List.not_mem_nil, fun _ h => absurd h List.not_mem_nil⟩ dkX12_reading (by decide +kernel) (by rw [h.2.2.1]; exact q780_ok)
/-- NearSpellModel.reading -/
def q781_M : rfM := ((⟨"NearSpellModel", "reading", "()I"⟩, prog_14_method_84_code, 1, (some .int)), (23,2065), ([.inr (.inl [114])],[((77,1),(1,31,1),none),((114,28),(1,1,0),none)]), [(94,0),(95,0),(96,0),(97,0),(100,0),(101,0),(114,45),(114,46)], [(some (.inl (((-2147483648),2147483647,1),none)),[],[])])
def q781_P : rfP := (flX12,csX12,lcX12,spX12,[q651_M,q779_M],[],[(423,0,12),(441,1,12)],([],[]))
def q781_U : rfU := []
set_option maxHeartbeats 8000000 in
def q781_N : List rfB := [(0,([(0,.inr (.inl [114]))],[],[((77,1),(1,31,1),some ((77,1),0,0)),((114,28),(1,1,0),some ((114,28),0,0))]),(19,[]),0),
  (19,([(0,.inr (.inl [114]))],[],[((77,1),(1,31,1),some ((77,1),0,0)),((114,28),(1,1,0),some ((114,28),0,0))]),(9,[]),0)]
set_option maxRecDepth 100000 in
theorem q781_ok : rf_chkB q781_P q781_U wLay q781_M ddX12_reading [(11,[0]),(20,[1])] [] [0,19] 600 q781_N = true := by decide +kernel
set_option maxHeartbeats 4000000 in
theorem q781_met {G : rfG} (h : okG G) (hh : wHandOK G) : rf_met G q781_M := rf_methodB h.1 (P := q781_P) (U := q781_U) (N := q781_N) ⟨wflT h flokX12, wcsT h csokX12, wlcT h lcokX12, spokX12 h, List.forall_mem_cons.mpr ⟨q651_met h hh, List.forall_mem_cons.mpr ⟨q779_met h hh, fun _ h => absurd h List.not_mem_nil⟩⟩, fun _ h => absurd h List.not_mem_nil, List.forall_mem_cons.mpr ⟨fun M hM => Option.some.inj (show some q651_M = some M from hM) ▸ wlkV (lkX12_423 h) q651_M rfl rfl, List.forall_mem_cons.mpr ⟨fun M hM => Option.some.inj (show some q779_M = some M from hM) ▸ wlkV (lkX12_441 h) q779_M rfl rfl, fun _ h => absurd h List.not_mem_nil⟩⟩, fun _ h => absurd h List.not_mem_nil, fun _ h => absurd h List.not_mem_nil⟩ dkX12_reading (by decide +kernel) (by rw [h.2.2.1]; exact q781_ok)
/-- NearSpellModel.readings -/
def q782_M : rfM := ((⟨"NearSpellModel", "readings", "()I"⟩, prog_14_method_85_code, 1, (some .int)), (23,2065), ([.inr (.inl [114])],[((114,28),(0,0,0),none)]), [(94,0),(95,0),(96,0),(97,0),(100,0),(101,0),(114,45),(114,46)], [(some (.inl (((-2147483648),2147483647,1),none)),[],[])])
def ddX12_readings : List (Nat × Instr × Nat) := [(0,.aload_n 0,1),(1,.getfield 72,3),(4,.bipush 29,2),(6,.iaload,1),(7,.ifCond .le 12,3),(10,.aload_n 0,1),(11,.invokevirtual 423,3),(14,.ifCond .ne 5,3),(17,.iconst (-1),1),(18,.ireturn,1),(19,.aload_n 0,1),(20,.invokevirtual 441,3),(23,.aload_n 0,1),(24,.getfield 105,3),(27,.aload_n 0,1),(28,.getfield 72,3),(31,.bipush 29,2),(33,.iaload,1),(34,.iaload,1),(35,.ireturn,1)]
set_option maxRecDepth 100000 in
theorem dkX12_readings : rf_decs prog_14_method_85_code ddX12_readings := rf_decs_of (by decide +kernel)
def q782_P : rfP := (flX12,csX12,lcX12,spX12,[q651_M,q779_M],[],[(423,0,12),(441,1,12)],([],[]))
def q782_U : rfU := []
set_option maxHeartbeats 8000000 in
def q782_N : List rfB := [(0,([(0,.inr (.inl [114]))],[],[((114,28),(0,0,0),some ((114,28),0,0))]),(19,[]),0),
  (19,([(0,.inr (.inl [114]))],[],[((114,28),(0,0,0),some ((114,28),0,0))]),(9,[]),0)]
set_option maxRecDepth 100000 in
theorem q782_ok : rf_chkB q782_P q782_U wLay q782_M ddX12_readings [(11,[0]),(20,[1])] [] [0,19] 600 q782_N = true := by decide +kernel
set_option maxHeartbeats 4000000 in
theorem q782_met {G : rfG} (h : okG G) (hh : wHandOK G) : rf_met G q782_M := rf_methodB h.1 (P := q782_P) (U := q782_U) (N := q782_N) ⟨wflT h flokX12, wcsT h csokX12, wlcT h lcokX12, spokX12 h, List.forall_mem_cons.mpr ⟨q651_met h hh, List.forall_mem_cons.mpr ⟨q779_met h hh, fun _ h => absurd h List.not_mem_nil⟩⟩, fun _ h => absurd h List.not_mem_nil, List.forall_mem_cons.mpr ⟨fun M hM => Option.some.inj (show some q651_M = some M from hM) ▸ wlkV (lkX12_423 h) q651_M rfl rfl, List.forall_mem_cons.mpr ⟨fun M hM => Option.some.inj (show some q779_M = some M from hM) ▸ wlkV (lkX12_441 h) q779_M rfl rfl, fun _ h => absurd h List.not_mem_nil⟩⟩, fun _ h => absurd h List.not_mem_nil, fun _ h => absurd h List.not_mem_nil⟩ dkX12_readings (by decide +kernel) (by rw [h.2.2.1]; exact q782_ok)
/-- NearSpellModel.readings -/
def q783_M : rfM := ((⟨"NearSpellModel", "readings", "()I"⟩, prog_14_method_85_code, 1, (some .int)), (23,2065), ([.inr (.inl [114])],[((77,1),(1,31,1),none),((114,28),(1,1,0),none)]), [(94,0),(95,0),(96,0),(97,0),(100,0),(101,0),(114,45),(114,46)], [(some (.inl (((-2147483648),2147483647,1),none)),[],[])])
def q783_P : rfP := (flX12,csX12,lcX12,spX12,[q651_M,q779_M],[],[(423,0,12),(441,1,12)],([],[]))
def q783_U : rfU := []
set_option maxHeartbeats 8000000 in
def q783_N : List rfB := [(0,([(0,.inr (.inl [114]))],[],[((77,1),(1,31,1),some ((77,1),0,0)),((114,28),(1,1,0),some ((114,28),0,0))]),(19,[]),0),
  (19,([(0,.inr (.inl [114]))],[],[((77,1),(1,31,1),some ((77,1),0,0)),((114,28),(1,1,0),some ((114,28),0,0))]),(9,[]),0)]
set_option maxRecDepth 100000 in
theorem q783_ok : rf_chkB q783_P q783_U wLay q783_M ddX12_readings [(11,[0]),(20,[1])] [] [0,19] 600 q783_N = true := by decide +kernel
set_option maxHeartbeats 4000000 in
theorem q783_met {G : rfG} (h : okG G) (hh : wHandOK G) : rf_met G q783_M := rf_methodB h.1 (P := q783_P) (U := q783_U) (N := q783_N) ⟨wflT h flokX12, wcsT h csokX12, wlcT h lcokX12, spokX12 h, List.forall_mem_cons.mpr ⟨q651_met h hh, List.forall_mem_cons.mpr ⟨q779_met h hh, fun _ h => absurd h List.not_mem_nil⟩⟩, fun _ h => absurd h List.not_mem_nil, List.forall_mem_cons.mpr ⟨fun M hM => Option.some.inj (show some q651_M = some M from hM) ▸ wlkV (lkX12_423 h) q651_M rfl rfl, List.forall_mem_cons.mpr ⟨fun M hM => Option.some.inj (show some q779_M = some M from hM) ▸ wlkV (lkX12_441 h) q779_M rfl rfl, fun _ h => absurd h List.not_mem_nil⟩⟩, fun _ h => absurd h List.not_mem_nil, fun _ h => absurd h List.not_mem_nil⟩ dkX12_readings (by decide +kernel) (by rw [h.2.2.1]; exact q783_ok)
/-- NearSpellModel.layOne -/
def q784_M : rfM := ((⟨"NearSpellModel", "layOne", "(II)V"⟩, prog_14_method_56_code, 4, none), (3,66), ([.inr (.inl [114]),.inl (((-1),387420488,1),none),.inl ((0,0,0),none)],[]), [(94,0),(114,45)], [(none,[],[((114,44),(0,6,1),none)])])
def q784_P : rfP := (flX12,csX12,lcX12,spX12,[q608_M,q680_M,q621_M],[(319,0),(319,1),(359,2)],[],([],[]))
def q784_U : rfU := []
set_option maxHeartbeats 8000000 in
def q784_N : List rfB := [(0,([(0,.inr (.inl [114])),(1,.inl (((-1),387420488,1),none)),(2,.inl ((0,0,0),none))],[],[]),(183,[0]),0),
  (15,([(0,.inr (.inl [114])),(1,.inl (((-1),387420488,1),none)),(2,.inl ((0,0,0),none)),(3,.inl ((0,11,1),none))],[],[((114,44),(0,6,1),none)]),(172,[(-14)]),0)]
set_option maxRecDepth 100000 in
theorem q784_ok : rf_chkB q784_P q784_U wLay q784_M ddX12_layOne [(2,[0]),(6,[1]),(17,[0]),(30,[2]),(44,[1])] [.inl 3] [0,15] 600 q784_N = true := by decide +kernel
set_option maxHeartbeats 4000000 in
theorem q784_met {G : rfG} (h : okG G) (hh : wHandOK G) : rf_met G q784_M := rf_methodB h.1 (P := q784_P) (U := q784_U) (N := q784_N) ⟨wflT h flokX12, wcsT h csokX12, wlcT h lcokX12, spokX12 h, List.forall_mem_cons.mpr ⟨q608_met h hh, List.forall_mem_cons.mpr ⟨q680_met h hh, List.forall_mem_cons.mpr ⟨q621_met h hh, fun _ h => absurd h List.not_mem_nil⟩⟩⟩, List.forall_mem_cons.mpr ⟨fun M hM => Option.some.inj (show some q608_M = some M from hM) ▸ wlkS (lkX12_319 h) q608_M rfl rfl, List.forall_mem_cons.mpr ⟨fun M hM => Option.some.inj (show some q680_M = some M from hM) ▸ wlkS (lkX12_319 h) q680_M rfl rfl, List.forall_mem_cons.mpr ⟨fun M hM => Option.some.inj (show some q621_M = some M from hM) ▸ wlkS (lkX12_359 h) q621_M rfl rfl, fun _ h => absurd h List.not_mem_nil⟩⟩⟩, fun _ h => absurd h List.not_mem_nil, fun _ h => absurd h List.not_mem_nil, fun _ h => absurd h List.not_mem_nil⟩ dkX12_layOne (by decide +kernel) (by rw [h.2.2.1]; exact q784_ok)
/-- NearSpellModel.apart -/
def q785_M : rfM := ((⟨"NearSpellModel", "apart", "(II)I"⟩, prog_14_method_62_code, 3, (some .int)), (21,2021), ([.inr (.inl [114]),.inl (((-1),387420488,1),none),.inl (((-1),387420488,1),none)],[]), [(94,0),(95,0),(96,0),(97,0),(114,45),(114,46)], [(some (.inl ((0,12,1),none)),[],[((114,44),(0,6,1),none),((114,45),(0,6,1),none)])])
def q785_P : rfP := (flX12,csX12,lcX12,spX12,[q784_M,q685_M,q683_M],[],[(399,0,12),(402,1,12),(405,2,12)],([],[]))
def q785_U : rfU := []
set_option maxHeartbeats 8000000 in
def q785_N : List rfB := [(0,([(0,.inr (.inl [114])),(1,.inl (((-1),387420488,1),none)),(2,.inl (((-1),387420488,1),none))],[],[]),(10,[]),0)]
set_option maxRecDepth 100000 in
theorem q785_ok : rf_chkB q785_P q785_U wLay q785_M ddX12_apart [(3,[0]),(9,[1]),(13,[2])] [] [0] 600 q785_N = true := by decide +kernel
set_option maxHeartbeats 4000000 in
theorem q785_met {G : rfG} (h : okG G) (hh : wHandOK G) : rf_met G q785_M := rf_methodB h.1 (P := q785_P) (U := q785_U) (N := q785_N) ⟨wflT h flokX12, wcsT h csokX12, wlcT h lcokX12, spokX12 h, List.forall_mem_cons.mpr ⟨q784_met h hh, List.forall_mem_cons.mpr ⟨q685_met h hh, List.forall_mem_cons.mpr ⟨q683_met h hh, fun _ h => absurd h List.not_mem_nil⟩⟩⟩, fun _ h => absurd h List.not_mem_nil, List.forall_mem_cons.mpr ⟨fun M hM => Option.some.inj (show some q784_M = some M from hM) ▸ wlkV (lkX12_399 h) q784_M rfl rfl, List.forall_mem_cons.mpr ⟨fun M hM => Option.some.inj (show some q685_M = some M from hM) ▸ wlkV (lkX12_402 h) q685_M rfl rfl, List.forall_mem_cons.mpr ⟨fun M hM => Option.some.inj (show some q683_M = some M from hM) ▸ wlkV (lkX12_405 h) q683_M rfl rfl, fun _ h => absurd h List.not_mem_nil⟩⟩⟩, fun _ h => absurd h List.not_mem_nil, fun _ h => absurd h List.not_mem_nil⟩ dkX12_apart (by decide +kernel) (by rw [h.2.2.1]; exact q785_ok)
/-- NearSpellModel.apartFrom -/
def q786_M : rfM := ((⟨"NearSpellModel", "apartFrom", "(II)I"⟩, prog_14_method_63_code, 3, (some .int)), (22,2043), ([.inr (.inl [114]),.inl ((0,0,0),none),.inl ((0,0,0),none)],[]), [(94,0),(95,0),(96,0),(97,0),(114,45),(114,46)], [(some (.inl ((0,12,1),none)),[],[((114,44),(0,6,1),none),((114,45),(0,6,1),none)])])
def ddX12_apartFrom : List (Nat × Instr × Nat) := [(0,.aload_n 0,1),(1,.aload_n 0,1),(2,.getfield 72,3),(5,.iconst 0,1),(6,.iload_n 1,1),(7,.iadd,1),(8,.iaload,1),(9,.aload_n 0,1),(10,.getfield 72,3),(13,.iconst 0,1),(14,.iload_n 2,1),(15,.iadd,1),(16,.iaload,1),(17,.invokevirtual 408,3),(20,.ireturn,1)]
set_option maxRecDepth 100000 in
theorem dkX12_apartFrom : rf_decs prog_14_method_63_code ddX12_apartFrom := rf_decs_of (by decide +kernel)
def q786_P : rfP := (flX12,csX12,lcX12,spX12,[q785_M],[],[(408,0,12)],([],[]))
def q786_U : rfU := []
set_option maxHeartbeats 8000000 in
def q786_N : List rfB := [(0,([(0,.inr (.inl [114])),(1,.inl ((0,0,0),none)),(2,.inl ((0,0,0),none))],[],[]),(14,[]),0)]
set_option maxRecDepth 100000 in
theorem q786_ok : rf_chkB q786_P q786_U wLay q786_M ddX12_apartFrom [(17,[0])] [] [0] 600 q786_N = true := by decide +kernel
set_option maxHeartbeats 4000000 in
theorem q786_met {G : rfG} (h : okG G) (hh : wHandOK G) : rf_met G q786_M := rf_methodB h.1 (P := q786_P) (U := q786_U) (N := q786_N) ⟨wflT h flokX12, wcsT h csokX12, wlcT h lcokX12, spokX12 h, List.forall_mem_cons.mpr ⟨q785_met h hh, fun _ h => absurd h List.not_mem_nil⟩, fun _ h => absurd h List.not_mem_nil, List.forall_mem_cons.mpr ⟨fun M hM => Option.some.inj (show some q785_M = some M from hM) ▸ wlkV (lkX12_408 h) q785_M rfl rfl, fun _ h => absurd h List.not_mem_nil⟩, fun _ h => absurd h List.not_mem_nil, fun _ h => absurd h List.not_mem_nil⟩ dkX12_apartFrom (by decide +kernel) (by rw [h.2.2.1]; exact q786_ok)
/-- NearSpellModel.apartFrom -/
def q787_M : rfM := ((⟨"NearSpellModel", "apartFrom", "(II)I"⟩, prog_14_method_63_code, 3, (some .int)), (22,2043), ([.inr (.inl [114]),.inl ((0,1,1),none),.inl ((0,1,1),none)],[]), [(94,0),(95,0),(96,0),(97,0),(114,45),(114,46)], [(some (.inl ((0,12,1),none)),[],[((114,44),(0,6,1),none),((114,45),(0,6,1),none)])])
def q787_P : rfP := (flX12,csX12,lcX12,spX12,[q785_M],[],[(408,0,12)],([],[]))
def q787_U : rfU := []
set_option maxHeartbeats 8000000 in
def q787_N : List rfB := [(0,([(0,.inr (.inl [114])),(1,.inl ((0,1,1),none)),(2,.inl ((0,1,1),none))],[],[]),(14,[]),0)]
set_option maxRecDepth 100000 in
theorem q787_ok : rf_chkB q787_P q787_U wLay q787_M ddX12_apartFrom [(17,[0])] [] [0] 600 q787_N = true := by decide +kernel
set_option maxHeartbeats 4000000 in
theorem q787_met {G : rfG} (h : okG G) (hh : wHandOK G) : rf_met G q787_M := rf_methodB h.1 (P := q787_P) (U := q787_U) (N := q787_N) ⟨wflT h flokX12, wcsT h csokX12, wlcT h lcokX12, spokX12 h, List.forall_mem_cons.mpr ⟨q785_met h hh, fun _ h => absurd h List.not_mem_nil⟩, fun _ h => absurd h List.not_mem_nil, List.forall_mem_cons.mpr ⟨fun M hM => Option.some.inj (show some q785_M = some M from hM) ▸ wlkV (lkX12_408 h) q785_M rfl rfl, fun _ h => absurd h List.not_mem_nil⟩, fun _ h => absurd h List.not_mem_nil, fun _ h => absurd h List.not_mem_nil⟩ dkX12_apartFrom (by decide +kernel) (by rw [h.2.2.1]; exact q787_ok)
/-- NearSpellModel.apartFrom -/
def q788_M : rfM := ((⟨"NearSpellModel", "apartFrom", "(II)I"⟩, prog_14_method_63_code, 3, (some .int)), (22,2043), ([.inr (.inl [114]),.inl ((0,2,1),none),.inl ((0,2,1),none)],[]), [(94,0),(95,0),(96,0),(97,0),(114,45),(114,46)], [(some (.inl ((0,12,1),none)),[],[((114,44),(0,6,1),none),((114,45),(0,6,1),none)])])
def q788_P : rfP := (flX12,csX12,lcX12,spX12,[q785_M],[],[(408,0,12)],([],[]))
def q788_U : rfU := []
set_option maxHeartbeats 8000000 in
def q788_N : List rfB := [(0,([(0,.inr (.inl [114])),(1,.inl ((0,2,1),none)),(2,.inl ((0,2,1),none))],[],[]),(14,[]),0)]
set_option maxRecDepth 100000 in
theorem q788_ok : rf_chkB q788_P q788_U wLay q788_M ddX12_apartFrom [(17,[0])] [] [0] 600 q788_N = true := by decide +kernel
set_option maxHeartbeats 4000000 in
theorem q788_met {G : rfG} (h : okG G) (hh : wHandOK G) : rf_met G q788_M := rf_methodB h.1 (P := q788_P) (U := q788_U) (N := q788_N) ⟨wflT h flokX12, wcsT h csokX12, wlcT h lcokX12, spokX12 h, List.forall_mem_cons.mpr ⟨q785_met h hh, fun _ h => absurd h List.not_mem_nil⟩, fun _ h => absurd h List.not_mem_nil, List.forall_mem_cons.mpr ⟨fun M hM => Option.some.inj (show some q785_M = some M from hM) ▸ wlkV (lkX12_408 h) q785_M rfl rfl, fun _ h => absurd h List.not_mem_nil⟩, fun _ h => absurd h List.not_mem_nil, fun _ h => absurd h List.not_mem_nil⟩ dkX12_apartFrom (by decide +kernel) (by rw [h.2.2.1]; exact q788_ok)
/-- NearSpellModel.apartFrom -/
def q789_M : rfM := ((⟨"NearSpellModel", "apartFrom", "(II)I"⟩, prog_14_method_63_code, 3, (some .int)), (22,2043), ([.inr (.inl [114]),.inl ((0,12,1),none),.inl ((0,12,1),none)],[]), [(94,0),(95,0),(96,0),(97,0),(114,45),(114,46)], [(some (.inl ((0,12,1),none)),[],[((114,44),(0,6,1),none),((114,45),(0,6,1),none)])])
def q789_P : rfP := (flX12,csX12,lcX12,spX12,[q785_M],[],[(408,0,12)],([],[]))
def q789_U : rfU := []
set_option maxHeartbeats 8000000 in
def q789_N : List rfB := [(0,([(0,.inr (.inl [114])),(1,.inl ((0,12,1),none)),(2,.inl ((0,12,1),none))],[],[]),(14,[]),0)]
set_option maxRecDepth 100000 in
theorem q789_ok : rf_chkB q789_P q789_U wLay q789_M ddX12_apartFrom [(17,[0])] [] [0] 600 q789_N = true := by decide +kernel
set_option maxHeartbeats 4000000 in
theorem q789_met {G : rfG} (h : okG G) (hh : wHandOK G) : rf_met G q789_M := rf_methodB h.1 (P := q789_P) (U := q789_U) (N := q789_N) ⟨wflT h flokX12, wcsT h csokX12, wlcT h lcokX12, spokX12 h, List.forall_mem_cons.mpr ⟨q785_met h hh, fun _ h => absurd h List.not_mem_nil⟩, fun _ h => absurd h List.not_mem_nil, List.forall_mem_cons.mpr ⟨fun M hM => Option.some.inj (show some q785_M = some M from hM) ▸ wlkV (lkX12_408 h) q785_M rfl rfl, fun _ h => absurd h List.not_mem_nil⟩, fun _ h => absurd h List.not_mem_nil, fun _ h => absurd h List.not_mem_nil⟩ dkX12_apartFrom (by decide +kernel) (by rw [h.2.2.1]; exact q789_ok)
/-- NearSpellModel.apartFrom -/
def q790_M : rfM := ((⟨"NearSpellModel", "apartFrom", "(II)I"⟩, prog_14_method_63_code, 3, (some .int)), (22,2043), ([.inr (.inl [114]),.inl ((0,13,1),none),.inl ((0,13,1),none)],[]), [(94,0),(95,0),(96,0),(97,0),(114,45),(114,46)], [(some (.inl ((0,12,1),none)),[],[((114,44),(0,6,1),none),((114,45),(0,6,1),none)])])
def q790_P : rfP := (flX12,csX12,lcX12,spX12,[q785_M],[],[(408,0,12)],([],[]))
def q790_U : rfU := []
set_option maxHeartbeats 8000000 in
def q790_N : List rfB := [(0,([(0,.inr (.inl [114])),(1,.inl ((0,13,1),none)),(2,.inl ((0,13,1),none))],[],[]),(14,[]),0)]
set_option maxRecDepth 100000 in
theorem q790_ok : rf_chkB q790_P q790_U wLay q790_M ddX12_apartFrom [(17,[0])] [] [0] 600 q790_N = true := by decide +kernel
set_option maxHeartbeats 4000000 in
theorem q790_met {G : rfG} (h : okG G) (hh : wHandOK G) : rf_met G q790_M := rf_methodB h.1 (P := q790_P) (U := q790_U) (N := q790_N) ⟨wflT h flokX12, wcsT h csokX12, wlcT h lcokX12, spokX12 h, List.forall_mem_cons.mpr ⟨q785_met h hh, fun _ h => absurd h List.not_mem_nil⟩, fun _ h => absurd h List.not_mem_nil, List.forall_mem_cons.mpr ⟨fun M hM => Option.some.inj (show some q785_M = some M from hM) ▸ wlkV (lkX12_408 h) q785_M rfl rfl, fun _ h => absurd h List.not_mem_nil⟩, fun _ h => absurd h List.not_mem_nil, fun _ h => absurd h List.not_mem_nil⟩ dkX12_apartFrom (by decide +kernel) (by rw [h.2.2.1]; exact q790_ok)
/-- NearSpellModel.layApart -/
def q791_M : rfM := ((⟨"NearSpellModel", "layApart", "()V"⟩, prog_14_method_86_code, 4, none), (23,2065), ([.inr (.inl [114])],[]), [(94,0),(95,0),(96,0),(97,0),(103,0),(114,45),(114,46)], [(none,[],[])])
def ddX12_layApart : List (Nat × Instr × Nat) := [(0,.iconst 0,1),(1,.istore_n 1,1),(2,.iload_n 1,1),(3,.bipush 14,2),(5,.if_icmp .ge 75,3),(8,.iconst 0,1),(9,.istore_n 2,1),(10,.iload_n 2,1),(11,.iload_n 1,1),(12,.if_icmp .gt 62,3),(15,.aload_n 0,1),(16,.iload_n 1,1),(17,.invokevirtual 350,3),(20,.ifCond .eq 20,3),(23,.aload_n 0,1),(24,.iload_n 2,1),(25,.invokevirtual 350,3),(28,.ifCond .eq 12,3),(31,.aload_n 0,1),(32,.iload_n 1,1),(33,.iload_n 2,1),(34,.invokevirtual 444,3),(37,.goto 6,3),(40,.sipush 1000,3),(43,.istore_n 3,1),(44,.aload_n 0,1),(45,.getfield 111,3),(48,.bipush 14,2),(50,.iload_n 1,1),(51,.imul,1),(52,.iload_n 2,1),(53,.iadd,1),(54,.iload_n 3,1),(55,.iastore,1),(56,.aload_n 0,1),(57,.getfield 111,3),(60,.bipush 14,2),(62,.iload_n 2,1),(63,.imul,1),(64,.iload_n 1,1),(65,.iadd,1),(66,.iload_n 3,1),(67,.iastore,1),(68,.iinc 2 1,3),(71,.goto (-61),3),(74,.iinc 1 1,3),(77,.goto (-75),3),(80,.return_,1)]
set_option maxRecDepth 100000 in
theorem dkX12_layApart : rf_decs prog_14_method_86_code ddX12_layApart := rf_decs_of (by decide +kernel)
def q791_P : rfP := (flX12,csX12,lcX12,spX12,[q646_M,q790_M],[],[(350,0,12),(444,1,12)],([],[]))
def q791_U : rfU := []
set_option maxHeartbeats 8000000 in
def q791_N : List rfB := [(0,([(0,.inr (.inl [114]))],[],[]),(9347,[0,0]),0),
  (2,([(0,.inr (.inl [114])),(1,.inl ((0,14,1),none))],[],[]),(9343,[(-623),0]),0),
  (10,([(0,.inr (.inl [114])),(1,.inl ((0,13,1),none)),(2,.inl ((0,14,1),none))],[],[]),(9336,[(-623),(-41)]),0),
  (40,([(0,.inr (.inl [114])),(1,.inl ((0,13,1),none)),(2,.inl ((0,13,1),none))],[],[]),(9318,[(-623),(-41)]),0),
  (43,([(0,.inr (.inl [114])),(1,.inl ((0,13,1),none)),(2,.inl ((0,13,1),none))],[.inl ((0,1000,1),none)],[]),(9317,[(-623),(-41)]),0)]
set_option maxRecDepth 100000 in
theorem q791_ok : rf_chkB q791_P q791_U wLay q791_M ddX12_layApart [(17,[0]),(25,[0]),(34,[1])] [.inl 1,.inl 2] [0,2,10,40,43] 600 q791_N = true := by decide +kernel
set_option maxHeartbeats 4000000 in
theorem q791_met {G : rfG} (h : okG G) (hh : wHandOK G) : rf_met G q791_M := rf_methodB h.1 (P := q791_P) (U := q791_U) (N := q791_N) ⟨wflT h flokX12, wcsT h csokX12, wlcT h lcokX12, spokX12 h, List.forall_mem_cons.mpr ⟨q646_met h hh, List.forall_mem_cons.mpr ⟨q790_met h hh, fun _ h => absurd h List.not_mem_nil⟩⟩, fun _ h => absurd h List.not_mem_nil, List.forall_mem_cons.mpr ⟨fun M hM => Option.some.inj (show some q646_M = some M from hM) ▸ wlkV (lkX12_350 h) q646_M rfl rfl, List.forall_mem_cons.mpr ⟨fun M hM => Option.some.inj (show some q790_M = some M from hM) ▸ wlkV (lkX12_444 h) q790_M rfl rfl, fun _ h => absurd h List.not_mem_nil⟩⟩, fun _ h => absurd h List.not_mem_nil, fun _ h => absurd h List.not_mem_nil⟩ dkX12_layApart (by decide +kernel) (by rw [h.2.2.1]; exact q791_ok)
/-- NearSpellModel.closest -/
def q792_M : rfM := ((⟨"NearSpellModel", "closest", "(I)I"⟩, prog_14_method_88_code, 5, (some .int)), (24,2088), ([.inr (.inl [114]),.inl (((-2147483648),2147483647,1),none)],[((114,28),(0,0,0),none)]), [(94,0),(95,0),(96,0),(97,0),(103,0),(114,45),(114,46)], [(some (.inl (((-2147483648),2147483647,1),none)),[],[])])
def ddX12_closest : List (Nat × Instr × Nat) := [(0,.iload_n 1,1),(1,.iconst 0,1),(2,.iconst 2,1),(3,.invokestatic 334,3),(6,.ifCond .eq 14,3),(9,.aload_n 0,1),(10,.invokevirtual 423,3),(13,.invokestatic 356,3),(16,.iconst 2,1),(17,.if_icmp .ge 5,3),(20,.iconst (-1),1),(21,.ireturn,1),(22,.aload_n 0,1),(23,.invokevirtual 447,3),(26,.iconst (-1),1),(27,.istore_n 2,1),(28,.sipush 1000,3),(31,.istore_n 3,1),(32,.iconst 0,1),(33,.istore 4,2),(35,.iload 4,2),(37,.sipush 196,3),(40,.if_icmp .ge 47,3),(43,.iload 4,2),(45,.bipush 14,2),(47,.idiv,1),(48,.iload 4,2),(50,.bipush 14,2),(52,.irem,1),(53,.if_icmp .ge 28,3),(56,.aload_n 0,1),(57,.getfield 111,3),(60,.iload 4,2),(62,.iaload,1),(63,.iload_n 3,1),(64,.if_icmp .lt 6,3),(67,.goto 14,3),(70,.iload 4,2),(72,.istore_n 2,1),(73,.aload_n 0,1),(74,.getfield 111,3),(77,.iload 4,2),(79,.iaload,1),(80,.istore_n 3,1),(81,.iinc 4 1,3),(84,.goto (-49),3),(87,.iload_n 1,1),(88,.ifCond .ne 10,3),(91,.iload_n 2,1),(92,.bipush 14,2),(94,.idiv,1),(95,.goto 16,3),(98,.iload_n 1,1),(99,.iconst 1,1),(100,.if_icmp .ne 10,3),(103,.iload_n 2,1),(104,.bipush 14,2),(106,.irem,1),(107,.goto 4,3),(110,.iload_n 3,1),(111,.ireturn,1)]
set_option maxRecDepth 100000 in
theorem dkX12_closest : rf_decs prog_14_method_88_code ddX12_closest := rf_decs_of (by decide +kernel)
def q792_P : rfP := (flX12,csX12,lcX12,spX12,[q715_M,q651_M,q611_M,q791_M],[(334,0),(356,2)],[(423,1,12),(447,3,12)],([],[]))
def q792_U : rfU := []
set_option maxHeartbeats 8000000 in
def q792_N : List rfB := [(0,([(0,.inr (.inl [114])),(1,.inl (((-2147483648),2147483647,1),none))],[],[((114,28),(0,0,0),some ((114,28),0,0))]),(5354,[0]),0),
  (20,([(0,.inr (.inl [114])),(1,.inl (((-2147483648),2147483647,1),none))],[],[((114,28),(0,0,0),some ((114,28),0,0))]),(5343,[0]),0),
  (35,([(0,.inr (.inl [114])),(1,.inl ((0,2,1),none)),(2,.inl (((-1),195,1),none)),(3,.inl (((-2147483648),2147483647,1),none)),(4,.inl ((0,196,1),none))],[],[((114,28),(0,0,0),some ((114,28),0,0))]),(5331,[(-27)]),0),
  (81,([(0,.inr (.inl [114])),(1,.inl ((0,2,1),none)),(2,.inl (((-1),195,1),none)),(3,.inl (((-2147483648),2147483647,1),none)),(4,.inl ((0,195,1),none))],[],[((114,28),(0,0,0),some ((114,28),0,0))]),(5307,[(-27)]),0),
  (111,([(0,.inr (.inl [114])),(1,.inl ((0,2,1),none)),(2,.inl (((-1),195,1),none)),(3,.inl (((-2147483648),2147483647,1),none)),(4,.inl ((196,196,1),none))],[.inl (((-2147483648),2147483647,1),none)],[((114,28),(0,0,0),some ((114,28),0,0))]),(0,[0]),0)]
set_option maxRecDepth 100000 in
theorem q792_ok : rf_chkB q792_P q792_U wLay q792_M ddX12_closest [(3,[0]),(10,[1]),(13,[2]),(23,[3])] [.inl 4] [0,20,35,81,111] 600 q792_N = true := by decide +kernel
set_option maxHeartbeats 4000000 in
theorem q792_met {G : rfG} (h : okG G) (hh : wHandOK G) : rf_met G q792_M := rf_methodB h.1 (P := q792_P) (U := q792_U) (N := q792_N) ⟨wflT h flokX12, wcsT h csokX12, wlcT h lcokX12, spokX12 h, List.forall_mem_cons.mpr ⟨q715_met h hh, List.forall_mem_cons.mpr ⟨q651_met h hh, List.forall_mem_cons.mpr ⟨q611_met h hh, List.forall_mem_cons.mpr ⟨q791_met h hh, fun _ h => absurd h List.not_mem_nil⟩⟩⟩⟩, List.forall_mem_cons.mpr ⟨fun M hM => Option.some.inj (show some q715_M = some M from hM) ▸ wlkS (lkX12_334 h) q715_M rfl rfl, List.forall_mem_cons.mpr ⟨fun M hM => Option.some.inj (show some q611_M = some M from hM) ▸ wlkS (lkX12_356 h) q611_M rfl rfl, fun _ h => absurd h List.not_mem_nil⟩⟩, List.forall_mem_cons.mpr ⟨fun M hM => Option.some.inj (show some q651_M = some M from hM) ▸ wlkV (lkX12_423 h) q651_M rfl rfl, List.forall_mem_cons.mpr ⟨fun M hM => Option.some.inj (show some q791_M = some M from hM) ▸ wlkV (lkX12_447 h) q791_M rfl rfl, fun _ h => absurd h List.not_mem_nil⟩⟩, fun _ h => absurd h List.not_mem_nil, fun _ h => absurd h List.not_mem_nil⟩ dkX12_closest (by decide +kernel) (by rw [h.2.2.1]; exact q792_ok)
/-- NearSpellModel.closest -/
def q793_M : rfM := ((⟨"NearSpellModel", "closest", "(I)I"⟩, prog_14_method_88_code, 5, (some .int)), (24,2088), ([.inr (.inl [114]),.inl (((-2147483648),2147483647,1),none)],[((77,1),(1,31,1),none),((114,28),(1,1,0),none)]), [(94,0),(95,0),(96,0),(97,0),(103,0),(114,45),(114,46)], [(some (.inl (((-2147483648),2147483647,1),none)),[],[])])
def q793_P : rfP := (flX12,csX12,lcX12,spX12,[q715_M,q651_M,q611_M,q791_M],[(334,0),(356,2)],[(423,1,12),(447,3,12)],([],[]))
def q793_U : rfU := []
set_option maxHeartbeats 8000000 in
def q793_N : List rfB := [(0,([(0,.inr (.inl [114])),(1,.inl (((-2147483648),2147483647,1),none))],[],[((77,1),(1,31,1),some ((77,1),0,0)),((114,28),(1,1,0),some ((114,28),0,0))]),(5354,[0]),0),
  (20,([(0,.inr (.inl [114])),(1,.inl (((-2147483648),2147483647,1),none))],[],[((77,1),(1,31,1),some ((77,1),0,0)),((114,28),(1,1,0),some ((114,28),0,0))]),(5343,[0]),0),
  (35,([(0,.inr (.inl [114])),(1,.inl ((0,2,1),none)),(2,.inl (((-1),195,1),none)),(3,.inl (((-2147483648),2147483647,1),none)),(4,.inl ((0,196,1),none))],[],[((77,1),(1,31,1),some ((77,1),0,0)),((114,28),(1,1,0),some ((114,28),0,0))]),(5331,[(-27)]),0),
  (81,([(0,.inr (.inl [114])),(1,.inl ((0,2,1),none)),(2,.inl (((-1),195,1),none)),(3,.inl (((-2147483648),2147483647,1),none)),(4,.inl ((0,195,1),none))],[],[((77,1),(1,31,1),some ((77,1),0,0)),((114,28),(1,1,0),some ((114,28),0,0))]),(5307,[(-27)]),0),
  (111,([(0,.inr (.inl [114])),(1,.inl ((0,2,1),none)),(2,.inl (((-1),195,1),none)),(3,.inl (((-2147483648),2147483647,1),none)),(4,.inl ((196,196,1),none))],[.inl (((-2147483648),2147483647,1),none)],[((77,1),(1,31,1),some ((77,1),0,0)),((114,28),(1,1,0),some ((114,28),0,0))]),(0,[0]),0)]
set_option maxRecDepth 100000 in
theorem q793_ok : rf_chkB q793_P q793_U wLay q793_M ddX12_closest [(3,[0]),(10,[1]),(13,[2]),(23,[3])] [.inl 4] [0,20,35,81,111] 600 q793_N = true := by decide +kernel
set_option maxHeartbeats 4000000 in
theorem q793_met {G : rfG} (h : okG G) (hh : wHandOK G) : rf_met G q793_M := rf_methodB h.1 (P := q793_P) (U := q793_U) (N := q793_N) ⟨wflT h flokX12, wcsT h csokX12, wlcT h lcokX12, spokX12 h, List.forall_mem_cons.mpr ⟨q715_met h hh, List.forall_mem_cons.mpr ⟨q651_met h hh, List.forall_mem_cons.mpr ⟨q611_met h hh, List.forall_mem_cons.mpr ⟨q791_met h hh, fun _ h => absurd h List.not_mem_nil⟩⟩⟩⟩, List.forall_mem_cons.mpr ⟨fun M hM => Option.some.inj (show some q715_M = some M from hM) ▸ wlkS (lkX12_334 h) q715_M rfl rfl, List.forall_mem_cons.mpr ⟨fun M hM => Option.some.inj (show some q611_M = some M from hM) ▸ wlkS (lkX12_356 h) q611_M rfl rfl, fun _ h => absurd h List.not_mem_nil⟩⟩, List.forall_mem_cons.mpr ⟨fun M hM => Option.some.inj (show some q651_M = some M from hM) ▸ wlkV (lkX12_423 h) q651_M rfl rfl, List.forall_mem_cons.mpr ⟨fun M hM => Option.some.inj (show some q791_M = some M from hM) ▸ wlkV (lkX12_447 h) q791_M rfl rfl, fun _ h => absurd h List.not_mem_nil⟩⟩, fun _ h => absurd h List.not_mem_nil, fun _ h => absurd h List.not_mem_nil⟩ dkX12_closest (by decide +kernel) (by rw [h.2.2.1]; exact q793_ok)
/-- NearSpellModel.layNear -/
def q796_M : rfM := ((⟨"NearSpellModel", "layNear", "(I)V"⟩, prog_14_method_87_code, 4, none), (24,2088), ([.inr (.inl [114]),.inl ((0,6,1),none)],[]), [(94,0),(95,0),(96,0),(97,0),(102,0),(103,0),(114,45),(114,46)], [(none,[],[])])
def ddX12_layNear : List (Nat × Instr × Nat) := [(0,.aload_n 0,1),(1,.invokevirtual 447,3),(4,.iconst 0,1),(5,.istore_n 2,1),(6,.iload_n 2,1),(7,.bipush 14,2),(9,.if_icmp .ge 57,3),(12,.aload_n 0,1),(13,.getfield 108,3),(16,.iload_n 2,1),(17,.iconst 0,1),(18,.iastore,1),(19,.iconst 0,1),(20,.istore_n 3,1),(21,.iload_n 3,1),(22,.bipush 14,2),(24,.if_icmp .ge 36,3),(27,.aload_n 0,1),(28,.getfield 111,3),(31,.bipush 14,2),(33,.iload_n 2,1),(34,.imul,1),(35,.iload_n 3,1),(36,.iadd,1),(37,.iaload,1),(38,.iload_n 1,1),(39,.if_icmp .gt 15,3),(42,.aload_n 0,1),(43,.getfield 108,3),(46,.iload_n 2,1),(47,.dup2,1),(48,.iaload,1),(49,.iconst 1,1),(50,.iload_n 3,1),(51,.ishl,1),(52,.ior,1),(53,.iastore,1),(54,.iinc 3 1,3),(57,.goto (-36),3),(60,.iinc 2 1,3),(63,.goto (-57),3),(66,.return_,1)]
set_option maxRecDepth 100000 in
theorem dkX12_layNear : rf_decs prog_14_method_87_code ddX12_layNear := rf_decs_of (by decide +kernel)
def q796_P : rfP := (flX12,csX12,lcX12,spX12,[q791_M],[],[(447,0,12)],([],[]))
def q796_U : rfU := []
set_option maxHeartbeats 8000000 in
def q796_N : List rfB := [(0,([(0,.inr (.inl [114])),(1,.inl ((0,6,1),none))],[],[]),(6049,[0,0]),0),
  (6,([(0,.inr (.inl [114])),(1,.inl ((0,6,1),none)),(2,.inl ((0,14,1),none))],[],[]),(6043,[(-403),0]),0),
  (21,([(0,.inr (.inl [114])),(1,.inl ((0,6,1),none)),(2,.inl ((0,13,1),none)),(3,.inl ((0,14,1),none))],[],[]),(6031,[(-403),(-26)]),0),
  (54,([(0,.inr (.inl [114])),(1,.inl ((0,6,1),none)),(2,.inl ((0,13,1),none)),(3,.inl ((0,13,1),none))],[],[]),(6008,[(-403),(-26)]),0)]
set_option maxRecDepth 100000 in
theorem q796_ok : rf_chkB q796_P q796_U wLay q796_M ddX12_layNear [(1,[0])] [.inl 2,.inl 3] [0,6,21,54] 600 q796_N = true := by decide +kernel
set_option maxHeartbeats 4000000 in
theorem q796_met {G : rfG} (h : okG G) (hh : wHandOK G) : rf_met G q796_M := rf_methodB h.1 (P := q796_P) (U := q796_U) (N := q796_N) ⟨wflT h flokX12, wcsT h csokX12, wlcT h lcokX12, spokX12 h, List.forall_mem_cons.mpr ⟨q791_met h hh, fun _ h => absurd h List.not_mem_nil⟩, fun _ h => absurd h List.not_mem_nil, List.forall_mem_cons.mpr ⟨fun M hM => Option.some.inj (show some q791_M = some M from hM) ▸ wlkV (lkX12_447 h) q791_M rfl rfl, fun _ h => absurd h List.not_mem_nil⟩, fun _ h => absurd h List.not_mem_nil, fun _ h => absurd h List.not_mem_nil⟩ dkX12_layNear (by decide +kernel) (by rw [h.2.2.1]; exact q796_ok)
/-- NearSpellModel.areFar -/
def q797_M : rfM := ((⟨"NearSpellModel", "areFar", "(I)Z"⟩, prog_14_method_91_code, 3, (some .boolean)), (1,21), ([.inr (.inl [114]),.inl ((0,0,0),none)],[]), [], [(some (.inl ((0,0,0),none)),[],[]),(some (.inl ((1,1,0),none)),[],[])])
def ddX12_areFar : List (Nat × Instr × Nat) := [(0,.iconst 0,1),(1,.istore_n 2,1),(2,.iload_n 2,1),(3,.bipush 14,2),(5,.if_icmp .ge 33,3),(8,.iload_n 1,1),(9,.iload_n 2,1),(10,.invokestatic 251,3),(13,.ifCond .eq 19,3),(16,.aload_n 0,1),(17,.getfield 108,3),(20,.iload_n 2,1),(21,.iaload,1),(22,.iload_n 1,1),(23,.iand,1),(24,.iconst 1,1),(25,.iload_n 2,1),(26,.ishl,1),(27,.if_icmp .eq 5,3),(30,.iconst 0,1),(31,.ireturn,1),(32,.iinc 2 1,3),(35,.goto (-33),3),(38,.iconst 1,1),(39,.ireturn,1)]
set_option maxRecDepth 100000 in
theorem dkX12_areFar : rf_decs prog_14_method_91_code ddX12_areFar := rf_decs_of (by decide +kernel)
def q797_P : rfP := (flX12,csX12,lcX12,spX12,[q522_M],[(251,0)],[],([],[]))
def q797_U : rfU := []
set_option maxHeartbeats 8000000 in
def q797_N : List rfB := [(0,([(0,.inr (.inl [114])),(1,.inl ((0,0,0),none))],[],[]),(166,[0]),0),
  (2,([(0,.inr (.inl [114])),(1,.inl ((0,0,0),none)),(2,.inl ((0,14,1),none))],[],[]),(162,[(-10)]),0)]
set_option maxRecDepth 100000 in
theorem q797_ok : rf_chkB q797_P q797_U wLay q797_M ddX12_areFar [(10,[0])] [.inl 2] [0,2] 600 q797_N = true := by decide +kernel
set_option maxHeartbeats 4000000 in
theorem q797_met {G : rfG} (h : okG G) (hh : wHandOK G) : rf_met G q797_M := rf_methodB h.1 (P := q797_P) (U := q797_U) (N := q797_N) ⟨wflT h flokX12, wcsT h csokX12, wlcT h lcokX12, spokX12 h, List.forall_mem_cons.mpr ⟨q522_met h hh, fun _ h => absurd h List.not_mem_nil⟩, List.forall_mem_cons.mpr ⟨fun M hM => Option.some.inj (show some q522_M = some M from hM) ▸ wlkS (lkX12_251 h) q522_M rfl rfl, fun _ h => absurd h List.not_mem_nil⟩, fun _ h => absurd h List.not_mem_nil, fun _ h => absurd h List.not_mem_nil, fun _ h => absurd h List.not_mem_nil⟩ dkX12_areFar (by decide +kernel) (by rw [h.2.2.1]; exact q797_ok)
/-- NearSpellModel.areFar -/
def q798_M : rfM := ((⟨"NearSpellModel", "areFar", "(I)Z"⟩, prog_14_method_91_code, 3, (some .boolean)), (1,21), ([.inr (.inl [114]),.inl ((0,1,1),none)],[]), [], [(some (.inl ((0,0,0),none)),[],[]),(some (.inl ((1,1,0),none)),[],[])])
def q798_P : rfP := (flX12,csX12,lcX12,spX12,[q522_M],[(251,0)],[],([],[]))
def q798_U : rfU := []
set_option maxHeartbeats 8000000 in
def q798_N : List rfB := [(0,([(0,.inr (.inl [114])),(1,.inl ((0,1,1),none))],[],[]),(320,[0]),0),
  (2,([(0,.inr (.inl [114])),(1,.inl ((0,1,1),none)),(2,.inl ((0,14,1),none))],[],[]),(316,[(-21)]),0),
  (32,([(0,.inr (.inl [114])),(1,.inl ((0,1,1),none)),(2,.inl ((0,13,1),none))],[],[]),(298,[(-21)]),0)]
set_option maxRecDepth 100000 in
theorem q798_ok : rf_chkB q798_P q798_U wLay q798_M ddX12_areFar [(10,[0])] [.inl 2] [0,2,32] 600 q798_N = true := by decide +kernel
set_option maxHeartbeats 4000000 in
theorem q798_met {G : rfG} (h : okG G) (hh : wHandOK G) : rf_met G q798_M := rf_methodB h.1 (P := q798_P) (U := q798_U) (N := q798_N) ⟨wflT h flokX12, wcsT h csokX12, wlcT h lcokX12, spokX12 h, List.forall_mem_cons.mpr ⟨q522_met h hh, fun _ h => absurd h List.not_mem_nil⟩, List.forall_mem_cons.mpr ⟨fun M hM => Option.some.inj (show some q522_M = some M from hM) ▸ wlkS (lkX12_251 h) q522_M rfl rfl, fun _ h => absurd h List.not_mem_nil⟩, fun _ h => absurd h List.not_mem_nil, fun _ h => absurd h List.not_mem_nil, fun _ h => absurd h List.not_mem_nil⟩ dkX12_areFar (by decide +kernel) (by rw [h.2.2.1]; exact q798_ok)
/-- NearSpellModel.areFar -/
def q799_M : rfM := ((⟨"NearSpellModel", "areFar", "(I)Z"⟩, prog_14_method_91_code, 3, (some .boolean)), (1,21), ([.inr (.inl [114]),.inl ((0,2,1),none)],[]), [], [(some (.inl ((0,0,0),none)),[],[]),(some (.inl ((1,1,0),none)),[],[])])
def q799_P : rfP := (flX12,csX12,lcX12,spX12,[q522_M],[(251,0)],[],([],[]))
def q799_U : rfU := []
set_option maxHeartbeats 8000000 in
def q799_N : List rfB := [(0,([(0,.inr (.inl [114])),(1,.inl ((0,2,1),none))],[],[]),(320,[0]),0),
  (2,([(0,.inr (.inl [114])),(1,.inl ((0,2,1),none)),(2,.inl ((0,14,1),none))],[],[]),(316,[(-21)]),0),
  (32,([(0,.inr (.inl [114])),(1,.inl ((0,2,1),none)),(2,.inl ((0,13,1),none))],[],[]),(298,[(-21)]),0)]
set_option maxRecDepth 100000 in
theorem q799_ok : rf_chkB q799_P q799_U wLay q799_M ddX12_areFar [(10,[0])] [.inl 2] [0,2,32] 600 q799_N = true := by decide +kernel
set_option maxHeartbeats 4000000 in
theorem q799_met {G : rfG} (h : okG G) (hh : wHandOK G) : rf_met G q799_M := rf_methodB h.1 (P := q799_P) (U := q799_U) (N := q799_N) ⟨wflT h flokX12, wcsT h csokX12, wlcT h lcokX12, spokX12 h, List.forall_mem_cons.mpr ⟨q522_met h hh, fun _ h => absurd h List.not_mem_nil⟩, List.forall_mem_cons.mpr ⟨fun M hM => Option.some.inj (show some q522_M = some M from hM) ▸ wlkS (lkX12_251 h) q522_M rfl rfl, fun _ h => absurd h List.not_mem_nil⟩, fun _ h => absurd h List.not_mem_nil, fun _ h => absurd h List.not_mem_nil, fun _ h => absurd h List.not_mem_nil⟩ dkX12_areFar (by decide +kernel) (by rw [h.2.2.1]; exact q799_ok)
/-- NearSpellModel.areFar -/
def q800_M : rfM := ((⟨"NearSpellModel", "areFar", "(I)Z"⟩, prog_14_method_91_code, 3, (some .boolean)), (1,21), ([.inr (.inl [114]),.inl ((0,3,1),none)],[]), [], [(some (.inl ((0,0,0),none)),[],[]),(some (.inl ((1,1,0),none)),[],[])])
def q800_P : rfP := (flX12,csX12,lcX12,spX12,[q522_M],[(251,0)],[],([],[]))
def q800_U : rfU := []
set_option maxHeartbeats 8000000 in
def q800_N : List rfB := [(0,([(0,.inr (.inl [114])),(1,.inl ((0,3,1),none))],[],[]),(320,[0]),0),
  (2,([(0,.inr (.inl [114])),(1,.inl ((0,3,1),none)),(2,.inl ((0,14,1),none))],[],[]),(316,[(-21)]),0),
  (32,([(0,.inr (.inl [114])),(1,.inl ((0,3,1),none)),(2,.inl ((0,13,1),none))],[],[]),(298,[(-21)]),0)]
set_option maxRecDepth 100000 in
theorem q800_ok : rf_chkB q800_P q800_U wLay q800_M ddX12_areFar [(10,[0])] [.inl 2] [0,2,32] 600 q800_N = true := by decide +kernel
set_option maxHeartbeats 4000000 in
theorem q800_met {G : rfG} (h : okG G) (hh : wHandOK G) : rf_met G q800_M := rf_methodB h.1 (P := q800_P) (U := q800_U) (N := q800_N) ⟨wflT h flokX12, wcsT h csokX12, wlcT h lcokX12, spokX12 h, List.forall_mem_cons.mpr ⟨q522_met h hh, fun _ h => absurd h List.not_mem_nil⟩, List.forall_mem_cons.mpr ⟨fun M hM => Option.some.inj (show some q522_M = some M from hM) ▸ wlkS (lkX12_251 h) q522_M rfl rfl, fun _ h => absurd h List.not_mem_nil⟩, fun _ h => absurd h List.not_mem_nil, fun _ h => absurd h List.not_mem_nil, fun _ h => absurd h List.not_mem_nil⟩ dkX12_areFar (by decide +kernel) (by rw [h.2.2.1]; exact q800_ok)
/-- NearSpellModel.areFar -/
def q801_M : rfM := ((⟨"NearSpellModel", "areFar", "(I)Z"⟩, prog_14_method_91_code, 3, (some .boolean)), (1,21), ([.inr (.inl [114]),.inl ((0,5,1),none)],[]), [], [(some (.inl ((0,0,0),none)),[],[]),(some (.inl ((1,1,0),none)),[],[])])
def q801_P : rfP := (flX12,csX12,lcX12,spX12,[q522_M],[(251,0)],[],([],[]))
def q801_U : rfU := []
set_option maxHeartbeats 8000000 in
def q801_N : List rfB := [(0,([(0,.inr (.inl [114])),(1,.inl ((0,5,1),none))],[],[]),(320,[0]),0),
  (2,([(0,.inr (.inl [114])),(1,.inl ((0,5,1),none)),(2,.inl ((0,14,1),none))],[],[]),(316,[(-21)]),0),
  (32,([(0,.inr (.inl [114])),(1,.inl ((0,5,1),none)),(2,.inl ((0,13,1),none))],[],[]),(298,[(-21)]),0)]
set_option maxRecDepth 100000 in
theorem q801_ok : rf_chkB q801_P q801_U wLay q801_M ddX12_areFar [(10,[0])] [.inl 2] [0,2,32] 600 q801_N = true := by decide +kernel
set_option maxHeartbeats 4000000 in
theorem q801_met {G : rfG} (h : okG G) (hh : wHandOK G) : rf_met G q801_M := rf_methodB h.1 (P := q801_P) (U := q801_U) (N := q801_N) ⟨wflT h flokX12, wcsT h csokX12, wlcT h lcokX12, spokX12 h, List.forall_mem_cons.mpr ⟨q522_met h hh, fun _ h => absurd h List.not_mem_nil⟩, List.forall_mem_cons.mpr ⟨fun M hM => Option.some.inj (show some q522_M = some M from hM) ▸ wlkS (lkX12_251 h) q522_M rfl rfl, fun _ h => absurd h List.not_mem_nil⟩, fun _ h => absurd h List.not_mem_nil, fun _ h => absurd h List.not_mem_nil, fun _ h => absurd h List.not_mem_nil⟩ dkX12_areFar (by decide +kernel) (by rw [h.2.2.1]; exact q801_ok)
/-- NearSpellModel.areFar -/
def q802_M : rfM := ((⟨"NearSpellModel", "areFar", "(I)Z"⟩, prog_14_method_91_code, 3, (some .boolean)), (1,21), ([.inr (.inl [114]),.inl ((0,6,1),none)],[]), [], [(some (.inl ((0,0,0),none)),[],[]),(some (.inl ((1,1,0),none)),[],[])])
def q802_P : rfP := (flX12,csX12,lcX12,spX12,[q522_M],[(251,0)],[],([],[]))
def q802_U : rfU := []
set_option maxHeartbeats 8000000 in
def q802_N : List rfB := [(0,([(0,.inr (.inl [114])),(1,.inl ((0,6,1),none))],[],[]),(320,[0]),0),
  (2,([(0,.inr (.inl [114])),(1,.inl ((0,6,1),none)),(2,.inl ((0,14,1),none))],[],[]),(316,[(-21)]),0),
  (32,([(0,.inr (.inl [114])),(1,.inl ((0,6,1),none)),(2,.inl ((0,13,1),none))],[],[]),(298,[(-21)]),0)]
set_option maxRecDepth 100000 in
theorem q802_ok : rf_chkB q802_P q802_U wLay q802_M ddX12_areFar [(10,[0])] [.inl 2] [0,2,32] 600 q802_N = true := by decide +kernel
set_option maxHeartbeats 4000000 in
theorem q802_met {G : rfG} (h : okG G) (hh : wHandOK G) : rf_met G q802_M := rf_methodB h.1 (P := q802_P) (U := q802_U) (N := q802_N) ⟨wflT h flokX12, wcsT h csokX12, wlcT h lcokX12, spokX12 h, List.forall_mem_cons.mpr ⟨q522_met h hh, fun _ h => absurd h List.not_mem_nil⟩, List.forall_mem_cons.mpr ⟨fun M hM => Option.some.inj (show some q522_M = some M from hM) ▸ wlkS (lkX12_251 h) q522_M rfl rfl, fun _ h => absurd h List.not_mem_nil⟩, fun _ h => absurd h List.not_mem_nil, fun _ h => absurd h List.not_mem_nil, fun _ h => absurd h List.not_mem_nil⟩ dkX12_areFar (by decide +kernel) (by rw [h.2.2.1]; exact q802_ok)
/-- NearSpellModel.areFar -/
def q803_M : rfM := ((⟨"NearSpellModel", "areFar", "(I)Z"⟩, prog_14_method_91_code, 3, (some .boolean)), (1,21), ([.inr (.inl [114]),.inl ((0,9,1),none)],[]), [], [(some (.inl ((0,0,0),none)),[],[]),(some (.inl ((1,1,0),none)),[],[])])
def q803_P : rfP := (flX12,csX12,lcX12,spX12,[q522_M],[(251,0)],[],([],[]))
def q803_U : rfU := []
set_option maxHeartbeats 8000000 in
def q803_N : List rfB := [(0,([(0,.inr (.inl [114])),(1,.inl ((0,9,1),none))],[],[]),(320,[0]),0),
  (2,([(0,.inr (.inl [114])),(1,.inl ((0,9,1),none)),(2,.inl ((0,14,1),none))],[],[]),(316,[(-21)]),0),
  (32,([(0,.inr (.inl [114])),(1,.inl ((0,9,1),none)),(2,.inl ((0,13,1),none))],[],[]),(298,[(-21)]),0)]
set_option maxRecDepth 100000 in
theorem q803_ok : rf_chkB q803_P q803_U wLay q803_M ddX12_areFar [(10,[0])] [.inl 2] [0,2,32] 600 q803_N = true := by decide +kernel
set_option maxHeartbeats 4000000 in
theorem q803_met {G : rfG} (h : okG G) (hh : wHandOK G) : rf_met G q803_M := rf_methodB h.1 (P := q803_P) (U := q803_U) (N := q803_N) ⟨wflT h flokX12, wcsT h csokX12, wlcT h lcokX12, spokX12 h, List.forall_mem_cons.mpr ⟨q522_met h hh, fun _ h => absurd h List.not_mem_nil⟩, List.forall_mem_cons.mpr ⟨fun M hM => Option.some.inj (show some q522_M = some M from hM) ▸ wlkS (lkX12_251 h) q522_M rfl rfl, fun _ h => absurd h List.not_mem_nil⟩, fun _ h => absurd h List.not_mem_nil, fun _ h => absurd h List.not_mem_nil, fun _ h => absurd h List.not_mem_nil⟩ dkX12_areFar (by decide +kernel) (by rw [h.2.2.1]; exact q803_ok)
/-- NearSpellModel.areFar -/
def q804_M : rfM := ((⟨"NearSpellModel", "areFar", "(I)Z"⟩, prog_14_method_91_code, 3, (some .boolean)), (1,21), ([.inr (.inl [114]),.inl ((0,12,1),none)],[]), [], [(some (.inl ((0,0,0),none)),[],[]),(some (.inl ((1,1,0),none)),[],[])])
def q804_P : rfP := (flX12,csX12,lcX12,spX12,[q522_M],[(251,0)],[],([],[]))
def q804_U : rfU := []
set_option maxHeartbeats 8000000 in
def q804_N : List rfB := [(0,([(0,.inr (.inl [114])),(1,.inl ((0,12,1),none))],[],[]),(320,[0]),0),
  (2,([(0,.inr (.inl [114])),(1,.inl ((0,12,1),none)),(2,.inl ((0,14,1),none))],[],[]),(316,[(-21)]),0),
  (32,([(0,.inr (.inl [114])),(1,.inl ((0,12,1),none)),(2,.inl ((0,13,1),none))],[],[]),(298,[(-21)]),0)]
set_option maxRecDepth 100000 in
theorem q804_ok : rf_chkB q804_P q804_U wLay q804_M ddX12_areFar [(10,[0])] [.inl 2] [0,2,32] 600 q804_N = true := by decide +kernel
set_option maxHeartbeats 4000000 in
theorem q804_met {G : rfG} (h : okG G) (hh : wHandOK G) : rf_met G q804_M := rf_methodB h.1 (P := q804_P) (U := q804_U) (N := q804_N) ⟨wflT h flokX12, wcsT h csokX12, wlcT h lcokX12, spokX12 h, List.forall_mem_cons.mpr ⟨q522_met h hh, fun _ h => absurd h List.not_mem_nil⟩, List.forall_mem_cons.mpr ⟨fun M hM => Option.some.inj (show some q522_M = some M from hM) ▸ wlkS (lkX12_251 h) q522_M rfl rfl, fun _ h => absurd h List.not_mem_nil⟩, fun _ h => absurd h List.not_mem_nil, fun _ h => absurd h List.not_mem_nil, fun _ h => absurd h List.not_mem_nil⟩ dkX12_areFar (by decide +kernel) (by rw [h.2.2.1]; exact q804_ok)
/-- NearSpellModel.areFar -/
def q805_M : rfM := ((⟨"NearSpellModel", "areFar", "(I)Z"⟩, prog_14_method_91_code, 3, (some .boolean)), (1,21), ([.inr (.inl [114]),.inl ((0,13,1),none)],[]), [], [(some (.inl ((0,0,0),none)),[],[]),(some (.inl ((1,1,0),none)),[],[])])
def q805_P : rfP := (flX12,csX12,lcX12,spX12,[q522_M],[(251,0)],[],([],[]))
def q805_U : rfU := []
set_option maxHeartbeats 8000000 in
def q805_N : List rfB := [(0,([(0,.inr (.inl [114])),(1,.inl ((0,13,1),none))],[],[]),(320,[0]),0),
  (2,([(0,.inr (.inl [114])),(1,.inl ((0,13,1),none)),(2,.inl ((0,14,1),none))],[],[]),(316,[(-21)]),0),
  (32,([(0,.inr (.inl [114])),(1,.inl ((0,13,1),none)),(2,.inl ((0,13,1),none))],[],[]),(298,[(-21)]),0)]
set_option maxRecDepth 100000 in
theorem q805_ok : rf_chkB q805_P q805_U wLay q805_M ddX12_areFar [(10,[0])] [.inl 2] [0,2,32] 600 q805_N = true := by decide +kernel
set_option maxHeartbeats 4000000 in
theorem q805_met {G : rfG} (h : okG G) (hh : wHandOK G) : rf_met G q805_M := rf_methodB h.1 (P := q805_P) (U := q805_U) (N := q805_N) ⟨wflT h flokX12, wcsT h csokX12, wlcT h lcokX12, spokX12 h, List.forall_mem_cons.mpr ⟨q522_met h hh, fun _ h => absurd h List.not_mem_nil⟩, List.forall_mem_cons.mpr ⟨fun M hM => Option.some.inj (show some q522_M = some M from hM) ▸ wlkS (lkX12_251 h) q522_M rfl rfl, fun _ h => absurd h List.not_mem_nil⟩, fun _ h => absurd h List.not_mem_nil, fun _ h => absurd h List.not_mem_nil, fun _ h => absurd h List.not_mem_nil⟩ dkX12_areFar (by decide +kernel) (by rw [h.2.2.1]; exact q805_ok)
/-- NearSpellModel.areFar -/
def q806_M : rfM := ((⟨"NearSpellModel", "areFar", "(I)Z"⟩, prog_14_method_91_code, 3, (some .boolean)), (1,21), ([.inr (.inl [114]),.inl ((0,14,1),none)],[]), [], [(some (.inl ((0,0,0),none)),[],[]),(some (.inl ((1,1,0),none)),[],[])])
def q806_P : rfP := (flX12,csX12,lcX12,spX12,[q522_M],[(251,0)],[],([],[]))
def q806_U : rfU := []
set_option maxHeartbeats 8000000 in
def q806_N : List rfB := [(0,([(0,.inr (.inl [114])),(1,.inl ((0,14,1),none))],[],[]),(320,[0]),0),
  (2,([(0,.inr (.inl [114])),(1,.inl ((0,14,1),none)),(2,.inl ((0,14,1),none))],[],[]),(316,[(-21)]),0),
  (32,([(0,.inr (.inl [114])),(1,.inl ((0,14,1),none)),(2,.inl ((0,13,1),none))],[],[]),(298,[(-21)]),0)]
set_option maxRecDepth 100000 in
theorem q806_ok : rf_chkB q806_P q806_U wLay q806_M ddX12_areFar [(10,[0])] [.inl 2] [0,2,32] 600 q806_N = true := by decide +kernel
set_option maxHeartbeats 4000000 in
theorem q806_met {G : rfG} (h : okG G) (hh : wHandOK G) : rf_met G q806_M := rf_methodB h.1 (P := q806_P) (U := q806_U) (N := q806_N) ⟨wflT h flokX12, wcsT h csokX12, wlcT h lcokX12, spokX12 h, List.forall_mem_cons.mpr ⟨q522_met h hh, fun _ h => absurd h List.not_mem_nil⟩, List.forall_mem_cons.mpr ⟨fun M hM => Option.some.inj (show some q522_M = some M from hM) ▸ wlkS (lkX12_251 h) q522_M rfl rfl, fun _ h => absurd h List.not_mem_nil⟩, fun _ h => absurd h List.not_mem_nil, fun _ h => absurd h List.not_mem_nil, fun _ h => absurd h List.not_mem_nil⟩ dkX12_areFar (by decide +kernel) (by rw [h.2.2.1]; exact q806_ok)
/-- NearSpellModel.areFar -/
def q807_M : rfM := ((⟨"NearSpellModel", "areFar", "(I)Z"⟩, prog_14_method_91_code, 3, (some .boolean)), (1,21), ([.inr (.inl [114]),.inl ((0,26,1),none)],[]), [], [(some (.inl ((0,0,0),none)),[],[]),(some (.inl ((1,1,0),none)),[],[])])
def q807_P : rfP := (flX12,csX12,lcX12,spX12,[q522_M],[(251,0)],[],([],[]))
def q807_U : rfU := []
set_option maxHeartbeats 8000000 in
def q807_N : List rfB := [(0,([(0,.inr (.inl [114])),(1,.inl ((0,26,1),none))],[],[]),(320,[0]),0),
  (2,([(0,.inr (.inl [114])),(1,.inl ((0,26,1),none)),(2,.inl ((0,14,1),none))],[],[]),(316,[(-21)]),0),
  (32,([(0,.inr (.inl [114])),(1,.inl ((0,26,1),none)),(2,.inl ((0,13,1),none))],[],[]),(298,[(-21)]),0)]
set_option maxRecDepth 100000 in
theorem q807_ok : rf_chkB q807_P q807_U wLay q807_M ddX12_areFar [(10,[0])] [.inl 2] [0,2,32] 600 q807_N = true := by decide +kernel
set_option maxHeartbeats 4000000 in
theorem q807_met {G : rfG} (h : okG G) (hh : wHandOK G) : rf_met G q807_M := rf_methodB h.1 (P := q807_P) (U := q807_U) (N := q807_N) ⟨wflT h flokX12, wcsT h csokX12, wlcT h lcokX12, spokX12 h, List.forall_mem_cons.mpr ⟨q522_met h hh, fun _ h => absurd h List.not_mem_nil⟩, List.forall_mem_cons.mpr ⟨fun M hM => Option.some.inj (show some q522_M = some M from hM) ▸ wlkS (lkX12_251 h) q522_M rfl rfl, fun _ h => absurd h List.not_mem_nil⟩, fun _ h => absurd h List.not_mem_nil, fun _ h => absurd h List.not_mem_nil, fun _ h => absurd h List.not_mem_nil⟩ dkX12_areFar (by decide +kernel) (by rw [h.2.2.1]; exact q807_ok)
/-- NearSpellModel.areFar -/
def q808_M : rfM := ((⟨"NearSpellModel", "areFar", "(I)Z"⟩, prog_14_method_91_code, 3, (some .boolean)), (1,21), ([.inr (.inl [114]),.inl ((0,29,1),none)],[]), [], [(some (.inl ((0,0,0),none)),[],[]),(some (.inl ((1,1,0),none)),[],[])])
def q808_P : rfP := (flX12,csX12,lcX12,spX12,[q522_M],[(251,0)],[],([],[]))
def q808_U : rfU := []
set_option maxHeartbeats 8000000 in
def q808_N : List rfB := [(0,([(0,.inr (.inl [114])),(1,.inl ((0,29,1),none))],[],[]),(320,[0]),0),
  (2,([(0,.inr (.inl [114])),(1,.inl ((0,29,1),none)),(2,.inl ((0,14,1),none))],[],[]),(316,[(-21)]),0),
  (32,([(0,.inr (.inl [114])),(1,.inl ((0,29,1),none)),(2,.inl ((0,13,1),none))],[],[]),(298,[(-21)]),0)]
set_option maxRecDepth 100000 in
theorem q808_ok : rf_chkB q808_P q808_U wLay q808_M ddX12_areFar [(10,[0])] [.inl 2] [0,2,32] 600 q808_N = true := by decide +kernel
set_option maxHeartbeats 4000000 in
theorem q808_met {G : rfG} (h : okG G) (hh : wHandOK G) : rf_met G q808_M := rf_methodB h.1 (P := q808_P) (U := q808_U) (N := q808_N) ⟨wflT h flokX12, wcsT h csokX12, wlcT h lcokX12, spokX12 h, List.forall_mem_cons.mpr ⟨q522_met h hh, fun _ h => absurd h List.not_mem_nil⟩, List.forall_mem_cons.mpr ⟨fun M hM => Option.some.inj (show some q522_M = some M from hM) ▸ wlkS (lkX12_251 h) q522_M rfl rfl, fun _ h => absurd h List.not_mem_nil⟩, fun _ h => absurd h List.not_mem_nil, fun _ h => absurd h List.not_mem_nil, fun _ h => absurd h List.not_mem_nil⟩ dkX12_areFar (by decide +kernel) (by rw [h.2.2.1]; exact q808_ok)
/-- NearSpellModel.areFar -/
def q809_M : rfM := ((⟨"NearSpellModel", "areFar", "(I)Z"⟩, prog_14_method_91_code, 3, (some .boolean)), (1,21), ([.inr (.inl [114]),.inl ((0,36,1),none)],[]), [], [(some (.inl ((0,0,0),none)),[],[]),(some (.inl ((1,1,0),none)),[],[])])
def q809_P : rfP := (flX12,csX12,lcX12,spX12,[q522_M],[(251,0)],[],([],[]))
def q809_U : rfU := []
set_option maxHeartbeats 8000000 in
def q809_N : List rfB := [(0,([(0,.inr (.inl [114])),(1,.inl ((0,36,1),none))],[],[]),(320,[0]),0),
  (2,([(0,.inr (.inl [114])),(1,.inl ((0,36,1),none)),(2,.inl ((0,14,1),none))],[],[]),(316,[(-21)]),0),
  (32,([(0,.inr (.inl [114])),(1,.inl ((0,36,1),none)),(2,.inl ((0,13,1),none))],[],[]),(298,[(-21)]),0)]
set_option maxRecDepth 100000 in
theorem q809_ok : rf_chkB q809_P q809_U wLay q809_M ddX12_areFar [(10,[0])] [.inl 2] [0,2,32] 600 q809_N = true := by decide +kernel
set_option maxHeartbeats 4000000 in
theorem q809_met {G : rfG} (h : okG G) (hh : wHandOK G) : rf_met G q809_M := rf_methodB h.1 (P := q809_P) (U := q809_U) (N := q809_N) ⟨wflT h flokX12, wcsT h csokX12, wlcT h lcokX12, spokX12 h, List.forall_mem_cons.mpr ⟨q522_met h hh, fun _ h => absurd h List.not_mem_nil⟩, List.forall_mem_cons.mpr ⟨fun M hM => Option.some.inj (show some q522_M = some M from hM) ▸ wlkS (lkX12_251 h) q522_M rfl rfl, fun _ h => absurd h List.not_mem_nil⟩, fun _ h => absurd h List.not_mem_nil, fun _ h => absurd h List.not_mem_nil, fun _ h => absurd h List.not_mem_nil⟩ dkX12_areFar (by decide +kernel) (by rw [h.2.2.1]; exact q809_ok)
/-- NearSpellModel.areFar -/
def q810_M : rfM := ((⟨"NearSpellModel", "areFar", "(I)Z"⟩, prog_14_method_91_code, 3, (some .boolean)), (1,21), ([.inr (.inl [114]),.inl ((0,40,1),none)],[]), [], [(some (.inl ((0,0,0),none)),[],[]),(some (.inl ((1,1,0),none)),[],[])])
def q810_P : rfP := (flX12,csX12,lcX12,spX12,[q522_M],[(251,0)],[],([],[]))
def q810_U : rfU := []
set_option maxHeartbeats 8000000 in
def q810_N : List rfB := [(0,([(0,.inr (.inl [114])),(1,.inl ((0,40,1),none))],[],[]),(320,[0]),0),
  (2,([(0,.inr (.inl [114])),(1,.inl ((0,40,1),none)),(2,.inl ((0,14,1),none))],[],[]),(316,[(-21)]),0),
  (32,([(0,.inr (.inl [114])),(1,.inl ((0,40,1),none)),(2,.inl ((0,13,1),none))],[],[]),(298,[(-21)]),0)]
set_option maxRecDepth 100000 in
theorem q810_ok : rf_chkB q810_P q810_U wLay q810_M ddX12_areFar [(10,[0])] [.inl 2] [0,2,32] 600 q810_N = true := by decide +kernel
set_option maxHeartbeats 4000000 in
theorem q810_met {G : rfG} (h : okG G) (hh : wHandOK G) : rf_met G q810_M := rf_methodB h.1 (P := q810_P) (U := q810_U) (N := q810_N) ⟨wflT h flokX12, wcsT h csokX12, wlcT h lcokX12, spokX12 h, List.forall_mem_cons.mpr ⟨q522_met h hh, fun _ h => absurd h List.not_mem_nil⟩, List.forall_mem_cons.mpr ⟨fun M hM => Option.some.inj (show some q522_M = some M from hM) ▸ wlkS (lkX12_251 h) q522_M rfl rfl, fun _ h => absurd h List.not_mem_nil⟩, fun _ h => absurd h List.not_mem_nil, fun _ h => absurd h List.not_mem_nil, fun _ h => absurd h List.not_mem_nil⟩ dkX12_areFar (by decide +kernel) (by rw [h.2.2.1]; exact q810_ok)
/-- NearSpellModel.areFar -/
def q811_M : rfM := ((⟨"NearSpellModel", "areFar", "(I)Z"⟩, prog_14_method_91_code, 3, (some .boolean)), (1,21), ([.inr (.inl [114]),.inl ((0,63,1),none)],[]), [], [(some (.inl ((0,0,0),none)),[],[]),(some (.inl ((1,1,0),none)),[],[])])
def q811_P : rfP := (flX12,csX12,lcX12,spX12,[q522_M],[(251,0)],[],([],[]))
def q811_U : rfU := []
set_option maxHeartbeats 8000000 in
def q811_N : List rfB := [(0,([(0,.inr (.inl [114])),(1,.inl ((0,63,1),none))],[],[]),(320,[0]),0),
  (2,([(0,.inr (.inl [114])),(1,.inl ((0,63,1),none)),(2,.inl ((0,14,1),none))],[],[]),(316,[(-21)]),0),
  (32,([(0,.inr (.inl [114])),(1,.inl ((0,63,1),none)),(2,.inl ((0,13,1),none))],[],[]),(298,[(-21)]),0)]
set_option maxRecDepth 100000 in
theorem q811_ok : rf_chkB q811_P q811_U wLay q811_M ddX12_areFar [(10,[0])] [.inl 2] [0,2,32] 600 q811_N = true := by decide +kernel
set_option maxHeartbeats 4000000 in
theorem q811_met {G : rfG} (h : okG G) (hh : wHandOK G) : rf_met G q811_M := rf_methodB h.1 (P := q811_P) (U := q811_U) (N := q811_N) ⟨wflT h flokX12, wcsT h csokX12, wlcT h lcokX12, spokX12 h, List.forall_mem_cons.mpr ⟨q522_met h hh, fun _ h => absurd h List.not_mem_nil⟩, List.forall_mem_cons.mpr ⟨fun M hM => Option.some.inj (show some q522_M = some M from hM) ▸ wlkS (lkX12_251 h) q522_M rfl rfl, fun _ h => absurd h List.not_mem_nil⟩, fun _ h => absurd h List.not_mem_nil, fun _ h => absurd h List.not_mem_nil, fun _ h => absurd h List.not_mem_nil⟩ dkX12_areFar (by decide +kernel) (by rw [h.2.2.1]; exact q811_ok)
/-- NearSpellModel.areFar -/
def q812_M : rfM := ((⟨"NearSpellModel", "areFar", "(I)Z"⟩, prog_14_method_91_code, 3, (some .boolean)), (1,21), ([.inr (.inl [114]),.inl ((0,64,1),none)],[]), [], [(some (.inl ((0,0,0),none)),[],[]),(some (.inl ((1,1,0),none)),[],[])])
def q812_P : rfP := (flX12,csX12,lcX12,spX12,[q522_M],[(251,0)],[],([],[]))
def q812_U : rfU := []
set_option maxHeartbeats 8000000 in
def q812_N : List rfB := [(0,([(0,.inr (.inl [114])),(1,.inl ((0,64,1),none))],[],[]),(320,[0]),0),
  (2,([(0,.inr (.inl [114])),(1,.inl ((0,64,1),none)),(2,.inl ((0,14,1),none))],[],[]),(316,[(-21)]),0),
  (32,([(0,.inr (.inl [114])),(1,.inl ((0,64,1),none)),(2,.inl ((0,13,1),none))],[],[]),(298,[(-21)]),0)]
set_option maxRecDepth 100000 in
theorem q812_ok : rf_chkB q812_P q812_U wLay q812_M ddX12_areFar [(10,[0])] [.inl 2] [0,2,32] 600 q812_N = true := by decide +kernel
set_option maxHeartbeats 4000000 in
theorem q812_met {G : rfG} (h : okG G) (hh : wHandOK G) : rf_met G q812_M := rf_methodB h.1 (P := q812_P) (U := q812_U) (N := q812_N) ⟨wflT h flokX12, wcsT h csokX12, wlcT h lcokX12, spokX12 h, List.forall_mem_cons.mpr ⟨q522_met h hh, fun _ h => absurd h List.not_mem_nil⟩, List.forall_mem_cons.mpr ⟨fun M hM => Option.some.inj (show some q522_M = some M from hM) ▸ wlkS (lkX12_251 h) q522_M rfl rfl, fun _ h => absurd h List.not_mem_nil⟩, fun _ h => absurd h List.not_mem_nil, fun _ h => absurd h List.not_mem_nil, fun _ h => absurd h List.not_mem_nil⟩ dkX12_areFar (by decide +kernel) (by rw [h.2.2.1]; exact q812_ok)
/-- NearSpellModel.areFar -/
def q813_M : rfM := ((⟨"NearSpellModel", "areFar", "(I)Z"⟩, prog_14_method_91_code, 3, (some .boolean)), (1,21), ([.inr (.inl [114]),.inl ((0,1600,1),none)],[]), [], [(some (.inl ((0,0,0),none)),[],[]),(some (.inl ((1,1,0),none)),[],[])])
def q813_P : rfP := (flX12,csX12,lcX12,spX12,[q522_M],[(251,0)],[],([],[]))
def q813_U : rfU := []
set_option maxHeartbeats 8000000 in
def q813_N : List rfB := [(0,([(0,.inr (.inl [114])),(1,.inl ((0,1600,1),none))],[],[]),(320,[0]),0),
  (2,([(0,.inr (.inl [114])),(1,.inl ((0,1600,1),none)),(2,.inl ((0,14,1),none))],[],[]),(316,[(-21)]),0),
  (32,([(0,.inr (.inl [114])),(1,.inl ((0,1600,1),none)),(2,.inl ((0,13,1),none))],[],[]),(298,[(-21)]),0)]
set_option maxRecDepth 100000 in
theorem q813_ok : rf_chkB q813_P q813_U wLay q813_M ddX12_areFar [(10,[0])] [.inl 2] [0,2,32] 600 q813_N = true := by decide +kernel
set_option maxHeartbeats 4000000 in
theorem q813_met {G : rfG} (h : okG G) (hh : wHandOK G) : rf_met G q813_M := rf_methodB h.1 (P := q813_P) (U := q813_U) (N := q813_N) ⟨wflT h flokX12, wcsT h csokX12, wlcT h lcokX12, spokX12 h, List.forall_mem_cons.mpr ⟨q522_met h hh, fun _ h => absurd h List.not_mem_nil⟩, List.forall_mem_cons.mpr ⟨fun M hM => Option.some.inj (show some q522_M = some M from hM) ▸ wlkS (lkX12_251 h) q522_M rfl rfl, fun _ h => absurd h List.not_mem_nil⟩, fun _ h => absurd h List.not_mem_nil, fun _ h => absurd h List.not_mem_nil, fun _ h => absurd h List.not_mem_nil⟩ dkX12_areFar (by decide +kernel) (by rw [h.2.2.1]; exact q813_ok)
/-- NearSpellModel.areFar -/
def q814_M : rfM := ((⟨"NearSpellModel", "areFar", "(I)Z"⟩, prog_14_method_91_code, 3, (some .boolean)), (1,21), ([.inr (.inl [114]),.inl ((0,16383,1),none)],[]), [], [(some (.inl ((0,0,0),none)),[],[]),(some (.inl ((1,1,0),none)),[],[])])
def q814_P : rfP := (flX12,csX12,lcX12,spX12,[q522_M],[(251,0)],[],([],[]))
def q814_U : rfU := []
set_option maxHeartbeats 8000000 in
def q814_N : List rfB := [(0,([(0,.inr (.inl [114])),(1,.inl ((0,16383,1),none))],[],[]),(320,[0]),0),
  (2,([(0,.inr (.inl [114])),(1,.inl ((0,16383,1),none)),(2,.inl ((0,14,1),none))],[],[]),(316,[(-21)]),0),
  (32,([(0,.inr (.inl [114])),(1,.inl ((0,16383,1),none)),(2,.inl ((0,13,1),none))],[],[]),(298,[(-21)]),0)]
set_option maxRecDepth 100000 in
theorem q814_ok : rf_chkB q814_P q814_U wLay q814_M ddX12_areFar [(10,[0])] [.inl 2] [0,2,32] 600 q814_N = true := by decide +kernel
set_option maxHeartbeats 4000000 in
theorem q814_met {G : rfG} (h : okG G) (hh : wHandOK G) : rf_met G q814_M := rf_methodB h.1 (P := q814_P) (U := q814_U) (N := q814_N) ⟨wflT h flokX12, wcsT h csokX12, wlcT h lcokX12, spokX12 h, List.forall_mem_cons.mpr ⟨q522_met h hh, fun _ h => absurd h List.not_mem_nil⟩, List.forall_mem_cons.mpr ⟨fun M hM => Option.some.inj (show some q522_M = some M from hM) ▸ wlkS (lkX12_251 h) q522_M rfl rfl, fun _ h => absurd h List.not_mem_nil⟩, fun _ h => absurd h List.not_mem_nil, fun _ h => absurd h List.not_mem_nil, fun _ h => absurd h List.not_mem_nil⟩ dkX12_areFar (by decide +kernel) (by rw [h.2.2.1]; exact q814_ok)
/-- NearSpellModel.far -/
def q815_M : rfM := ((⟨"NearSpellModel", "far", "(II)I"⟩, prog_14_method_92_code, 7, (some .int)), (25,2111), ([.inr (.inl [114]),.inl (((-2147483648),2147483647,1),none),.inl (((-2147483648),2147483647,1),none)],[((114,28),(0,0,0),none)]), [(94,0),(95,0),(96,0),(97,0),(102,0),(103,0),(114,45),(114,46)], [(some (.inl (((-2147483648),2147483647,1),none)),[],[])])
def ddX12_far : List (Nat × Instr × Nat) := [(0,.iload_n 1,1),(1,.iconst 0,1),(2,.bipush 6,2),(4,.invokestatic 334,3),(7,.ifCond .eq 12,3),(10,.iload_n 2,1),(11,.iconst 0,1),(12,.iconst 1,1),(13,.invokestatic 334,3),(16,.ifCond .ne 5,3),(19,.iconst (-1),1),(20,.ireturn,1),(21,.aload_n 0,1),(22,.iload_n 1,1),(23,.invokevirtual 450,3),(26,.aload_n 0,1),(27,.invokevirtual 423,3),(30,.istore_n 3,1),(31,.iconst 0,1),(32,.istore 4,2),(34,.iconst 0,1),(35,.istore 5,2),(37,.iconst 0,1),(38,.istore 6,2),(40,.iload 6,2),(42,.sipush 16384,3),(45,.if_icmp .ge 51,3),(48,.iload 6,2),(50,.iload_n 3,1),(51,.iconst (-1),1),(52,.ixor,1),(53,.iand,1),(54,.ifCond .ne 36,3),(57,.iload 6,2),(59,.invokestatic 356,3),(62,.iload 5,2),(64,.if_icmp .le 26,3),(67,.aload_n 0,1),(68,.iload 6,2),(70,.invokevirtual 459,3),(73,.ifCond .ne 6,3),(76,.goto 14,3),(79,.iload 6,2),(81,.istore 4,2),(83,.iload 6,2),(85,.invokestatic 356,3),(88,.istore 5,2),(90,.iinc 6 1,3),(93,.goto (-53),3),(96,.iload_n 2,1),(97,.ifCond .ne 8,3),(100,.iload 5,2),(102,.goto 5,3),(105,.iload 4,2),(107,.ireturn,1)]
set_option maxRecDepth 100000 in
theorem dkX12_far : rf_decs prog_14_method_92_code ddX12_far := rf_decs_of (by decide +kernel)
def q815_P : rfP := (flX12,csX12,lcX12,spX12,[q734_M,q750_M,q796_M,q651_M,q611_M,q814_M],[(334,0),(334,1),(356,4)],[(423,3,12),(450,2,12),(459,5,12)],([],[]))
def q815_U : rfU := []
set_option maxHeartbeats 8000000 in
def q815_N : List rfB := [(0,([(0,.inr (.inl [114])),(1,.inl (((-2147483648),2147483647,1),none)),(2,.inl (((-2147483648),2147483647,1),none))],[],[((114,28),(0,0,0),some ((114,28),0,0))]),(442426,[0]),0),
  (19,([(0,.inr (.inl [114])),(1,.inl (((-2147483648),2147483647,1),none)),(2,.inl (((-2147483648),2147483647,1),none))],[],[((114,28),(0,0,0),some ((114,28),0,0))]),(442415,[0]),0),
  (40,([(0,.inr (.inl [114])),(1,.inl ((0,6,1),none)),(2,.inl ((0,1,1),none)),(3,.inl ((0,2147483647,1),none)),(4,.inl ((0,16383,1),none)),(5,.inl (((-2147483648),2147483647,1),none)),(6,.inl ((0,16384,1),none))],[],[((114,28),(0,0,0),some ((114,28),0,0))]),(442398,[(-27)]),0),
  (90,([(0,.inr (.inl [114])),(1,.inl ((0,6,1),none)),(2,.inl ((0,1,1),none)),(3,.inl ((0,2147483647,1),none)),(4,.inl ((0,16383,1),none)),(5,.inl (((-2147483648),2147483647,1),none)),(6,.inl ((0,16383,1),none))],[],[((114,28),(0,0,0),some ((114,28),0,0))]),(442374,[(-27)]),0),
  (107,([(0,.inr (.inl [114])),(1,.inl ((0,6,1),none)),(2,.inl ((0,1,1),none)),(3,.inl ((0,2147483647,1),none)),(4,.inl ((0,16383,1),none)),(5,.inl (((-2147483648),2147483647,1),none)),(6,.inl ((16384,16384,1),none))],[.inl (((-2147483648),2147483647,1),none)],[((114,28),(0,0,0),some ((114,28),0,0))]),(0,[0]),0)]
set_option maxRecDepth 100000 in
theorem q815_ok : rf_chkB q815_P q815_U wLay q815_M ddX12_far [(4,[0]),(13,[1]),(23,[2]),(27,[3]),(59,[4]),(70,[5]),(85,[4])] [.inl 6] [0,19,40,90,107] 600 q815_N = true := by decide +kernel
set_option maxHeartbeats 4000000 in
theorem q815_met {G : rfG} (h : okG G) (hh : wHandOK G) : rf_met G q815_M := rf_methodB h.1 (P := q815_P) (U := q815_U) (N := q815_N) ⟨wflT h flokX12, wcsT h csokX12, wlcT h lcokX12, spokX12 h, List.forall_mem_cons.mpr ⟨q734_met h hh, List.forall_mem_cons.mpr ⟨q750_met h hh, List.forall_mem_cons.mpr ⟨q796_met h hh, List.forall_mem_cons.mpr ⟨q651_met h hh, List.forall_mem_cons.mpr ⟨q611_met h hh, List.forall_mem_cons.mpr ⟨q814_met h hh, fun _ h => absurd h List.not_mem_nil⟩⟩⟩⟩⟩⟩, List.forall_mem_cons.mpr ⟨fun M hM => Option.some.inj (show some q734_M = some M from hM) ▸ wlkS (lkX12_334 h) q734_M rfl rfl, List.forall_mem_cons.mpr ⟨fun M hM => Option.some.inj (show some q750_M = some M from hM) ▸ wlkS (lkX12_334 h) q750_M rfl rfl, List.forall_mem_cons.mpr ⟨fun M hM => Option.some.inj (show some q611_M = some M from hM) ▸ wlkS (lkX12_356 h) q611_M rfl rfl, fun _ h => absurd h List.not_mem_nil⟩⟩⟩, List.forall_mem_cons.mpr ⟨fun M hM => Option.some.inj (show some q651_M = some M from hM) ▸ wlkV (lkX12_423 h) q651_M rfl rfl, List.forall_mem_cons.mpr ⟨fun M hM => Option.some.inj (show some q796_M = some M from hM) ▸ wlkV (lkX12_450 h) q796_M rfl rfl, List.forall_mem_cons.mpr ⟨fun M hM => Option.some.inj (show some q814_M = some M from hM) ▸ wlkV (lkX12_459 h) q814_M rfl rfl, fun _ h => absurd h List.not_mem_nil⟩⟩⟩, fun _ h => absurd h List.not_mem_nil, fun _ h => absurd h List.not_mem_nil⟩ dkX12_far (by decide +kernel) (by rw [h.2.2.1]; exact q815_ok)
/-- NearSpellModel.far -/
def q816_M : rfM := ((⟨"NearSpellModel", "far", "(II)I"⟩, prog_14_method_92_code, 7, (some .int)), (25,2111), ([.inr (.inl [114]),.inl (((-2147483648),2147483647,1),none),.inl (((-2147483648),2147483647,1),none)],[((77,1),(1,31,1),none),((114,28),(1,1,0),none)]), [(94,0),(95,0),(96,0),(97,0),(102,0),(103,0),(114,45),(114,46)], [(some (.inl (((-2147483648),2147483647,1),none)),[],[])])
def q816_P : rfP := (flX12,csX12,lcX12,spX12,[q734_M,q750_M,q796_M,q651_M,q611_M,q814_M],[(334,0),(334,1),(356,4)],[(423,3,12),(450,2,12),(459,5,12)],([],[]))
def q816_U : rfU := []
set_option maxHeartbeats 8000000 in
def q816_N : List rfB := [(0,([(0,.inr (.inl [114])),(1,.inl (((-2147483648),2147483647,1),none)),(2,.inl (((-2147483648),2147483647,1),none))],[],[((77,1),(1,31,1),some ((77,1),0,0)),((114,28),(1,1,0),some ((114,28),0,0))]),(442426,[0]),0),
  (19,([(0,.inr (.inl [114])),(1,.inl (((-2147483648),2147483647,1),none)),(2,.inl (((-2147483648),2147483647,1),none))],[],[((77,1),(1,31,1),some ((77,1),0,0)),((114,28),(1,1,0),some ((114,28),0,0))]),(442415,[0]),0),
  (40,([(0,.inr (.inl [114])),(1,.inl ((0,6,1),none)),(2,.inl ((0,1,1),none)),(3,.inl ((0,2147483647,1),none)),(4,.inl ((0,16383,1),none)),(5,.inl (((-2147483648),2147483647,1),none)),(6,.inl ((0,16384,1),none))],[],[((77,1),(1,31,1),some ((77,1),0,0)),((114,28),(1,1,0),some ((114,28),0,0))]),(442398,[(-27)]),0),
  (90,([(0,.inr (.inl [114])),(1,.inl ((0,6,1),none)),(2,.inl ((0,1,1),none)),(3,.inl ((0,2147483647,1),none)),(4,.inl ((0,16383,1),none)),(5,.inl (((-2147483648),2147483647,1),none)),(6,.inl ((0,16383,1),none))],[],[((77,1),(1,31,1),some ((77,1),0,0)),((114,28),(1,1,0),some ((114,28),0,0))]),(442374,[(-27)]),0),
  (107,([(0,.inr (.inl [114])),(1,.inl ((0,6,1),none)),(2,.inl ((0,1,1),none)),(3,.inl ((0,2147483647,1),none)),(4,.inl ((0,16383,1),none)),(5,.inl (((-2147483648),2147483647,1),none)),(6,.inl ((16384,16384,1),none))],[.inl (((-2147483648),2147483647,1),none)],[((77,1),(1,31,1),some ((77,1),0,0)),((114,28),(1,1,0),some ((114,28),0,0))]),(0,[0]),0)]
set_option maxRecDepth 100000 in
theorem q816_ok : rf_chkB q816_P q816_U wLay q816_M ddX12_far [(4,[0]),(13,[1]),(23,[2]),(27,[3]),(59,[4]),(70,[5]),(85,[4])] [.inl 6] [0,19,40,90,107] 600 q816_N = true := by decide +kernel
set_option maxHeartbeats 4000000 in
theorem q816_met {G : rfG} (h : okG G) (hh : wHandOK G) : rf_met G q816_M := rf_methodB h.1 (P := q816_P) (U := q816_U) (N := q816_N) ⟨wflT h flokX12, wcsT h csokX12, wlcT h lcokX12, spokX12 h, List.forall_mem_cons.mpr ⟨q734_met h hh, List.forall_mem_cons.mpr ⟨q750_met h hh, List.forall_mem_cons.mpr ⟨q796_met h hh, List.forall_mem_cons.mpr ⟨q651_met h hh, List.forall_mem_cons.mpr ⟨q611_met h hh, List.forall_mem_cons.mpr ⟨q814_met h hh, fun _ h => absurd h List.not_mem_nil⟩⟩⟩⟩⟩⟩, List.forall_mem_cons.mpr ⟨fun M hM => Option.some.inj (show some q734_M = some M from hM) ▸ wlkS (lkX12_334 h) q734_M rfl rfl, List.forall_mem_cons.mpr ⟨fun M hM => Option.some.inj (show some q750_M = some M from hM) ▸ wlkS (lkX12_334 h) q750_M rfl rfl, List.forall_mem_cons.mpr ⟨fun M hM => Option.some.inj (show some q611_M = some M from hM) ▸ wlkS (lkX12_356 h) q611_M rfl rfl, fun _ h => absurd h List.not_mem_nil⟩⟩⟩, List.forall_mem_cons.mpr ⟨fun M hM => Option.some.inj (show some q651_M = some M from hM) ▸ wlkV (lkX12_423 h) q651_M rfl rfl, List.forall_mem_cons.mpr ⟨fun M hM => Option.some.inj (show some q796_M = some M from hM) ▸ wlkV (lkX12_450 h) q796_M rfl rfl, List.forall_mem_cons.mpr ⟨fun M hM => Option.some.inj (show some q814_M = some M from hM) ▸ wlkV (lkX12_459 h) q814_M rfl rfl, fun _ h => absurd h List.not_mem_nil⟩⟩⟩, fun _ h => absurd h List.not_mem_nil, fun _ h => absurd h List.not_mem_nil⟩ dkX12_far (by decide +kernel) (by rw [h.2.2.1]; exact q816_ok)
/-- NearSpellModel.middle -/
def q817_M : rfM := ((⟨"NearSpellModel", "middle", "()I"⟩, prog_14_method_93_code, 6, (some .int)), (24,2088), ([.inr (.inl [114])],[((114,28),(0,0,0),none)]), [(94,0),(95,0),(96,0),(97,0),(103,0),(114,45),(114,46)], [(some (.inl (((-1),13,1),none)),[],[])])
def ddX12_middle : List (Nat × Instr × Nat) := [(0,.aload_n 0,1),(1,.invokevirtual 447,3),(4,.iconst (-1),1),(5,.istore_n 1,1),(6,.iconst 0,1),(7,.istore_n 2,1),(8,.iconst 0,1),(9,.istore_n 3,1),(10,.iload_n 3,1),(11,.bipush 14,2),(13,.if_icmp .ge 87,3),(16,.aload_n 0,1),(17,.iload_n 3,1),(18,.invokevirtual 350,3),(21,.ifCond .ne 6,3),(24,.goto 70,3),(27,.iconst 0,1),(28,.istore 4,2),(30,.iconst 0,1),(31,.istore 5,2),(33,.iload 5,2),(35,.bipush 14,2),(37,.if_icmp .ge 39,3),(40,.iload 4,2),(42,.aload_n 0,1),(43,.iload 5,2),(45,.invokevirtual 350,3),(48,.ifCond .eq 18,3),(51,.aload_n 0,1),(52,.getfield 111,3),(55,.bipush 14,2),(57,.iload_n 3,1),(58,.imul,1),(59,.iload 5,2),(61,.iadd,1),(62,.iaload,1),(63,.goto 4,3),(66,.iconst 0,1),(67,.iadd,1),(68,.istore 4,2),(70,.iinc 5 1,3),(73,.goto (-40),3),(76,.iload_n 1,1),(77,.ifCond .lt 12,3),(80,.iload 4,2),(82,.iload_n 2,1),(83,.if_icmp .lt 6,3),(86,.goto 8,3),(89,.iload_n 3,1),(90,.istore_n 1,1),(91,.iload 4,2),(93,.istore_n 2,1),(94,.iinc 3 1,3),(97,.goto (-87),3),(100,.iload_n 1,1),(101,.ireturn,1)]
set_option maxRecDepth 100000 in
theorem dkX12_middle : rf_decs prog_14_method_93_code ddX12_middle := rf_decs_of (by decide +kernel)
def q817_P : rfP := (flX12,csX12,lcX12,spX12,[q791_M,q646_M],[],[(350,1,12),(447,0,12)],([],[]))
def q817_U : rfU := []
set_option maxHeartbeats 8000000 in
def q817_N : List rfB := [(0,([(0,.inr (.inl [114]))],[],[((114,28),(0,0,0),some ((114,28),0,0))]),(6024,[0,0]),0),
  (10,([(0,.inr (.inl [114])),(1,.inl (((-1),13,1),none)),(2,.inl (((-2147483648),2147483647,1),none)),(3,.inl ((0,14,1),none))],[],[((114,28),(0,0,0),some ((114,28),0,0))]),(6014,[(-401),0]),0),
  (94,([(0,.inr (.inl [114])),(1,.inl (((-1),13,1),none)),(2,.inl (((-2147483648),2147483647,1),none)),(3,.inl ((0,13,1),none))],[],[((114,28),(0,0,0),some ((114,28),0,0))]),(5616,[(-401),0]),0),
  (33,([(0,.inr (.inl [114])),(1,.inl (((-1),13,1),none)),(2,.inl (((-2147483648),2147483647,1),none)),(3,.inl ((0,13,1),none)),(4,.inl (((-2147483648),2147483647,1),none)),(5,.inl ((0,14,1),none))],[],[((90,28),(1,14,1),none),((114,28),(0,0,0),some ((114,28),0,0))]),(6001,[(-401),(-25)]),0),
  (68,([(0,.inr (.inl [114])),(1,.inl (((-1),13,1),none)),(2,.inl (((-2147483648),2147483647,1),none)),(3,.inl ((0,13,1),none)),(4,.inl (((-2147483648),2147483647,1),none)),(5,.inl ((0,13,1),none))],[.inl (((-2147483648),2147483647,1),none)],[((90,28),(1,14,1),none),((114,28),(0,0,0),some ((114,28),0,0))]),(5980,[(-401),(-25)]),0),
  (89,([(0,.inr (.inl [114])),(1,.inl (((-1),13,1),none)),(2,.inl (((-2147483648),2147483647,1),none)),(3,.inl ((0,13,1),none)),(4,.inl (((-2147483648),2147483647,1),none)),(5,.inl ((14,14,1),none))],[],[((90,28),(1,14,1),none),((114,28),(0,0,0),some ((114,28),0,0))]),(5622,[(-401),0]),0)]
set_option maxRecDepth 100000 in
theorem q817_ok : rf_chkB q817_P q817_U wLay q817_M ddX12_middle [(1,[0]),(18,[1]),(45,[1])] [.inl 3,.inl 5] [0,10,33,68,89,94] 600 q817_N = true := by decide +kernel
set_option maxHeartbeats 4000000 in
theorem q817_met {G : rfG} (h : okG G) (hh : wHandOK G) : rf_met G q817_M := rf_methodB h.1 (P := q817_P) (U := q817_U) (N := q817_N) ⟨wflT h flokX12, wcsT h csokX12, wlcT h lcokX12, spokX12 h, List.forall_mem_cons.mpr ⟨q791_met h hh, List.forall_mem_cons.mpr ⟨q646_met h hh, fun _ h => absurd h List.not_mem_nil⟩⟩, fun _ h => absurd h List.not_mem_nil, List.forall_mem_cons.mpr ⟨fun M hM => Option.some.inj (show some q646_M = some M from hM) ▸ wlkV (lkX12_350 h) q646_M rfl rfl, List.forall_mem_cons.mpr ⟨fun M hM => Option.some.inj (show some q791_M = some M from hM) ▸ wlkV (lkX12_447 h) q791_M rfl rfl, fun _ h => absurd h List.not_mem_nil⟩⟩, fun _ h => absurd h List.not_mem_nil, fun _ h => absurd h List.not_mem_nil⟩ dkX12_middle (by decide +kernel) (by rw [h.2.2.1]; exact q817_ok)
/-- NearSpellModel.middle -/
def q818_M : rfM := ((⟨"NearSpellModel", "middle", "()I"⟩, prog_14_method_93_code, 6, (some .int)), (24,2088), ([.inr (.inl [114])],[((77,1),(1,31,1),none),((114,28),(1,1,0),none)]), [(94,0),(95,0),(96,0),(97,0),(103,0),(114,45),(114,46)], [(some (.inl (((-1),13,1),none)),[],[])])
def q818_P : rfP := (flX12,csX12,lcX12,spX12,[q791_M,q646_M],[],[(350,1,12),(447,0,12)],([],[]))
def q818_U : rfU := []
set_option maxHeartbeats 8000000 in
def q818_N : List rfB := [(0,([(0,.inr (.inl [114]))],[],[((77,1),(1,31,1),some ((77,1),0,0)),((114,28),(1,1,0),some ((114,28),0,0))]),(6024,[0,0]),0),
  (10,([(0,.inr (.inl [114])),(1,.inl (((-1),13,1),none)),(2,.inl (((-2147483648),2147483647,1),none)),(3,.inl ((0,14,1),none))],[],[((77,1),(1,31,1),some ((77,1),0,0)),((114,28),(1,1,0),some ((114,28),0,0))]),(6014,[(-401),0]),0),
  (94,([(0,.inr (.inl [114])),(1,.inl (((-1),13,1),none)),(2,.inl (((-2147483648),2147483647,1),none)),(3,.inl ((0,13,1),none))],[],[((77,1),(1,31,1),some ((77,1),0,0)),((114,28),(1,1,0),some ((114,28),0,0))]),(5616,[(-401),0]),0),
  (33,([(0,.inr (.inl [114])),(1,.inl (((-1),13,1),none)),(2,.inl (((-2147483648),2147483647,1),none)),(3,.inl ((0,13,1),none)),(4,.inl (((-2147483648),2147483647,1),none)),(5,.inl ((0,14,1),none))],[],[((77,1),(1,31,1),some ((77,1),0,0)),((90,28),(1,14,1),none),((114,28),(1,1,0),some ((114,28),0,0))]),(6001,[(-401),(-25)]),0),
  (68,([(0,.inr (.inl [114])),(1,.inl (((-1),13,1),none)),(2,.inl (((-2147483648),2147483647,1),none)),(3,.inl ((0,13,1),none)),(4,.inl (((-2147483648),2147483647,1),none)),(5,.inl ((0,13,1),none))],[.inl (((-2147483648),2147483647,1),none)],[((77,1),(1,31,1),some ((77,1),0,0)),((90,28),(1,14,1),none),((114,28),(1,1,0),some ((114,28),0,0))]),(5980,[(-401),(-25)]),0),
  (89,([(0,.inr (.inl [114])),(1,.inl (((-1),13,1),none)),(2,.inl (((-2147483648),2147483647,1),none)),(3,.inl ((0,13,1),none)),(4,.inl (((-2147483648),2147483647,1),none)),(5,.inl ((14,14,1),none))],[],[((77,1),(1,31,1),some ((77,1),0,0)),((90,28),(1,14,1),none),((114,28),(1,1,0),some ((114,28),0,0))]),(5622,[(-401),0]),0)]
set_option maxRecDepth 100000 in
theorem q818_ok : rf_chkB q818_P q818_U wLay q818_M ddX12_middle [(1,[0]),(18,[1]),(45,[1])] [.inl 3,.inl 5] [0,10,33,68,89,94] 600 q818_N = true := by decide +kernel
set_option maxHeartbeats 4000000 in
theorem q818_met {G : rfG} (h : okG G) (hh : wHandOK G) : rf_met G q818_M := rf_methodB h.1 (P := q818_P) (U := q818_U) (N := q818_N) ⟨wflT h flokX12, wcsT h csokX12, wlcT h lcokX12, spokX12 h, List.forall_mem_cons.mpr ⟨q791_met h hh, List.forall_mem_cons.mpr ⟨q646_met h hh, fun _ h => absurd h List.not_mem_nil⟩⟩, fun _ h => absurd h List.not_mem_nil, List.forall_mem_cons.mpr ⟨fun M hM => Option.some.inj (show some q646_M = some M from hM) ▸ wlkV (lkX12_350 h) q646_M rfl rfl, List.forall_mem_cons.mpr ⟨fun M hM => Option.some.inj (show some q791_M = some M from hM) ▸ wlkV (lkX12_447 h) q791_M rfl rfl, fun _ h => absurd h List.not_mem_nil⟩⟩, fun _ h => absurd h List.not_mem_nil, fun _ h => absurd h List.not_mem_nil⟩ dkX12_middle (by decide +kernel) (by rw [h.2.2.1]; exact q818_ok)
/-- NearSpellModel.oneStep -/
def q819_M : rfM := ((⟨"NearSpellModel", "oneStep", "(I)I"⟩, prog_14_method_89_code, 4, (some .int)), (1,21), ([.inr (.inl [114]),.inl ((1,9999,1),none)],[]), [], [(some (.inl (((-2147483648),2147483647,1),none)),[],[])])
def ddX12_oneStep : List (Nat × Instr × Nat) := [(0,.iload_n 1,1),(1,.istore_n 2,1),(2,.iconst 0,1),(3,.istore_n 3,1),(4,.iload_n 3,1),(5,.bipush 14,2),(7,.if_icmp .ge 26,3),(10,.iload_n 1,1),(11,.iload_n 3,1),(12,.invokestatic 251,3),(15,.ifCond .eq 12,3),(18,.iload_n 2,1),(19,.aload_n 0,1),(20,.getfield 108,3),(23,.iload_n 3,1),(24,.iaload,1),(25,.ior,1),(26,.istore_n 2,1),(27,.iinc 3 1,3),(30,.goto (-26),3),(33,.iload_n 2,1),(34,.ireturn,1)]
set_option maxRecDepth 100000 in
theorem dkX12_oneStep : rf_decs prog_14_method_89_code ddX12_oneStep := rf_decs_of (by decide +kernel)
def q819_P : rfP := (flX12,csX12,lcX12,spX12,[q522_M],[(251,0)],[],([],[]))
def q819_U : rfU := []
set_option maxHeartbeats 8000000 in
def q819_N : List rfB := [(0,([(0,.inr (.inl [114])),(1,.inl ((1,9999,1),none))],[],[]),(275,[0]),0),
  (4,([(0,.inr (.inl [114])),(1,.inl ((1,9999,1),none)),(2,.inl (((-2147483648),2147483647,1),none)),(3,.inl ((0,14,1),none))],[],[]),(269,[(-18)]),0),
  (27,([(0,.inr (.inl [114])),(1,.inl ((1,9999,1),none)),(2,.inl (((-2147483648),2147483647,1),none)),(3,.inl ((0,13,1),none))],[],[]),(254,[(-18)]),0)]
set_option maxRecDepth 100000 in
theorem q819_ok : rf_chkB q819_P q819_U wLay q819_M ddX12_oneStep [(12,[0])] [.inl 3] [0,4,27] 600 q819_N = true := by decide +kernel
set_option maxHeartbeats 4000000 in
theorem q819_met {G : rfG} (h : okG G) (hh : wHandOK G) : rf_met G q819_M := rf_methodB h.1 (P := q819_P) (U := q819_U) (N := q819_N) ⟨wflT h flokX12, wcsT h csokX12, wlcT h lcokX12, spokX12 h, List.forall_mem_cons.mpr ⟨q522_met h hh, fun _ h => absurd h List.not_mem_nil⟩, List.forall_mem_cons.mpr ⟨fun M hM => Option.some.inj (show some q522_M = some M from hM) ▸ wlkS (lkX12_251 h) q522_M rfl rfl, fun _ h => absurd h List.not_mem_nil⟩, fun _ h => absurd h List.not_mem_nil, fun _ h => absurd h List.not_mem_nil, fun _ h => absurd h List.not_mem_nil⟩ dkX12_oneStep (by decide +kernel) (by rw [h.2.2.1]; exact q819_ok)
/-- NearSpellModel.oneStep -/
def q820_M : rfM := ((⟨"NearSpellModel", "oneStep", "(I)I"⟩, prog_14_method_89_code, 4, (some .int)), (1,21), ([.inr (.inl [114]),.inl (((-2147483648),2147483647,1),none)],[]), [], [(some (.inl (((-2147483648),2147483647,1),none)),[],[])])
def q820_P : rfP := (flX12,csX12,lcX12,spX12,[q522_M],[(251,0)],[],([],[]))
def q820_U : rfU := []
set_option maxHeartbeats 8000000 in
def q820_N : List rfB := [(0,([(0,.inr (.inl [114])),(1,.inl (((-2147483648),2147483647,1),none))],[],[]),(275,[0]),0),
  (4,([(0,.inr (.inl [114])),(1,.inl (((-2147483648),2147483647,1),none)),(2,.inl (((-2147483648),2147483647,1),none)),(3,.inl ((0,14,1),none))],[],[]),(269,[(-18)]),0),
  (27,([(0,.inr (.inl [114])),(1,.inl (((-2147483648),2147483647,1),none)),(2,.inl (((-2147483648),2147483647,1),none)),(3,.inl ((0,13,1),none))],[],[]),(254,[(-18)]),0)]
set_option maxRecDepth 100000 in
theorem q820_ok : rf_chkB q820_P q820_U wLay q820_M ddX12_oneStep [(12,[0])] [.inl 3] [0,4,27] 600 q820_N = true := by decide +kernel
set_option maxHeartbeats 4000000 in
theorem q820_met {G : rfG} (h : okG G) (hh : wHandOK G) : rf_met G q820_M := rf_methodB h.1 (P := q820_P) (U := q820_U) (N := q820_N) ⟨wflT h flokX12, wcsT h csokX12, wlcT h lcokX12, spokX12 h, List.forall_mem_cons.mpr ⟨q522_met h hh, fun _ h => absurd h List.not_mem_nil⟩, List.forall_mem_cons.mpr ⟨fun M hM => Option.some.inj (show some q522_M = some M from hM) ▸ wlkS (lkX12_251 h) q522_M rfl rfl, fun _ h => absurd h List.not_mem_nil⟩, fun _ h => absurd h List.not_mem_nil, fun _ h => absurd h List.not_mem_nil, fun _ h => absurd h List.not_mem_nil⟩ dkX12_oneStep (by decide +kernel) (by rw [h.2.2.1]; exact q820_ok)
/-- NearSpellModel.chain -/
def q821_M : rfM := ((⟨"NearSpellModel", "chain", "(III)I"⟩, prog_14_method_94_code, 6, (some .int)), (25,2111), ([.inr (.inl [114]),.inl (((-2147483648),2147483647,1),none),.inl (((-2147483648),2147483647,1),none),.inl (((-2147483648),2147483647,1),none)],[((114,28),(0,0,0),none)]), [(94,0),(95,0),(96,0),(97,0),(102,0),(103,0),(114,45),(114,46)], [(some (.inl (((-1),14,1),none)),[],[])])
def ddX12_chain : List (Nat × Instr × Nat) := [(0,.aload_n 0,1),(1,.iload_n 1,1),(2,.invokevirtual 350,3),(5,.ifCond .eq 21,3),(8,.aload_n 0,1),(9,.iload_n 2,1),(10,.invokevirtual 350,3),(13,.ifCond .eq 13,3),(16,.iload_n 3,1),(17,.iconst 0,1),(18,.bipush 6,2),(20,.invokestatic 334,3),(23,.ifCond .ne 5,3),(26,.iconst (-1),1),(27,.ireturn,1),(28,.aload_n 0,1),(29,.iload_n 3,1),(30,.invokevirtual 450,3),(33,.iconst 1,1),(34,.iload_n 1,1),(35,.ishl,1),(36,.istore 4,2),(38,.iconst 0,1),(39,.istore 5,2),(41,.iload 5,2),(43,.bipush 14,2),(45,.if_icmp .ge 26,3),(48,.iload 4,2),(50,.iload_n 2,1),(51,.invokestatic 251,3),(54,.ifCond .ne 17,3),(57,.aload_n 0,1),(58,.iload 4,2),(60,.invokevirtual 456,3),(63,.istore 4,2),(65,.iinc 5 1,3),(68,.goto (-27),3),(71,.iload 4,2),(73,.iload_n 2,1),(74,.invokestatic 251,3),(77,.ifCond .eq 8,3),(80,.iload 5,2),(82,.goto 4,3),(85,.iconst (-1),1),(86,.ireturn,1)]
set_option maxRecDepth 100000 in
theorem dkX12_chain : rf_decs prog_14_method_94_code ddX12_chain := rf_decs_of (by decide +kernel)
def q821_P : rfP := (flX12,csX12,lcX12,spX12,[q607_M,q734_M,q796_M,q522_M,q820_M],[(251,3),(334,1)],[(350,0,12),(450,2,12),(456,4,12)],([],[]))
def q821_U : rfU := []
set_option maxHeartbeats 8000000 in
def q821_N : List rfB := [(0,([(0,.inr (.inl [114])),(1,.inl (((-2147483648),2147483647,1),none)),(2,.inl (((-2147483648),2147483647,1),none)),(3,.inl (((-2147483648),2147483647,1),none))],[],[((114,28),(0,0,0),some ((114,28),0,0))]),(247,[0]),0),
  (26,([(0,.inr (.inl [114])),(1,.inl (((-2147483648),2147483647,1),none)),(2,.inl (((-2147483648),2147483647,1),none)),(3,.inl (((-2147483648),2147483647,1),none))],[],[((114,28),(0,0,0),some ((114,28),0,0))]),(232,[0]),0),
  (41,([(0,.inr (.inl [114])),(1,.inl ((0,13,1),none)),(2,.inl ((0,13,1),none)),(3,.inl ((0,6,1),none)),(4,.inl (((-2147483648),2147483647,1),none)),(5,.inl ((0,14,1),none))],[],[((90,28),(1,14,1),none),((114,28),(0,0,0),some ((114,28),0,0))]),(218,[(-14)]),0),
  (71,([(0,.inr (.inl [114])),(1,.inl ((0,13,1),none)),(2,.inl ((0,13,1),none)),(3,.inl ((0,6,1),none)),(4,.inl (((-2147483648),2147483647,1),none)),(5,.inl ((0,14,1),none))],[],[((90,28),(1,14,1),none),((114,28),(0,0,0),some ((114,28),0,0))]),(9,[0]),0)]
set_option maxRecDepth 100000 in
theorem q821_ok : rf_chkB q821_P q821_U wLay q821_M ddX12_chain [(2,[0]),(10,[0]),(20,[1]),(30,[2]),(51,[3]),(60,[4]),(74,[3])] [.inl 5] [0,26,41,71] 600 q821_N = true := by decide +kernel
set_option maxHeartbeats 4000000 in
theorem q821_met {G : rfG} (h : okG G) (hh : wHandOK G) : rf_met G q821_M := rf_methodB h.1 (P := q821_P) (U := q821_U) (N := q821_N) ⟨wflT h flokX12, wcsT h csokX12, wlcT h lcokX12, spokX12 h, List.forall_mem_cons.mpr ⟨q607_met h hh, List.forall_mem_cons.mpr ⟨q734_met h hh, List.forall_mem_cons.mpr ⟨q796_met h hh, List.forall_mem_cons.mpr ⟨q522_met h hh, List.forall_mem_cons.mpr ⟨q820_met h hh, fun _ h => absurd h List.not_mem_nil⟩⟩⟩⟩⟩, List.forall_mem_cons.mpr ⟨fun M hM => Option.some.inj (show some q522_M = some M from hM) ▸ wlkS (lkX12_251 h) q522_M rfl rfl, List.forall_mem_cons.mpr ⟨fun M hM => Option.some.inj (show some q734_M = some M from hM) ▸ wlkS (lkX12_334 h) q734_M rfl rfl, fun _ h => absurd h List.not_mem_nil⟩⟩, List.forall_mem_cons.mpr ⟨fun M hM => Option.some.inj (show some q607_M = some M from hM) ▸ wlkV (lkX12_350 h) q607_M rfl rfl, List.forall_mem_cons.mpr ⟨fun M hM => Option.some.inj (show some q796_M = some M from hM) ▸ wlkV (lkX12_450 h) q796_M rfl rfl, List.forall_mem_cons.mpr ⟨fun M hM => Option.some.inj (show some q820_M = some M from hM) ▸ wlkV (lkX12_456 h) q820_M rfl rfl, fun _ h => absurd h List.not_mem_nil⟩⟩⟩, fun _ h => absurd h List.not_mem_nil, fun _ h => absurd h List.not_mem_nil⟩ dkX12_chain (by decide +kernel) (by rw [h.2.2.1]; exact q821_ok)
/-- NearSpellModel.chain -/
def q822_M : rfM := ((⟨"NearSpellModel", "chain", "(III)I"⟩, prog_14_method_94_code, 6, (some .int)), (25,2111), ([.inr (.inl [114]),.inl (((-2147483648),2147483647,1),none),.inl (((-2147483648),2147483647,1),none),.inl (((-2147483648),2147483647,1),none)],[((77,1),(1,31,1),none),((114,28),(1,1,0),none)]), [(94,0),(95,0),(96,0),(97,0),(102,0),(103,0),(114,45),(114,46)], [(some (.inl (((-1),14,1),none)),[],[])])
def q822_P : rfP := (flX12,csX12,lcX12,spX12,[q607_M,q734_M,q796_M,q522_M,q820_M],[(251,3),(334,1)],[(350,0,12),(450,2,12),(456,4,12)],([],[]))
def q822_U : rfU := []
set_option maxHeartbeats 8000000 in
def q822_N : List rfB := [(0,([(0,.inr (.inl [114])),(1,.inl (((-2147483648),2147483647,1),none)),(2,.inl (((-2147483648),2147483647,1),none)),(3,.inl (((-2147483648),2147483647,1),none))],[],[((77,1),(1,31,1),some ((77,1),0,0)),((114,28),(1,1,0),some ((114,28),0,0))]),(247,[0]),0),
  (26,([(0,.inr (.inl [114])),(1,.inl (((-2147483648),2147483647,1),none)),(2,.inl (((-2147483648),2147483647,1),none)),(3,.inl (((-2147483648),2147483647,1),none))],[],[((77,1),(1,31,1),some ((77,1),0,0)),((114,28),(1,1,0),some ((114,28),0,0))]),(232,[0]),0),
  (41,([(0,.inr (.inl [114])),(1,.inl ((0,13,1),none)),(2,.inl ((0,13,1),none)),(3,.inl ((0,6,1),none)),(4,.inl (((-2147483648),2147483647,1),none)),(5,.inl ((0,14,1),none))],[],[((77,1),(1,31,1),some ((77,1),0,0)),((90,28),(1,14,1),none),((114,28),(1,1,0),some ((114,28),0,0))]),(218,[(-14)]),0),
  (71,([(0,.inr (.inl [114])),(1,.inl ((0,13,1),none)),(2,.inl ((0,13,1),none)),(3,.inl ((0,6,1),none)),(4,.inl (((-2147483648),2147483647,1),none)),(5,.inl ((0,14,1),none))],[],[((77,1),(1,31,1),some ((77,1),0,0)),((90,28),(1,14,1),none),((114,28),(1,1,0),some ((114,28),0,0))]),(9,[0]),0)]
set_option maxRecDepth 100000 in
theorem q822_ok : rf_chkB q822_P q822_U wLay q822_M ddX12_chain [(2,[0]),(10,[0]),(20,[1]),(30,[2]),(51,[3]),(60,[4]),(74,[3])] [.inl 5] [0,26,41,71] 600 q822_N = true := by decide +kernel
set_option maxHeartbeats 4000000 in
theorem q822_met {G : rfG} (h : okG G) (hh : wHandOK G) : rf_met G q822_M := rf_methodB h.1 (P := q822_P) (U := q822_U) (N := q822_N) ⟨wflT h flokX12, wcsT h csokX12, wlcT h lcokX12, spokX12 h, List.forall_mem_cons.mpr ⟨q607_met h hh, List.forall_mem_cons.mpr ⟨q734_met h hh, List.forall_mem_cons.mpr ⟨q796_met h hh, List.forall_mem_cons.mpr ⟨q522_met h hh, List.forall_mem_cons.mpr ⟨q820_met h hh, fun _ h => absurd h List.not_mem_nil⟩⟩⟩⟩⟩, List.forall_mem_cons.mpr ⟨fun M hM => Option.some.inj (show some q522_M = some M from hM) ▸ wlkS (lkX12_251 h) q522_M rfl rfl, List.forall_mem_cons.mpr ⟨fun M hM => Option.some.inj (show some q734_M = some M from hM) ▸ wlkS (lkX12_334 h) q734_M rfl rfl, fun _ h => absurd h List.not_mem_nil⟩⟩, List.forall_mem_cons.mpr ⟨fun M hM => Option.some.inj (show some q607_M = some M from hM) ▸ wlkV (lkX12_350 h) q607_M rfl rfl, List.forall_mem_cons.mpr ⟨fun M hM => Option.some.inj (show some q796_M = some M from hM) ▸ wlkV (lkX12_450 h) q796_M rfl rfl, List.forall_mem_cons.mpr ⟨fun M hM => Option.some.inj (show some q820_M = some M from hM) ▸ wlkV (lkX12_456 h) q820_M rfl rfl, fun _ h => absurd h List.not_mem_nil⟩⟩⟩, fun _ h => absurd h List.not_mem_nil, fun _ h => absurd h List.not_mem_nil⟩ dkX12_chain (by decide +kernel) (by rw [h.2.2.1]; exact q822_ok)
/-- NearSpellModel.begins -/
def q823_M : rfM := ((⟨"NearSpellModel", "begins", "(I)I"⟩, prog_14_method_95_code, 5, (some .int)), (2,45), ([.inr (.inl [114]),.inl (((-2147483648),2147483647,1),none)],[((114,28),(0,0,0),none)]), [], [(some (.inl (((-1),13,1),none)),[],[])])
def ddX12_begins : List (Nat × Instr × Nat) := [(0,.iload_n 1,1),(1,.invokestatic 420,3),(4,.ifCond .ne 5,3),(7,.iconst (-1),1),(8,.ireturn,1),(9,.iload_n 1,1),(10,.invokestatic 319,3),(13,.istore_n 2,1),(14,.iconst (-1),1),(15,.istore_n 3,1),(16,.iconst 0,1),(17,.istore 4,2),(19,.iload 4,2),(21,.bipush 14,2),(23,.if_icmp .ge 83,3),(26,.aload_n 0,1),(27,.iload 4,2),(29,.invokevirtual 350,3),(32,.ifCond .eq 68,3),(35,.aload_n 0,1),(36,.getfield 72,3),(39,.iconst 0,1),(40,.iload 4,2),(42,.iadd,1),(43,.iaload,1),(44,.invokestatic 319,3),(47,.iload_n 2,1),(48,.if_icmp .lt 52,3),(51,.aload_n 0,1),(52,.getfield 72,3),(55,.iconst 0,1),(56,.iload 4,2),(58,.iadd,1),(59,.iaload,1),(60,.iload_n 2,1),(61,.invokestatic 322,3),(64,.iload_n 1,1),(65,.if_icmp .eq 6,3),(68,.goto 32,3),(71,.iload_n 3,1),(72,.ifCond .lt 25,3),(75,.aload_n 0,1),(76,.getfield 72,3),(79,.bipush 14,2),(81,.iload 4,2),(83,.iadd,1),(84,.iaload,1),(85,.aload_n 0,1),(86,.getfield 72,3),(89,.bipush 14,2),(91,.iload_n 3,1),(92,.iadd,1),(93,.iaload,1),(94,.if_icmp .le 6,3),(97,.iload 4,2),(99,.istore_n 3,1),(100,.iinc 4 1,3),(103,.goto (-84),3),(106,.iload_n 3,1),(107,.ireturn,1)]
set_option maxRecDepth 100000 in
theorem dkX12_begins : rf_decs prog_14_method_95_code ddX12_begins := rf_decs_of (by decide +kernel)
def q823_P : rfP := (flX12,csX12,lcX12,spX12,[q629_M,q656_M,q646_M,q608_M,q610_M],[(319,1),(319,3),(322,4),(420,0)],[(350,2,12)],([],[]))
def q823_U : rfU := []
set_option maxHeartbeats 8000000 in
def q823_N : List rfB := [(0,([(0,.inr (.inl [114])),(1,.inl (((-2147483648),2147483647,1),none))],[],[((114,28),(0,0,0),some ((114,28),0,0))]),(734,[0]),0),
  (19,([(0,.inr (.inl [114])),(1,.inl ((0,387420488,1),none)),(2,.inl ((0,6,1),none)),(3,.inl (((-1),13,1),none)),(4,.inl ((0,14,1),none))],[],[((114,28),(0,0,0),some ((114,28),0,0))]),(722,[(-48)]),0),
  (100,([(0,.inr (.inl [114])),(1,.inl ((0,387420488,1),none)),(2,.inl ((0,6,1),none)),(3,.inl (((-1),13,1),none)),(4,.inl ((0,13,1),none))],[],[((114,28),(0,0,0),some ((114,28),0,0))]),(677,[(-48)]),0),
  (97,([(0,.inr (.inl [114])),(1,.inl ((0,387420488,1),none)),(2,.inl ((0,6,1),none)),(3,.inl (((-1),13,1),none)),(4,.inl ((0,13,1),none))],[],[((90,28),(1,14,1),none),((114,28),(0,0,0),some ((114,28),0,0))]),(681,[(-48)]),0)]
set_option maxRecDepth 100000 in
theorem q823_ok : rf_chkB q823_P q823_U wLay q823_M ddX12_begins [(1,[0]),(10,[1]),(29,[2]),(44,[3]),(61,[4])] [.inl 4] [0,19,97,100] 600 q823_N = true := by decide +kernel
set_option maxHeartbeats 4000000 in
theorem q823_met {G : rfG} (h : okG G) (hh : wHandOK G) : rf_met G q823_M := rf_methodB h.1 (P := q823_P) (U := q823_U) (N := q823_N) ⟨wflT h flokX12, wcsT h csokX12, wlcT h lcokX12, spokX12 h, List.forall_mem_cons.mpr ⟨q629_met h hh, List.forall_mem_cons.mpr ⟨q656_met h hh, List.forall_mem_cons.mpr ⟨q646_met h hh, List.forall_mem_cons.mpr ⟨q608_met h hh, List.forall_mem_cons.mpr ⟨q610_met h hh, fun _ h => absurd h List.not_mem_nil⟩⟩⟩⟩⟩, List.forall_mem_cons.mpr ⟨fun M hM => Option.some.inj (show some q656_M = some M from hM) ▸ wlkS (lkX12_319 h) q656_M rfl rfl, List.forall_mem_cons.mpr ⟨fun M hM => Option.some.inj (show some q608_M = some M from hM) ▸ wlkS (lkX12_319 h) q608_M rfl rfl, List.forall_mem_cons.mpr ⟨fun M hM => Option.some.inj (show some q610_M = some M from hM) ▸ wlkS (lkX12_322 h) q610_M rfl rfl, List.forall_mem_cons.mpr ⟨fun M hM => Option.some.inj (show some q629_M = some M from hM) ▸ wlkS (lkX12_420 h) q629_M rfl rfl, fun _ h => absurd h List.not_mem_nil⟩⟩⟩⟩, List.forall_mem_cons.mpr ⟨fun M hM => Option.some.inj (show some q646_M = some M from hM) ▸ wlkV (lkX12_350 h) q646_M rfl rfl, fun _ h => absurd h List.not_mem_nil⟩, fun _ h => absurd h List.not_mem_nil, fun _ h => absurd h List.not_mem_nil⟩ dkX12_begins (by decide +kernel) (by rw [h.2.2.1]; exact q823_ok)
/-- NearSpellModel.begins -/
def q824_M : rfM := ((⟨"NearSpellModel", "begins", "(I)I"⟩, prog_14_method_95_code, 5, (some .int)), (2,45), ([.inr (.inl [114]),.inl (((-2147483648),2147483647,1),none)],[((77,1),(1,31,1),none),((114,28),(1,1,0),none)]), [], [(some (.inl (((-1),13,1),none)),[],[])])
def q824_P : rfP := (flX12,csX12,lcX12,spX12,[q629_M,q656_M,q646_M,q608_M,q610_M],[(319,1),(319,3),(322,4),(420,0)],[(350,2,12)],([],[]))
def q824_U : rfU := []
set_option maxHeartbeats 8000000 in
def q824_N : List rfB := [(0,([(0,.inr (.inl [114])),(1,.inl (((-2147483648),2147483647,1),none))],[],[((77,1),(1,31,1),some ((77,1),0,0)),((114,28),(1,1,0),some ((114,28),0,0))]),(734,[0]),0),
  (19,([(0,.inr (.inl [114])),(1,.inl ((0,387420488,1),none)),(2,.inl ((0,6,1),none)),(3,.inl (((-1),13,1),none)),(4,.inl ((0,14,1),none))],[],[((77,1),(1,31,1),some ((77,1),0,0)),((114,28),(1,1,0),some ((114,28),0,0))]),(722,[(-48)]),0),
  (100,([(0,.inr (.inl [114])),(1,.inl ((0,387420488,1),none)),(2,.inl ((0,6,1),none)),(3,.inl (((-1),13,1),none)),(4,.inl ((0,13,1),none))],[],[((77,1),(1,31,1),some ((77,1),0,0)),((114,28),(1,1,0),some ((114,28),0,0))]),(677,[(-48)]),0),
  (97,([(0,.inr (.inl [114])),(1,.inl ((0,387420488,1),none)),(2,.inl ((0,6,1),none)),(3,.inl (((-1),13,1),none)),(4,.inl ((0,13,1),none))],[],[((77,1),(1,31,1),some ((77,1),0,0)),((90,28),(1,14,1),none),((114,28),(1,1,0),some ((114,28),0,0))]),(681,[(-48)]),0)]
set_option maxRecDepth 100000 in
theorem q824_ok : rf_chkB q824_P q824_U wLay q824_M ddX12_begins [(1,[0]),(10,[1]),(29,[2]),(44,[3]),(61,[4])] [.inl 4] [0,19,97,100] 600 q824_N = true := by decide +kernel
set_option maxHeartbeats 4000000 in
theorem q824_met {G : rfG} (h : okG G) (hh : wHandOK G) : rf_met G q824_M := rf_methodB h.1 (P := q824_P) (U := q824_U) (N := q824_N) ⟨wflT h flokX12, wcsT h csokX12, wlcT h lcokX12, spokX12 h, List.forall_mem_cons.mpr ⟨q629_met h hh, List.forall_mem_cons.mpr ⟨q656_met h hh, List.forall_mem_cons.mpr ⟨q646_met h hh, List.forall_mem_cons.mpr ⟨q608_met h hh, List.forall_mem_cons.mpr ⟨q610_met h hh, fun _ h => absurd h List.not_mem_nil⟩⟩⟩⟩⟩, List.forall_mem_cons.mpr ⟨fun M hM => Option.some.inj (show some q656_M = some M from hM) ▸ wlkS (lkX12_319 h) q656_M rfl rfl, List.forall_mem_cons.mpr ⟨fun M hM => Option.some.inj (show some q608_M = some M from hM) ▸ wlkS (lkX12_319 h) q608_M rfl rfl, List.forall_mem_cons.mpr ⟨fun M hM => Option.some.inj (show some q610_M = some M from hM) ▸ wlkS (lkX12_322 h) q610_M rfl rfl, List.forall_mem_cons.mpr ⟨fun M hM => Option.some.inj (show some q629_M = some M from hM) ▸ wlkS (lkX12_420 h) q629_M rfl rfl, fun _ h => absurd h List.not_mem_nil⟩⟩⟩⟩, List.forall_mem_cons.mpr ⟨fun M hM => Option.some.inj (show some q646_M = some M from hM) ▸ wlkV (lkX12_350 h) q646_M rfl rfl, fun _ h => absurd h List.not_mem_nil⟩, fun _ h => absurd h List.not_mem_nil, fun _ h => absurd h List.not_mem_nil⟩ dkX12_begins (by decide +kernel) (by rw [h.2.2.1]; exact q824_ok)
/-- NearSpellModel.isIn -/
def q825_M : rfM := ((⟨"NearSpellModel", "isIn", "(III)Z"⟩, prog_14_method_35_code, 3, (some .boolean)), (0,0), ([.inl ((0,5,1),none),.inl ((0,0,0),none),.inl (((-1),13,1),none)],[]), [], [(some (.inl ((1,1,0),none)),[(2,0,13)],[]),(some (.inl ((0,0,0),none)),[(2,(-1),4)],[])])
def q825_P : rfP := (flX12,csX12,lcX12,spX12,[],[],[],([],[]))
def q825_U : rfU := []
set_option maxHeartbeats 8000000 in
def q825_N : List rfB := [(0,([(0,.inl ((0,5,1),none)),(1,.inl ((0,0,0),none)),(2,.inl (((-1),13,1),none))],[],[]),(10,[]),0)]
set_option maxRecDepth 100000 in
theorem q825_ok : rf_chkB q825_P q825_U wLay q825_M ddX12_isIn [] [] [0] 600 q825_N = true := by decide +kernel
set_option maxHeartbeats 4000000 in
theorem q825_met {G : rfG} (h : okG G) (hh : wHandOK G) : rf_met G q825_M := rf_methodB h.1 (P := q825_P) (U := q825_U) (N := q825_N) ⟨wflT h flokX12, wcsT h csokX12, wlcT h lcokX12, spokX12 h, fun _ h => absurd h List.not_mem_nil, fun _ h => absurd h List.not_mem_nil, fun _ h => absurd h List.not_mem_nil, fun _ h => absurd h List.not_mem_nil, fun _ h => absurd h List.not_mem_nil⟩ dkX12_isIn (by decide +kernel) (by rw [h.2.2.1]; exact q825_ok)
/-- NearSpellModel.isEntry -/
def q826_M : rfM := ((⟨"NearSpellModel", "isEntry", "(I)Z"⟩, prog_14_method_46_code, 2, (some .boolean)), (1,22), ([.inr (.inl [114]),.inl ((0,5,1),none)],[]), [], [(some (.inl ((1,1,0),none)),[],[((90,28),(1,14,1),none)]),(some (.inl ((0,0,0),none)),[],[])])
def q826_P : rfP := (flX12,csX12,lcX12,spX12,[q825_M],[(334,0)],[],([],[]))
def q826_U : rfU := []
set_option maxHeartbeats 8000000 in
def q826_N : List rfB := [(0,([(0,.inr (.inl [114])),(1,.inl ((0,5,1),none))],[],[]),(22,[]),0),
  (32,([(0,.inr (.inl [114])),(1,.inl ((0,5,1),none))],[],[]),(1,[]),0)]
set_option maxRecDepth 100000 in
theorem q826_ok : rf_chkB q826_P q826_U wLay q826_M ddX12_isEntry [(11,[0])] [] [0,32] 600 q826_N = true := by decide +kernel
set_option maxHeartbeats 4000000 in
theorem q826_met {G : rfG} (h : okG G) (hh : wHandOK G) : rf_met G q826_M := rf_methodB h.1 (P := q826_P) (U := q826_U) (N := q826_N) ⟨wflT h flokX12, wcsT h csokX12, wlcT h lcokX12, spokX12 h, List.forall_mem_cons.mpr ⟨q825_met h hh, fun _ h => absurd h List.not_mem_nil⟩, List.forall_mem_cons.mpr ⟨fun M hM => Option.some.inj (show some q825_M = some M from hM) ▸ wlkS (lkX12_334 h) q825_M rfl rfl, fun _ h => absurd h List.not_mem_nil⟩, fun _ h => absurd h List.not_mem_nil, fun _ h => absurd h List.not_mem_nil, fun _ h => absurd h List.not_mem_nil⟩ dkX12_isEntry (by decide +kernel) (by rw [h.2.2.1]; exact q826_ok)
/-- NearSpellModel.crowded -/
def q827_M : rfM := ((⟨"NearSpellModel", "crowded", "(I)I"⟩, prog_14_method_96_code, 4, (some .int)), (25,2111), ([.inr (.inl [114]),.inl (((-2147483648),2147483647,1),none)],[((114,28),(0,0,0),none)]), [(94,0),(95,0),(96,0),(97,0),(102,0),(103,0),(114,45),(114,46)], [(some (.inl (((-2147483648),2147483647,1),none)),[],[])])
def ddX12_crowded : List (Nat × Instr × Nat) := [(0,.iload_n 1,1),(1,.iconst 0,1),(2,.bipush 6,2),(4,.invokestatic 334,3),(7,.ifCond .ne 5,3),(10,.iconst (-1),1),(11,.ireturn,1),(12,.aload_n 0,1),(13,.iload_n 1,1),(14,.invokevirtual 450,3),(17,.iconst 0,1),(18,.istore_n 2,1),(19,.iconst 0,1),(20,.istore_n 3,1),(21,.iload_n 3,1),(22,.bipush 14,2),(24,.if_icmp .ge 37,3),(27,.iload_n 2,1),(28,.aload_n 0,1),(29,.iload_n 3,1),(30,.invokevirtual 350,3),(33,.ifCond .eq 19,3),(36,.aload_n 0,1),(37,.getfield 108,3),(40,.iload_n 3,1),(41,.iaload,1),(42,.iconst 1,1),(43,.iload_n 3,1),(44,.ishl,1),(45,.if_icmp .eq 7,3),(48,.iconst 1,1),(49,.goto 4,3),(52,.iconst 0,1),(53,.iadd,1),(54,.istore_n 2,1),(55,.iinc 3 1,3),(58,.goto (-37),3),(61,.iload_n 2,1),(62,.ireturn,1)]
set_option maxRecDepth 100000 in
theorem dkX12_crowded : rf_decs prog_14_method_96_code ddX12_crowded := rf_decs_of (by decide +kernel)
def q827_P : rfP := (flX12,csX12,lcX12,spX12,[q734_M,q796_M,q646_M],[(334,0)],[(350,2,12),(450,1,12)],([],[]))
def q827_U : rfU := []
set_option maxHeartbeats 8000000 in
def q827_N : List rfB := [(0,([(0,.inr (.inl [114])),(1,.inl (((-2147483648),2147483647,1),none))],[],[((114,28),(0,0,0),some ((114,28),0,0))]),(406,[0]),0),
  (21,([(0,.inr (.inl [114])),(1,.inl ((0,6,1),none)),(2,.inl (((-2147483648),2147483647,1),none)),(3,.inl ((0,14,1),none))],[],[((114,28),(0,0,0),some ((114,28),0,0))]),(389,[(-26)]),0),
  (52,([(0,.inr (.inl [114])),(1,.inl ((0,6,1),none)),(2,.inl (((-2147483648),2147483647,1),none)),(3,.inl ((0,13,1),none))],[.inl (((-2147483648),2147483647,1),some (.inl 2,some 0))],[((114,28),(0,0,0),some ((114,28),0,0))]),(369,[(-26)]),0),
  (54,([(0,.inr (.inl [114])),(1,.inl ((0,6,1),none)),(2,.inl (((-2147483648),2147483647,1),none)),(3,.inl ((0,13,1),none))],[.inl (((-2147483648),2147483647,1),none)],[((114,28),(0,0,0),some ((114,28),0,0))]),(367,[(-26)]),0)]
set_option maxRecDepth 100000 in
theorem q827_ok : rf_chkB q827_P q827_U wLay q827_M ddX12_crowded [(4,[0]),(14,[1]),(30,[2])] [.inl 3] [0,21,52,54] 600 q827_N = true := by decide +kernel
set_option maxHeartbeats 4000000 in
theorem q827_met {G : rfG} (h : okG G) (hh : wHandOK G) : rf_met G q827_M := rf_methodB h.1 (P := q827_P) (U := q827_U) (N := q827_N) ⟨wflT h flokX12, wcsT h csokX12, wlcT h lcokX12, spokX12 h, List.forall_mem_cons.mpr ⟨q734_met h hh, List.forall_mem_cons.mpr ⟨q796_met h hh, List.forall_mem_cons.mpr ⟨q646_met h hh, fun _ h => absurd h List.not_mem_nil⟩⟩⟩, List.forall_mem_cons.mpr ⟨fun M hM => Option.some.inj (show some q734_M = some M from hM) ▸ wlkS (lkX12_334 h) q734_M rfl rfl, fun _ h => absurd h List.not_mem_nil⟩, List.forall_mem_cons.mpr ⟨fun M hM => Option.some.inj (show some q646_M = some M from hM) ▸ wlkV (lkX12_350 h) q646_M rfl rfl, List.forall_mem_cons.mpr ⟨fun M hM => Option.some.inj (show some q796_M = some M from hM) ▸ wlkV (lkX12_450 h) q796_M rfl rfl, fun _ h => absurd h List.not_mem_nil⟩⟩, fun _ h => absurd h List.not_mem_nil, fun _ h => absurd h List.not_mem_nil⟩ dkX12_crowded (by decide +kernel) (by rw [h.2.2.1]; exact q827_ok)
/-- NearSpellModel.crowded -/
def q828_M : rfM := ((⟨"NearSpellModel", "crowded", "(I)I"⟩, prog_14_method_96_code, 4, (some .int)), (25,2111), ([.inr (.inl [114]),.inl (((-2147483648),2147483647,1),none)],[((77,1),(1,31,1),none),((114,28),(1,1,0),none)]), [(94,0),(95,0),(96,0),(97,0),(102,0),(103,0),(114,45),(114,46)], [(some (.inl (((-2147483648),2147483647,1),none)),[],[])])
def q828_P : rfP := (flX12,csX12,lcX12,spX12,[q734_M,q796_M,q646_M],[(334,0)],[(350,2,12),(450,1,12)],([],[]))
def q828_U : rfU := []
set_option maxHeartbeats 8000000 in
def q828_N : List rfB := [(0,([(0,.inr (.inl [114])),(1,.inl (((-2147483648),2147483647,1),none))],[],[((77,1),(1,31,1),some ((77,1),0,0)),((114,28),(1,1,0),some ((114,28),0,0))]),(406,[0]),0),
  (21,([(0,.inr (.inl [114])),(1,.inl ((0,6,1),none)),(2,.inl (((-2147483648),2147483647,1),none)),(3,.inl ((0,14,1),none))],[],[((77,1),(1,31,1),some ((77,1),0,0)),((114,28),(1,1,0),some ((114,28),0,0))]),(389,[(-26)]),0),
  (52,([(0,.inr (.inl [114])),(1,.inl ((0,6,1),none)),(2,.inl (((-2147483648),2147483647,1),none)),(3,.inl ((0,13,1),none))],[.inl (((-2147483648),2147483647,1),some (.inl 2,some 0))],[((77,1),(1,31,1),some ((77,1),0,0)),((114,28),(1,1,0),some ((114,28),0,0))]),(369,[(-26)]),0),
  (54,([(0,.inr (.inl [114])),(1,.inl ((0,6,1),none)),(2,.inl (((-2147483648),2147483647,1),none)),(3,.inl ((0,13,1),none))],[.inl (((-2147483648),2147483647,1),none)],[((77,1),(1,31,1),some ((77,1),0,0)),((114,28),(1,1,0),some ((114,28),0,0))]),(367,[(-26)]),0)]
set_option maxRecDepth 100000 in
theorem q828_ok : rf_chkB q828_P q828_U wLay q828_M ddX12_crowded [(4,[0]),(14,[1]),(30,[2])] [.inl 3] [0,21,52,54] 600 q828_N = true := by decide +kernel
set_option maxHeartbeats 4000000 in
theorem q828_met {G : rfG} (h : okG G) (hh : wHandOK G) : rf_met G q828_M := rf_methodB h.1 (P := q828_P) (U := q828_U) (N := q828_N) ⟨wflT h flokX12, wcsT h csokX12, wlcT h lcokX12, spokX12 h, List.forall_mem_cons.mpr ⟨q734_met h hh, List.forall_mem_cons.mpr ⟨q796_met h hh, List.forall_mem_cons.mpr ⟨q646_met h hh, fun _ h => absurd h List.not_mem_nil⟩⟩⟩, List.forall_mem_cons.mpr ⟨fun M hM => Option.some.inj (show some q734_M = some M from hM) ▸ wlkS (lkX12_334 h) q734_M rfl rfl, fun _ h => absurd h List.not_mem_nil⟩, List.forall_mem_cons.mpr ⟨fun M hM => Option.some.inj (show some q646_M = some M from hM) ▸ wlkV (lkX12_350 h) q646_M rfl rfl, List.forall_mem_cons.mpr ⟨fun M hM => Option.some.inj (show some q796_M = some M from hM) ▸ wlkV (lkX12_450 h) q796_M rfl rfl, fun _ h => absurd h List.not_mem_nil⟩⟩, fun _ h => absurd h List.not_mem_nil, fun _ h => absurd h List.not_mem_nil⟩ dkX12_crowded (by decide +kernel) (by rw [h.2.2.1]; exact q828_ok)
/-- NearSpellModel.isIn -/
def q829_M : rfM := ((⟨"NearSpellModel", "isIn", "(III)Z"⟩, prog_14_method_35_code, 3, (some .boolean)), (0,0), ([.inl (((-2147483648),2147483647,1),none),.inl ((0,0,0),none),.inl ((0,30,1),none)],[]), [], [(some (.inl ((1,1,0),none)),[(0,0,30)],[]),(some (.inl ((0,0,0),none)),[],[])])
def q829_P : rfP := (flX12,csX12,lcX12,spX12,[],[],[],([],[]))
def q829_U : rfU := []
set_option maxHeartbeats 8000000 in
def q829_N : List rfB := [(0,([(0,.inl (((-2147483648),2147483647,1),none)),(1,.inl ((0,0,0),none)),(2,.inl ((0,30,1),none))],[],[]),(10,[]),0),
  (14,([(0,.inl (((-2147483648),2147483647,1),none)),(1,.inl ((0,0,0),none)),(2,.inl ((0,30,1),none))],[],[]),(1,[]),0)]
set_option maxRecDepth 100000 in
theorem q829_ok : rf_chkB q829_P q829_U wLay q829_M ddX12_isIn [] [] [0,14] 600 q829_N = true := by decide +kernel
set_option maxHeartbeats 4000000 in
theorem q829_met {G : rfG} (h : okG G) (hh : wHandOK G) : rf_met G q829_M := rf_methodB h.1 (P := q829_P) (U := q829_U) (N := q829_N) ⟨wflT h flokX12, wcsT h csokX12, wlcT h lcokX12, spokX12 h, fun _ h => absurd h List.not_mem_nil, fun _ h => absurd h List.not_mem_nil, fun _ h => absurd h List.not_mem_nil, fun _ h => absurd h List.not_mem_nil, fun _ h => absurd h List.not_mem_nil⟩ dkX12_isIn (by decide +kernel) (by rw [h.2.2.1]; exact q829_ok)
