/-- NearSpell.far -/
def q264_M : rfM := ((⟨"NearSpell", "far", "(II)I"⟩, prog_1_method_28_code, 4, (some .int)), (1,20), ([.inr (.inl [70]),.inl ((7,2147483647,1),none),.inl (((-2147483648),2147483647,1),none)],[((12,34),(0,0,0),none),((12,35),(0,0,0),none),((12,36),(0,0,0),none),((20,3),(0,0,0),none),((20,4),(0,0,0),none),((61,4),(0,0,0),none)]), [], [(some (.inl (((-1),(-1),0),none)),[],[])])
def q264_P : rfP := (flX11,csX11,lcX11,spX11,[q208_M],[(232,0)],[],([],[]))
def q264_U : rfU := []
set_option maxHeartbeats 8000000 in
def q264_N : List rfB := [(0,([(0,.inr (.inl [70])),(1,.inl ((7,2147483647,1),none)),(2,.inl (((-2147483648),2147483647,1),none))],[],[((12,34),(0,0,0),some ((12,34),0,0)),((12,35),(0,0,0),some ((12,35),0,0)),((12,36),(0,0,0),some ((12,36),0,0)),((20,3),(0,0,0),some ((20,3),0,0)),((20,4),(0,0,0),some ((20,4),0,0)),((61,4),(0,0,0),some ((61,4),0,0))]),(4,[]),0)]
set_option maxRecDepth 100000 in
theorem q264_ok : rf_chkB q264_P q264_U wLay q264_M ddX11_far [(1,[0])] [] [0] 600 q264_N = true := by decide +kernel
set_option maxHeartbeats 4000000 in
theorem q264_met {G : rfG} (h : okG G) : rf_met G q264_M := rf_methodB h.1 (P := q264_P) (U := q264_U) (N := q264_N) ⟨wflT h flokX11, wcsT h csokX11, wlcT h lcokX11, spokX11 h, List.forall_mem_cons.mpr ⟨q208_met h, fun _ h => absurd h List.not_mem_nil⟩, List.forall_mem_cons.mpr ⟨fun M hM => Option.some.inj (show some q208_M = some M from hM) ▸ wlkS (lkX11_232 h) q208_M rfl rfl, fun _ h => absurd h List.not_mem_nil⟩, fun _ h => absurd h List.not_mem_nil, fun _ h => absurd h List.not_mem_nil, fun _ h => absurd h List.not_mem_nil⟩ dkX11_far (by decide +kernel) (by rw [h.2.2.1]; exact q264_ok)
/-- NearSpellModel.far -/
def q265_M : rfM := ((⟨"NearSpellModel", "far", "(II)I"⟩, prog_14_method_92_code, 7, (some .int)), (1,22), ([.inr (.inl [114]),.inl ((7,2147483647,1),none),.inl (((-2147483648),2147483647,1),none)],[((90,28),(0,0,0),none),((90,29),(0,0,0),none),((90,36),(0,0,0),none),((114,44),(0,0,0),none),((114,45),(0,0,0),none)]), [], [(some (.inl (((-1),(-1),0),none)),[],[])])
def q265_P : rfP := (flX12,csX12,lcX12,spX12,[q210_M],[(334,0)],[],([],[]))
def q265_U : rfU := []
set_option maxHeartbeats 8000000 in
def q265_N : List rfB := [(0,([(0,.inr (.inl [114])),(1,.inl ((7,2147483647,1),none)),(2,.inl (((-2147483648),2147483647,1),none))],[],[((90,28),(0,0,0),some ((90,28),0,0)),((90,29),(0,0,0),some ((90,29),0,0)),((90,36),(0,0,0),some ((90,36),0,0)),((114,44),(0,0,0),some ((114,44),0,0)),((114,45),(0,0,0),some ((114,45),0,0))]),(6,[]),0)]
set_option maxRecDepth 100000 in
theorem q265_ok : rf_chkB q265_P q265_U wLay q265_M ddX12_far [(4,[0])] [] [0] 600 q265_N = true := by decide +kernel
set_option maxHeartbeats 4000000 in
theorem q265_met {G : rfG} (h : okG G) : rf_met G q265_M := rf_methodB h.1 (P := q265_P) (U := q265_U) (N := q265_N) ⟨wflT h flokX12, wcsT h csokX12, wlcT h lcokX12, spokX12 h, List.forall_mem_cons.mpr ⟨q210_met h, fun _ h => absurd h List.not_mem_nil⟩, List.forall_mem_cons.mpr ⟨fun M hM => Option.some.inj (show some q210_M = some M from hM) ▸ wlkS (lkX12_334 h) q210_M rfl rfl, fun _ h => absurd h List.not_mem_nil⟩, fun _ h => absurd h List.not_mem_nil, fun _ h => absurd h List.not_mem_nil, fun _ h => absurd h List.not_mem_nil⟩ dkX12_far (by decide +kernel) (by rw [h.2.2.1]; exact q265_ok)
/-- NearSpell.far -/
def q266_M : rfM := ((⟨"NearSpell", "far", "(II)I"⟩, prog_1_method_28_code, 4, (some .int)), (1,20), ([.inr (.inl [70]),.inl ((0,6,1),none),.inl (((-2147483648),(-1),1),none)],[((12,34),(0,0,0),none),((12,35),(0,0,0),none),((12,36),(0,0,0),none),((20,3),(0,0,0),none),((20,4),(0,0,0),none),((61,4),(0,0,0),none)]), [], [(some (.inl (((-1),(-1),0),none)),[],[])])
def q266_P : rfP := (flX11,csX11,lcX11,spX11,[q196_M],[(232,0)],[],([],[]))
def q266_U : rfU := []
set_option maxHeartbeats 8000000 in
def q266_N : List rfB := [(0,([(0,.inr (.inl [70])),(1,.inl ((0,6,1),none)),(2,.inl (((-2147483648),(-1),1),none))],[],[((12,34),(0,0,0),some ((12,34),0,0)),((12,35),(0,0,0),some ((12,35),0,0)),((12,36),(0,0,0),some ((12,36),0,0)),((20,3),(0,0,0),some ((20,3),0,0)),((20,4),(0,0,0),some ((20,4),0,0)),((61,4),(0,0,0),some ((61,4),0,0))]),(6,[]),0)]
set_option maxRecDepth 100000 in
theorem q266_ok : rf_chkB q266_P q266_U wLay q266_M ddX11_far [(1,[0])] [] [0] 600 q266_N = true := by decide +kernel
set_option maxHeartbeats 4000000 in
theorem q266_met {G : rfG} (h : okG G) : rf_met G q266_M := rf_methodB h.1 (P := q266_P) (U := q266_U) (N := q266_N) ⟨wflT h flokX11, wcsT h csokX11, wlcT h lcokX11, spokX11 h, List.forall_mem_cons.mpr ⟨q196_met h, fun _ h => absurd h List.not_mem_nil⟩, List.forall_mem_cons.mpr ⟨fun M hM => Option.some.inj (show some q196_M = some M from hM) ▸ wlkS (lkX11_232 h) q196_M rfl rfl, fun _ h => absurd h List.not_mem_nil⟩, fun _ h => absurd h List.not_mem_nil, fun _ h => absurd h List.not_mem_nil, fun _ h => absurd h List.not_mem_nil⟩ dkX11_far (by decide +kernel) (by rw [h.2.2.1]; exact q266_ok)
/-- NearSpellModel.isIn -/
def q267_M : rfM := ((⟨"NearSpellModel", "isIn", "(III)Z"⟩, prog_14_method_35_code, 3, (some .boolean)), (0,0), ([.inl (((-2147483648),0,1),none),.inl ((0,0,0),none),.inl ((1,1,0),none)],[]), [], [(some (.inl ((1,1,0),none)),[(0,0,0)],[]),(some (.inl ((0,0,0),none)),[(0,(-2147483648),(-1))],[])])
def q267_P : rfP := (flX12,csX12,lcX12,spX12,[],[],[],([],[]))
def q267_U : rfU := []
set_option maxHeartbeats 8000000 in
def q267_N : List rfB := [(0,([(0,.inl (((-2147483648),0,1),none)),(1,.inl ((0,0,0),none)),(2,.inl ((1,1,0),none))],[],[]),(10,[]),0)]
set_option maxRecDepth 100000 in
theorem q267_ok : rf_chkB q267_P q267_U wLay q267_M ddX12_isIn [] [] [0] 600 q267_N = true := by decide +kernel
set_option maxHeartbeats 4000000 in
theorem q267_met {G : rfG} (h : okG G) : rf_met G q267_M := rf_methodB h.1 (P := q267_P) (U := q267_U) (N := q267_N) ⟨wflT h flokX12, wcsT h csokX12, wlcT h lcokX12, spokX12 h, fun _ h => absurd h List.not_mem_nil, fun _ h => absurd h List.not_mem_nil, fun _ h => absurd h List.not_mem_nil, fun _ h => absurd h List.not_mem_nil, fun _ h => absurd h List.not_mem_nil⟩ dkX12_isIn (by decide +kernel) (by rw [h.2.2.1]; exact q267_ok)
/-- NearSpellModel.far -/
def q268_M : rfM := ((⟨"NearSpellModel", "far", "(II)I"⟩, prog_14_method_92_code, 7, (some .int)), (1,22), ([.inr (.inl [114]),.inl ((0,6,1),none),.inl (((-2147483648),(-1),1),none)],[((90,28),(0,0,0),none),((90,29),(0,0,0),none),((90,36),(0,0,0),none),((114,44),(0,0,0),none),((114,45),(0,0,0),none)]), [], [(some (.inl (((-1),(-1),0),none)),[],[])])
def q268_P : rfP := (flX12,csX12,lcX12,spX12,[q199_M,q267_M],[(334,0),(334,1)],[],([],[]))
def q268_U : rfU := []
set_option maxHeartbeats 8000000 in
def q268_N : List rfB := [(0,([(0,.inr (.inl [114])),(1,.inl ((0,6,1),none)),(2,.inl (((-2147483648),(-1),1),none))],[],[((90,28),(0,0,0),some ((90,28),0,0)),((90,29),(0,0,0),some ((90,29),0,0)),((90,36),(0,0,0),some ((90,36),0,0)),((114,44),(0,0,0),some ((114,44),0,0)),((114,45),(0,0,0),some ((114,45),0,0))]),(11,[]),0)]
set_option maxRecDepth 100000 in
theorem q268_ok : rf_chkB q268_P q268_U wLay q268_M ddX12_far [(4,[0]),(13,[1])] [] [0] 600 q268_N = true := by decide +kernel
set_option maxHeartbeats 4000000 in
theorem q268_met {G : rfG} (h : okG G) : rf_met G q268_M := rf_methodB h.1 (P := q268_P) (U := q268_U) (N := q268_N) ⟨wflT h flokX12, wcsT h csokX12, wlcT h lcokX12, spokX12 h, List.forall_mem_cons.mpr ⟨q199_met h, List.forall_mem_cons.mpr ⟨q267_met h, fun _ h => absurd h List.not_mem_nil⟩⟩, List.forall_mem_cons.mpr ⟨fun M hM => Option.some.inj (show some q199_M = some M from hM) ▸ wlkS (lkX12_334 h) q199_M rfl rfl, List.forall_mem_cons.mpr ⟨fun M hM => Option.some.inj (show some q267_M = some M from hM) ▸ wlkS (lkX12_334 h) q267_M rfl rfl, fun _ h => absurd h List.not_mem_nil⟩⟩, fun _ h => absurd h List.not_mem_nil, fun _ h => absurd h List.not_mem_nil, fun _ h => absurd h List.not_mem_nil⟩ dkX12_far (by decide +kernel) (by rw [h.2.2.1]; exact q268_ok)
/-- NearSpell.Web.mostOf -/
def q269_M : rfM := ((⟨"NearSpell$Web", "mostOf", "(II)I"⟩, prog_11_method_14_code, 5, (some .int)), (0,0), ([.inr (.inl [61]),.inl ((0,0,0),none),.inl (((-1),(-1),0),none)],[]), [], [(some (.inl ((0,0,0),none)),[],[])])
def ddX9_mostOf : List (Nat × Instr × Nat) := [(0,.iload_n 2,1),(1,.ifCond .lt 9,3),(4,.iload_n 2,1),(5,.bipush 14,2),(7,.if_icmp .lt 5,3),(10,.iconst 0,1),(11,.ireturn,1),(12,.aload_n 0,1),(13,.iload_n 1,1),(14,.iload_n 2,1),(15,.invokevirtual 50,3),(18,.ifCond .ne 12,3),(21,.aload_n 0,1),(22,.iload_n 1,1),(23,.iload_n 2,1),(24,.iconst 1,1),(25,.isub,1),(26,.invokevirtual 72,3),(29,.ireturn,1),(30,.iload_n 1,1),(31,.iconst 1,1),(32,.iload_n 2,1),(33,.ishl,1),(34,.iconst (-1),1),(35,.ixor,1),(36,.iand,1),(37,.istore_n 3,1),(38,.iconst 1,1),(39,.aload_n 0,1),(40,.iload_n 3,1),(41,.aload_n 0,1),(42,.getfield 23,3),(45,.iload_n 2,1),(46,.iaload,1),(47,.iconst (-1),1),(48,.ixor,1),(49,.iand,1),(50,.iload_n 2,1),(51,.iconst 1,1),(52,.isub,1),(53,.invokevirtual 72,3),(56,.iadd,1),(57,.istore 4,2),(59,.iload_n 3,1),(60,.aload_n 0,1),(61,.getfield 23,3),(64,.iload_n 2,1),(65,.iaload,1),(66,.iand,1),(67,.invokestatic 76,3),(70,.iconst 2,1),(71,.if_icmp .ge 6,3),(74,.iload 4,2),(76,.ireturn,1),(77,.iload 4,2),(79,.aload_n 0,1),(80,.iload_n 3,1),(81,.iload_n 2,1),(82,.iconst 1,1),(83,.isub,1),(84,.invokevirtual 72,3),(87,.invokestatic 81,3),(90,.ireturn,1)]
set_option maxRecDepth 100000 in
theorem dkX9_mostOf : rf_decs prog_11_method_14_code ddX9_mostOf := rf_decs_of (by decide +kernel)
def q269_P : rfP := (flX9,csX9,lcX9,spX9,[],[],[],([],[]))
def q269_U : rfU := []
set_option maxHeartbeats 8000000 in
def q269_N : List rfB := [(0,([(0,.inr (.inl [61])),(1,.inl ((0,0,0),none)),(2,.inl (((-1),(-1),0),none))],[],[]),(3,[]),0)]
set_option maxRecDepth 100000 in
theorem q269_ok : rf_chkB q269_P q269_U wLay q269_M ddX9_mostOf [] [] [0] 600 q269_N = true := by decide +kernel
set_option maxHeartbeats 4000000 in
theorem q269_met {G : rfG} (h : okG G) : rf_met G q269_M := rf_methodB h.1 (P := q269_P) (U := q269_U) (N := q269_N) ⟨wflT h flokX9, wcsT h csokX9, wlcT h lcokX9, spokX9 h, fun _ h => absurd h List.not_mem_nil, fun _ h => absurd h List.not_mem_nil, fun _ h => absurd h List.not_mem_nil, fun _ h => absurd h List.not_mem_nil, fun _ h => absurd h List.not_mem_nil⟩ dkX9_mostOf (by decide +kernel) (by rw [h.2.2.1]; exact q269_ok)
/-- NearSpell.Web.mostOf -/
def q270_M : rfM := ((⟨"NearSpell$Web", "mostOf", "(II)I"⟩, prog_11_method_14_code, 5, (some .int)), (1,24), ([.inr (.inl [61]),.inl ((0,0,0),none),.inl ((0,0,0),none)],[]), [], [(some (.inl ((0,0,0),none)),[],[])])
def q270_P : rfP := (flX9,csX9,lcX9,spX9,[q253_M,q269_M],[],[(50,0,9),(72,1,9)],([],[]))
def q270_U : rfU := []
set_option maxHeartbeats 8000000 in
def q270_N : List rfB := [(0,([(0,.inr (.inl [61])),(1,.inl ((0,0,0),none)),(2,.inl ((0,0,0),none))],[],[]),(16,[]),0)]
set_option maxRecDepth 100000 in
theorem q270_ok : rf_chkB q270_P q270_U wLay q270_M ddX9_mostOf [(15,[0]),(26,[1])] [] [0] 600 q270_N = true := by decide +kernel
set_option maxHeartbeats 4000000 in
theorem q270_met {G : rfG} (h : okG G) : rf_met G q270_M := rf_methodB h.1 (P := q270_P) (U := q270_U) (N := q270_N) ⟨wflT h flokX9, wcsT h csokX9, wlcT h lcokX9, spokX9 h, List.forall_mem_cons.mpr ⟨q253_met h, List.forall_mem_cons.mpr ⟨q269_met h, fun _ h => absurd h List.not_mem_nil⟩⟩, fun _ h => absurd h List.not_mem_nil, List.forall_mem_cons.mpr ⟨fun M hM => Option.some.inj (show some q253_M = some M from hM) ▸ wlkV (lkX9_50 h) q253_M rfl rfl, List.forall_mem_cons.mpr ⟨fun M hM => Option.some.inj (show some q269_M = some M from hM) ▸ wlkV (lkX9_72 h) q269_M rfl rfl, fun _ h => absurd h List.not_mem_nil⟩⟩, fun _ h => absurd h List.not_mem_nil, fun _ h => absurd h List.not_mem_nil⟩ dkX9_mostOf (by decide +kernel) (by rw [h.2.2.1]; exact q270_ok)
/-- NearSpell.Web.mostOf -/
def q271_M : rfM := ((⟨"NearSpell$Web", "mostOf", "(II)I"⟩, prog_11_method_14_code, 5, (some .int)), (2,48), ([.inr (.inl [61]),.inl ((0,0,0),none),.inl ((1,1,0),none)],[]), [], [(some (.inl ((0,0,0),none)),[],[])])
def q271_P : rfP := (flX9,csX9,lcX9,spX9,[q253_M,q270_M],[],[(50,0,9),(72,1,9)],([],[]))
def q271_U : rfU := []
set_option maxHeartbeats 8000000 in
def q271_N : List rfB := [(0,([(0,.inr (.inl [61])),(1,.inl ((0,0,0),none)),(2,.inl ((1,1,0),none))],[],[]),(16,[]),0)]
set_option maxRecDepth 100000 in
theorem q271_ok : rf_chkB q271_P q271_U wLay q271_M ddX9_mostOf [(15,[0]),(26,[1])] [] [0] 600 q271_N = true := by decide +kernel
set_option maxHeartbeats 4000000 in
theorem q271_met {G : rfG} (h : okG G) : rf_met G q271_M := rf_methodB h.1 (P := q271_P) (U := q271_U) (N := q271_N) ⟨wflT h flokX9, wcsT h csokX9, wlcT h lcokX9, spokX9 h, List.forall_mem_cons.mpr ⟨q253_met h, List.forall_mem_cons.mpr ⟨q270_met h, fun _ h => absurd h List.not_mem_nil⟩⟩, fun _ h => absurd h List.not_mem_nil, List.forall_mem_cons.mpr ⟨fun M hM => Option.some.inj (show some q253_M = some M from hM) ▸ wlkV (lkX9_50 h) q253_M rfl rfl, List.forall_mem_cons.mpr ⟨fun M hM => Option.some.inj (show some q270_M = some M from hM) ▸ wlkV (lkX9_72 h) q270_M rfl rfl, fun _ h => absurd h List.not_mem_nil⟩⟩, fun _ h => absurd h List.not_mem_nil, fun _ h => absurd h List.not_mem_nil⟩ dkX9_mostOf (by decide +kernel) (by rw [h.2.2.1]; exact q271_ok)
/-- NearSpell.Web.mostOf -/
def q272_M : rfM := ((⟨"NearSpell$Web", "mostOf", "(II)I"⟩, prog_11_method_14_code, 5, (some .int)), (3,72), ([.inr (.inl [61]),.inl ((0,0,0),none),.inl ((2,2,0),none)],[]), [], [(some (.inl ((0,0,0),none)),[],[])])
def q272_P : rfP := (flX9,csX9,lcX9,spX9,[q253_M,q271_M],[],[(50,0,9),(72,1,9)],([],[]))
def q272_U : rfU := []
set_option maxHeartbeats 8000000 in
def q272_N : List rfB := [(0,([(0,.inr (.inl [61])),(1,.inl ((0,0,0),none)),(2,.inl ((2,2,0),none))],[],[]),(16,[]),0)]
set_option maxRecDepth 100000 in
theorem q272_ok : rf_chkB q272_P q272_U wLay q272_M ddX9_mostOf [(15,[0]),(26,[1])] [] [0] 600 q272_N = true := by decide +kernel
set_option maxHeartbeats 4000000 in
theorem q272_met {G : rfG} (h : okG G) : rf_met G q272_M := rf_methodB h.1 (P := q272_P) (U := q272_U) (N := q272_N) ⟨wflT h flokX9, wcsT h csokX9, wlcT h lcokX9, spokX9 h, List.forall_mem_cons.mpr ⟨q253_met h, List.forall_mem_cons.mpr ⟨q271_met h, fun _ h => absurd h List.not_mem_nil⟩⟩, fun _ h => absurd h List.not_mem_nil, List.forall_mem_cons.mpr ⟨fun M hM => Option.some.inj (show some q253_M = some M from hM) ▸ wlkV (lkX9_50 h) q253_M rfl rfl, List.forall_mem_cons.mpr ⟨fun M hM => Option.some.inj (show some q271_M = some M from hM) ▸ wlkV (lkX9_72 h) q271_M rfl rfl, fun _ h => absurd h List.not_mem_nil⟩⟩, fun _ h => absurd h List.not_mem_nil, fun _ h => absurd h List.not_mem_nil⟩ dkX9_mostOf (by decide +kernel) (by rw [h.2.2.1]; exact q272_ok)
/-- NearSpell.Web.mostOf -/
def q273_M : rfM := ((⟨"NearSpell$Web", "mostOf", "(II)I"⟩, prog_11_method_14_code, 5, (some .int)), (4,96), ([.inr (.inl [61]),.inl ((0,0,0),none),.inl ((3,3,0),none)],[]), [], [(some (.inl ((0,0,0),none)),[],[])])
def q273_P : rfP := (flX9,csX9,lcX9,spX9,[q253_M,q272_M],[],[(50,0,9),(72,1,9)],([],[]))
def q273_U : rfU := []
set_option maxHeartbeats 8000000 in
def q273_N : List rfB := [(0,([(0,.inr (.inl [61])),(1,.inl ((0,0,0),none)),(2,.inl ((3,3,0),none))],[],[]),(16,[]),0)]
set_option maxRecDepth 100000 in
theorem q273_ok : rf_chkB q273_P q273_U wLay q273_M ddX9_mostOf [(15,[0]),(26,[1])] [] [0] 600 q273_N = true := by decide +kernel
set_option maxHeartbeats 4000000 in
theorem q273_met {G : rfG} (h : okG G) : rf_met G q273_M := rf_methodB h.1 (P := q273_P) (U := q273_U) (N := q273_N) ⟨wflT h flokX9, wcsT h csokX9, wlcT h lcokX9, spokX9 h, List.forall_mem_cons.mpr ⟨q253_met h, List.forall_mem_cons.mpr ⟨q272_met h, fun _ h => absurd h List.not_mem_nil⟩⟩, fun _ h => absurd h List.not_mem_nil, List.forall_mem_cons.mpr ⟨fun M hM => Option.some.inj (show some q253_M = some M from hM) ▸ wlkV (lkX9_50 h) q253_M rfl rfl, List.forall_mem_cons.mpr ⟨fun M hM => Option.some.inj (show some q272_M = some M from hM) ▸ wlkV (lkX9_72 h) q272_M rfl rfl, fun _ h => absurd h List.not_mem_nil⟩⟩, fun _ h => absurd h List.not_mem_nil, fun _ h => absurd h List.not_mem_nil⟩ dkX9_mostOf (by decide +kernel) (by rw [h.2.2.1]; exact q273_ok)
/-- NearSpell.Web.mostOf -/
def q274_M : rfM := ((⟨"NearSpell$Web", "mostOf", "(II)I"⟩, prog_11_method_14_code, 5, (some .int)), (5,120), ([.inr (.inl [61]),.inl ((0,0,0),none),.inl ((4,4,0),none)],[]), [], [(some (.inl ((0,0,0),none)),[],[])])
def q274_P : rfP := (flX9,csX9,lcX9,spX9,[q253_M,q273_M],[],[(50,0,9),(72,1,9)],([],[]))
def q274_U : rfU := []
set_option maxHeartbeats 8000000 in
def q274_N : List rfB := [(0,([(0,.inr (.inl [61])),(1,.inl ((0,0,0),none)),(2,.inl ((4,4,0),none))],[],[]),(16,[]),0)]
set_option maxRecDepth 100000 in
theorem q274_ok : rf_chkB q274_P q274_U wLay q274_M ddX9_mostOf [(15,[0]),(26,[1])] [] [0] 600 q274_N = true := by decide +kernel
set_option maxHeartbeats 4000000 in
theorem q274_met {G : rfG} (h : okG G) : rf_met G q274_M := rf_methodB h.1 (P := q274_P) (U := q274_U) (N := q274_N) ⟨wflT h flokX9, wcsT h csokX9, wlcT h lcokX9, spokX9 h, List.forall_mem_cons.mpr ⟨q253_met h, List.forall_mem_cons.mpr ⟨q273_met h, fun _ h => absurd h List.not_mem_nil⟩⟩, fun _ h => absurd h List.not_mem_nil, List.forall_mem_cons.mpr ⟨fun M hM => Option.some.inj (show some q253_M = some M from hM) ▸ wlkV (lkX9_50 h) q253_M rfl rfl, List.forall_mem_cons.mpr ⟨fun M hM => Option.some.inj (show some q273_M = some M from hM) ▸ wlkV (lkX9_72 h) q273_M rfl rfl, fun _ h => absurd h List.not_mem_nil⟩⟩, fun _ h => absurd h List.not_mem_nil, fun _ h => absurd h List.not_mem_nil⟩ dkX9_mostOf (by decide +kernel) (by rw [h.2.2.1]; exact q274_ok)
/-- NearSpell.Web.mostOf -/
def q275_M : rfM := ((⟨"NearSpell$Web", "mostOf", "(II)I"⟩, prog_11_method_14_code, 5, (some .int)), (6,144), ([.inr (.inl [61]),.inl ((0,0,0),none),.inl ((5,5,0),none)],[]), [], [(some (.inl ((0,0,0),none)),[],[])])
def q275_P : rfP := (flX9,csX9,lcX9,spX9,[q253_M,q274_M],[],[(50,0,9),(72,1,9)],([],[]))
def q275_U : rfU := []
set_option maxHeartbeats 8000000 in
def q275_N : List rfB := [(0,([(0,.inr (.inl [61])),(1,.inl ((0,0,0),none)),(2,.inl ((5,5,0),none))],[],[]),(16,[]),0)]
set_option maxRecDepth 100000 in
theorem q275_ok : rf_chkB q275_P q275_U wLay q275_M ddX9_mostOf [(15,[0]),(26,[1])] [] [0] 600 q275_N = true := by decide +kernel
set_option maxHeartbeats 4000000 in
theorem q275_met {G : rfG} (h : okG G) : rf_met G q275_M := rf_methodB h.1 (P := q275_P) (U := q275_U) (N := q275_N) ⟨wflT h flokX9, wcsT h csokX9, wlcT h lcokX9, spokX9 h, List.forall_mem_cons.mpr ⟨q253_met h, List.forall_mem_cons.mpr ⟨q274_met h, fun _ h => absurd h List.not_mem_nil⟩⟩, fun _ h => absurd h List.not_mem_nil, List.forall_mem_cons.mpr ⟨fun M hM => Option.some.inj (show some q253_M = some M from hM) ▸ wlkV (lkX9_50 h) q253_M rfl rfl, List.forall_mem_cons.mpr ⟨fun M hM => Option.some.inj (show some q274_M = some M from hM) ▸ wlkV (lkX9_72 h) q274_M rfl rfl, fun _ h => absurd h List.not_mem_nil⟩⟩, fun _ h => absurd h List.not_mem_nil, fun _ h => absurd h List.not_mem_nil⟩ dkX9_mostOf (by decide +kernel) (by rw [h.2.2.1]; exact q275_ok)
/-- NearSpell.Web.mostOf -/
def q276_M : rfM := ((⟨"NearSpell$Web", "mostOf", "(II)I"⟩, prog_11_method_14_code, 5, (some .int)), (7,168), ([.inr (.inl [61]),.inl ((0,0,0),none),.inl ((6,6,0),none)],[]), [], [(some (.inl ((0,0,0),none)),[],[])])
def q276_P : rfP := (flX9,csX9,lcX9,spX9,[q253_M,q275_M],[],[(50,0,9),(72,1,9)],([],[]))
def q276_U : rfU := []
set_option maxHeartbeats 8000000 in
def q276_N : List rfB := [(0,([(0,.inr (.inl [61])),(1,.inl ((0,0,0),none)),(2,.inl ((6,6,0),none))],[],[]),(16,[]),0)]
set_option maxRecDepth 100000 in
theorem q276_ok : rf_chkB q276_P q276_U wLay q276_M ddX9_mostOf [(15,[0]),(26,[1])] [] [0] 600 q276_N = true := by decide +kernel
set_option maxHeartbeats 4000000 in
theorem q276_met {G : rfG} (h : okG G) : rf_met G q276_M := rf_methodB h.1 (P := q276_P) (U := q276_U) (N := q276_N) ⟨wflT h flokX9, wcsT h csokX9, wlcT h lcokX9, spokX9 h, List.forall_mem_cons.mpr ⟨q253_met h, List.forall_mem_cons.mpr ⟨q275_met h, fun _ h => absurd h List.not_mem_nil⟩⟩, fun _ h => absurd h List.not_mem_nil, List.forall_mem_cons.mpr ⟨fun M hM => Option.some.inj (show some q253_M = some M from hM) ▸ wlkV (lkX9_50 h) q253_M rfl rfl, List.forall_mem_cons.mpr ⟨fun M hM => Option.some.inj (show some q275_M = some M from hM) ▸ wlkV (lkX9_72 h) q275_M rfl rfl, fun _ h => absurd h List.not_mem_nil⟩⟩, fun _ h => absurd h List.not_mem_nil, fun _ h => absurd h List.not_mem_nil⟩ dkX9_mostOf (by decide +kernel) (by rw [h.2.2.1]; exact q276_ok)
/-- NearSpell.Web.mostOf -/
def q277_M : rfM := ((⟨"NearSpell$Web", "mostOf", "(II)I"⟩, prog_11_method_14_code, 5, (some .int)), (8,192), ([.inr (.inl [61]),.inl ((0,0,0),none),.inl ((7,7,0),none)],[]), [], [(some (.inl ((0,0,0),none)),[],[])])
def q277_P : rfP := (flX9,csX9,lcX9,spX9,[q253_M,q276_M],[],[(50,0,9),(72,1,9)],([],[]))
def q277_U : rfU := []
set_option maxHeartbeats 8000000 in
def q277_N : List rfB := [(0,([(0,.inr (.inl [61])),(1,.inl ((0,0,0),none)),(2,.inl ((7,7,0),none))],[],[]),(16,[]),0)]
set_option maxRecDepth 100000 in
theorem q277_ok : rf_chkB q277_P q277_U wLay q277_M ddX9_mostOf [(15,[0]),(26,[1])] [] [0] 600 q277_N = true := by decide +kernel
set_option maxHeartbeats 4000000 in
theorem q277_met {G : rfG} (h : okG G) : rf_met G q277_M := rf_methodB h.1 (P := q277_P) (U := q277_U) (N := q277_N) ⟨wflT h flokX9, wcsT h csokX9, wlcT h lcokX9, spokX9 h, List.forall_mem_cons.mpr ⟨q253_met h, List.forall_mem_cons.mpr ⟨q276_met h, fun _ h => absurd h List.not_mem_nil⟩⟩, fun _ h => absurd h List.not_mem_nil, List.forall_mem_cons.mpr ⟨fun M hM => Option.some.inj (show some q253_M = some M from hM) ▸ wlkV (lkX9_50 h) q253_M rfl rfl, List.forall_mem_cons.mpr ⟨fun M hM => Option.some.inj (show some q276_M = some M from hM) ▸ wlkV (lkX9_72 h) q276_M rfl rfl, fun _ h => absurd h List.not_mem_nil⟩⟩, fun _ h => absurd h List.not_mem_nil, fun _ h => absurd h List.not_mem_nil⟩ dkX9_mostOf (by decide +kernel) (by rw [h.2.2.1]; exact q277_ok)
/-- NearSpell.Web.mostOf -/
def q278_M : rfM := ((⟨"NearSpell$Web", "mostOf", "(II)I"⟩, prog_11_method_14_code, 5, (some .int)), (9,216), ([.inr (.inl [61]),.inl ((0,0,0),none),.inl ((8,8,0),none)],[]), [], [(some (.inl ((0,0,0),none)),[],[])])
def q278_P : rfP := (flX9,csX9,lcX9,spX9,[q253_M,q277_M],[],[(50,0,9),(72,1,9)],([],[]))
def q278_U : rfU := []
set_option maxHeartbeats 8000000 in
def q278_N : List rfB := [(0,([(0,.inr (.inl [61])),(1,.inl ((0,0,0),none)),(2,.inl ((8,8,0),none))],[],[]),(16,[]),0)]
set_option maxRecDepth 100000 in
theorem q278_ok : rf_chkB q278_P q278_U wLay q278_M ddX9_mostOf [(15,[0]),(26,[1])] [] [0] 600 q278_N = true := by decide +kernel
set_option maxHeartbeats 4000000 in
theorem q278_met {G : rfG} (h : okG G) : rf_met G q278_M := rf_methodB h.1 (P := q278_P) (U := q278_U) (N := q278_N) ⟨wflT h flokX9, wcsT h csokX9, wlcT h lcokX9, spokX9 h, List.forall_mem_cons.mpr ⟨q253_met h, List.forall_mem_cons.mpr ⟨q277_met h, fun _ h => absurd h List.not_mem_nil⟩⟩, fun _ h => absurd h List.not_mem_nil, List.forall_mem_cons.mpr ⟨fun M hM => Option.some.inj (show some q253_M = some M from hM) ▸ wlkV (lkX9_50 h) q253_M rfl rfl, List.forall_mem_cons.mpr ⟨fun M hM => Option.some.inj (show some q277_M = some M from hM) ▸ wlkV (lkX9_72 h) q277_M rfl rfl, fun _ h => absurd h List.not_mem_nil⟩⟩, fun _ h => absurd h List.not_mem_nil, fun _ h => absurd h List.not_mem_nil⟩ dkX9_mostOf (by decide +kernel) (by rw [h.2.2.1]; exact q278_ok)
/-- NearSpell.Web.mostOf -/
def q279_M : rfM := ((⟨"NearSpell$Web", "mostOf", "(II)I"⟩, prog_11_method_14_code, 5, (some .int)), (10,240), ([.inr (.inl [61]),.inl ((0,0,0),none),.inl ((9,9,0),none)],[]), [], [(some (.inl ((0,0,0),none)),[],[])])
def q279_P : rfP := (flX9,csX9,lcX9,spX9,[q253_M,q278_M],[],[(50,0,9),(72,1,9)],([],[]))
def q279_U : rfU := []
set_option maxHeartbeats 8000000 in
def q279_N : List rfB := [(0,([(0,.inr (.inl [61])),(1,.inl ((0,0,0),none)),(2,.inl ((9,9,0),none))],[],[]),(16,[]),0)]
set_option maxRecDepth 100000 in
theorem q279_ok : rf_chkB q279_P q279_U wLay q279_M ddX9_mostOf [(15,[0]),(26,[1])] [] [0] 600 q279_N = true := by decide +kernel
set_option maxHeartbeats 4000000 in
theorem q279_met {G : rfG} (h : okG G) : rf_met G q279_M := rf_methodB h.1 (P := q279_P) (U := q279_U) (N := q279_N) ⟨wflT h flokX9, wcsT h csokX9, wlcT h lcokX9, spokX9 h, List.forall_mem_cons.mpr ⟨q253_met h, List.forall_mem_cons.mpr ⟨q278_met h, fun _ h => absurd h List.not_mem_nil⟩⟩, fun _ h => absurd h List.not_mem_nil, List.forall_mem_cons.mpr ⟨fun M hM => Option.some.inj (show some q253_M = some M from hM) ▸ wlkV (lkX9_50 h) q253_M rfl rfl, List.forall_mem_cons.mpr ⟨fun M hM => Option.some.inj (show some q278_M = some M from hM) ▸ wlkV (lkX9_72 h) q278_M rfl rfl, fun _ h => absurd h List.not_mem_nil⟩⟩, fun _ h => absurd h List.not_mem_nil, fun _ h => absurd h List.not_mem_nil⟩ dkX9_mostOf (by decide +kernel) (by rw [h.2.2.1]; exact q279_ok)
/-- NearSpell.Web.mostOf -/
def q280_M : rfM := ((⟨"NearSpell$Web", "mostOf", "(II)I"⟩, prog_11_method_14_code, 5, (some .int)), (11,264), ([.inr (.inl [61]),.inl ((0,0,0),none),.inl ((10,10,0),none)],[]), [], [(some (.inl ((0,0,0),none)),[],[])])
def q280_P : rfP := (flX9,csX9,lcX9,spX9,[q253_M,q279_M],[],[(50,0,9),(72,1,9)],([],[]))
def q280_U : rfU := []
set_option maxHeartbeats 8000000 in
def q280_N : List rfB := [(0,([(0,.inr (.inl [61])),(1,.inl ((0,0,0),none)),(2,.inl ((10,10,0),none))],[],[]),(16,[]),0)]
set_option maxRecDepth 100000 in
theorem q280_ok : rf_chkB q280_P q280_U wLay q280_M ddX9_mostOf [(15,[0]),(26,[1])] [] [0] 600 q280_N = true := by decide +kernel
set_option maxHeartbeats 4000000 in
theorem q280_met {G : rfG} (h : okG G) : rf_met G q280_M := rf_methodB h.1 (P := q280_P) (U := q280_U) (N := q280_N) ⟨wflT h flokX9, wcsT h csokX9, wlcT h lcokX9, spokX9 h, List.forall_mem_cons.mpr ⟨q253_met h, List.forall_mem_cons.mpr ⟨q279_met h, fun _ h => absurd h List.not_mem_nil⟩⟩, fun _ h => absurd h List.not_mem_nil, List.forall_mem_cons.mpr ⟨fun M hM => Option.some.inj (show some q253_M = some M from hM) ▸ wlkV (lkX9_50 h) q253_M rfl rfl, List.forall_mem_cons.mpr ⟨fun M hM => Option.some.inj (show some q279_M = some M from hM) ▸ wlkV (lkX9_72 h) q279_M rfl rfl, fun _ h => absurd h List.not_mem_nil⟩⟩, fun _ h => absurd h List.not_mem_nil, fun _ h => absurd h List.not_mem_nil⟩ dkX9_mostOf (by decide +kernel) (by rw [h.2.2.1]; exact q280_ok)
/-- NearSpell.Web.mostOf -/
def q281_M : rfM := ((⟨"NearSpell$Web", "mostOf", "(II)I"⟩, prog_11_method_14_code, 5, (some .int)), (12,288), ([.inr (.inl [61]),.inl ((0,0,0),none),.inl ((11,11,0),none)],[]), [], [(some (.inl ((0,0,0),none)),[],[])])
def q281_P : rfP := (flX9,csX9,lcX9,spX9,[q253_M,q280_M],[],[(50,0,9),(72,1,9)],([],[]))
def q281_U : rfU := []
set_option maxHeartbeats 8000000 in
def q281_N : List rfB := [(0,([(0,.inr (.inl [61])),(1,.inl ((0,0,0),none)),(2,.inl ((11,11,0),none))],[],[]),(16,[]),0)]
set_option maxRecDepth 100000 in
theorem q281_ok : rf_chkB q281_P q281_U wLay q281_M ddX9_mostOf [(15,[0]),(26,[1])] [] [0] 600 q281_N = true := by decide +kernel
set_option maxHeartbeats 4000000 in
theorem q281_met {G : rfG} (h : okG G) : rf_met G q281_M := rf_methodB h.1 (P := q281_P) (U := q281_U) (N := q281_N) ⟨wflT h flokX9, wcsT h csokX9, wlcT h lcokX9, spokX9 h, List.forall_mem_cons.mpr ⟨q253_met h, List.forall_mem_cons.mpr ⟨q280_met h, fun _ h => absurd h List.not_mem_nil⟩⟩, fun _ h => absurd h List.not_mem_nil, List.forall_mem_cons.mpr ⟨fun M hM => Option.some.inj (show some q253_M = some M from hM) ▸ wlkV (lkX9_50 h) q253_M rfl rfl, List.forall_mem_cons.mpr ⟨fun M hM => Option.some.inj (show some q280_M = some M from hM) ▸ wlkV (lkX9_72 h) q280_M rfl rfl, fun _ h => absurd h List.not_mem_nil⟩⟩, fun _ h => absurd h List.not_mem_nil, fun _ h => absurd h List.not_mem_nil⟩ dkX9_mostOf (by decide +kernel) (by rw [h.2.2.1]; exact q281_ok)
/-- NearSpell.Web.mostOf -/
def q282_M : rfM := ((⟨"NearSpell$Web", "mostOf", "(II)I"⟩, prog_11_method_14_code, 5, (some .int)), (13,312), ([.inr (.inl [61]),.inl ((0,0,0),none),.inl ((12,12,0),none)],[]), [], [(some (.inl ((0,0,0),none)),[],[])])
def q282_P : rfP := (flX9,csX9,lcX9,spX9,[q253_M,q281_M],[],[(50,0,9),(72,1,9)],([],[]))
def q282_U : rfU := []
set_option maxHeartbeats 8000000 in
def q282_N : List rfB := [(0,([(0,.inr (.inl [61])),(1,.inl ((0,0,0),none)),(2,.inl ((12,12,0),none))],[],[]),(16,[]),0)]
set_option maxRecDepth 100000 in
theorem q282_ok : rf_chkB q282_P q282_U wLay q282_M ddX9_mostOf [(15,[0]),(26,[1])] [] [0] 600 q282_N = true := by decide +kernel
set_option maxHeartbeats 4000000 in
theorem q282_met {G : rfG} (h : okG G) : rf_met G q282_M := rf_methodB h.1 (P := q282_P) (U := q282_U) (N := q282_N) ⟨wflT h flokX9, wcsT h csokX9, wlcT h lcokX9, spokX9 h, List.forall_mem_cons.mpr ⟨q253_met h, List.forall_mem_cons.mpr ⟨q281_met h, fun _ h => absurd h List.not_mem_nil⟩⟩, fun _ h => absurd h List.not_mem_nil, List.forall_mem_cons.mpr ⟨fun M hM => Option.some.inj (show some q253_M = some M from hM) ▸ wlkV (lkX9_50 h) q253_M rfl rfl, List.forall_mem_cons.mpr ⟨fun M hM => Option.some.inj (show some q281_M = some M from hM) ▸ wlkV (lkX9_72 h) q281_M rfl rfl, fun _ h => absurd h List.not_mem_nil⟩⟩, fun _ h => absurd h List.not_mem_nil, fun _ h => absurd h List.not_mem_nil⟩ dkX9_mostOf (by decide +kernel) (by rw [h.2.2.1]; exact q282_ok)
/-- NearSpell.Web.mostOf -/
def q283_M : rfM := ((⟨"NearSpell$Web", "mostOf", "(II)I"⟩, prog_11_method_14_code, 5, (some .int)), (14,336), ([.inr (.inl [61]),.inl ((0,0,0),none),.inl ((13,13,0),none)],[]), [], [(some (.inl ((0,0,0),none)),[],[])])
def q283_P : rfP := (flX9,csX9,lcX9,spX9,[q253_M,q282_M],[],[(50,0,9),(72,1,9)],([],[]))
def q283_U : rfU := []
set_option maxHeartbeats 8000000 in
def q283_N : List rfB := [(0,([(0,.inr (.inl [61])),(1,.inl ((0,0,0),none)),(2,.inl ((13,13,0),none))],[],[]),(16,[]),0)]
set_option maxRecDepth 100000 in
theorem q283_ok : rf_chkB q283_P q283_U wLay q283_M ddX9_mostOf [(15,[0]),(26,[1])] [] [0] 600 q283_N = true := by decide +kernel
set_option maxHeartbeats 4000000 in
theorem q283_met {G : rfG} (h : okG G) : rf_met G q283_M := rf_methodB h.1 (P := q283_P) (U := q283_U) (N := q283_N) ⟨wflT h flokX9, wcsT h csokX9, wlcT h lcokX9, spokX9 h, List.forall_mem_cons.mpr ⟨q253_met h, List.forall_mem_cons.mpr ⟨q282_met h, fun _ h => absurd h List.not_mem_nil⟩⟩, fun _ h => absurd h List.not_mem_nil, List.forall_mem_cons.mpr ⟨fun M hM => Option.some.inj (show some q253_M = some M from hM) ▸ wlkV (lkX9_50 h) q253_M rfl rfl, List.forall_mem_cons.mpr ⟨fun M hM => Option.some.inj (show some q282_M = some M from hM) ▸ wlkV (lkX9_72 h) q282_M rfl rfl, fun _ h => absurd h List.not_mem_nil⟩⟩, fun _ h => absurd h List.not_mem_nil, fun _ h => absurd h List.not_mem_nil⟩ dkX9_mostOf (by decide +kernel) (by rw [h.2.2.1]; exact q283_ok)
/-- NearSpell.Web.farApart -/
def q284_M : rfM := ((⟨"NearSpell$Web", "farApart", "(I)I"⟩, prog_11_method_13_code, 6, (some .int)), (15,360), ([.inr (.inl [61]),.inl ((0,6,1),none)],[((12,34),(0,0,0),none),((12,35),(0,0,0),none),((12,36),(0,0,0),none),((20,3),(0,0,0),none),((20,4),(0,0,0),none),((61,4),(0,0,0),none)]), [(60,0),(61,5)], [(some (.inl ((0,0,0),none)),[],[((60,0),(0,0,0),none),((60,1),(0,0,0),none),((60,2),(0,0,0),none),((60,3),(0,0,0),none),((60,4),(0,0,0),none),((60,5),(0,0,0),none),((60,6),(0,0,0),none),((60,7),(0,0,0),none),((60,8),(0,0,0),none),((60,9),(0,0,0),none),((60,10),(0,0,0),none),((60,11),(0,0,0),none),((60,12),(0,0,0),none),((60,13),(0,0,0),none),((61,4),(0,0,0),none)])])
def ddX9_farApart : List (Nat × Instr × Nat) := [(0,.aload_n 0,1),(1,.iload_n 1,1),(2,.invokevirtual 60,3),(5,.aload_n 0,1),(6,.getfield 26,3),(9,.istore_n 2,1),(10,.iconst 0,1),(11,.istore_n 3,1),(12,.aload_n 0,1),(13,.iload_n 2,1),(14,.bipush 13,2),(16,.invokevirtual 72,3),(19,.istore 4,2),(21,.bipush 13,2),(23,.istore 5,2),(25,.iload 5,2),(27,.ifCond .lt 64,3),(30,.aload_n 0,1),(31,.iload_n 2,1),(32,.iload 5,2),(34,.invokevirtual 50,3),(37,.ifCond .eq 48,3),(40,.iload_n 2,1),(41,.iconst 1,1),(42,.iload 5,2),(44,.ishl,1),(45,.iconst (-1),1),(46,.ixor,1),(47,.iand,1),(48,.istore_n 2,1),(49,.aload_n 0,1),(50,.iload_n 2,1),(51,.iload 5,2),(53,.iconst 1,1),(54,.isub,1),(55,.invokevirtual 72,3),(58,.iload 4,2),(60,.if_icmp .ge 25,3),(63,.iload_n 3,1),(64,.iconst 1,1),(65,.iload 5,2),(67,.ishl,1),(68,.ior,1),(69,.istore_n 3,1),(70,.iload_n 2,1),(71,.aload_n 0,1),(72,.getfield 23,3),(75,.iload 5,2),(77,.iaload,1),(78,.iconst (-1),1),(79,.ixor,1),(80,.iand,1),(81,.istore_n 2,1),(82,.iinc 4 (-1),3),(85,.iinc 5 (-1),3),(88,.goto (-63),3),(91,.iload_n 3,1),(92,.ireturn,1)]
set_option maxRecDepth 100000 in
theorem dkX9_farApart : rf_decs prog_11_method_13_code ddX9_farApart := rf_decs_of (by decide +kernel)
def q284_P : rfP := (flX9,csX9,lcX9,spX9,[q254_M,q283_M,q253_M],[],[(50,2,9),(60,0,9),(72,1,9)],([],[]))
def q284_U : rfU := []
set_option maxHeartbeats 8000000 in
def q284_N : List rfB := [(0,([(0,.inr (.inl [61])),(1,.inl ((0,6,1),none))],[],[((12,34),(0,0,0),some ((12,34),0,0)),((12,35),(0,0,0),some ((12,35),0,0)),((12,36),(0,0,0),some ((12,36),0,0)),((20,3),(0,0,0),some ((20,3),0,0)),((20,4),(0,0,0),some ((20,4),0,0)),((61,4),(0,0,0),some ((61,4),0,0))]),(166,[0]),0)]
set_option maxRecDepth 100000 in
theorem q284_ok : rf_chkB q284_P q284_U wLay q284_M ddX9_farApart [(2,[0]),(16,[1]),(34,[2])] [.inl 5] [0] 150 q284_N = true := by decide +kernel
set_option maxHeartbeats 4000000 in
theorem q284_met {G : rfG} (h : okG G) : rf_met G q284_M := rf_methodB h.1 (P := q284_P) (U := q284_U) (N := q284_N) ⟨wflT h flokX9, wcsT h csokX9, wlcT h lcokX9, spokX9 h, List.forall_mem_cons.mpr ⟨q254_met h, List.forall_mem_cons.mpr ⟨q283_met h, List.forall_mem_cons.mpr ⟨q253_met h, fun _ h => absurd h List.not_mem_nil⟩⟩⟩, fun _ h => absurd h List.not_mem_nil, List.forall_mem_cons.mpr ⟨fun M hM => Option.some.inj (show some q253_M = some M from hM) ▸ wlkV (lkX9_50 h) q253_M rfl rfl, List.forall_mem_cons.mpr ⟨fun M hM => Option.some.inj (show some q254_M = some M from hM) ▸ wlkV (lkX9_60 h) q254_M rfl rfl, List.forall_mem_cons.mpr ⟨fun M hM => Option.some.inj (show some q283_M = some M from hM) ▸ wlkV (lkX9_72 h) q283_M rfl rfl, fun _ h => absurd h List.not_mem_nil⟩⟩⟩, fun _ h => absurd h List.not_mem_nil, fun _ h => absurd h List.not_mem_nil⟩ dkX9_farApart (by decide +kernel) (by rw [h.2.2.1]; exact q284_ok)
/-- NearSpell.far -/
def q286_M : rfM := ((⟨"NearSpell", "far", "(II)I"⟩, prog_1_method_28_code, 4, (some .int)), (16,385), ([.inr (.inl [70]),.inl ((0,6,1),none),.inl ((0,0,0),none)],[((12,34),(0,0,0),none),((12,35),(0,0,0),none),((12,36),(0,0,0),none),((20,3),(0,0,0),none),((20,4),(0,0,0),none),((61,4),(0,0,0),none)]), [(60,0),(61,5)], [(some (.inl ((0,0,0),none)),[],[((60,0),(0,0,0),none),((60,1),(0,0,0),none),((60,2),(0,0,0),none),((60,3),(0,0,0),none),((60,4),(0,0,0),none),((60,5),(0,0,0),none),((60,6),(0,0,0),none),((60,7),(0,0,0),none),((60,8),(0,0,0),none),((60,9),(0,0,0),none),((60,10),(0,0,0),none),((60,11),(0,0,0),none),((60,12),(0,0,0),none),((60,13),(0,0,0),none),((61,4),(0,0,0),none)])])
def q286_P : rfP := (flX11,csX11,lcX11,spX11,[q196_M,q284_M,hq_bc_M],[(232,0),(276,2)],[(273,1,9)],([],[]))
def q286_U : rfU := []
set_option maxHeartbeats 8000000 in
def q286_N : List rfB := [(0,([(0,.inr (.inl [70])),(1,.inl ((0,6,1),none)),(2,.inl ((0,0,0),none))],[],[((12,34),(0,0,0),some ((12,34),0,0)),((12,35),(0,0,0),some ((12,35),0,0)),((12,36),(0,0,0),some ((12,36),0,0)),((20,3),(0,0,0),some ((20,3),0,0)),((20,4),(0,0,0),some ((20,4),0,0)),((61,4),(0,0,0),some ((61,4),0,0))]),(18,[]),0)]
set_option maxRecDepth 100000 in
theorem q286_ok : rf_chkB q286_P q286_U wLay q286_M ddX11_far [(1,[0]),(23,[1]),(32,[2])] [] [0] 600 q286_N = true := by decide +kernel
set_option maxHeartbeats 4000000 in
theorem q286_met {G : rfG} (h : okG G) : rf_met G q286_M := rf_methodB h.1 (P := q286_P) (U := q286_U) (N := q286_N) ⟨wflT h flokX11, wcsT h csokX11, wlcT h lcokX11, spokX11 h, List.forall_mem_cons.mpr ⟨q196_met h, List.forall_mem_cons.mpr ⟨q284_met h, List.forall_mem_cons.mpr ⟨hq_bc_met h, fun _ h => absurd h List.not_mem_nil⟩⟩⟩, List.forall_mem_cons.mpr ⟨fun M hM => Option.some.inj (show some q196_M = some M from hM) ▸ wlkS (lkX11_232 h) q196_M rfl rfl, List.forall_mem_cons.mpr ⟨fun M hM => Option.some.inj (show some hq_bc_M = some M from hM) ▸ wlkS (lkX11_276 h) hq_bc_M rfl rfl, fun _ h => absurd h List.not_mem_nil⟩⟩, List.forall_mem_cons.mpr ⟨fun M hM => Option.some.inj (show some q284_M = some M from hM) ▸ wlkV (lkX11_273 h) q284_M rfl rfl, fun _ h => absurd h List.not_mem_nil⟩, fun _ h => absurd h List.not_mem_nil, fun _ h => absurd h List.not_mem_nil⟩ dkX11_far (by decide +kernel) (by rw [h.2.2.1]; exact q286_ok)
/-- NearSpell.far -/
def q287_M : rfM := ((⟨"NearSpell", "far", "(II)I"⟩, prog_1_method_28_code, 4, (some .int)), (16,385), ([.inr (.inl [70]),.inl ((0,6,1),none),.inl ((1,1,0),none)],[((12,34),(0,0,0),none),((12,35),(0,0,0),none),((12,36),(0,0,0),none),((20,3),(0,0,0),none),((20,4),(0,0,0),none),((61,4),(0,0,0),none)]), [(60,0),(61,5)], [(some (.inl ((0,0,0),none)),[],[((60,0),(0,0,0),none),((60,1),(0,0,0),none),((60,2),(0,0,0),none),((60,3),(0,0,0),none),((60,4),(0,0,0),none),((60,5),(0,0,0),none),((60,6),(0,0,0),none),((60,7),(0,0,0),none),((60,8),(0,0,0),none),((60,9),(0,0,0),none),((60,10),(0,0,0),none),((60,11),(0,0,0),none),((60,12),(0,0,0),none),((60,13),(0,0,0),none),((61,4),(0,0,0),none)])])
def q287_P : rfP := (flX11,csX11,lcX11,spX11,[q196_M,q284_M],[(232,0)],[(273,1,9)],([],[]))
def q287_U : rfU := []
set_option maxHeartbeats 8000000 in
def q287_N : List rfB := [(0,([(0,.inr (.inl [70])),(1,.inl ((0,6,1),none)),(2,.inl ((1,1,0),none))],[],[((12,34),(0,0,0),some ((12,34),0,0)),((12,35),(0,0,0),some ((12,35),0,0)),((12,36),(0,0,0),some ((12,36),0,0)),((20,3),(0,0,0),some ((20,3),0,0)),((20,4),(0,0,0),some ((20,4),0,0)),((61,4),(0,0,0),some ((61,4),0,0))]),(16,[]),0)]
set_option maxRecDepth 100000 in
theorem q287_ok : rf_chkB q287_P q287_U wLay q287_M ddX11_far [(1,[0]),(23,[1])] [] [0] 600 q287_N = true := by decide +kernel
set_option maxHeartbeats 4000000 in
theorem q287_met {G : rfG} (h : okG G) : rf_met G q287_M := rf_methodB h.1 (P := q287_P) (U := q287_U) (N := q287_N) ⟨wflT h flokX11, wcsT h csokX11, wlcT h lcokX11, spokX11 h, List.forall_mem_cons.mpr ⟨q196_met h, List.forall_mem_cons.mpr ⟨q284_met h, fun _ h => absurd h List.not_mem_nil⟩⟩, List.forall_mem_cons.mpr ⟨fun M hM => Option.some.inj (show some q196_M = some M from hM) ▸ wlkS (lkX11_232 h) q196_M rfl rfl, fun _ h => absurd h List.not_mem_nil⟩, List.forall_mem_cons.mpr ⟨fun M hM => Option.some.inj (show some q284_M = some M from hM) ▸ wlkV (lkX11_273 h) q284_M rfl rfl, fun _ h => absurd h List.not_mem_nil⟩, fun _ h => absurd h List.not_mem_nil, fun _ h => absurd h List.not_mem_nil⟩ dkX11_far (by decide +kernel) (by rw [h.2.2.1]; exact q287_ok)
/-- NearSpell.far -/
def q288_M : rfM := ((⟨"NearSpell", "far", "(II)I"⟩, prog_1_method_28_code, 4, (some .int)), (1,20), ([.inr (.inl [70]),.inl ((0,6,1),none),.inl ((2,2147483647,1),none)],[((12,34),(0,0,0),none),((12,35),(0,0,0),none),((12,36),(0,0,0),none),((20,3),(0,0,0),none),((20,4),(0,0,0),none),((61,4),(0,0,0),none)]), [], [(some (.inl (((-1),(-1),0),none)),[],[])])
def q288_P : rfP := (flX11,csX11,lcX11,spX11,[q196_M],[(232,0)],[],([],[]))
def q288_U : rfU := []
set_option maxHeartbeats 8000000 in
def q288_N : List rfB := [(0,([(0,.inr (.inl [70])),(1,.inl ((0,6,1),none)),(2,.inl ((2,2147483647,1),none))],[],[((12,34),(0,0,0),some ((12,34),0,0)),((12,35),(0,0,0),some ((12,35),0,0)),((12,36),(0,0,0),some ((12,36),0,0)),((20,3),(0,0,0),some ((20,3),0,0)),((20,4),(0,0,0),some ((20,4),0,0)),((61,4),(0,0,0),some ((61,4),0,0))]),(9,[]),0)]
set_option maxRecDepth 100000 in
theorem q288_ok : rf_chkB q288_P q288_U wLay q288_M ddX11_far [(1,[0])] [] [0] 600 q288_N = true := by decide +kernel
set_option maxHeartbeats 4000000 in
theorem q288_met {G : rfG} (h : okG G) : rf_met G q288_M := rf_methodB h.1 (P := q288_P) (U := q288_U) (N := q288_N) ⟨wflT h flokX11, wcsT h csokX11, wlcT h lcokX11, spokX11 h, List.forall_mem_cons.mpr ⟨q196_met h, fun _ h => absurd h List.not_mem_nil⟩, List.forall_mem_cons.mpr ⟨fun M hM => Option.some.inj (show some q196_M = some M from hM) ▸ wlkS (lkX11_232 h) q196_M rfl rfl, fun _ h => absurd h List.not_mem_nil⟩, fun _ h => absurd h List.not_mem_nil, fun _ h => absurd h List.not_mem_nil, fun _ h => absurd h List.not_mem_nil⟩ dkX11_far (by decide +kernel) (by rw [h.2.2.1]; exact q288_ok)
/-- NearSpellModel.isIn -/
def q289_M : rfM := ((⟨"NearSpellModel", "isIn", "(III)Z"⟩, prog_14_method_35_code, 3, (some .boolean)), (0,0), ([.inl ((1,2147483647,1),none),.inl ((0,0,0),none),.inl ((1,1,0),none)],[]), [], [(some (.inl ((1,1,0),none)),[(0,1,1)],[]),(some (.inl ((0,0,0),none)),[(0,2,2147483647)],[])])
def q289_P : rfP := (flX12,csX12,lcX12,spX12,[],[],[],([],[]))
def q289_U : rfU := []
set_option maxHeartbeats 8000000 in
def q289_N : List rfB := [(0,([(0,.inl ((1,2147483647,1),none)),(1,.inl ((0,0,0),none)),(2,.inl ((1,1,0),none))],[],[]),(10,[]),0)]
set_option maxRecDepth 100000 in
theorem q289_ok : rf_chkB q289_P q289_U wLay q289_M ddX12_isIn [] [] [0] 600 q289_N = true := by decide +kernel
set_option maxHeartbeats 4000000 in
theorem q289_met {G : rfG} (h : okG G) : rf_met G q289_M := rf_methodB h.1 (P := q289_P) (U := q289_U) (N := q289_N) ⟨wflT h flokX12, wcsT h csokX12, wlcT h lcokX12, spokX12 h, fun _ h => absurd h List.not_mem_nil, fun _ h => absurd h List.not_mem_nil, fun _ h => absurd h List.not_mem_nil, fun _ h => absurd h List.not_mem_nil, fun _ h => absurd h List.not_mem_nil⟩ dkX12_isIn (by decide +kernel) (by rw [h.2.2.1]; exact q289_ok)
/-- NearSpellModel.far -/
def q290_M : rfM := ((⟨"NearSpellModel", "far", "(II)I"⟩, prog_14_method_92_code, 7, (some .int)), (1,22), ([.inr (.inl [114]),.inl ((0,6,1),none),.inl ((2,2147483647,1),none)],[((90,28),(0,0,0),none),((90,29),(0,0,0),none),((90,36),(0,0,0),none),((114,44),(0,0,0),none),((114,45),(0,0,0),none)]), [], [(some (.inl (((-1),(-1),0),none)),[],[])])
def q290_P : rfP := (flX12,csX12,lcX12,spX12,[q199_M,q289_M],[(334,0),(334,1)],[],([],[]))
def q290_U : rfU := []
set_option maxHeartbeats 8000000 in
def q290_N : List rfB := [(0,([(0,.inr (.inl [114])),(1,.inl ((0,6,1),none)),(2,.inl ((2,2147483647,1),none))],[],[((90,28),(0,0,0),some ((90,28),0,0)),((90,29),(0,0,0),some ((90,29),0,0)),((90,36),(0,0,0),some ((90,36),0,0)),((114,44),(0,0,0),some ((114,44),0,0)),((114,45),(0,0,0),some ((114,45),0,0))]),(11,[]),0)]
set_option maxRecDepth 100000 in
theorem q290_ok : rf_chkB q290_P q290_U wLay q290_M ddX12_far [(4,[0]),(13,[1])] [] [0] 600 q290_N = true := by decide +kernel
set_option maxHeartbeats 4000000 in
theorem q290_met {G : rfG} (h : okG G) : rf_met G q290_M := rf_methodB h.1 (P := q290_P) (U := q290_U) (N := q290_N) ⟨wflT h flokX12, wcsT h csokX12, wlcT h lcokX12, spokX12 h, List.forall_mem_cons.mpr ⟨q199_met h, List.forall_mem_cons.mpr ⟨q289_met h, fun _ h => absurd h List.not_mem_nil⟩⟩, List.forall_mem_cons.mpr ⟨fun M hM => Option.some.inj (show some q199_M = some M from hM) ▸ wlkS (lkX12_334 h) q199_M rfl rfl, List.forall_mem_cons.mpr ⟨fun M hM => Option.some.inj (show some q289_M = some M from hM) ▸ wlkS (lkX12_334 h) q289_M rfl rfl, fun _ h => absurd h List.not_mem_nil⟩⟩, fun _ h => absurd h List.not_mem_nil, fun _ h => absurd h List.not_mem_nil, fun _ h => absurd h List.not_mem_nil⟩ dkX12_far (by decide +kernel) (by rw [h.2.2.1]; exact q290_ok)
/-- NearSpell.Web.middleEntry -/
def q291_M : rfM := ((⟨"NearSpell$Web", "middleEntry", "()I"⟩, prog_11_method_11_code, 5, (some .int)), (2,43), ([.inr (.inl [61])],[((12,34),(0,0,0),none),((12,35),(0,0,0),none),((12,36),(0,0,0),none),((20,3),(0,0,0),none),((20,4),(0,0,0),none),((61,4),(0,0,0),none)]), [(61,5)], [(some (.inl (((-1),(-1),0),none)),[],[((61,4),(0,0,0),none)])])
def ddX9_middleEntry : List (Nat × Instr × Nat) := [(0,.aload_n 0,1),(1,.invokevirtual 57,3),(4,.iconst (-1),1),(5,.istore_n 1,1),(6,.bipush 85,2),(8,.istore_n 2,1),(9,.iconst 0,1),(10,.istore_n 3,1),(11,.iload_n 3,1),(12,.bipush 14,2),(14,.if_icmp .ge 43,3),(17,.aload_n 0,1),(18,.aload_n 0,1),(19,.getfield 26,3),(22,.iload_n 3,1),(23,.invokevirtual 50,3),(26,.ifCond .eq 11,3),(29,.aload_n 0,1),(30,.iload_n 3,1),(31,.invokevirtual 69,3),(34,.goto 4,3),(37,.iload_n 2,1),(38,.istore 4,2),(40,.iload 4,2),(42,.iload_n 2,1),(43,.if_icmp .ge 8,3),(46,.iload_n 3,1),(47,.istore_n 1,1),(48,.iload 4,2),(50,.istore_n 2,1),(51,.iinc 3 1,3),(54,.goto (-43),3),(57,.iload_n 1,1),(58,.ireturn,1)]
set_option maxRecDepth 100000 in
theorem dkX9_middleEntry : rf_decs prog_11_method_11_code ddX9_middleEntry := rf_decs_of (by decide +kernel)
def q291_P : rfP := (flX9,csX9,lcX9,spX9,[q252_M,q253_M],[],[(50,1,9),(57,0,9)],([],[]))
def q291_U : rfU := []
set_option maxHeartbeats 8000000 in
def q291_N : List rfB := [(0,([(0,.inr (.inl [61]))],[],[((12,34),(0,0,0),some ((12,34),0,0)),((12,35),(0,0,0),some ((12,35),0,0)),((12,36),(0,0,0),some ((12,36),0,0)),((20,3),(0,0,0),some ((20,3),0,0)),((20,4),(0,0,0),some ((20,4),0,0)),((61,4),(0,0,0),some ((61,4),0,0))]),(264,[0]),0)]
set_option maxRecDepth 100000 in
theorem q291_ok : rf_chkB q291_P q291_U wLay q291_M ddX9_middleEntry [(1,[0]),(23,[1])] [.inl 3] [0] 242 q291_N = true := by decide +kernel
set_option maxHeartbeats 4000000 in
theorem q291_met {G : rfG} (h : okG G) : rf_met G q291_M := rf_methodB h.1 (P := q291_P) (U := q291_U) (N := q291_N) ⟨wflT h flokX9, wcsT h csokX9, wlcT h lcokX9, spokX9 h, List.forall_mem_cons.mpr ⟨q252_met h, List.forall_mem_cons.mpr ⟨q253_met h, fun _ h => absurd h List.not_mem_nil⟩⟩, fun _ h => absurd h List.not_mem_nil, List.forall_mem_cons.mpr ⟨fun M hM => Option.some.inj (show some q253_M = some M from hM) ▸ wlkV (lkX9_50 h) q253_M rfl rfl, List.forall_mem_cons.mpr ⟨fun M hM => Option.some.inj (show some q252_M = some M from hM) ▸ wlkV (lkX9_57 h) q252_M rfl rfl, fun _ h => absurd h List.not_mem_nil⟩⟩, fun _ h => absurd h List.not_mem_nil, fun _ h => absurd h List.not_mem_nil⟩ dkX9_middleEntry (by decide +kernel) (by rw [h.2.2.1]; exact q291_ok)
/-- NearSpell.middle -/
def q292_M : rfM := ((⟨"NearSpell", "middle", "()I"⟩, prog_1_method_29_code, 1, (some .int)), (3,67), ([.inr (.inl [70])],[((12,34),(0,0,0),none),((12,35),(0,0,0),none),((12,36),(0,0,0),none),((20,3),(0,0,0),none),((20,4),(0,0,0),none),((61,4),(0,0,0),none)]), [(61,5)], [(some (.inl (((-1),(-1),0),none)),[],[((61,4),(0,0,0),none)])])
def ddX11_middle : List (Nat × Instr × Nat) := [(0,.aload_n 0,1),(1,.getfield 83,3),(4,.invokevirtual 281,3),(7,.ireturn,1)]
set_option maxRecDepth 100000 in
theorem dkX11_middle : rf_decs prog_1_method_29_code ddX11_middle := rf_decs_of (by decide +kernel)
def q292_P : rfP := (flX11,csX11,lcX11,spX11,[q291_M],[],[(281,0,9)],([],[]))
def q292_U : rfU := []
set_option maxHeartbeats 8000000 in
def q292_N : List rfB := [(0,([(0,.inr (.inl [70]))],[],[((12,34),(0,0,0),some ((12,34),0,0)),((12,35),(0,0,0),some ((12,35),0,0)),((12,36),(0,0,0),some ((12,36),0,0)),((20,3),(0,0,0),some ((20,3),0,0)),((20,4),(0,0,0),some ((20,4),0,0)),((61,4),(0,0,0),some ((61,4),0,0))]),(3,[]),0)]
set_option maxRecDepth 100000 in
theorem q292_ok : rf_chkB q292_P q292_U wLay q292_M ddX11_middle [(4,[0])] [] [0] 600 q292_N = true := by decide +kernel
set_option maxHeartbeats 4000000 in
theorem q292_met {G : rfG} (h : okG G) : rf_met G q292_M := rf_methodB h.1 (P := q292_P) (U := q292_U) (N := q292_N) ⟨wflT h flokX11, wcsT h csokX11, wlcT h lcokX11, spokX11 h, List.forall_mem_cons.mpr ⟨q291_met h, fun _ h => absurd h List.not_mem_nil⟩, fun _ h => absurd h List.not_mem_nil, List.forall_mem_cons.mpr ⟨fun M hM => Option.some.inj (show some q291_M = some M from hM) ▸ wlkV (lkX11_281 h) q291_M rfl rfl, fun _ h => absurd h List.not_mem_nil⟩, fun _ h => absurd h List.not_mem_nil, fun _ h => absurd h List.not_mem_nil⟩ dkX11_middle (by decide +kernel) (by rw [h.2.2.1]; exact q292_ok)
/-- NearSpellModel.middle -/
def q293_M : rfM := ((⟨"NearSpellModel", "middle", "()I"⟩, prog_14_method_93_code, 6, (some .int)), (3,66), ([.inr (.inl [114])],[((90,28),(0,0,0),none),((90,29),(0,0,0),none),((90,36),(0,0,0),none),((114,44),(0,0,0),none),((114,45),(0,0,0),none)]), [(103,0)], [(some (.inl (((-1),(-1),0),none)),[],[])])
def ddX12_middle : List (Nat × Instr × Nat) := [(0,.aload_n 0,1),(1,.invokevirtual 447,3),(4,.iconst (-1),1),(5,.istore_n 1,1),(6,.iconst 0,1),(7,.istore_n 2,1),(8,.iconst 0,1),(9,.istore_n 3,1),(10,.iload_n 3,1),(11,.bipush 14,2),(13,.if_icmp .ge 87,3),(16,.aload_n 0,1),(17,.iload_n 3,1),(18,.invokevirtual 350,3),(21,.ifCond .ne 6,3),(24,.goto 70,3),(27,.iconst 0,1),(28,.istore 4,2),(30,.iconst 0,1),(31,.istore 5,2),(33,.iload 5,2),(35,.bipush 14,2),(37,.if_icmp .ge 39,3),(40,.iload 4,2),(42,.aload_n 0,1),(43,.iload 5,2),(45,.invokevirtual 350,3),(48,.ifCond .eq 18,3),(51,.aload_n 0,1),(52,.getfield 111,3),(55,.bipush 14,2),(57,.iload_n 3,1),(58,.imul,1),(59,.iload 5,2),(61,.iadd,1),(62,.iaload,1),(63,.goto 4,3),(66,.iconst 0,1),(67,.iadd,1),(68,.istore 4,2),(70,.iinc 5 1,3),(73,.goto (-40),3),(76,.iload_n 1,1),(77,.ifCond .lt 12,3),(80,.iload 4,2),(82,.iload_n 2,1),(83,.if_icmp .lt 6,3),(86,.goto 8,3),(89,.iload_n 3,1),(90,.istore_n 1,1),(91,.iload 4,2),(93,.istore_n 2,1),(94,.iinc 3 1,3),(97,.goto (-87),3),(100,.iload_n 1,1),(101,.ireturn,1)]
set_option maxRecDepth 100000 in
theorem dkX12_middle : rf_decs prog_14_method_93_code ddX12_middle := rf_decs_of (by decide +kernel)
def q293_P : rfP := (flX12,csX12,lcX12,spX12,[q257_M,q68_M],[],[(350,1,12),(447,0,12)],([],[]))
def q293_U : rfU := []
set_option maxHeartbeats 8000000 in
def q293_N : List rfB := [(0,([(0,.inr (.inl [114]))],[],[((90,28),(0,0,0),some ((90,28),0,0)),((90,29),(0,0,0),some ((90,29),0,0)),((90,36),(0,0,0),some ((90,36),0,0)),((114,44),(0,0,0),some ((114,44),0,0)),((114,45),(0,0,0),some ((114,45),0,0))]),(174,[0]),0)]
set_option maxRecDepth 100000 in
theorem q293_ok : rf_chkB q293_P q293_U wLay q293_M ddX12_middle [(1,[0]),(18,[1])] [.inl 3] [0] 158 q293_N = true := by decide +kernel
set_option maxHeartbeats 4000000 in
theorem q293_met {G : rfG} (h : okG G) : rf_met G q293_M := rf_methodB h.1 (P := q293_P) (U := q293_U) (N := q293_N) ⟨wflT h flokX12, wcsT h csokX12, wlcT h lcokX12, spokX12 h, List.forall_mem_cons.mpr ⟨q257_met h, List.forall_mem_cons.mpr ⟨q68_met h, fun _ h => absurd h List.not_mem_nil⟩⟩, fun _ h => absurd h List.not_mem_nil, List.forall_mem_cons.mpr ⟨fun M hM => Option.some.inj (show some q68_M = some M from hM) ▸ wlkV (lkX12_350 h) q68_M rfl rfl, List.forall_mem_cons.mpr ⟨fun M hM => Option.some.inj (show some q257_M = some M from hM) ▸ wlkV (lkX12_447 h) q257_M rfl rfl, fun _ h => absurd h List.not_mem_nil⟩⟩, fun _ h => absurd h List.not_mem_nil, fun _ h => absurd h List.not_mem_nil⟩ dkX12_middle (by decide +kernel) (by rw [h.2.2.1]; exact q293_ok)
/-- NearSpell.chain -/
def q294_M : rfM := ((⟨"NearSpell", "chain", "(III)I"⟩, prog_1_method_30_code, 4, (some .int)), (1,21), ([.inr (.inl [70]),.inl (((-2147483648),2147483647,1),none),.inl (((-2147483648),2147483647,1),none),.inl (((-2147483648),2147483647,1),none)],[((12,34),(0,0,0),none),((12,35),(0,0,0),none),((12,36),(0,0,0),none),((20,3),(0,0,0),none),((20,4),(0,0,0),none),((61,4),(0,0,0),none)]), [], [(some (.inl (((-1),(-1),0),none)),[],[])])
def ddX11_chain : List (Nat × Instr × Nat) := [(0,.aload_n 0,1),(1,.getfield 35,3),(4,.iload_n 1,1),(5,.invokevirtual 141,3),(8,.ifCond .eq 21,3),(11,.aload_n 0,1),(12,.getfield 35,3),(15,.iload_n 2,1),(16,.invokevirtual 141,3),(19,.ifCond .eq 10,3),(22,.iload_n 3,1),(23,.invokestatic 232,3),(26,.ifCond .ne 5,3),(29,.iconst (-1),1),(30,.ireturn,1),(31,.aload_n 0,1),(32,.getfield 83,3),(35,.iload_n 1,1),(36,.iload_n 2,1),(37,.iload_n 3,1),(38,.invokevirtual 284,3),(41,.ireturn,1)]
set_option maxRecDepth 100000 in
theorem dkX11_chain : rf_decs prog_1_method_30_code ddX11_chain := rf_decs_of (by decide +kernel)
def q294_P : rfP := (flX11,csX11,lcX11,spX11,[q38_M],[],[(141,0,8)],([],[]))
def q294_U : rfU := []
set_option maxHeartbeats 8000000 in
def q294_N : List rfB := [(0,([(0,.inr (.inl [70])),(1,.inl (((-2147483648),2147483647,1),none)),(2,.inl (((-2147483648),2147483647,1),none)),(3,.inl (((-2147483648),2147483647,1),none))],[],[((12,34),(0,0,0),some ((12,34),0,0)),((12,35),(0,0,0),some ((12,35),0,0)),((12,36),(0,0,0),some ((12,36),0,0)),((20,3),(0,0,0),some ((20,3),0,0)),((20,4),(0,0,0),some ((20,4),0,0)),((61,4),(0,0,0),some ((61,4),0,0))]),(6,[]),0)]
set_option maxRecDepth 100000 in
theorem q294_ok : rf_chkB q294_P q294_U wLay q294_M ddX11_chain [(5,[0])] [] [0] 600 q294_N = true := by decide +kernel
set_option maxHeartbeats 4000000 in
theorem q294_met {G : rfG} (h : okG G) : rf_met G q294_M := rf_methodB h.1 (P := q294_P) (U := q294_U) (N := q294_N) ⟨wflT h flokX11, wcsT h csokX11, wlcT h lcokX11, spokX11 h, List.forall_mem_cons.mpr ⟨q38_met h, fun _ h => absurd h List.not_mem_nil⟩, fun _ h => absurd h List.not_mem_nil, List.forall_mem_cons.mpr ⟨fun M hM => Option.some.inj (show some q38_M = some M from hM) ▸ wlkV (lkX11_141 h) q38_M rfl rfl, fun _ h => absurd h List.not_mem_nil⟩, fun _ h => absurd h List.not_mem_nil, fun _ h => absurd h List.not_mem_nil⟩ dkX11_chain (by decide +kernel) (by rw [h.2.2.1]; exact q294_ok)
/-- NearSpellModel.chain -/
def q295_M : rfM := ((⟨"NearSpellModel", "chain", "(III)I"⟩, prog_14_method_94_code, 6, (some .int)), (2,43), ([.inr (.inl [114]),.inl (((-2147483648),2147483647,1),none),.inl (((-2147483648),2147483647,1),none),.inl (((-2147483648),2147483647,1),none)],[((90,28),(0,0,0),none),((90,29),(0,0,0),none),((90,36),(0,0,0),none),((114,44),(0,0,0),none),((114,45),(0,0,0),none)]), [], [(some (.inl (((-1),(-1),0),none)),[],[])])
def ddX12_chain : List (Nat × Instr × Nat) := [(0,.aload_n 0,1),(1,.iload_n 1,1),(2,.invokevirtual 350,3),(5,.ifCond .eq 21,3),(8,.aload_n 0,1),(9,.iload_n 2,1),(10,.invokevirtual 350,3),(13,.ifCond .eq 13,3),(16,.iload_n 3,1),(17,.iconst 0,1),(18,.bipush 6,2),(20,.invokestatic 334,3),(23,.ifCond .ne 5,3),(26,.iconst (-1),1),(27,.ireturn,1),(28,.aload_n 0,1),(29,.iload_n 3,1),(30,.invokevirtual 450,3),(33,.iconst 1,1),(34,.iload_n 1,1),(35,.ishl,1),(36,.istore 4,2),(38,.iconst 0,1),(39,.istore 5,2),(41,.iload 5,2),(43,.bipush 14,2),(45,.if_icmp .ge 26,3),(48,.iload 4,2),(50,.iload_n 2,1),(51,.invokestatic 251,3),(54,.ifCond .ne 17,3),(57,.aload_n 0,1),(58,.iload 4,2),(60,.invokevirtual 456,3),(63,.istore 4,2),(65,.iinc 5 1,3),(68,.goto (-27),3),(71,.iload 4,2),(73,.iload_n 2,1),(74,.invokestatic 251,3),(77,.ifCond .eq 8,3),(80,.iload 5,2),(82,.goto 4,3),(85,.iconst (-1),1),(86,.ireturn,1)]
set_option maxRecDepth 100000 in
theorem dkX12_chain : rf_decs prog_14_method_94_code ddX12_chain := rf_decs_of (by decide +kernel)
def q295_P : rfP := (flX12,csX12,lcX12,spX12,[q41_M],[],[(350,0,12)],([],[]))
def q295_U : rfU := []
set_option maxHeartbeats 8000000 in
def q295_N : List rfB := [(0,([(0,.inr (.inl [114])),(1,.inl (((-2147483648),2147483647,1),none)),(2,.inl (((-2147483648),2147483647,1),none)),(3,.inl (((-2147483648),2147483647,1),none))],[],[((90,28),(0,0,0),some ((90,28),0,0)),((90,29),(0,0,0),some ((90,29),0,0)),((90,36),(0,0,0),some ((90,36),0,0)),((114,44),(0,0,0),some ((114,44),0,0)),((114,45),(0,0,0),some ((114,45),0,0))]),(5,[]),0)]
set_option maxRecDepth 100000 in
theorem q295_ok : rf_chkB q295_P q295_U wLay q295_M ddX12_chain [(2,[0])] [] [0] 600 q295_N = true := by decide +kernel
set_option maxHeartbeats 4000000 in
theorem q295_met {G : rfG} (h : okG G) : rf_met G q295_M := rf_methodB h.1 (P := q295_P) (U := q295_U) (N := q295_N) ⟨wflT h flokX12, wcsT h csokX12, wlcT h lcokX12, spokX12 h, List.forall_mem_cons.mpr ⟨q41_met h, fun _ h => absurd h List.not_mem_nil⟩, fun _ h => absurd h List.not_mem_nil, List.forall_mem_cons.mpr ⟨fun M hM => Option.some.inj (show some q41_M = some M from hM) ▸ wlkV (lkX12_350 h) q41_M rfl rfl, fun _ h => absurd h List.not_mem_nil⟩, fun _ h => absurd h List.not_mem_nil, fun _ h => absurd h List.not_mem_nil⟩ dkX12_chain (by decide +kernel) (by rw [h.2.2.1]; exact q295_ok)
/-- NearSpell.Finder.mostUsedFrom -/
def q296_M : rfM := ((⟨"NearSpell$Finder", "mostUsedFrom", "(I)I"⟩, prog_4_method_9_code, 6, (some .int)), (1,21), ([.inr (.inl [55]),.inl ((0,387420488,1),none)],[((12,34),(0,0,0),none),((12,35),(0,0,0),none),((12,36),(0,0,0),none)]), [], [(some (.inl (((-1),(-1),0),none)),[],[])])
def ddX2_mostUsedFrom : List (Nat × Instr × Nat) := [(0,.iload_n 1,1),(1,.invokestatic 90,3),(4,.istore_n 2,1),(5,.iconst (-1),1),(6,.istore_n 3,1),(7,.iconst 0,1),(8,.istore 4,2),(10,.iload 4,2),(12,.aload_n 0,1),(13,.getfield 15,3),(16,.invokevirtual 43,3),(19,.if_icmp .ge 78,3),(22,.aload_n 0,1),(23,.getfield 15,3),(26,.iload 4,2),(28,.invokevirtual 49,3),(31,.ifCond .eq 24,3),(34,.aload_n 0,1),(35,.getfield 15,3),(38,.iload 4,2),(40,.invokevirtual 66,3),(43,.iload_n 2,1),(44,.invokestatic 93,3),(47,.iload_n 1,1),(48,.if_icmp .ne 7,3),(51,.iconst 1,1),(52,.goto 4,3),(55,.iconst 0,1),(56,.istore 5,2),(58,.iload 5,2),(60,.ifCond .eq 31,3),(63,.iload_n 3,1),(64,.iconst (-1),1),(65,.if_icmp .eq 23,3),(68,.aload_n 0,1),(69,.getfield 15,3),(72,.iload 4,2),(74,.invokevirtual 87,3),(77,.aload_n 0,1),(78,.getfield 15,3),(81,.iload_n 3,1),(82,.invokevirtual 87,3),(85,.if_icmp .le 6,3),(88,.iload 4,2),(90,.istore_n 3,1),(91,.iinc 4 1,3),(94,.goto (-84),3),(97,.iload_n 3,1),(98,.ireturn,1)]
set_option maxRecDepth 100000 in
theorem dkX2_mostUsedFrom : rf_decs prog_4_method_9_code ddX2_mostUsedFrom := rf_decs_of (by decide +kernel)
def q296_P : rfP := (flX2,csX2,lcX2,spX2,[q91_M,q46_M],[(90,0)],[(43,1,8)],([],[]))
def q296_U : rfU := []
set_option maxHeartbeats 8000000 in
def q296_N : List rfB := [(0,([(0,.inr (.inl [55])),(1,.inl ((0,387420488,1),none))],[],[((12,34),(0,0,0),some ((12,34),0,0)),((12,35),(0,0,0),some ((12,35),0,0)),((12,36),(0,0,0),some ((12,36),0,0))]),(13,[]),0)]
set_option maxRecDepth 100000 in
theorem q296_ok : rf_chkB q296_P q296_U wLay q296_M ddX2_mostUsedFrom [(1,[0]),(16,[1])] [] [0] 600 q296_N = true := by decide +kernel
set_option maxHeartbeats 4000000 in
theorem q296_met {G : rfG} (h : okG G) : rf_met G q296_M := rf_methodB h.1 (P := q296_P) (U := q296_U) (N := q296_N) ⟨wflT h flokX2, wcsT h csokX2, wlcT h lcokX2, spokX2 h, List.forall_mem_cons.mpr ⟨q91_met h, List.forall_mem_cons.mpr ⟨q46_met h, fun _ h => absurd h List.not_mem_nil⟩⟩, List.forall_mem_cons.mpr ⟨fun M hM => Option.some.inj (show some q91_M = some M from hM) ▸ wlkS (lkX2_90 h) q91_M rfl rfl, fun _ h => absurd h List.not_mem_nil⟩, List.forall_mem_cons.mpr ⟨fun M hM => Option.some.inj (show some q46_M = some M from hM) ▸ wlkV (lkX2_43 h) q46_M rfl rfl, fun _ h => absurd h List.not_mem_nil⟩, fun _ h => absurd h List.not_mem_nil, fun _ h => absurd h List.not_mem_nil⟩ dkX2_mostUsedFrom (by decide +kernel) (by rw [h.2.2.1]; exact q296_ok)
/-- NearSpell.begins -/
def q297_M : rfM := ((⟨"NearSpell", "begins", "(I)I"⟩, prog_1_method_31_code, 2, (some .int)), (2,46), ([.inr (.inl [70]),.inl (((-2147483648),2147483647,1),none)],[((12,34),(0,0,0),none),((12,35),(0,0,0),none),((12,36),(0,0,0),none)]), [], [(some (.inl (((-1),(-1),0),none)),[],[])])
def ddX11_begins : List (Nat × Instr × Nat) := [(0,.iload_n 1,1),(1,.invokestatic 163,3),(4,.ifCond .eq 14,3),(7,.aload_n 0,1),(8,.getfield 67,3),(11,.iload_n 1,1),(12,.invokevirtual 288,3),(15,.goto 4,3),(18,.iconst (-1),1),(19,.ireturn,1)]
set_option maxRecDepth 100000 in
theorem dkX11_begins : rf_decs prog_1_method_31_code ddX11_begins := rf_decs_of (by decide +kernel)
def q297_P : rfP := (flX11,csX11,lcX11,spX11,[q72_M,q296_M],[(163,0)],[(288,1,2)],([],[]))
def q297_U : rfU := []
set_option maxHeartbeats 8000000 in
def q297_N : List rfB := [(0,([(0,.inr (.inl [70])),(1,.inl (((-2147483648),2147483647,1),none))],[],[((12,34),(0,0,0),some ((12,34),0,0)),((12,35),(0,0,0),some ((12,35),0,0)),((12,36),(0,0,0),some ((12,36),0,0))]),(10,[]),0)]
set_option maxRecDepth 100000 in
theorem q297_ok : rf_chkB q297_P q297_U wLay q297_M ddX11_begins [(1,[0]),(12,[1])] [] [0] 14 q297_N = true := by decide +kernel
set_option maxHeartbeats 4000000 in
theorem q297_met {G : rfG} (h : okG G) : rf_met G q297_M := rf_methodB h.1 (P := q297_P) (U := q297_U) (N := q297_N) ⟨wflT h flokX11, wcsT h csokX11, wlcT h lcokX11, spokX11 h, List.forall_mem_cons.mpr ⟨q72_met h, List.forall_mem_cons.mpr ⟨q296_met h, fun _ h => absurd h List.not_mem_nil⟩⟩, List.forall_mem_cons.mpr ⟨fun M hM => Option.some.inj (show some q72_M = some M from hM) ▸ wlkS (lkX11_163 h) q72_M rfl rfl, fun _ h => absurd h List.not_mem_nil⟩, List.forall_mem_cons.mpr ⟨fun M hM => Option.some.inj (show some q296_M = some M from hM) ▸ wlkV (lkX11_288 h) q296_M rfl rfl, fun _ h => absurd h List.not_mem_nil⟩, fun _ h => absurd h List.not_mem_nil, fun _ h => absurd h List.not_mem_nil⟩ dkX11_begins (by decide +kernel) (by rw [h.2.2.1]; exact q297_ok)
/-- NearSpellModel.begins -/
def q298_M : rfM := ((⟨"NearSpellModel", "begins", "(I)I"⟩, prog_14_method_95_code, 5, (some .int)), (2,43), ([.inr (.inl [114]),.inl (((-2147483648),2147483647,1),none)],[((90,28),(0,0,0),none),((90,29),(0,0,0),none),((90,36),(0,0,0),none)]), [], [(some (.inl (((-1),(-1),0),none)),[],[])])
def ddX12_begins : List (Nat × Instr × Nat) := [(0,.iload_n 1,1),(1,.invokestatic 420,3),(4,.ifCond .ne 5,3),(7,.iconst (-1),1),(8,.ireturn,1),(9,.iload_n 1,1),(10,.invokestatic 319,3),(13,.istore_n 2,1),(14,.iconst (-1),1),(15,.istore_n 3,1),(16,.iconst 0,1),(17,.istore 4,2),(19,.iload 4,2),(21,.bipush 14,2),(23,.if_icmp .ge 83,3),(26,.aload_n 0,1),(27,.iload 4,2),(29,.invokevirtual 350,3),(32,.ifCond .eq 68,3),(35,.aload_n 0,1),(36,.getfield 72,3),(39,.iconst 0,1),(40,.iload 4,2),(42,.iadd,1),(43,.iaload,1),(44,.invokestatic 319,3),(47,.iload_n 2,1),(48,.if_icmp .lt 52,3),(51,.aload_n 0,1),(52,.getfield 72,3),(55,.iconst 0,1),(56,.iload 4,2),(58,.iadd,1),(59,.iaload,1),(60,.iload_n 2,1),(61,.invokestatic 322,3),(64,.iload_n 1,1),(65,.if_icmp .eq 6,3),(68,.goto 32,3),(71,.iload_n 3,1),(72,.ifCond .lt 25,3),(75,.aload_n 0,1),(76,.getfield 72,3),(79,.bipush 14,2),(81,.iload 4,2),(83,.iadd,1),(84,.iaload,1),(85,.aload_n 0,1),(86,.getfield 72,3),(89,.bipush 14,2),(91,.iload_n 3,1),(92,.iadd,1),(93,.iaload,1),(94,.if_icmp .le 6,3),(97,.iload 4,2),(99,.istore_n 3,1),(100,.iinc 4 1,3),(103,.goto (-84),3),(106,.iload_n 3,1),(107,.ireturn,1)]
set_option maxRecDepth 100000 in
theorem dkX12_begins : rf_decs prog_14_method_95_code ddX12_begins := rf_decs_of (by decide +kernel)
def q298_P : rfP := (flX12,csX12,lcX12,spX12,[q75_M,q128_M,q68_M],[(319,1),(420,0)],[(350,2,12)],([],[]))
def q298_U : rfU := []
set_option maxHeartbeats 8000000 in
def q298_N : List rfB := [(0,([(0,.inr (.inl [114])),(1,.inl (((-2147483648),2147483647,1),none))],[],[((90,28),(0,0,0),some ((90,28),0,0)),((90,29),(0,0,0),some ((90,29),0,0)),((90,36),(0,0,0),some ((90,36),0,0))]),(164,[0]),0)]
set_option maxRecDepth 100000 in
theorem q298_ok : rf_chkB q298_P q298_U wLay q298_M ddX12_begins [(1,[0]),(10,[1]),(29,[2])] [.inl 4] [0] 146 q298_N = true := by decide +kernel
set_option maxHeartbeats 4000000 in
theorem q298_met {G : rfG} (h : okG G) : rf_met G q298_M := rf_methodB h.1 (P := q298_P) (U := q298_U) (N := q298_N) ⟨wflT h flokX12, wcsT h csokX12, wlcT h lcokX12, spokX12 h, List.forall_mem_cons.mpr ⟨q75_met h, List.forall_mem_cons.mpr ⟨q128_met h, List.forall_mem_cons.mpr ⟨q68_met h, fun _ h => absurd h List.not_mem_nil⟩⟩⟩, List.forall_mem_cons.mpr ⟨fun M hM => Option.some.inj (show some q128_M = some M from hM) ▸ wlkS (lkX12_319 h) q128_M rfl rfl, List.forall_mem_cons.mpr ⟨fun M hM => Option.some.inj (show some q75_M = some M from hM) ▸ wlkS (lkX12_420 h) q75_M rfl rfl, fun _ h => absurd h List.not_mem_nil⟩⟩, List.forall_mem_cons.mpr ⟨fun M hM => Option.some.inj (show some q68_M = some M from hM) ▸ wlkV (lkX12_350 h) q68_M rfl rfl, fun _ h => absurd h List.not_mem_nil⟩, fun _ h => absurd h List.not_mem_nil, fun _ h => absurd h List.not_mem_nil⟩ dkX12_begins (by decide +kernel) (by rw [h.2.2.1]; exact q298_ok)
/-- NearSpell.crowded -/
def q299_M : rfM := ((⟨"NearSpell", "crowded", "(I)I"⟩, prog_1_method_32_code, 2, (some .int)), (1,20), ([.inr (.inl [70]),.inl (((-2147483648),(-1),1),none)],[((12,34),(0,0,0),none),((12,35),(0,0,0),none),((12,36),(0,0,0),none),((20,3),(0,0,0),none),((20,4),(0,0,0),none),((61,4),(0,0,0),none)]), [], [(some (.inl (((-1),(-1),0),none)),[],[])])
def ddX11_crowded : List (Nat × Instr × Nat) := [(0,.iload_n 1,1),(1,.invokestatic 232,3),(4,.ifCond .eq 14,3),(7,.aload_n 0,1),(8,.getfield 83,3),(11,.iload_n 1,1),(12,.invokevirtual 291,3),(15,.goto 4,3),(18,.iconst (-1),1),(19,.ireturn,1)]
set_option maxRecDepth 100000 in
theorem dkX11_crowded : rf_decs prog_1_method_32_code ddX11_crowded := rf_decs_of (by decide +kernel)
def q299_P : rfP := (flX11,csX11,lcX11,spX11,[q204_M],[(232,0)],[],([],[]))
def q299_U : rfU := []
set_option maxHeartbeats 8000000 in
def q299_N : List rfB := [(0,([(0,.inr (.inl [70])),(1,.inl (((-2147483648),(-1),1),none))],[],[((12,34),(0,0,0),some ((12,34),0,0)),((12,35),(0,0,0),some ((12,35),0,0)),((12,36),(0,0,0),some ((12,36),0,0)),((20,3),(0,0,0),some ((20,3),0,0)),((20,4),(0,0,0),some ((20,4),0,0)),((61,4),(0,0,0),some ((61,4),0,0))]),(4,[]),0)]
set_option maxRecDepth 100000 in
theorem q299_ok : rf_chkB q299_P q299_U wLay q299_M ddX11_crowded [(1,[0])] [] [0] 600 q299_N = true := by decide +kernel
set_option maxHeartbeats 4000000 in
theorem q299_met {G : rfG} (h : okG G) : rf_met G q299_M := rf_methodB h.1 (P := q299_P) (U := q299_U) (N := q299_N) ⟨wflT h flokX11, wcsT h csokX11, wlcT h lcokX11, spokX11 h, List.forall_mem_cons.mpr ⟨q204_met h, fun _ h => absurd h List.not_mem_nil⟩, List.forall_mem_cons.mpr ⟨fun M hM => Option.some.inj (show some q204_M = some M from hM) ▸ wlkS (lkX11_232 h) q204_M rfl rfl, fun _ h => absurd h List.not_mem_nil⟩, fun _ h => absurd h List.not_mem_nil, fun _ h => absurd h List.not_mem_nil, fun _ h => absurd h List.not_mem_nil⟩ dkX11_crowded (by decide +kernel) (by rw [h.2.2.1]; exact q299_ok)
/-- NearSpellModel.crowded -/
def q300_M : rfM := ((⟨"NearSpellModel", "crowded", "(I)I"⟩, prog_14_method_96_code, 4, (some .int)), (1,22), ([.inr (.inl [114]),.inl (((-2147483648),(-1),1),none)],[((90,28),(0,0,0),none),((90,29),(0,0,0),none),((90,36),(0,0,0),none),((114,44),(0,0,0),none),((114,45),(0,0,0),none)]), [], [(some (.inl (((-1),(-1),0),none)),[],[])])
def ddX12_crowded : List (Nat × Instr × Nat) := [(0,.iload_n 1,1),(1,.iconst 0,1),(2,.bipush 6,2),(4,.invokestatic 334,3),(7,.ifCond .ne 5,3),(10,.iconst (-1),1),(11,.ireturn,1),(12,.aload_n 0,1),(13,.iload_n 1,1),(14,.invokevirtual 450,3),(17,.iconst 0,1),(18,.istore_n 2,1),(19,.iconst 0,1),(20,.istore_n 3,1),(21,.iload_n 3,1),(22,.bipush 14,2),(24,.if_icmp .ge 37,3),(27,.iload_n 2,1),(28,.aload_n 0,1),(29,.iload_n 3,1),(30,.invokevirtual 350,3),(33,.ifCond .eq 19,3),(36,.aload_n 0,1),(37,.getfield 108,3),(40,.iload_n 3,1),(41,.iaload,1),(42,.iconst 1,1),(43,.iload_n 3,1),(44,.ishl,1),(45,.if_icmp .eq 7,3),(48,.iconst 1,1),(49,.goto 4,3),(52,.iconst 0,1),(53,.iadd,1),(54,.istore_n 2,1),(55,.iinc 3 1,3),(58,.goto (-37),3),(61,.iload_n 2,1),(62,.ireturn,1)]
set_option maxRecDepth 100000 in
theorem dkX12_crowded : rf_decs prog_14_method_96_code ddX12_crowded := rf_decs_of (by decide +kernel)
def q300_P : rfP := (flX12,csX12,lcX12,spX12,[q206_M],[(334,0)],[],([],[]))
def q300_U : rfU := []
set_option maxHeartbeats 8000000 in
def q300_N : List rfB := [(0,([(0,.inr (.inl [114])),(1,.inl (((-2147483648),(-1),1),none))],[],[((90,28),(0,0,0),some ((90,28),0,0)),((90,29),(0,0,0),some ((90,29),0,0)),((90,36),(0,0,0),some ((90,36),0,0)),((114,44),(0,0,0),some ((114,44),0,0)),((114,45),(0,0,0),some ((114,45),0,0))]),(6,[]),0)]
set_option maxRecDepth 100000 in
theorem q300_ok : rf_chkB q300_P q300_U wLay q300_M ddX12_crowded [(4,[0])] [] [0] 600 q300_N = true := by decide +kernel
set_option maxHeartbeats 4000000 in
theorem q300_met {G : rfG} (h : okG G) : rf_met G q300_M := rf_methodB h.1 (P := q300_P) (U := q300_U) (N := q300_N) ⟨wflT h flokX12, wcsT h csokX12, wlcT h lcokX12, spokX12 h, List.forall_mem_cons.mpr ⟨q206_met h, fun _ h => absurd h List.not_mem_nil⟩, List.forall_mem_cons.mpr ⟨fun M hM => Option.some.inj (show some q206_M = some M from hM) ▸ wlkS (lkX12_334 h) q206_M rfl rfl, fun _ h => absurd h List.not_mem_nil⟩, fun _ h => absurd h List.not_mem_nil, fun _ h => absurd h List.not_mem_nil, fun _ h => absurd h List.not_mem_nil⟩ dkX12_crowded (by decide +kernel) (by rw [h.2.2.1]; exact q300_ok)
/-- NearSpell.Web.countCrowded -/
def q301_M : rfM := ((⟨"NearSpell$Web", "countCrowded", "(I)I"⟩, prog_11_method_10_code, 4, (some .int)), (3,67), ([.inr (.inl [61]),.inl ((0,6,1),none)],[((12,34),(0,0,0),none),((12,35),(0,0,0),none),((12,36),(0,0,0),none),((20,3),(0,0,0),none),((20,4),(0,0,0),none),((61,4),(0,0,0),none)]), [(60,0),(61,5)], [(some (.inl ((0,0,0),none)),[],[((60,0),(0,0,0),none),((60,1),(0,0,0),none),((60,2),(0,0,0),none),((60,3),(0,0,0),none),((60,4),(0,0,0),none),((60,5),(0,0,0),none),((60,6),(0,0,0),none),((60,7),(0,0,0),none),((60,8),(0,0,0),none),((60,9),(0,0,0),none),((60,10),(0,0,0),none),((60,11),(0,0,0),none),((60,12),(0,0,0),none),((60,13),(0,0,0),none),((61,4),(0,0,0),none)])])
def ddX9_countCrowded : List (Nat × Instr × Nat) := [(0,.aload_n 0,1),(1,.iload_n 1,1),(2,.invokevirtual 60,3),(5,.iconst 0,1),(6,.istore_n 2,1),(7,.iconst 0,1),(8,.istore_n 3,1),(9,.iload_n 3,1),(10,.bipush 14,2),(12,.if_icmp .ge 21,3),(15,.aload_n 0,1),(16,.getfield 23,3),(19,.iload_n 3,1),(20,.iaload,1),(21,.ifCond .eq 6,3),(24,.iinc 2 1,3),(27,.iinc 3 1,3),(30,.goto (-21),3),(33,.iload_n 2,1),(34,.ireturn,1)]
set_option maxRecDepth 100000 in
theorem dkX9_countCrowded : rf_decs prog_11_method_10_code ddX9_countCrowded := rf_decs_of (by decide +kernel)
def q301_P : rfP := (flX9,csX9,lcX9,spX9,[q254_M],[],[(60,0,9)],([],[]))
def q301_U : rfU := []
set_option maxHeartbeats 8000000 in
def q301_N : List rfB := [(0,([(0,.inr (.inl [61])),(1,.inl ((0,6,1),none))],[],[((12,34),(0,0,0),some ((12,34),0,0)),((12,35),(0,0,0),some ((12,35),0,0)),((12,36),(0,0,0),some ((12,36),0,0)),((20,3),(0,0,0),some ((20,3),0,0)),((20,4),(0,0,0),some ((20,4),0,0)),((61,4),(0,0,0),some ((61,4),0,0))]),(151,[]),0)]
set_option maxRecDepth 100000 in
theorem q301_ok : rf_chkB q301_P q301_U wLay q301_M ddX9_countCrowded [(2,[0])] [] [0] 157 q301_N = true := by decide +kernel
set_option maxHeartbeats 4000000 in
theorem q301_met {G : rfG} (h : okG G) : rf_met G q301_M := rf_methodB h.1 (P := q301_P) (U := q301_U) (N := q301_N) ⟨wflT h flokX9, wcsT h csokX9, wlcT h lcokX9, spokX9 h, List.forall_mem_cons.mpr ⟨q254_met h, fun _ h => absurd h List.not_mem_nil⟩, fun _ h => absurd h List.not_mem_nil, List.forall_mem_cons.mpr ⟨fun M hM => Option.some.inj (show some q254_M = some M from hM) ▸ wlkV (lkX9_60 h) q254_M rfl rfl, fun _ h => absurd h List.not_mem_nil⟩, fun _ h => absurd h List.not_mem_nil, fun _ h => absurd h List.not_mem_nil⟩ dkX9_countCrowded (by decide +kernel) (by rw [h.2.2.1]; exact q301_ok)
/-- NearSpell.crowded -/
def q302_M : rfM := ((⟨"NearSpell", "crowded", "(I)I"⟩, prog_1_method_32_code, 2, (some .int)), (4,90), ([.inr (.inl [70]),.inl ((0,6,1),none)],[((12,34),(0,0,0),none),((12,35),(0,0,0),none),((12,36),(0,0,0),none),((20,3),(0,0,0),none),((20,4),(0,0,0),none),((61,4),(0,0,0),none)]), [(60,0),(61,5)], [(some (.inl ((0,0,0),none)),[],[((60,0),(0,0,0),none),((60,1),(0,0,0),none),((60,2),(0,0,0),none),((60,3),(0,0,0),none),((60,4),(0,0,0),none),((60,5),(0,0,0),none),((60,6),(0,0,0),none),((60,7),(0,0,0),none),((60,8),(0,0,0),none),((60,9),(0,0,0),none),((60,10),(0,0,0),none),((60,11),(0,0,0),none),((60,12),(0,0,0),none),((60,13),(0,0,0),none),((61,4),(0,0,0),none)])])
def q302_P : rfP := (flX11,csX11,lcX11,spX11,[q196_M,q301_M],[(232,0)],[(291,1,9)],([],[]))
def q302_U : rfU := []
set_option maxHeartbeats 8000000 in
def q302_N : List rfB := [(0,([(0,.inr (.inl [70])),(1,.inl ((0,6,1),none))],[],[((12,34),(0,0,0),some ((12,34),0,0)),((12,35),(0,0,0),some ((12,35),0,0)),((12,36),(0,0,0),some ((12,36),0,0)),((20,3),(0,0,0),some ((20,3),0,0)),((20,4),(0,0,0),some ((20,4),0,0)),((61,4),(0,0,0),some ((61,4),0,0))]),(8,[]),0)]
set_option maxRecDepth 100000 in
theorem q302_ok : rf_chkB q302_P q302_U wLay q302_M ddX11_crowded [(1,[0]),(12,[1])] [] [0] 600 q302_N = true := by decide +kernel
set_option maxHeartbeats 4000000 in
theorem q302_met {G : rfG} (h : okG G) : rf_met G q302_M := rf_methodB h.1 (P := q302_P) (U := q302_U) (N := q302_N) ⟨wflT h flokX11, wcsT h csokX11, wlcT h lcokX11, spokX11 h, List.forall_mem_cons.mpr ⟨q196_met h, List.forall_mem_cons.mpr ⟨q301_met h, fun _ h => absurd h List.not_mem_nil⟩⟩, List.forall_mem_cons.mpr ⟨fun M hM => Option.some.inj (show some q196_M = some M from hM) ▸ wlkS (lkX11_232 h) q196_M rfl rfl, fun _ h => absurd h List.not_mem_nil⟩, List.forall_mem_cons.mpr ⟨fun M hM => Option.some.inj (show some q301_M = some M from hM) ▸ wlkV (lkX11_291 h) q301_M rfl rfl, fun _ h => absurd h List.not_mem_nil⟩, fun _ h => absurd h List.not_mem_nil, fun _ h => absurd h List.not_mem_nil⟩ dkX11_crowded (by decide +kernel) (by rw [h.2.2.1]; exact q302_ok)
/-- NearSpellModel.isIn -/
def q303_M : rfM := ((⟨"NearSpellModel", "isIn", "(III)Z"⟩, prog_14_method_35_code, 3, (some .boolean)), (0,0), ([.inl ((0,5,1),none),.inl ((0,0,0),none),.inl (((-1),(-1),0),none)],[]), [], [(some (.inl ((0,0,0),none)),[],[])])
def q303_P : rfP := (flX12,csX12,lcX12,spX12,[],[],[],([],[]))
def q303_U : rfU := []
set_option maxHeartbeats 8000000 in
def q303_N : List rfB := [(0,([(0,.inl ((0,5,1),none)),(1,.inl ((0,0,0),none)),(2,.inl (((-1),(-1),0),none))],[],[]),(7,[]),0)]
set_option maxRecDepth 100000 in
theorem q303_ok : rf_chkB q303_P q303_U wLay q303_M ddX12_isIn [] [] [0] 600 q303_N = true := by decide +kernel
set_option maxHeartbeats 4000000 in
theorem q303_met {G : rfG} (h : okG G) : rf_met G q303_M := rf_methodB h.1 (P := q303_P) (U := q303_U) (N := q303_N) ⟨wflT h flokX12, wcsT h csokX12, wlcT h lcokX12, spokX12 h, fun _ h => absurd h List.not_mem_nil, fun _ h => absurd h List.not_mem_nil, fun _ h => absurd h List.not_mem_nil, fun _ h => absurd h List.not_mem_nil, fun _ h => absurd h List.not_mem_nil⟩ dkX12_isIn (by decide +kernel) (by rw [h.2.2.1]; exact q303_ok)
/-- NearSpellModel.isEntry -/
def q304_M : rfM := ((⟨"NearSpellModel", "isEntry", "(I)Z"⟩, prog_14_method_46_code, 2, (some .boolean)), (1,22), ([.inr (.inl [114]),.inl ((0,5,1),none)],[((90,28),(0,0,0),none),((90,29),(0,0,0),none),((90,36),(0,0,0),none)]), [], [(some (.inl ((0,0,0),none)),[],[])])
def q304_P : rfP := (flX12,csX12,lcX12,spX12,[q303_M],[(334,0)],[],([],[]))
def q304_U : rfU := []
set_option maxHeartbeats 8000000 in
def q304_N : List rfB := [(0,([(0,.inr (.inl [114])),(1,.inl ((0,5,1),none))],[],[((90,28),(0,0,0),some ((90,28),0,0)),((90,29),(0,0,0),some ((90,29),0,0)),((90,36),(0,0,0),some ((90,36),0,0))]),(11,[]),0)]
set_option maxRecDepth 100000 in
theorem q304_ok : rf_chkB q304_P q304_U wLay q304_M ddX12_isEntry [(11,[0])] [] [0] 600 q304_N = true := by decide +kernel
set_option maxHeartbeats 4000000 in
theorem q304_met {G : rfG} (h : okG G) : rf_met G q304_M := rf_methodB h.1 (P := q304_P) (U := q304_U) (N := q304_N) ⟨wflT h flokX12, wcsT h csokX12, wlcT h lcokX12, spokX12 h, List.forall_mem_cons.mpr ⟨q303_met h, fun _ h => absurd h List.not_mem_nil⟩, List.forall_mem_cons.mpr ⟨fun M hM => Option.some.inj (show some q303_M = some M from hM) ▸ wlkS (lkX12_334 h) q303_M rfl rfl, fun _ h => absurd h List.not_mem_nil⟩, fun _ h => absurd h List.not_mem_nil, fun _ h => absurd h List.not_mem_nil, fun _ h => absurd h List.not_mem_nil⟩ dkX12_isEntry (by decide +kernel) (by rw [h.2.2.1]; exact q304_ok)
/-- NearSpellModel.crowded -/
def q305_M : rfM := ((⟨"NearSpellModel", "crowded", "(I)I"⟩, prog_14_method_96_code, 4, (some .int)), (4,89), ([.inr (.inl [114]),.inl ((0,6,1),none)],[((90,28),(0,0,0),none),((90,29),(0,0,0),none),((90,36),(0,0,0),none),((114,44),(0,0,0),none),((114,45),(0,0,0),none)]), [(102,0),(103,0)], [(some (.inl ((0,0,0),none)),[],[])])
def q305_P : rfP := (flX12,csX12,lcX12,spX12,[q199_M,q258_M,q68_M],[(334,0)],[(350,2,12),(450,1,12)],([],[]))
def q305_U : rfU := []
set_option maxHeartbeats 8000000 in
def q305_N : List rfB := [(0,([(0,.inr (.inl [114])),(1,.inl ((0,6,1),none))],[],[((90,28),(0,0,0),some ((90,28),0,0)),((90,29),(0,0,0),some ((90,29),0,0)),((90,36),(0,0,0),some ((90,36),0,0)),((114,44),(0,0,0),some ((114,44),0,0)),((114,45),(0,0,0),some ((114,45),0,0))]),(223,[0]),0)]
set_option maxRecDepth 100000 in
theorem q305_ok : rf_chkB q305_P q305_U wLay q305_M ddX12_crowded [(4,[0]),(14,[1]),(30,[2])] [.inl 3] [0] 204 q305_N = true := by decide +kernel
set_option maxHeartbeats 4000000 in
theorem q305_met {G : rfG} (h : okG G) : rf_met G q305_M := rf_methodB h.1 (P := q305_P) (U := q305_U) (N := q305_N) ⟨wflT h flokX12, wcsT h csokX12, wlcT h lcokX12, spokX12 h, List.forall_mem_cons.mpr ⟨q199_met h, List.forall_mem_cons.mpr ⟨q258_met h, List.forall_mem_cons.mpr ⟨q68_met h, fun _ h => absurd h List.not_mem_nil⟩⟩⟩, List.forall_mem_cons.mpr ⟨fun M hM => Option.some.inj (show some q199_M = some M from hM) ▸ wlkS (lkX12_334 h) q199_M rfl rfl, fun _ h => absurd h List.not_mem_nil⟩, List.forall_mem_cons.mpr ⟨fun M hM => Option.some.inj (show some q68_M = some M from hM) ▸ wlkV (lkX12_350 h) q68_M rfl rfl, List.forall_mem_cons.mpr ⟨fun M hM => Option.some.inj (show some q258_M = some M from hM) ▸ wlkV (lkX12_450 h) q258_M rfl rfl, fun _ h => absurd h List.not_mem_nil⟩⟩, fun _ h => absurd h List.not_mem_nil, fun _ h => absurd h List.not_mem_nil⟩ dkX12_crowded (by decide +kernel) (by rw [h.2.2.1]; exact q305_ok)
/-- NearSpell.crowded -/
def q306_M : rfM := ((⟨"NearSpell", "crowded", "(I)I"⟩, prog_1_method_32_code, 2, (some .int)), (1,20), ([.inr (.inl [70]),.inl ((7,2147483647,1),none)],[((12,34),(0,0,0),none),((12,35),(0,0,0),none),((12,36),(0,0,0),none),((20,3),(0,0,0),none),((20,4),(0,0,0),none),((61,4),(0,0,0),none)]), [], [(some (.inl (((-1),(-1),0),none)),[],[])])
def q306_P : rfP := (flX11,csX11,lcX11,spX11,[q208_M],[(232,0)],[],([],[]))
def q306_U : rfU := []
set_option maxHeartbeats 8000000 in
def q306_N : List rfB := [(0,([(0,.inr (.inl [70])),(1,.inl ((7,2147483647,1),none))],[],[((12,34),(0,0,0),some ((12,34),0,0)),((12,35),(0,0,0),some ((12,35),0,0)),((12,36),(0,0,0),some ((12,36),0,0)),((20,3),(0,0,0),some ((20,3),0,0)),((20,4),(0,0,0),some ((20,4),0,0)),((61,4),(0,0,0),some ((61,4),0,0))]),(4,[]),0)]
set_option maxRecDepth 100000 in
theorem q306_ok : rf_chkB q306_P q306_U wLay q306_M ddX11_crowded [(1,[0])] [] [0] 600 q306_N = true := by decide +kernel
set_option maxHeartbeats 4000000 in
theorem q306_met {G : rfG} (h : okG G) : rf_met G q306_M := rf_methodB h.1 (P := q306_P) (U := q306_U) (N := q306_N) ⟨wflT h flokX11, wcsT h csokX11, wlcT h lcokX11, spokX11 h, List.forall_mem_cons.mpr ⟨q208_met h, fun _ h => absurd h List.not_mem_nil⟩, List.forall_mem_cons.mpr ⟨fun M hM => Option.some.inj (show some q208_M = some M from hM) ▸ wlkS (lkX11_232 h) q208_M rfl rfl, fun _ h => absurd h List.not_mem_nil⟩, fun _ h => absurd h List.not_mem_nil, fun _ h => absurd h List.not_mem_nil, fun _ h => absurd h List.not_mem_nil⟩ dkX11_crowded (by decide +kernel) (by rw [h.2.2.1]; exact q306_ok)
/-- NearSpellModel.crowded -/
def q307_M : rfM := ((⟨"NearSpellModel", "crowded", "(I)I"⟩, prog_14_method_96_code, 4, (some .int)), (1,22), ([.inr (.inl [114]),.inl ((7,2147483647,1),none)],[((90,28),(0,0,0),none),((90,29),(0,0,0),none),((90,36),(0,0,0),none),((114,44),(0,0,0),none),((114,45),(0,0,0),none)]), [], [(some (.inl (((-1),(-1),0),none)),[],[])])
def q307_P : rfP := (flX12,csX12,lcX12,spX12,[q210_M],[(334,0)],[],([],[]))
def q307_U : rfU := []
set_option maxHeartbeats 8000000 in
def q307_N : List rfB := [(0,([(0,.inr (.inl [114])),(1,.inl ((7,2147483647,1),none))],[],[((90,28),(0,0,0),some ((90,28),0,0)),((90,29),(0,0,0),some ((90,29),0,0)),((90,36),(0,0,0),some ((90,36),0,0)),((114,44),(0,0,0),some ((114,44),0,0)),((114,45),(0,0,0),some ((114,45),0,0))]),(6,[]),0)]
set_option maxRecDepth 100000 in
theorem q307_ok : rf_chkB q307_P q307_U wLay q307_M ddX12_crowded [(4,[0])] [] [0] 600 q307_N = true := by decide +kernel
set_option maxHeartbeats 4000000 in
theorem q307_met {G : rfG} (h : okG G) : rf_met G q307_M := rf_methodB h.1 (P := q307_P) (U := q307_U) (N := q307_N) ⟨wflT h flokX12, wcsT h csokX12, wlcT h lcokX12, spokX12 h, List.forall_mem_cons.mpr ⟨q210_met h, fun _ h => absurd h List.not_mem_nil⟩, List.forall_mem_cons.mpr ⟨fun M hM => Option.some.inj (show some q210_M = some M from hM) ▸ wlkS (lkX12_334 h) q210_M rfl rfl, fun _ h => absurd h List.not_mem_nil⟩, fun _ h => absurd h List.not_mem_nil, fun _ h => absurd h List.not_mem_nil, fun _ h => absurd h List.not_mem_nil⟩ dkX12_crowded (by decide +kernel) (by rw [h.2.2.1]; exact q307_ok)
/-- NearSpell.load -/
def q308_M : rfM := ((⟨"NearSpell", "load", "(I)I"⟩, prog_1_method_33_code, 2, (some .int)), (0,0), ([.inr (.inl [70]),.inl (((-2147483648),(-1),1),none)],[((5,5),(4,4,0),none),((5,6),(2,2,0),none),((5,7),(13,13,0),none),((5,11),(0,0,0),none),((5,12),(0,0,0),none),((10,5),(4,4,0),none),((10,6),(2,2,0),none),((10,7),(13,13,0),none),((10,11),(0,0,0),none),((10,12),(0,0,0),none),((12,34),(0,0,0),none),((12,35),(0,0,0),none),((12,36),(0,0,0),none)]), [], [(some (.inl (((-1),(-1),0),none)),[],[])])
def ddX11_load : List (Nat × Instr × Nat) := [(0,.iload_n 1,1),(1,.ifCond .lt 25,3),(4,.iload_n 1,1),(5,.aload_n 0,1),(6,.getfield 16,3),(9,.getfield 294,3),(12,.if_icmp .ge 14,3),(15,.aload_n 0,1),(16,.getfield 58,3),(19,.iload_n 1,1),(20,.invokevirtual 297,3),(23,.goto 4,3),(26,.iconst (-1),1),(27,.ireturn,1)]
set_option maxRecDepth 100000 in
theorem dkX11_load : rf_decs prog_1_method_33_code ddX11_load := rf_decs_of (by decide +kernel)
def q308_P : rfP := (flX11,csX11,lcX11,spX11,[],[],[],([],[]))
def q308_U : rfU := []
set_option maxHeartbeats 8000000 in
def q308_N : List rfB := [(0,([(0,.inr (.inl [70])),(1,.inl (((-2147483648),(-1),1),none))],[],[((5,5),(4,4,0),some ((5,5),0,0)),((5,6),(2,2,0),some ((5,6),0,0)),((5,7),(13,13,0),some ((5,7),0,0)),((5,11),(0,0,0),some ((5,11),0,0)),((5,12),(0,0,0),some ((5,12),0,0)),((10,5),(4,4,0),some ((10,5),0,0)),((10,6),(2,2,0),some ((10,6),0,0)),((10,7),(13,13,0),some ((10,7),0,0)),((10,11),(0,0,0),some ((10,11),0,0)),((10,12),(0,0,0),some ((10,12),0,0)),((12,34),(0,0,0),some ((12,34),0,0)),((12,35),(0,0,0),some ((12,35),0,0)),((12,36),(0,0,0),some ((12,36),0,0))]),(3,[]),0)]
set_option maxRecDepth 100000 in
theorem q308_ok : rf_chkB q308_P q308_U wLay q308_M ddX11_load [] [] [0] 600 q308_N = true := by decide +kernel
set_option maxHeartbeats 4000000 in
theorem q308_met {G : rfG} (h : okG G) : rf_met G q308_M := rf_methodB h.1 (P := q308_P) (U := q308_U) (N := q308_N) ⟨wflT h flokX11, wcsT h csokX11, wlcT h lcokX11, spokX11 h, fun _ h => absurd h List.not_mem_nil, fun _ h => absurd h List.not_mem_nil, fun _ h => absurd h List.not_mem_nil, fun _ h => absurd h List.not_mem_nil, fun _ h => absurd h List.not_mem_nil⟩ dkX11_load (by decide +kernel) (by rw [h.2.2.1]; exact q308_ok)
/-- NearSpellModel.isIn -/
def q309_M : rfM := ((⟨"NearSpellModel", "isIn", "(III)Z"⟩, prog_14_method_35_code, 3, (some .boolean)), (0,0), ([.inl (((-2147483648),0,1),none),.inl ((0,0,0),none),.inl ((12,12,0),none)],[]), [], [(some (.inl ((1,1,0),none)),[(0,0,0)],[]),(some (.inl ((0,0,0),none)),[(0,(-2147483648),(-1))],[])])
def q309_P : rfP := (flX12,csX12,lcX12,spX12,[],[],[],([],[]))
def q309_U : rfU := []
set_option maxHeartbeats 8000000 in
def q309_N : List rfB := [(0,([(0,.inl (((-2147483648),0,1),none)),(1,.inl ((0,0,0),none)),(2,.inl ((12,12,0),none))],[],[]),(10,[]),0)]
set_option maxRecDepth 100000 in
theorem q309_ok : rf_chkB q309_P q309_U wLay q309_M ddX12_isIn [] [] [0] 600 q309_N = true := by decide +kernel
set_option maxHeartbeats 4000000 in
theorem q309_met {G : rfG} (h : okG G) : rf_met G q309_M := rf_methodB h.1 (P := q309_P) (U := q309_U) (N := q309_N) ⟨wflT h flokX12, wcsT h csokX12, wlcT h lcokX12, spokX12 h, fun _ h => absurd h List.not_mem_nil, fun _ h => absurd h List.not_mem_nil, fun _ h => absurd h List.not_mem_nil, fun _ h => absurd h List.not_mem_nil, fun _ h => absurd h List.not_mem_nil⟩ dkX12_isIn (by decide +kernel) (by rw [h.2.2.1]; exact q309_ok)
/-- NearSpellModel.load -/
def q310_M : rfM := ((⟨"NearSpellModel", "load", "(I)I"⟩, prog_14_method_98_code, 3, (some .int)), (1,22), ([.inr (.inl [114]),.inl (((-2147483648),(-1),1),none)],[((75,0),(4,4,0),none),((76,0),(2,2,0),none),((77,0),(13,13,0),none),((80,0),(0,0,0),none),((90,28),(0,0,0),none),((90,29),(0,0,0),none),((90,36),(0,0,0),none),((114,28),(0,0,0),none),((114,34),(0,0,0),none),((114,39),(0,0,0),none)]), [], [(some (.inl (((-1),(-1),0),none)),[],[])])
def ddX12_load : List (Nat × Instr × Nat) := [(0,.iload_n 1,1),(1,.iconst 0,1),(2,.aload_n 0,1),(3,.getfield 33,3),(6,.aload_n 0,1),(7,.getfield 242,3),(10,.iaload,1),(11,.iconst 1,1),(12,.isub,1),(13,.invokestatic 334,3),(16,.ifCond .ne 5,3),(19,.iconst (-1),1),(20,.ireturn,1),(21,.aload_n 0,1),(22,.aload_n 0,1),(23,.invokevirtual 372,3),(26,.invokevirtual 375,3),(29,.istore_n 2,1),(30,.iload_n 2,1),(31,.ifCond .ne 7,3),(34,.iconst 0,1),(35,.goto 8,3),(38,.aload_n 0,1),(39,.iload_n 1,1),(40,.invokevirtual 462,3),(43,.ireturn,1)]
set_option maxRecDepth 100000 in
theorem dkX12_load : rf_decs prog_14_method_98_code ddX12_load := rf_decs_of (by decide +kernel)
def q310_P : rfP := (flX12,csX12,lcX12,spX12,[q309_M],[(334,0)],[],([],[]))
def q310_U : rfU := []
set_option maxHeartbeats 8000000 in
def q310_N : List rfB := [(0,([(0,.inr (.inl [114])),(1,.inl (((-2147483648),(-1),1),none))],[],[((75,0),(4,4,0),some ((75,0),0,0)),((76,0),(2,2,0),some ((76,0),0,0)),((77,0),(13,13,0),some ((77,0),0,0)),((80,0),(0,0,0),some ((80,0),0,0)),((90,28),(0,0,0),some ((90,28),0,0)),((90,29),(0,0,0),some ((90,29),0,0)),((90,36),(0,0,0),some ((90,36),0,0)),((114,28),(0,0,0),some ((114,28),0,0)),((114,34),(0,0,0),some ((114,34),0,0)),((114,39),(0,0,0),some ((114,39),0,0))]),(12,[]),0)]
set_option maxRecDepth 100000 in
theorem q310_ok : rf_chkB q310_P q310_U wLay q310_M ddX12_load [(13,[0])] [] [0] 600 q310_N = true := by decide +kernel
set_option maxHeartbeats 4000000 in
theorem q310_met {G : rfG} (h : okG G) : rf_met G q310_M := rf_methodB h.1 (P := q310_P) (U := q310_U) (N := q310_N) ⟨wflT h flokX12, wcsT h csokX12, wlcT h lcokX12, spokX12 h, List.forall_mem_cons.mpr ⟨q309_met h, fun _ h => absurd h List.not_mem_nil⟩, List.forall_mem_cons.mpr ⟨fun M hM => Option.some.inj (show some q309_M = some M from hM) ▸ wlkS (lkX12_334 h) q309_M rfl rfl, fun _ h => absurd h List.not_mem_nil⟩, fun _ h => absurd h List.not_mem_nil, fun _ h => absurd h List.not_mem_nil, fun _ h => absurd h List.not_mem_nil⟩ dkX12_load (by decide +kernel) (by rw [h.2.2.1]; exact q310_ok)
/-- NearSpell.Laid.refresh -/
def q311_M : rfM := ((⟨"NearSpell$Laid", "refresh", "()V"⟩, prog_6_method_4_code, 2, none), (1,20), ([.inr (.inl [53])],[((5,5),(4,4,0),none),((5,6),(2,2,0),none),((10,5),(4,4,0),none),((10,6),(2,2,0),none),((12,34),(0,0,0),none),((12,35),(0,0,0),none),((12,36),(0,0,0),none)]), [], [(none,[],[])])
def ddX4_refresh : List (Nat × Instr × Nat) := [(0,.iconst 0,1),(1,.istore_n 1,1),(2,.iload_n 1,1),(3,.aload_n 0,1),(4,.getfield 15,3),(7,.invokevirtual 57,3),(10,.if_icmp .ge 49,3),(13,.iload_n 1,1),(14,.aload_n 0,1),(15,.getfield 21,3),(18,.arraylength,1),(19,.if_icmp .ge 40,3),(22,.aload_n 0,1),(23,.getfield 21,3),(26,.iload_n 1,1),(27,.aaload,1),(28,.aload_n 0,1),(29,.getfield 15,3),(32,.iload_n 1,1),(33,.invokevirtual 51,3),(36,.aload_n 0,1),(37,.getfield 9,3),(40,.getfield 34,3),(43,.aload_n 0,1),(44,.getfield 9,3),(47,.getfield 40,3),(50,.invokevirtual 43,3),(53,.iinc 1 1,3),(56,.goto (-54),3),(59,.return_,1)]
set_option maxRecDepth 100000 in
theorem dkX4_refresh : rf_decs prog_6_method_4_code ddX4_refresh := rf_decs_of (by decide +kernel)
def q311_P : rfP := (flX4,csX4,lcX4,spX4,[q46_M],[],[(57,0,8)],([],[]))
def q311_U : rfU := []
set_option maxHeartbeats 8000000 in
def q311_N : List rfB := [(0,([(0,.inr (.inl [53]))],[],[((5,5),(4,4,0),some ((5,5),0,0)),((5,6),(2,2,0),some ((5,6),0,0)),((10,5),(4,4,0),some ((10,5),0,0)),((10,6),(2,2,0),some ((10,6),0,0)),((12,34),(0,0,0),some ((12,34),0,0)),((12,35),(0,0,0),some ((12,35),0,0)),((12,36),(0,0,0),some ((12,36),0,0))]),(7,[]),0)]
set_option maxRecDepth 100000 in
theorem q311_ok : rf_chkB q311_P q311_U wLay q311_M ddX4_refresh [(7,[0])] [] [0] 600 q311_N = true := by decide +kernel
set_option maxHeartbeats 4000000 in
theorem q311_met {G : rfG} (h : okG G) : rf_met G q311_M := rf_methodB h.1 (P := q311_P) (U := q311_U) (N := q311_N) ⟨wflT h flokX4, wcsT h csokX4, wlcT h lcokX4, spokX4 h, List.forall_mem_cons.mpr ⟨q46_met h, fun _ h => absurd h List.not_mem_nil⟩, fun _ h => absurd h List.not_mem_nil, List.forall_mem_cons.mpr ⟨fun M hM => Option.some.inj (show some q46_M = some M from hM) ▸ wlkV (lkX4_57 h) q46_M rfl rfl, fun _ h => absurd h List.not_mem_nil⟩, fun _ h => absurd h List.not_mem_nil, fun _ h => absurd h List.not_mem_nil⟩ dkX4_refresh (by decide +kernel) (by rw [h.2.2.1]; exact q311_ok)
/-- NearSpell.Laid.tally -/
def q312_M : rfM := ((⟨"NearSpell$Laid", "tally", "(Z)V"⟩, prog_6_method_12_code, 3, none), (2,41), ([.inr (.inl [53]),.inl ((0,0,0),none)],[((5,5),(4,4,0),none),((5,6),(2,2,0),none),((5,7),(13,13,0),none),((5,11),(0,0,0),none),((5,12),(0,0,0),none),((10,5),(4,4,0),none),((10,6),(2,2,0),none),((10,7),(13,13,0),none),((10,11),(0,0,0),none),((10,12),(0,0,0),none),((12,34),(0,0,0),none),((12,35),(0,0,0),none),((12,36),(0,0,0),none)]), [(52,0)], [(none,[],[((52,0),(0,0,0),none),((52,1),(0,0,0),none),((52,2),(0,0,0),none),((52,3),(0,0,0),none),((52,4),(0,0,0),none),((52,5),(0,0,0),none),((52,6),(0,0,0),none),((52,7),(0,0,0),none),((52,8),(0,0,0),none),((52,9),(0,0,0),none),((52,10),(0,0,0),none),((52,11),(0,0,0),none),((52,12),(0,0,0),none),((52,13),(0,0,0),none),((52,14),(0,0,0),none),((52,15),(0,0,0),none),((52,16),(0,0,0),none),((52,17),(0,0,0),none),((52,18),(0,0,0),none),((52,19),(0,0,0),none),((52,20),(0,0,0),none),((52,21),(0,0,0),none),((52,22),(0,0,0),none),((52,23),(0,0,0),none),((52,24),(0,0,0),none),((52,25),(0,0,0),none),((52,26),(0,0,0),none),((52,27),(0,0,0),none),((52,28),(0,0,0),none),((52,29),(0,0,0),none),((52,30),(0,0,0),none)])])
def ddX4_tally : List (Nat × Instr × Nat) := [(0,.aload_n 0,1),(1,.invokevirtual 72,3),(4,.iconst 0,1),(5,.istore_n 2,1),(6,.iload_n 2,1),(7,.bipush 31,2),(9,.if_icmp .ge 16,3),(12,.aload_n 0,1),(13,.getfield 30,3),(16,.iload_n 2,1),(17,.iconst 0,1),(18,.iastore,1),(19,.iinc 2 1,3),(22,.goto (-16),3),(25,.iconst 0,1),(26,.istore_n 2,1),(27,.iload_n 2,1),(28,.aload_n 0,1),(29,.getfield 15,3),(32,.invokevirtual 57,3),(35,.if_icmp .ge 26,3),(38,.aload_n 0,1),(39,.getfield 15,3),(42,.iload_n 2,1),(43,.invokevirtual 65,3),(46,.ifCond .eq 9,3),(49,.aload_n 0,1),(50,.iload_n 2,1),(51,.iload_n 1,1),(52,.invokevirtual 88,3),(55,.iinc 2 1,3),(58,.goto (-31),3),(61,.return_,1)]
set_option maxRecDepth 100000 in
theorem dkX4_tally : rf_decs prog_6_method_12_code ddX4_tally := rf_decs_of (by decide +kernel)
def q312_P : rfP := (flX4,csX4,lcX4,spX4,[q311_M,q46_M],[],[(57,1,8),(72,0,4)],([],[]))
def q312_U : rfU := []
set_option maxHeartbeats 8000000 in
def q312_N : List rfB := [(0,([(0,.inr (.inl [53])),(1,.inl ((0,0,0),none))],[],[((5,5),(4,4,0),some ((5,5),0,0)),((5,6),(2,2,0),some ((5,6),0,0)),((5,7),(13,13,0),some ((5,7),0,0)),((5,11),(0,0,0),some ((5,11),0,0)),((5,12),(0,0,0),some ((5,12),0,0)),((10,5),(4,4,0),some ((10,5),0,0)),((10,6),(2,2,0),some ((10,6),0,0)),((10,7),(13,13,0),some ((10,7),0,0)),((10,11),(0,0,0),some ((10,11),0,0)),((10,12),(0,0,0),some ((10,12),0,0)),((12,34),(0,0,0),some ((12,34),0,0)),((12,35),(0,0,0),some ((12,35),0,0)),((12,36),(0,0,0),some ((12,36),0,0))]),(324,[]),0)]
set_option maxRecDepth 100000 in
theorem q312_ok : rf_chkB q312_P q312_U wLay q312_M ddX4_tally [(1,[0]),(32,[1])] [] [0] 330 q312_N = true := by decide +kernel
set_option maxHeartbeats 4000000 in
theorem q312_met {G : rfG} (h : okG G) : rf_met G q312_M := rf_methodB h.1 (P := q312_P) (U := q312_U) (N := q312_N) ⟨wflT h flokX4, wcsT h csokX4, wlcT h lcokX4, spokX4 h, List.forall_mem_cons.mpr ⟨q311_met h, List.forall_mem_cons.mpr ⟨q46_met h, fun _ h => absurd h List.not_mem_nil⟩⟩, fun _ h => absurd h List.not_mem_nil, List.forall_mem_cons.mpr ⟨fun M hM => Option.some.inj (show some q46_M = some M from hM) ▸ wlkV (lkX4_57 h) q46_M rfl rfl, List.forall_mem_cons.mpr ⟨fun M hM => Option.some.inj (show some q311_M = some M from hM) ▸ wlkV (lkX4_72 h) q311_M rfl rfl, fun _ h => absurd h List.not_mem_nil⟩⟩, fun _ h => absurd h List.not_mem_nil, fun _ h => absurd h List.not_mem_nil⟩ dkX4_tally (by decide +kernel) (by rw [h.2.2.1]; exact q312_ok)
/-- NearSpell.Laid.countIn -/
def q313_M : rfM := ((⟨"NearSpell$Laid", "countIn", "(I)I"⟩, prog_6_method_5_code, 2, (some .int)), (3,63), ([.inr (.inl [53]),.inl ((0,0,0),none)],[((5,5),(4,4,0),none),((5,6),(2,2,0),none),((5,7),(13,13,0),none),((5,11),(0,0,0),none),((5,12),(0,0,0),none),((10,5),(4,4,0),none),((10,6),(2,2,0),none),((10,7),(13,13,0),none),((10,11),(0,0,0),none),((10,12),(0,0,0),none),((12,34),(0,0,0),none),((12,35),(0,0,0),none),((12,36),(0,0,0),none)]), [(52,0)], [(some (.inl ((0,0,0),none)),[],[((52,0),(0,0,0),none),((52,1),(0,0,0),none),((52,2),(0,0,0),none),((52,3),(0,0,0),none),((52,4),(0,0,0),none),((52,5),(0,0,0),none),((52,6),(0,0,0),none),((52,7),(0,0,0),none),((52,8),(0,0,0),none),((52,9),(0,0,0),none),((52,10),(0,0,0),none),((52,11),(0,0,0),none),((52,12),(0,0,0),none),((52,13),(0,0,0),none),((52,14),(0,0,0),none),((52,15),(0,0,0),none),((52,16),(0,0,0),none),((52,17),(0,0,0),none),((52,18),(0,0,0),none),((52,19),(0,0,0),none),((52,20),(0,0,0),none),((52,21),(0,0,0),none),((52,22),(0,0,0),none),((52,23),(0,0,0),none),((52,24),(0,0,0),none),((52,25),(0,0,0),none),((52,26),(0,0,0),none),((52,27),(0,0,0),none),((52,28),(0,0,0),none),((52,29),(0,0,0),none),((52,30),(0,0,0),none)])])
def ddX4_countIn : List (Nat × Instr × Nat) := [(0,.aload_n 0,1),(1,.iconst 0,1),(2,.invokevirtual 61,3),(5,.iload_n 1,1),(6,.ifCond .lt 18,3),(9,.iload_n 1,1),(10,.bipush 31,2),(12,.if_icmp .ge 12,3),(15,.aload_n 0,1),(16,.getfield 30,3),(19,.iload_n 1,1),(20,.iaload,1),(21,.goto 4,3),(24,.iconst 0,1),(25,.ireturn,1)]
set_option maxRecDepth 100000 in
theorem dkX4_countIn : rf_decs prog_6_method_5_code ddX4_countIn := rf_decs_of (by decide +kernel)
def q313_P : rfP := (flX4,csX4,lcX4,spX4,[q312_M],[],[(61,0,4)],([],[]))
def q313_U : rfU := []
set_option maxHeartbeats 8000000 in
def q313_N : List rfB := [(0,([(0,.inr (.inl [53])),(1,.inl ((0,0,0),none))],[],[((5,5),(4,4,0),some ((5,5),0,0)),((5,6),(2,2,0),some ((5,6),0,0)),((5,7),(13,13,0),some ((5,7),0,0)),((5,11),(0,0,0),some ((5,11),0,0)),((5,12),(0,0,0),some ((5,12),0,0)),((10,5),(4,4,0),some ((10,5),0,0)),((10,6),(2,2,0),some ((10,6),0,0)),((10,7),(13,13,0),some ((10,7),0,0)),((10,11),(0,0,0),some ((10,11),0,0)),((10,12),(0,0,0),some ((10,12),0,0)),((12,34),(0,0,0),some ((12,34),0,0)),((12,35),(0,0,0),some ((12,35),0,0)),((12,36),(0,0,0),some ((12,36),0,0))]),(13,[]),0)]
set_option maxRecDepth 100000 in
theorem q313_ok : rf_chkB q313_P q313_U wLay q313_M ddX4_countIn [(2,[0])] [] [0] 600 q313_N = true := by decide +kernel
set_option maxHeartbeats 4000000 in
theorem q313_met {G : rfG} (h : okG G) : rf_met G q313_M := rf_methodB h.1 (P := q313_P) (U := q313_U) (N := q313_N) ⟨wflT h flokX4, wcsT h csokX4, wlcT h lcokX4, spokX4 h, List.forall_mem_cons.mpr ⟨q312_met h, fun _ h => absurd h List.not_mem_nil⟩, fun _ h => absurd h List.not_mem_nil, List.forall_mem_cons.mpr ⟨fun M hM => Option.some.inj (show some q312_M = some M from hM) ▸ wlkV (lkX4_61 h) q312_M rfl rfl, fun _ h => absurd h List.not_mem_nil⟩, fun _ h => absurd h List.not_mem_nil, fun _ h => absurd h List.not_mem_nil⟩ dkX4_countIn (by decide +kernel) (by rw [h.2.2.1]; exact q313_ok)
/-- NearSpell.load -/
def q314_M : rfM := ((⟨"NearSpell", "load", "(I)I"⟩, prog_1_method_33_code, 2, (some .int)), (4,84), ([.inr (.inl [70]),.inl ((0,0,0),none)],[((5,5),(4,4,0),none),((5,6),(2,2,0),none),((5,7),(13,13,0),none),((5,11),(0,0,0),none),((5,12),(0,0,0),none),((10,5),(4,4,0),none),((10,6),(2,2,0),none),((10,7),(13,13,0),none),((10,11),(0,0,0),none),((10,12),(0,0,0),none),((12,34),(0,0,0),none),((12,35),(0,0,0),none),((12,36),(0,0,0),none)]), [(52,0)], [(some (.inl ((0,0,0),none)),[],[((52,0),(0,0,0),none),((52,1),(0,0,0),none),((52,2),(0,0,0),none),((52,3),(0,0,0),none),((52,4),(0,0,0),none),((52,5),(0,0,0),none),((52,6),(0,0,0),none),((52,7),(0,0,0),none),((52,8),(0,0,0),none),((52,9),(0,0,0),none),((52,10),(0,0,0),none),((52,11),(0,0,0),none),((52,12),(0,0,0),none),((52,13),(0,0,0),none),((52,14),(0,0,0),none),((52,15),(0,0,0),none),((52,16),(0,0,0),none),((52,17),(0,0,0),none),((52,18),(0,0,0),none),((52,19),(0,0,0),none),((52,20),(0,0,0),none),((52,21),(0,0,0),none),((52,22),(0,0,0),none),((52,23),(0,0,0),none),((52,24),(0,0,0),none),((52,25),(0,0,0),none),((52,26),(0,0,0),none),((52,27),(0,0,0),none),((52,28),(0,0,0),none),((52,29),(0,0,0),none),((52,30),(0,0,0),none)])])
def q314_P : rfP := (flX11,csX11,lcX11,spX11,[q313_M],[],[(297,0,4)],([],[]))
def q314_U : rfU := []
set_option maxHeartbeats 8000000 in
def q314_N : List rfB := [(0,([(0,.inr (.inl [70])),(1,.inl ((0,0,0),none))],[],[((5,5),(4,4,0),some ((5,5),0,0)),((5,6),(2,2,0),some ((5,6),0,0)),((5,7),(13,13,0),some ((5,7),0,0)),((5,11),(0,0,0),some ((5,11),0,0)),((5,12),(0,0,0),some ((5,12),0,0)),((10,5),(4,4,0),some ((10,5),0,0)),((10,6),(2,2,0),some ((10,6),0,0)),((10,7),(13,13,0),some ((10,7),0,0)),((10,11),(0,0,0),some ((10,11),0,0)),((10,12),(0,0,0),some ((10,12),0,0)),((12,34),(0,0,0),some ((12,34),0,0)),((12,35),(0,0,0),some ((12,35),0,0)),((12,36),(0,0,0),some ((12,36),0,0))]),(12,[]),0)]
set_option maxRecDepth 100000 in
theorem q314_ok : rf_chkB q314_P q314_U wLay q314_M ddX11_load [(20,[0])] [] [0] 600 q314_N = true := by decide +kernel
set_option maxHeartbeats 4000000 in
theorem q314_met {G : rfG} (h : okG G) : rf_met G q314_M := rf_methodB h.1 (P := q314_P) (U := q314_U) (N := q314_N) ⟨wflT h flokX11, wcsT h csokX11, wlcT h lcokX11, spokX11 h, List.forall_mem_cons.mpr ⟨q313_met h, fun _ h => absurd h List.not_mem_nil⟩, fun _ h => absurd h List.not_mem_nil, List.forall_mem_cons.mpr ⟨fun M hM => Option.some.inj (show some q313_M = some M from hM) ▸ wlkV (lkX11_297 h) q313_M rfl rfl, fun _ h => absurd h List.not_mem_nil⟩, fun _ h => absurd h List.not_mem_nil, fun _ h => absurd h List.not_mem_nil⟩ dkX11_load (by decide +kernel) (by rw [h.2.2.1]; exact q314_ok)
/-- NearSpellModel.isIn -/
def q315_M : rfM := ((⟨"NearSpellModel", "isIn", "(III)Z"⟩, prog_14_method_35_code, 3, (some .boolean)), (0,0), ([.inl ((0,0,0),none),.inl ((0,0,0),none),.inl ((12,12,0),none)],[]), [], [(some (.inl ((1,1,0),none)),[],[])])
def q315_P : rfP := (flX12,csX12,lcX12,spX12,[],[],[],([],[]))
def q315_U : rfU := []
set_option maxHeartbeats 8000000 in
def q315_N : List rfB := [(0,([(0,.inl ((0,0,0),none)),(1,.inl ((0,0,0),none)),(2,.inl ((12,12,0),none))],[],[]),(8,[]),0)]
set_option maxRecDepth 100000 in
theorem q315_ok : rf_chkB q315_P q315_U wLay q315_M ddX12_isIn [] [] [0] 600 q315_N = true := by decide +kernel
set_option maxHeartbeats 4000000 in
theorem q315_met {G : rfG} (h : okG G) : rf_met G q315_M := rf_methodB h.1 (P := q315_P) (U := q315_U) (N := q315_N) ⟨wflT h flokX12, wcsT h csokX12, wlcT h lcokX12, spokX12 h, fun _ h => absurd h List.not_mem_nil, fun _ h => absurd h List.not_mem_nil, fun _ h => absurd h List.not_mem_nil, fun _ h => absurd h List.not_mem_nil, fun _ h => absurd h List.not_mem_nil⟩ dkX12_isIn (by decide +kernel) (by rw [h.2.2.1]; exact q315_ok)
/-- NearSpellModel.load -/
def q316_M : rfM := ((⟨"NearSpellModel", "load", "(I)I"⟩, prog_14_method_98_code, 3, (some .int)), (3,67), ([.inr (.inl [114]),.inl ((0,0,0),none)],[((75,0),(4,4,0),none),((76,0),(2,2,0),none),((77,0),(13,13,0),none),((80,0),(0,0,0),none),((90,28),(0,0,0),none),((90,29),(0,0,0),none),((90,36),(0,0,0),none),((114,28),(0,0,0),none),((114,34),(0,0,0),none),((114,39),(0,0,0),none)]), [(93,0)], [(some (.inl ((0,0,0),none)),[],[])])
def q316_P : rfP := (flX12,csX12,lcX12,spX12,[q315_M,q118_M,q174_M],[(334,0)],[(372,1,12),(375,2,12)],([],[]))
def q316_U : rfU := []
set_option maxHeartbeats 8000000 in
def q316_N : List rfB := [(0,([(0,.inr (.inl [114])),(1,.inl ((0,0,0),none))],[],[((75,0),(4,4,0),some ((75,0),0,0)),((76,0),(2,2,0),some ((76,0),0,0)),((77,0),(13,13,0),some ((77,0),0,0)),((80,0),(0,0,0),some ((80,0),0,0)),((90,28),(0,0,0),some ((90,28),0,0)),((90,29),(0,0,0),some ((90,29),0,0)),((90,36),(0,0,0),some ((90,36),0,0)),((114,28),(0,0,0),some ((114,28),0,0)),((114,34),(0,0,0),some ((114,34),0,0)),((114,39),(0,0,0),some ((114,39),0,0))]),(20,[]),0)]
set_option maxRecDepth 100000 in
theorem q316_ok : rf_chkB q316_P q316_U wLay q316_M ddX12_load [(13,[0]),(23,[1]),(26,[2])] [] [0] 600 q316_N = true := by decide +kernel
set_option maxHeartbeats 4000000 in
theorem q316_met {G : rfG} (h : okG G) : rf_met G q316_M := rf_methodB h.1 (P := q316_P) (U := q316_U) (N := q316_N) ⟨wflT h flokX12, wcsT h csokX12, wlcT h lcokX12, spokX12 h, List.forall_mem_cons.mpr ⟨q315_met h, List.forall_mem_cons.mpr ⟨q118_met h, List.forall_mem_cons.mpr ⟨q174_met h, fun _ h => absurd h List.not_mem_nil⟩⟩⟩, List.forall_mem_cons.mpr ⟨fun M hM => Option.some.inj (show some q315_M = some M from hM) ▸ wlkS (lkX12_334 h) q315_M rfl rfl, fun _ h => absurd h List.not_mem_nil⟩, List.forall_mem_cons.mpr ⟨fun M hM => Option.some.inj (show some q118_M = some M from hM) ▸ wlkV (lkX12_372 h) q118_M rfl rfl, List.forall_mem_cons.mpr ⟨fun M hM => Option.some.inj (show some q174_M = some M from hM) ▸ wlkV (lkX12_375 h) q174_M rfl rfl, fun _ h => absurd h List.not_mem_nil⟩⟩, fun _ h => absurd h List.not_mem_nil, fun _ h => absurd h List.not_mem_nil⟩ dkX12_load (by decide +kernel) (by rw [h.2.2.1]; exact q316_ok)
/-- NearSpell.Laid.countIn -/
def q317_M : rfM := ((⟨"NearSpell$Laid", "countIn", "(I)I"⟩, prog_6_method_5_code, 2, (some .int)), (3,63), ([.inr (.inl [53]),.inl ((1,1,0),none)],[((5,5),(4,4,0),none),((5,6),(2,2,0),none),((5,7),(13,13,0),none),((5,11),(0,0,0),none),((5,12),(0,0,0),none),((10,5),(4,4,0),none),((10,6),(2,2,0),none),((10,7),(13,13,0),none),((10,11),(0,0,0),none),((10,12),(0,0,0),none),((12,34),(0,0,0),none),((12,35),(0,0,0),none),((12,36),(0,0,0),none)]), [(52,0)], [(some (.inl ((0,0,0),none)),[],[((52,0),(0,0,0),none),((52,1),(0,0,0),none),((52,2),(0,0,0),none),((52,3),(0,0,0),none),((52,4),(0,0,0),none),((52,5),(0,0,0),none),((52,6),(0,0,0),none),((52,7),(0,0,0),none),((52,8),(0,0,0),none),((52,9),(0,0,0),none),((52,10),(0,0,0),none),((52,11),(0,0,0),none),((52,12),(0,0,0),none),((52,13),(0,0,0),none),((52,14),(0,0,0),none),((52,15),(0,0,0),none),((52,16),(0,0,0),none),((52,17),(0,0,0),none),((52,18),(0,0,0),none),((52,19),(0,0,0),none),((52,20),(0,0,0),none),((52,21),(0,0,0),none),((52,22),(0,0,0),none),((52,23),(0,0,0),none),((52,24),(0,0,0),none),((52,25),(0,0,0),none),((52,26),(0,0,0),none),((52,27),(0,0,0),none),((52,28),(0,0,0),none),((52,29),(0,0,0),none),((52,30),(0,0,0),none)])])
def q317_P : rfP := (flX4,csX4,lcX4,spX4,[q312_M],[],[(61,0,4)],([],[]))
def q317_U : rfU := []
set_option maxHeartbeats 8000000 in
def q317_N : List rfB := [(0,([(0,.inr (.inl [53])),(1,.inl ((1,1,0),none))],[],[((5,5),(4,4,0),some ((5,5),0,0)),((5,6),(2,2,0),some ((5,6),0,0)),((5,7),(13,13,0),some ((5,7),0,0)),((5,11),(0,0,0),some ((5,11),0,0)),((5,12),(0,0,0),some ((5,12),0,0)),((10,5),(4,4,0),some ((10,5),0,0)),((10,6),(2,2,0),some ((10,6),0,0)),((10,7),(13,13,0),some ((10,7),0,0)),((10,11),(0,0,0),some ((10,11),0,0)),((10,12),(0,0,0),some ((10,12),0,0)),((12,34),(0,0,0),some ((12,34),0,0)),((12,35),(0,0,0),some ((12,35),0,0)),((12,36),(0,0,0),some ((12,36),0,0))]),(13,[]),0)]
set_option maxRecDepth 100000 in
theorem q317_ok : rf_chkB q317_P q317_U wLay q317_M ddX4_countIn [(2,[0])] [] [0] 600 q317_N = true := by decide +kernel
set_option maxHeartbeats 4000000 in
theorem q317_met {G : rfG} (h : okG G) : rf_met G q317_M := rf_methodB h.1 (P := q317_P) (U := q317_U) (N := q317_N) ⟨wflT h flokX4, wcsT h csokX4, wlcT h lcokX4, spokX4 h, List.forall_mem_cons.mpr ⟨q312_met h, fun _ h => absurd h List.not_mem_nil⟩, fun _ h => absurd h List.not_mem_nil, List.forall_mem_cons.mpr ⟨fun M hM => Option.some.inj (show some q312_M = some M from hM) ▸ wlkV (lkX4_61 h) q312_M rfl rfl, fun _ h => absurd h List.not_mem_nil⟩, fun _ h => absurd h List.not_mem_nil, fun _ h => absurd h List.not_mem_nil⟩ dkX4_countIn (by decide +kernel) (by rw [h.2.2.1]; exact q317_ok)
/-- NearSpell.load -/
def q318_M : rfM := ((⟨"NearSpell", "load", "(I)I"⟩, prog_1_method_33_code, 2, (some .int)), (4,84), ([.inr (.inl [70]),.inl ((1,1,0),none)],[((5,5),(4,4,0),none),((5,6),(2,2,0),none),((5,7),(13,13,0),none),((5,11),(0,0,0),none),((5,12),(0,0,0),none),((10,5),(4,4,0),none),((10,6),(2,2,0),none),((10,7),(13,13,0),none),((10,11),(0,0,0),none),((10,12),(0,0,0),none),((12,34),(0,0,0),none),((12,35),(0,0,0),none),((12,36),(0,0,0),none)]), [(52,0)], [(some (.inl ((0,0,0),none)),[],[((52,0),(0,0,0),none),((52,1),(0,0,0),none),((52,2),(0,0,0),none),((52,3),(0,0,0),none),((52,4),(0,0,0),none),((52,5),(0,0,0),none),((52,6),(0,0,0),none),((52,7),(0,0,0),none),((52,8),(0,0,0),none),((52,9),(0,0,0),none),((52,10),(0,0,0),none),((52,11),(0,0,0),none),((52,12),(0,0,0),none),((52,13),(0,0,0),none),((52,14),(0,0,0),none),((52,15),(0,0,0),none),((52,16),(0,0,0),none),((52,17),(0,0,0),none),((52,18),(0,0,0),none),((52,19),(0,0,0),none),((52,20),(0,0,0),none),((52,21),(0,0,0),none),((52,22),(0,0,0),none),((52,23),(0,0,0),none),((52,24),(0,0,0),none),((52,25),(0,0,0),none),((52,26),(0,0,0),none),((52,27),(0,0,0),none),((52,28),(0,0,0),none),((52,29),(0,0,0),none),((52,30),(0,0,0),none)])])
def q318_P : rfP := (flX11,csX11,lcX11,spX11,[q317_M],[],[(297,0,4)],([],[]))
def q318_U : rfU := []
set_option maxHeartbeats 8000000 in
def q318_N : List rfB := [(0,([(0,.inr (.inl [70])),(1,.inl ((1,1,0),none))],[],[((5,5),(4,4,0),some ((5,5),0,0)),((5,6),(2,2,0),some ((5,6),0,0)),((5,7),(13,13,0),some ((5,7),0,0)),((5,11),(0,0,0),some ((5,11),0,0)),((5,12),(0,0,0),some ((5,12),0,0)),((10,5),(4,4,0),some ((10,5),0,0)),((10,6),(2,2,0),some ((10,6),0,0)),((10,7),(13,13,0),some ((10,7),0,0)),((10,11),(0,0,0),some ((10,11),0,0)),((10,12),(0,0,0),some ((10,12),0,0)),((12,34),(0,0,0),some ((12,34),0,0)),((12,35),(0,0,0),some ((12,35),0,0)),((12,36),(0,0,0),some ((12,36),0,0))]),(12,[]),0)]
set_option maxRecDepth 100000 in
theorem q318_ok : rf_chkB q318_P q318_U wLay q318_M ddX11_load [(20,[0])] [] [0] 600 q318_N = true := by decide +kernel
set_option maxHeartbeats 4000000 in
theorem q318_met {G : rfG} (h : okG G) : rf_met G q318_M := rf_methodB h.1 (P := q318_P) (U := q318_U) (N := q318_N) ⟨wflT h flokX11, wcsT h csokX11, wlcT h lcokX11, spokX11 h, List.forall_mem_cons.mpr ⟨q317_met h, fun _ h => absurd h List.not_mem_nil⟩, fun _ h => absurd h List.not_mem_nil, List.forall_mem_cons.mpr ⟨fun M hM => Option.some.inj (show some q317_M = some M from hM) ▸ wlkV (lkX11_297 h) q317_M rfl rfl, fun _ h => absurd h List.not_mem_nil⟩, fun _ h => absurd h List.not_mem_nil, fun _ h => absurd h List.not_mem_nil⟩ dkX11_load (by decide +kernel) (by rw [h.2.2.1]; exact q318_ok)
/-- NearSpellModel.isIn -/
def q319_M : rfM := ((⟨"NearSpellModel", "isIn", "(III)Z"⟩, prog_14_method_35_code, 3, (some .boolean)), (0,0), ([.inl ((1,1,0),none),.inl ((0,0,0),none),.inl ((12,12,0),none)],[]), [], [(some (.inl ((1,1,0),none)),[],[])])
def q319_P : rfP := (flX12,csX12,lcX12,spX12,[],[],[],([],[]))
def q319_U : rfU := []
set_option maxHeartbeats 8000000 in
def q319_N : List rfB := [(0,([(0,.inl ((1,1,0),none)),(1,.inl ((0,0,0),none)),(2,.inl ((12,12,0),none))],[],[]),(8,[]),0)]
set_option maxRecDepth 100000 in
theorem q319_ok : rf_chkB q319_P q319_U wLay q319_M ddX12_isIn [] [] [0] 600 q319_N = true := by decide +kernel
set_option maxHeartbeats 4000000 in
theorem q319_met {G : rfG} (h : okG G) : rf_met G q319_M := rf_methodB h.1 (P := q319_P) (U := q319_U) (N := q319_N) ⟨wflT h flokX12, wcsT h csokX12, wlcT h lcokX12, spokX12 h, fun _ h => absurd h List.not_mem_nil, fun _ h => absurd h List.not_mem_nil, fun _ h => absurd h List.not_mem_nil, fun _ h => absurd h List.not_mem_nil, fun _ h => absurd h List.not_mem_nil⟩ dkX12_isIn (by decide +kernel) (by rw [h.2.2.1]; exact q319_ok)
/-- NearSpellModel.load -/
def q320_M : rfM := ((⟨"NearSpellModel", "load", "(I)I"⟩, prog_14_method_98_code, 3, (some .int)), (3,67), ([.inr (.inl [114]),.inl ((1,1,0),none)],[((75,0),(4,4,0),none),((76,0),(2,2,0),none),((77,0),(13,13,0),none),((80,0),(0,0,0),none),((90,28),(0,0,0),none),((90,29),(0,0,0),none),((90,36),(0,0,0),none),((114,28),(0,0,0),none),((114,34),(0,0,0),none),((114,39),(0,0,0),none)]), [(93,0)], [(some (.inl ((0,0,0),none)),[],[])])
def q320_P : rfP := (flX12,csX12,lcX12,spX12,[q319_M,q118_M,q174_M],[(334,0)],[(372,1,12),(375,2,12)],([],[]))
def q320_U : rfU := []
set_option maxHeartbeats 8000000 in
def q320_N : List rfB := [(0,([(0,.inr (.inl [114])),(1,.inl ((1,1,0),none))],[],[((75,0),(4,4,0),some ((75,0),0,0)),((76,0),(2,2,0),some ((76,0),0,0)),((77,0),(13,13,0),some ((77,0),0,0)),((80,0),(0,0,0),some ((80,0),0,0)),((90,28),(0,0,0),some ((90,28),0,0)),((90,29),(0,0,0),some ((90,29),0,0)),((90,36),(0,0,0),some ((90,36),0,0)),((114,28),(0,0,0),some ((114,28),0,0)),((114,34),(0,0,0),some ((114,34),0,0)),((114,39),(0,0,0),some ((114,39),0,0))]),(20,[]),0)]
set_option maxRecDepth 100000 in
theorem q320_ok : rf_chkB q320_P q320_U wLay q320_M ddX12_load [(13,[0]),(23,[1]),(26,[2])] [] [0] 600 q320_N = true := by decide +kernel
set_option maxHeartbeats 4000000 in
theorem q320_met {G : rfG} (h : okG G) : rf_met G q320_M := rf_methodB h.1 (P := q320_P) (U := q320_U) (N := q320_N) ⟨wflT h flokX12, wcsT h csokX12, wlcT h lcokX12, spokX12 h, List.forall_mem_cons.mpr ⟨q319_met h, List.forall_mem_cons.mpr ⟨q118_met h, List.forall_mem_cons.mpr ⟨q174_met h, fun _ h => absurd h List.not_mem_nil⟩⟩⟩, List.forall_mem_cons.mpr ⟨fun M hM => Option.some.inj (show some q319_M = some M from hM) ▸ wlkS (lkX12_334 h) q319_M rfl rfl, fun _ h => absurd h List.not_mem_nil⟩, List.forall_mem_cons.mpr ⟨fun M hM => Option.some.inj (show some q118_M = some M from hM) ▸ wlkV (lkX12_372 h) q118_M rfl rfl, List.forall_mem_cons.mpr ⟨fun M hM => Option.some.inj (show some q174_M = some M from hM) ▸ wlkV (lkX12_375 h) q174_M rfl rfl, fun _ h => absurd h List.not_mem_nil⟩⟩, fun _ h => absurd h List.not_mem_nil, fun _ h => absurd h List.not_mem_nil⟩ dkX12_load (by decide +kernel) (by rw [h.2.2.1]; exact q320_ok)
/-- NearSpell.Laid.countIn -/
def q321_M : rfM := ((⟨"NearSpell$Laid", "countIn", "(I)I"⟩, prog_6_method_5_code, 2, (some .int)), (3,63), ([.inr (.inl [53]),.inl ((2,2,0),none)],[((5,5),(4,4,0),none),((5,6),(2,2,0),none),((5,7),(13,13,0),none),((5,11),(0,0,0),none),((5,12),(0,0,0),none),((10,5),(4,4,0),none),((10,6),(2,2,0),none),((10,7),(13,13,0),none),((10,11),(0,0,0),none),((10,12),(0,0,0),none),((12,34),(0,0,0),none),((12,35),(0,0,0),none),((12,36),(0,0,0),none)]), [(52,0)], [(some (.inl ((0,0,0),none)),[],[((52,0),(0,0,0),none),((52,1),(0,0,0),none),((52,2),(0,0,0),none),((52,3),(0,0,0),none),((52,4),(0,0,0),none),((52,5),(0,0,0),none),((52,6),(0,0,0),none),((52,7),(0,0,0),none),((52,8),(0,0,0),none),((52,9),(0,0,0),none),((52,10),(0,0,0),none),((52,11),(0,0,0),none),((52,12),(0,0,0),none),((52,13),(0,0,0),none),((52,14),(0,0,0),none),((52,15),(0,0,0),none),((52,16),(0,0,0),none),((52,17),(0,0,0),none),((52,18),(0,0,0),none),((52,19),(0,0,0),none),((52,20),(0,0,0),none),((52,21),(0,0,0),none),((52,22),(0,0,0),none),((52,23),(0,0,0),none),((52,24),(0,0,0),none),((52,25),(0,0,0),none),((52,26),(0,0,0),none),((52,27),(0,0,0),none),((52,28),(0,0,0),none),((52,29),(0,0,0),none),((52,30),(0,0,0),none)])])
def q321_P : rfP := (flX4,csX4,lcX4,spX4,[q312_M],[],[(61,0,4)],([],[]))
def q321_U : rfU := []
set_option maxHeartbeats 8000000 in
def q321_N : List rfB := [(0,([(0,.inr (.inl [53])),(1,.inl ((2,2,0),none))],[],[((5,5),(4,4,0),some ((5,5),0,0)),((5,6),(2,2,0),some ((5,6),0,0)),((5,7),(13,13,0),some ((5,7),0,0)),((5,11),(0,0,0),some ((5,11),0,0)),((5,12),(0,0,0),some ((5,12),0,0)),((10,5),(4,4,0),some ((10,5),0,0)),((10,6),(2,2,0),some ((10,6),0,0)),((10,7),(13,13,0),some ((10,7),0,0)),((10,11),(0,0,0),some ((10,11),0,0)),((10,12),(0,0,0),some ((10,12),0,0)),((12,34),(0,0,0),some ((12,34),0,0)),((12,35),(0,0,0),some ((12,35),0,0)),((12,36),(0,0,0),some ((12,36),0,0))]),(13,[]),0)]
set_option maxRecDepth 100000 in
theorem q321_ok : rf_chkB q321_P q321_U wLay q321_M ddX4_countIn [(2,[0])] [] [0] 600 q321_N = true := by decide +kernel
set_option maxHeartbeats 4000000 in
theorem q321_met {G : rfG} (h : okG G) : rf_met G q321_M := rf_methodB h.1 (P := q321_P) (U := q321_U) (N := q321_N) ⟨wflT h flokX4, wcsT h csokX4, wlcT h lcokX4, spokX4 h, List.forall_mem_cons.mpr ⟨q312_met h, fun _ h => absurd h List.not_mem_nil⟩, fun _ h => absurd h List.not_mem_nil, List.forall_mem_cons.mpr ⟨fun M hM => Option.some.inj (show some q312_M = some M from hM) ▸ wlkV (lkX4_61 h) q312_M rfl rfl, fun _ h => absurd h List.not_mem_nil⟩, fun _ h => absurd h List.not_mem_nil, fun _ h => absurd h List.not_mem_nil⟩ dkX4_countIn (by decide +kernel) (by rw [h.2.2.1]; exact q321_ok)
/-- NearSpell.load -/
def q322_M : rfM := ((⟨"NearSpell", "load", "(I)I"⟩, prog_1_method_33_code, 2, (some .int)), (4,84), ([.inr (.inl [70]),.inl ((2,2,0),none)],[((5,5),(4,4,0),none),((5,6),(2,2,0),none),((5,7),(13,13,0),none),((5,11),(0,0,0),none),((5,12),(0,0,0),none),((10,5),(4,4,0),none),((10,6),(2,2,0),none),((10,7),(13,13,0),none),((10,11),(0,0,0),none),((10,12),(0,0,0),none),((12,34),(0,0,0),none),((12,35),(0,0,0),none),((12,36),(0,0,0),none)]), [(52,0)], [(some (.inl ((0,0,0),none)),[],[((52,0),(0,0,0),none),((52,1),(0,0,0),none),((52,2),(0,0,0),none),((52,3),(0,0,0),none),((52,4),(0,0,0),none),((52,5),(0,0,0),none),((52,6),(0,0,0),none),((52,7),(0,0,0),none),((52,8),(0,0,0),none),((52,9),(0,0,0),none),((52,10),(0,0,0),none),((52,11),(0,0,0),none),((52,12),(0,0,0),none),((52,13),(0,0,0),none),((52,14),(0,0,0),none),((52,15),(0,0,0),none),((52,16),(0,0,0),none),((52,17),(0,0,0),none),((52,18),(0,0,0),none),((52,19),(0,0,0),none),((52,20),(0,0,0),none),((52,21),(0,0,0),none),((52,22),(0,0,0),none),((52,23),(0,0,0),none),((52,24),(0,0,0),none),((52,25),(0,0,0),none),((52,26),(0,0,0),none),((52,27),(0,0,0),none),((52,28),(0,0,0),none),((52,29),(0,0,0),none),((52,30),(0,0,0),none)])])
def q322_P : rfP := (flX11,csX11,lcX11,spX11,[q321_M],[],[(297,0,4)],([],[]))
def q322_U : rfU := []
set_option maxHeartbeats 8000000 in
def q322_N : List rfB := [(0,([(0,.inr (.inl [70])),(1,.inl ((2,2,0),none))],[],[((5,5),(4,4,0),some ((5,5),0,0)),((5,6),(2,2,0),some ((5,6),0,0)),((5,7),(13,13,0),some ((5,7),0,0)),((5,11),(0,0,0),some ((5,11),0,0)),((5,12),(0,0,0),some ((5,12),0,0)),((10,5),(4,4,0),some ((10,5),0,0)),((10,6),(2,2,0),some ((10,6),0,0)),((10,7),(13,13,0),some ((10,7),0,0)),((10,11),(0,0,0),some ((10,11),0,0)),((10,12),(0,0,0),some ((10,12),0,0)),((12,34),(0,0,0),some ((12,34),0,0)),((12,35),(0,0,0),some ((12,35),0,0)),((12,36),(0,0,0),some ((12,36),0,0))]),(12,[]),0)]
set_option maxRecDepth 100000 in
theorem q322_ok : rf_chkB q322_P q322_U wLay q322_M ddX11_load [(20,[0])] [] [0] 600 q322_N = true := by decide +kernel
set_option maxHeartbeats 4000000 in
theorem q322_met {G : rfG} (h : okG G) : rf_met G q322_M := rf_methodB h.1 (P := q322_P) (U := q322_U) (N := q322_N) ⟨wflT h flokX11, wcsT h csokX11, wlcT h lcokX11, spokX11 h, List.forall_mem_cons.mpr ⟨q321_met h, fun _ h => absurd h List.not_mem_nil⟩, fun _ h => absurd h List.not_mem_nil, List.forall_mem_cons.mpr ⟨fun M hM => Option.some.inj (show some q321_M = some M from hM) ▸ wlkV (lkX11_297 h) q321_M rfl rfl, fun _ h => absurd h List.not_mem_nil⟩, fun _ h => absurd h List.not_mem_nil, fun _ h => absurd h List.not_mem_nil⟩ dkX11_load (by decide +kernel) (by rw [h.2.2.1]; exact q322_ok)
/-- NearSpellModel.isIn -/
def q323_M : rfM := ((⟨"NearSpellModel", "isIn", "(III)Z"⟩, prog_14_method_35_code, 3, (some .boolean)), (0,0), ([.inl ((2,2,0),none),.inl ((0,0,0),none),.inl ((12,12,0),none)],[]), [], [(some (.inl ((1,1,0),none)),[],[])])
def q323_P : rfP := (flX12,csX12,lcX12,spX12,[],[],[],([],[]))
def q323_U : rfU := []
set_option maxHeartbeats 8000000 in
def q323_N : List rfB := [(0,([(0,.inl ((2,2,0),none)),(1,.inl ((0,0,0),none)),(2,.inl ((12,12,0),none))],[],[]),(8,[]),0)]
set_option maxRecDepth 100000 in
theorem q323_ok : rf_chkB q323_P q323_U wLay q323_M ddX12_isIn [] [] [0] 600 q323_N = true := by decide +kernel
set_option maxHeartbeats 4000000 in
theorem q323_met {G : rfG} (h : okG G) : rf_met G q323_M := rf_methodB h.1 (P := q323_P) (U := q323_U) (N := q323_N) ⟨wflT h flokX12, wcsT h csokX12, wlcT h lcokX12, spokX12 h, fun _ h => absurd h List.not_mem_nil, fun _ h => absurd h List.not_mem_nil, fun _ h => absurd h List.not_mem_nil, fun _ h => absurd h List.not_mem_nil, fun _ h => absurd h List.not_mem_nil⟩ dkX12_isIn (by decide +kernel) (by rw [h.2.2.1]; exact q323_ok)
/-- NearSpellModel.load -/
def q324_M : rfM := ((⟨"NearSpellModel", "load", "(I)I"⟩, prog_14_method_98_code, 3, (some .int)), (3,67), ([.inr (.inl [114]),.inl ((2,2,0),none)],[((75,0),(4,4,0),none),((76,0),(2,2,0),none),((77,0),(13,13,0),none),((80,0),(0,0,0),none),((90,28),(0,0,0),none),((90,29),(0,0,0),none),((90,36),(0,0,0),none),((114,28),(0,0,0),none),((114,34),(0,0,0),none),((114,39),(0,0,0),none)]), [(93,0)], [(some (.inl ((0,0,0),none)),[],[])])
def q324_P : rfP := (flX12,csX12,lcX12,spX12,[q323_M,q118_M,q174_M],[(334,0)],[(372,1,12),(375,2,12)],([],[]))
def q324_U : rfU := []
set_option maxHeartbeats 8000000 in
def q324_N : List rfB := [(0,([(0,.inr (.inl [114])),(1,.inl ((2,2,0),none))],[],[((75,0),(4,4,0),some ((75,0),0,0)),((76,0),(2,2,0),some ((76,0),0,0)),((77,0),(13,13,0),some ((77,0),0,0)),((80,0),(0,0,0),some ((80,0),0,0)),((90,28),(0,0,0),some ((90,28),0,0)),((90,29),(0,0,0),some ((90,29),0,0)),((90,36),(0,0,0),some ((90,36),0,0)),((114,28),(0,0,0),some ((114,28),0,0)),((114,34),(0,0,0),some ((114,34),0,0)),((114,39),(0,0,0),some ((114,39),0,0))]),(20,[]),0)]
set_option maxRecDepth 100000 in
theorem q324_ok : rf_chkB q324_P q324_U wLay q324_M ddX12_load [(13,[0]),(23,[1]),(26,[2])] [] [0] 600 q324_N = true := by decide +kernel
set_option maxHeartbeats 4000000 in
theorem q324_met {G : rfG} (h : okG G) : rf_met G q324_M := rf_methodB h.1 (P := q324_P) (U := q324_U) (N := q324_N) ⟨wflT h flokX12, wcsT h csokX12, wlcT h lcokX12, spokX12 h, List.forall_mem_cons.mpr ⟨q323_met h, List.forall_mem_cons.mpr ⟨q118_met h, List.forall_mem_cons.mpr ⟨q174_met h, fun _ h => absurd h List.not_mem_nil⟩⟩⟩, List.forall_mem_cons.mpr ⟨fun M hM => Option.some.inj (show some q323_M = some M from hM) ▸ wlkS (lkX12_334 h) q323_M rfl rfl, fun _ h => absurd h List.not_mem_nil⟩, List.forall_mem_cons.mpr ⟨fun M hM => Option.some.inj (show some q118_M = some M from hM) ▸ wlkV (lkX12_372 h) q118_M rfl rfl, List.forall_mem_cons.mpr ⟨fun M hM => Option.some.inj (show some q174_M = some M from hM) ▸ wlkV (lkX12_375 h) q174_M rfl rfl, fun _ h => absurd h List.not_mem_nil⟩⟩, fun _ h => absurd h List.not_mem_nil, fun _ h => absurd h List.not_mem_nil⟩ dkX12_load (by decide +kernel) (by rw [h.2.2.1]; exact q324_ok)
