/-- NearSpell.learn -/
def q43_M : rfM := ((⟨"NearSpell", "learn", "(II)I"⟩, prog_1_method_7_code, 4, (some .int)), (3,122), ([.inr (.inl [70]),.inl (((-2147483648),2147483647,1),none),.inl (((-2147483648),2147483647,1),none)],[((12,34),(0,0,0),none),((12,35),(0,0,0),none),((12,36),(0,0,0),none),((16,3),(0,0,0),none),((16,4),(0,0,0),none)]), [], [(some (.inl (((-1),(-1),0),none)),[],[])])
def q43_P : rfP := (flX11,csX11,lcX11,spX11,[],[],[],([],[]))
def q43_U : rfU := []
set_option maxHeartbeats 8000000 in
def q43_N : List rfB := [(4,([(0,.inr (.inl [70])),(1,.inl (((-2147483648),2147483647,1),none)),(2,.inl (((-2147483648),2147483647,1),none))],[.inl ((0,0,0),none)],[((12,34),(0,0,0),some ((12,34),0,0)),((12,35),(0,0,0),some ((12,35),0,0)),((12,36),(0,0,0),some ((12,36),0,0)),((16,3),(0,0,0),some ((16,3),0,0)),((16,4),(0,0,0),some ((16,4),0,0))]),(2,[]),0)]
set_option maxRecDepth 100000 in
theorem q43_ok : (q43_N).all (rf_anc q43_P q43_U wLay q43_M ddX11_learn [] [] [4] 600 q43_N) = true := by decide +kernel
set_option maxHeartbeats 4000000 in
set_option maxRecDepth 100000 in
theorem q43_met {G : rfG} (h : okG G) : rf_metV G q43_M (cbV false) := by
  refine h_metVX h.1 (by decide +kernel) (by decide) h.2.2.1 (wflT h flokX11) (wcsT h csokX11) (by decide +kernel) ?_
  intro vs w0 X hv_ hr hp c
  match vs, hv_ with
  | [_, _, _], ⟨⟨_, hj0, rfl⟩, ⟨a, rfl, hi_a, _⟩, ⟨u, rfl, hi_u, _⟩, _⟩ =>
  cases List.mem_singleton.mp hj0
  have hd : ∀ n pc i len, ddX11_learn[n]? = some (pc, i, len) → decode (mb q43_M) pc = .ok (i, len) := fun n pc i len h => hdk dkX11_learn n pc i len h
  show hW G X q43_M w0 0 [(0, .ref (G.2.1.1 70)), (1, .int a), (2, .int u)] [] (hv w0)
  generalize hF0 : hv w0 = F at *
  obtain ⟨⟨a_, ea_, hcb⟩, hp, hvs, hQ⟩ := hp
  cases ea_
  refine h_iln c (hd 0 0 _ _ rfl) (by rfl) (hat 1 rfl ?_)
  refine h_callSF c (M' := dM_can) ((dp_can h)) (by decide +kernel) (wlkS (lkX11_163 h) _ rfl rfl) (hd 1 1 _ _ rfl) [.int a] (rest := []) (by rfl) ⟨⟨_, rfl, rf_in_top _, trivial⟩, trivial⟩ (Nat.le_of_ble_eq_true rfl) trivial (fun rv1 F1 fr1 rr1 pp1 sm_ => hat 4 rfl ?_)
  have e_ := (sm_ rfl).symm
  subst e_
  obtain ⟨a_, x1, ea_, er_, hx1⟩ := pp1
  cases ea_; subst er_
  have e1_ : x1.toInt = 0 := by rcases hx1 with h_ | h_; exact absurd (hcb.mp h_.2) (by decide); exact h_.1
  exact h_anc0 c hQ hvs (as := [.inl ((0,0,0),none)]) (P := q43_P) ⟨wflT h flokX11, wcsT h csokX11, wlcT h lcokX11, spokX11 h, fun _ h => absurd h List.not_mem_nil, fun _ h => absurd h List.not_mem_nil, fun _ h => absurd h List.not_mem_nil, fun _ h => absurd h List.not_mem_nil, fun _ h => absurd h List.not_mem_nil⟩ dkX11_learn q43_ok (by decide +kernel) (by decide +kernel) (by rfl) (by decide +kernel) hF0 hp (fun _ => ⟨⟨_, rfl, hcon e1_, trivial⟩, trivial⟩)
/-- NearSpellModel.learn -/
def q44_M : rfM := ((⟨"NearSpellModel", "learn", "(II)I"⟩, prog_14_method_108_code, 4, (some .int)), (5,221), ([.inr (.inl [114]),.inl (((-2147483648),2147483647,1),none),.inl (((-2147483648),2147483647,1),none)],[((90,28),(0,0,0),none),((90,29),(0,0,0),none),((90,36),(0,0,0),none),((114,55),(0,0,0),none)]), [], [(some (.inl (((-1),(-1),0),none)),[],[])])
def q44_P : rfP := (flX12,csX12,lcX12,spX12,[],[],[],([],[]))
def q44_U : rfU := []
set_option maxHeartbeats 8000000 in
def q44_N : List rfB := [(4,([(0,.inr (.inl [114])),(1,.inl (((-2147483648),2147483647,1),none)),(2,.inl (((-2147483648),2147483647,1),none))],[.inl ((0,0,0),none)],[((90,28),(0,0,0),some ((90,28),0,0)),((90,29),(0,0,0),some ((90,29),0,0)),((90,36),(0,0,0),some ((90,36),0,0)),((114,55),(0,0,0),some ((114,55),0,0))]),(2,[]),0)]
set_option maxRecDepth 100000 in
theorem q44_ok : (q44_N).all (rf_anc q44_P q44_U wLay q44_M ddX12_learn [] [] [4] 600 q44_N) = true := by decide +kernel
set_option maxHeartbeats 4000000 in
set_option maxRecDepth 100000 in
theorem q44_met {G : rfG} (h : okG G) : rf_metV G q44_M (cbV false) := by
  refine h_metVX h.1 (by decide +kernel) (by decide) h.2.2.1 (wflT h flokX12) (wcsT h csokX12) (by decide +kernel) ?_
  intro vs w0 X hv_ hr hp c
  match vs, hv_ with
  | [_, _, _], ⟨⟨_, hj0, rfl⟩, ⟨a, rfl, hi_a, _⟩, ⟨u, rfl, hi_u, _⟩, _⟩ =>
  cases List.mem_singleton.mp hj0
  have hd : ∀ n pc i len, ddX12_learn[n]? = some (pc, i, len) → decode (mb q44_M) pc = .ok (i, len) := fun n pc i len h => hdk dkX12_learn n pc i len h
  show hW G X q44_M w0 0 [(0, .ref (G.2.1.1 114)), (1, .int a), (2, .int u)] [] (hv w0)
  generalize hF0 : hv w0 = F at *
  obtain ⟨⟨a_, ea_, hcb⟩, hp, hvs, hQ⟩ := hp
  cases ea_
  refine h_iln c (hd 0 0 _ _ rfl) (by rfl) (hat 1 rfl ?_)
  refine h_callSF c (M' := dM_mcan) ((dp_mcan h)) (by decide +kernel) (wlkS (lkX12_420 h) _ rfl rfl) (hd 1 1 _ _ rfl) [.int a] (rest := []) (by rfl) ⟨⟨_, rfl, rf_in_top _, trivial⟩, trivial⟩ (Nat.le_of_ble_eq_true rfl) trivial (fun rv1 F1 fr1 rr1 pp1 sm_ => hat 4 rfl ?_)
  have e_ := (sm_ rfl).symm
  subst e_
  obtain ⟨a_, x1, ea_, er_, hx1⟩ := pp1
  cases ea_; subst er_
  have e1_ : x1.toInt = 0 := by rcases hx1 with h_ | h_; exact absurd (hcb.mp h_.2) (by decide); exact h_.1
  exact h_anc0 c hQ hvs (as := [.inl ((0,0,0),none)]) (P := q44_P) ⟨wflT h flokX12, wcsT h csokX12, wlcT h lcokX12, spokX12 h, fun _ h => absurd h List.not_mem_nil, fun _ h => absurd h List.not_mem_nil, fun _ h => absurd h List.not_mem_nil, fun _ h => absurd h List.not_mem_nil, fun _ h => absurd h List.not_mem_nil⟩ dkX12_learn q44_ok (by decide +kernel) (by decide +kernel) (by rfl) (by decide +kernel) hF0 hp (fun _ => ⟨⟨_, rfl, hcon e1_, trivial⟩, trivial⟩)
/-- NearSpell.learn -/
def q51_M : rfM := ((⟨"NearSpell", "learn", "(II)I"⟩, prog_1_method_7_code, 4, (some .int)), (3,122), ([.inr (.inl [70]),.inl ((0,387420488,1),none),.inl ((0,999,1),none)],[((12,34),(0,0,0),none),((12,35),(0,0,0),none),((12,36),(0,0,0),none),((16,3),(0,0,0),none),((16,4),(0,0,0),none)]), [(12,0),(14,0),(16,5),(16,6)], [(some (.inl ((0,0,0),none)),[],[((12,0),(0,387420488,1),none),((12,14),(0,999,1),none),((12,34),(1,1,0),some ((12,34),1,1)),((12,35),(0,0,0),some ((12,35),0,0)),((12,36),(0,0,0),some ((12,36),0,0)),((16,4),(1,1,0),some ((16,4),1,1)),((16,5),(0,0,0),none)])])
def q51_P : rfP := (flX11,csX11,lcX11,spX11,[q45_M,q46_M,q47_M,q50_M],[],[(166,0,8),(169,1,8),(173,2,8),(177,3,0)],([],[]))
def q51_U : rfU := []
set_option maxHeartbeats 8000000 in
def q51_N : List rfB := [(4,([(0,.inr (.inl [70])),(1,.inl ((0,387420488,1),none)),(2,.inl ((0,999,1),none))],[.inl ((1,1,0),none)],[((12,34),(0,0,0),some ((12,34),0,0)),((12,35),(0,0,0),some ((12,35),0,0)),((12,36),(0,0,0),some ((12,36),0,0)),((16,3),(0,0,0),some ((16,3),0,0)),((16,4),(0,0,0),some ((16,4),0,0))]),(29,[]),0)]
set_option maxRecDepth 100000 in
theorem q51_ok : (q51_N).all (rf_anc q51_P q51_U wLay q51_M ddX11_learn [(25,[0]),(36,[1]),(52,[2]),(64,[3])] [] [4] 600 q51_N) = true := by decide +kernel
set_option maxHeartbeats 4000000 in
set_option maxRecDepth 100000 in
theorem q51_met {G : rfG} (h : okG G) : rf_metV G q51_M (cbV true) := by
  refine h_metVX h.1 (by decide +kernel) (by decide) h.2.2.1 (wflT h flokX11) (wcsT h csokX11) (by decide +kernel) ?_
  intro vs w0 X hv_ hr hp c
  match vs, hv_ with
  | [_, _, _], ⟨⟨_, hj0, rfl⟩, ⟨a, rfl, hi_a, _⟩, ⟨u, rfl, hi_u, _⟩, _⟩ =>
  cases List.mem_singleton.mp hj0
  have hd : ∀ n pc i len, ddX11_learn[n]? = some (pc, i, len) → decode (mb q51_M) pc = .ok (i, len) := fun n pc i len h => hdk dkX11_learn n pc i len h
  show hW G X q51_M w0 0 [(0, .ref (G.2.1.1 70)), (1, .int a), (2, .int u)] [] (hv w0)
  generalize hF0 : hv w0 = F at *
  obtain ⟨⟨a_, ea_, hcb⟩, hp, hvs, hQ⟩ := hp
  cases ea_
  refine h_iln c (hd 0 0 _ _ rfl) (by rfl) (hat 1 rfl ?_)
  refine h_callSF c (M' := dM_can) ((dp_can h)) (by decide +kernel) (wlkS (lkX11_163 h) _ rfl rfl) (hd 1 1 _ _ rfl) [.int a] (rest := []) (by rfl) ⟨⟨_, rfl, rf_in_top _, trivial⟩, trivial⟩ (Nat.le_of_ble_eq_true rfl) trivial (fun rv1 F1 fr1 rr1 pp1 sm_ => hat 4 rfl ?_)
  have e_ := (sm_ rfl).symm
  subst e_
  obtain ⟨a_, x1, ea_, er_, hx1⟩ := pp1
  cases ea_; subst er_
  have e1_ : x1.toInt = 1 := by rcases hx1 with h_ | h_; exact h_.1; exact absurd (hcb.mpr rfl) h_.2
  exact h_anc0 c hQ hvs (as := [.inl ((1,1,0),none)]) (P := q51_P) ⟨wflT h flokX11, wcsT h csokX11, wlcT h lcokX11, spokX11 h, List.forall_mem_cons.mpr ⟨q45_met h, List.forall_mem_cons.mpr ⟨q46_met h, List.forall_mem_cons.mpr ⟨q47_met h, List.forall_mem_cons.mpr ⟨q50_met h, fun _ h => absurd h List.not_mem_nil⟩⟩⟩⟩, fun _ h => absurd h List.not_mem_nil, List.forall_mem_cons.mpr ⟨fun M hM => Option.some.inj (show some q45_M = some M from hM) ▸ wlkV (lkX11_166 h) q45_M rfl rfl, List.forall_mem_cons.mpr ⟨fun M hM => Option.some.inj (show some q46_M = some M from hM) ▸ wlkV (lkX11_169 h) q46_M rfl rfl, List.forall_mem_cons.mpr ⟨fun M hM => Option.some.inj (show some q47_M = some M from hM) ▸ wlkV (lkX11_173 h) q47_M rfl rfl, List.forall_mem_cons.mpr ⟨fun M hM => Option.some.inj (show some q50_M = some M from hM) ▸ wlkV (lkX11_177 h) q50_M rfl rfl, fun _ h => absurd h List.not_mem_nil⟩⟩⟩⟩, fun _ h => absurd h List.not_mem_nil, fun _ h => absurd h List.not_mem_nil⟩ dkX11_learn q51_ok (by decide +kernel) (by decide +kernel) (by rfl) (by decide +kernel) hF0 hp (fun _ => ⟨⟨_, rfl, hcon e1_, trivial⟩, trivial⟩)
/-- NearSpellModel.learn -/
def q71_M : rfM := ((⟨"NearSpellModel", "learn", "(II)I"⟩, prog_14_method_108_code, 4, (some .int)), (5,221), ([.inr (.inl [114]),.inl ((0,387420488,1),none),.inl ((0,999,1),none)],[((90,28),(0,0,0),none),((90,29),(0,0,0),none),((90,36),(0,0,0),none),((114,55),(0,0,0),none)]), [(90,0),(105,0),(114,56),(114,57)], [(some (.inl ((0,0,0),none)),[],[((90,0),(0,387420488,1),none),((90,14),(0,999,1),none),((90,28),(1,1,0),some ((90,28),1,1)),((90,29),(0,0,0),some ((90,29),0,0)),((90,36),(0,0,0),some ((90,36),0,0)),((114,55),(1,1,0),some ((114,55),1,1)),((114,56),(0,0,0),none)])])
def q71_P : rfP := (flX12,csX12,lcX12,spX12,[q52_M,q69_M,q70_M],[(334,0)],[(468,1,12),(471,2,12)],([],[]))
def q71_U : rfU := []
set_option maxHeartbeats 8000000 in
def q71_N : List rfB := [(4,([(0,.inr (.inl [114])),(1,.inl ((0,387420488,1),none)),(2,.inl ((0,999,1),none))],[.inl ((1,1,0),none)],[((90,28),(0,0,0),some ((90,28),0,0)),((90,29),(0,0,0),some ((90,29),0,0)),((90,36),(0,0,0),some ((90,36),0,0)),((114,55),(0,0,0),some ((114,55),0,0))]),(45,[]),0)]
set_option maxRecDepth 100000 in
theorem q71_ok : (q71_N).all (rf_anc q71_P q71_U wLay q71_M ddX12_learn [(12,[0]),(32,[1]),(41,[2])] [] [4] 600 q71_N) = true := by decide +kernel
set_option maxHeartbeats 4000000 in
set_option maxRecDepth 100000 in
theorem q71_met {G : rfG} (h : okG G) : rf_metV G q71_M (cbV true) := by
  refine h_metVX h.1 (by decide +kernel) (by decide) h.2.2.1 (wflT h flokX12) (wcsT h csokX12) (by decide +kernel) ?_
  intro vs w0 X hv_ hr hp c
  match vs, hv_ with
  | [_, _, _], ⟨⟨_, hj0, rfl⟩, ⟨a, rfl, hi_a, _⟩, ⟨u, rfl, hi_u, _⟩, _⟩ =>
  cases List.mem_singleton.mp hj0
  have hd : ∀ n pc i len, ddX12_learn[n]? = some (pc, i, len) → decode (mb q71_M) pc = .ok (i, len) := fun n pc i len h => hdk dkX12_learn n pc i len h
  show hW G X q71_M w0 0 [(0, .ref (G.2.1.1 114)), (1, .int a), (2, .int u)] [] (hv w0)
  generalize hF0 : hv w0 = F at *
  obtain ⟨⟨a_, ea_, hcb⟩, hp, hvs, hQ⟩ := hp
  cases ea_
  refine h_iln c (hd 0 0 _ _ rfl) (by rfl) (hat 1 rfl ?_)
  refine h_callSF c (M' := dM_mcan) ((dp_mcan h)) (by decide +kernel) (wlkS (lkX12_420 h) _ rfl rfl) (hd 1 1 _ _ rfl) [.int a] (rest := []) (by rfl) ⟨⟨_, rfl, rf_in_top _, trivial⟩, trivial⟩ (Nat.le_of_ble_eq_true rfl) trivial (fun rv1 F1 fr1 rr1 pp1 sm_ => hat 4 rfl ?_)
  have e_ := (sm_ rfl).symm
  subst e_
  obtain ⟨a_, x1, ea_, er_, hx1⟩ := pp1
  cases ea_; subst er_
  have e1_ : x1.toInt = 1 := by rcases hx1 with h_ | h_; exact h_.1; exact absurd (hcb.mpr rfl) h_.2
  exact h_anc0 c hQ hvs (as := [.inl ((1,1,0),none)]) (P := q71_P) ⟨wflT h flokX12, wcsT h csokX12, wlcT h lcokX12, spokX12 h, List.forall_mem_cons.mpr ⟨q52_met h, List.forall_mem_cons.mpr ⟨q69_met h, List.forall_mem_cons.mpr ⟨q70_met h, fun _ h => absurd h List.not_mem_nil⟩⟩⟩, List.forall_mem_cons.mpr ⟨fun M hM => Option.some.inj (show some q52_M = some M from hM) ▸ wlkS (lkX12_334 h) q52_M rfl rfl, fun _ h => absurd h List.not_mem_nil⟩, List.forall_mem_cons.mpr ⟨fun M hM => Option.some.inj (show some q69_M = some M from hM) ▸ wlkV (lkX12_468 h) q69_M rfl rfl, List.forall_mem_cons.mpr ⟨fun M hM => Option.some.inj (show some q70_M = some M from hM) ▸ wlkV (lkX12_471 h) q70_M rfl rfl, fun _ h => absurd h List.not_mem_nil⟩⟩, fun _ h => absurd h List.not_mem_nil, fun _ h => absurd h List.not_mem_nil⟩ dkX12_learn q71_ok (by decide +kernel) (by decide +kernel) (by rfl) (by decide +kernel) hF0 hp (fun _ => ⟨⟨_, rfl, hcon e1_, trivial⟩, trivial⟩)
/-- NearSpell.type -/
def q85_M : rfM := ((⟨"NearSpell", "type", "(I)I"⟩, prog_1_method_10_code, 3, (some .int)), (3,122), ([.inr (.inl [70]),.inl (((-2147483648),2147483647,1),none)],[((5,5),(4,4,0),none),((5,6),(2,2,0),none),((5,8),(0,0,0),none),((10,5),(4,4,0),none),((10,6),(2,2,0),none),((10,8),(0,0,0),none),((12,34),(0,0,0),none),((12,35),(0,0,0),none),((12,36),(0,0,0),none),((16,3),(0,0,0),none),((16,4),(0,0,0),none),((20,3),(0,0,0),none),((20,4),(0,0,0),none)]), [], [(some (.inl (((-2),(-2),0),none)),[],[])])
def ddX11_type : List (Nat × Instr × Nat) := [(0,.iload_n 1,1),(1,.invokestatic 163,3),(4,.ifCond .eq 15,3),(7,.aload_n 0,1),(8,.getfield 35,3),(11,.invokevirtual 189,3),(14,.bipush 6,2),(16,.if_icmp .lt 6,3),(19,.bipush (-2),2),(21,.ireturn,1),(22,.aload_n 0,1),(23,.getfield 35,3),(26,.iload_n 1,1),(27,.aload_n 0,1),(28,.getfield 16,3),(31,.getfield 192,3),(34,.invokevirtual 195,3),(37,.istore_n 2,1),(38,.aload_n 0,1),(39,.getfield 42,3),(42,.aload_n 0,1),(43,.getfield 35,3),(46,.invokevirtual 177,3),(49,.aload_n 0,1),(50,.getfield 67,3),(53,.iload_n 2,1),(54,.invokevirtual 198,3),(57,.ireturn,1)]
set_option maxRecDepth 100000 in
theorem dkX11_type : rf_decs prog_1_method_10_code ddX11_type := rf_decs_of (by decide +kernel)
def q85_P : rfP := (flX11,csX11,lcX11,spX11,[],[],[],([],[]))
def q85_U : rfU := []
set_option maxHeartbeats 8000000 in
def q85_N : List rfB := [(4,([(0,.inr (.inl [70])),(1,.inl (((-2147483648),2147483647,1),none))],[.inl ((0,0,0),none)],[((5,5),(4,4,0),some ((5,5),0,0)),((5,6),(2,2,0),some ((5,6),0,0)),((5,8),(0,0,0),some ((5,8),0,0)),((10,5),(4,4,0),some ((10,5),0,0)),((10,6),(2,2,0),some ((10,6),0,0)),((10,8),(0,0,0),some ((10,8),0,0)),((12,34),(0,0,0),some ((12,34),0,0)),((12,35),(0,0,0),some ((12,35),0,0)),((12,36),(0,0,0),some ((12,36),0,0)),((16,3),(0,0,0),some ((16,3),0,0)),((16,4),(0,0,0),some ((16,4),0,0)),((20,3),(0,0,0),some ((20,3),0,0)),((20,4),(0,0,0),some ((20,4),0,0))]),(2,[]),0)]
set_option maxRecDepth 100000 in
theorem q85_ok : (q85_N).all (rf_anc q85_P q85_U wLay q85_M ddX11_type [] [] [4] 600 q85_N) = true := by decide +kernel
set_option maxHeartbeats 4000000 in
set_option maxRecDepth 100000 in
theorem q85_met {G : rfG} (h : okG G) : rf_metV G q85_M (cbV false) := by
  refine h_metVX h.1 (by decide +kernel) (by decide) h.2.2.1 (wflT h flokX11) (wcsT h csokX11) (by decide +kernel) ?_
  intro vs w0 X hv_ hr hp c
  match vs, hv_ with
  | [_, _], ⟨⟨_, hj0, rfl⟩, ⟨a, rfl, hi_a, _⟩, _⟩ =>
  cases List.mem_singleton.mp hj0
  have hd : ∀ n pc i len, ddX11_type[n]? = some (pc, i, len) → decode (mb q85_M) pc = .ok (i, len) := fun n pc i len h => hdk dkX11_type n pc i len h
  show hW G X q85_M w0 0 [(0, .ref (G.2.1.1 70)), (1, .int a)] [] (hv w0)
  generalize hF0 : hv w0 = F at *
  obtain ⟨⟨a_, ea_, hcb⟩, hp, hvs, hQ⟩ := hp
  cases ea_
  refine h_iln c (hd 0 0 _ _ rfl) (by rfl) (hat 1 rfl ?_)
  refine h_callSF c (M' := dM_can) ((dp_can h)) (by decide +kernel) (wlkS (lkX11_163 h) _ rfl rfl) (hd 1 1 _ _ rfl) [.int a] (rest := []) (by rfl) ⟨⟨_, rfl, rf_in_top _, trivial⟩, trivial⟩ (Nat.le_of_ble_eq_true rfl) trivial (fun rv1 F1 fr1 rr1 pp1 sm_ => hat 4 rfl ?_)
  have e_ := (sm_ rfl).symm
  subst e_
  obtain ⟨a_, x1, ea_, er_, hx1⟩ := pp1
  cases ea_; subst er_
  have e1_ : x1.toInt = 0 := by rcases hx1 with h_ | h_; exact absurd (hcb.mp h_.2) (by decide); exact h_.1
  exact h_anc0 c hQ hvs (as := [.inl ((0,0,0),none)]) (P := q85_P) ⟨wflT h flokX11, wcsT h csokX11, wlcT h lcokX11, spokX11 h, fun _ h => absurd h List.not_mem_nil, fun _ h => absurd h List.not_mem_nil, fun _ h => absurd h List.not_mem_nil, fun _ h => absurd h List.not_mem_nil, fun _ h => absurd h List.not_mem_nil⟩ dkX11_type q85_ok (by decide +kernel) (by decide +kernel) (by rfl) (by decide +kernel) hF0 hp (fun _ => ⟨⟨_, rfl, hcon e1_, trivial⟩, trivial⟩)
/-- NearSpellModel.type -/
def q86_M : rfM := ((⟨"NearSpellModel", "type", "(I)I"⟩, prog_14_method_111_code, 3, (some .int)), (5,221), ([.inr (.inl [114]),.inl (((-2147483648),2147483647,1),none)],[((75,0),(4,4,0),none),((76,0),(2,2,0),none),((77,0),(13,13,0),none),((78,0),(0,0,0),none),((80,0),(0,0,0),none),((90,28),(0,0,0),none),((90,29),(0,0,0),none),((90,36),(0,0,0),none),((114,28),(0,0,0),none),((114,34),(0,0,0),none),((114,39),(0,0,0),none),((114,44),(0,0,0),none),((114,45),(0,0,0),none),((114,55),(0,0,0),none)]), [], [(some (.inl (((-2),(-2),0),none)),[],[])])
def ddX12_type : List (Nat × Instr × Nat) := [(0,.iload_n 1,1),(1,.invokestatic 420,3),(4,.ifCond .eq 15,3),(7,.aload_n 0,1),(8,.getfield 72,3),(11,.bipush 29,2),(13,.iaload,1),(14,.bipush 6,2),(16,.if_icmp .ne 6,3),(19,.bipush (-2),2),(21,.ireturn,1),(22,.aload_n 0,1),(23,.invokevirtual 471,3),(26,.aload_n 0,1),(27,.getfield 72,3),(30,.bipush 36,2),(32,.sipush 137,3),(35,.aload_n 0,1),(36,.getfield 72,3),(39,.bipush 36,2),(41,.iaload,1),(42,.imul,1),(43,.bipush 71,2),(45,.iadd,1),(46,.sipush 1000,3),(49,.irem,1),(50,.iastore,1),(51,.aload_n 0,1),(52,.getfield 72,3),(55,.bipush 36,2),(57,.iaload,1),(58,.bipush 100,2),(60,.irem,1),(61,.aload_n 0,1),(62,.getfield 36,3),(65,.aload_n 0,1),(66,.getfield 242,3),(69,.iaload,1),(70,.if_icmp .ge 10,3),(73,.iload_n 1,1),(74,.bipush 27,2),(76,.idiv,1),(77,.goto 4,3),(80,.iload_n 1,1),(81,.istore_n 2,1),(82,.aload_n 0,1),(83,.getfield 72,3),(86,.bipush 30,2),(88,.aload_n 0,1),(89,.getfield 72,3),(92,.bipush 29,2),(94,.iaload,1),(95,.iadd,1),(96,.iload_n 2,1),(97,.iastore,1),(98,.aload_n 0,1),(99,.getfield 72,3),(102,.bipush 29,2),(104,.dup2,1),(105,.iaload,1),(106,.iconst 1,1),(107,.iadd,1),(108,.iastore,1),(109,.aload_n 0,1),(110,.iload_n 2,1),(111,.invokevirtual 428,3),(114,.ireturn,1)]
set_option maxRecDepth 100000 in
theorem dkX12_type : rf_decs prog_14_method_111_code ddX12_type := rf_decs_of (by decide +kernel)
def q86_P : rfP := (flX12,csX12,lcX12,spX12,[],[],[],([],[]))
def q86_U : rfU := []
set_option maxHeartbeats 8000000 in
def q86_N : List rfB := [(4,([(0,.inr (.inl [114])),(1,.inl (((-2147483648),2147483647,1),none))],[.inl ((0,0,0),none)],[((75,0),(4,4,0),some ((75,0),0,0)),((76,0),(2,2,0),some ((76,0),0,0)),((77,0),(13,13,0),some ((77,0),0,0)),((78,0),(0,0,0),some ((78,0),0,0)),((80,0),(0,0,0),some ((80,0),0,0)),((90,28),(0,0,0),some ((90,28),0,0)),((90,29),(0,0,0),some ((90,29),0,0)),((90,36),(0,0,0),some ((90,36),0,0)),((114,28),(0,0,0),some ((114,28),0,0)),((114,34),(0,0,0),some ((114,34),0,0)),((114,39),(0,0,0),some ((114,39),0,0)),((114,44),(0,0,0),some ((114,44),0,0)),((114,45),(0,0,0),some ((114,45),0,0)),((114,55),(0,0,0),some ((114,55),0,0))]),(2,[]),0)]
set_option maxRecDepth 100000 in
theorem q86_ok : (q86_N).all (rf_anc q86_P q86_U wLay q86_M ddX12_type [] [] [4] 600 q86_N) = true := by decide +kernel
set_option maxHeartbeats 4000000 in
set_option maxRecDepth 100000 in
theorem q86_met {G : rfG} (h : okG G) : rf_metV G q86_M (cbV false) := by
  refine h_metVX h.1 (by decide +kernel) (by decide) h.2.2.1 (wflT h flokX12) (wcsT h csokX12) (by decide +kernel) ?_
  intro vs w0 X hv_ hr hp c
  match vs, hv_ with
  | [_, _], ⟨⟨_, hj0, rfl⟩, ⟨a, rfl, hi_a, _⟩, _⟩ =>
  cases List.mem_singleton.mp hj0
  have hd : ∀ n pc i len, ddX12_type[n]? = some (pc, i, len) → decode (mb q86_M) pc = .ok (i, len) := fun n pc i len h => hdk dkX12_type n pc i len h
  show hW G X q86_M w0 0 [(0, .ref (G.2.1.1 114)), (1, .int a)] [] (hv w0)
  generalize hF0 : hv w0 = F at *
  obtain ⟨⟨a_, ea_, hcb⟩, hp, hvs, hQ⟩ := hp
  cases ea_
  refine h_iln c (hd 0 0 _ _ rfl) (by rfl) (hat 1 rfl ?_)
  refine h_callSF c (M' := dM_mcan) ((dp_mcan h)) (by decide +kernel) (wlkS (lkX12_420 h) _ rfl rfl) (hd 1 1 _ _ rfl) [.int a] (rest := []) (by rfl) ⟨⟨_, rfl, rf_in_top _, trivial⟩, trivial⟩ (Nat.le_of_ble_eq_true rfl) trivial (fun rv1 F1 fr1 rr1 pp1 sm_ => hat 4 rfl ?_)
  have e_ := (sm_ rfl).symm
  subst e_
  obtain ⟨a_, x1, ea_, er_, hx1⟩ := pp1
  cases ea_; subst er_
  have e1_ : x1.toInt = 0 := by rcases hx1 with h_ | h_; exact absurd (hcb.mp h_.2) (by decide); exact h_.1
  exact h_anc0 c hQ hvs (as := [.inl ((0,0,0),none)]) (P := q86_P) ⟨wflT h flokX12, wcsT h csokX12, wlcT h lcokX12, spokX12 h, fun _ h => absurd h List.not_mem_nil, fun _ h => absurd h List.not_mem_nil, fun _ h => absurd h List.not_mem_nil, fun _ h => absurd h List.not_mem_nil, fun _ h => absurd h List.not_mem_nil⟩ dkX12_type q86_ok (by decide +kernel) (by decide +kernel) (by rfl) (by decide +kernel) hF0 hp (fun _ => ⟨⟨_, rfl, hcon e1_, trivial⟩, trivial⟩)
/-- NearSpell.type -/
def q117_M : rfM := ((⟨"NearSpell", "type", "(I)I"⟩, prog_1_method_10_code, 3, (some .int)), (6,139), ([.inr (.inl [70]),.inl ((0,387420488,1),none)],[((5,5),(4,4,0),none),((5,6),(2,2,0),none),((5,8),(0,0,0),none),((10,5),(4,4,0),none),((10,6),(2,2,0),none),((10,8),(0,0,0),none),((12,34),(0,0,0),none),((12,35),(0,0,0),none),((12,36),(0,0,0),none),((16,3),(0,0,0),none),((16,4),(0,0,0),none),((20,3),(0,0,0),none),((20,4),(0,0,0),none)]), [(12,0),(14,0),(16,5),(16,6),(17,0),(20,4),(20,5),(49,0),(50,2),(50,3),(50,4),(50,5)], [(some (.inl (((-1),(-1),0),none)),[],[((12,28),(0,387420488,1),none),((12,34),(0,0,0),some ((12,34),0,0)),((12,35),(1,1,0),some ((12,35),1,1)),((12,36),(0,71,1),none),((16,4),(1,1,0),some ((16,4),1,1)),((16,5),(0,0,0),none),((20,3),(0,6,1),none),((20,4),(0,0,0),none),((50,2),(0,387420488,1),none),((50,3),(4,4,1),none),((50,4),(2,2,1),none)])])
def q117_P : rfP := (flX11,csX11,lcX11,spX11,[q87_M,q88_M,q90_M,q116_M],[],[(177,2,0),(189,0,8),(195,1,8),(198,3,2)],([],[]))
def q117_U : rfU := []
set_option maxHeartbeats 8000000 in
def q117_N : List rfB := [(4,([(0,.inr (.inl [70])),(1,.inl ((0,387420488,1),none))],[.inl ((1,1,0),none)],[((5,5),(4,4,0),some ((5,5),0,0)),((5,6),(2,2,0),some ((5,6),0,0)),((5,8),(0,0,0),some ((5,8),0,0)),((10,5),(4,4,0),some ((10,5),0,0)),((10,6),(2,2,0),some ((10,6),0,0)),((10,8),(0,0,0),some ((10,8),0,0)),((12,34),(0,0,0),some ((12,34),0,0)),((12,35),(0,0,0),some ((12,35),0,0)),((12,36),(0,0,0),some ((12,36),0,0)),((16,3),(0,0,0),some ((16,3),0,0)),((16,4),(0,0,0),some ((16,4),0,0)),((20,3),(0,0,0),some ((20,3),0,0)),((20,4),(0,0,0),some ((20,4),0,0))]),(23,[]),0)]
set_option maxRecDepth 100000 in
theorem q117_ok : (q117_N).all (rf_anc q117_P q117_U wLay q117_M ddX11_type [(11,[0]),(34,[1]),(46,[2]),(54,[3])] [] [4] 600 q117_N) = true := by decide +kernel
set_option maxHeartbeats 4000000 in
set_option maxRecDepth 100000 in
theorem q117_met {G : rfG} (h : okG G) : rf_metV G q117_M (cbV true) := by
  refine h_metVX h.1 (by decide +kernel) (by decide) h.2.2.1 (wflT h flokX11) (wcsT h csokX11) (by decide +kernel) ?_
  intro vs w0 X hv_ hr hp c
  match vs, hv_ with
  | [_, _], ⟨⟨_, hj0, rfl⟩, ⟨a, rfl, hi_a, _⟩, _⟩ =>
  cases List.mem_singleton.mp hj0
  have hd : ∀ n pc i len, ddX11_type[n]? = some (pc, i, len) → decode (mb q117_M) pc = .ok (i, len) := fun n pc i len h => hdk dkX11_type n pc i len h
  show hW G X q117_M w0 0 [(0, .ref (G.2.1.1 70)), (1, .int a)] [] (hv w0)
  generalize hF0 : hv w0 = F at *
  obtain ⟨⟨a_, ea_, hcb⟩, hp, hvs, hQ⟩ := hp
  cases ea_
  refine h_iln c (hd 0 0 _ _ rfl) (by rfl) (hat 1 rfl ?_)
  refine h_callSF c (M' := dM_can) ((dp_can h)) (by decide +kernel) (wlkS (lkX11_163 h) _ rfl rfl) (hd 1 1 _ _ rfl) [.int a] (rest := []) (by rfl) ⟨⟨_, rfl, rf_in_top _, trivial⟩, trivial⟩ (Nat.le_of_ble_eq_true rfl) trivial (fun rv1 F1 fr1 rr1 pp1 sm_ => hat 4 rfl ?_)
  have e_ := (sm_ rfl).symm
  subst e_
  obtain ⟨a_, x1, ea_, er_, hx1⟩ := pp1
  cases ea_; subst er_
  have e1_ : x1.toInt = 1 := by rcases hx1 with h_ | h_; exact h_.1; exact absurd (hcb.mpr rfl) h_.2
  exact h_anc0 c hQ hvs (as := [.inl ((1,1,0),none)]) (P := q117_P) ⟨wflT h flokX11, wcsT h csokX11, wlcT h lcokX11, spokX11 h, List.forall_mem_cons.mpr ⟨q87_met h, List.forall_mem_cons.mpr ⟨q88_met h, List.forall_mem_cons.mpr ⟨q90_met h, List.forall_mem_cons.mpr ⟨q116_met h, fun _ h => absurd h List.not_mem_nil⟩⟩⟩⟩, fun _ h => absurd h List.not_mem_nil, List.forall_mem_cons.mpr ⟨fun M hM => Option.some.inj (show some q90_M = some M from hM) ▸ wlkV (lkX11_177 h) q90_M rfl rfl, List.forall_mem_cons.mpr ⟨fun M hM => Option.some.inj (show some q87_M = some M from hM) ▸ wlkV (lkX11_189 h) q87_M rfl rfl, List.forall_mem_cons.mpr ⟨fun M hM => Option.some.inj (show some q88_M = some M from hM) ▸ wlkV (lkX11_195 h) q88_M rfl rfl, List.forall_mem_cons.mpr ⟨fun M hM => Option.some.inj (show some q116_M = some M from hM) ▸ wlkV (lkX11_198 h) q116_M rfl rfl, fun _ h => absurd h List.not_mem_nil⟩⟩⟩⟩, fun _ h => absurd h List.not_mem_nil, fun _ h => absurd h List.not_mem_nil⟩ dkX11_type q117_ok (by decide +kernel) (by decide +kernel) (by rfl) (by decide +kernel) hF0 hp (fun _ => ⟨⟨_, rfl, hcon e1_, trivial⟩, trivial⟩)
/-- NearSpellModel.type -/
def q155_M : rfM := ((⟨"NearSpellModel", "type", "(I)I"⟩, prog_14_method_111_code, 3, (some .int)), (6,221), ([.inr (.inl [114]),.inl ((0,387420488,1),none)],[((75,0),(4,4,0),none),((76,0),(2,2,0),none),((77,0),(13,13,0),none),((78,0),(0,0,0),none),((80,0),(0,0,0),none),((90,28),(0,0,0),none),((90,29),(0,0,0),none),((90,36),(0,0,0),none),((114,28),(0,0,0),none),((114,34),(0,0,0),none),((114,39),(0,0,0),none),((114,44),(0,0,0),none),((114,45),(0,0,0),none),((114,55),(0,0,0),none)]), [(90,0),(91,0),(93,0),(98,0),(105,0),(114,35),(114,40),(114,56),(114,57)], [(some (.inl (((-1),(-1),0),none)),[],[((90,28),(0,0,0),some ((90,28),0,0)),((90,29),(1,1,0),some ((90,29),1,1)),((90,36),(0,71,1),none),((114,55),(1,1,0),some ((114,55),1,1)),((114,56),(0,0,0),none)])])
def q155_P : rfP := (flX12,csX12,lcX12,spX12,[q70_M,q154_M],[],[(428,1,12),(471,0,12)],([],[]))
def q155_U : rfU := []
set_option maxHeartbeats 8000000 in
def q155_N : List rfB := [(4,([(0,.inr (.inl [114])),(1,.inl ((0,387420488,1),none))],[.inl ((1,1,0),none)],[((75,0),(4,4,0),some ((75,0),0,0)),((76,0),(2,2,0),some ((76,0),0,0)),((77,0),(13,13,0),some ((77,0),0,0)),((78,0),(0,0,0),some ((78,0),0,0)),((80,0),(0,0,0),some ((80,0),0,0)),((90,28),(0,0,0),some ((90,28),0,0)),((90,29),(0,0,0),some ((90,29),0,0)),((90,36),(0,0,0),some ((90,36),0,0)),((114,28),(0,0,0),some ((114,28),0,0)),((114,34),(0,0,0),some ((114,34),0,0)),((114,39),(0,0,0),some ((114,39),0,0)),((114,44),(0,0,0),some ((114,44),0,0)),((114,45),(0,0,0),some ((114,45),0,0)),((114,55),(0,0,0),some ((114,55),0,0))]),(58,[]),0)]
set_option maxRecDepth 100000 in
theorem q155_ok : (q155_N).all (rf_anc q155_P q155_U wLay q155_M ddX12_type [(23,[0]),(111,[1])] [] [4] 600 q155_N) = true := by decide +kernel
set_option maxHeartbeats 4000000 in
set_option maxRecDepth 100000 in
theorem q155_met {G : rfG} (h : okG G) : rf_metV G q155_M (cbV true) := by
  refine h_metVX h.1 (by decide +kernel) (by decide) h.2.2.1 (wflT h flokX12) (wcsT h csokX12) (by decide +kernel) ?_
  intro vs w0 X hv_ hr hp c
  match vs, hv_ with
  | [_, _], ⟨⟨_, hj0, rfl⟩, ⟨a, rfl, hi_a, _⟩, _⟩ =>
  cases List.mem_singleton.mp hj0
  have hd : ∀ n pc i len, ddX12_type[n]? = some (pc, i, len) → decode (mb q155_M) pc = .ok (i, len) := fun n pc i len h => hdk dkX12_type n pc i len h
  show hW G X q155_M w0 0 [(0, .ref (G.2.1.1 114)), (1, .int a)] [] (hv w0)
  generalize hF0 : hv w0 = F at *
  obtain ⟨⟨a_, ea_, hcb⟩, hp, hvs, hQ⟩ := hp
  cases ea_
  refine h_iln c (hd 0 0 _ _ rfl) (by rfl) (hat 1 rfl ?_)
  refine h_callSF c (M' := dM_mcan) ((dp_mcan h)) (by decide +kernel) (wlkS (lkX12_420 h) _ rfl rfl) (hd 1 1 _ _ rfl) [.int a] (rest := []) (by rfl) ⟨⟨_, rfl, rf_in_top _, trivial⟩, trivial⟩ (Nat.le_of_ble_eq_true rfl) trivial (fun rv1 F1 fr1 rr1 pp1 sm_ => hat 4 rfl ?_)
  have e_ := (sm_ rfl).symm
  subst e_
  obtain ⟨a_, x1, ea_, er_, hx1⟩ := pp1
  cases ea_; subst er_
  have e1_ : x1.toInt = 1 := by rcases hx1 with h_ | h_; exact h_.1; exact absurd (hcb.mpr rfl) h_.2
  exact h_anc0 c hQ hvs (as := [.inl ((1,1,0),none)]) (P := q155_P) ⟨wflT h flokX12, wcsT h csokX12, wlcT h lcokX12, spokX12 h, List.forall_mem_cons.mpr ⟨q70_met h, List.forall_mem_cons.mpr ⟨q154_met h, fun _ h => absurd h List.not_mem_nil⟩⟩, fun _ h => absurd h List.not_mem_nil, List.forall_mem_cons.mpr ⟨fun M hM => Option.some.inj (show some q154_M = some M from hM) ▸ wlkV (lkX12_428 h) q154_M rfl rfl, List.forall_mem_cons.mpr ⟨fun M hM => Option.some.inj (show some q70_M = some M from hM) ▸ wlkV (lkX12_471 h) q70_M rfl rfl, fun _ h => absurd h List.not_mem_nil⟩⟩, fun _ h => absurd h List.not_mem_nil, fun _ h => absurd h List.not_mem_nil⟩ dkX12_type q155_ok (by decide +kernel) (by decide +kernel) (by rfl) (by decide +kernel) hF0 hp (fun _ => ⟨⟨_, rfl, hcon e1_, trivial⟩, trivial⟩)
/-- NearSpell.met -/
def q166_M : rfM := ((⟨"NearSpell", "met", "(II)I"⟩, prog_1_method_18_code, 3, (some .int)), (3,122), ([.inr (.inl [70]),.inl (((-2147483648),2147483647,1),none),.inl (((-2147483648),2147483647,1),none)],[((5,5),(4,4,0),none),((5,6),(2,2,0),none),((5,7),(13,13,0),none),((5,11),(0,0,0),none),((5,12),(0,0,0),none),((10,5),(4,4,0),none),((10,6),(2,2,0),none),((10,7),(13,13,0),none),((10,11),(0,0,0),none),((10,12),(0,0,0),none),((12,34),(0,0,0),none),((12,35),(0,0,0),none),((12,36),(0,0,0),none)]), [], [(some (.inl (((-1),(-1),0),none)),[],[])])
def q166_P : rfP := (flX11,csX11,lcX11,spX11,[],[],[],([],[]))
def q166_U : rfU := []
set_option maxHeartbeats 8000000 in
def q166_N : List rfB := [(4,([(0,.inr (.inl [70])),(1,.inl (((-2147483648),2147483647,1),none)),(2,.inl (((-2147483648),2147483647,1),none))],[.inl ((0,0,0),none)],[((5,5),(4,4,0),some ((5,5),0,0)),((5,6),(2,2,0),some ((5,6),0,0)),((5,7),(13,13,0),some ((5,7),0,0)),((5,11),(0,0,0),some ((5,11),0,0)),((5,12),(0,0,0),some ((5,12),0,0)),((10,5),(4,4,0),some ((10,5),0,0)),((10,6),(2,2,0),some ((10,6),0,0)),((10,7),(13,13,0),some ((10,7),0,0)),((10,11),(0,0,0),some ((10,11),0,0)),((10,12),(0,0,0),some ((10,12),0,0)),((12,34),(0,0,0),some ((12,34),0,0)),((12,35),(0,0,0),some ((12,35),0,0)),((12,36),(0,0,0),some ((12,36),0,0))]),(2,[]),0)]
set_option maxRecDepth 100000 in
theorem q166_ok : (q166_N).all (rf_anc q166_P q166_U wLay q166_M ddX11_met [] [] [4] 600 q166_N) = true := by decide +kernel
set_option maxHeartbeats 4000000 in
set_option maxRecDepth 100000 in
theorem q166_met {G : rfG} (h : okG G) : rf_metV G q166_M (cbV false) := by
  refine h_metVX h.1 (by decide +kernel) (by decide) h.2.2.1 (wflT h flokX11) (wcsT h csokX11) (by decide +kernel) ?_
  intro vs w0 X hv_ hr hp c
  match vs, hv_ with
  | [_, _, _], ⟨⟨_, hj0, rfl⟩, ⟨a, rfl, hi_a, _⟩, ⟨u, rfl, hi_u, _⟩, _⟩ =>
  cases List.mem_singleton.mp hj0
  have hd : ∀ n pc i len, ddX11_met[n]? = some (pc, i, len) → decode (mb q166_M) pc = .ok (i, len) := fun n pc i len h => hdk dkX11_met n pc i len h
  show hW G X q166_M w0 0 [(0, .ref (G.2.1.1 70)), (1, .int a), (2, .int u)] [] (hv w0)
  generalize hF0 : hv w0 = F at *
  obtain ⟨⟨a_, ea_, hcb⟩, hp, hvs, hQ⟩ := hp
  cases ea_
  refine h_iln c (hd 0 0 _ _ rfl) (by rfl) (hat 1 rfl ?_)
  refine h_callSF c (M' := dM_can) ((dp_can h)) (by decide +kernel) (wlkS (lkX11_163 h) _ rfl rfl) (hd 1 1 _ _ rfl) [.int a] (rest := []) (by rfl) ⟨⟨_, rfl, rf_in_top _, trivial⟩, trivial⟩ (Nat.le_of_ble_eq_true rfl) trivial (fun rv1 F1 fr1 rr1 pp1 sm_ => hat 4 rfl ?_)
  have e_ := (sm_ rfl).symm
  subst e_
  obtain ⟨a_, x1, ea_, er_, hx1⟩ := pp1
  cases ea_; subst er_
  have e1_ : x1.toInt = 0 := by rcases hx1 with h_ | h_; exact absurd (hcb.mp h_.2) (by decide); exact h_.1
  exact h_anc0 c hQ hvs (as := [.inl ((0,0,0),none)]) (P := q166_P) ⟨wflT h flokX11, wcsT h csokX11, wlcT h lcokX11, spokX11 h, fun _ h => absurd h List.not_mem_nil, fun _ h => absurd h List.not_mem_nil, fun _ h => absurd h List.not_mem_nil, fun _ h => absurd h List.not_mem_nil, fun _ h => absurd h List.not_mem_nil⟩ dkX11_met q166_ok (by decide +kernel) (by decide +kernel) (by rfl) (by decide +kernel) hF0 hp (fun _ => ⟨⟨_, rfl, hcon e1_, trivial⟩, trivial⟩)
/-- NearSpellModel.met -/
def q167_M : rfM := ((⟨"NearSpellModel", "met", "(II)I"⟩, prog_14_method_74_code, 3, (some .int)), (5,221), ([.inr (.inl [114]),.inl (((-2147483648),2147483647,1),none),.inl (((-2147483648),2147483647,1),none)],[((75,0),(4,4,0),none),((76,0),(2,2,0),none),((77,0),(13,13,0),none),((80,0),(0,0,0),none),((90,28),(0,0,0),none),((90,29),(0,0,0),none),((90,36),(0,0,0),none),((114,28),(0,0,0),none),((114,34),(0,0,0),none),((114,39),(0,0,0),none)]), [], [(some (.inl (((-1),(-1),0),none)),[],[])])
def q167_P : rfP := (flX12,csX12,lcX12,spX12,[],[],[],([],[]))
def q167_U : rfU := []
set_option maxHeartbeats 8000000 in
def q167_N : List rfB := [(4,([(0,.inr (.inl [114])),(1,.inl (((-2147483648),2147483647,1),none)),(2,.inl (((-2147483648),2147483647,1),none))],[.inl ((0,0,0),none)],[((75,0),(4,4,0),some ((75,0),0,0)),((76,0),(2,2,0),some ((76,0),0,0)),((77,0),(13,13,0),some ((77,0),0,0)),((80,0),(0,0,0),some ((80,0),0,0)),((90,28),(0,0,0),some ((90,28),0,0)),((90,29),(0,0,0),some ((90,29),0,0)),((90,36),(0,0,0),some ((90,36),0,0)),((114,28),(0,0,0),some ((114,28),0,0)),((114,34),(0,0,0),some ((114,34),0,0)),((114,39),(0,0,0),some ((114,39),0,0))]),(2,[]),0)]
set_option maxRecDepth 100000 in
theorem q167_ok : (q167_N).all (rf_anc q167_P q167_U wLay q167_M ddX12_met [] [] [4] 600 q167_N) = true := by decide +kernel
set_option maxHeartbeats 4000000 in
set_option maxRecDepth 100000 in
theorem q167_met {G : rfG} (h : okG G) : rf_metV G q167_M (cbV false) := by
  refine h_metVX h.1 (by decide +kernel) (by decide) h.2.2.1 (wflT h flokX12) (wcsT h csokX12) (by decide +kernel) ?_
  intro vs w0 X hv_ hr hp c
  match vs, hv_ with
  | [_, _, _], ⟨⟨_, hj0, rfl⟩, ⟨a, rfl, hi_a, _⟩, ⟨u, rfl, hi_u, _⟩, _⟩ =>
  cases List.mem_singleton.mp hj0
  have hd : ∀ n pc i len, ddX12_met[n]? = some (pc, i, len) → decode (mb q167_M) pc = .ok (i, len) := fun n pc i len h => hdk dkX12_met n pc i len h
  show hW G X q167_M w0 0 [(0, .ref (G.2.1.1 114)), (1, .int a), (2, .int u)] [] (hv w0)
  generalize hF0 : hv w0 = F at *
  obtain ⟨⟨a_, ea_, hcb⟩, hp, hvs, hQ⟩ := hp
  cases ea_
  refine h_iln c (hd 0 0 _ _ rfl) (by rfl) (hat 1 rfl ?_)
  refine h_callSF c (M' := dM_mcan) ((dp_mcan h)) (by decide +kernel) (wlkS (lkX12_420 h) _ rfl rfl) (hd 1 1 _ _ rfl) [.int a] (rest := []) (by rfl) ⟨⟨_, rfl, rf_in_top _, trivial⟩, trivial⟩ (Nat.le_of_ble_eq_true rfl) trivial (fun rv1 F1 fr1 rr1 pp1 sm_ => hat 4 rfl ?_)
  have e_ := (sm_ rfl).symm
  subst e_
  obtain ⟨a_, x1, ea_, er_, hx1⟩ := pp1
  cases ea_; subst er_
  have e1_ : x1.toInt = 0 := by rcases hx1 with h_ | h_; exact absurd (hcb.mp h_.2) (by decide); exact h_.1
  exact h_anc0 c hQ hvs (as := [.inl ((0,0,0),none)]) (P := q167_P) ⟨wflT h flokX12, wcsT h csokX12, wlcT h lcokX12, spokX12 h, fun _ h => absurd h List.not_mem_nil, fun _ h => absurd h List.not_mem_nil, fun _ h => absurd h List.not_mem_nil, fun _ h => absurd h List.not_mem_nil, fun _ h => absurd h List.not_mem_nil⟩ dkX12_met q167_ok (by decide +kernel) (by decide +kernel) (by rfl) (by decide +kernel) hF0 hp (fun _ => ⟨⟨_, rfl, hcon e1_, trivial⟩, trivial⟩)
/-- NearSpell.met -/
def q172_M : rfM := ((⟨"NearSpell", "met", "(II)I"⟩, prog_1_method_18_code, 3, (some .int)), (5,122), ([.inr (.inl [70]),.inl ((0,387420488,1),none),.inl ((0,0,0),none)],[((5,5),(4,4,0),none),((5,6),(2,2,0),none),((5,7),(13,13,0),none),((5,11),(0,0,0),none),((5,12),(0,0,0),none),((10,5),(4,4,0),none),((10,6),(2,2,0),none),((10,7),(13,13,0),none),((10,11),(0,0,0),none),((10,12),(0,0,0),none),((12,34),(0,0,0),none),((12,35),(0,0,0),none),((12,36),(0,0,0),none)]), [(49,0),(50,2),(50,3),(50,4),(50,5)], [(some (.inl ((0,0,0),none)),[],[((50,2),(0,387420488,1),none),((50,3),(4,4,1),none),((50,4),(2,2,1),none)])])
def q172_P : rfP := (flX11,csX11,lcX11,spX11,[q171_M],[],[(226,0,2)],([],[]))
def q172_U : rfU := []
set_option maxHeartbeats 8000000 in
def q172_N : List rfB := [(4,([(0,.inr (.inl [70])),(1,.inl ((0,387420488,1),none)),(2,.inl ((0,0,0),none))],[.inl ((1,1,0),none)],[((5,5),(4,4,0),some ((5,5),0,0)),((5,6),(2,2,0),some ((5,6),0,0)),((5,7),(13,13,0),some ((5,7),0,0)),((5,11),(0,0,0),some ((5,11),0,0)),((5,12),(0,0,0),some ((5,12),0,0)),((10,5),(4,4,0),some ((10,5),0,0)),((10,6),(2,2,0),some ((10,6),0,0)),((10,7),(13,13,0),some ((10,7),0,0)),((10,11),(0,0,0),some ((10,11),0,0)),((10,12),(0,0,0),some ((10,12),0,0)),((12,34),(0,0,0),some ((12,34),0,0)),((12,35),(0,0,0),some ((12,35),0,0)),((12,36),(0,0,0),some ((12,36),0,0))]),(7,[]),0)]
set_option maxRecDepth 100000 in
theorem q172_ok : (q172_N).all (rf_anc q172_P q172_U wLay q172_M ddX11_met [(41,[0])] [] [4] 600 q172_N) = true := by decide +kernel
set_option maxHeartbeats 4000000 in
set_option maxRecDepth 100000 in
theorem q172_met {G : rfG} (h : okG G) : rf_metV G q172_M (cbV true) := by
  refine h_metVX h.1 (by decide +kernel) (by decide) h.2.2.1 (wflT h flokX11) (wcsT h csokX11) (by decide +kernel) ?_
  intro vs w0 X hv_ hr hp c
  match vs, hv_ with
  | [_, _, _], ⟨⟨_, hj0, rfl⟩, ⟨a, rfl, hi_a, _⟩, ⟨u, rfl, hi_u, _⟩, _⟩ =>
  cases List.mem_singleton.mp hj0
  have hd : ∀ n pc i len, ddX11_met[n]? = some (pc, i, len) → decode (mb q172_M) pc = .ok (i, len) := fun n pc i len h => hdk dkX11_met n pc i len h
  show hW G X q172_M w0 0 [(0, .ref (G.2.1.1 70)), (1, .int a), (2, .int u)] [] (hv w0)
  generalize hF0 : hv w0 = F at *
  obtain ⟨⟨a_, ea_, hcb⟩, hp, hvs, hQ⟩ := hp
  cases ea_
  refine h_iln c (hd 0 0 _ _ rfl) (by rfl) (hat 1 rfl ?_)
  refine h_callSF c (M' := dM_can) ((dp_can h)) (by decide +kernel) (wlkS (lkX11_163 h) _ rfl rfl) (hd 1 1 _ _ rfl) [.int a] (rest := []) (by rfl) ⟨⟨_, rfl, rf_in_top _, trivial⟩, trivial⟩ (Nat.le_of_ble_eq_true rfl) trivial (fun rv1 F1 fr1 rr1 pp1 sm_ => hat 4 rfl ?_)
  have e_ := (sm_ rfl).symm
  subst e_
  obtain ⟨a_, x1, ea_, er_, hx1⟩ := pp1
  cases ea_; subst er_
  have e1_ : x1.toInt = 1 := by rcases hx1 with h_ | h_; exact h_.1; exact absurd (hcb.mpr rfl) h_.2
  exact h_anc0 c hQ hvs (as := [.inl ((1,1,0),none)]) (P := q172_P) ⟨wflT h flokX11, wcsT h csokX11, wlcT h lcokX11, spokX11 h, List.forall_mem_cons.mpr ⟨q171_met h, fun _ h => absurd h List.not_mem_nil⟩, fun _ h => absurd h List.not_mem_nil, List.forall_mem_cons.mpr ⟨fun M hM => Option.some.inj (show some q171_M = some M from hM) ▸ wlkV (lkX11_226 h) q171_M rfl rfl, fun _ h => absurd h List.not_mem_nil⟩, fun _ h => absurd h List.not_mem_nil, fun _ h => absurd h List.not_mem_nil⟩ dkX11_met q172_ok (by decide +kernel) (by decide +kernel) (by rfl) (by decide +kernel) hF0 hp (fun _ => ⟨⟨_, rfl, hcon e1_, trivial⟩, trivial⟩)
/-- NearSpellModel.met -/
def q176_M : rfM := ((⟨"NearSpellModel", "met", "(II)I"⟩, prog_14_method_74_code, 3, (some .int)), (5,221), ([.inr (.inl [114]),.inl ((0,387420488,1),none),.inl ((0,0,0),none)],[((75,0),(4,4,0),none),((76,0),(2,2,0),none),((77,0),(13,13,0),none),((80,0),(0,0,0),none),((90,28),(0,0,0),none),((90,29),(0,0,0),none),((90,36),(0,0,0),none),((114,28),(0,0,0),none),((114,34),(0,0,0),none),((114,39),(0,0,0),none)]), [(91,0),(93,0),(114,35),(114,40)], [(some (.inl ((0,0,0),none)),[],[])])
def q176_P : rfP := (flX12,csX12,lcX12,spX12,[q173_M,q175_M],[(334,0)],[(411,1,12)],([],[]))
def q176_U : rfU := []
set_option maxHeartbeats 8000000 in
def q176_N : List rfB := [(4,([(0,.inr (.inl [114])),(1,.inl ((0,387420488,1),none)),(2,.inl ((0,0,0),none))],[.inl ((1,1,0),none)],[((75,0),(4,4,0),some ((75,0),0,0)),((76,0),(2,2,0),some ((76,0),0,0)),((77,0),(13,13,0),some ((77,0),0,0)),((80,0),(0,0,0),some ((80,0),0,0)),((90,28),(0,0,0),some ((90,28),0,0)),((90,29),(0,0,0),some ((90,29),0,0)),((90,36),(0,0,0),some ((90,36),0,0)),((114,28),(0,0,0),some ((114,28),0,0)),((114,34),(0,0,0),some ((114,34),0,0)),((114,39),(0,0,0),some ((114,39),0,0))]),(14,[]),0)]
set_option maxRecDepth 100000 in
theorem q176_ok : (q176_N).all (rf_anc q176_P q176_U wLay q176_M ddX12_met [(10,[0]),(26,[1])] [] [4] 600 q176_N) = true := by decide +kernel
set_option maxHeartbeats 4000000 in
set_option maxRecDepth 100000 in
theorem q176_met {G : rfG} (h : okG G) : rf_metV G q176_M (cbV true) := by
  refine h_metVX h.1 (by decide +kernel) (by decide) h.2.2.1 (wflT h flokX12) (wcsT h csokX12) (by decide +kernel) ?_
  intro vs w0 X hv_ hr hp c
  match vs, hv_ with
  | [_, _, _], ⟨⟨_, hj0, rfl⟩, ⟨a, rfl, hi_a, _⟩, ⟨u, rfl, hi_u, _⟩, _⟩ =>
  cases List.mem_singleton.mp hj0
  have hd : ∀ n pc i len, ddX12_met[n]? = some (pc, i, len) → decode (mb q176_M) pc = .ok (i, len) := fun n pc i len h => hdk dkX12_met n pc i len h
  show hW G X q176_M w0 0 [(0, .ref (G.2.1.1 114)), (1, .int a), (2, .int u)] [] (hv w0)
  generalize hF0 : hv w0 = F at *
  obtain ⟨⟨a_, ea_, hcb⟩, hp, hvs, hQ⟩ := hp
  cases ea_
  refine h_iln c (hd 0 0 _ _ rfl) (by rfl) (hat 1 rfl ?_)
  refine h_callSF c (M' := dM_mcan) ((dp_mcan h)) (by decide +kernel) (wlkS (lkX12_420 h) _ rfl rfl) (hd 1 1 _ _ rfl) [.int a] (rest := []) (by rfl) ⟨⟨_, rfl, rf_in_top _, trivial⟩, trivial⟩ (Nat.le_of_ble_eq_true rfl) trivial (fun rv1 F1 fr1 rr1 pp1 sm_ => hat 4 rfl ?_)
  have e_ := (sm_ rfl).symm
  subst e_
  obtain ⟨a_, x1, ea_, er_, hx1⟩ := pp1
  cases ea_; subst er_
  have e1_ : x1.toInt = 1 := by rcases hx1 with h_ | h_; exact h_.1; exact absurd (hcb.mpr rfl) h_.2
  exact h_anc0 c hQ hvs (as := [.inl ((1,1,0),none)]) (P := q176_P) ⟨wflT h flokX12, wcsT h csokX12, wlcT h lcokX12, spokX12 h, List.forall_mem_cons.mpr ⟨q173_met h, List.forall_mem_cons.mpr ⟨q175_met h, fun _ h => absurd h List.not_mem_nil⟩⟩, List.forall_mem_cons.mpr ⟨fun M hM => Option.some.inj (show some q173_M = some M from hM) ▸ wlkS (lkX12_334 h) q173_M rfl rfl, fun _ h => absurd h List.not_mem_nil⟩, List.forall_mem_cons.mpr ⟨fun M hM => Option.some.inj (show some q175_M = some M from hM) ▸ wlkV (lkX12_411 h) q175_M rfl rfl, fun _ h => absurd h List.not_mem_nil⟩, fun _ h => absurd h List.not_mem_nil, fun _ h => absurd h List.not_mem_nil⟩ dkX12_met q176_ok (by decide +kernel) (by decide +kernel) (by rfl) (by decide +kernel) hF0 hp (fun _ => ⟨⟨_, rfl, hcon e1_, trivial⟩, trivial⟩)
