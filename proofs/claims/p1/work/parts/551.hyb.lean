/-- NearSpell.met -/
def q178_M : rfM := ((⟨"NearSpell", "met", "(II)I"⟩, prog_1_method_18_code, 3, (some .int)), (5,122), ([.inr (.inl [70]),.inl ((0,387420488,1),none),.inl ((1,1,0),none)],[((5,5),(4,4,0),none),((5,6),(2,2,0),none),((5,7),(13,13,0),none),((5,11),(0,0,0),none),((5,12),(0,0,0),none),((10,5),(4,4,0),none),((10,6),(2,2,0),none),((10,7),(13,13,0),none),((10,11),(0,0,0),none),((10,12),(0,0,0),none),((12,34),(0,0,0),none),((12,35),(0,0,0),none),((12,36),(0,0,0),none)]), [(49,0),(50,2),(50,3),(50,4),(50,5)], [(some (.inl ((0,0,0),none)),[],[((50,2),(0,387420488,1),none),((50,3),(4,4,1),none),((50,4),(2,2,1),none)])])
def q178_P : rfP := (flX11,csX11,lcX11,spX11,[q177_M],[],[(229,0,2)],([],[]))
def q178_U : rfU := []
set_option maxHeartbeats 8000000 in
def q178_N : List rfB := [(4,([(0,.inr (.inl [70])),(1,.inl ((0,387420488,1),none)),(2,.inl ((1,1,0),none))],[.inl ((1,1,0),none)],[((5,5),(4,4,0),some ((5,5),0,0)),((5,6),(2,2,0),some ((5,6),0,0)),((5,7),(13,13,0),some ((5,7),0,0)),((5,11),(0,0,0),some ((5,11),0,0)),((5,12),(0,0,0),some ((5,12),0,0)),((10,5),(4,4,0),some ((10,5),0,0)),((10,6),(2,2,0),some ((10,6),0,0)),((10,7),(13,13,0),some ((10,7),0,0)),((10,11),(0,0,0),some ((10,11),0,0)),((10,12),(0,0,0),some ((10,12),0,0)),((12,34),(0,0,0),some ((12,34),0,0)),((12,35),(0,0,0),some ((12,35),0,0)),((12,36),(0,0,0),some ((12,36),0,0))]),(7,[]),0)]
set_option maxRecDepth 100000 in
theorem q178_ok : (q178_N).all (rf_anc q178_P q178_U wLay q178_M ddX11_met [(50,[0])] [] [4] 600 q178_N) = true := by decide +kernel
set_option maxHeartbeats 4000000 in
set_option maxRecDepth 100000 in
theorem q178_met {G : rfG} (h : okG G) : rf_metV G q178_M (cbV true) := by
  refine h_metVX h.1 (by decide +kernel) (by decide) h.2.2.1 (wflT h flokX11) (wcsT h csokX11) (by decide +kernel) ?_
  intro vs w0 X hv_ hr hp c
  match vs, hv_ with
  | [_, _, _], ⟨⟨_, hj0, rfl⟩, ⟨a, rfl, hi_a, _⟩, ⟨u, rfl, hi_u, _⟩, _⟩ =>
  cases List.mem_singleton.mp hj0
  have hd : ∀ n pc i len, ddX11_met[n]? = some (pc, i, len) → decode (mb q178_M) pc = .ok (i, len) := fun n pc i len h => hdk dkX11_met n pc i len h
  show hW G X q178_M w0 0 [(0, .ref (G.2.1.1 70)), (1, .int a), (2, .int u)] [] (hv w0)
  generalize hF0 : hv w0 = F at *
  obtain ⟨⟨a_, ea_, hcb⟩, hp, hvs, hQ⟩ := hp
  cases ea_
  refine h_iln c (hd 0 0 _ _ rfl) (by rfl) (hat 1 rfl ?_)
  refine h_callSF c (M' := dM_can) ((dp_can h)) (by decide +kernel) (wlkS (lkX11_163 h) _ rfl rfl) (hd 1 1 _ _ rfl) [.int a] (rest := []) (by rfl) ⟨⟨_, rfl, rf_in_top _, trivial⟩, trivial⟩ (Nat.le_of_ble_eq_true rfl) trivial (fun rv1 F1 fr1 rr1 pp1 sm_ => hat 4 rfl ?_)
  have e_ := (sm_ rfl).symm
  subst e_
  obtain ⟨a_, x1, ea_, er_, hx1⟩ := pp1
  cases ea_; subst er_
  have e1_ : x1.toInt = 1 := by rcases hx1 with h_ | h_; exact h_.1; exact absurd (hcb.mpr rfl) h_.2
  exact h_anc0 c hQ hvs (as := [.inl ((1,1,0),none)]) (P := q178_P) ⟨wflT h flokX11, wcsT h csokX11, wlcT h lcokX11, spokX11 h, List.forall_mem_cons.mpr ⟨q177_met h, fun _ h => absurd h List.not_mem_nil⟩, fun _ h => absurd h List.not_mem_nil, List.forall_mem_cons.mpr ⟨fun M hM => Option.some.inj (show some q177_M = some M from hM) ▸ wlkV (lkX11_229 h) q177_M rfl rfl, fun _ h => absurd h List.not_mem_nil⟩, fun _ h => absurd h List.not_mem_nil, fun _ h => absurd h List.not_mem_nil⟩ dkX11_met q178_ok (by decide +kernel) (by decide +kernel) (by rfl) (by decide +kernel) hF0 hp (fun _ => ⟨⟨_, rfl, hcon e1_, trivial⟩, trivial⟩)
/-- NearSpellModel.met -/
def q181_M : rfM := ((⟨"NearSpellModel", "met", "(II)I"⟩, prog_14_method_74_code, 3, (some .int)), (5,221), ([.inr (.inl [114]),.inl ((0,387420488,1),none),.inl ((1,1,0),none)],[((75,0),(4,4,0),none),((76,0),(2,2,0),none),((77,0),(13,13,0),none),((80,0),(0,0,0),none),((90,28),(0,0,0),none),((90,29),(0,0,0),none),((90,36),(0,0,0),none),((114,28),(0,0,0),none),((114,34),(0,0,0),none),((114,39),(0,0,0),none)]), [(91,0),(93,0),(114,35),(114,40)], [(some (.inl ((0,0,0),none)),[],[])])
def q181_P : rfP := (flX12,csX12,lcX12,spX12,[q179_M,q180_M],[(334,0)],[(411,1,12)],([],[]))
def q181_U : rfU := []
set_option maxHeartbeats 8000000 in
def q181_N : List rfB := [(4,([(0,.inr (.inl [114])),(1,.inl ((0,387420488,1),none)),(2,.inl ((1,1,0),none))],[.inl ((1,1,0),none)],[((75,0),(4,4,0),some ((75,0),0,0)),((76,0),(2,2,0),some ((76,0),0,0)),((77,0),(13,13,0),some ((77,0),0,0)),((80,0),(0,0,0),some ((80,0),0,0)),((90,28),(0,0,0),some ((90,28),0,0)),((90,29),(0,0,0),some ((90,29),0,0)),((90,36),(0,0,0),some ((90,36),0,0)),((114,28),(0,0,0),some ((114,28),0,0)),((114,34),(0,0,0),some ((114,34),0,0)),((114,39),(0,0,0),some ((114,39),0,0))]),(14,[]),0)]
set_option maxRecDepth 100000 in
theorem q181_ok : (q181_N).all (rf_anc q181_P q181_U wLay q181_M ddX12_met [(10,[0]),(26,[1])] [] [4] 600 q181_N) = true := by decide +kernel
set_option maxHeartbeats 4000000 in
set_option maxRecDepth 100000 in
theorem q181_met {G : rfG} (h : okG G) : rf_metV G q181_M (cbV true) := by
  refine h_metVX h.1 (by decide +kernel) (by decide) h.2.2.1 (wflT h flokX12) (wcsT h csokX12) (by decide +kernel) ?_
  intro vs w0 X hv_ hr hp c
  match vs, hv_ with
  | [_, _, _], ⟨⟨_, hj0, rfl⟩, ⟨a, rfl, hi_a, _⟩, ⟨u, rfl, hi_u, _⟩, _⟩ =>
  cases List.mem_singleton.mp hj0
  have hd : ∀ n pc i len, ddX12_met[n]? = some (pc, i, len) → decode (mb q181_M) pc = .ok (i, len) := fun n pc i len h => hdk dkX12_met n pc i len h
  show hW G X q181_M w0 0 [(0, .ref (G.2.1.1 114)), (1, .int a), (2, .int u)] [] (hv w0)
  generalize hF0 : hv w0 = F at *
  obtain ⟨⟨a_, ea_, hcb⟩, hp, hvs, hQ⟩ := hp
  cases ea_
  refine h_iln c (hd 0 0 _ _ rfl) (by rfl) (hat 1 rfl ?_)
  refine h_callSF c (M' := dM_mcan) ((dp_mcan h)) (by decide +kernel) (wlkS (lkX12_420 h) _ rfl rfl) (hd 1 1 _ _ rfl) [.int a] (rest := []) (by rfl) ⟨⟨_, rfl, rf_in_top _, trivial⟩, trivial⟩ (Nat.le_of_ble_eq_true rfl) trivial (fun rv1 F1 fr1 rr1 pp1 sm_ => hat 4 rfl ?_)
  have e_ := (sm_ rfl).symm
  subst e_
  obtain ⟨a_, x1, ea_, er_, hx1⟩ := pp1
  cases ea_; subst er_
  have e1_ : x1.toInt = 1 := by rcases hx1 with h_ | h_; exact h_.1; exact absurd (hcb.mpr rfl) h_.2
  exact h_anc0 c hQ hvs (as := [.inl ((1,1,0),none)]) (P := q181_P) ⟨wflT h flokX12, wcsT h csokX12, wlcT h lcokX12, spokX12 h, List.forall_mem_cons.mpr ⟨q179_met h, List.forall_mem_cons.mpr ⟨q180_met h, fun _ h => absurd h List.not_mem_nil⟩⟩, List.forall_mem_cons.mpr ⟨fun M hM => Option.some.inj (show some q179_M = some M from hM) ▸ wlkS (lkX12_334 h) q179_M rfl rfl, fun _ h => absurd h List.not_mem_nil⟩, List.forall_mem_cons.mpr ⟨fun M hM => Option.some.inj (show some q180_M = some M from hM) ▸ wlkV (lkX12_411 h) q180_M rfl rfl, fun _ h => absurd h List.not_mem_nil⟩, fun _ h => absurd h List.not_mem_nil, fun _ h => absurd h List.not_mem_nil⟩ dkX12_met q181_ok (by decide +kernel) (by decide +kernel) (by rfl) (by decide +kernel) hF0 hp (fun _ => ⟨⟨_, rfl, hcon e1_, trivial⟩, trivial⟩)
/-- NearSpell.met -/
def q182_M : rfM := ((⟨"NearSpell", "met", "(II)I"⟩, prog_1_method_18_code, 3, (some .int)), (5,122), ([.inr (.inl [70]),.inl ((0,387420488,1),none),.inl ((2,2,0),none)],[((5,5),(4,4,0),none),((5,6),(2,2,0),none),((5,7),(13,13,0),none),((5,11),(0,0,0),none),((5,12),(0,0,0),none),((10,5),(4,4,0),none),((10,6),(2,2,0),none),((10,7),(13,13,0),none),((10,11),(0,0,0),none),((10,12),(0,0,0),none),((12,34),(0,0,0),none),((12,35),(0,0,0),none),((12,36),(0,0,0),none)]), [(49,0),(50,2),(50,3),(50,4),(50,5)], [(some (.inl ((0,0,1),none)),[],[((50,2),(0,387420488,1),none),((50,3),(4,4,1),none),((50,4),(2,2,1),none)])])
def q182_P : rfP := (flX11,csX11,lcX11,spX11,[q171_M,q177_M],[],[(226,0,2),(229,1,2)],([],[]))
def q182_U : rfU := []
set_option maxHeartbeats 8000000 in
def q182_N : List rfB := [(4,([(0,.inr (.inl [70])),(1,.inl ((0,387420488,1),none)),(2,.inl ((2,2,0),none))],[.inl ((1,1,0),none)],[((5,5),(4,4,0),some ((5,5),0,0)),((5,6),(2,2,0),some ((5,6),0,0)),((5,7),(13,13,0),some ((5,7),0,0)),((5,11),(0,0,0),some ((5,11),0,0)),((5,12),(0,0,0),some ((5,12),0,0)),((10,5),(4,4,0),some ((10,5),0,0)),((10,6),(2,2,0),some ((10,6),0,0)),((10,7),(13,13,0),some ((10,7),0,0)),((10,11),(0,0,0),some ((10,11),0,0)),((10,12),(0,0,0),some ((10,12),0,0)),((12,34),(0,0,0),some ((12,34),0,0)),((12,35),(0,0,0),some ((12,35),0,0)),((12,36),(0,0,0),some ((12,36),0,0))]),(14,[]),0)]
set_option maxRecDepth 100000 in
theorem q182_ok : (q182_N).all (rf_anc q182_P q182_U wLay q182_M ddX11_met [(59,[0]),(67,[1])] [] [4] 600 q182_N) = true := by decide +kernel
set_option maxHeartbeats 4000000 in
set_option maxRecDepth 100000 in
theorem q182_met {G : rfG} (h : okG G) : rf_metV G q182_M (cbV true) := by
  refine h_metVX h.1 (by decide +kernel) (by decide) h.2.2.1 (wflT h flokX11) (wcsT h csokX11) (by decide +kernel) ?_
  intro vs w0 X hv_ hr hp c
  match vs, hv_ with
  | [_, _, _], ⟨⟨_, hj0, rfl⟩, ⟨a, rfl, hi_a, _⟩, ⟨u, rfl, hi_u, _⟩, _⟩ =>
  cases List.mem_singleton.mp hj0
  have hd : ∀ n pc i len, ddX11_met[n]? = some (pc, i, len) → decode (mb q182_M) pc = .ok (i, len) := fun n pc i len h => hdk dkX11_met n pc i len h
  show hW G X q182_M w0 0 [(0, .ref (G.2.1.1 70)), (1, .int a), (2, .int u)] [] (hv w0)
  generalize hF0 : hv w0 = F at *
  obtain ⟨⟨a_, ea_, hcb⟩, hp, hvs, hQ⟩ := hp
  cases ea_
  refine h_iln c (hd 0 0 _ _ rfl) (by rfl) (hat 1 rfl ?_)
  refine h_callSF c (M' := dM_can) ((dp_can h)) (by decide +kernel) (wlkS (lkX11_163 h) _ rfl rfl) (hd 1 1 _ _ rfl) [.int a] (rest := []) (by rfl) ⟨⟨_, rfl, rf_in_top _, trivial⟩, trivial⟩ (Nat.le_of_ble_eq_true rfl) trivial (fun rv1 F1 fr1 rr1 pp1 sm_ => hat 4 rfl ?_)
  have e_ := (sm_ rfl).symm
  subst e_
  obtain ⟨a_, x1, ea_, er_, hx1⟩ := pp1
  cases ea_; subst er_
  have e1_ : x1.toInt = 1 := by rcases hx1 with h_ | h_; exact h_.1; exact absurd (hcb.mpr rfl) h_.2
  exact h_anc0 c hQ hvs (as := [.inl ((1,1,0),none)]) (P := q182_P) ⟨wflT h flokX11, wcsT h csokX11, wlcT h lcokX11, spokX11 h, List.forall_mem_cons.mpr ⟨q171_met h, List.forall_mem_cons.mpr ⟨q177_met h, fun _ h => absurd h List.not_mem_nil⟩⟩, fun _ h => absurd h List.not_mem_nil, List.forall_mem_cons.mpr ⟨fun M hM => Option.some.inj (show some q171_M = some M from hM) ▸ wlkV (lkX11_226 h) q171_M rfl rfl, List.forall_mem_cons.mpr ⟨fun M hM => Option.some.inj (show some q177_M = some M from hM) ▸ wlkV (lkX11_229 h) q177_M rfl rfl, fun _ h => absurd h List.not_mem_nil⟩⟩, fun _ h => absurd h List.not_mem_nil, fun _ h => absurd h List.not_mem_nil⟩ dkX11_met q182_ok (by decide +kernel) (by decide +kernel) (by rfl) (by decide +kernel) hF0 hp (fun _ => ⟨⟨_, rfl, hcon e1_, trivial⟩, trivial⟩)
/-- NearSpellModel.met -/
def q186_M : rfM := ((⟨"NearSpellModel", "met", "(II)I"⟩, prog_14_method_74_code, 3, (some .int)), (5,221), ([.inr (.inl [114]),.inl ((0,387420488,1),none),.inl ((2,2,0),none)],[((75,0),(4,4,0),none),((76,0),(2,2,0),none),((77,0),(13,13,0),none),((80,0),(0,0,0),none),((90,28),(0,0,0),none),((90,29),(0,0,0),none),((90,36),(0,0,0),none),((114,28),(0,0,0),none),((114,34),(0,0,0),none),((114,39),(0,0,0),none)]), [(91,0),(93,0),(114,35),(114,40)], [(some (.inl ((0,0,1),none)),[],[])])
def q186_P : rfP := (flX12,csX12,lcX12,spX12,[q183_M,q175_M,q185_M],[(334,0)],[(411,1,12),(411,2,12)],([],[]))
def q186_U : rfU := []
set_option maxHeartbeats 8000000 in
def q186_N : List rfB := [(4,([(0,.inr (.inl [114])),(1,.inl ((0,387420488,1),none)),(2,.inl ((2,2,0),none))],[.inl ((1,1,0),none)],[((75,0),(4,4,0),some ((75,0),0,0)),((76,0),(2,2,0),some ((76,0),0,0)),((77,0),(13,13,0),some ((77,0),0,0)),((80,0),(0,0,0),some ((80,0),0,0)),((90,28),(0,0,0),some ((90,28),0,0)),((90,29),(0,0,0),some ((90,29),0,0)),((90,36),(0,0,0),some ((90,36),0,0)),((114,28),(0,0,0),some ((114,28),0,0)),((114,34),(0,0,0),some ((114,34),0,0)),((114,39),(0,0,0),some ((114,39),0,0))]),(20,[]),0)]
set_option maxRecDepth 100000 in
theorem q186_ok : (q186_N).all (rf_anc q186_P q186_U wLay q186_M ddX12_met [(10,[0]),(35,[1]),(41,[2])] [] [4] 600 q186_N) = true := by decide +kernel
set_option maxHeartbeats 4000000 in
set_option maxRecDepth 100000 in
theorem q186_met {G : rfG} (h : okG G) : rf_metV G q186_M (cbV true) := by
  refine h_metVX h.1 (by decide +kernel) (by decide) h.2.2.1 (wflT h flokX12) (wcsT h csokX12) (by decide +kernel) ?_
  intro vs w0 X hv_ hr hp c
  match vs, hv_ with
  | [_, _, _], ⟨⟨_, hj0, rfl⟩, ⟨a, rfl, hi_a, _⟩, ⟨u, rfl, hi_u, _⟩, _⟩ =>
  cases List.mem_singleton.mp hj0
  have hd : ∀ n pc i len, ddX12_met[n]? = some (pc, i, len) → decode (mb q186_M) pc = .ok (i, len) := fun n pc i len h => hdk dkX12_met n pc i len h
  show hW G X q186_M w0 0 [(0, .ref (G.2.1.1 114)), (1, .int a), (2, .int u)] [] (hv w0)
  generalize hF0 : hv w0 = F at *
  obtain ⟨⟨a_, ea_, hcb⟩, hp, hvs, hQ⟩ := hp
  cases ea_
  refine h_iln c (hd 0 0 _ _ rfl) (by rfl) (hat 1 rfl ?_)
  refine h_callSF c (M' := dM_mcan) ((dp_mcan h)) (by decide +kernel) (wlkS (lkX12_420 h) _ rfl rfl) (hd 1 1 _ _ rfl) [.int a] (rest := []) (by rfl) ⟨⟨_, rfl, rf_in_top _, trivial⟩, trivial⟩ (Nat.le_of_ble_eq_true rfl) trivial (fun rv1 F1 fr1 rr1 pp1 sm_ => hat 4 rfl ?_)
  have e_ := (sm_ rfl).symm
  subst e_
  obtain ⟨a_, x1, ea_, er_, hx1⟩ := pp1
  cases ea_; subst er_
  have e1_ : x1.toInt = 1 := by rcases hx1 with h_ | h_; exact h_.1; exact absurd (hcb.mpr rfl) h_.2
  exact h_anc0 c hQ hvs (as := [.inl ((1,1,0),none)]) (P := q186_P) ⟨wflT h flokX12, wcsT h csokX12, wlcT h lcokX12, spokX12 h, List.forall_mem_cons.mpr ⟨q183_met h, List.forall_mem_cons.mpr ⟨q175_met h, List.forall_mem_cons.mpr ⟨q185_met h, fun _ h => absurd h List.not_mem_nil⟩⟩⟩, List.forall_mem_cons.mpr ⟨fun M hM => Option.some.inj (show some q183_M = some M from hM) ▸ wlkS (lkX12_334 h) q183_M rfl rfl, fun _ h => absurd h List.not_mem_nil⟩, List.forall_mem_cons.mpr ⟨fun M hM => Option.some.inj (show some q175_M = some M from hM) ▸ wlkV (lkX12_411 h) q175_M rfl rfl, List.forall_mem_cons.mpr ⟨fun M hM => Option.some.inj (show some q185_M = some M from hM) ▸ wlkV (lkX12_411 h) q185_M rfl rfl, fun _ h => absurd h List.not_mem_nil⟩⟩, fun _ h => absurd h List.not_mem_nil, fun _ h => absurd h List.not_mem_nil⟩ dkX12_met q186_ok (by decide +kernel) (by decide +kernel) (by rfl) (by decide +kernel) hF0 hp (fun _ => ⟨⟨_, rfl, hcon e1_, trivial⟩, trivial⟩)
/-- NearSpell.missed -/
def q193_M : rfM := ((⟨"NearSpell", "missed", "(II)I"⟩, prog_1_method_19_code, 3, (some .int)), (3,122), ([.inr (.inl [70]),.inl (((-2147483648),2147483647,1),none),.inl (((-2147483648),2147483647,1),none)],[((5,5),(4,4,0),none),((5,6),(2,2,0),none),((10,5),(4,4,0),none),((10,6),(2,2,0),none),((12,34),(0,0,0),none),((12,35),(0,0,0),none),((12,36),(0,0,0),none),((20,3),(0,0,0),none),((20,4),(0,0,0),none)]), [], [(some (.inl (((-1),(-1),0),none)),[],[])])
def q193_P : rfP := (flX11,csX11,lcX11,spX11,[],[],[],([],[]))
def q193_U : rfU := []
set_option maxHeartbeats 8000000 in
def q193_N : List rfB := [(4,([(0,.inr (.inl [70])),(1,.inl (((-2147483648),2147483647,1),none)),(2,.inl (((-2147483648),2147483647,1),none))],[.inl ((0,0,0),none)],[((5,5),(4,4,0),some ((5,5),0,0)),((5,6),(2,2,0),some ((5,6),0,0)),((10,5),(4,4,0),some ((10,5),0,0)),((10,6),(2,2,0),some ((10,6),0,0)),((12,34),(0,0,0),some ((12,34),0,0)),((12,35),(0,0,0),some ((12,35),0,0)),((12,36),(0,0,0),some ((12,36),0,0)),((20,3),(0,0,0),some ((20,3),0,0)),((20,4),(0,0,0),some ((20,4),0,0))]),(2,[]),0)]
set_option maxRecDepth 100000 in
theorem q193_ok : (q193_N).all (rf_anc q193_P q193_U wLay q193_M ddX11_missed [] [] [4] 600 q193_N) = true := by decide +kernel
set_option maxHeartbeats 4000000 in
set_option maxRecDepth 100000 in
theorem q193_met {G : rfG} (h : okG G) : rf_metV G q193_M (cbV false) := by
  refine h_metVX h.1 (by decide +kernel) (by decide) h.2.2.1 (wflT h flokX11) (wcsT h csokX11) (by decide +kernel) ?_
  intro vs w0 X hv_ hr hp c
  match vs, hv_ with
  | [_, _, _], ⟨⟨_, hj0, rfl⟩, ⟨a, rfl, hi_a, _⟩, ⟨u, rfl, hi_u, _⟩, _⟩ =>
  cases List.mem_singleton.mp hj0
  have hd : ∀ n pc i len, ddX11_missed[n]? = some (pc, i, len) → decode (mb q193_M) pc = .ok (i, len) := fun n pc i len h => hdk dkX11_missed n pc i len h
  show hW G X q193_M w0 0 [(0, .ref (G.2.1.1 70)), (1, .int a), (2, .int u)] [] (hv w0)
  generalize hF0 : hv w0 = F at *
  obtain ⟨⟨a_, ea_, hcb⟩, hp, hvs, hQ⟩ := hp
  cases ea_
  refine h_iln c (hd 0 0 _ _ rfl) (by rfl) (hat 1 rfl ?_)
  refine h_callSF c (M' := dM_can) ((dp_can h)) (by decide +kernel) (wlkS (lkX11_163 h) _ rfl rfl) (hd 1 1 _ _ rfl) [.int a] (rest := []) (by rfl) ⟨⟨_, rfl, rf_in_top _, trivial⟩, trivial⟩ (Nat.le_of_ble_eq_true rfl) trivial (fun rv1 F1 fr1 rr1 pp1 sm_ => hat 4 rfl ?_)
  have e_ := (sm_ rfl).symm
  subst e_
  obtain ⟨a_, x1, ea_, er_, hx1⟩ := pp1
  cases ea_; subst er_
  have e1_ : x1.toInt = 0 := by rcases hx1 with h_ | h_; exact absurd (hcb.mp h_.2) (by decide); exact h_.1
  exact h_anc0 c hQ hvs (as := [.inl ((0,0,0),none)]) (P := q193_P) ⟨wflT h flokX11, wcsT h csokX11, wlcT h lcokX11, spokX11 h, fun _ h => absurd h List.not_mem_nil, fun _ h => absurd h List.not_mem_nil, fun _ h => absurd h List.not_mem_nil, fun _ h => absurd h List.not_mem_nil, fun _ h => absurd h List.not_mem_nil⟩ dkX11_missed q193_ok (by decide +kernel) (by decide +kernel) (by rfl) (by decide +kernel) hF0 hp (fun _ => ⟨⟨_, rfl, hcon e1_, trivial⟩, trivial⟩)
/-- NearSpellModel.missed -/
def q194_M : rfM := ((⟨"NearSpellModel", "missed", "(II)I"⟩, prog_14_method_75_code, 4, (some .int)), (5,221), ([.inr (.inl [114]),.inl (((-2147483648),2147483647,1),none),.inl (((-2147483648),2147483647,1),none)],[((75,0),(4,4,0),none),((76,0),(2,2,0),none),((77,0),(13,13,0),none),((80,0),(0,0,0),none),((90,28),(0,0,0),none),((90,29),(0,0,0),none),((90,36),(0,0,0),none),((114,28),(0,0,0),none),((114,34),(0,0,0),none),((114,39),(0,0,0),none),((114,44),(0,0,0),none),((114,45),(0,0,0),none)]), [], [(some (.inl (((-1),(-1),0),none)),[],[])])
def q194_P : rfP := (flX12,csX12,lcX12,spX12,[],[],[],([],[]))
def q194_U : rfU := []
set_option maxHeartbeats 8000000 in
def q194_N : List rfB := [(4,([(0,.inr (.inl [114])),(1,.inl (((-2147483648),2147483647,1),none)),(2,.inl (((-2147483648),2147483647,1),none))],[.inl ((0,0,0),none)],[((75,0),(4,4,0),some ((75,0),0,0)),((76,0),(2,2,0),some ((76,0),0,0)),((77,0),(13,13,0),some ((77,0),0,0)),((80,0),(0,0,0),some ((80,0),0,0)),((90,28),(0,0,0),some ((90,28),0,0)),((90,29),(0,0,0),some ((90,29),0,0)),((90,36),(0,0,0),some ((90,36),0,0)),((114,28),(0,0,0),some ((114,28),0,0)),((114,34),(0,0,0),some ((114,34),0,0)),((114,39),(0,0,0),some ((114,39),0,0)),((114,44),(0,0,0),some ((114,44),0,0)),((114,45),(0,0,0),some ((114,45),0,0))]),(2,[]),0)]
set_option maxRecDepth 100000 in
theorem q194_ok : (q194_N).all (rf_anc q194_P q194_U wLay q194_M ddX12_missed [] [] [4] 600 q194_N) = true := by decide +kernel
set_option maxHeartbeats 4000000 in
set_option maxRecDepth 100000 in
theorem q194_met {G : rfG} (h : okG G) : rf_metV G q194_M (cbV false) := by
  refine h_metVX h.1 (by decide +kernel) (by decide) h.2.2.1 (wflT h flokX12) (wcsT h csokX12) (by decide +kernel) ?_
  intro vs w0 X hv_ hr hp c
  match vs, hv_ with
  | [_, _, _], ⟨⟨_, hj0, rfl⟩, ⟨a, rfl, hi_a, _⟩, ⟨u, rfl, hi_u, _⟩, _⟩ =>
  cases List.mem_singleton.mp hj0
  have hd : ∀ n pc i len, ddX12_missed[n]? = some (pc, i, len) → decode (mb q194_M) pc = .ok (i, len) := fun n pc i len h => hdk dkX12_missed n pc i len h
  show hW G X q194_M w0 0 [(0, .ref (G.2.1.1 114)), (1, .int a), (2, .int u)] [] (hv w0)
  generalize hF0 : hv w0 = F at *
  obtain ⟨⟨a_, ea_, hcb⟩, hp, hvs, hQ⟩ := hp
  cases ea_
  refine h_iln c (hd 0 0 _ _ rfl) (by rfl) (hat 1 rfl ?_)
  refine h_callSF c (M' := dM_mcan) ((dp_mcan h)) (by decide +kernel) (wlkS (lkX12_420 h) _ rfl rfl) (hd 1 1 _ _ rfl) [.int a] (rest := []) (by rfl) ⟨⟨_, rfl, rf_in_top _, trivial⟩, trivial⟩ (Nat.le_of_ble_eq_true rfl) trivial (fun rv1 F1 fr1 rr1 pp1 sm_ => hat 4 rfl ?_)
  have e_ := (sm_ rfl).symm
  subst e_
  obtain ⟨a_, x1, ea_, er_, hx1⟩ := pp1
  cases ea_; subst er_
  have e1_ : x1.toInt = 0 := by rcases hx1 with h_ | h_; exact absurd (hcb.mp h_.2) (by decide); exact h_.1
  exact h_anc0 c hQ hvs (as := [.inl ((0,0,0),none)]) (P := q194_P) ⟨wflT h flokX12, wcsT h csokX12, wlcT h lcokX12, spokX12 h, fun _ h => absurd h List.not_mem_nil, fun _ h => absurd h List.not_mem_nil, fun _ h => absurd h List.not_mem_nil, fun _ h => absurd h List.not_mem_nil, fun _ h => absurd h List.not_mem_nil⟩ dkX12_missed q194_ok (by decide +kernel) (by decide +kernel) (by rfl) (by decide +kernel) hF0 hp (fun _ => ⟨⟨_, rfl, hcon e1_, trivial⟩, trivial⟩)
/-- NearSpell.missed -/
def q197_M : rfM := ((⟨"NearSpell", "missed", "(II)I"⟩, prog_1_method_19_code, 3, (some .int)), (5,122), ([.inr (.inl [70]),.inl ((0,387420488,1),none),.inl ((0,6,1),none)],[((5,5),(4,4,0),none),((5,6),(2,2,0),none),((10,5),(4,4,0),none),((10,6),(2,2,0),none),((12,34),(0,0,0),none),((12,35),(0,0,0),none),((12,36),(0,0,0),none),((20,3),(0,0,0),none),((20,4),(0,0,0),none)]), [(17,0),(20,4),(20,5),(49,0),(50,2),(50,3),(50,4),(50,5)], [(some (.inl ((0,0,1),none)),[],[((20,3),(0,6,1),none),((20,4),(0,0,0),none),((50,2),(0,387420488,1),none),((50,3),(4,4,1),none),((50,4),(2,2,1),none)])])
def q197_P : rfP := (flX11,csX11,lcX11,spX11,[q195_M,q196_M,q177_M],[(232,0)],[(229,2,2),(235,1,2)],([],[]))
def q197_U : rfU := []
set_option maxHeartbeats 8000000 in
def q197_N : List rfB := [(4,([(0,.inr (.inl [70])),(1,.inl ((0,387420488,1),none)),(2,.inl ((0,6,1),none))],[.inl ((1,1,0),none)],[((5,5),(4,4,0),some ((5,5),0,0)),((5,6),(2,2,0),some ((5,6),0,0)),((10,5),(4,4,0),some ((10,5),0,0)),((10,6),(2,2,0),some ((10,6),0,0)),((12,34),(0,0,0),some ((12,34),0,0)),((12,35),(0,0,0),some ((12,35),0,0)),((12,36),(0,0,0),some ((12,36),0,0)),((20,3),(0,0,0),some ((20,3),0,0)),((20,4),(0,0,0),some ((20,4),0,0))]),(16,[]),0)]
set_option maxRecDepth 100000 in
theorem q197_ok : (q197_N).all (rf_anc q197_P q197_U wLay q197_M ddX11_missed [(8,[0]),(22,[1]),(30,[2])] [] [4] 600 q197_N) = true := by decide +kernel
set_option maxHeartbeats 4000000 in
set_option maxRecDepth 100000 in
theorem q197_met {G : rfG} (h : okG G) : rf_metV G q197_M (cbV true) := by
  refine h_metVX h.1 (by decide +kernel) (by decide) h.2.2.1 (wflT h flokX11) (wcsT h csokX11) (by decide +kernel) ?_
  intro vs w0 X hv_ hr hp c
  match vs, hv_ with
  | [_, _, _], ⟨⟨_, hj0, rfl⟩, ⟨a, rfl, hi_a, _⟩, ⟨u, rfl, hi_u, _⟩, _⟩ =>
  cases List.mem_singleton.mp hj0
  have hd : ∀ n pc i len, ddX11_missed[n]? = some (pc, i, len) → decode (mb q197_M) pc = .ok (i, len) := fun n pc i len h => hdk dkX11_missed n pc i len h
  show hW G X q197_M w0 0 [(0, .ref (G.2.1.1 70)), (1, .int a), (2, .int u)] [] (hv w0)
  generalize hF0 : hv w0 = F at *
  obtain ⟨⟨a_, ea_, hcb⟩, hp, hvs, hQ⟩ := hp
  cases ea_
  refine h_iln c (hd 0 0 _ _ rfl) (by rfl) (hat 1 rfl ?_)
  refine h_callSF c (M' := dM_can) ((dp_can h)) (by decide +kernel) (wlkS (lkX11_163 h) _ rfl rfl) (hd 1 1 _ _ rfl) [.int a] (rest := []) (by rfl) ⟨⟨_, rfl, rf_in_top _, trivial⟩, trivial⟩ (Nat.le_of_ble_eq_true rfl) trivial (fun rv1 F1 fr1 rr1 pp1 sm_ => hat 4 rfl ?_)
  have e_ := (sm_ rfl).symm
  subst e_
  obtain ⟨a_, x1, ea_, er_, hx1⟩ := pp1
  cases ea_; subst er_
  have e1_ : x1.toInt = 1 := by rcases hx1 with h_ | h_; exact h_.1; exact absurd (hcb.mpr rfl) h_.2
  exact h_anc0 c hQ hvs (as := [.inl ((1,1,0),none)]) (P := q197_P) ⟨wflT h flokX11, wcsT h csokX11, wlcT h lcokX11, spokX11 h, List.forall_mem_cons.mpr ⟨q195_met h, List.forall_mem_cons.mpr ⟨q196_met h, List.forall_mem_cons.mpr ⟨q177_met h, fun _ h => absurd h List.not_mem_nil⟩⟩⟩, List.forall_mem_cons.mpr ⟨fun M hM => Option.some.inj (show some q195_M = some M from hM) ▸ wlkS (lkX11_232 h) q195_M rfl rfl, fun _ h => absurd h List.not_mem_nil⟩, List.forall_mem_cons.mpr ⟨fun M hM => Option.some.inj (show some q177_M = some M from hM) ▸ wlkV (lkX11_229 h) q177_M rfl rfl, List.forall_mem_cons.mpr ⟨fun M hM => Option.some.inj (show some q196_M = some M from hM) ▸ wlkV (lkX11_235 h) q196_M rfl rfl, fun _ h => absurd h List.not_mem_nil⟩⟩, fun _ h => absurd h List.not_mem_nil, fun _ h => absurd h List.not_mem_nil⟩ dkX11_missed q197_ok (by decide +kernel) (by decide +kernel) (by rfl) (by decide +kernel) hF0 hp (fun _ => ⟨⟨_, rfl, hcon e1_, trivial⟩, trivial⟩)
/-- NearSpellModel.missed -/
def q202_M : rfM := ((⟨"NearSpellModel", "missed", "(II)I"⟩, prog_14_method_75_code, 4, (some .int)), (5,221), ([.inr (.inl [114]),.inl ((0,387420488,1),none),.inl ((0,6,1),none)],[((75,0),(4,4,0),none),((76,0),(2,2,0),none),((77,0),(13,13,0),none),((80,0),(0,0,0),none),((90,28),(0,0,0),none),((90,29),(0,0,0),none),((90,36),(0,0,0),none),((114,28),(0,0,0),none),((114,34),(0,0,0),none),((114,39),(0,0,0),none),((114,44),(0,0,0),none),((114,45),(0,0,0),none)]), [(91,0),(93,0),(98,0),(114,35),(114,40)], [(some (.inl ((0,0,0),none)),[],[])])
def q202_P : rfP := (flX12,csX12,lcX12,spX12,[q198_M,q199_M,q180_M,q200_M,q201_M],[(334,0)],[(411,2,12),(414,3,12),(423,1,12),(426,4,12)],([],[]))
def q202_U : rfU := []
set_option maxHeartbeats 8000000 in
def q202_N : List rfB := [(4,([(0,.inr (.inl [114])),(1,.inl ((0,387420488,1),none)),(2,.inl ((0,6,1),none))],[.inl ((1,1,0),none)],[((75,0),(4,4,0),some ((75,0),0,0)),((76,0),(2,2,0),some ((76,0),0,0)),((77,0),(13,13,0),some ((77,0),0,0)),((80,0),(0,0,0),some ((80,0),0,0)),((90,28),(0,0,0),some ((90,28),0,0)),((90,29),(0,0,0),some ((90,29),0,0)),((90,36),(0,0,0),some ((90,36),0,0)),((114,28),(0,0,0),some ((114,28),0,0)),((114,34),(0,0,0),some ((114,34),0,0)),((114,39),(0,0,0),some ((114,39),0,0)),((114,44),(0,0,0),some ((114,44),0,0)),((114,45),(0,0,0),some ((114,45),0,0))]),(23,[]),0)]
set_option maxRecDepth 100000 in
theorem q202_ok : (q202_N).all (rf_anc q202_P q202_U wLay q202_M ddX12_missed [(11,[0]),(20,[1]),(26,[2]),(35,[3]),(41,[4])] [] [4] 600 q202_N) = true := by decide +kernel
set_option maxHeartbeats 4000000 in
set_option maxRecDepth 100000 in
theorem q202_met {G : rfG} (h : okG G) : rf_metV G q202_M (cbV true) := by
  refine h_metVX h.1 (by decide +kernel) (by decide) h.2.2.1 (wflT h flokX12) (wcsT h csokX12) (by decide +kernel) ?_
  intro vs w0 X hv_ hr hp c
  match vs, hv_ with
  | [_, _, _], ⟨⟨_, hj0, rfl⟩, ⟨a, rfl, hi_a, _⟩, ⟨u, rfl, hi_u, _⟩, _⟩ =>
  cases List.mem_singleton.mp hj0
  have hd : ∀ n pc i len, ddX12_missed[n]? = some (pc, i, len) → decode (mb q202_M) pc = .ok (i, len) := fun n pc i len h => hdk dkX12_missed n pc i len h
  show hW G X q202_M w0 0 [(0, .ref (G.2.1.1 114)), (1, .int a), (2, .int u)] [] (hv w0)
  generalize hF0 : hv w0 = F at *
  obtain ⟨⟨a_, ea_, hcb⟩, hp, hvs, hQ⟩ := hp
  cases ea_
  refine h_iln c (hd 0 0 _ _ rfl) (by rfl) (hat 1 rfl ?_)
  refine h_callSF c (M' := dM_mcan) ((dp_mcan h)) (by decide +kernel) (wlkS (lkX12_420 h) _ rfl rfl) (hd 1 1 _ _ rfl) [.int a] (rest := []) (by rfl) ⟨⟨_, rfl, rf_in_top _, trivial⟩, trivial⟩ (Nat.le_of_ble_eq_true rfl) trivial (fun rv1 F1 fr1 rr1 pp1 sm_ => hat 4 rfl ?_)
  have e_ := (sm_ rfl).symm
  subst e_
  obtain ⟨a_, x1, ea_, er_, hx1⟩ := pp1
  cases ea_; subst er_
  have e1_ : x1.toInt = 1 := by rcases hx1 with h_ | h_; exact h_.1; exact absurd (hcb.mpr rfl) h_.2
  exact h_anc0 c hQ hvs (as := [.inl ((1,1,0),none)]) (P := q202_P) ⟨wflT h flokX12, wcsT h csokX12, wlcT h lcokX12, spokX12 h, List.forall_mem_cons.mpr ⟨q198_met h, List.forall_mem_cons.mpr ⟨q199_met h, List.forall_mem_cons.mpr ⟨q180_met h, List.forall_mem_cons.mpr ⟨q200_met h, List.forall_mem_cons.mpr ⟨q201_met h, fun _ h => absurd h List.not_mem_nil⟩⟩⟩⟩⟩, List.forall_mem_cons.mpr ⟨fun M hM => Option.some.inj (show some q198_M = some M from hM) ▸ wlkS (lkX12_334 h) q198_M rfl rfl, fun _ h => absurd h List.not_mem_nil⟩, List.forall_mem_cons.mpr ⟨fun M hM => Option.some.inj (show some q180_M = some M from hM) ▸ wlkV (lkX12_411 h) q180_M rfl rfl, List.forall_mem_cons.mpr ⟨fun M hM => Option.some.inj (show some q200_M = some M from hM) ▸ wlkV (lkX12_414 h) q200_M rfl rfl, List.forall_mem_cons.mpr ⟨fun M hM => Option.some.inj (show some q199_M = some M from hM) ▸ wlkV (lkX12_423 h) q199_M rfl rfl, List.forall_mem_cons.mpr ⟨fun M hM => Option.some.inj (show some q201_M = some M from hM) ▸ wlkV (lkX12_426 h) q201_M rfl rfl, fun _ h => absurd h List.not_mem_nil⟩⟩⟩⟩, fun _ h => absurd h List.not_mem_nil, fun _ h => absurd h List.not_mem_nil⟩ dkX12_missed q202_ok (by decide +kernel) (by decide +kernel) (by rfl) (by decide +kernel) hF0 hp (fun _ => ⟨⟨_, rfl, hcon e1_, trivial⟩, trivial⟩)
/-- NearSpell.near -/
def q218_M : rfM := ((⟨"NearSpell", "near", "(II)I"⟩, prog_1_method_21_code, 3, (some .int)), (3,122), ([.inr (.inl [70]),.inl (((-2147483648),2147483647,1),none),.inl (((-2147483648),2147483647,1),none)],[((5,5),(4,4,0),none),((5,6),(2,2,0),none),((10,5),(4,4,0),none),((10,6),(2,2,0),none),((12,34),(0,0,0),none),((12,35),(0,0,0),none),((12,36),(0,0,0),none),((20,3),(0,0,0),none),((20,4),(0,0,0),none),((70,14),(0,0,0),none)]), [(70,15)], [(some (.inl (((-1),(-1),0),none)),[],[((70,14),(0,0,0),some ((70,14),0,0))])])
def q218_P : rfP := (flX11,csX11,lcX11,spX11,[],[],[],([],[]))
def q218_U : rfU := []
set_option maxHeartbeats 8000000 in
def q218_N : List rfB := [(9,([(0,.inr (.inl [70])),(1,.inl (((-2147483648),2147483647,1),none)),(2,.inl (((-2147483648),2147483647,1),none))],[.inl ((0,0,0),none)],[((5,5),(4,4,0),some ((5,5),0,0)),((5,6),(2,2,0),some ((5,6),0,0)),((10,5),(4,4,0),some ((10,5),0,0)),((10,6),(2,2,0),some ((10,6),0,0)),((12,34),(0,0,0),some ((12,34),0,0)),((12,35),(0,0,0),some ((12,35),0,0)),((12,36),(0,0,0),some ((12,36),0,0)),((20,3),(0,0,0),some ((20,3),0,0)),((20,4),(0,0,0),some ((20,4),0,0)),((70,14),(0,0,0),some ((70,14),0,0))]),(2,[]),0)]
set_option maxRecDepth 100000 in
theorem q218_ok : (q218_N).all (rf_anc q218_P q218_U wLay q218_M ddX11_near [] [] [9] 600 q218_N) = true := by decide +kernel
set_option maxHeartbeats 4000000 in
set_option maxRecDepth 100000 in
theorem q218_met {G : rfG} (h : okG G) : rf_metV G q218_M (cbV false) := by
  refine h_metVX h.1 (by decide +kernel) (by decide) h.2.2.1 (wflT h flokX11) (wcsT h csokX11) (by decide +kernel) ?_
  intro vs w0 X hv_ hr hp c
  match vs, hv_ with
  | [_, _, _], ⟨⟨_, hj0, rfl⟩, ⟨a, rfl, hi_a, _⟩, ⟨u, rfl, hi_u, _⟩, _⟩ =>
  cases List.mem_singleton.mp hj0
  have hd : ∀ n pc i len, ddX11_near[n]? = some (pc, i, len) → decode (mb q218_M) pc = .ok (i, len) := fun n pc i len h => hdk dkX11_near n pc i len h
  show hW G X q218_M w0 0 [(0, .ref (G.2.1.1 70)), (1, .int a), (2, .int u)] [] (hv w0)
  generalize hF0 : hv w0 = F at *
  obtain ⟨⟨a_, ea_, hcb⟩, hp, hvs, hQ⟩ := hp
  cases ea_
  refine h_aln c (hd 0 0 _ _ rfl) (by rfl) (hat 1 rfl ?_)
  refine h_ic c (hd 1 1 _ _ rfl) (by decide) (fun v1 e1 => hat 2 rfl ?_)
  refine h_putI c (hd 2 2 _ _ rfl) fgX11_104 gnX11_104_70 (by decide) (by decide) rfl (rf_in1 (by omega) (by omega)) (hat 5 rfl ?_)
  refine h_iln c (hd 3 5 _ _ rfl) (by rfl) (hat 6 rfl ?_)
  refine h_callSF c (M' := dM_can) ((dp_can h)) (by decide +kernel) (wlkS (lkX11_163 h) _ rfl rfl) (hd 4 6 _ _ rfl) [.int a] (rest := []) (by rfl) ⟨⟨_, rfl, rf_in_top _, trivial⟩, trivial⟩ (Nat.le_of_ble_eq_true rfl) trivial (fun rv6 F6 fr6 rr6 pp6 sm_ => hat 9 rfl ?_)
  have e_ := (sm_ rfl).symm
  subst e_
  obtain ⟨a_, x6, ea_, er_, hx6⟩ := pp6
  cases ea_; subst er_
  have hz_ : (F 70 14).toInt = 0 := by have a_ : 0 ≤ (F 70 14).toInt := (hp _ (List.mem_of_getElem? (i := 9) rfl)).1; have b_ : (F 70 14).toInt ≤ 0 := (hp _ (List.mem_of_getElem? (i := 9) rfl)).2.1; omega
  rw [hupd_id (F := F) (j := 70) (k := 14) (x := v1) (Int32.toInt_inj.mp (by omega))]
  have e1_ : x6.toInt = 0 := by rcases hx6 with h_ | h_; exact absurd (hcb.mp h_.2) (by decide); exact h_.1
  exact h_anc0 c hQ hvs (as := [.inl ((0,0,0),none)]) (P := q218_P) ⟨wflT h flokX11, wcsT h csokX11, wlcT h lcokX11, spokX11 h, fun _ h => absurd h List.not_mem_nil, fun _ h => absurd h List.not_mem_nil, fun _ h => absurd h List.not_mem_nil, fun _ h => absurd h List.not_mem_nil, fun _ h => absurd h List.not_mem_nil⟩ dkX11_near q218_ok (by decide +kernel) (by decide +kernel) (by rfl) (by decide +kernel) hF0 hp (fun _ => ⟨⟨_, rfl, hcon e1_, trivial⟩, trivial⟩)
/-- NearSpellModel.near -/
def q219_M : rfM := ((⟨"NearSpellModel", "near", "(II)I"⟩, prog_14_method_77_code, 5, (some .int)), (5,221), ([.inr (.inl [114]),.inl (((-2147483648),2147483647,1),none),.inl (((-2147483648),2147483647,1),none)],[((75,0),(4,4,0),none),((76,0),(2,2,0),none),((77,0),(13,13,0),none),((80,0),(0,0,0),none),((90,28),(0,0,0),none),((90,29),(0,0,0),none),((90,36),(0,0,0),none),((114,28),(0,0,0),none),((114,34),(0,0,0),none),((114,39),(0,0,0),none),((114,44),(0,0,0),none),((114,45),(0,0,0),none),((114,48),(0,0,0),none)]), [(114,49)], [(some (.inl (((-1),(-1),0),none)),[],[((114,48),(0,0,0),some ((114,48),0,0))])])
def q219_P : rfP := (flX12,csX12,lcX12,spX12,[],[],[],([],[]))
def q219_U : rfU := []
set_option maxHeartbeats 8000000 in
def q219_N : List rfB := [(9,([(0,.inr (.inl [114])),(1,.inl (((-2147483648),2147483647,1),none)),(2,.inl (((-2147483648),2147483647,1),none))],[.inl ((0,0,0),none)],[((75,0),(4,4,0),some ((75,0),0,0)),((76,0),(2,2,0),some ((76,0),0,0)),((77,0),(13,13,0),some ((77,0),0,0)),((80,0),(0,0,0),some ((80,0),0,0)),((90,28),(0,0,0),some ((90,28),0,0)),((90,29),(0,0,0),some ((90,29),0,0)),((90,36),(0,0,0),some ((90,36),0,0)),((114,28),(0,0,0),some ((114,28),0,0)),((114,34),(0,0,0),some ((114,34),0,0)),((114,39),(0,0,0),some ((114,39),0,0)),((114,44),(0,0,0),some ((114,44),0,0)),((114,45),(0,0,0),some ((114,45),0,0)),((114,48),(0,0,0),some ((114,48),0,0))]),(2,[]),0)]
set_option maxRecDepth 100000 in
theorem q219_ok : (q219_N).all (rf_anc q219_P q219_U wLay q219_M ddX12_near [] [] [9] 600 q219_N) = true := by decide +kernel
set_option maxHeartbeats 4000000 in
set_option maxRecDepth 100000 in
theorem q219_met {G : rfG} (h : okG G) : rf_metV G q219_M (cbV false) := by
  refine h_metVX h.1 (by decide +kernel) (by decide) h.2.2.1 (wflT h flokX12) (wcsT h csokX12) (by decide +kernel) ?_
  intro vs w0 X hv_ hr hp c
  match vs, hv_ with
  | [_, _, _], ⟨⟨_, hj0, rfl⟩, ⟨a, rfl, hi_a, _⟩, ⟨u, rfl, hi_u, _⟩, _⟩ =>
  cases List.mem_singleton.mp hj0
  have hd : ∀ n pc i len, ddX12_near[n]? = some (pc, i, len) → decode (mb q219_M) pc = .ok (i, len) := fun n pc i len h => hdk dkX12_near n pc i len h
  show hW G X q219_M w0 0 [(0, .ref (G.2.1.1 114)), (1, .int a), (2, .int u)] [] (hv w0)
  generalize hF0 : hv w0 = F at *
  obtain ⟨⟨a_, ea_, hcb⟩, hp, hvs, hQ⟩ := hp
  cases ea_
  refine h_aln c (hd 0 0 _ _ rfl) (by rfl) (hat 1 rfl ?_)
  refine h_ic c (hd 1 1 _ _ rfl) (by decide) (fun v1 e1 => hat 2 rfl ?_)
  refine h_putI c (hd 2 2 _ _ rfl) fgX12_347 gnX12_347_114 (by decide) (by decide) rfl (rf_in1 (by omega) (by omega)) (hat 5 rfl ?_)
  refine h_iln c (hd 3 5 _ _ rfl) (by rfl) (hat 6 rfl ?_)
  refine h_callSF c (M' := dM_mcan) ((dp_mcan h)) (by decide +kernel) (wlkS (lkX12_420 h) _ rfl rfl) (hd 4 6 _ _ rfl) [.int a] (rest := []) (by rfl) ⟨⟨_, rfl, rf_in_top _, trivial⟩, trivial⟩ (Nat.le_of_ble_eq_true rfl) trivial (fun rv6 F6 fr6 rr6 pp6 sm_ => hat 9 rfl ?_)
  have e_ := (sm_ rfl).symm
  subst e_
  obtain ⟨a_, x6, ea_, er_, hx6⟩ := pp6
  cases ea_; subst er_
  have hz_ : (F 114 48).toInt = 0 := by have a_ : 0 ≤ (F 114 48).toInt := (hp _ (List.mem_of_getElem? (i := 12) rfl)).1; have b_ : (F 114 48).toInt ≤ 0 := (hp _ (List.mem_of_getElem? (i := 12) rfl)).2.1; omega
  rw [hupd_id (F := F) (j := 114) (k := 48) (x := v1) (Int32.toInt_inj.mp (by omega))]
  have e1_ : x6.toInt = 0 := by rcases hx6 with h_ | h_; exact absurd (hcb.mp h_.2) (by decide); exact h_.1
  exact h_anc0 c hQ hvs (as := [.inl ((0,0,0),none)]) (P := q219_P) ⟨wflT h flokX12, wcsT h csokX12, wlcT h lcokX12, spokX12 h, fun _ h => absurd h List.not_mem_nil, fun _ h => absurd h List.not_mem_nil, fun _ h => absurd h List.not_mem_nil, fun _ h => absurd h List.not_mem_nil, fun _ h => absurd h List.not_mem_nil⟩ dkX12_near q219_ok (by decide +kernel) (by decide +kernel) (by rfl) (by decide +kernel) hF0 hp (fun _ => ⟨⟨_, rfl, hcon e1_, trivial⟩, trivial⟩)
/-- NearSpell.near -/
def q221_M : rfM := ((⟨"NearSpell", "near", "(II)I"⟩, prog_1_method_21_code, 3, (some .int)), (6,143), ([.inr (.inl [70]),.inl ((0,387420488,1),none),.inl ((0,6,1),none)],[((5,5),(4,4,0),none),((5,6),(2,2,0),none),((10,5),(4,4,0),none),((10,6),(2,2,0),none),((12,34),(0,0,0),none),((12,35),(0,0,0),none),((12,36),(0,0,0),none),((20,3),(0,0,0),none),((20,4),(0,0,0),none),((70,14),(0,0,0),none)]), [(17,0),(20,4),(20,5),(49,0),(50,2),(50,3),(50,4),(50,5),(70,15)], [(some (.inl ((0,0,0),none)),[],[((20,3),(0,6,1),none),((20,4),(0,0,0),none),((50,2),(0,387420488,1),none),((50,3),(4,4,1),none),((50,4),(2,2,1),none),((70,14),(0,0,0),none)])])
def q221_P : rfP := (flX11,csX11,lcX11,spX11,[q195_M,q220_M],[(232,0)],[(238,1,2)],([],[]))
def q221_U : rfU := []
set_option maxHeartbeats 8000000 in
def q221_N : List rfB := [(9,([(0,.inr (.inl [70])),(1,.inl ((0,387420488,1),none)),(2,.inl ((0,6,1),none))],[.inl ((1,1,0),none)],[((5,5),(4,4,0),some ((5,5),0,0)),((5,6),(2,2,0),some ((5,6),0,0)),((10,5),(4,4,0),some ((10,5),0,0)),((10,6),(2,2,0),some ((10,6),0,0)),((12,34),(0,0,0),some ((12,34),0,0)),((12,35),(0,0,0),some ((12,35),0,0)),((12,36),(0,0,0),some ((12,36),0,0)),((20,3),(0,0,0),some ((20,3),0,0)),((20,4),(0,0,0),some ((20,4),0,0)),((70,14),(0,0,0),some ((70,14),0,0))]),(15,[]),0)]
set_option maxRecDepth 100000 in
theorem q221_ok : (q221_N).all (rf_anc q221_P q221_U wLay q221_M ddX11_near [(13,[0]),(32,[1])] [] [9] 600 q221_N) = true := by decide +kernel
set_option maxHeartbeats 4000000 in
set_option maxRecDepth 100000 in
theorem q221_met {G : rfG} (h : okG G) : rf_metV G q221_M (cbV true) := by
  refine h_metVX h.1 (by decide +kernel) (by decide) h.2.2.1 (wflT h flokX11) (wcsT h csokX11) (by decide +kernel) ?_
  intro vs w0 X hv_ hr hp c
  match vs, hv_ with
  | [_, _, _], ⟨⟨_, hj0, rfl⟩, ⟨a, rfl, hi_a, _⟩, ⟨u, rfl, hi_u, _⟩, _⟩ =>
  cases List.mem_singleton.mp hj0
  have hd : ∀ n pc i len, ddX11_near[n]? = some (pc, i, len) → decode (mb q221_M) pc = .ok (i, len) := fun n pc i len h => hdk dkX11_near n pc i len h
  show hW G X q221_M w0 0 [(0, .ref (G.2.1.1 70)), (1, .int a), (2, .int u)] [] (hv w0)
  generalize hF0 : hv w0 = F at *
  obtain ⟨⟨a_, ea_, hcb⟩, hp, hvs, hQ⟩ := hp
  cases ea_
  refine h_aln c (hd 0 0 _ _ rfl) (by rfl) (hat 1 rfl ?_)
  refine h_ic c (hd 1 1 _ _ rfl) (by decide) (fun v1 e1 => hat 2 rfl ?_)
  refine h_putI c (hd 2 2 _ _ rfl) fgX11_104 gnX11_104_70 (by decide) (by decide) rfl (rf_in1 (by omega) (by omega)) (hat 5 rfl ?_)
  refine h_iln c (hd 3 5 _ _ rfl) (by rfl) (hat 6 rfl ?_)
  refine h_callSF c (M' := dM_can) ((dp_can h)) (by decide +kernel) (wlkS (lkX11_163 h) _ rfl rfl) (hd 4 6 _ _ rfl) [.int a] (rest := []) (by rfl) ⟨⟨_, rfl, rf_in_top _, trivial⟩, trivial⟩ (Nat.le_of_ble_eq_true rfl) trivial (fun rv6 F6 fr6 rr6 pp6 sm_ => hat 9 rfl ?_)
  have e_ := (sm_ rfl).symm
  subst e_
  obtain ⟨a_, x6, ea_, er_, hx6⟩ := pp6
  cases ea_; subst er_
  have hz_ : (F 70 14).toInt = 0 := by have a_ : 0 ≤ (F 70 14).toInt := (hp _ (List.mem_of_getElem? (i := 9) rfl)).1; have b_ : (F 70 14).toInt ≤ 0 := (hp _ (List.mem_of_getElem? (i := 9) rfl)).2.1; omega
  rw [hupd_id (F := F) (j := 70) (k := 14) (x := v1) (Int32.toInt_inj.mp (by omega))]
  have e1_ : x6.toInt = 1 := by rcases hx6 with h_ | h_; exact h_.1; exact absurd (hcb.mpr rfl) h_.2
  exact h_anc0 c hQ hvs (as := [.inl ((1,1,0),none)]) (P := q221_P) ⟨wflT h flokX11, wcsT h csokX11, wlcT h lcokX11, spokX11 h, List.forall_mem_cons.mpr ⟨q195_met h, List.forall_mem_cons.mpr ⟨q220_met h, fun _ h => absurd h List.not_mem_nil⟩⟩, List.forall_mem_cons.mpr ⟨fun M hM => Option.some.inj (show some q195_M = some M from hM) ▸ wlkS (lkX11_232 h) q195_M rfl rfl, fun _ h => absurd h List.not_mem_nil⟩, List.forall_mem_cons.mpr ⟨fun M hM => Option.some.inj (show some q220_M = some M from hM) ▸ wlkV (lkX11_238 h) q220_M rfl rfl, fun _ h => absurd h List.not_mem_nil⟩, fun _ h => absurd h List.not_mem_nil, fun _ h => absurd h List.not_mem_nil⟩ dkX11_near q221_ok (by decide +kernel) (by decide +kernel) (by rfl) (by decide +kernel) hF0 hp (fun _ => ⟨⟨_, rfl, hcon e1_, trivial⟩, trivial⟩)
/-- NearSpellModel.near -/
def q222_M : rfM := ((⟨"NearSpellModel", "near", "(II)I"⟩, prog_14_method_77_code, 5, (some .int)), (5,221), ([.inr (.inl [114]),.inl ((0,387420488,1),none),.inl ((0,6,1),none)],[((75,0),(4,4,0),none),((76,0),(2,2,0),none),((77,0),(13,13,0),none),((80,0),(0,0,0),none),((90,28),(0,0,0),none),((90,29),(0,0,0),none),((90,36),(0,0,0),none),((114,28),(0,0,0),none),((114,34),(0,0,0),none),((114,39),(0,0,0),none),((114,44),(0,0,0),none),((114,45),(0,0,0),none),((114,48),(0,0,0),none)]), [(91,0),(93,0),(98,0),(114,35),(114,40),(114,49)], [(some (.inl ((0,0,0),none)),[],[((114,48),(0,0,0),some ((114,48),0,0))])])
def q222_P : rfP := (flX12,csX12,lcX12,spX12,[q198_M,q180_M,q200_M,q201_M],[(334,0)],[(411,1,12),(414,2,12),(426,3,12)],([],[]))
def q222_U : rfU := []
set_option maxHeartbeats 8000000 in
def q222_N : List rfB := [(9,([(0,.inr (.inl [114])),(1,.inl ((0,387420488,1),none)),(2,.inl ((0,6,1),none))],[.inl ((1,1,0),none)],[((75,0),(4,4,0),some ((75,0),0,0)),((76,0),(2,2,0),some ((76,0),0,0)),((77,0),(13,13,0),some ((77,0),0,0)),((80,0),(0,0,0),some ((80,0),0,0)),((90,28),(0,0,0),some ((90,28),0,0)),((90,29),(0,0,0),some ((90,29),0,0)),((90,36),(0,0,0),some ((90,36),0,0)),((114,28),(0,0,0),some ((114,28),0,0)),((114,34),(0,0,0),some ((114,34),0,0)),((114,39),(0,0,0),some ((114,39),0,0)),((114,44),(0,0,0),some ((114,44),0,0)),((114,45),(0,0,0),some ((114,45),0,0)),((114,48),(0,0,0),some ((114,48),0,0))]),(23,[]),0)]
set_option maxRecDepth 100000 in
theorem q222_ok : (q222_N).all (rf_anc q222_P q222_U wLay q222_M ddX12_near [(16,[0]),(27,[1]),(33,[2]),(39,[3])] [] [9] 600 q222_N) = true := by decide +kernel
set_option maxHeartbeats 4000000 in
set_option maxRecDepth 100000 in
theorem q222_met {G : rfG} (h : okG G) : rf_metV G q222_M (cbV true) := by
  refine h_metVX h.1 (by decide +kernel) (by decide) h.2.2.1 (wflT h flokX12) (wcsT h csokX12) (by decide +kernel) ?_
  intro vs w0 X hv_ hr hp c
  match vs, hv_ with
  | [_, _, _], ⟨⟨_, hj0, rfl⟩, ⟨a, rfl, hi_a, _⟩, ⟨u, rfl, hi_u, _⟩, _⟩ =>
  cases List.mem_singleton.mp hj0
  have hd : ∀ n pc i len, ddX12_near[n]? = some (pc, i, len) → decode (mb q222_M) pc = .ok (i, len) := fun n pc i len h => hdk dkX12_near n pc i len h
  show hW G X q222_M w0 0 [(0, .ref (G.2.1.1 114)), (1, .int a), (2, .int u)] [] (hv w0)
  generalize hF0 : hv w0 = F at *
  obtain ⟨⟨a_, ea_, hcb⟩, hp, hvs, hQ⟩ := hp
  cases ea_
  refine h_aln c (hd 0 0 _ _ rfl) (by rfl) (hat 1 rfl ?_)
  refine h_ic c (hd 1 1 _ _ rfl) (by decide) (fun v1 e1 => hat 2 rfl ?_)
  refine h_putI c (hd 2 2 _ _ rfl) fgX12_347 gnX12_347_114 (by decide) (by decide) rfl (rf_in1 (by omega) (by omega)) (hat 5 rfl ?_)
  refine h_iln c (hd 3 5 _ _ rfl) (by rfl) (hat 6 rfl ?_)
  refine h_callSF c (M' := dM_mcan) ((dp_mcan h)) (by decide +kernel) (wlkS (lkX12_420 h) _ rfl rfl) (hd 4 6 _ _ rfl) [.int a] (rest := []) (by rfl) ⟨⟨_, rfl, rf_in_top _, trivial⟩, trivial⟩ (Nat.le_of_ble_eq_true rfl) trivial (fun rv6 F6 fr6 rr6 pp6 sm_ => hat 9 rfl ?_)
  have e_ := (sm_ rfl).symm
  subst e_
  obtain ⟨a_, x6, ea_, er_, hx6⟩ := pp6
  cases ea_; subst er_
  have hz_ : (F 114 48).toInt = 0 := by have a_ : 0 ≤ (F 114 48).toInt := (hp _ (List.mem_of_getElem? (i := 12) rfl)).1; have b_ : (F 114 48).toInt ≤ 0 := (hp _ (List.mem_of_getElem? (i := 12) rfl)).2.1; omega
  rw [hupd_id (F := F) (j := 114) (k := 48) (x := v1) (Int32.toInt_inj.mp (by omega))]
  have e1_ : x6.toInt = 1 := by rcases hx6 with h_ | h_; exact h_.1; exact absurd (hcb.mpr rfl) h_.2
  exact h_anc0 c hQ hvs (as := [.inl ((1,1,0),none)]) (P := q222_P) ⟨wflT h flokX12, wcsT h csokX12, wlcT h lcokX12, spokX12 h, List.forall_mem_cons.mpr ⟨q198_met h, List.forall_mem_cons.mpr ⟨q180_met h, List.forall_mem_cons.mpr ⟨q200_met h, List.forall_mem_cons.mpr ⟨q201_met h, fun _ h => absurd h List.not_mem_nil⟩⟩⟩⟩, List.forall_mem_cons.mpr ⟨fun M hM => Option.some.inj (show some q198_M = some M from hM) ▸ wlkS (lkX12_334 h) q198_M rfl rfl, fun _ h => absurd h List.not_mem_nil⟩, List.forall_mem_cons.mpr ⟨fun M hM => Option.some.inj (show some q180_M = some M from hM) ▸ wlkV (lkX12_411 h) q180_M rfl rfl, List.forall_mem_cons.mpr ⟨fun M hM => Option.some.inj (show some q200_M = some M from hM) ▸ wlkV (lkX12_414 h) q200_M rfl rfl, List.forall_mem_cons.mpr ⟨fun M hM => Option.some.inj (show some q201_M = some M from hM) ▸ wlkV (lkX12_426 h) q201_M rfl rfl, fun _ h => absurd h List.not_mem_nil⟩⟩⟩, fun _ h => absurd h List.not_mem_nil, fun _ h => absurd h List.not_mem_nil⟩ dkX12_near q222_ok (by decide +kernel) (by decide +kernel) (by rfl) (by decide +kernel) hF0 hp (fun _ => ⟨⟨_, rfl, hcon e1_, trivial⟩, trivial⟩)
