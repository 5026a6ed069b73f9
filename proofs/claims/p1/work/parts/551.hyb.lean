/-- NearSpell.met -/
def q179_M : rfM := ((⟨"NearSpell", "met", "(II)I"⟩, prog_1_method_18_code, 3, (some .int)), (5,122), ([.inr (.inl [70]),.inl ((0,387420488,1),none),.inl ((1,1,0),none)],[((5,5),(4,4,0),none),((5,6),(2,2,0),none),((5,7),(13,13,0),none),((5,11),(0,0,0),none),((5,12),(0,0,0),none),((10,5),(4,4,0),none),((10,6),(2,2,0),none),((10,7),(13,13,0),none),((10,11),(0,0,0),none),((10,12),(0,0,0),none),((12,34),(0,0,0),none),((12,35),(0,0,0),none),((12,36),(0,0,0),none),((22,1),(0,0,0),none),((22,2),((-1),(-1),0),none),((22,3),(0,0,0),none),((22,4),(0,0,0),none),((24,1),(0,0,0),none),((24,2),((-1),(-1),0),none),((24,3),(0,0,0),none),((24,4),(0,0,0),none),((26,1),(0,0,0),none),((26,2),((-1),(-1),0),none),((26,3),(0,0,0),none),((26,4),(0,0,0),none),((28,1),(0,0,0),none),((28,2),((-1),(-1),0),none),((28,3),(0,0,0),none),((28,4),(0,0,0),none),((30,1),(0,0,0),none),((30,2),((-1),(-1),0),none),((30,3),(0,0,0),none),((30,4),(0,0,0),none),((32,1),(0,0,0),none),((32,2),((-1),(-1),0),none),((32,3),(0,0,0),none),((32,4),(0,0,0),none),((34,1),(0,0,0),none),((34,2),((-1),(-1),0),none),((34,3),(0,0,0),none),((34,4),(0,0,0),none),((36,1),(0,0,0),none),((36,2),((-1),(-1),0),none),((36,3),(0,0,0),none),((36,4),(0,0,0),none),((38,1),(0,0,0),none),((38,2),((-1),(-1),0),none),((38,3),(0,0,0),none),((38,4),(0,0,0),none),((40,1),(0,0,0),none),((40,2),((-1),(-1),0),none),((40,3),(0,0,0),none),((40,4),(0,0,0),none),((42,1),(0,0,0),none),((42,2),((-1),(-1),0),none),((42,3),(0,0,0),none),((42,4),(0,0,0),none),((44,1),(0,0,0),none),((44,2),((-1),(-1),0),none),((44,3),(0,0,0),none),((44,4),(0,0,0),none),((46,1),(0,0,0),none),((46,2),((-1),(-1),0),none),((46,3),(0,0,0),none),((46,4),(0,0,0),none),((48,1),(0,0,0),none),((48,2),((-1),(-1),0),none),((48,3),(0,0,0),none),((48,4),(0,0,0),none),((50,1),(0,0,0),none),((50,2),((-1),(-1),0),none),((50,3),(0,0,0),none),((50,4),(0,0,0),none)]), [(49,0),(50,2),(50,3),(50,4),(50,5)], [(some (.inl ((0,0,0),none)),[],[((50,2),(0,387420488,1),none),((50,3),(4,4,0),none),((50,4),(2,2,0),none)])])
def q179_P : rfP := (flX11,csX11,lcX11,spX11,[q178_M],[],[(229,0,2)],([],[]))
def q179_U : rfU := []
set_option maxHeartbeats 8000000 in
def q179_N : List rfB := [(4,([(0,.inr (.inl [70])),(1,.inl ((0,387420488,1),none)),(2,.inl ((1,1,0),none))],[.inl ((1,1,0),none)],[((5,5),(4,4,0),some ((5,5),0,0)),((5,6),(2,2,0),some ((5,6),0,0)),((5,7),(13,13,0),some ((5,7),0,0)),((5,11),(0,0,0),some ((5,11),0,0)),((5,12),(0,0,0),some ((5,12),0,0)),((10,5),(4,4,0),some ((10,5),0,0)),((10,6),(2,2,0),some ((10,6),0,0)),((10,7),(13,13,0),some ((10,7),0,0)),((10,11),(0,0,0),some ((10,11),0,0)),((10,12),(0,0,0),some ((10,12),0,0)),((12,34),(0,0,0),some ((12,34),0,0)),((12,35),(0,0,0),some ((12,35),0,0)),((12,36),(0,0,0),some ((12,36),0,0)),((22,1),(0,0,0),some ((22,1),0,0)),((22,2),((-1),(-1),0),some ((22,2),0,0)),((22,3),(0,0,0),some ((22,3),0,0)),((22,4),(0,0,0),some ((22,4),0,0)),((24,1),(0,0,0),some ((24,1),0,0)),((24,2),((-1),(-1),0),some ((24,2),0,0)),((24,3),(0,0,0),some ((24,3),0,0)),((24,4),(0,0,0),some ((24,4),0,0)),((26,1),(0,0,0),some ((26,1),0,0)),((26,2),((-1),(-1),0),some ((26,2),0,0)),((26,3),(0,0,0),some ((26,3),0,0)),((26,4),(0,0,0),some ((26,4),0,0)),((28,1),(0,0,0),some ((28,1),0,0)),((28,2),((-1),(-1),0),some ((28,2),0,0)),((28,3),(0,0,0),some ((28,3),0,0)),((28,4),(0,0,0),some ((28,4),0,0)),((30,1),(0,0,0),some ((30,1),0,0)),((30,2),((-1),(-1),0),some ((30,2),0,0)),((30,3),(0,0,0),some ((30,3),0,0)),((30,4),(0,0,0),some ((30,4),0,0)),((32,1),(0,0,0),some ((32,1),0,0)),((32,2),((-1),(-1),0),some ((32,2),0,0)),((32,3),(0,0,0),some ((32,3),0,0)),((32,4),(0,0,0),some ((32,4),0,0)),((34,1),(0,0,0),some ((34,1),0,0)),((34,2),((-1),(-1),0),some ((34,2),0,0)),((34,3),(0,0,0),some ((34,3),0,0)),((34,4),(0,0,0),some ((34,4),0,0)),((36,1),(0,0,0),some ((36,1),0,0)),((36,2),((-1),(-1),0),some ((36,2),0,0)),((36,3),(0,0,0),some ((36,3),0,0)),((36,4),(0,0,0),some ((36,4),0,0)),((38,1),(0,0,0),some ((38,1),0,0)),((38,2),((-1),(-1),0),some ((38,2),0,0)),((38,3),(0,0,0),some ((38,3),0,0)),((38,4),(0,0,0),some ((38,4),0,0)),((40,1),(0,0,0),some ((40,1),0,0)),((40,2),((-1),(-1),0),some ((40,2),0,0)),((40,3),(0,0,0),some ((40,3),0,0)),((40,4),(0,0,0),some ((40,4),0,0)),((42,1),(0,0,0),some ((42,1),0,0)),((42,2),((-1),(-1),0),some ((42,2),0,0)),((42,3),(0,0,0),some ((42,3),0,0)),((42,4),(0,0,0),some ((42,4),0,0)),((44,1),(0,0,0),some ((44,1),0,0)),((44,2),((-1),(-1),0),some ((44,2),0,0)),((44,3),(0,0,0),some ((44,3),0,0)),((44,4),(0,0,0),some ((44,4),0,0)),((46,1),(0,0,0),some ((46,1),0,0)),((46,2),((-1),(-1),0),some ((46,2),0,0)),((46,3),(0,0,0),some ((46,3),0,0)),((46,4),(0,0,0),some ((46,4),0,0)),((48,1),(0,0,0),some ((48,1),0,0)),((48,2),((-1),(-1),0),some ((48,2),0,0)),((48,3),(0,0,0),some ((48,3),0,0)),((48,4),(0,0,0),some ((48,4),0,0)),((50,1),(0,0,0),some ((50,1),0,0)),((50,2),((-1),(-1),0),some ((50,2),0,0)),((50,3),(0,0,0),some ((50,3),0,0)),((50,4),(0,0,0),some ((50,4),0,0))]),(7,[]),0)]
set_option maxRecDepth 100000 in
theorem q179_ok : (q179_N).all (rf_anc q179_P q179_U wLay q179_M ddX11_met [(50,[0])] [] [4] 600 q179_N) = true := by decide +kernel
set_option maxHeartbeats 4000000 in
set_option maxRecDepth 100000 in
theorem q179_met {G : rfG} (h : okG G) : rf_metV G q179_M (cbV true) := by
  refine h_metVX h.1 (by decide +kernel) (by decide) h.2.2.1 (wflT h flokX11) (wcsT h csokX11) (by decide +kernel) ?_
  intro vs w0 X hv_ hr hp c
  match vs, hv_ with
  | [_, _, _], ⟨⟨_, hj0, rfl⟩, ⟨a, rfl, hi_a, _⟩, ⟨u, rfl, hi_u, _⟩, _⟩ =>
  cases List.mem_singleton.mp hj0
  have hd : ∀ n pc i len, ddX11_met[n]? = some (pc, i, len) → decode (mb q179_M) pc = .ok (i, len) := fun n pc i len h => hdk dkX11_met n pc i len h
  show hW G X q179_M w0 0 [(0, .ref (G.2.1.1 70)), (1, .int a), (2, .int u)] [] (hv w0)
  generalize hF0 : hv w0 = F at *
  obtain ⟨⟨a_, ea_, hcb⟩, hp, hvs, hQ⟩ := hp
  cases ea_
  refine h_iln c (hd 0 0 _ _ rfl) (by rfl) (hat 1 rfl ?_)
  refine h_callSF c (M' := dM_can) ((dp_can h)) (by decide +kernel) (wlkS (lkX11_163 h) _ rfl rfl) (hd 1 1 _ _ rfl) [.int a] (rest := []) (by rfl) ⟨⟨_, rfl, rf_in_top _, trivial⟩, trivial⟩ (Nat.le_of_ble_eq_true rfl) trivial (fun rv1 F1 fr1 rr1 pp1 sm_ => hat 4 rfl ?_)
  have e_ := (sm_ rfl).symm
  subst e_
  obtain ⟨a_, x1, ea_, er_, hx1⟩ := pp1
  cases ea_; subst er_
  have e1_ : x1.toInt = 1 := by rcases hx1 with h_ | h_; exact h_.1; exact absurd (hcb.mpr rfl) h_.2
  exact h_anc0 c hQ hvs (P := q179_P) ⟨wflT h flokX11, wcsT h csokX11, wlcT h lcokX11, spokX11 h, List.forall_mem_cons.mpr ⟨q178_met h, fun _ h => absurd h List.not_mem_nil⟩, fun _ h => absurd h List.not_mem_nil, List.forall_mem_cons.mpr ⟨fun M hM => Option.some.inj (show some q178_M = some M from hM) ▸ wlkV (lkX11_229 h) q178_M rfl rfl, fun _ h => absurd h List.not_mem_nil⟩, fun _ h => absurd h List.not_mem_nil, fun _ h => absurd h List.not_mem_nil⟩ dkX11_met q179_ok (by decide +kernel) (by decide +kernel) (by rfl) (by decide +kernel) hF0 hp (fun _ => ⟨⟨_, rfl, hcon e1_, trivial⟩, trivial⟩)
/-- NearSpellModel.met -/
def q182_M : rfM := ((⟨"NearSpellModel", "met", "(II)I"⟩, prog_14_method_74_code, 3, (some .int)), (5,221), ([.inr (.inl [114]),.inl ((0,387420488,1),none),.inl ((1,1,0),none)],[((75,0),(4,4,0),none),((76,0),(2,2,0),none),((77,0),(13,13,0),none),((80,0),(0,0,0),none),((90,28),(0,0,0),none),((90,29),(0,0,0),none),((90,36),(0,0,0),none),((114,28),(0,0,0),none),((114,34),(0,0,0),none),((114,39),(0,0,0),none)]), [(91,0),(93,0),(114,35),(114,40)], [(some (.inl ((0,0,0),none)),[],[])])
def q182_P : rfP := (flX12,csX12,lcX12,spX12,[q180_M,q181_M],[(334,0)],[(411,1,12)],([],[]))
def q182_U : rfU := []
set_option maxHeartbeats 8000000 in
def q182_N : List rfB := [(4,([(0,.inr (.inl [114])),(1,.inl ((0,387420488,1),none)),(2,.inl ((1,1,0),none))],[.inl ((1,1,0),none)],[((75,0),(4,4,0),some ((75,0),0,0)),((76,0),(2,2,0),some ((76,0),0,0)),((77,0),(13,13,0),some ((77,0),0,0)),((80,0),(0,0,0),some ((80,0),0,0)),((90,28),(0,0,0),some ((90,28),0,0)),((90,29),(0,0,0),some ((90,29),0,0)),((90,36),(0,0,0),some ((90,36),0,0)),((114,28),(0,0,0),some ((114,28),0,0)),((114,34),(0,0,0),some ((114,34),0,0)),((114,39),(0,0,0),some ((114,39),0,0))]),(14,[]),0)]
set_option maxRecDepth 100000 in
theorem q182_ok : (q182_N).all (rf_anc q182_P q182_U wLay q182_M ddX12_met [(10,[0]),(26,[1])] [] [4] 600 q182_N) = true := by decide +kernel
set_option maxHeartbeats 4000000 in
set_option maxRecDepth 100000 in
theorem q182_met {G : rfG} (h : okG G) : rf_metV G q182_M (cbV true) := by
  refine h_metVX h.1 (by decide +kernel) (by decide) h.2.2.1 (wflT h flokX12) (wcsT h csokX12) (by decide +kernel) ?_
  intro vs w0 X hv_ hr hp c
  match vs, hv_ with
  | [_, _, _], ⟨⟨_, hj0, rfl⟩, ⟨a, rfl, hi_a, _⟩, ⟨u, rfl, hi_u, _⟩, _⟩ =>
  cases List.mem_singleton.mp hj0
  have hd : ∀ n pc i len, ddX12_met[n]? = some (pc, i, len) → decode (mb q182_M) pc = .ok (i, len) := fun n pc i len h => hdk dkX12_met n pc i len h
  show hW G X q182_M w0 0 [(0, .ref (G.2.1.1 114)), (1, .int a), (2, .int u)] [] (hv w0)
  generalize hF0 : hv w0 = F at *
  obtain ⟨⟨a_, ea_, hcb⟩, hp, hvs, hQ⟩ := hp
  cases ea_
  refine h_iln c (hd 0 0 _ _ rfl) (by rfl) (hat 1 rfl ?_)
  refine h_callSF c (M' := dM_mcan) ((dp_mcan h)) (by decide +kernel) (wlkS (lkX12_420 h) _ rfl rfl) (hd 1 1 _ _ rfl) [.int a] (rest := []) (by rfl) ⟨⟨_, rfl, rf_in_top _, trivial⟩, trivial⟩ (Nat.le_of_ble_eq_true rfl) trivial (fun rv1 F1 fr1 rr1 pp1 sm_ => hat 4 rfl ?_)
  have e_ := (sm_ rfl).symm
  subst e_
  obtain ⟨a_, x1, ea_, er_, hx1⟩ := pp1
  cases ea_; subst er_
  have e1_ : x1.toInt = 1 := by rcases hx1 with h_ | h_; exact h_.1; exact absurd (hcb.mpr rfl) h_.2
  exact h_anc0 c hQ hvs (P := q182_P) ⟨wflT h flokX12, wcsT h csokX12, wlcT h lcokX12, spokX12 h, List.forall_mem_cons.mpr ⟨q180_met h, List.forall_mem_cons.mpr ⟨q181_met h, fun _ h => absurd h List.not_mem_nil⟩⟩, List.forall_mem_cons.mpr ⟨fun M hM => Option.some.inj (show some q180_M = some M from hM) ▸ wlkS (lkX12_334 h) q180_M rfl rfl, fun _ h => absurd h List.not_mem_nil⟩, List.forall_mem_cons.mpr ⟨fun M hM => Option.some.inj (show some q181_M = some M from hM) ▸ wlkV (lkX12_411 h) q181_M rfl rfl, fun _ h => absurd h List.not_mem_nil⟩, fun _ h => absurd h List.not_mem_nil, fun _ h => absurd h List.not_mem_nil⟩ dkX12_met q182_ok (by decide +kernel) (by decide +kernel) (by rfl) (by decide +kernel) hF0 hp (fun _ => ⟨⟨_, rfl, hcon e1_, trivial⟩, trivial⟩)
/-- NearSpell.met -/
def q186_M : rfM := ((⟨"NearSpell", "met", "(II)I"⟩, prog_1_method_18_code, 3, (some .int)), (5,122), ([.inr (.inl [70]),.inl ((0,387420488,1),none),.inl ((2,2,0),none)],[((5,5),(4,4,0),none),((5,6),(2,2,0),none),((5,7),(13,13,0),none),((5,11),(0,0,0),none),((5,12),(0,0,0),none),((10,5),(4,4,0),none),((10,6),(2,2,0),none),((10,7),(13,13,0),none),((10,11),(0,0,0),none),((10,12),(0,0,0),none),((12,34),(0,0,0),none),((12,35),(0,0,0),none),((12,36),(0,0,0),none),((22,1),(0,0,0),none),((22,2),((-1),(-1),0),none),((22,3),(0,0,0),none),((22,4),(0,0,0),none),((24,1),(0,0,0),none),((24,2),((-1),(-1),0),none),((24,3),(0,0,0),none),((24,4),(0,0,0),none),((26,1),(0,0,0),none),((26,2),((-1),(-1),0),none),((26,3),(0,0,0),none),((26,4),(0,0,0),none),((28,1),(0,0,0),none),((28,2),((-1),(-1),0),none),((28,3),(0,0,0),none),((28,4),(0,0,0),none),((30,1),(0,0,0),none),((30,2),((-1),(-1),0),none),((30,3),(0,0,0),none),((30,4),(0,0,0),none),((32,1),(0,0,0),none),((32,2),((-1),(-1),0),none),((32,3),(0,0,0),none),((32,4),(0,0,0),none),((34,1),(0,0,0),none),((34,2),((-1),(-1),0),none),((34,3),(0,0,0),none),((34,4),(0,0,0),none),((36,1),(0,0,0),none),((36,2),((-1),(-1),0),none),((36,3),(0,0,0),none),((36,4),(0,0,0),none),((38,1),(0,0,0),none),((38,2),((-1),(-1),0),none),((38,3),(0,0,0),none),((38,4),(0,0,0),none),((40,1),(0,0,0),none),((40,2),((-1),(-1),0),none),((40,3),(0,0,0),none),((40,4),(0,0,0),none),((42,1),(0,0,0),none),((42,2),((-1),(-1),0),none),((42,3),(0,0,0),none),((42,4),(0,0,0),none),((44,1),(0,0,0),none),((44,2),((-1),(-1),0),none),((44,3),(0,0,0),none),((44,4),(0,0,0),none),((46,1),(0,0,0),none),((46,2),((-1),(-1),0),none),((46,3),(0,0,0),none),((46,4),(0,0,0),none),((48,1),(0,0,0),none),((48,2),((-1),(-1),0),none),((48,3),(0,0,0),none),((48,4),(0,0,0),none),((50,1),(0,0,0),none),((50,2),((-1),(-1),0),none),((50,3),(0,0,0),none),((50,4),(0,0,0),none)]), [(49,0),(50,2),(50,3),(50,4),(50,5)], [(some (.inl ((0,0,1),none)),[],[((50,2),(0,387420488,1),none),((50,3),(4,4,1),none),((50,4),(2,2,1),none)])])
def q186_P : rfP := (flX11,csX11,lcX11,spX11,[q172_M,q185_M],[],[(226,0,2),(229,1,2)],([],[]))
def q186_U : rfU := []
set_option maxHeartbeats 8000000 in
def q186_N : List rfB := [(4,([(0,.inr (.inl [70])),(1,.inl ((0,387420488,1),none)),(2,.inl ((2,2,0),none))],[.inl ((1,1,0),none)],[((5,5),(4,4,0),some ((5,5),0,0)),((5,6),(2,2,0),some ((5,6),0,0)),((5,7),(13,13,0),some ((5,7),0,0)),((5,11),(0,0,0),some ((5,11),0,0)),((5,12),(0,0,0),some ((5,12),0,0)),((10,5),(4,4,0),some ((10,5),0,0)),((10,6),(2,2,0),some ((10,6),0,0)),((10,7),(13,13,0),some ((10,7),0,0)),((10,11),(0,0,0),some ((10,11),0,0)),((10,12),(0,0,0),some ((10,12),0,0)),((12,34),(0,0,0),some ((12,34),0,0)),((12,35),(0,0,0),some ((12,35),0,0)),((12,36),(0,0,0),some ((12,36),0,0)),((22,1),(0,0,0),some ((22,1),0,0)),((22,2),((-1),(-1),0),some ((22,2),0,0)),((22,3),(0,0,0),some ((22,3),0,0)),((22,4),(0,0,0),some ((22,4),0,0)),((24,1),(0,0,0),some ((24,1),0,0)),((24,2),((-1),(-1),0),some ((24,2),0,0)),((24,3),(0,0,0),some ((24,3),0,0)),((24,4),(0,0,0),some ((24,4),0,0)),((26,1),(0,0,0),some ((26,1),0,0)),((26,2),((-1),(-1),0),some ((26,2),0,0)),((26,3),(0,0,0),some ((26,3),0,0)),((26,4),(0,0,0),some ((26,4),0,0)),((28,1),(0,0,0),some ((28,1),0,0)),((28,2),((-1),(-1),0),some ((28,2),0,0)),((28,3),(0,0,0),some ((28,3),0,0)),((28,4),(0,0,0),some ((28,4),0,0)),((30,1),(0,0,0),some ((30,1),0,0)),((30,2),((-1),(-1),0),some ((30,2),0,0)),((30,3),(0,0,0),some ((30,3),0,0)),((30,4),(0,0,0),some ((30,4),0,0)),((32,1),(0,0,0),some ((32,1),0,0)),((32,2),((-1),(-1),0),some ((32,2),0,0)),((32,3),(0,0,0),some ((32,3),0,0)),((32,4),(0,0,0),some ((32,4),0,0)),((34,1),(0,0,0),some ((34,1),0,0)),((34,2),((-1),(-1),0),some ((34,2),0,0)),((34,3),(0,0,0),some ((34,3),0,0)),((34,4),(0,0,0),some ((34,4),0,0)),((36,1),(0,0,0),some ((36,1),0,0)),((36,2),((-1),(-1),0),some ((36,2),0,0)),((36,3),(0,0,0),some ((36,3),0,0)),((36,4),(0,0,0),some ((36,4),0,0)),((38,1),(0,0,0),some ((38,1),0,0)),((38,2),((-1),(-1),0),some ((38,2),0,0)),((38,3),(0,0,0),some ((38,3),0,0)),((38,4),(0,0,0),some ((38,4),0,0)),((40,1),(0,0,0),some ((40,1),0,0)),((40,2),((-1),(-1),0),some ((40,2),0,0)),((40,3),(0,0,0),some ((40,3),0,0)),((40,4),(0,0,0),some ((40,4),0,0)),((42,1),(0,0,0),some ((42,1),0,0)),((42,2),((-1),(-1),0),some ((42,2),0,0)),((42,3),(0,0,0),some ((42,3),0,0)),((42,4),(0,0,0),some ((42,4),0,0)),((44,1),(0,0,0),some ((44,1),0,0)),((44,2),((-1),(-1),0),some ((44,2),0,0)),((44,3),(0,0,0),some ((44,3),0,0)),((44,4),(0,0,0),some ((44,4),0,0)),((46,1),(0,0,0),some ((46,1),0,0)),((46,2),((-1),(-1),0),some ((46,2),0,0)),((46,3),(0,0,0),some ((46,3),0,0)),((46,4),(0,0,0),some ((46,4),0,0)),((48,1),(0,0,0),some ((48,1),0,0)),((48,2),((-1),(-1),0),some ((48,2),0,0)),((48,3),(0,0,0),some ((48,3),0,0)),((48,4),(0,0,0),some ((48,4),0,0)),((50,1),(0,0,0),some ((50,1),0,0)),((50,2),((-1),(-1),0),some ((50,2),0,0)),((50,3),(0,0,0),some ((50,3),0,0)),((50,4),(0,0,0),some ((50,4),0,0))]),(14,[]),0)]
set_option maxRecDepth 100000 in
theorem q186_ok : (q186_N).all (rf_anc q186_P q186_U wLay q186_M ddX11_met [(59,[0]),(67,[1])] [] [4] 600 q186_N) = true := by decide +kernel
set_option maxHeartbeats 4000000 in
set_option maxRecDepth 100000 in
theorem q186_met {G : rfG} (h : okG G) : rf_metV G q186_M (cbV true) := by
  refine h_metVX h.1 (by decide +kernel) (by decide) h.2.2.1 (wflT h flokX11) (wcsT h csokX11) (by decide +kernel) ?_
  intro vs w0 X hv_ hr hp c
  match vs, hv_ with
  | [_, _, _], ⟨⟨_, hj0, rfl⟩, ⟨a, rfl, hi_a, _⟩, ⟨u, rfl, hi_u, _⟩, _⟩ =>
  cases List.mem_singleton.mp hj0
  have hd : ∀ n pc i len, ddX11_met[n]? = some (pc, i, len) → decode (mb q186_M) pc = .ok (i, len) := fun n pc i len h => hdk dkX11_met n pc i len h
  show hW G X q186_M w0 0 [(0, .ref (G.2.1.1 70)), (1, .int a), (2, .int u)] [] (hv w0)
  generalize hF0 : hv w0 = F at *
  obtain ⟨⟨a_, ea_, hcb⟩, hp, hvs, hQ⟩ := hp
  cases ea_
  refine h_iln c (hd 0 0 _ _ rfl) (by rfl) (hat 1 rfl ?_)
  refine h_callSF c (M' := dM_can) ((dp_can h)) (by decide +kernel) (wlkS (lkX11_163 h) _ rfl rfl) (hd 1 1 _ _ rfl) [.int a] (rest := []) (by rfl) ⟨⟨_, rfl, rf_in_top _, trivial⟩, trivial⟩ (Nat.le_of_ble_eq_true rfl) trivial (fun rv1 F1 fr1 rr1 pp1 sm_ => hat 4 rfl ?_)
  have e_ := (sm_ rfl).symm
  subst e_
  obtain ⟨a_, x1, ea_, er_, hx1⟩ := pp1
  cases ea_; subst er_
  have e1_ : x1.toInt = 1 := by rcases hx1 with h_ | h_; exact h_.1; exact absurd (hcb.mpr rfl) h_.2
  exact h_anc0 c hQ hvs (P := q186_P) ⟨wflT h flokX11, wcsT h csokX11, wlcT h lcokX11, spokX11 h, List.forall_mem_cons.mpr ⟨q172_met h, List.forall_mem_cons.mpr ⟨q185_met h, fun _ h => absurd h List.not_mem_nil⟩⟩, fun _ h => absurd h List.not_mem_nil, List.forall_mem_cons.mpr ⟨fun M hM => Option.some.inj (show some q172_M = some M from hM) ▸ wlkV (lkX11_226 h) q172_M rfl rfl, List.forall_mem_cons.mpr ⟨fun M hM => Option.some.inj (show some q185_M = some M from hM) ▸ wlkV (lkX11_229 h) q185_M rfl rfl, fun _ h => absurd h List.not_mem_nil⟩⟩, fun _ h => absurd h List.not_mem_nil, fun _ h => absurd h List.not_mem_nil⟩ dkX11_met q186_ok (by decide +kernel) (by decide +kernel) (by rfl) (by decide +kernel) hF0 hp (fun _ => ⟨⟨_, rfl, hcon e1_, trivial⟩, trivial⟩)
/-- NearSpellModel.met -/
def q191_M : rfM := ((⟨"NearSpellModel", "met", "(II)I"⟩, prog_14_method_74_code, 3, (some .int)), (5,221), ([.inr (.inl [114]),.inl ((0,387420488,1),none),.inl ((2,2,0),none)],[((75,0),(4,4,0),none),((76,0),(2,2,0),none),((77,0),(13,13,0),none),((80,0),(0,0,0),none),((90,28),(0,0,0),none),((90,29),(0,0,0),none),((90,36),(0,0,0),none),((114,28),(0,0,0),none),((114,34),(0,0,0),none),((114,39),(0,0,0),none)]), [(91,0),(93,0),(114,35),(114,40)], [(some (.inl ((0,0,1),none)),[],[])])
def q191_P : rfP := (flX12,csX12,lcX12,spX12,[q187_M,q176_M,q190_M],[(334,0)],[(411,1,12),(411,2,12)],([],[]))
def q191_U : rfU := []
set_option maxHeartbeats 8000000 in
def q191_N : List rfB := [(4,([(0,.inr (.inl [114])),(1,.inl ((0,387420488,1),none)),(2,.inl ((2,2,0),none))],[.inl ((1,1,0),none)],[((75,0),(4,4,0),some ((75,0),0,0)),((76,0),(2,2,0),some ((76,0),0,0)),((77,0),(13,13,0),some ((77,0),0,0)),((80,0),(0,0,0),some ((80,0),0,0)),((90,28),(0,0,0),some ((90,28),0,0)),((90,29),(0,0,0),some ((90,29),0,0)),((90,36),(0,0,0),some ((90,36),0,0)),((114,28),(0,0,0),some ((114,28),0,0)),((114,34),(0,0,0),some ((114,34),0,0)),((114,39),(0,0,0),some ((114,39),0,0))]),(20,[]),0)]
set_option maxRecDepth 100000 in
theorem q191_ok : (q191_N).all (rf_anc q191_P q191_U wLay q191_M ddX12_met [(10,[0]),(35,[1]),(41,[2])] [] [4] 600 q191_N) = true := by decide +kernel
set_option maxHeartbeats 4000000 in
set_option maxRecDepth 100000 in
theorem q191_met {G : rfG} (h : okG G) : rf_metV G q191_M (cbV true) := by
  refine h_metVX h.1 (by decide +kernel) (by decide) h.2.2.1 (wflT h flokX12) (wcsT h csokX12) (by decide +kernel) ?_
  intro vs w0 X hv_ hr hp c
  match vs, hv_ with
  | [_, _, _], ⟨⟨_, hj0, rfl⟩, ⟨a, rfl, hi_a, _⟩, ⟨u, rfl, hi_u, _⟩, _⟩ =>
  cases List.mem_singleton.mp hj0
  have hd : ∀ n pc i len, ddX12_met[n]? = some (pc, i, len) → decode (mb q191_M) pc = .ok (i, len) := fun n pc i len h => hdk dkX12_met n pc i len h
  show hW G X q191_M w0 0 [(0, .ref (G.2.1.1 114)), (1, .int a), (2, .int u)] [] (hv w0)
  generalize hF0 : hv w0 = F at *
  obtain ⟨⟨a_, ea_, hcb⟩, hp, hvs, hQ⟩ := hp
  cases ea_
  refine h_iln c (hd 0 0 _ _ rfl) (by rfl) (hat 1 rfl ?_)
  refine h_callSF c (M' := dM_mcan) ((dp_mcan h)) (by decide +kernel) (wlkS (lkX12_420 h) _ rfl rfl) (hd 1 1 _ _ rfl) [.int a] (rest := []) (by rfl) ⟨⟨_, rfl, rf_in_top _, trivial⟩, trivial⟩ (Nat.le_of_ble_eq_true rfl) trivial (fun rv1 F1 fr1 rr1 pp1 sm_ => hat 4 rfl ?_)
  have e_ := (sm_ rfl).symm
  subst e_
  obtain ⟨a_, x1, ea_, er_, hx1⟩ := pp1
  cases ea_; subst er_
  have e1_ : x1.toInt = 1 := by rcases hx1 with h_ | h_; exact h_.1; exact absurd (hcb.mpr rfl) h_.2
  exact h_anc0 c hQ hvs (P := q191_P) ⟨wflT h flokX12, wcsT h csokX12, wlcT h lcokX12, spokX12 h, List.forall_mem_cons.mpr ⟨q187_met h, List.forall_mem_cons.mpr ⟨q176_met h, List.forall_mem_cons.mpr ⟨q190_met h, fun _ h => absurd h List.not_mem_nil⟩⟩⟩, List.forall_mem_cons.mpr ⟨fun M hM => Option.some.inj (show some q187_M = some M from hM) ▸ wlkS (lkX12_334 h) q187_M rfl rfl, fun _ h => absurd h List.not_mem_nil⟩, List.forall_mem_cons.mpr ⟨fun M hM => Option.some.inj (show some q176_M = some M from hM) ▸ wlkV (lkX12_411 h) q176_M rfl rfl, List.forall_mem_cons.mpr ⟨fun M hM => Option.some.inj (show some q190_M = some M from hM) ▸ wlkV (lkX12_411 h) q190_M rfl rfl, fun _ h => absurd h List.not_mem_nil⟩⟩, fun _ h => absurd h List.not_mem_nil, fun _ h => absurd h List.not_mem_nil⟩ dkX12_met q191_ok (by decide +kernel) (by decide +kernel) (by rfl) (by decide +kernel) hF0 hp (fun _ => ⟨⟨_, rfl, hcon e1_, trivial⟩, trivial⟩)
/-- NearSpell.missed -/
def q198_M : rfM := ((⟨"NearSpell", "missed", "(II)I"⟩, prog_1_method_19_code, 3, (some .int)), (3,122), ([.inr (.inl [70]),.inl (((-2147483648),2147483647,1),none),.inl (((-2147483648),2147483647,1),none)],[((5,5),(4,4,0),none),((5,6),(2,2,0),none),((10,5),(4,4,0),none),((10,6),(2,2,0),none),((12,34),(0,0,0),none),((12,35),(0,0,0),none),((12,36),(0,0,0),none),((20,3),(0,0,0),none),((20,4),(0,0,0),none),((22,1),(0,0,0),none),((22,2),((-1),(-1),0),none),((22,3),(0,0,0),none),((22,4),(0,0,0),none),((24,1),(0,0,0),none),((24,2),((-1),(-1),0),none),((24,3),(0,0,0),none),((24,4),(0,0,0),none),((26,1),(0,0,0),none),((26,2),((-1),(-1),0),none),((26,3),(0,0,0),none),((26,4),(0,0,0),none),((28,1),(0,0,0),none),((28,2),((-1),(-1),0),none),((28,3),(0,0,0),none),((28,4),(0,0,0),none),((30,1),(0,0,0),none),((30,2),((-1),(-1),0),none),((30,3),(0,0,0),none),((30,4),(0,0,0),none),((32,1),(0,0,0),none),((32,2),((-1),(-1),0),none),((32,3),(0,0,0),none),((32,4),(0,0,0),none),((34,1),(0,0,0),none),((34,2),((-1),(-1),0),none),((34,3),(0,0,0),none),((34,4),(0,0,0),none),((36,1),(0,0,0),none),((36,2),((-1),(-1),0),none),((36,3),(0,0,0),none),((36,4),(0,0,0),none),((38,1),(0,0,0),none),((38,2),((-1),(-1),0),none),((38,3),(0,0,0),none),((38,4),(0,0,0),none),((40,1),(0,0,0),none),((40,2),((-1),(-1),0),none),((40,3),(0,0,0),none),((40,4),(0,0,0),none),((42,1),(0,0,0),none),((42,2),((-1),(-1),0),none),((42,3),(0,0,0),none),((42,4),(0,0,0),none),((44,1),(0,0,0),none),((44,2),((-1),(-1),0),none),((44,3),(0,0,0),none),((44,4),(0,0,0),none),((46,1),(0,0,0),none),((46,2),((-1),(-1),0),none),((46,3),(0,0,0),none),((46,4),(0,0,0),none),((48,1),(0,0,0),none),((48,2),((-1),(-1),0),none),((48,3),(0,0,0),none),((48,4),(0,0,0),none),((50,1),(0,0,0),none),((50,2),((-1),(-1),0),none),((50,3),(0,0,0),none),((50,4),(0,0,0),none)]), [], [(some (.inl (((-1),(-1),0),none)),[],[])])
def q198_P : rfP := (flX11,csX11,lcX11,spX11,[],[],[],([],[]))
def q198_U : rfU := []
set_option maxHeartbeats 8000000 in
def q198_N : List rfB := [(4,([(0,.inr (.inl [70])),(1,.inl (((-2147483648),2147483647,1),none)),(2,.inl (((-2147483648),2147483647,1),none))],[.inl ((0,0,0),none)],[((5,5),(4,4,0),some ((5,5),0,0)),((5,6),(2,2,0),some ((5,6),0,0)),((10,5),(4,4,0),some ((10,5),0,0)),((10,6),(2,2,0),some ((10,6),0,0)),((12,34),(0,0,0),some ((12,34),0,0)),((12,35),(0,0,0),some ((12,35),0,0)),((12,36),(0,0,0),some ((12,36),0,0)),((20,3),(0,0,0),some ((20,3),0,0)),((20,4),(0,0,0),some ((20,4),0,0)),((22,1),(0,0,0),some ((22,1),0,0)),((22,2),((-1),(-1),0),some ((22,2),0,0)),((22,3),(0,0,0),some ((22,3),0,0)),((22,4),(0,0,0),some ((22,4),0,0)),((24,1),(0,0,0),some ((24,1),0,0)),((24,2),((-1),(-1),0),some ((24,2),0,0)),((24,3),(0,0,0),some ((24,3),0,0)),((24,4),(0,0,0),some ((24,4),0,0)),((26,1),(0,0,0),some ((26,1),0,0)),((26,2),((-1),(-1),0),some ((26,2),0,0)),((26,3),(0,0,0),some ((26,3),0,0)),((26,4),(0,0,0),some ((26,4),0,0)),((28,1),(0,0,0),some ((28,1),0,0)),((28,2),((-1),(-1),0),some ((28,2),0,0)),((28,3),(0,0,0),some ((28,3),0,0)),((28,4),(0,0,0),some ((28,4),0,0)),((30,1),(0,0,0),some ((30,1),0,0)),((30,2),((-1),(-1),0),some ((30,2),0,0)),((30,3),(0,0,0),some ((30,3),0,0)),((30,4),(0,0,0),some ((30,4),0,0)),((32,1),(0,0,0),some ((32,1),0,0)),((32,2),((-1),(-1),0),some ((32,2),0,0)),((32,3),(0,0,0),some ((32,3),0,0)),((32,4),(0,0,0),some ((32,4),0,0)),((34,1),(0,0,0),some ((34,1),0,0)),((34,2),((-1),(-1),0),some ((34,2),0,0)),((34,3),(0,0,0),some ((34,3),0,0)),((34,4),(0,0,0),some ((34,4),0,0)),((36,1),(0,0,0),some ((36,1),0,0)),((36,2),((-1),(-1),0),some ((36,2),0,0)),((36,3),(0,0,0),some ((36,3),0,0)),((36,4),(0,0,0),some ((36,4),0,0)),((38,1),(0,0,0),some ((38,1),0,0)),((38,2),((-1),(-1),0),some ((38,2),0,0)),((38,3),(0,0,0),some ((38,3),0,0)),((38,4),(0,0,0),some ((38,4),0,0)),((40,1),(0,0,0),some ((40,1),0,0)),((40,2),((-1),(-1),0),some ((40,2),0,0)),((40,3),(0,0,0),some ((40,3),0,0)),((40,4),(0,0,0),some ((40,4),0,0)),((42,1),(0,0,0),some ((42,1),0,0)),((42,2),((-1),(-1),0),some ((42,2),0,0)),((42,3),(0,0,0),some ((42,3),0,0)),((42,4),(0,0,0),some ((42,4),0,0)),((44,1),(0,0,0),some ((44,1),0,0)),((44,2),((-1),(-1),0),some ((44,2),0,0)),((44,3),(0,0,0),some ((44,3),0,0)),((44,4),(0,0,0),some ((44,4),0,0)),((46,1),(0,0,0),some ((46,1),0,0)),((46,2),((-1),(-1),0),some ((46,2),0,0)),((46,3),(0,0,0),some ((46,3),0,0)),((46,4),(0,0,0),some ((46,4),0,0)),((48,1),(0,0,0),some ((48,1),0,0)),((48,2),((-1),(-1),0),some ((48,2),0,0)),((48,3),(0,0,0),some ((48,3),0,0)),((48,4),(0,0,0),some ((48,4),0,0)),((50,1),(0,0,0),some ((50,1),0,0)),((50,2),((-1),(-1),0),some ((50,2),0,0)),((50,3),(0,0,0),some ((50,3),0,0)),((50,4),(0,0,0),some ((50,4),0,0))]),(2,[]),0)]
set_option maxRecDepth 100000 in
theorem q198_ok : (q198_N).all (rf_anc q198_P q198_U wLay q198_M ddX11_missed [] [] [4] 600 q198_N) = true := by decide +kernel
set_option maxHeartbeats 4000000 in
set_option maxRecDepth 100000 in
theorem q198_met {G : rfG} (h : okG G) : rf_metV G q198_M (cbV false) := by
  refine h_metVX h.1 (by decide +kernel) (by decide) h.2.2.1 (wflT h flokX11) (wcsT h csokX11) (by decide +kernel) ?_
  intro vs w0 X hv_ hr hp c
  match vs, hv_ with
  | [_, _, _], ⟨⟨_, hj0, rfl⟩, ⟨a, rfl, hi_a, _⟩, ⟨u, rfl, hi_u, _⟩, _⟩ =>
  cases List.mem_singleton.mp hj0
  have hd : ∀ n pc i len, ddX11_missed[n]? = some (pc, i, len) → decode (mb q198_M) pc = .ok (i, len) := fun n pc i len h => hdk dkX11_missed n pc i len h
  show hW G X q198_M w0 0 [(0, .ref (G.2.1.1 70)), (1, .int a), (2, .int u)] [] (hv w0)
  generalize hF0 : hv w0 = F at *
  obtain ⟨⟨a_, ea_, hcb⟩, hp, hvs, hQ⟩ := hp
  cases ea_
  refine h_iln c (hd 0 0 _ _ rfl) (by rfl) (hat 1 rfl ?_)
  refine h_callSF c (M' := dM_can) ((dp_can h)) (by decide +kernel) (wlkS (lkX11_163 h) _ rfl rfl) (hd 1 1 _ _ rfl) [.int a] (rest := []) (by rfl) ⟨⟨_, rfl, rf_in_top _, trivial⟩, trivial⟩ (Nat.le_of_ble_eq_true rfl) trivial (fun rv1 F1 fr1 rr1 pp1 sm_ => hat 4 rfl ?_)
  have e_ := (sm_ rfl).symm
  subst e_
  obtain ⟨a_, x1, ea_, er_, hx1⟩ := pp1
  cases ea_; subst er_
  have e1_ : x1.toInt = 0 := by rcases hx1 with h_ | h_; exact absurd (hcb.mp h_.2) (by decide); exact h_.1
  exact h_anc0 c hQ hvs (P := q198_P) ⟨wflT h flokX11, wcsT h csokX11, wlcT h lcokX11, spokX11 h, fun _ h => absurd h List.not_mem_nil, fun _ h => absurd h List.not_mem_nil, fun _ h => absurd h List.not_mem_nil, fun _ h => absurd h List.not_mem_nil, fun _ h => absurd h List.not_mem_nil⟩ dkX11_missed q198_ok (by decide +kernel) (by decide +kernel) (by rfl) (by decide +kernel) hF0 hp (fun _ => ⟨⟨_, rfl, hcon e1_, trivial⟩, trivial⟩)
/-- NearSpellModel.missed -/
def q199_M : rfM := ((⟨"NearSpellModel", "missed", "(II)I"⟩, prog_14_method_75_code, 4, (some .int)), (5,221), ([.inr (.inl [114]),.inl (((-2147483648),2147483647,1),none),.inl (((-2147483648),2147483647,1),none)],[((75,0),(4,4,0),none),((76,0),(2,2,0),none),((77,0),(13,13,0),none),((80,0),(0,0,0),none),((90,28),(0,0,0),none),((90,29),(0,0,0),none),((90,36),(0,0,0),none),((114,28),(0,0,0),none),((114,34),(0,0,0),none),((114,39),(0,0,0),none),((114,44),(0,0,0),none),((114,45),(0,0,0),none)]), [], [(some (.inl (((-1),(-1),0),none)),[],[])])
def q199_P : rfP := (flX12,csX12,lcX12,spX12,[],[],[],([],[]))
def q199_U : rfU := []
set_option maxHeartbeats 8000000 in
def q199_N : List rfB := [(4,([(0,.inr (.inl [114])),(1,.inl (((-2147483648),2147483647,1),none)),(2,.inl (((-2147483648),2147483647,1),none))],[.inl ((0,0,0),none)],[((75,0),(4,4,0),some ((75,0),0,0)),((76,0),(2,2,0),some ((76,0),0,0)),((77,0),(13,13,0),some ((77,0),0,0)),((80,0),(0,0,0),some ((80,0),0,0)),((90,28),(0,0,0),some ((90,28),0,0)),((90,29),(0,0,0),some ((90,29),0,0)),((90,36),(0,0,0),some ((90,36),0,0)),((114,28),(0,0,0),some ((114,28),0,0)),((114,34),(0,0,0),some ((114,34),0,0)),((114,39),(0,0,0),some ((114,39),0,0)),((114,44),(0,0,0),some ((114,44),0,0)),((114,45),(0,0,0),some ((114,45),0,0))]),(2,[]),0)]
set_option maxRecDepth 100000 in
theorem q199_ok : (q199_N).all (rf_anc q199_P q199_U wLay q199_M ddX12_missed [] [] [4] 600 q199_N) = true := by decide +kernel
set_option maxHeartbeats 4000000 in
set_option maxRecDepth 100000 in
theorem q199_met {G : rfG} (h : okG G) : rf_metV G q199_M (cbV false) := by
  refine h_metVX h.1 (by decide +kernel) (by decide) h.2.2.1 (wflT h flokX12) (wcsT h csokX12) (by decide +kernel) ?_
  intro vs w0 X hv_ hr hp c
  match vs, hv_ with
  | [_, _, _], ⟨⟨_, hj0, rfl⟩, ⟨a, rfl, hi_a, _⟩, ⟨u, rfl, hi_u, _⟩, _⟩ =>
  cases List.mem_singleton.mp hj0
  have hd : ∀ n pc i len, ddX12_missed[n]? = some (pc, i, len) → decode (mb q199_M) pc = .ok (i, len) := fun n pc i len h => hdk dkX12_missed n pc i len h
  show hW G X q199_M w0 0 [(0, .ref (G.2.1.1 114)), (1, .int a), (2, .int u)] [] (hv w0)
  generalize hF0 : hv w0 = F at *
  obtain ⟨⟨a_, ea_, hcb⟩, hp, hvs, hQ⟩ := hp
  cases ea_
  refine h_iln c (hd 0 0 _ _ rfl) (by rfl) (hat 1 rfl ?_)
  refine h_callSF c (M' := dM_mcan) ((dp_mcan h)) (by decide +kernel) (wlkS (lkX12_420 h) _ rfl rfl) (hd 1 1 _ _ rfl) [.int a] (rest := []) (by rfl) ⟨⟨_, rfl, rf_in_top _, trivial⟩, trivial⟩ (Nat.le_of_ble_eq_true rfl) trivial (fun rv1 F1 fr1 rr1 pp1 sm_ => hat 4 rfl ?_)
  have e_ := (sm_ rfl).symm
  subst e_
  obtain ⟨a_, x1, ea_, er_, hx1⟩ := pp1
  cases ea_; subst er_
  have e1_ : x1.toInt = 0 := by rcases hx1 with h_ | h_; exact absurd (hcb.mp h_.2) (by decide); exact h_.1
  exact h_anc0 c hQ hvs (P := q199_P) ⟨wflT h flokX12, wcsT h csokX12, wlcT h lcokX12, spokX12 h, fun _ h => absurd h List.not_mem_nil, fun _ h => absurd h List.not_mem_nil, fun _ h => absurd h List.not_mem_nil, fun _ h => absurd h List.not_mem_nil, fun _ h => absurd h List.not_mem_nil⟩ dkX12_missed q199_ok (by decide +kernel) (by decide +kernel) (by rfl) (by decide +kernel) hF0 hp (fun _ => ⟨⟨_, rfl, hcon e1_, trivial⟩, trivial⟩)
/-- NearSpell.missed -/
def q202_M : rfM := ((⟨"NearSpell", "missed", "(II)I"⟩, prog_1_method_19_code, 3, (some .int)), (5,122), ([.inr (.inl [70]),.inl ((0,387420488,1),none),.inl ((0,6,1),none)],[((5,5),(4,4,0),none),((5,6),(2,2,0),none),((10,5),(4,4,0),none),((10,6),(2,2,0),none),((12,34),(0,0,0),none),((12,35),(0,0,0),none),((12,36),(0,0,0),none),((20,3),(0,0,0),none),((20,4),(0,0,0),none),((22,1),(0,0,0),none),((22,2),((-1),(-1),0),none),((22,3),(0,0,0),none),((22,4),(0,0,0),none),((24,1),(0,0,0),none),((24,2),((-1),(-1),0),none),((24,3),(0,0,0),none),((24,4),(0,0,0),none),((26,1),(0,0,0),none),((26,2),((-1),(-1),0),none),((26,3),(0,0,0),none),((26,4),(0,0,0),none),((28,1),(0,0,0),none),((28,2),((-1),(-1),0),none),((28,3),(0,0,0),none),((28,4),(0,0,0),none),((30,1),(0,0,0),none),((30,2),((-1),(-1),0),none),((30,3),(0,0,0),none),((30,4),(0,0,0),none),((32,1),(0,0,0),none),((32,2),((-1),(-1),0),none),((32,3),(0,0,0),none),((32,4),(0,0,0),none),((34,1),(0,0,0),none),((34,2),((-1),(-1),0),none),((34,3),(0,0,0),none),((34,4),(0,0,0),none),((36,1),(0,0,0),none),((36,2),((-1),(-1),0),none),((36,3),(0,0,0),none),((36,4),(0,0,0),none),((38,1),(0,0,0),none),((38,2),((-1),(-1),0),none),((38,3),(0,0,0),none),((38,4),(0,0,0),none),((40,1),(0,0,0),none),((40,2),((-1),(-1),0),none),((40,3),(0,0,0),none),((40,4),(0,0,0),none),((42,1),(0,0,0),none),((42,2),((-1),(-1),0),none),((42,3),(0,0,0),none),((42,4),(0,0,0),none),((44,1),(0,0,0),none),((44,2),((-1),(-1),0),none),((44,3),(0,0,0),none),((44,4),(0,0,0),none),((46,1),(0,0,0),none),((46,2),((-1),(-1),0),none),((46,3),(0,0,0),none),((46,4),(0,0,0),none),((48,1),(0,0,0),none),((48,2),((-1),(-1),0),none),((48,3),(0,0,0),none),((48,4),(0,0,0),none),((50,1),(0,0,0),none),((50,2),((-1),(-1),0),none),((50,3),(0,0,0),none),((50,4),(0,0,0),none)]), [(17,0),(20,4),(20,5),(49,0),(50,2),(50,3),(50,4),(50,5)], [(some (.inl ((0,0,1),none)),[],[((20,3),(0,6,1),none),((20,4),(0,0,0),none),((50,2),(0,387420488,1),none),((50,3),(4,4,0),none),((50,4),(2,2,0),none)])])
def q202_P : rfP := (flX11,csX11,lcX11,spX11,[q200_M,q201_M,q178_M],[(232,0)],[(229,2,2),(235,1,2)],([],[]))
def q202_U : rfU := []
set_option maxHeartbeats 8000000 in
def q202_N : List rfB := [(4,([(0,.inr (.inl [70])),(1,.inl ((0,387420488,1),none)),(2,.inl ((0,6,1),none))],[.inl ((1,1,0),none)],[((5,5),(4,4,0),some ((5,5),0,0)),((5,6),(2,2,0),some ((5,6),0,0)),((10,5),(4,4,0),some ((10,5),0,0)),((10,6),(2,2,0),some ((10,6),0,0)),((12,34),(0,0,0),some ((12,34),0,0)),((12,35),(0,0,0),some ((12,35),0,0)),((12,36),(0,0,0),some ((12,36),0,0)),((20,3),(0,0,0),some ((20,3),0,0)),((20,4),(0,0,0),some ((20,4),0,0)),((22,1),(0,0,0),some ((22,1),0,0)),((22,2),((-1),(-1),0),some ((22,2),0,0)),((22,3),(0,0,0),some ((22,3),0,0)),((22,4),(0,0,0),some ((22,4),0,0)),((24,1),(0,0,0),some ((24,1),0,0)),((24,2),((-1),(-1),0),some ((24,2),0,0)),((24,3),(0,0,0),some ((24,3),0,0)),((24,4),(0,0,0),some ((24,4),0,0)),((26,1),(0,0,0),some ((26,1),0,0)),((26,2),((-1),(-1),0),some ((26,2),0,0)),((26,3),(0,0,0),some ((26,3),0,0)),((26,4),(0,0,0),some ((26,4),0,0)),((28,1),(0,0,0),some ((28,1),0,0)),((28,2),((-1),(-1),0),some ((28,2),0,0)),((28,3),(0,0,0),some ((28,3),0,0)),((28,4),(0,0,0),some ((28,4),0,0)),((30,1),(0,0,0),some ((30,1),0,0)),((30,2),((-1),(-1),0),some ((30,2),0,0)),((30,3),(0,0,0),some ((30,3),0,0)),((30,4),(0,0,0),some ((30,4),0,0)),((32,1),(0,0,0),some ((32,1),0,0)),((32,2),((-1),(-1),0),some ((32,2),0,0)),((32,3),(0,0,0),some ((32,3),0,0)),((32,4),(0,0,0),some ((32,4),0,0)),((34,1),(0,0,0),some ((34,1),0,0)),((34,2),((-1),(-1),0),some ((34,2),0,0)),((34,3),(0,0,0),some ((34,3),0,0)),((34,4),(0,0,0),some ((34,4),0,0)),((36,1),(0,0,0),some ((36,1),0,0)),((36,2),((-1),(-1),0),some ((36,2),0,0)),((36,3),(0,0,0),some ((36,3),0,0)),((36,4),(0,0,0),some ((36,4),0,0)),((38,1),(0,0,0),some ((38,1),0,0)),((38,2),((-1),(-1),0),some ((38,2),0,0)),((38,3),(0,0,0),some ((38,3),0,0)),((38,4),(0,0,0),some ((38,4),0,0)),((40,1),(0,0,0),some ((40,1),0,0)),((40,2),((-1),(-1),0),some ((40,2),0,0)),((40,3),(0,0,0),some ((40,3),0,0)),((40,4),(0,0,0),some ((40,4),0,0)),((42,1),(0,0,0),some ((42,1),0,0)),((42,2),((-1),(-1),0),some ((42,2),0,0)),((42,3),(0,0,0),some ((42,3),0,0)),((42,4),(0,0,0),some ((42,4),0,0)),((44,1),(0,0,0),some ((44,1),0,0)),((44,2),((-1),(-1),0),some ((44,2),0,0)),((44,3),(0,0,0),some ((44,3),0,0)),((44,4),(0,0,0),some ((44,4),0,0)),((46,1),(0,0,0),some ((46,1),0,0)),((46,2),((-1),(-1),0),some ((46,2),0,0)),((46,3),(0,0,0),some ((46,3),0,0)),((46,4),(0,0,0),some ((46,4),0,0)),((48,1),(0,0,0),some ((48,1),0,0)),((48,2),((-1),(-1),0),some ((48,2),0,0)),((48,3),(0,0,0),some ((48,3),0,0)),((48,4),(0,0,0),some ((48,4),0,0)),((50,1),(0,0,0),some ((50,1),0,0)),((50,2),((-1),(-1),0),some ((50,2),0,0)),((50,3),(0,0,0),some ((50,3),0,0)),((50,4),(0,0,0),some ((50,4),0,0))]),(16,[]),0)]
set_option maxRecDepth 100000 in
theorem q202_ok : (q202_N).all (rf_anc q202_P q202_U wLay q202_M ddX11_missed [(8,[0]),(22,[1]),(30,[2])] [] [4] 600 q202_N) = true := by decide +kernel
set_option maxHeartbeats 4000000 in
set_option maxRecDepth 100000 in
theorem q202_met {G : rfG} (h : okG G) : rf_metV G q202_M (cbV true) := by
  refine h_metVX h.1 (by decide +kernel) (by decide) h.2.2.1 (wflT h flokX11) (wcsT h csokX11) (by decide +kernel) ?_
  intro vs w0 X hv_ hr hp c
  match vs, hv_ with
  | [_, _, _], ⟨⟨_, hj0, rfl⟩, ⟨a, rfl, hi_a, _⟩, ⟨u, rfl, hi_u, _⟩, _⟩ =>
  cases List.mem_singleton.mp hj0
  have hd : ∀ n pc i len, ddX11_missed[n]? = some (pc, i, len) → decode (mb q202_M) pc = .ok (i, len) := fun n pc i len h => hdk dkX11_missed n pc i len h
  show hW G X q202_M w0 0 [(0, .ref (G.2.1.1 70)), (1, .int a), (2, .int u)] [] (hv w0)
  generalize hF0 : hv w0 = F at *
  obtain ⟨⟨a_, ea_, hcb⟩, hp, hvs, hQ⟩ := hp
  cases ea_
  refine h_iln c (hd 0 0 _ _ rfl) (by rfl) (hat 1 rfl ?_)
  refine h_callSF c (M' := dM_can) ((dp_can h)) (by decide +kernel) (wlkS (lkX11_163 h) _ rfl rfl) (hd 1 1 _ _ rfl) [.int a] (rest := []) (by rfl) ⟨⟨_, rfl, rf_in_top _, trivial⟩, trivial⟩ (Nat.le_of_ble_eq_true rfl) trivial (fun rv1 F1 fr1 rr1 pp1 sm_ => hat 4 rfl ?_)
  have e_ := (sm_ rfl).symm
  subst e_
  obtain ⟨a_, x1, ea_, er_, hx1⟩ := pp1
  cases ea_; subst er_
  have e1_ : x1.toInt = 1 := by rcases hx1 with h_ | h_; exact h_.1; exact absurd (hcb.mpr rfl) h_.2
  exact h_anc0 c hQ hvs (P := q202_P) ⟨wflT h flokX11, wcsT h csokX11, wlcT h lcokX11, spokX11 h, List.forall_mem_cons.mpr ⟨q200_met h, List.forall_mem_cons.mpr ⟨q201_met h, List.forall_mem_cons.mpr ⟨q178_met h, fun _ h => absurd h List.not_mem_nil⟩⟩⟩, List.forall_mem_cons.mpr ⟨fun M hM => Option.some.inj (show some q200_M = some M from hM) ▸ wlkS (lkX11_232 h) q200_M rfl rfl, fun _ h => absurd h List.not_mem_nil⟩, List.forall_mem_cons.mpr ⟨fun M hM => Option.some.inj (show some q178_M = some M from hM) ▸ wlkV (lkX11_229 h) q178_M rfl rfl, List.forall_mem_cons.mpr ⟨fun M hM => Option.some.inj (show some q201_M = some M from hM) ▸ wlkV (lkX11_235 h) q201_M rfl rfl, fun _ h => absurd h List.not_mem_nil⟩⟩, fun _ h => absurd h List.not_mem_nil, fun _ h => absurd h List.not_mem_nil⟩ dkX11_missed q202_ok (by decide +kernel) (by decide +kernel) (by rfl) (by decide +kernel) hF0 hp (fun _ => ⟨⟨_, rfl, hcon e1_, trivial⟩, trivial⟩)
/-- NearSpellModel.missed -/
def q207_M : rfM := ((⟨"NearSpellModel", "missed", "(II)I"⟩, prog_14_method_75_code, 4, (some .int)), (5,221), ([.inr (.inl [114]),.inl ((0,387420488,1),none),.inl ((0,6,1),none)],[((75,0),(4,4,0),none),((76,0),(2,2,0),none),((77,0),(13,13,0),none),((80,0),(0,0,0),none),((90,28),(0,0,0),none),((90,29),(0,0,0),none),((90,36),(0,0,0),none),((114,28),(0,0,0),none),((114,34),(0,0,0),none),((114,39),(0,0,0),none),((114,44),(0,0,0),none),((114,45),(0,0,0),none)]), [(91,0),(93,0),(98,0),(114,35),(114,40)], [(some (.inl ((0,0,0),none)),[],[])])
def q207_P : rfP := (flX12,csX12,lcX12,spX12,[q203_M,q204_M,q181_M,q205_M,q206_M],[(334,0)],[(411,2,12),(414,3,12),(423,1,12),(426,4,12)],([],[]))
def q207_U : rfU := []
set_option maxHeartbeats 8000000 in
def q207_N : List rfB := [(4,([(0,.inr (.inl [114])),(1,.inl ((0,387420488,1),none)),(2,.inl ((0,6,1),none))],[.inl ((1,1,0),none)],[((75,0),(4,4,0),some ((75,0),0,0)),((76,0),(2,2,0),some ((76,0),0,0)),((77,0),(13,13,0),some ((77,0),0,0)),((80,0),(0,0,0),some ((80,0),0,0)),((90,28),(0,0,0),some ((90,28),0,0)),((90,29),(0,0,0),some ((90,29),0,0)),((90,36),(0,0,0),some ((90,36),0,0)),((114,28),(0,0,0),some ((114,28),0,0)),((114,34),(0,0,0),some ((114,34),0,0)),((114,39),(0,0,0),some ((114,39),0,0)),((114,44),(0,0,0),some ((114,44),0,0)),((114,45),(0,0,0),some ((114,45),0,0))]),(23,[]),0)]
set_option maxRecDepth 100000 in
theorem q207_ok : (q207_N).all (rf_anc q207_P q207_U wLay q207_M ddX12_missed [(11,[0]),(20,[1]),(26,[2]),(35,[3]),(41,[4])] [] [4] 600 q207_N) = true := by decide +kernel
set_option maxHeartbeats 4000000 in
set_option maxRecDepth 100000 in
theorem q207_met {G : rfG} (h : okG G) : rf_metV G q207_M (cbV true) := by
  refine h_metVX h.1 (by decide +kernel) (by decide) h.2.2.1 (wflT h flokX12) (wcsT h csokX12) (by decide +kernel) ?_
  intro vs w0 X hv_ hr hp c
  match vs, hv_ with
  | [_, _, _], ⟨⟨_, hj0, rfl⟩, ⟨a, rfl, hi_a, _⟩, ⟨u, rfl, hi_u, _⟩, _⟩ =>
  cases List.mem_singleton.mp hj0
  have hd : ∀ n pc i len, ddX12_missed[n]? = some (pc, i, len) → decode (mb q207_M) pc = .ok (i, len) := fun n pc i len h => hdk dkX12_missed n pc i len h
  show hW G X q207_M w0 0 [(0, .ref (G.2.1.1 114)), (1, .int a), (2, .int u)] [] (hv w0)
  generalize hF0 : hv w0 = F at *
  obtain ⟨⟨a_, ea_, hcb⟩, hp, hvs, hQ⟩ := hp
  cases ea_
  refine h_iln c (hd 0 0 _ _ rfl) (by rfl) (hat 1 rfl ?_)
  refine h_callSF c (M' := dM_mcan) ((dp_mcan h)) (by decide +kernel) (wlkS (lkX12_420 h) _ rfl rfl) (hd 1 1 _ _ rfl) [.int a] (rest := []) (by rfl) ⟨⟨_, rfl, rf_in_top _, trivial⟩, trivial⟩ (Nat.le_of_ble_eq_true rfl) trivial (fun rv1 F1 fr1 rr1 pp1 sm_ => hat 4 rfl ?_)
  have e_ := (sm_ rfl).symm
  subst e_
  obtain ⟨a_, x1, ea_, er_, hx1⟩ := pp1
  cases ea_; subst er_
  have e1_ : x1.toInt = 1 := by rcases hx1 with h_ | h_; exact h_.1; exact absurd (hcb.mpr rfl) h_.2
  exact h_anc0 c hQ hvs (P := q207_P) ⟨wflT h flokX12, wcsT h csokX12, wlcT h lcokX12, spokX12 h, List.forall_mem_cons.mpr ⟨q203_met h, List.forall_mem_cons.mpr ⟨q204_met h, List.forall_mem_cons.mpr ⟨q181_met h, List.forall_mem_cons.mpr ⟨q205_met h, List.forall_mem_cons.mpr ⟨q206_met h, fun _ h => absurd h List.not_mem_nil⟩⟩⟩⟩⟩, List.forall_mem_cons.mpr ⟨fun M hM => Option.some.inj (show some q203_M = some M from hM) ▸ wlkS (lkX12_334 h) q203_M rfl rfl, fun _ h => absurd h List.not_mem_nil⟩, List.forall_mem_cons.mpr ⟨fun M hM => Option.some.inj (show some q181_M = some M from hM) ▸ wlkV (lkX12_411 h) q181_M rfl rfl, List.forall_mem_cons.mpr ⟨fun M hM => Option.some.inj (show some q205_M = some M from hM) ▸ wlkV (lkX12_414 h) q205_M rfl rfl, List.forall_mem_cons.mpr ⟨fun M hM => Option.some.inj (show some q204_M = some M from hM) ▸ wlkV (lkX12_423 h) q204_M rfl rfl, List.forall_mem_cons.mpr ⟨fun M hM => Option.some.inj (show some q206_M = some M from hM) ▸ wlkV (lkX12_426 h) q206_M rfl rfl, fun _ h => absurd h List.not_mem_nil⟩⟩⟩⟩, fun _ h => absurd h List.not_mem_nil, fun _ h => absurd h List.not_mem_nil⟩ dkX12_missed q207_ok (by decide +kernel) (by decide +kernel) (by rfl) (by decide +kernel) hF0 hp (fun _ => ⟨⟨_, rfl, hcon e1_, trivial⟩, trivial⟩)
/-- NearSpell.near -/
def q223_M : rfM := ((⟨"NearSpell", "near", "(II)I"⟩, prog_1_method_21_code, 3, (some .int)), (3,122), ([.inr (.inl [70]),.inl (((-2147483648),2147483647,1),none),.inl (((-2147483648),2147483647,1),none)],[((5,5),(4,4,0),none),((5,6),(2,2,0),none),((10,5),(4,4,0),none),((10,6),(2,2,0),none),((12,34),(0,0,0),none),((12,35),(0,0,0),none),((12,36),(0,0,0),none),((20,3),(0,0,0),none),((20,4),(0,0,0),none),((22,1),(0,0,0),none),((22,2),((-1),(-1),0),none),((22,3),(0,0,0),none),((22,4),(0,0,0),none),((24,1),(0,0,0),none),((24,2),((-1),(-1),0),none),((24,3),(0,0,0),none),((24,4),(0,0,0),none),((26,1),(0,0,0),none),((26,2),((-1),(-1),0),none),((26,3),(0,0,0),none),((26,4),(0,0,0),none),((28,1),(0,0,0),none),((28,2),((-1),(-1),0),none),((28,3),(0,0,0),none),((28,4),(0,0,0),none),((30,1),(0,0,0),none),((30,2),((-1),(-1),0),none),((30,3),(0,0,0),none),((30,4),(0,0,0),none),((32,1),(0,0,0),none),((32,2),((-1),(-1),0),none),((32,3),(0,0,0),none),((32,4),(0,0,0),none),((34,1),(0,0,0),none),((34,2),((-1),(-1),0),none),((34,3),(0,0,0),none),((34,4),(0,0,0),none),((36,1),(0,0,0),none),((36,2),((-1),(-1),0),none),((36,3),(0,0,0),none),((36,4),(0,0,0),none),((38,1),(0,0,0),none),((38,2),((-1),(-1),0),none),((38,3),(0,0,0),none),((38,4),(0,0,0),none),((40,1),(0,0,0),none),((40,2),((-1),(-1),0),none),((40,3),(0,0,0),none),((40,4),(0,0,0),none),((42,1),(0,0,0),none),((42,2),((-1),(-1),0),none),((42,3),(0,0,0),none),((42,4),(0,0,0),none),((44,1),(0,0,0),none),((44,2),((-1),(-1),0),none),((44,3),(0,0,0),none),((44,4),(0,0,0),none),((46,1),(0,0,0),none),((46,2),((-1),(-1),0),none),((46,3),(0,0,0),none),((46,4),(0,0,0),none),((48,1),(0,0,0),none),((48,2),((-1),(-1),0),none),((48,3),(0,0,0),none),((48,4),(0,0,0),none),((50,1),(0,0,0),none),((50,2),((-1),(-1),0),none),((50,3),(0,0,0),none),((50,4),(0,0,0),none),((70,14),(0,0,0),none)]), [(70,15)], [(some (.inl (((-1),(-1),0),none)),[],[((70,14),(0,0,0),some ((70,14),0,0))])])
def q223_P : rfP := (flX11,csX11,lcX11,spX11,[],[],[],([],[]))
def q223_U : rfU := []
set_option maxHeartbeats 8000000 in
def q223_N : List rfB := [(9,([(0,.inr (.inl [70])),(1,.inl (((-2147483648),2147483647,1),none)),(2,.inl (((-2147483648),2147483647,1),none))],[.inl ((0,0,0),none)],[((5,5),(4,4,0),some ((5,5),0,0)),((5,6),(2,2,0),some ((5,6),0,0)),((10,5),(4,4,0),some ((10,5),0,0)),((10,6),(2,2,0),some ((10,6),0,0)),((12,34),(0,0,0),some ((12,34),0,0)),((12,35),(0,0,0),some ((12,35),0,0)),((12,36),(0,0,0),some ((12,36),0,0)),((20,3),(0,0,0),some ((20,3),0,0)),((20,4),(0,0,0),some ((20,4),0,0)),((22,1),(0,0,0),some ((22,1),0,0)),((22,2),((-1),(-1),0),some ((22,2),0,0)),((22,3),(0,0,0),some ((22,3),0,0)),((22,4),(0,0,0),some ((22,4),0,0)),((24,1),(0,0,0),some ((24,1),0,0)),((24,2),((-1),(-1),0),some ((24,2),0,0)),((24,3),(0,0,0),some ((24,3),0,0)),((24,4),(0,0,0),some ((24,4),0,0)),((26,1),(0,0,0),some ((26,1),0,0)),((26,2),((-1),(-1),0),some ((26,2),0,0)),((26,3),(0,0,0),some ((26,3),0,0)),((26,4),(0,0,0),some ((26,4),0,0)),((28,1),(0,0,0),some ((28,1),0,0)),((28,2),((-1),(-1),0),some ((28,2),0,0)),((28,3),(0,0,0),some ((28,3),0,0)),((28,4),(0,0,0),some ((28,4),0,0)),((30,1),(0,0,0),some ((30,1),0,0)),((30,2),((-1),(-1),0),some ((30,2),0,0)),((30,3),(0,0,0),some ((30,3),0,0)),((30,4),(0,0,0),some ((30,4),0,0)),((32,1),(0,0,0),some ((32,1),0,0)),((32,2),((-1),(-1),0),some ((32,2),0,0)),((32,3),(0,0,0),some ((32,3),0,0)),((32,4),(0,0,0),some ((32,4),0,0)),((34,1),(0,0,0),some ((34,1),0,0)),((34,2),((-1),(-1),0),some ((34,2),0,0)),((34,3),(0,0,0),some ((34,3),0,0)),((34,4),(0,0,0),some ((34,4),0,0)),((36,1),(0,0,0),some ((36,1),0,0)),((36,2),((-1),(-1),0),some ((36,2),0,0)),((36,3),(0,0,0),some ((36,3),0,0)),((36,4),(0,0,0),some ((36,4),0,0)),((38,1),(0,0,0),some ((38,1),0,0)),((38,2),((-1),(-1),0),some ((38,2),0,0)),((38,3),(0,0,0),some ((38,3),0,0)),((38,4),(0,0,0),some ((38,4),0,0)),((40,1),(0,0,0),some ((40,1),0,0)),((40,2),((-1),(-1),0),some ((40,2),0,0)),((40,3),(0,0,0),some ((40,3),0,0)),((40,4),(0,0,0),some ((40,4),0,0)),((42,1),(0,0,0),some ((42,1),0,0)),((42,2),((-1),(-1),0),some ((42,2),0,0)),((42,3),(0,0,0),some ((42,3),0,0)),((42,4),(0,0,0),some ((42,4),0,0)),((44,1),(0,0,0),some ((44,1),0,0)),((44,2),((-1),(-1),0),some ((44,2),0,0)),((44,3),(0,0,0),some ((44,3),0,0)),((44,4),(0,0,0),some ((44,4),0,0)),((46,1),(0,0,0),some ((46,1),0,0)),((46,2),((-1),(-1),0),some ((46,2),0,0)),((46,3),(0,0,0),some ((46,3),0,0)),((46,4),(0,0,0),some ((46,4),0,0)),((48,1),(0,0,0),some ((48,1),0,0)),((48,2),((-1),(-1),0),some ((48,2),0,0)),((48,3),(0,0,0),some ((48,3),0,0)),((48,4),(0,0,0),some ((48,4),0,0)),((50,1),(0,0,0),some ((50,1),0,0)),((50,2),((-1),(-1),0),some ((50,2),0,0)),((50,3),(0,0,0),some ((50,3),0,0)),((50,4),(0,0,0),some ((50,4),0,0)),((70,14),(0,0,0),some ((70,14),0,0))]),(2,[]),0)]
set_option maxRecDepth 100000 in
theorem q223_ok : (q223_N).all (rf_anc q223_P q223_U wLay q223_M ddX11_near [] [] [9] 600 q223_N) = true := by decide +kernel
set_option maxHeartbeats 4000000 in
set_option maxRecDepth 100000 in
theorem q223_met {G : rfG} (h : okG G) : rf_metV G q223_M (cbV false) := by
  refine h_metVX h.1 (by decide +kernel) (by decide) h.2.2.1 (wflT h flokX11) (wcsT h csokX11) (by decide +kernel) ?_
  intro vs w0 X hv_ hr hp c
  match vs, hv_ with
  | [_, _, _], ⟨⟨_, hj0, rfl⟩, ⟨a, rfl, hi_a, _⟩, ⟨u, rfl, hi_u, _⟩, _⟩ =>
  cases List.mem_singleton.mp hj0
  have hd : ∀ n pc i len, ddX11_near[n]? = some (pc, i, len) → decode (mb q223_M) pc = .ok (i, len) := fun n pc i len h => hdk dkX11_near n pc i len h
  show hW G X q223_M w0 0 [(0, .ref (G.2.1.1 70)), (1, .int a), (2, .int u)] [] (hv w0)
  generalize hF0 : hv w0 = F at *
  obtain ⟨⟨a_, ea_, hcb⟩, hp, hvs, hQ⟩ := hp
  cases ea_
  refine h_aln c (hd 0 0 _ _ rfl) (by rfl) (hat 1 rfl ?_)
  refine h_ic c (hd 1 1 _ _ rfl) (by decide) (fun v1 e1 => hat 2 rfl ?_)
  refine h_putI c (hd 2 2 _ _ rfl) fgX11_104 gnX11_104_70 (by decide) (by decide) rfl (rf_in1 (by omega) (by omega)) (hat 5 rfl ?_)
  refine h_iln c (hd 3 5 _ _ rfl) (by rfl) (hat 6 rfl ?_)
  refine h_callSF c (M' := dM_can) ((dp_can h)) (by decide +kernel) (wlkS (lkX11_163 h) _ rfl rfl) (hd 4 6 _ _ rfl) [.int a] (rest := []) (by rfl) ⟨⟨_, rfl, rf_in_top _, trivial⟩, trivial⟩ (Nat.le_of_ble_eq_true rfl) trivial (fun rv6 F6 fr6 rr6 pp6 sm_ => hat 9 rfl ?_)
  have e_ := (sm_ rfl).symm
  subst e_
  obtain ⟨a_, x6, ea_, er_, hx6⟩ := pp6
  cases ea_; subst er_
  have hz_ : (F 70 14).toInt = 0 := by have a_ : 0 ≤ (F 70 14).toInt := (hp _ (List.mem_of_getElem? (i := 69) rfl)).1; have b_ : (F 70 14).toInt ≤ 0 := (hp _ (List.mem_of_getElem? (i := 69) rfl)).2.1; omega
  rw [hupd_id (F := F) (j := 70) (k := 14) (x := v1) (Int32.toInt_inj.mp (by omega))]
  have e1_ : x6.toInt = 0 := by rcases hx6 with h_ | h_; exact absurd (hcb.mp h_.2) (by decide); exact h_.1
  exact h_anc0 c hQ hvs (P := q223_P) ⟨wflT h flokX11, wcsT h csokX11, wlcT h lcokX11, spokX11 h, fun _ h => absurd h List.not_mem_nil, fun _ h => absurd h List.not_mem_nil, fun _ h => absurd h List.not_mem_nil, fun _ h => absurd h List.not_mem_nil, fun _ h => absurd h List.not_mem_nil⟩ dkX11_near q223_ok (by decide +kernel) (by decide +kernel) (by rfl) (by decide +kernel) hF0 hp (fun _ => ⟨⟨_, rfl, hcon e1_, trivial⟩, trivial⟩)
/-- NearSpellModel.near -/
def q224_M : rfM := ((⟨"NearSpellModel", "near", "(II)I"⟩, prog_14_method_77_code, 5, (some .int)), (5,221), ([.inr (.inl [114]),.inl (((-2147483648),2147483647,1),none),.inl (((-2147483648),2147483647,1),none)],[((75,0),(4,4,0),none),((76,0),(2,2,0),none),((77,0),(13,13,0),none),((80,0),(0,0,0),none),((90,28),(0,0,0),none),((90,29),(0,0,0),none),((90,36),(0,0,0),none),((114,28),(0,0,0),none),((114,34),(0,0,0),none),((114,39),(0,0,0),none),((114,44),(0,0,0),none),((114,45),(0,0,0),none),((114,48),(0,0,0),none)]), [(114,49)], [(some (.inl (((-1),(-1),0),none)),[],[((114,48),(0,0,0),some ((114,48),0,0))])])
def q224_P : rfP := (flX12,csX12,lcX12,spX12,[],[],[],([],[]))
def q224_U : rfU := []
set_option maxHeartbeats 8000000 in
def q224_N : List rfB := [(9,([(0,.inr (.inl [114])),(1,.inl (((-2147483648),2147483647,1),none)),(2,.inl (((-2147483648),2147483647,1),none))],[.inl ((0,0,0),none)],[((75,0),(4,4,0),some ((75,0),0,0)),((76,0),(2,2,0),some ((76,0),0,0)),((77,0),(13,13,0),some ((77,0),0,0)),((80,0),(0,0,0),some ((80,0),0,0)),((90,28),(0,0,0),some ((90,28),0,0)),((90,29),(0,0,0),some ((90,29),0,0)),((90,36),(0,0,0),some ((90,36),0,0)),((114,28),(0,0,0),some ((114,28),0,0)),((114,34),(0,0,0),some ((114,34),0,0)),((114,39),(0,0,0),some ((114,39),0,0)),((114,44),(0,0,0),some ((114,44),0,0)),((114,45),(0,0,0),some ((114,45),0,0)),((114,48),(0,0,0),some ((114,48),0,0))]),(2,[]),0)]
set_option maxRecDepth 100000 in
theorem q224_ok : (q224_N).all (rf_anc q224_P q224_U wLay q224_M ddX12_near [] [] [9] 600 q224_N) = true := by decide +kernel
set_option maxHeartbeats 4000000 in
set_option maxRecDepth 100000 in
theorem q224_met {G : rfG} (h : okG G) : rf_metV G q224_M (cbV false) := by
  refine h_metVX h.1 (by decide +kernel) (by decide) h.2.2.1 (wflT h flokX12) (wcsT h csokX12) (by decide +kernel) ?_
  intro vs w0 X hv_ hr hp c
  match vs, hv_ with
  | [_, _, _], ⟨⟨_, hj0, rfl⟩, ⟨a, rfl, hi_a, _⟩, ⟨u, rfl, hi_u, _⟩, _⟩ =>
  cases List.mem_singleton.mp hj0
  have hd : ∀ n pc i len, ddX12_near[n]? = some (pc, i, len) → decode (mb q224_M) pc = .ok (i, len) := fun n pc i len h => hdk dkX12_near n pc i len h
  show hW G X q224_M w0 0 [(0, .ref (G.2.1.1 114)), (1, .int a), (2, .int u)] [] (hv w0)
  generalize hF0 : hv w0 = F at *
  obtain ⟨⟨a_, ea_, hcb⟩, hp, hvs, hQ⟩ := hp
  cases ea_
  refine h_aln c (hd 0 0 _ _ rfl) (by rfl) (hat 1 rfl ?_)
  refine h_ic c (hd 1 1 _ _ rfl) (by decide) (fun v1 e1 => hat 2 rfl ?_)
  refine h_putI c (hd 2 2 _ _ rfl) fgX12_347 gnX12_347_114 (by decide) (by decide) rfl (rf_in1 (by omega) (by omega)) (hat 5 rfl ?_)
  refine h_iln c (hd 3 5 _ _ rfl) (by rfl) (hat 6 rfl ?_)
  refine h_callSF c (M' := dM_mcan) ((dp_mcan h)) (by decide +kernel) (wlkS (lkX12_420 h) _ rfl rfl) (hd 4 6 _ _ rfl) [.int a] (rest := []) (by rfl) ⟨⟨_, rfl, rf_in_top _, trivial⟩, trivial⟩ (Nat.le_of_ble_eq_true rfl) trivial (fun rv6 F6 fr6 rr6 pp6 sm_ => hat 9 rfl ?_)
  have e_ := (sm_ rfl).symm
  subst e_
  obtain ⟨a_, x6, ea_, er_, hx6⟩ := pp6
  cases ea_; subst er_
  have hz_ : (F 114 48).toInt = 0 := by have a_ : 0 ≤ (F 114 48).toInt := (hp _ (List.mem_of_getElem? (i := 12) rfl)).1; have b_ : (F 114 48).toInt ≤ 0 := (hp _ (List.mem_of_getElem? (i := 12) rfl)).2.1; omega
  rw [hupd_id (F := F) (j := 114) (k := 48) (x := v1) (Int32.toInt_inj.mp (by omega))]
  have e1_ : x6.toInt = 0 := by rcases hx6 with h_ | h_; exact absurd (hcb.mp h_.2) (by decide); exact h_.1
  exact h_anc0 c hQ hvs (P := q224_P) ⟨wflT h flokX12, wcsT h csokX12, wlcT h lcokX12, spokX12 h, fun _ h => absurd h List.not_mem_nil, fun _ h => absurd h List.not_mem_nil, fun _ h => absurd h List.not_mem_nil, fun _ h => absurd h List.not_mem_nil, fun _ h => absurd h List.not_mem_nil⟩ dkX12_near q224_ok (by decide +kernel) (by decide +kernel) (by rfl) (by decide +kernel) hF0 hp (fun _ => ⟨⟨_, rfl, hcon e1_, trivial⟩, trivial⟩)
/-- NearSpell.near -/
def q226_M : rfM := ((⟨"NearSpell", "near", "(II)I"⟩, prog_1_method_21_code, 3, (some .int)), (6,143), ([.inr (.inl [70]),.inl ((0,387420488,1),none),.inl ((0,6,1),none)],[((5,5),(4,4,0),none),((5,6),(2,2,0),none),((10,5),(4,4,0),none),((10,6),(2,2,0),none),((12,34),(0,0,0),none),((12,35),(0,0,0),none),((12,36),(0,0,0),none),((20,3),(0,0,0),none),((20,4),(0,0,0),none),((22,1),(0,0,0),none),((22,2),((-1),(-1),0),none),((22,3),(0,0,0),none),((22,4),(0,0,0),none),((24,1),(0,0,0),none),((24,2),((-1),(-1),0),none),((24,3),(0,0,0),none),((24,4),(0,0,0),none),((26,1),(0,0,0),none),((26,2),((-1),(-1),0),none),((26,3),(0,0,0),none),((26,4),(0,0,0),none),((28,1),(0,0,0),none),((28,2),((-1),(-1),0),none),((28,3),(0,0,0),none),((28,4),(0,0,0),none),((30,1),(0,0,0),none),((30,2),((-1),(-1),0),none),((30,3),(0,0,0),none),((30,4),(0,0,0),none),((32,1),(0,0,0),none),((32,2),((-1),(-1),0),none),((32,3),(0,0,0),none),((32,4),(0,0,0),none),((34,1),(0,0,0),none),((34,2),((-1),(-1),0),none),((34,3),(0,0,0),none),((34,4),(0,0,0),none),((36,1),(0,0,0),none),((36,2),((-1),(-1),0),none),((36,3),(0,0,0),none),((36,4),(0,0,0),none),((38,1),(0,0,0),none),((38,2),((-1),(-1),0),none),((38,3),(0,0,0),none),((38,4),(0,0,0),none),((40,1),(0,0,0),none),((40,2),((-1),(-1),0),none),((40,3),(0,0,0),none),((40,4),(0,0,0),none),((42,1),(0,0,0),none),((42,2),((-1),(-1),0),none),((42,3),(0,0,0),none),((42,4),(0,0,0),none),((44,1),(0,0,0),none),((44,2),((-1),(-1),0),none),((44,3),(0,0,0),none),((44,4),(0,0,0),none),((46,1),(0,0,0),none),((46,2),((-1),(-1),0),none),((46,3),(0,0,0),none),((46,4),(0,0,0),none),((48,1),(0,0,0),none),((48,2),((-1),(-1),0),none),((48,3),(0,0,0),none),((48,4),(0,0,0),none),((50,1),(0,0,0),none),((50,2),((-1),(-1),0),none),((50,3),(0,0,0),none),((50,4),(0,0,0),none),((70,14),(0,0,0),none)]), [(17,0),(20,4),(20,5),(49,0),(50,2),(50,3),(50,4),(50,5),(70,15)], [(some (.inl ((0,0,0),none)),[],[((20,3),(0,6,1),none),((20,4),(0,0,0),none),((50,2),(0,387420488,1),none),((50,3),(4,4,0),none),((50,4),(2,2,0),none),((70,14),(0,0,0),none)])])
def q226_P : rfP := (flX11,csX11,lcX11,spX11,[q200_M,q225_M],[(232,0)],[(238,1,2)],([],[]))
def q226_U : rfU := []
set_option maxHeartbeats 8000000 in
def q226_N : List rfB := [(9,([(0,.inr (.inl [70])),(1,.inl ((0,387420488,1),none)),(2,.inl ((0,6,1),none))],[.inl ((1,1,0),none)],[((5,5),(4,4,0),some ((5,5),0,0)),((5,6),(2,2,0),some ((5,6),0,0)),((10,5),(4,4,0),some ((10,5),0,0)),((10,6),(2,2,0),some ((10,6),0,0)),((12,34),(0,0,0),some ((12,34),0,0)),((12,35),(0,0,0),some ((12,35),0,0)),((12,36),(0,0,0),some ((12,36),0,0)),((20,3),(0,0,0),some ((20,3),0,0)),((20,4),(0,0,0),some ((20,4),0,0)),((22,1),(0,0,0),some ((22,1),0,0)),((22,2),((-1),(-1),0),some ((22,2),0,0)),((22,3),(0,0,0),some ((22,3),0,0)),((22,4),(0,0,0),some ((22,4),0,0)),((24,1),(0,0,0),some ((24,1),0,0)),((24,2),((-1),(-1),0),some ((24,2),0,0)),((24,3),(0,0,0),some ((24,3),0,0)),((24,4),(0,0,0),some ((24,4),0,0)),((26,1),(0,0,0),some ((26,1),0,0)),((26,2),((-1),(-1),0),some ((26,2),0,0)),((26,3),(0,0,0),some ((26,3),0,0)),((26,4),(0,0,0),some ((26,4),0,0)),((28,1),(0,0,0),some ((28,1),0,0)),((28,2),((-1),(-1),0),some ((28,2),0,0)),((28,3),(0,0,0),some ((28,3),0,0)),((28,4),(0,0,0),some ((28,4),0,0)),((30,1),(0,0,0),some ((30,1),0,0)),((30,2),((-1),(-1),0),some ((30,2),0,0)),((30,3),(0,0,0),some ((30,3),0,0)),((30,4),(0,0,0),some ((30,4),0,0)),((32,1),(0,0,0),some ((32,1),0,0)),((32,2),((-1),(-1),0),some ((32,2),0,0)),((32,3),(0,0,0),some ((32,3),0,0)),((32,4),(0,0,0),some ((32,4),0,0)),((34,1),(0,0,0),some ((34,1),0,0)),((34,2),((-1),(-1),0),some ((34,2),0,0)),((34,3),(0,0,0),some ((34,3),0,0)),((34,4),(0,0,0),some ((34,4),0,0)),((36,1),(0,0,0),some ((36,1),0,0)),((36,2),((-1),(-1),0),some ((36,2),0,0)),((36,3),(0,0,0),some ((36,3),0,0)),((36,4),(0,0,0),some ((36,4),0,0)),((38,1),(0,0,0),some ((38,1),0,0)),((38,2),((-1),(-1),0),some ((38,2),0,0)),((38,3),(0,0,0),some ((38,3),0,0)),((38,4),(0,0,0),some ((38,4),0,0)),((40,1),(0,0,0),some ((40,1),0,0)),((40,2),((-1),(-1),0),some ((40,2),0,0)),((40,3),(0,0,0),some ((40,3),0,0)),((40,4),(0,0,0),some ((40,4),0,0)),((42,1),(0,0,0),some ((42,1),0,0)),((42,2),((-1),(-1),0),some ((42,2),0,0)),((42,3),(0,0,0),some ((42,3),0,0)),((42,4),(0,0,0),some ((42,4),0,0)),((44,1),(0,0,0),some ((44,1),0,0)),((44,2),((-1),(-1),0),some ((44,2),0,0)),((44,3),(0,0,0),some ((44,3),0,0)),((44,4),(0,0,0),some ((44,4),0,0)),((46,1),(0,0,0),some ((46,1),0,0)),((46,2),((-1),(-1),0),some ((46,2),0,0)),((46,3),(0,0,0),some ((46,3),0,0)),((46,4),(0,0,0),some ((46,4),0,0)),((48,1),(0,0,0),some ((48,1),0,0)),((48,2),((-1),(-1),0),some ((48,2),0,0)),((48,3),(0,0,0),some ((48,3),0,0)),((48,4),(0,0,0),some ((48,4),0,0)),((50,1),(0,0,0),some ((50,1),0,0)),((50,2),((-1),(-1),0),some ((50,2),0,0)),((50,3),(0,0,0),some ((50,3),0,0)),((50,4),(0,0,0),some ((50,4),0,0)),((70,14),(0,0,0),some ((70,14),0,0))]),(15,[]),0)]
set_option maxRecDepth 100000 in
theorem q226_ok : (q226_N).all (rf_anc q226_P q226_U wLay q226_M ddX11_near [(13,[0]),(32,[1])] [] [9] 600 q226_N) = true := by decide +kernel
set_option maxHeartbeats 4000000 in
set_option maxRecDepth 100000 in
theorem q226_met {G : rfG} (h : okG G) : rf_metV G q226_M (cbV true) := by
  refine h_metVX h.1 (by decide +kernel) (by decide) h.2.2.1 (wflT h flokX11) (wcsT h csokX11) (by decide +kernel) ?_
  intro vs w0 X hv_ hr hp c
  match vs, hv_ with
  | [_, _, _], ⟨⟨_, hj0, rfl⟩, ⟨a, rfl, hi_a, _⟩, ⟨u, rfl, hi_u, _⟩, _⟩ =>
  cases List.mem_singleton.mp hj0
  have hd : ∀ n pc i len, ddX11_near[n]? = some (pc, i, len) → decode (mb q226_M) pc = .ok (i, len) := fun n pc i len h => hdk dkX11_near n pc i len h
  show hW G X q226_M w0 0 [(0, .ref (G.2.1.1 70)), (1, .int a), (2, .int u)] [] (hv w0)
  generalize hF0 : hv w0 = F at *
  obtain ⟨⟨a_, ea_, hcb⟩, hp, hvs, hQ⟩ := hp
  cases ea_
  refine h_aln c (hd 0 0 _ _ rfl) (by rfl) (hat 1 rfl ?_)
  refine h_ic c (hd 1 1 _ _ rfl) (by decide) (fun v1 e1 => hat 2 rfl ?_)
  refine h_putI c (hd 2 2 _ _ rfl) fgX11_104 gnX11_104_70 (by decide) (by decide) rfl (rf_in1 (by omega) (by omega)) (hat 5 rfl ?_)
  refine h_iln c (hd 3 5 _ _ rfl) (by rfl) (hat 6 rfl ?_)
  refine h_callSF c (M' := dM_can) ((dp_can h)) (by decide +kernel) (wlkS (lkX11_163 h) _ rfl rfl) (hd 4 6 _ _ rfl) [.int a] (rest := []) (by rfl) ⟨⟨_, rfl, rf_in_top _, trivial⟩, trivial⟩ (Nat.le_of_ble_eq_true rfl) trivial (fun rv6 F6 fr6 rr6 pp6 sm_ => hat 9 rfl ?_)
  have e_ := (sm_ rfl).symm
  subst e_
  obtain ⟨a_, x6, ea_, er_, hx6⟩ := pp6
  cases ea_; subst er_
  have hz_ : (F 70 14).toInt = 0 := by have a_ : 0 ≤ (F 70 14).toInt := (hp _ (List.mem_of_getElem? (i := 69) rfl)).1; have b_ : (F 70 14).toInt ≤ 0 := (hp _ (List.mem_of_getElem? (i := 69) rfl)).2.1; omega
  rw [hupd_id (F := F) (j := 70) (k := 14) (x := v1) (Int32.toInt_inj.mp (by omega))]
  have e1_ : x6.toInt = 1 := by rcases hx6 with h_ | h_; exact h_.1; exact absurd (hcb.mpr rfl) h_.2
  exact h_anc0 c hQ hvs (P := q226_P) ⟨wflT h flokX11, wcsT h csokX11, wlcT h lcokX11, spokX11 h, List.forall_mem_cons.mpr ⟨q200_met h, List.forall_mem_cons.mpr ⟨q225_met h, fun _ h => absurd h List.not_mem_nil⟩⟩, List.forall_mem_cons.mpr ⟨fun M hM => Option.some.inj (show some q200_M = some M from hM) ▸ wlkS (lkX11_232 h) q200_M rfl rfl, fun _ h => absurd h List.not_mem_nil⟩, List.forall_mem_cons.mpr ⟨fun M hM => Option.some.inj (show some q225_M = some M from hM) ▸ wlkV (lkX11_238 h) q225_M rfl rfl, fun _ h => absurd h List.not_mem_nil⟩, fun _ h => absurd h List.not_mem_nil, fun _ h => absurd h List.not_mem_nil⟩ dkX11_near q226_ok (by decide +kernel) (by decide +kernel) (by rfl) (by decide +kernel) hF0 hp (fun _ => ⟨⟨_, rfl, hcon e1_, trivial⟩, trivial⟩)
/-- NearSpellModel.near -/
def q227_M : rfM := ((⟨"NearSpellModel", "near", "(II)I"⟩, prog_14_method_77_code, 5, (some .int)), (5,221), ([.inr (.inl [114]),.inl ((0,387420488,1),none),.inl ((0,6,1),none)],[((75,0),(4,4,0),none),((76,0),(2,2,0),none),((77,0),(13,13,0),none),((80,0),(0,0,0),none),((90,28),(0,0,0),none),((90,29),(0,0,0),none),((90,36),(0,0,0),none),((114,28),(0,0,0),none),((114,34),(0,0,0),none),((114,39),(0,0,0),none),((114,44),(0,0,0),none),((114,45),(0,0,0),none),((114,48),(0,0,0),none)]), [(91,0),(93,0),(98,0),(114,35),(114,40),(114,49)], [(some (.inl ((0,0,0),none)),[],[((114,48),(0,0,0),some ((114,48),0,0))])])
def q227_P : rfP := (flX12,csX12,lcX12,spX12,[q203_M,q181_M,q205_M,q206_M],[(334,0)],[(411,1,12),(414,2,12),(426,3,12)],([],[]))
def q227_U : rfU := []
set_option maxHeartbeats 8000000 in
def q227_N : List rfB := [(9,([(0,.inr (.inl [114])),(1,.inl ((0,387420488,1),none)),(2,.inl ((0,6,1),none))],[.inl ((1,1,0),none)],[((75,0),(4,4,0),some ((75,0),0,0)),((76,0),(2,2,0),some ((76,0),0,0)),((77,0),(13,13,0),some ((77,0),0,0)),((80,0),(0,0,0),some ((80,0),0,0)),((90,28),(0,0,0),some ((90,28),0,0)),((90,29),(0,0,0),some ((90,29),0,0)),((90,36),(0,0,0),some ((90,36),0,0)),((114,28),(0,0,0),some ((114,28),0,0)),((114,34),(0,0,0),some ((114,34),0,0)),((114,39),(0,0,0),some ((114,39),0,0)),((114,44),(0,0,0),some ((114,44),0,0)),((114,45),(0,0,0),some ((114,45),0,0)),((114,48),(0,0,0),some ((114,48),0,0))]),(23,[]),0)]
set_option maxRecDepth 100000 in
theorem q227_ok : (q227_N).all (rf_anc q227_P q227_U wLay q227_M ddX12_near [(16,[0]),(27,[1]),(33,[2]),(39,[3])] [] [9] 600 q227_N) = true := by decide +kernel
set_option maxHeartbeats 4000000 in
set_option maxRecDepth 100000 in
theorem q227_met {G : rfG} (h : okG G) : rf_metV G q227_M (cbV true) := by
  refine h_metVX h.1 (by decide +kernel) (by decide) h.2.2.1 (wflT h flokX12) (wcsT h csokX12) (by decide +kernel) ?_
  intro vs w0 X hv_ hr hp c
  match vs, hv_ with
  | [_, _, _], ⟨⟨_, hj0, rfl⟩, ⟨a, rfl, hi_a, _⟩, ⟨u, rfl, hi_u, _⟩, _⟩ =>
  cases List.mem_singleton.mp hj0
  have hd : ∀ n pc i len, ddX12_near[n]? = some (pc, i, len) → decode (mb q227_M) pc = .ok (i, len) := fun n pc i len h => hdk dkX12_near n pc i len h
  show hW G X q227_M w0 0 [(0, .ref (G.2.1.1 114)), (1, .int a), (2, .int u)] [] (hv w0)
  generalize hF0 : hv w0 = F at *
  obtain ⟨⟨a_, ea_, hcb⟩, hp, hvs, hQ⟩ := hp
  cases ea_
  refine h_aln c (hd 0 0 _ _ rfl) (by rfl) (hat 1 rfl ?_)
  refine h_ic c (hd 1 1 _ _ rfl) (by decide) (fun v1 e1 => hat 2 rfl ?_)
  refine h_putI c (hd 2 2 _ _ rfl) fgX12_347 gnX12_347_114 (by decide) (by decide) rfl (rf_in1 (by omega) (by omega)) (hat 5 rfl ?_)
  refine h_iln c (hd 3 5 _ _ rfl) (by rfl) (hat 6 rfl ?_)
  refine h_callSF c (M' := dM_mcan) ((dp_mcan h)) (by decide +kernel) (wlkS (lkX12_420 h) _ rfl rfl) (hd 4 6 _ _ rfl) [.int a] (rest := []) (by rfl) ⟨⟨_, rfl, rf_in_top _, trivial⟩, trivial⟩ (Nat.le_of_ble_eq_true rfl) trivial (fun rv6 F6 fr6 rr6 pp6 sm_ => hat 9 rfl ?_)
  have e_ := (sm_ rfl).symm
  subst e_
  obtain ⟨a_, x6, ea_, er_, hx6⟩ := pp6
  cases ea_; subst er_
  have hz_ : (F 114 48).toInt = 0 := by have a_ : 0 ≤ (F 114 48).toInt := (hp _ (List.mem_of_getElem? (i := 12) rfl)).1; have b_ : (F 114 48).toInt ≤ 0 := (hp _ (List.mem_of_getElem? (i := 12) rfl)).2.1; omega
  rw [hupd_id (F := F) (j := 114) (k := 48) (x := v1) (Int32.toInt_inj.mp (by omega))]
  have e1_ : x6.toInt = 1 := by rcases hx6 with h_ | h_; exact h_.1; exact absurd (hcb.mpr rfl) h_.2
  exact h_anc0 c hQ hvs (P := q227_P) ⟨wflT h flokX12, wcsT h csokX12, wlcT h lcokX12, spokX12 h, List.forall_mem_cons.mpr ⟨q203_met h, List.forall_mem_cons.mpr ⟨q181_met h, List.forall_mem_cons.mpr ⟨q205_met h, List.forall_mem_cons.mpr ⟨q206_met h, fun _ h => absurd h List.not_mem_nil⟩⟩⟩⟩, List.forall_mem_cons.mpr ⟨fun M hM => Option.some.inj (show some q203_M = some M from hM) ▸ wlkS (lkX12_334 h) q203_M rfl rfl, fun _ h => absurd h List.not_mem_nil⟩, List.forall_mem_cons.mpr ⟨fun M hM => Option.some.inj (show some q181_M = some M from hM) ▸ wlkV (lkX12_411 h) q181_M rfl rfl, List.forall_mem_cons.mpr ⟨fun M hM => Option.some.inj (show some q205_M = some M from hM) ▸ wlkV (lkX12_414 h) q205_M rfl rfl, List.forall_mem_cons.mpr ⟨fun M hM => Option.some.inj (show some q206_M = some M from hM) ▸ wlkV (lkX12_426 h) q206_M rfl rfl, fun _ h => absurd h List.not_mem_nil⟩⟩⟩, fun _ h => absurd h List.not_mem_nil, fun _ h => absurd h List.not_mem_nil⟩ dkX12_near q227_ok (by decide +kernel) (by decide +kernel) (by rfl) (by decide +kernel) hF0 hp (fun _ => ⟨⟨_, rfl, hcon e1_, trivial⟩, trivial⟩)
