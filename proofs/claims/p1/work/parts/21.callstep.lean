/-! THE STEP OF A CALL, and of a return -/
section RfCallStep
variable {X : rfX} {E : rfE} {cc : ByteArray} {own : String} {S : rfS} {C : rfC} {pc pc' : Nat} {outs : List rfO}
theorem rf_all_app {α β : Type} {P : α → β → Prop} : ∀ (as as' : List α) (bs bs' : List β), rf_all P as bs → rf_all P as' bs' → rf_all P (as ++ as') (bs ++ bs')
  | [], _, [], _, _, h => h
  | [], _, _ :: _, _, h, _ => h.elim
  | _ :: _, _, [], _, h, _ => h.elim
  | _ :: as, as', _ :: bs, bs', h, h' => ⟨h.1, rf_all_app as as' bs bs' h.2 h'⟩
theorem rf_all_rev {α β : Type} {P : α → β → Prop} : ∀ (as : List α) (bs : List β), rf_all P as bs → rf_all P as.reverse bs.reverse
  | [], [], _ => trivial
  | [], _ :: _, h => h.elim
  | _ :: _, [], h => h.elim
  | a :: as, b :: bs, h => by
    rw [List.reverse_cons, List.reverse_cons]
    exact rf_all_app _ _ _ _ (rf_all_rev as bs h.2) ⟨h.1, trivial⟩
theorem rf_all_split {α β : Type} {P : α → β → Prop} : ∀ (n : Nat) (as : List α) (bs : List β), rf_all P as bs → rf_all P (as.take n) (bs.take n) ∧ rf_all P (as.drop n) (bs.drop n)
  | 0, as, bs, h => ⟨by simp [rf_all], by simpa using h⟩
  | n + 1, [], [], _ => ⟨trivial, trivial⟩
  | n + 1, [], _ :: _, h => h.elim
  | n + 1, _ :: _, [], h => h.elim
  | n + 1, a :: as, b :: bs, h => by
    obtain ⟨h1, h2⟩ := rf_all_split n as bs h.2
    exact ⟨⟨h.1, h1⟩, by simpa using h2⟩
def rf_cat (a : rfA) : Nat := match a with
  | .inr (.inr 0) => 2
  | _ => 1
theorem rf_cat_av {L : List (Nat × Value)} {ws : va_W} {a : rfA} {v : Value} (ha : rf_av E.1 E.2.1 L ws a v) : v.category = rf_cat a := by
  match a, ha with
  | .inl (r, y), ⟨x, h1, _⟩ => subst h1; rfl
  | .inr (.inl js), ⟨j, _, h1⟩ => subst h1; rfl
  | .inr (.inr 0), ⟨x, h1⟩ => subst h1; rfl
  | .inr (.inr (n + 1)), ha => simp only [rf_av] at ha; subst ha; exact rf_spv_cat _ _
theorem rf_cats {L : List (Nat × Value)} {ws : va_W} : ∀ (as : List rfA) (vs : List Value), rf_all (rf_av E.1 E.2.1 L ws) as vs → (vs.map fun v => v.category).sum = (as.map rf_cat).sum
  | [], [], _ => rfl
  | [], _ :: _, h => h.elim
  | _ :: _, [], h => h.elim
  | a :: as, v :: vs, h => by simp only [List.map_cons, List.sum_cons]; rw [rf_cat_av h.1, rf_cats as vs h.2]
/-- no state is so -/
def rf_dead (S : rfS) : Bool := S.1.any (fun q => (match q.2 with
    | .inl (r, _) => decide (r.2.1 < r.1)
    | _ => false)) || S.2.2.any (fun q => decide (q.2.1.2.1 < q.2.1.1))
theorem rf_dead_no {ad sp : Nat → Nat} {w0 : va_W} (hs : rf_ok ad sp w0 S C) : rf_dead S = false := by
  cases hd : rf_dead S with
  | false => rfl
  | true =>
    exfalso
    unfold rf_dead at hd
    simp only [Bool.or_eq_true, List.any_eq_true] at hd
    rcases hd with ⟨q, hq, h⟩ | ⟨q, hq, h⟩
    · obtain ⟨v, h1, h2⟩ := hs.2.1 q hq
      split at h
      · next r y e =>
        rw [e] at h2
        obtain ⟨x, -, ⟨a, b, -⟩, -⟩ := h2
        simp only [decide_eq_true_eq] at h
        omega
      · cases h
    · obtain ⟨x, -, ⟨a, b, -⟩, -⟩ := hs.2.2.2 q hq
      simp only [decide_eq_true_eq] at h
      omega
def rf_cp (M : rfM) (v : rfV) : Bool := match v with
  | .inr q => rf_mod (mM M) q.1 q.2
  | .inl _ => false
def rf_newf (Lay : List rfL) (fs : List rfF) (q : rfF) : rfF := (q.1, match q.2.2 with
  | none => (q.2.1, none)
  | some (g, a, b) => (match rf_fget Lay fs g.1 g.2 with
    | some (r, rl) => (rf_meet q.2.1 (r.1 + a, r.2.1 + b, 1), match rl with
      | some (h, c, d) => some (h, rf_satl (c + a), rf_satu (d + b))
      | none => none)
    | none => (q.2.1, none)))
/-- a slot that the method doesn't write is what it was -/
def rf_um (M : rfM) (q : rfF) : rfF := if rf_mod (mM M) q.1.1 q.1.2 then q else (q.1, q.2.1, some (q.1, 0, 0))
theorem rf_um_ok {M : rfM} {ws ws' : va_W} (hsm : rf_same (mM M) ws ws') {q : rfF} (h : rf_fok ws ws' q) : rf_fok ws ws' (rf_um M q) := by
  unfold rf_um
  split
  · exact h
  · next hm =>
    obtain ⟨x, hx, hr, -⟩ := h
    refine ⟨x, hx, hr, ?_⟩
    have e := hsm q.1.1 q.1.2 (by simpa using hm)
    rw [hx] at e
    simp only [← e, rf_num]
    omega
def rf_arg1 (Lay : List rfL) (p : rfV → Bool) (as : List rfA) (T : rfS) (q : Nat × Int × Int) : rfS := match as[q.1]? with
  | some a => (match rf_kill p a with
    | .inl (_, y) => rf_refv Lay T y (q.2.1, q.2.2, 1)
    | _ => T)
  | none => T
def rf_cas (Lay : List rfL) (M : rfM) (k : rfK) (as rest : List rfA) (S : rfS) : rfS :=
  ((k.2.1.foldl (rf_arg1 Lay (rf_cp M) as) (rf_drop (rf_cp M) rest S)).1, (match k.1 with
    | some a => [rf_bare a]
    | none => []) ++ (k.2.1.foldl (rf_arg1 Lay (rf_cp M) as) (rf_drop (rf_cp M) rest S)).2.1, (k.2.2.map (rf_um M)).map (rf_newf Lay S.2.2) ++ (k.2.1.foldl (rf_arg1 Lay (rf_cp M) as) (rf_drop (rf_cp M) rest S)).2.2)
def rf_cd (M : rfM) (k : rfK) : rfD := fun v => match v with
  | .inl _ => none
  | .inr q => if rf_mod (mM M) q.1 q.2 then some (match k.2.2.find? (fun u => u.1.1 == q.1 && u.1.2 == q.2) with
    | some u => (match u.2.2 with
      | some (g, a, b) => if g.1 == q.1 && g.2 == q.2 then some (a, b) else none
      | none => none)
    | none => none) else none
theorem rf_args_ok {ad sp : Nat → Nat} {tys : List (ClassId × FieldType)} {Lay : List rfL} {w0 : va_W} {L : List (Nat × Value)} {ws : va_W} {as : List rfA} {vs : List Value} {p : rfV → Bool} {C' : rfC} (hw : rf_world ad sp tys Lay C'.2.2) (hv : ∀ v, p v = false → rf_val C'.1 C'.2.2 v = rf_val L ws v) (ha : rf_all (rf_av ad sp L ws) as vs) : ∀ (qs : List (Nat × Int × Int)) (T : rfS), (∀ q ∈ qs, ∃ x : Int32, vs[q.1]? = some (.int x) ∧ q.2.1 ≤ x.toInt ∧ x.toInt ≤ q.2.2) → rf_ok ad sp w0 T C' → rf_ok ad sp w0 (qs.foldl (rf_arg1 Lay p as) T) C'
  | [], T, _, h => h
  | q :: qs, T, hq, h => by
    refine rf_args_ok hw hv ha qs _ (fun u hu => hq u (List.mem_cons_of_mem _ hu)) ?_
    obtain ⟨x, hx, h1, h2⟩ := hq q List.mem_cons_self
    unfold rf_arg1
    split
    · next a hia =>
      obtain ⟨v, hv1, hv2⟩ := rf_all_get _ _ ha q.1 a hia
      cases hx.symm.trans hv1
      have hk := rf_kill_av (p := p) hv hv2
      split
      · next r y e =>
        rw [e] at hk
        obtain ⟨z, hz, hz1, hz2⟩ := hk
        cases hz
        exact rf_refv_ok hw h hz2 (rf_in1 h1 h2)
      · exact h
    · exact h
theorem rf_newf_ok {ad sp : Nat → Nat} {tys : List (ClassId × FieldType)} {Lay : List rfL} {w0 ws ws' : va_W} (hw : rf_world ad sp tys Lay ws) {fs : List rfF} (hf : ∀ u ∈ fs, rf_fok w0 ws u) {q : rfF} (hq : rf_fok ws ws' q) : rf_fok w0 ws' (rf_newf Lay fs q) := by
  obtain ⟨x, hx, hr, hl⟩ := hq
  unfold rf_newf
  refine ⟨x, hx, ?_, ?_⟩
  · simp only
    split
    · exact hr
    · next g a b e =>
      rw [e] at hl
      simp only at hl
      split
      · next r rl hg =>
        obtain ⟨z, hz, hz1, -⟩ := rf_fget_ok hw hf hg
        simp only at hz
        rw [hz] at hl
        simp only [rf_num] at hl
        have b1 : r.1 ≤ z.toInt := hz1.1
        have b2 : z.toInt ≤ r.2.1 := hz1.2.1
        exact rf_meet_in hr (by show r.1 + a ≤ _; omega) (by show _ ≤ r.2.1 + b; omega)
      · exact hr
  · simp only
    split
    · trivial
    · next g' a' b' e' =>
      split at e'
      · cases e'
      · next g a b e =>
        rw [e] at hl
        simp only at hl
        split at e'
        · next r rl hg =>
          obtain ⟨z, hz, hz1, hz2⟩ := rf_fget_ok hw hf hg
          simp only at hz hz2 e'
          rw [hz] at hl
          simp only [rf_num] at hl
          split at e'
          · next h c d =>
            cases e'
            exact rf_sat_ok (by omega)
          · cases e'
        · cases e'
/-- behind a call: the case k's state holds -/
theorem rf_cas_ok {G : rfG} (hX : rf_in_G X E G) {M : rfM} {k : rfK} {as rest : List rfA} {vs sr : List Value} {ws' : va_W} {rv : Option Value} (hs : rf_st E S C) (hm : ∀ j k, rf_mod (mM M) j k = true → rf_mod E.2.2.2.2.1 j k = true) (ha : rf_all (rf_av E.1 E.2.1 C.1 C.2.2) as vs) (hr : rf_all (rf_av E.1 E.2.1 C.1 C.2.2) rest sr) (hw : rf_world G.2.1.1 G.2.1.2.1 G.2.1.2.2.1 G.2.1.2.2.2 ws') (hsm : rf_same (mM M) C.2.2 ws') (hk : rf_kok G k vs C.2.2 ws' rv) :
    rf_st E (rf_cas E.2.2.2.1 M k as rest S) (C.1, rv.toList ++ sr, ws') ∧ rf_dl (rf_cd M k) C (C.1, rv.toList ++ sr, ws') := by
  obtain ⟨e1, e2, e3, e4, e5, e6, e7, e8, e9⟩ := hX
  rw [← e5, ← e6, ← e7, ← e8] at hw
  obtain ⟨k1, k2, k3⟩ := hk
  rw [← e5, ← e6] at k1
  have hfl : ∀ q, rf_cp M (.inr q) = false → rf_fld ws' q.1 q.2 = rf_fld C.2.2 q.1 q.2 := fun q hq => hsm q.1 q.2 hq
  have h0 := rf_drop_ok (p := rf_cp M) (ws' := ws') hs.1 hr (fun _ => rfl) hfl
  have hv : ∀ v, rf_cp M v = false → rf_val C.1 ws' v = rf_val C.1 C.2.2 v := by
    intro v hp
    match v with
    | .inl i => rfl
    | .inr q => simp only [rf_val]; rw [hfl q hp]
  have h1 := rf_args_ok (C' := (C.1, sr, ws')) (p := rf_cp M) hw hv ha k.2.1 _ k2 h0
  refine ⟨⟨⟨h1.1, h1.2.1, ?_, ?_⟩, hw, ?_⟩, ?_⟩
  · refine rf_all_app _ _ _ _ ?_ h1.2.2.1
    obtain ⟨kr, k0⟩ := k
    match kr, rv, k1 with
    | none, none, _ => trivial
    | some a, some v, k1 => exact ⟨rf_bare_av k1, trivial⟩
  · intro u hu
    rcases List.mem_append.mp hu with hu | hu
    · obtain ⟨q, hq, rfl⟩ := List.mem_map.mp hu
      obtain ⟨q0, hq0, rfl⟩ := List.mem_map.mp hq
      exact rf_newf_ok hs.2.1 hs.1.2.2.2 (rf_um_ok hsm (k3 q0 hq0))
    · exact h1.2.2.2 u hu
  · intro j i hji
    rw [hsm j i (by cases hq : rf_mod (mM M) j i with
      | false => rfl
      | true => rw [hm j i hq] at hji; cases hji)]
    exact hs.2.2 j i hji
  · intro v
    match v with
    | .inl i => rfl
    | .inr q =>
      simp only [rf_cd]
      by_cases hq : rf_mod (mM M) q.1 q.2 = true
      · simp only [hq, if_true]
        cases hf : k.2.2.find? (fun u => u.1.1 == q.1 && u.1.2 == q.2) with
        | none => trivial
        | some u =>
          have h2 := k3 u (List.mem_of_find?_eq_some hf)
          have h3 := List.find?_some hf
          simp only [Bool.and_eq_true, beq_iff_eq] at h3
          obtain ⟨x, hx, -, hl⟩ := h2
          rw [h3.1, h3.2] at hx
          simp only
          split
          · next e => cases e
          · trivial
          · next a b e =>
            simp only [Option.some.injEq] at e
            split at e
            · next g a' b' eu =>
              rw [eu] at hl
              split at e
              · next eg =>
                simp only [Bool.and_eq_true, beq_iff_eq] at eg
                cases e
                simp only at hl
                rw [eg.1, eg.2] at hl
                simp only [rf_val, hx, rf_num] at hl ⊢
                exact hl
              · cases e
            · cases e
      · simp only [hq]
        show rf_num (rf_fld ws' q.1 q.2) = rf_num (rf_fld C.2.2 q.1 q.2)
        rw [hsm q.1 q.2 (by simpa using hq)]
def rf_msub (as ms : List (Nat × Nat)) : Bool := as.all (fun q => ms.any (fun u => u.1 == q.1 && (u.2 == 0 || u.2 == q.2)))
theorem rf_msub_ok {as ms : List (Nat × Nat)} (h : rf_msub as ms = true) (j k : Nat) (hk : rf_mod as j k = true) : rf_mod ms j k = true := by
  simp only [rf_mod, List.any_eq_true, Bool.and_eq_true, Bool.or_eq_true, beq_iff_eq] at hk ⊢
  obtain ⟨q, hq, h1, h2⟩ := hk
  have h3 := List.all_eq_true.mp h q hq
  simp only [List.any_eq_true, Bool.and_eq_true, Bool.or_eq_true, beq_iff_eq] at h3
  obtain ⟨u, hu, h4, h5⟩ := h3
  refine ⟨u, hu, h4.trans h1, ?_⟩
  rcases h5 with h5 | h5
  · exact Or.inl h5
  · rw [h5]; exact h2
/-- can M be called here: its arguments lie on the stack, what it asks of slots holds, it writes no more than may be written, there is room -/
def rf_can (Lay : List rfL) (ms : List (Nat × Nat)) (fr lo : Nat) (M : rfM) (S : rfS) : Bool := decide ((mA M).length ≤ S.2.1.length) && rf_stinc ((S.2.1.take (mA M).length).reverse.map rf_bare) (mA M) && (mP M).all (fun q => rf_finc Lay S.2.2 (q.1, q.2.1, none)) && rf_msub (mM M) ms && decide (((S.2.1.drop (mA M).length).map rf_cat).sum ≤ 8) && (decide (M.2.1.1 + 1 ≤ fr) && decide (8 + (mL M + 11) + M.2.1.2 ≤ lo))
def rf_couts (Lay : List rfL) (pc' : Nat) (M : rfM) (S : rfS) : List rfO := (mK M).filterMap (fun k => if rf_dead (rf_cas Lay M k (S.2.1.take (mA M).length).reverse (S.2.1.drop (mA M).length) S) then none else some (pc', rf_cas Lay M k (S.2.1.take (mA M).length).reverse (S.2.1.drop (mA M).length) S, rf_cd M k))
theorem rf_couts_go {G : rfG} (hX : rf_in_G X E G) {M : rfM} {vs sr : List Value} {ws' : va_W} {rv : Option Value} (hs : rf_st E S C) (hm : rf_msub (mM M) E.2.2.2.2.1 = true) (ha : rf_all (rf_av E.1 E.2.1 C.1 C.2.2) (S.2.1.take (mA M).length).reverse vs) (hr : rf_all (rf_av E.1 E.2.1 C.1 C.2.2) (S.2.1.drop (mA M).length) sr) (hp : rf_post G M vs C.2.2 ws' rv) (K : ∀ o ∈ rf_couts E.2.2.2.1 pc' M S, ∀ C', rf_st E o.2.1 C' → rf_dl o.2.2 C C' → rfW X o.1 C') : rfW X pc' (C.1, rv.toList ++ sr, ws') := by
  obtain ⟨hw, hsm, k, hk, hkk⟩ := hp
  obtain ⟨h1, h2⟩ := rf_cas_ok hX (M := M) hs (rf_msub_ok hm) ha hr hw hsm hkk
  refine K (pc', rf_cas E.2.2.2.1 M k (S.2.1.take (mA M).length).reverse (S.2.1.drop (mA M).length) S, rf_cd M k) (List.mem_filterMap.mpr ⟨k, hk, ?_⟩) _ h1 h2
  rw [rf_dead_no h1.1]
  rfl
theorem rf_can_at {G : rfG} (hX : rf_in_G X E G) {M : rfM} {fr lo : Nat} (h : rf_can E.2.2.2.1 E.2.2.2.2.1 fr lo M S = true) (hs : rf_st E S C) : ∃ vs sr : List Value, C.2.1 = vs.reverse ++ sr ∧ rf_all (rf_av E.1 E.2.1 C.1 C.2.2) (S.2.1.take (mA M).length).reverse vs ∧ rf_all (rf_av E.1 E.2.1 C.1 C.2.2) (S.2.1.drop (mA M).length) sr ∧ rf_all (rf_av G.2.1.1 G.2.1.2.1 [] []) (mA M) vs ∧ (∀ q ∈ mP M, ∃ x : Int32, rf_fld C.2.2 q.1.1 q.1.2 = some (.int x) ∧ rf_in q.2.1 x.toInt) ∧ (sr.map fun v => v.category).sum ≤ 8 := by
  simp only [rf_can, Bool.and_eq_true, decide_eq_true_eq] at h
  obtain ⟨⟨⟨⟨⟨h1, h2⟩, h3⟩, h4⟩, h5⟩, h6⟩ := h
  obtain ⟨s1, s2⟩ := rf_all_split (mA M).length _ _ hs.1.2.2.1
  have s3 := rf_all_rev _ _ s1
  refine ⟨(C.2.1.take (mA M).length).reverse, C.2.1.drop (mA M).length, by simp, s3, s2, ?_, ?_, by rw [rf_cats _ _ s2]; exact h5⟩
  · have hX2 := hX
    obtain ⟨e1, e2, e3, e4, e5, e6, e7, e8, e9⟩ := hX2
    rw [← e5, ← e6]
    exact rf_stinc_ok _ _ _ h2 (rf_all_map (fun a b h => rf_bare_av h) _ _ s3)
  · intro q hq
    obtain ⟨x, hx, hr, -⟩ := rf_finc_ok hs.2.1 (List.all_eq_true.mp h3 q hq) hs.1.2.2.2
    exact ⟨x, hx, hr⟩
def rf_invS (Lay : List rfL) (ms : List (Nat × Nat)) (fr lo pc' : Nat) (M : rfM) (S : rfS) : Option (List rfO) := if rf_can Lay ms fr lo M S then some (rf_couts Lay pc' M S) else none
theorem rs_invS {G : rfG} (hG : rf_Gok G) (hX : rf_in_G X E G) (F : rfFx X cc own G.2.2.1 E.2.2.1) {M : rfM} (hM : rf_met G M) {i : Nat} (hl : rf_linkS G own i M) (hd : decode cc pc = .ok (.invokestatic i, 3)) (h : rf_invS E.2.2.2.1 E.2.2.2.2.1 (xR X).frames (xR X).locals (pc + 3) M S = some outs) (hs : rf_st E S C) : rf_go X E outs pc C := by
  unfold rf_invS at h
  split at h
  · next hc =>
    cases h
    obtain ⟨vs, sr, e, a1, a2, a3, a4, a5⟩ := rf_can_at hX hc hs
    simp only [rf_can, Bool.and_eq_true, decide_eq_true_eq] at hc
    intro K
    have hw := hs.2.1
    obtain ⟨e1, e2, e3, e4, e5, e6, e7, e8, e9⟩ := id hX
    rw [e5, e6, e7, e8] at hw
    have := rf_runS hG hX F hM hl hd ⟨hc.2.1, hc.2.2⟩ (L := C.1) (rest := sr) a3 hw a4 a5 (fun rv ws' hp => rf_couts_go hX hs hc.1.1.2 a1 a2 hp K)
    rw [← e] at this
    exact this
  · cases h
def rf_isc (Lay : List rfL) (ci : Nat) (a : rfA) : Bool := match a with
  | .inr (.inl js) => !(ci == 1000) && js.all (fun j => (match Lay[j]? with
    | some (.inl (c', _)) => c' == ci
    | _ => false))
  | .inr (.inr (n + 1)) => ci == 1000 && (n == 1 || n == 2)
  | _ => false
def rf_isc1 (Lay : List rfL) (ci : Nat) (as : List rfA) : Bool := match as with
  | a :: _ => rf_isc Lay ci a
  | [] => false
def rf_invV (Lay : List rfL) (ms : List (Nat × Nat)) (fr lo pc' ci : Nat) (M : rfM) (S : rfS) : Option (List rfO) := if rf_can Lay ms fr lo M S && rf_isc1 Lay ci (mA M) then some (rf_couts Lay pc' M S) else none
theorem rs_invV {G : rfG} (hG : rf_Gok G) (hX : rf_in_G X E G) (F : rfFx X cc own G.2.2.1 E.2.2.1) {M : rfM} (hM : rf_met G M) {i ci : Nat} (hl : rf_linkV G own i ci M) (hd : decode cc pc = .ok (.invokevirtual i, 3)) (h : rf_invV E.2.2.2.1 E.2.2.2.2.1 (xR X).frames (xR X).locals (pc + 3) ci M S = some outs) (hs : rf_st E S C) : rf_go X E outs pc C := by
  unfold rf_invV at h
  split at h
  · next hc =>
    cases h
    simp only [Bool.and_eq_true] at hc
    obtain ⟨hc, hci⟩ := hc
    obtain ⟨vs, sr, e, a1, a2, a3, a4, a5⟩ := rf_can_at hX hc hs
    simp only [rf_can, Bool.and_eq_true, decide_eq_true_eq] at hc
    intro K
    have hw := hs.2.1
    obtain ⟨e1, e2, e3, e4, e5, e6, e7, e8, e9⟩ := id hX
    rw [e5, e6, e7, e8] at hw
    unfold rf_isc1 at hci
    split at hci
    · next a as hA =>
      match vs, a3 with
      | [], a3 => rw [hA] at a3; exact a3.elim
      | v :: vs, a3 =>
        have a3' := a3
        rw [hA] at a3'
        unfold rf_isc at hci
        split at hci
        · next js =>
          obtain ⟨⟨j, hj, hv⟩, -⟩ := a3'
          subst hv
          simp only [Bool.and_eq_true] at hci
          have hj2 := List.all_eq_true.mp hci.2 j hj
          split at hj2
          · next c' fs hL =>
            simp only [beq_iff_eq] at hj2
            subst hj2
            rw [e8] at hL
            obtain ⟨en, hen, vs2, rfl, -⟩ := hw.2 j _ hL
            have hrc : ∀ (H : Heap) (locs : List Loc), va_P (xD X) (xk X) C.2.2 H → va_S (xA X) (xs X).heap H locs → ∃ cell : Cell, H[G.2.1.1 j]? = some cell ∧ cell.vm.isStatics = false ∧ (xs X).vm.findClass (my M).cls = some cell.cls := by
              intro H locs hP hS
              rcases hl.2.2.2 with ⟨-, T, N, l9⟩ | ⟨l9, -⟩
              · exact va_recv F.2.2.2.2.2 hP (by rw [e3]; exact l9) hen
              · exfalso
                have hc1 := hci.1
                simp [l9] at hc1
            have := rf_runV hG hX F hM hl hd ⟨hc.2.1, hc.2.2⟩ (L := C.1) (rest := sr) hrc a3 hw a4 a5 (fun rv ws' hp => rf_couts_go hX hs hc.1.1.2 a1 a2 hp K)
            have e' : C.2.1 = vs.reverse ++ .ref (G.2.1.1 j) :: sr := by rw [e]; simp
            rw [← e'] at this
            exact this
          · cases hj2
        · next n =>
          obtain ⟨hv, -⟩ := a3'
          simp only [Bool.and_eq_true, Bool.or_eq_true, beq_iff_eq] at hci
          have hv' : v = .ref (G.2.1.2.1 n) := (show v = rf_spv G.2.1.2.1 n from hv).trans (rf_spv_ref (by omega))
          subst hv'
          have hrc : ∀ (H : Heap) (locs : List Loc), va_P (xD X) (xk X) C.2.2 H → va_S (xA X) (xs X).heap H locs → ∃ cell : Cell, H[G.2.1.2.1 n]? = some cell ∧ cell.vm.isStatics = false ∧ (xs X).vm.findClass (my M).cls = some cell.cls := by
            intro H locs hP hS
            rcases hl.2.2.2 with ⟨l9, -⟩ | ⟨-, l10, l11⟩
            · exact absurd hci.1 l9
            · rw [l10]
              rw [e4] at hS
              obtain ⟨cell, h1, h2, h3, -⟩ := (l11 _ e9 n hci.2).kept hS.2.1
              exact ⟨cell, h1, h2, h3⟩
          have := rf_runV hG hX F hM hl hd ⟨hc.2.1, hc.2.2⟩ (L := C.1) (rest := sr) hrc a3 hw a4 a5 (fun rv ws' hp => rf_couts_go hX hs hc.1.1.2 a1 a2 hp K)
          have e' : C.2.1 = vs.reverse ++ .ref (G.2.1.2.1 n) :: sr := by rw [e]; simp
          rw [← e'] at this
          exact this
        · cases hci
    · cases hci
  · cases h
end RfCallStep
