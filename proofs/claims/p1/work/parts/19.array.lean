/-! ARRAYS -/
section RfArray
variable {X : rfX} {E : rfE} {cc : ByteArray} {own : String} {Ts : List Cond} {S : rfS} {C : rfC} {pc pc' : Nat} {outs : List rfO}
/-- the array classes: int, byte, boolean, references -/
def rf_tysok (tys : List (ClassId × FieldType)) : Prop := ∃ c0 c1 c2 c3 Fo, tys = [(c0, .int), (c1, .byte), (c2, .boolean), (c3, .object Fo)]
def rf_arr (Lay : List rfL) (t j : Nat) : Option (Nat × List rfR) := match Lay[j]? with
  | some (.inr (t', n, .inl tb)) => if t' == t then some (n, tb) else none
  | _ => none
theorem rf_arr_at {ad sp : Nat → Nat} {tys : List (ClassId × FieldType)} {Lay : List rfL} {ws : va_W} (hw : rf_world ad sp tys Lay ws) {t j n : Nat} {tb : List rfR} (h : rf_arr Lay t j = some (n, tb)) : ∃ (cA : ClassId) (ty : FieldType) (f : Nat → Int32), Lay[j]? = some (.inr (t, n, .inl tb)) ∧ tys[t]? = some (cA, ty) ∧ ws[j]? = some (ad j, .inl (cA, n, .inl f)) ∧ ∀ i, i < n → rf_in (tb.getD (i % tb.length) rf_top) (f i).toInt := by
  unfold rf_arr at h
  split at h
  · next t' n' tb' hl =>
    split at h
    · next ht =>
      simp only [beq_iff_eq] at ht
      subst ht
      cases h
      obtain ⟨e, he, cA, ty, f, h1, rfl, h2⟩ := hw.2 j _ hl
      exact ⟨cA, ty, f, hl, h1, he, h2⟩
    · cases h
  · cases h
/-- the ranges of the places that an index may name -/
def rf_pick (tb : List rfR) (r : rfR) : List rfR := if decide (tb.length ≤ 1) then [tb.getD 0 rf_top] else (List.range ((r.2.1 - r.1).toNat / (if r.2.2 == 0 then 1 else r.2.2) + 1)).map (fun q => tb.getD ((r.1.toNat + r.2.2 * q) % tb.length) rf_top)
theorem rf_pick_mem {tb : List rfR} {r : rfR} {x : Int} (h : rf_in r x) (h0 : 0 ≤ r.1) : tb.getD (x.toNat % tb.length) rf_top ∈ rf_pick tb r := by
  unfold rf_pick
  split
  · next hl =>
    simp only [decide_eq_true_eq] at hl
    rw [List.mem_singleton]
    match tb, hl with
    | [], _ => simp
    | [a], _ => simp [Nat.mod_one]
  · obtain ⟨a1, a2, q, hq⟩ := h
    by_cases hz : r.2.2 = 0
    · refine List.mem_map.mpr ⟨0, List.mem_range.mpr (Nat.succ_pos _), ?_⟩
      rw [hz] at hq
      have : x.toNat = r.1.toNat + r.2.2 * 0 := by simp at hq; omega
      rw [this]
    · have hp : (0 : Int) < (r.2.2 : Int) := by omega
      have hq0 : 0 ≤ q := by
        rcases Int.lt_or_le q 0 with h | h
        · have : (r.2.2 : Int) * q ≤ (r.2.2 : Int) * (-1) := Int.mul_le_mul_of_nonneg_left (by omega) (by omega)
          omega
        · exact h
      obtain ⟨u, rfl⟩ := Int.eq_ofNat_of_zero_le hq0
      have hu : (r.2.2 * u : Nat) = ((r.2.2 : Int) * (u : Int)).toNat := by rw [← Int.natCast_mul]; rfl
      have hle : r.2.2 * u ≤ (r.2.1 - r.1).toNat := by omega
      refine List.mem_map.mpr ⟨u, List.mem_range.mpr ?_, ?_⟩
      · have hb : (r.2.2 == 0) = false := by simpa using hz
        rw [hb]
        show u < (r.2.1 - r.1).toNat / r.2.2 + 1
        have := (Nat.le_div_iff_mul_le (k := r.2.2) (x := u) (y := (r.2.1 - r.1).toNat) (by omega)).mpr (by rw [Nat.mul_comm]; exact hle)
        omega
      · have : x.toNat = r.1.toNat + r.2.2 * u := by omega
        rw [this]
def rf_hulls : List rfR → Option rfR
  | [] => none
  | [a] => some a
  | a :: as => (match rf_hulls as with
    | some t => some (rf_hull a t)
    | none => none)
theorem rf_hulls_in : ∀ (l : List rfR) (t : rfR), rf_hulls l = some t → ∀ a ∈ l, ∀ x, rf_in a x → rf_in t x
  | [], t, h => by cases h
  | [a], t, h => fun b hb x hx => by
    cases h
    rw [List.mem_singleton.mp hb] at hx
    exact hx
  | a :: a2 :: as, t, h => fun b hb x hx => by
    simp only [rf_hulls] at h
    split at h
    · next t' h' =>
      cases h
      rcases List.mem_cons.mp hb with e | hb
      · subst e; exact rf_hull_l hx
      · exact rf_hull_r (rf_hulls_in (a2 :: as) t' h' b hb x hx)
    · cases h
def rf_ald (Lay : List rfL) (t pc' : Nat) (S : rfS) : Option (List rfO) := match S.2.1 with
  | .inl (r, _) :: .inr (.inl js) :: st => (match rf_jall (fun j => (match rf_arr Lay t j with
      | some (n, tb) => if decide (0 ≤ r.1) && decide (r.2.1 < n) then (match rf_hulls (rf_pick tb r) with
        | some u => some (.inl (u, none))
        | none => none) else none
      | none => none)) js with
    | some (.inl (u, _)) => some [(pc', (S.1, .inl (if decide (r.1 = r.2.1) then rf_trk Lay S.2.2 js r.1.toNat u else (u, none)) :: st, S.2.2), rf_d0)]
    | _ => none)
  | _ => none
theorem rf_ald_go {t : Nat} (h : rf_ald E.2.2.2.1 t pc' S = some outs) (hs : rf_st E S C) (k : ∀ (j n : Nat) (cA : ClassId) (ty : FieldType) (f : Nat → Int32) (i : Int32) (st : List Value), C.2.1 = .int i :: .ref (E.1 j) :: st → C.2.2[j]? = some (E.1 j, .inl (cA, n, .inl f)) → E.2.2.1[t]? = some (cA, ty) → vp_in i n → rfW X pc' (C.1, .int (f i.toNatClampNeg) :: st, C.2.2) → rfW X pc C) : rf_go X E outs pc C := by
  unfold rf_ald at h
  obtain ⟨L, sc, ws⟩ := C
  obtain ⟨SL, sst, sf⟩ := S
  have h2 := hs.1.2.2.1
  match sst, sc, h, h2 with
  | .inl (r, y) :: .inr (.inl js) :: st, v :: u :: sc, h, ⟨⟨i, hi, hri, _⟩, ⟨j, hj, ej⟩, h5⟩ =>
    subst ej; subst hi
    simp only at h
    split at h
    · next u0 y0 ha =>
      cases h
      obtain ⟨b, hb, hab⟩ := rf_jall_av (ad := E.1) (sp := E.2.1) (L := ([] : List (Nat × Value))) (ws := ([] : va_W)) js _ ha j hj
      split at hb
      · next n tb har =>
        split at hb
        · next hbd =>
          simp only [Bool.and_eq_true, decide_eq_true_eq] at hbd
          split at hb
          · next uu huu =>
            cases hb
            obtain ⟨cA, ty, f, q1, q2, q3, q4⟩ := rf_arr_at hs.2.1 har
            have b1 := hri.1
            have b2 := hri.2.1
            have hin : vp_in i n := vp_in_iff.mpr ⟨by omega, by omega⟩
            have hil : i.toInt.toNat < n := by omega
            have hcl : i.toNatClampNeg = i.toInt.toNat := rfl
            have hf := rf_hulls_in _ _ huu _ (rf_pick_mem (tb := tb) hri hbd.1) _ (q4 _ hil)
            obtain ⟨x, hx, hxr, -⟩ := hab (.int (f i.toInt.toNat)) ⟨_, rfl, hf, trivial⟩
            cases hx
            refine rf_go1 hs (sc' := .int (f i.toNatClampNeg) :: sc) ⟨?_, h5⟩ (k j n cA ty f i sc rfl q3 q2 hin)
            rw [hcl]
            split
            · next he =>
              simp only [decide_eq_true_eq] at he
              have e0 : r.1.toNat = i.toInt.toNat := by omega
              rw [e0]
              exact rf_trk_av hs.2.1 hs.1.2.2.2 hj (by simp only [rf_fld, q3, Option.bind_some, rf_cellv, if_pos hil]) hxr
            · exact ⟨_, rfl, hxr, trivial⟩
          · cases hb
        · cases hb
      · cases hb
    · cases h
  | .inl _ :: .inr (.inl _) :: _, [], _, h2 => exact h2.elim
  | .inl _ :: .inr (.inl _) :: _, [_], _, h2 => exact h2.2.elim
theorem rs_iald (F : rfFx X cc own Ts E.2.2.1) (ht : rf_tysok E.2.2.1) (hd : decode cc pc = .ok (.iaload, 1)) (h : rf_ald E.2.2.2.1 0 (pc + 1) S = some outs) (hs : rf_st E S C) : rf_go X E outs pc C :=
  rf_ald_go h hs fun j n cA ty f i st e q3 q2 hin K ls H locs hl hP hD hS => by
    obtain ⟨c0, c1, c2, c3, Fo, ht⟩ := ht
    rw [e]
    have : ty = .int := by rw [ht] at q2; simp at q2; exact q2.2.symm
    subst this
    exact va_iald F.1 F.2.1 F.2.2.2.2.2 hP j 0 q3 q2 hin hd (K ls H locs hl hP hD hS)
def rf_bald (Lay : List rfL) (pc' : Nat) (S : rfS) : Option (List rfO) := match rf_ald Lay 1 pc' S with
  | some os => some os
  | none => rf_ald Lay 2 pc' S
theorem rs_bald (F : rfFx X cc own Ts E.2.2.1) (ht : rf_tysok E.2.2.1) (hd : decode cc pc = .ok (.baload, 1)) (h : rf_bald E.2.2.2.1 (pc + 1) S = some outs) (hs : rf_st E S C) : rf_go X E outs pc C := by
  obtain ⟨c0, c1, c2, c3, Fo, ht⟩ := ht
  unfold rf_bald at h
  split at h
  · next os h1 =>
    cases h
    exact rf_ald_go h1 hs fun j n cA ty f i st e q3 q2 hin K ls H locs hl hP hD hS => by
      rw [e]
      have : ty = .byte := by rw [ht] at q2; simp at q2; exact q2.2.symm
      subst this
      exact va_bald F.1 F.2.1 F.2.2.2.2.2 hP j 1 q3 q2 hin hd (K ls H locs hl hP hD hS)
  · exact rf_ald_go h hs fun j n cA ty f i st e q3 q2 hin K ls H locs hl hP hD hS => by
      rw [e]
      have : ty = .boolean := by rw [ht] at q2; simp at q2; exact q2.2.symm
      subst this
      exact va_zald F.1 F.2.1 F.2.2.2.2.2 hP j 2 q3 q2 hin hd (K ls H locs hl hP hD hS)
/-- a store of a number into an array of the kind t; what is stored of a value in rv: tr rv -/
def rf_ast (Lay : List rfL) (ms : List (Nat × Nat)) (t : Nat) (tr : rfR → rfR) (keep : Bool) (pc' : Nat) (S : rfS) : Option (List rfO) := match S.2.1 with
  | .inl (rv, yv) :: .inl (ri, _) :: .inr (.inl js) :: st => if js.all (fun j => (match rf_arr Lay t j with
      | some (n, tb) => decide (0 ≤ ri.1) && decide (ri.2.1 < n) && (rf_pick tb ri).all (rf_inc (tr rv)) && ms.any (fun q => q.1 == j && q.2 == 0)
      | none => false)) && rf_gms ms js ri.1 ri.2.1 then some [(pc', rf_put1 Lay js ri.1 ri.2.1 (tr rv) (if keep then yv else none) st S, rf_dk js ri.1 ri.2.1 (if keep then yv else none))] else none
  | _ => none
theorem rf_mod0 {ms : List (Nat × Nat)} {j k : Nat} (h : ms.any (fun q => q.1 == j && q.2 == 0) = true) : rf_mod ms j k = true := by
  simp only [List.any_eq_true, Bool.and_eq_true, beq_iff_eq] at h
  obtain ⟨q, hq, h1, h2⟩ := h
  simp only [rf_mod, List.any_eq_true, Bool.and_eq_true, Bool.or_eq_true, beq_iff_eq]
  exact ⟨q, hq, h1, Or.inl h2⟩
theorem rf_ast_go {t : Nat} {tr : rfR → rfR} {g : Int32 → Int32} {keep : Bool} (hg : ∀ (r : rfR) (x : Int32), rf_in r x.toInt → rf_in (tr r) (g x).toInt) (hk : keep = true → ∀ x, g x = x) (h : rf_ast E.2.2.2.1 E.2.2.2.2.1 t tr keep pc' S = some outs) (hs : rf_st E S C) (k : ∀ (j n : Nat) (cA : ClassId) (ty : FieldType) (f : Nat → Int32) (i x : Int32) (st : List Value), C.2.1 = .int x :: .int i :: .ref (E.1 j) :: st → C.2.2[j]? = some (E.1 j, .inl (cA, n, .inl f)) → E.2.2.1[t]? = some (cA, ty) → vp_in i n → rfW X pc' (C.1, st, C.2.2.set j (E.1 j, .inl (cA, n, .inl (upd f i.toNatClampNeg (g x))))) → rfW X pc C) : rf_go X E outs pc C := by
  unfold rf_ast at h
  obtain ⟨L, sc, ws⟩ := C
  obtain ⟨SL, sst, sf⟩ := S
  have h2 := hs.1.2.2.1
  match sst, sc, h, h2 with
  | .inl (rv, yv) :: .inl (ri, yi) :: .inr (.inl js) :: st, v :: u :: w :: sc, h, ⟨⟨x, hx, hrx, hyx⟩, ⟨i, hi, hri, _⟩, ⟨j, hj, ej⟩, h5⟩ =>
    subst ej; subst hi; subst hx
    simp only at h
    split at h
    · next hall =>
      cases h
      simp only [Bool.and_eq_true] at hall
      obtain ⟨hall, hgm⟩ := hall
      have hq := List.all_eq_true.mp hall j hj
      cases har : rf_arr E.2.2.2.1 t j with
      | none => rw [har] at hq; cases hq
      | some q =>
        obtain ⟨n, tb⟩ := q
        rw [har] at hq
        simp only [Bool.and_eq_true, decide_eq_true_eq] at hq
        obtain ⟨⟨⟨z1, z2⟩, z3⟩, z4⟩ := hq
        obtain ⟨cA, ty, f, q1, q2, q3, q4⟩ := rf_arr_at hs.2.1 har
        have b1 := hri.1
        have b2 := hri.2.1
        have hin : vp_in i n := vp_in_iff.mpr ⟨by omega, by omega⟩
        have hil : i.toInt.toNat < n := by omega
        have hcl : i.toNatClampNeg = i.toInt.toNat := rfl
        have hgx := hg rv x hrx
        have hpk := rf_inc_in (List.all_eq_true.mp z3 _ (rf_pick_mem (tb := tb) hri z1)) hgx
        intro K
        refine k j n cA ty f i x sc rfl q3 q2 hin ?_
        rw [hcl]
        obtain ⟨g1, g2⟩ := rf_put_go (S := (SL, .inl (rv, yv) :: .inl (ri, yi) :: .inr (.inl js) :: st, sf)) (C := (L, .int x :: .int i :: .ref (E.1 j) :: sc, ws)) (k := i.toInt.toNat) (lo := ri.1) (hi := ri.2.1) (x := g x) (r := tr rv) (y := if keep then yv else none) (e' := .inl (cA, n, .inl (upd f i.toInt.toNat (g x)))) hs h5 hj (by omega) (by omega) q1 q3
          ⟨cA, ty, _, q2, rfl, fun a ha => by
            by_cases e : a = i.toInt.toNat
            · subst e; rw [pk_us]; exact hpk
            · rw [pk_un e]; exact q4 a ha⟩
          (fun a ha => by simp only [rf_cellv]; rw [pk_un ha])
          (by simp only [rf_cellv]; rw [if_pos hil, pk_us]) (rf_mod0 z4) hgm hgx (by
            cases keep with
            | false => trivial
            | true => rw [hk rfl x]; exact hyx)
        exact K _ List.mem_cons_self _ g1 g2
    · cases h
  | .inl _ :: .inl _ :: .inr (.inl _) :: _, [], _, h2 => exact h2.elim
  | .inl _ :: .inl _ :: .inr (.inl _) :: _, [_], _, h2 => exact h2.2.elim
  | .inl _ :: .inl _ :: .inr (.inl _) :: _, [_, _], _, h2 => exact h2.2.2.elim
theorem rs_iast (F : rfFx X cc own Ts E.2.2.1) (ht : rf_tysok E.2.2.1) (hd : decode cc pc = .ok (.iastore, 1)) (h : rf_ast E.2.2.2.1 E.2.2.2.2.1 0 (fun r => r) true (pc + 1) S = some outs) (hs : rf_st E S C) : rf_go X E outs pc C :=
  rf_ast_go (g := fun x => x) (fun _ _ h => h) (fun _ _ => rfl) h hs fun j n cA ty f i x st e q3 q2 hin K ls H locs hl hP hD hS => by
    obtain ⟨c0, c1, c2, c3, Fo, ht⟩ := ht
    rw [e]
    have : ty = .int := by rw [ht] at q2; simp at q2; exact q2.2.symm
    subst this
    exact va_iast F.1 F.2.1 F.2.2.2.2.2 hP hD hS j 0 q3 q2 hin hd (fun H1 locs1 hP1 hD1 hS1 => K ls H1 locs1 hl hP1 hD1 hS1)
theorem rf_nz_in (x : Int32) : rf_in (0, 1, 1) (vp_nar .boolean x).toInt := by
  have e1 : (1 : Int32).toInt = 1 := by decide +kernel
  have h := rf_and_r (x := x) (y := 1) (by rw [e1]; decide)
  have e : vp_nar .boolean x = x &&& 1 := rfl
  rw [e]
  rw [e1] at h
  exact rf_in1 h.1 h.2
def rf_bast (Lay : List rfL) (ms : List (Nat × Nat)) (pc' : Nat) (S : rfS) : Option (List rfO) := match rf_ast Lay ms 1 rf_i2b false pc' S with
  | some os => some os
  | none => rf_ast Lay ms 2 (fun _ => (0, 1, 1)) false pc' S
theorem rs_bast (F : rfFx X cc own Ts E.2.2.1) (ht : rf_tysok E.2.2.1) (hd : decode cc pc = .ok (.bastore, 1)) (h : rf_bast E.2.2.2.1 E.2.2.2.2.1 (pc + 1) S = some outs) (hs : rf_st E S C) : rf_go X E outs pc C := by
  obtain ⟨c0, c1, c2, c3, Fo, ht⟩ := ht
  unfold rf_bast at h
  split at h
  · next os h1 =>
    cases h
    exact rf_ast_go (g := vp_nar .byte) (fun r x hx => by rw [vp_nar_byte]; exact rf_i2b_in hx) (fun h => by cases h) h1 hs fun j n cA ty f i x st e q3 q2 hin K ls H locs hl hP hD hS => by
      rw [e]
      have : ty = .byte := by rw [ht] at q2; simp at q2; exact q2.2.symm
      subst this
      exact va_bast F.1 F.2.1 F.2.2.2.2.2 hP hD hS j 1 q3 q2 hin hd (fun H1 locs1 hP1 hD1 hS1 => K ls H1 locs1 hl hP1 hD1 hS1)
  · exact rf_ast_go (g := vp_nar .boolean) (fun r x _ => rf_nz_in x) (fun h => by cases h) h hs fun j n cA ty f i x st e q3 q2 hin K ls H locs hl hP hD hS => by
      rw [e]
      have : ty = .boolean := by rw [ht] at q2; simp at q2; exact q2.2.symm
      subst this
      exact va_zast F.1 F.2.1 F.2.2.2.2.2 hP hD hS j 2 q3 q2 hin hd (fun H1 locs1 hP1 hD1 hS1 => K ls H1 locs1 hl hP1 hD1 hS1)
-- lengths, arrays of references
def rf_lenof (Lay : List rfL) (j : Nat) : Option rfA := match Lay[j]? with
  | some (.inr (_, n, _)) => if decide (n < 2147483648) then some (.inl (rf_one n, none)) else none
  | _ => none
def rf_alen (Lay : List rfL) (pc' : Nat) (S : rfS) : Option (List rfO) := match S.2.1 with
  | .inr (.inl js) :: st => (match rf_jall (rf_lenof Lay) js with
    | some a => some [(pc', (S.1, rf_bare a :: st, S.2.2), rf_d0)]
    | none => none)
  | _ => none
theorem rs_alen (F : rfFx X cc own Ts E.2.2.1) (hd : decode cc pc = .ok (.arraylength, 1)) (h : rf_alen E.2.2.2.1 (pc + 1) S = some outs) (hs : rf_st E S C) : rf_go X E outs pc C := by
  unfold rf_alen at h
  obtain ⟨L, sc, ws⟩ := C
  obtain ⟨SL, sst, sf⟩ := S
  have h2 := hs.1.2.2.1
  match sst, sc, h, h2 with
  | .inr (.inl js) :: st, v :: sc, h, ⟨⟨j, hj, ej⟩, h5⟩ =>
    subst ej
    simp only at h
    split at h
    · next a ha =>
      cases h
      obtain ⟨b, hb, hab⟩ := rf_jall_av (ad := E.1) (sp := E.2.1) (L := ([] : List (Nat × Value))) (ws := ([] : va_W)) js _ ha j hj
      unfold rf_lenof at hb
      split at hb
      · next t n cn hl =>
        split at hb
        · next hn =>
          simp only [decide_eq_true_eq] at hn
          cases hb
          obtain ⟨e, he, hc⟩ := hs.2.1.2 j _ hl
          have hv := hab (.int (nI n)) ⟨nI n, rfl, by rw [nI_toInt hn]; exact rf_one_in _, trivial⟩
          refine rf_go1 hs (sc' := .int (nI n) :: sc) ⟨rf_bare_av hv, h5⟩ fun K ls H locs hll hP hD hS => ?_
          match cn, hc with
          | .inl tb, ⟨cA, ty, f, g1, g2, _⟩ =>
            subst g2
            exact va_alen F.1 F.2.1 F.2.2.2.2.2 hP j t he g1 rfl hd (K ls H locs hll hP hD hS)
          | .inr ks, ⟨cA, ty, f, g1, g2, _⟩ =>
            subst g2
            exact va_alen F.1 F.2.1 F.2.2.2.2.2 hP j t he g1 rfl hd (K ls H locs hll hP hD hS)
        · cases hb
      · cases hb
    · cases h
def rf_aald (Lay : List rfL) (pc' : Nat) (S : rfS) : Option (List rfO) := match S.2.1 with
  | .inl (r, _) :: .inr (.inl [j]) :: st => (match Lay[j]? with
    | some (.inr (t, n, .inr ks)) => if t == 3 && decide (0 ≤ r.1) && decide (r.2.1 < n) then some [(pc', (S.1, .inr (.inl ks) :: st, S.2.2), rf_d0)] else none
    | _ => none)
  | _ => none
theorem rs_aald (F : rfFx X cc own Ts E.2.2.1) (ht : rf_tysok E.2.2.1) (hd : decode cc pc = .ok (.aaload, 1)) (h : rf_aald E.2.2.2.1 (pc + 1) S = some outs) (hs : rf_st E S C) : rf_go X E outs pc C := by
  obtain ⟨c0, c1, c2, c3, Fo, ht⟩ := ht
  unfold rf_aald at h
  obtain ⟨L, sc, ws⟩ := C
  obtain ⟨SL, sst, sf⟩ := S
  have h2 := hs.1.2.2.1
  match sst, sc, h, h2 with
  | .inl (r, y) :: .inr (.inl [j]) :: st, v :: u :: sc, h, ⟨⟨i, hi, hri, _⟩, ⟨j', hj, ej⟩, h5⟩ =>
    cases List.mem_singleton.mp hj
    subst ej; subst hi
    simp only at h
    split at h
    · next t n ks hl =>
      split at h
      · next hq =>
        simp only [Bool.and_eq_true, decide_eq_true_eq, beq_iff_eq] at hq
        obtain ⟨⟨rfl, z1⟩, z2⟩ := hq
        cases h
        obtain ⟨e, he, cA, ty, g, g1, g2, g3⟩ := hs.2.1.2 j _ hl
        subst g2
        have b1 := hri.1
        have b2 := hri.2.1
        have hin : vp_in i n := vp_in_iff.mpr ⟨by omega, by omega⟩
        have hil : i.toInt.toNat < n := by omega
        obtain ⟨k, hk, hgk⟩ := g3 _ hil
        have hcl : i.toNatClampNeg = i.toInt.toNat := rfl
        have hty : ty = .object Fo := by rw [ht] at g1; simp at g1; exact g1.2.symm
        subst hty
        refine rf_go1 hs (sc' := va_rf (g i.toNatClampNeg) :: sc) ⟨⟨k, hk, by rw [hcl, hgk]; rfl⟩, h5⟩ fun K ls H locs hl hP hD hS => ?_
        exact va_aldq F.1 F.2.1 F.2.2.2.2.2 hP j 3 he g1 hin hd (K ls H locs hl hP hD hS)
      · cases h
    · cases h
  | .inl _ :: .inr (.inl [_]) :: _, [], _, h2 => exact h2.elim
  | .inl _ :: .inr (.inl [_]) :: _, [_], _, h2 => exact h2.2.elim
end RfArray
