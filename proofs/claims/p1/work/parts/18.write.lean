/-! WRITES to fields; arrays -/
section RfWrite
variable {X : rfX} {E : rfE} {cc : ByteArray} {own : String} {Ts : List Cond} {S : rfS} {C : rfC} {pc pc' : Nat} {outs : List rfO}
/-- slots lo .. hi of the cells js -/
def rf_pk0 (js : List Nat) (lo hi : Int) (v : rfV) : Bool := match v with
  | .inr q => js.any (fun j => j == q.1) && (decide (lo ≤ (q.2 : Int)) && decide ((q.2 : Int) ≤ hi))
  | .inl _ => false
/-- and the ghosts that hang on them -/
def rf_pk (js : List Nat) (lo hi : Int) (v : rfV) : Bool := match v with
  | .inr q => rf_pk0 js lo hi (.inr q) || rf_gpk js lo hi q
  | .inl _ => false
theorem rf_gms_at {ms : List (Nat × Nat)} {js : List Nat} {lo hi : Int} {j k : Nat} (h : rf_gms ms js lo hi = true) (hj : j ∈ js) (h1 : lo ≤ (k : Int)) (h2 : (k : Int) ≤ hi) : ∀ u ∈ rf_gsup, u.2.1 = j → ∀ i, (u.2.2 = 0 ∨ u.2.2 = i + 1) → (i == k) = true → rf_mod ms 998 u.1 = true := by
  intro u hu e i hii he
  have h3 := List.all_eq_true.mp h u hu
  simp only [Bool.or_eq_true, Bool.not_eq_true'] at h3
  rcases h3 with h3 | h3
  · exfalso
    simp only [beq_iff_eq] at he
    have : rf_gtouch js lo hi u = true := by
      simp only [rf_gtouch, Bool.and_eq_true, Bool.or_eq_true, List.any_eq_true, beq_iff_eq, decide_eq_true_eq]
      refine ⟨⟨j, hj, e.symm⟩, ?_⟩
      rcases hii with hii | hii
      · exact Or.inl hii
      · exact Or.inr ⟨by omega, by omega⟩
    rw [this] at h3
    cases h3
  · exact h3
theorem rf_pk_no {js : List Nat} {lo hi : Int} {j k : Nat} {q : Nat × Nat} (hq : rf_pk js lo hi (.inr q) = false) (hj : j ∈ js) (h1 : lo ≤ (k : Int)) (h2 : (k : Int) ≤ hi) : ¬ (q.1 = j ∧ (q.2 == k) = true) ∧ (q.1 = 998 → ∀ u ∈ rf_gsup, u.1 = q.2 → u.2.1 = j → ∀ i, (u.2.2 = 0 ∨ u.2.2 = i + 1) → (i == k) = false) := by
  simp only [rf_pk, Bool.or_eq_false_iff] at hq
  refine ⟨fun hh => ?_, fun h9 u hu e1 e2 i hii => ?_⟩
  · obtain ⟨hh1, hh2⟩ := hh
    simp only [beq_iff_eq] at hh2
    have hq1 := hq.1
    simp only [rf_pk0, Bool.and_eq_false_iff, decide_eq_false_iff_not, List.any_eq_false, beq_iff_eq] at hq1
    rcases hq1 with hq1 | hq1
    · exact hq1 j hj hh1.symm
    · rw [hh2] at hq1
      omega
  · by_cases he : i = k
    · exfalso
      have hq2 := hq.2
      simp only [rf_gpk, Bool.and_eq_false_iff, List.any_eq_false, beq_eq_false_iff_ne] at hq2
      rcases hq2 with hq2 | hq2
      · exact hq2 h9
      · refine hq2 u hu ?_
        simp only [rf_gtouch, Bool.and_eq_true, Bool.or_eq_true, List.any_eq_true, beq_iff_eq, decide_eq_true_eq]
        refine ⟨e1, ⟨j, hj, e2.symm⟩, ?_⟩
        rcases hii with hii | hii
        · exact Or.inl hii
        · exact Or.inr ⟨by omega, by omega⟩
    · simpa using he
/-- how the written slot stands to what it was -/
def rf_relp (js : List Nat) (k : Nat) (y : rfY) : Option (Int × Int) := match js, y with
  | [j], some (.inr q, some n) => if q.1 == j && q.2 == k then some (n, n) else none
  | [j], some (.inr q, none) => if q.1 == j && q.2 == k then some (-4294967296, -1) else none
  | _, _ => none
theorem rf_relp_ok {L : List (Nat × Value)} {ws : va_W} {js : List Nat} {j k : Nat} {y : rfY} {x a b : Int} (hj : j ∈ js) (hy : rf_sy L ws y x) (h : rf_relp js k y = some (a, b)) : rf_val L ws (.inr (j, k)) + a ≤ x ∧ x ≤ rf_val L ws (.inr (j, k)) + b := by
  unfold rf_relp at h
  split at h
  · next j' q n =>
    cases List.mem_singleton.mp hj
    split at h
    · next hq =>
      simp only [Bool.and_eq_true, beq_iff_eq] at hq
      obtain ⟨q1, q2⟩ := q
      obtain ⟨rfl, rfl⟩ := hq
      cases h
      simp only [rf_sy] at hy
      simp only
      omega
    · cases h
  · next j' q =>
    cases List.mem_singleton.mp hj
    split at h
    · next hq =>
      simp only [Bool.and_eq_true, beq_iff_eq] at hq
      obtain ⟨q1, q2⟩ := q
      obtain ⟨rfl, rfl⟩ := hq
      cases h
      simp only [rf_sy] at hy
      have := rf_val_32 L ws (.inr (q1, q2))
      simp only
      omega
    · cases h
  · cases h
def rf_satu (b : Int) : Int := if decide (4294967296 < b) then 4294967296 else b
def rf_satl (a : Int) : Int := if decide (a < -4294967296) then -4294967296 else a
theorem rf_num32 (o : Option Value) : -2147483648 ≤ rf_num o ∧ rf_num o ≤ 2147483647 := by
  unfold rf_num
  split
  · exact ⟨rf_ge32 _, rf_lt32 _⟩
  · decide
theorem rf_sat_ok {o : Option Value} {x : Int32} {a b : Int} (h : rf_num o + a ≤ x.toInt ∧ x.toInt ≤ rf_num o + b) : rf_num o + rf_satl a ≤ x.toInt ∧ x.toInt ≤ rf_num o + rf_satu b := by
  have h1 := rf_num32 o
  have h2 := rf_ge32 x
  have h3 := rf_lt32 x
  unfold rf_satl rf_satu
  constructor <;> split <;> rename_i q <;> simp only [decide_eq_true_eq] at q <;> omega
def rf_newrel (Lay : List rfL) (fs : List rfF) (y : rfY) : rfRl := match y with
  | some (.inr g, some n) => (match rf_fget Lay fs g.1 g.2 with
    | some (_, some (h, c, d)) => some (h, rf_satl (c + n), rf_satu (d + n))
    | _ => none)
  | _ => none
theorem rf_newrel_ok {ad sp : Nat → Nat} {tys : List (ClassId × FieldType)} {Lay : List rfL} {w0 ws : va_W} {L : List (Nat × Value)} (hw : rf_world ad sp tys Lay ws) {fs : List rfF} (hf : ∀ u ∈ fs, rf_fok w0 ws u) {y : rfY} {x : Int32} (hy : rf_sy L ws y x.toInt) {g : Nat × Nat} {a b : Int} (h : rf_newrel Lay fs y = some (g, a, b)) : rf_num (rf_fld w0 g.1 g.2) + a ≤ x.toInt ∧ x.toInt ≤ rf_num (rf_fld w0 g.1 g.2) + b := by
  unfold rf_newrel at h
  split at h
  · next g' n =>
    split at h
    · next q h' c d hq =>
      cases h
      obtain ⟨z, z1, z2, z3⟩ := rf_fget_ok hw hf hq
      simp only at z1 z3
      simp only [rf_sy, rf_val, z1] at hy
      have e : rf_num (some (Value.int z)) = z.toInt := rfl
      rw [e] at hy
      exact rf_sat_ok (by omega)
    · cases h
  · cases h
/-- the state behind a write of a number: r, y at slot k of the cells js; lo .. hi: where it may have been written -/
def rf_put1 (Lay : List rfL) (js : List Nat) (lo hi : Int) (r : rfR) (y : rfY) (st : List rfA) (S : rfS) : rfS := match js with
  | [j] => if decide (lo = hi) then ((rf_drop (rf_pk js lo hi) st S).1, (rf_drop (rf_pk js lo hi) st S).2.1, ((j, lo.toNat), r, rf_newrel Lay S.2.2 y) :: (rf_drop (rf_pk js lo hi) st S).2.2) else rf_drop (rf_pk js lo hi) st S
  | _ => rf_drop (rf_pk js lo hi) st S
def rf_dk (js : List Nat) (lo hi : Int) (y : rfY) : rfD := fun v => if rf_pk js lo hi v then some (if decide (lo = hi) && rf_pk0 js lo hi v then rf_relp js lo.toNat y else none) else none
/-- the world has been written at slot k of cell j -/
theorem rf_put_go {S : rfS} {C : rfC} {st : List rfA} {sc : List Value} {js : List Nat} {lo hi : Int} {j k : Nat} {e e' : va_E} {k0 : rfL} {r : rfR} {y : rfY} {x : Int32} (hs : rf_st E S C) (hst : rf_all (rf_av E.1 E.2.1 C.1 C.2.2) st sc) (hj : j ∈ js) (h1 : lo ≤ (k : Int)) (h2 : (k : Int) ≤ hi) (hl : E.2.2.2.1[j]? = some k0) (he : C.2.2[j]? = some (E.1 j, e)) (hc : rf_cell E.1 E.2.1 E.2.2.1 k0 e') (hP : ∀ i, i ≠ k → rf_cellv e' i = rf_cellv e i) (hk : rf_cellv e' k = some (.int x)) (hms : rf_mod E.2.2.2.2.1 j k = true) (hgm : rf_gms E.2.2.2.2.1 js lo hi = true) (hr : rf_in r x.toInt) (hy : rf_sy C.1 C.2.2 y x.toInt) :
    rf_st E (rf_put1 E.2.2.2.1 js lo hi r y st S) (C.1, sc, C.2.2.set j (E.1 j, e')) ∧ rf_dl (rf_dk js lo hi y) C (C.1, sc, C.2.2.set j (E.1 j, e')) := by
  obtain ⟨w1, w2, w3⟩ := rf_wset (fun i => i == k) hs.2.1 hs.2.2 hl he hc (fun i hi => hP i (by simpa using hi)) (fun i hi => by simp only [beq_iff_eq] at hi; rw [hi]; exact hms) (rf_gms_at hgm hj h1 h2)
  have hfl : ∀ q, rf_pk js lo hi (.inr q) = false → rf_fld (C.2.2.set j (E.1 j, e')) q.1 q.2 = rf_fld C.2.2 q.1 q.2 := by
    intro q hq
    have hn := rf_pk_no hq hj h1 h2
    exact w3 _ _ hn.1 hn.2
  have h0 := rf_drop_ok (p := rf_pk js lo hi) hs.1 hst (fun _ => rfl) hfl
  have hv : rf_fld (C.2.2.set j (E.1 j, e')) j k = some (.int x) := by rw [rf_fld_set he _ _ (fun _ h => absurd rfl h), if_pos rfl]; exact hk
  constructor
  · refine ⟨?_, w1, w2⟩
    unfold rf_put1
    split
    · next j' =>
      cases List.mem_singleton.mp hj
      split
      · next hlh =>
        simp only [decide_eq_true_eq] at hlh
        have ek : lo.toNat = k := by omega
        refine rf_addf_ok h0 ⟨x, by simp only [ek]; exact hv, hr, ?_⟩
        simp only [ek]
        split
        · trivial
        · next g a b hab => exact rf_newrel_ok hs.2.1 hs.1.2.2.2 hy hab
      · exact h0
    · exact h0
  · intro v
    unfold rf_dk
    by_cases hp : rf_pk js lo hi v = true
    · simp only [hp, if_true]
      split
      · next hq => cases hq
      · trivial
      · next a b hab =>
        split at hab
        · next hlh =>
          simp only [Bool.and_eq_true, decide_eq_true_eq] at hlh
          obtain ⟨hlh, hp⟩ := hlh
          have ek : lo.toNat = k := by omega
          simp only [ek, Option.some.injEq] at hab
          have h5 := rf_relp_ok hj hy hab
          match v, hp with
          | .inr q, hp =>
            simp only [rf_pk0, Bool.and_eq_true, List.any_eq_true, beq_iff_eq, decide_eq_true_eq] at hp
            obtain ⟨⟨j2, hj2, e2⟩, hb1, hb2⟩ := hp
            have e3 : j2 = j := by
              unfold rf_relp at hab
              split at hab
              · exact (List.mem_singleton.mp hj2).trans (List.mem_singleton.mp hj).symm
              · exact (List.mem_singleton.mp hj2).trans (List.mem_singleton.mp hj).symm
              · cases hab
            have eq : q = (j, k) := by
              obtain ⟨q1, q2⟩ := q
              simp only at e2 hb1 hb2
              have : q2 = k := by omega
              rw [← e2, e3, this]
            subst eq
            simp only [rf_val] at h5 ⊢
            rw [hv]
            exact h5
        · cases hab
    · simp only [hp]
      match v with
      | .inl i => rfl
      | .inr q => simp only [rf_val]; rw [hfl q (by simpa using hp)]; exact rfl
def rf_putf (Lay : List rfL) (ms : List (Nat × Nat)) (fl : rfFl) (pc' i : Nat) (S : rfS) : Option (List rfO) := match S.2.1 with
  | a :: .inr (.inl js) :: st => (match rf_flget fl i with
    | some (ci, k, wr) => if js.all (fun j => (match rf_gone Lay ci k j with
        | some b => rf_ainc (rf_bare a) b
        | none => false) && rf_mod ms j k) && rf_gms ms js k k then (match a with
      | .inl (r, y) => if wr == 1 then some [(pc', rf_put1 Lay js k k r y st S, rf_dk js k k y)] else none
      | .inr (.inr 0) => if wr == 2 then some [(pc', rf_drop (rf_pk js k k) st S, rf_dk js k k none)] else none
      | _ => none) else none
    | none => none)
  | _ => none
theorem rf_pk_self {js : List Nat} {j k : Nat} (hj : j ∈ js) : rf_pk js k k (.inr (j, k)) = true := by
  simp only [rf_pk, rf_pk0, Bool.or_eq_true, Bool.and_eq_true, List.any_eq_true, beq_iff_eq, decide_eq_true_eq]
  exact Or.inl ⟨⟨j, hj, rfl⟩, Int.le_refl _, Int.le_refl _⟩
theorem rs_putf (F : rfFx X cc own Ts E.2.2.1) {fl : rfFl} (hfl : rf_flok own Ts (xk X) fl) {i : Nat} (hd : decode cc pc = .ok (.putfield i, 3)) (h : rf_putf E.2.2.2.1 E.2.2.2.2.1 fl (pc + 3) i S = some outs) (hs : rf_st E S C) : rf_go X E outs pc C := by
  unfold rf_putf at h
  obtain ⟨L, sc, ws⟩ := C
  obtain ⟨SL, sst, sf⟩ := S
  have h2 := hs.1.2.2.1
  match sst, sc, h, h2 with
  | a :: .inr (.inl js) :: st, v :: u :: sc, h, ⟨h3, ⟨j, hj, ej⟩, h5⟩ =>
    subst ej
    simp only at h
    cases hg : rf_flget fl i with
    | none => rw [hg] at h; cases h
    | some q =>
      obtain ⟨ci, k, wr⟩ := q
      rw [hg] at h
      simp only at h
      split at h
      · next hall =>
        simp only [Bool.and_eq_true] at hall
        obtain ⟨hall, hgm⟩ := hall
        have hq := List.all_eq_true.mp hall j hj
        simp only [Bool.and_eq_true] at hq
        obtain ⟨hq, hmod⟩ := hq
        cases hb : rf_gone E.2.2.2.1 ci k j with
        | none => rw [hb] at hq; cases hq
        | some b =>
          rw [hb] at hq
          obtain ⟨fs, vs, w, q1, q2, q3, q4, q5, q6⟩ := rf_gone_at hs.2.1 hb
          have hav : rf_av E.1 E.2.1 [] [] b v := rf_ainc_av hq (rf_bare_av h3)
          obtain ⟨Cn, T, N, ty0, p1, p2, p3, p4, p5, p6, p7, p8⟩ := hfl _ (rf_flget_mem hg)
          have hkl : k < vs.length := by
            rcases Nat.lt_or_ge k vs.length with q | q
            · exact q
            · rw [List.getElem?_eq_none q] at q5; cases q5
          have hcell : rf_cell E.1 E.2.1 E.2.2.1 (.inl (ci, fs)) (.inr (ci, vs.set k v)) := ⟨_, rfl, rf_all_set _ _ q4 k b v q2 hav⟩
          have hoth : ∀ i, i ≠ k → rf_cellv (.inr (ci, vs.set k v)) i = rf_cellv (.inr (ci, vs)) i := fun i hi => by
            show (vs.set k v)[i]? = vs[i]?
            rw [List.getElem?_set_ne (fun e => hi e.symm)]
          have hself : rf_cellv (.inr (ci, vs.set k v)) k = some v := by
            show (vs.set k v)[k]? = some v
            simp [hkl]
          have kk : ∀ (ty : FieldType), (T k).2.2.2 = false → parseFieldDescriptor (T k).2.2.1 = some ty → narrow ty v = v → fits ty v = true → rfW X (pc + 3) (L, sc, ws.set j (E.1 j, .inr (ci, vs.set k v))) → rfW X pc (L, v :: .ref (E.1 j) :: sc, ws) := by
            intro ty t1 t2 t3 t4 K ls H locs hl hP hD hS
            rcases p4 with p4 | ⟨host, p4⟩
            · exact va_put F.1 F.2.1 F.2.2.2.2.1 p3 ty0 p5 p6 F.2.2.2.1 F.2.2.2.2.2 hP hD hS j q3 p1 k p2 (F.2.2.2.2.1 _ p4) (fun _ h => h) t1 t2 t3 t4 hkl hd (fun H1 locs1 hP1 hD1 hS1 => K ls H1 locs1 hl hP1 hD1 hS1)
            · exact va_putN F.1 F.2.1 F.2.2.2.2.1 p3 ty0 p5 p6 F.2.2.2.1 F.2.2.2.2.2 hP hD hS j q3 p1 k p2 (F.2.2.2.2.1 _ p4) (fun _ h => h) t1 t2 t3 t4 hkl hd (fun H1 locs1 hP1 hD1 hS1 => K ls H1 locs1 hl hP1 hD1 hS1)
          match a, h, h3 with
          | .inl (r, y), h, ⟨x, hx, hr, hy⟩ =>
            subst hx
            simp only at h
            split at h
            · next hwr =>
              simp only [beq_iff_eq] at hwr
              cases h
              obtain ⟨t1, t2⟩ := p7 hwr
              obtain ⟨g1, g2⟩ := rf_put_go (S := (SL, .inl (r, y) :: .inr (.inl js) :: st, sf)) (C := (L, .int x :: .ref (E.1 j) :: sc, ws)) (lo := k) (hi := k) hs h5 hj (Int.le_refl _) (Int.le_refl _) q1 q3 hcell hoth hself hmod hgm hr hy
              intro K
              exact kk .int t1 t2 rfl rfl (K _ List.mem_cons_self _ g1 g2)
            · cases h
          | .inr (.inr 0), h, ⟨x, hx⟩ =>
            subst hx
            simp only at h
            split at h
            · next hwr =>
              simp only [beq_iff_eq] at hwr
              cases h
              obtain ⟨t1, t2⟩ := p8 hwr
              obtain ⟨w1, w2, w3⟩ := rf_wset (fun i => i == k) hs.2.1 hs.2.2 q1 q3 hcell (fun i hi => hoth i (by simpa using hi)) (fun i hi => by simp only [beq_iff_eq] at hi; rw [hi]; exact hmod) (rf_gms_at hgm hj (Int.le_refl _) (Int.le_refl _))
              have hfl2 : ∀ q, rf_pk js k k (.inr q) = false → rf_fld (ws.set j (E.1 j, .inr (ci, vs.set k (.long x)))) q.1 q.2 = rf_fld ws q.1 q.2 := by
                intro q hq
                have hn := rf_pk_no hq hj (Int.le_refl (k : Int)) (Int.le_refl (k : Int))
                exact w3 _ _ hn.1 hn.2
              intro K
              refine kk .long t1 t2 rfl rfl (K _ List.mem_cons_self _ ⟨rf_drop_ok hs.1 h5 (fun _ => rfl) hfl2, w1, w2⟩ (fun v => ?_))
              unfold rf_dk
              by_cases hp : rf_pk js k k v = true
              · simp only [hp, if_true, decide_true, Bool.true_and]
                have : rf_relp js (k : Int).toNat none = none := by unfold rf_relp; split <;> first | rfl | simp_all
                rw [this, ite_self]
                trivial
              · simp only [hp]
                match v with
                | .inl i => rfl
                | .inr q => simp only [rf_val]; rw [hfl2 q (by simpa using hp)]; exact rfl
            · cases h
      · cases h
  | _ :: .inr (.inl _) :: _, [], _, h2 => exact h2.elim
  | _ :: .inr (.inl _) :: _, [_], _, h2 => exact h2.2.elim
end RfWrite
