/-! SPECIAL REFERENCES (a static array, a text's object), statics, System.arraycopy of ints -/
section RfSpecial
variable {X : rfX} {E : rfE} {cc : ByteArray} {own : String} {S : rfS} {C : rfC} {pc pc' : Nat} {outs : List rfO}
/-- (statics: entry, value), (fields of special ones: which, entry, value), (special arrays: which, kind, length, ranges), (texts: entry, which) -/
abbrev rfT : Type := List (Nat × rfA) × List (Nat × Nat × rfA) × List (Nat × Nat × Nat × List rfR) × List (Nat × Nat)
def rf_tyof (t : Nat) : FieldType := if t == 0 then .int else .byte
def rf_spok (G : rfG) (own : String) (T : rfT) : Prop := ∀ s : State, G.2.2.2 s →
  (∀ q ∈ T.1, ∃ (Cn n d : String) (v : Value), va_Z Cn n d v G.1.2.2.2 s s.heap ∧ (Cond.fieldLink own q.1 Cn n d ∈ G.2.2.1 ∨ ∃ host, Cond.fieldLinkNest own q.1 Cn n d host ∈ G.2.2.1) ∧ rf_av G.2.1.1 G.2.1.2.1 [] [] q.2 v) ∧
  (∀ q ∈ T.2.1, ∃ (o n d : String) (v : Value), va_OF o n d v (G.2.1.2.1 q.1) G.1.2.2.2 s s.heap ∧ Cond.fieldLink own q.2.1 o n d ∈ G.2.2.1 ∧ rf_av G.2.1.1 G.2.1.2.1 [] [] q.2.2 v) ∧
  (∀ q ∈ T.2.2.1, ∃ f : Nat → Int32, va_T (rf_tyof q.2.1) (G.2.1.2.1 q.1) q.2.2.1 (fun j => .int (f j)) G.1.2.2.2 s s.heap ∧ ∀ j, j < q.2.2.1 → rf_in (q.2.2.2.getD (j % q.2.2.2.length) rf_top) (f j).toInt) ∧
  ∀ q ∈ T.2.2.2, ∃ tx : String, vk_R own q.1 tx (G.2.1.2.1 q.2) s
def rf_gets (T : rfT) (pc' i : Nat) (S : rfS) : Option (List rfO) := match T.1.find? (fun q => q.1 == i) with
  | some q => rf_q0 pc' (rf_bare q.2) S
  | none => none
theorem rs_gets {G : rfG} (hX : rf_in_G X E G) (F : rfFx X cc own G.2.2.1 E.2.2.1) {T : rfT} (hT : rf_spok G own T) {i : Nat} (hd : decode cc pc = .ok (.getstatic i, 3)) (h : rf_gets T (pc + 3) i S = some outs) (hs : rf_st E S C) : rf_go X E outs pc C := by
  unfold rf_gets at h
  split at h
  · next q hq =>
    obtain ⟨e1, e2, e3, e4, e5, e6, e7, e8, e9⟩ := id hX
    have hi := List.find?_some hq
    simp only [beq_iff_eq] at hi
    obtain ⟨Cn, n, d, v, z1, z2, z3⟩ := (hT _ e9).1 q (List.mem_of_find?_eq_some hq)
    rw [hi] at z2
    rw [← e5, ← e6] at z3
    rw [← e4] at z1
    refine rf_q0_go (v := v) h hs (rf_bare_av z3) fun K ls H locs hl hP hD hS => ?_
    rcases z2 with z2 | ⟨host, z2⟩
    · exact va_gets F.1 F.2.1 z1 hS F.2.2.2.1 (F.2.2.2.2.1 _ z2) (fun _ h => h) hd (K ls H locs hl hP hD hS)
    · exact va_getsN F.1 F.2.1 z1 hS F.2.2.2.1 (F.2.2.2.2.1 _ z2) (fun _ h => h) hd (K ls H locs hl hP hD hS)
  · cases h
def rf_getsf (T : rfT) (pc' i : Nat) (S : rfS) : Option (List rfO) := match S.2.1 with
  | .inr (.inr (n + 1)) :: st => if n == 999 then none else (match T.2.1.find? (fun q => q.1 == n && q.2.1 == i) with
    | some q => some [(pc', (S.1, rf_bare q.2.2 :: st, S.2.2), rf_d0)]
    | none => none)
  | _ => none
theorem rs_getsf {G : rfG} (hX : rf_in_G X E G) (F : rfFx X cc own G.2.2.1 E.2.2.1) {T : rfT} (hT : rf_spok G own T) {i : Nat} (hd : decode cc pc = .ok (.getfield i, 3)) (h : rf_getsf T (pc + 3) i S = some outs) (hs : rf_st E S C) : rf_go X E outs pc C := by
  unfold rf_getsf at h
  obtain ⟨L, sc, ws⟩ := C
  obtain ⟨SL, sst, sf⟩ := S
  have h2 := hs.1.2.2.1
  match sst, sc, h, h2 with
  | .inr (.inr (n + 1)) :: st, v :: sc, h, ⟨h3, h5⟩ =>
    simp only at h
    split at h
    · cases h
    next hn =>
    simp only [beq_iff_eq] at hn
    split at h
    · next q hq =>
      cases h
      obtain ⟨e1, e2, e3, e4, e5, e6, e7, e8, e9⟩ := id hX
      have hi := List.find?_some hq
      simp only [Bool.and_eq_true, beq_iff_eq] at hi
      obtain ⟨o, nm, d, w, z1, z2, z3⟩ := (hT _ e9).2.1 q (List.mem_of_find?_eq_some hq)
      rw [hi.1, ← e6, ← e4] at z1
      rw [hi.2] at z2
      rw [← e5, ← e6] at z3
      have h3' : v = .ref (E.2.1 n) := (show v = rf_spv E.2.1 n from h3).trans (rf_spv_ref hn)
      subst h3'
      exact rf_go1 hs (sc' := w :: sc) ⟨rf_bare_av z3, h5⟩ fun K ls H locs hl hP hD hS => vk_getf F.1 F.2.1 z1 hS F.2.2.2.1 (F.2.2.2.2.1 _ z2) (fun _ h => h) hd (K ls H locs hl hP hD hS)
    · cases h
def rf_ldcs (T : rfT) (pc' i : Nat) (S : rfS) : Option (List rfO) := match T.2.2.2.find? (fun q => q.1 == i) with
  | some q => if q.2 == 999 then none else rf_q0 pc' (.inr (.inr (q.2 + 1))) S
  | none => none
theorem rs_ldcs {G : rfG} (hX : rf_in_G X E G) (F : rfFx X cc own G.2.2.1 E.2.2.1) {T : rfT} (hT : rf_spok G own T) {i : Nat} (hd : decode cc pc = .ok (.ldc i, 2)) (h : rf_ldcs T (pc + 2) i S = some outs) (hs : rf_st E S C) : rf_go X E outs pc C := by
  unfold rf_ldcs at h
  split at h
  · next q hq =>
    split at h
    · cases h
    · next hn =>
      simp only [beq_iff_eq] at hn
      obtain ⟨e1, e2, e3, e4, e5, e6, e7, e8, e9⟩ := id hX
      have hi := List.find?_some hq
      simp only [beq_iff_eq] at hi
      obtain ⟨tx, z1⟩ := (hT _ e9).2.2.2 q (List.mem_of_find?_eq_some hq)
      rw [hi, ← e6] at z1
      exact rf_q0_go (v := .ref (E.2.1 q.2)) h hs (rf_spv_ref hn).symm fun K ls H locs hl hP hD hS => va_ldcS F.1 F.2.1 F.2.2.2.1 z1 hd (K ls H locs hl hP hD hS)
  · cases h
def rf_sarr (T : rfT) (n : Nat) : Option (Nat × Nat × List rfR) := (T.2.2.1.find? (fun q => q.1 == n)).map (fun q => q.2)
theorem rf_sarr_mem {T : rfT} {n : Nat} {q : Nat × Nat × List rfR} (h : rf_sarr T n = some q) : (n, q) ∈ T.2.2.1 := by
  unfold rf_sarr at h
  cases hf : T.2.2.1.find? (fun q => q.1 == n) with
  | none => rw [hf] at h; cases h
  | some u =>
    rw [hf] at h
    have h1 := List.mem_of_find?_eq_some hf
    have h2 := List.find?_some hf
    simp only [beq_iff_eq] at h2
    obtain ⟨x, b⟩ := u
    simp only at h2
    subst h2
    simp only [Option.map_some, Option.some.injEq] at h
    subst h
    exact h1
def rf_sald (T : rfT) (t pc' : Nat) (S : rfS) : Option (List rfO) := match S.2.1 with
  | .inl (r, _) :: .inr (.inr (n + 1)) :: st => (match rf_sarr T n with
    | some (t', N, tb) => if t' == t && decide (0 ≤ r.1) && decide (r.2.1 < N) && !(n == 999) then (match rf_hulls (rf_pick tb r) with
      | some u => some [(pc', (S.1, .inl (u, none) :: st, S.2.2), rf_d0)]
      | none => none) else none
    | none => none)
  | _ => none
theorem rs_saldG {G : rfG} (hX : rf_in_G X E G) {T : rfT} (hT : rf_spok G own T) {t : Nat} (h : rf_sald T t pc' S = some outs) (hs : rf_st E S C) (k : ∀ (a N : Nat) (f : Nat → Int32) (i : Int32) (st : List Value), C.2.1 = .int i :: .ref a :: st → va_T (rf_tyof t) a N (fun j => .int (f j)) (xA X) (xs X) (xs X).heap → vp_in i N → rfW X pc' (C.1, .int (f i.toNatClampNeg) :: st, C.2.2) → rfW X pc C) : rf_go X E outs pc C := by
  unfold rf_sald at h
  obtain ⟨L, sc, ws⟩ := C
  obtain ⟨SL, sst, sf⟩ := S
  have h2 := hs.1.2.2.1
  match sst, sc, h, h2 with
  | .inl (r, y) :: .inr (.inr (n + 1)) :: st, v :: u :: sc, h, ⟨⟨i, hi, hri, _⟩, h4, h5⟩ =>
    subst hi
    simp only at h
    split at h
    · next t' N tb hq =>
      split at h
      · next hb =>
        simp only [Bool.and_eq_true, decide_eq_true_eq, beq_iff_eq] at hb
        obtain ⟨⟨⟨et, b1⟩, b2⟩, hn⟩ := hb
        have hn : ¬ n = 999 := by simpa using hn
        cases huu : rf_hulls (rf_pick tb r) with
        | none => rw [huu] at h; cases h
        | some uu =>
          rw [huu] at h
          cases h
          obtain ⟨e1, e2, e3, e4, e5, e6, e7, e8, e9⟩ := id hX
          obtain ⟨f, z1, z2⟩ := (hT _ e9).2.2.1 _ (rf_sarr_mem hq)
          simp only at z1 z2
          rw [et] at z1
          rw [← e6, ← e4] at z1
          have h4' : u = .ref (E.2.1 n) := (show u = rf_spv E.2.1 n from h4).trans (rf_spv_ref hn)
          subst h4'
          have c1 := hri.1
          have c2 := hri.2.1
          have hin : vp_in i N := vp_in_iff.mpr ⟨by omega, by omega⟩
          have hil : i.toInt.toNat < N := by omega
          have hf := rf_hulls_in _ _ huu _ (rf_pick_mem (tb := tb) hri b1) _ (z2 _ hil)
          exact rf_go1 hs (sc' := .int (f i.toNatClampNeg) :: sc) ⟨⟨_, rfl, hf, trivial⟩, h5⟩ (k _ N f i sc rfl z1 hin)
      · cases h
    · cases h
  | .inl _ :: .inr (.inr (_ + 1)) :: _, [], _, h2 => exact h2.elim
  | .inl _ :: .inr (.inr (_ + 1)) :: _, [_], _, h2 => exact h2.2.elim
theorem rs_siald {G : rfG} (hX : rf_in_G X E G) (F : rfFx X cc own G.2.2.1 E.2.2.1) {T : rfT} (hT : rf_spok G own T) (hd : decode cc pc = .ok (.iaload, 1)) (h : rf_sald T 0 (pc + 1) S = some outs) (hs : rf_st E S C) : rf_go X E outs pc C :=
  rs_saldG hX hT h hs fun a N f i st e z1 hin K ls H locs hl hP hD hS => by
    rw [e]
    exact va_ti F.1 F.2.1 z1 hS hin rfl hd (K ls H locs hl hP hD hS)
theorem rs_sbald {G : rfG} (hX : rf_in_G X E G) (F : rfFx X cc own G.2.2.1 E.2.2.1) {T : rfT} (hT : rf_spok G own T) (hd : decode cc pc = .ok (.baload, 1)) (h : rf_sald T 1 (pc + 1) S = some outs) (hs : rf_st E S C) : rf_go X E outs pc C :=
  rs_saldG hX hT h hs fun a N f i st e z1 hin K ls H locs hl hP hD hS => by
    rw [e]
    exact va_tb F.1 F.2.1 z1 hS hin rfl hd (K ls H locs hl hP hD hS)
def rf_salen (T : rfT) (pc' : Nat) (S : rfS) : Option (List rfO) := match S.2.1 with
  | .inr (.inr (n + 1)) :: st => (match rf_sarr T n with
    | some (_, N, _) => if decide (N < 2147483648) && !(n == 999) then some [(pc', (S.1, .inl (rf_one N, none) :: st, S.2.2), rf_d0)] else none
    | none => none)
  | _ => none
theorem rs_salen {G : rfG} (hX : rf_in_G X E G) (F : rfFx X cc own G.2.2.1 E.2.2.1) {T : rfT} (hT : rf_spok G own T) (hd : decode cc pc = .ok (.arraylength, 1)) (h : rf_salen T (pc + 1) S = some outs) (hs : rf_st E S C) : rf_go X E outs pc C := by
  unfold rf_salen at h
  obtain ⟨L, sc, ws⟩ := C
  obtain ⟨SL, sst, sf⟩ := S
  have h2 := hs.1.2.2.1
  match sst, sc, h, h2 with
  | .inr (.inr (n + 1)) :: st, v :: sc, h, ⟨h3, h5⟩ =>
    simp only at h
    split at h
    · next t' N tb hq =>
      split at h
      · next hb =>
        simp only [Bool.and_eq_true, decide_eq_true_eq] at hb
        obtain ⟨hn, h9⟩ := hb
        have h9 : ¬ n = 999 := by simpa using h9
        cases h
        obtain ⟨e1, e2, e3, e4, e5, e6, e7, e8, e9⟩ := id hX
        obtain ⟨f, z1, z2⟩ := (hT _ e9).2.2.1 _ (rf_sarr_mem hq)
        simp only at z1 z2
        rw [← e6, ← e4] at z1
        have h3' : v = .ref (E.2.1 n) := (show v = rf_spv E.2.1 n from h3).trans (rf_spv_ref h9)
        subst h3'
        exact rf_go1 hs (sc' := .int (nI N) :: sc) ⟨⟨nI N, rfl, by rw [nI_toInt hn]; exact rf_one_in _, trivial⟩, h5⟩ fun K ls H locs hl hP hD hS => va_tlen F.1 F.2.1 z1 hS rfl hd (K ls H locs hl hP hD hS)
      · cases h
    · cases h
-- System.arraycopy
def rf_cpok (t0 t1 : List rfR) (rs rd : rfR) : Bool := if decide (t0.length ≤ 1) && decide (t1.length ≤ 1) then rf_inc (t0.getD 0 rf_top) (t1.getD 0 rf_top) else
  (t0.length == t1.length && decide (0 < t0.length) && (rs.2.2 % t0.length == 0 && rd.2.2 % t0.length == 0 && (rs.1.toNat % t0.length == rd.1.toNat % t0.length))) && (List.range t0.length).all (fun i => rf_inc (t0.getD i rf_top) (t1.getD i rf_top))
theorem rf_str_mod {r : rfR} {x : Int} {P : Nat} (h : rf_in r x) (h0 : 0 ≤ r.1) (hP : r.2.2 % P = 0) : x.toNat % P = r.1.toNat % P := by
  obtain ⟨a1, a2, q, hq⟩ := h
  obtain ⟨w, hw⟩ := Nat.dvd_of_mod_eq_zero hP
  by_cases hz : r.2.2 = 0
  · rw [hz] at hq
    have : x = r.1 := by simp at hq; exact hq
    rw [this]
  · have hq0 : 0 ≤ q := by
      rcases Int.lt_or_le q 0 with h | h
      · have : (r.2.2 : Int) * q ≤ (r.2.2 : Int) * (-1) := Int.mul_le_mul_of_nonneg_left (by omega) (by omega)
        omega
      · exact h
    obtain ⟨u, rfl⟩ := Int.eq_ofNat_of_zero_le hq0
    have e : x.toNat = r.1.toNat + P * (w * u) := by
      have h1 : ((r.2.2 : Int) * (u : Int)) = ((P * (w * u) : Nat) : Int) := by rw [hw, Int.natCast_mul, Int.natCast_mul, Int.natCast_mul, Int.mul_assoc]
      omega
    rw [e, Nat.add_mul_mod_self_left]
theorem rf_cpok_in {t0 t1 : List rfR} {rs rd : rfR} {sp dp : Int} (h : rf_cpok t0 t1 rs rd = true) (hs : rf_in rs sp) (hd : rf_in rd dp) (h0 : 0 ≤ rs.1) (h1 : 0 ≤ rd.1) (i : Nat) {x : Int} (hx : rf_in (t0.getD ((sp.toNat + i) % t0.length) rf_top) x) : rf_in (t1.getD ((dp.toNat + i) % t1.length) rf_top) x := by
  unfold rf_cpok at h
  split at h
  · next hl =>
    simp only [Bool.and_eq_true, decide_eq_true_eq] at hl
    have g0 : ∀ (t : List rfR) (k : Nat), t.length ≤ 1 → t.getD (k % t.length) rf_top = t.getD 0 rf_top := by
      intro t k ht
      match t, ht with
      | [], _ => simp
      | [a], _ => simp [Nat.mod_one]
    rw [g0 _ _ hl.1] at hx
    rw [g0 _ _ hl.2]
    exact rf_inc_in h hx
  · simp only [Bool.and_eq_true, decide_eq_true_eq, beq_iff_eq, List.all_eq_true, List.mem_range] at h
    obtain ⟨⟨⟨l1, l2⟩, ⟨m1, m2⟩, m3⟩, m4⟩ := h
    have a1 := rf_str_mod hs h0 m1
    have a2 := rf_str_mod hd h1 m2
    have e : (sp.toNat + i) % t0.length = (dp.toNat + i) % t0.length := by
      rw [Nat.add_mod, a1, m3, ← a2, ← Nat.add_mod]
    rw [e] at hx
    rw [← l1]
    exact rf_inc_in (m4 _ (Nat.mod_lt _ l2)) hx
def rf_copy (Lay : List rfL) (ms : List (Nat × Nat)) (fr lo pc' : Nat) (S : rfS) : Option (List rfO) := match S.2.1 with
  | .inl (rn, _) :: .inl (rd, _) :: .inr (.inl [jd]) :: .inl (rs, _) :: .inr (.inl [js]) :: st => (match rf_arr Lay 0 js, rf_arr Lay 0 jd with
    | some (n0, t0), some (n1, t1) => if decide (rn.1 = rn.2.1) && decide (0 ≤ rn.1) && decide (0 ≤ rs.1) && decide (rs.2.1 + rn.1 ≤ n0) && decide (0 ≤ rd.1) && decide (rd.2.1 + rn.1 ≤ n1) && ms.any (fun q => q.1 == jd && q.2 == 0) && rf_cpok t0 t1 rs rd && decide (1 ≤ fr) && decide ((st.map rf_cat).sum + 18 ≤ lo) && rf_gsup.all (fun u => !(u.2.1 == jd)) then some [(pc', rf_drop (rf_pk [jd] 0 n1) st S, fun v => if rf_pk [jd] 0 n1 v then some none else none)] else none
    | _, _ => none)
  | _ => none
def rf_cplink (own : String) (Ts : List Cond) (i : Nat) : Prop := Cond.methodLink own i arraycopyName ∈ Ts ∧ Cond.native arraycopyName ∈ Ts ∧ Cond.static arraycopyName ∈ Ts ∧ Cond.initialized "java/lang/System" ∈ Ts
theorem rs_copy {Ts : List Cond} (F : rfFx X cc own Ts E.2.2.1) (ht : rf_tysok E.2.2.1) {i : Nat} (hl : rf_cplink own Ts i) (hd : decode cc pc = .ok (.invokestatic i, 3)) (h : rf_copy E.2.2.2.1 E.2.2.2.2.1 (xR X).frames (xR X).locals (pc + 3) S = some outs) (hs : rf_st E S C) : rf_go X E outs pc C := by
  obtain ⟨c0, c1, c2, c3, Fo, ht⟩ := ht
  obtain ⟨k1, k2, k3, k4⟩ := hl
  unfold rf_copy at h
  obtain ⟨L, sc, ws⟩ := C
  obtain ⟨SL, sst, sf⟩ := S
  have h2 := hs.1.2.2.1
  match sst, h, h2 with
  | .inl (rn, yn) :: .inl (rd, yd) :: .inr (.inl [jd]) :: .inl (rs, ys) :: .inr (.inl [js]) :: st, h, h2 =>
    match sc, h2 with
    | v1 :: v2 :: v3 :: v4 :: v5 :: sc, ⟨⟨n, ev1, hn, _⟩, ⟨dp, ev2, hdp, _⟩, ⟨j1, hj1, ev3⟩, ⟨sp, ev4, hsp, _⟩, ⟨j0, hj0, ev5⟩, h5⟩ =>
      subst ev1; subst ev2; subst ev3; subst ev4; subst ev5
      cases List.mem_singleton.mp hj1
      cases List.mem_singleton.mp hj0
      simp only at h
      split at h
      · next n0 t0 n1 t1 ha0 ha1 =>
        split at h
        · next hb =>
          simp only [Bool.and_eq_true, decide_eq_true_eq] at hb
          obtain ⟨⟨⟨⟨⟨⟨⟨⟨⟨⟨b1, b2⟩, b3⟩, b4⟩, b5⟩, b6⟩, b7⟩, b8⟩, b9⟩, b10⟩, b11⟩ := hb
          have hns : ∀ u ∈ rf_gsup, u.2.1 = jd → False := fun u hu e => by
            have := List.all_eq_true.mp b11 u hu
            simp [e] at this
          cases h
          obtain ⟨cA0, ty0, f, q1, q2, q3, q4⟩ := rf_arr_at hs.2.1 ha0
          obtain ⟨cA1, ty1, g, p1, p2, p3, p4⟩ := rf_arr_at hs.2.1 ha1
          have ety0 : ty0 = .int := by rw [ht] at q2; simp at q2; exact q2.2.symm
          have ety1 : ty1 = .int := by rw [ht] at p2; simp at p2; exact p2.2.symm
          subst ety0; subst ety1
          have en := rf_one_val hn b1
          have d1 := hdp.1
          have d2 := hdp.2.1
          have s1 := hsp.1
          have s2 := hsp.2.1
          have cn : n.toNatClampNeg = n.toInt.toNat := rfl
          have cd : dp.toNatClampNeg = dp.toInt.toNat := rfl
          have cs : sp.toNatClampNeg = sp.toInt.toNat := rfl
          have hcell : rf_cell E.1 E.2.1 E.2.2.1 (.inr (0, n1, .inl t1)) (.inl (cA1, n1, .inl (va_cpy f g sp.toNatClampNeg dp.toNatClampNeg n.toNatClampNeg))) := by
            refine ⟨cA1, .int, _, p2, rfl, fun a ha => ?_⟩
            by_cases hin : dp.toNatClampNeg ≤ a ∧ a < dp.toNatClampNeg + n.toNatClampNeg
            · rw [pk_cpy_in hin.1 hin.2]
              obtain ⟨u, rfl⟩ : ∃ u, a = dp.toNatClampNeg + u := ⟨a - dp.toNatClampNeg, by omega⟩
              rw [show dp.toNatClampNeg + u - dp.toNatClampNeg = u by omega]
              exact rf_cpok_in b8 hsp hdp b3 b5 u (q4 _ (by omega))
            · rw [pk_cpy_out (by omega)]
              exact p4 a ha
          obtain ⟨w1, w2, w3⟩ := rf_wset (fun k => decide (k < n1)) hs.2.1 hs.2.2 p1 p3 hcell (fun k hk => by simp only [decide_eq_false_iff_not] at hk; simp only [rf_cellv, if_neg hk]) (fun k _ => rf_mod0 b7) (fun u hu e => (hns u hu e).elim)
          have hfl : ∀ q, rf_pk [jd] 0 n1 (.inr q) = false → rf_fld (ws.set jd (E.1 jd, .inl (cA1, n1, .inl (va_cpy f g sp.toNatClampNeg dp.toNatClampNeg n.toNatClampNeg)))) q.1 q.2 = rf_fld ws q.1 q.2 := by
            intro q hq
            refine w3 _ _ (fun hh => ?_) (fun _ u hu _ e => (hns u hu e).elim)
            simp only [decide_eq_true_eq] at hh
            simp only [rf_pk, rf_pk0, Bool.or_eq_false_iff] at hq
            replace hq := hq.1
            simp only [Bool.and_eq_false_iff, decide_eq_false_iff_not, List.any_eq_false, beq_iff_eq] at hq
            rcases hq with hq | hq
            · exact hq jd List.mem_cons_self hh.1.symm
            · omega
          intro K
          have k := K _ List.mem_cons_self (L, sc, ws.set jd (E.1 jd, .inl (cA1, n1, .inl (va_cpy f g sp.toNatClampNeg dp.toNatClampNeg n.toNatClampNeg)))) ⟨rf_drop_ok hs.1 h5 (fun _ => rfl) hfl, w1, w2⟩ (fun v => by
            by_cases hp : rf_pk [jd] 0 n1 v = true
            · simp only [hp, if_true]
            · simp only [hp]
              match v with
              | .inl i => rfl
              | .inr q => simp only [rf_val]; rw [hfl q (by simpa using hp)]; exact rfl)
          intro ls H locs hl hP hD hS
          have hnn : ∀ z : Int32, 0 ≤ z.toInt → ¬ z < 0 := fun z hz hh => by
            have := Int32.lt_iff_toInt_lt.mp hh
            rw [rf_0I] at this
            omega
          have hcat := rf_cats _ _ h5
          exact va_copyi F.1 F.2.1 (F.2.2.1.trans hl.1.symm) F.2.2.2.1 (F.2.2.2.2.1 _ k1) (F.2.2.2.2.1 _ k2) (F.2.2.2.2.1 _ k3) (F.2.2.2.2.1 _ k4) F.2.2.2.2.2 hP hD hS js jd 0 0 q3 p3 q2 p2 rfl (hnn sp (by omega)) (hnn dp (by omega)) (hnn n (by omega)) (by omega) (by omega) (fun _ _ => rfl) b9 (by rw [hcat]; show _ + (7 + 11) ≤ _; omega) hd (fun H1 locs1 hP1 hD1 hS1 => k ls H1 locs1 hl hP1 hD1 hS1)
        · cases h
      · cases h
-- Math.max, min, abs
def rf_max (r t : rfR) : rfR := (if decide (r.1 < t.1) then t.1 else r.1, if decide (r.2.1 < t.2.1) then t.2.1 else r.2.1, 1)
def rf_min (r t : rfR) : rfR := (if decide (t.1 < r.1) then t.1 else r.1, if decide (t.2.1 < r.2.1) then t.2.1 else r.2.1, 1)
def rf_abs (r : rfR) : rfR := if decide (-2147483648 < r.1) then (0, if decide (-r.1 < r.2.1) then r.2.1 else -r.1, 1) else rf_top
theorem rf_max_in {r t : rfR} {x y : Int32} (hx : rf_in r x.toInt) (hy : rf_in t y.toInt) : rf_in (rf_max r t) (if x < y then y else x).toInt := by
  have a1 := hx.1
  have a2 := hx.2.1
  have b1 := hy.1
  have b2 := hy.2.1
  unfold rf_max
  by_cases h : x < y
  · rw [if_pos h]
    have := Int32.lt_iff_toInt_lt.mp h
    refine rf_in1 ?_ ?_ <;> split <;> rename_i q <;> simp only [decide_eq_true_eq] at q <;> omega
  · rw [if_neg h]
    have : ¬ x.toInt < y.toInt := fun q => h (Int32.lt_iff_toInt_lt.mpr q)
    refine rf_in1 ?_ ?_ <;> split <;> rename_i q <;> simp only [decide_eq_true_eq] at q <;> omega
theorem rf_min_in {r t : rfR} {x y : Int32} (hx : rf_in r x.toInt) (hy : rf_in t y.toInt) : rf_in (rf_min r t) (if y < x then y else x).toInt := by
  have a1 := hx.1
  have a2 := hx.2.1
  have b1 := hy.1
  have b2 := hy.2.1
  unfold rf_min
  by_cases h : y < x
  · rw [if_pos h]
    have := Int32.lt_iff_toInt_lt.mp h
    refine rf_in1 ?_ ?_ <;> split <;> rename_i q <;> simp only [decide_eq_true_eq] at q <;> omega
  · rw [if_neg h]
    have : ¬ y.toInt < x.toInt := fun q => h (Int32.lt_iff_toInt_lt.mpr q)
    refine rf_in1 ?_ ?_ <;> split <;> rename_i q <;> simp only [decide_eq_true_eq] at q <;> omega
theorem rf_abs_in {r : rfR} {x : Int32} (hx : rf_in r x.toInt) : rf_in (rf_abs r) (if 0 ≤ x then x else 0 - x).toInt := by
  have a1 := hx.1
  have a2 := hx.2.1
  unfold rf_abs
  split
  · next h0 =>
    simp only [decide_eq_true_eq] at h0
    by_cases h : 0 ≤ x
    · rw [if_pos h]
      have := Int32.le_iff_toInt_le.mp h
      rw [rf_0I] at this
      refine rf_in1 this ?_
      split <;> rename_i q <;> simp only [decide_eq_true_eq] at q <;> omega
    · rw [if_neg h]
      have h1 : ¬ 0 ≤ x.toInt := fun q => h (Int32.le_iff_toInt_le.mpr (by rw [rf_0I]; exact q))
      have h2 := rf_ge32 x
      have e : (0 - x).toInt = -x.toInt := by rw [Int32.toInt_sub, rf_0I, rf_bm (by omega) (by omega)]; omega
      rw [e]
      refine rf_in1 (by omega) ?_
      split <;> rename_i q <;> simp only [decide_eq_true_eq] at q <;> omega
  · exact rf_in_top _
def rf_bilink (own : String) (Ts : List Cond) (i k : Nat) : Prop := Cond.initialized "java/lang/Math" ∈ Ts ∧ (k = 0 → Cond.methodLink own i Lib.Math.max.name ∈ Ts ∧ Cond.static Lib.Math.max.name ∈ Ts ∧ Cond.code Lib.Math.max.name Lib.Math.max.code 2 (some .int) ∈ Ts) ∧ (k = 1 → Cond.methodLink own i Lib.Math.min.name ∈ Ts ∧ Cond.static Lib.Math.min.name ∈ Ts ∧ Cond.code Lib.Math.min.name Lib.Math.min.code 2 (some .int) ∈ Ts) ∧ (k = 2 → Cond.methodLink own i Lib.Math.abs.name ∈ Ts ∧ Cond.static Lib.Math.abs.name ∈ Ts ∧ Cond.code Lib.Math.abs.name Lib.Math.abs.code 1 (some .int) ∈ Ts)
def rf_room1 (fr lo : Nat) (st : List rfA) : Bool := decide (1 ≤ fr) && decide ((st.map rf_cat).sum + 13 ≤ lo)
def rf_bi (k fr lo pc' : Nat) (S : rfS) : Option (List rfO) := match k, S.2.1 with
  | 0, .inl (t, _) :: .inl (r, _) :: st => if rf_room1 fr lo st then some [(pc', (S.1, .inl (rf_max r t, none) :: st, S.2.2), rf_d0)] else none
  | 1, .inl (t, _) :: .inl (r, _) :: st => if rf_room1 fr lo st then some [(pc', (S.1, .inl (rf_min r t, none) :: st, S.2.2), rf_d0)] else none
  | 2, .inl (r, _) :: st => if rf_room1 fr lo st then some [(pc', (S.1, .inl (rf_abs r, none) :: st, S.2.2), rf_d0)] else none
  | _, _ => none
theorem rs_bi {Ts : List Cond} (F : rfFx X cc own Ts E.2.2.1) {i k : Nat} (hl : rf_bilink own Ts i k) (hd : decode cc pc = .ok (.invokestatic i, 3)) (h : rf_bi k (xR X).frames (xR X).locals (pc + 3) S = some outs) (hs : rf_st E S C) : rf_go X E outs pc C := by
  obtain ⟨l0, l1, l2, l3⟩ := hl
  have hts := F.2.2.2.2.1
  obtain ⟨L, sc, ws⟩ := C
  obtain ⟨SL, sst, sf⟩ := S
  have h2 := hs.1.2.2.1
  unfold rf_bi at h
  split at h
  · next t yt r yr st hss =>
    simp only at hss
    subst hss
    split at h
    · next hr =>
      simp only [rf_room1, Bool.and_eq_true, decide_eq_true_eq] at hr
      cases h
      match sc, h2 with
      | u :: v :: sc, ⟨⟨y, hy, hyr, _⟩, ⟨x, hx, hxr, _⟩, h5⟩ =>
        subst hy; subst hx
        obtain ⟨m1, m2, m3⟩ := l1 rfl
        exact rf_go1 hs (sc' := .int (if x < y then y else x) :: sc) ⟨⟨_, rfl, rf_max_in hxr hyr, trivial⟩, h5⟩ fun K ls H locs hl hP hD hS => va_mmax F.1 F.2.1 (F.2.2.1.trans hl.1.symm) F.2.2.2.1 (hts _ m1) (hts _ m2) (hts _ l0) (hts _ m3) hr.1 (by rw [rf_cats _ _ h5]; exact hr.2) (Nat.zero_le _) (Nat.zero_le _) hd (K ls H locs hl hP hD hS)
      | [_], h2 => exact h2.2.elim
      | [], h2 => exact h2.elim
    · cases h
  · next t yt r yr st hss =>
    simp only at hss
    subst hss
    split at h
    · next hr =>
      simp only [rf_room1, Bool.and_eq_true, decide_eq_true_eq] at hr
      cases h
      match sc, h2 with
      | u :: v :: sc, ⟨⟨y, hy, hyr, _⟩, ⟨x, hx, hxr, _⟩, h5⟩ =>
        subst hy; subst hx
        obtain ⟨m1, m2, m3⟩ := l2 rfl
        exact rf_go1 hs (sc' := .int (if y < x then y else x) :: sc) ⟨⟨_, rfl, rf_min_in hxr hyr, trivial⟩, h5⟩ fun K ls H locs hl hP hD hS => va_mmin F.1 F.2.1 (F.2.2.1.trans hl.1.symm) F.2.2.2.1 (hts _ m1) (hts _ m2) (hts _ l0) (hts _ m3) hr.1 (by rw [rf_cats _ _ h5]; exact hr.2) (Nat.zero_le _) (Nat.zero_le _) hd (K ls H locs hl hP hD hS)
      | [_], h2 => exact h2.2.elim
      | [], h2 => exact h2.elim
    · cases h
  · next r yr st hss =>
    simp only at hss
    subst hss
    split at h
    · next hr =>
      simp only [rf_room1, Bool.and_eq_true, decide_eq_true_eq] at hr
      cases h
      match sc, h2 with
      | v :: sc, ⟨⟨x, hx, hxr, _⟩, h5⟩ =>
        subst hx
        obtain ⟨m1, m2, m3⟩ := l3 rfl
        exact rf_go1 hs (sc' := .int (if 0 ≤ x then x else 0 - x) :: sc) ⟨⟨_, rfl, rf_abs_in hxr, trivial⟩, h5⟩ fun K ls H locs hl hP hD hS => va_mabs F.1 F.2.1 (F.2.2.1.trans hl.1.symm) F.2.2.2.1 (hts _ m1) (hts _ m2) (hts _ l0) (hts _ m3) hr.1 (by rw [rf_cats _ _ h5]; exact hr.2) (Nat.zero_le _) (Nat.zero_le _) hd (K ls H locs hl hP hD hS)
      | [], h2 => exact h2.elim
    · cases h
  · cases h
end RfSpecial
