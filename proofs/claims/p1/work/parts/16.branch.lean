/-! BRANCHES: what a comparison tells of the two ranges, and of the variables that they speak of -/
section RfBranch
variable {X : rfX} {E : rfE} {cc : ByteArray} {own : String} {Ts : List Cond} {tys : List (ClassId × FieldType)} {S : rfS} {C : rfC} {pc pc' : Nat} {outs : List rfO}
def rf_clo (r : rfR) (b : Int) : rfR := if decide (b ≤ r.1) then r else if decide (r.2.2 ≤ 1) then (b, r.2.1, 1) else (r.1 + (r.2.2 : Int) * ((b - r.1 + (r.2.2 : Int) - 1) / (r.2.2 : Int)), r.2.1, r.2.2)
def rf_chi (r : rfR) (b : Int) : rfR := if decide (r.2.1 ≤ b) then r else (r.1, b, r.2.2)
theorem rf_clo_in {r : rfR} {b x : Int} (h : rf_in r x) (hb : b ≤ x) : rf_in (rf_clo r b) x := by
  unfold rf_clo
  split
  · exact h
  · split
    · exact rf_in1 hb h.2.1
    · next h1 h2 =>
      simp only [decide_eq_true_eq] at h1 h2
      obtain ⟨a1, a2, q, hq⟩ := h
      have hp : (0 : Int) < (r.2.2 : Int) := by omega
      have hc : (b - r.1 + (r.2.2 : Int) - 1) / (r.2.2 : Int) < q + 1 := by
        apply Int.ediv_lt_of_lt_mul hp
        rw [Int.add_mul, Int.mul_comm q]
        omega
      have h3 : (r.2.2 : Int) * ((b - r.1 + (r.2.2 : Int) - 1) / (r.2.2 : Int)) ≤ (r.2.2 : Int) * q := Int.mul_le_mul_of_nonneg_left (by omega) (by omega)
      refine ⟨by show r.1 + _ ≤ x; omega, a2, q - (b - r.1 + (r.2.2 : Int) - 1) / (r.2.2 : Int), ?_⟩
      show x = r.1 + _ + (r.2.2 : Int) * _
      rw [Int.mul_sub]
      omega
theorem rf_chi_in {r : rfR} {b x : Int} (h : rf_in r x) (hb : x ≤ b) : rf_in (rf_chi r b) x := by
  unfold rf_chi
  split
  · exact h
  · exact ⟨h.1, hb, h.2.2⟩
def rf_meet (r t : rfR) : rfR := rf_chi (rf_clo r t.1) t.2.1
theorem rf_meet_in {r t : rfR} {x : Int} (h : rf_in r x) (h2 : t.1 ≤ x) (h3 : x ≤ t.2.1) : rf_in (rf_meet r t) x := rf_chi_in (rf_clo_in h h2) h3
def rf_not (r t : rfR) : rfR := if decide (t.1 = t.2.1) then (if decide (r.1 = t.1) then rf_clo r (t.1 + 1) else if decide (r.2.1 = t.1) then rf_chi r (t.1 - 1) else r) else r
theorem rf_not_in {r t : rfR} {x y : Int} (h : rf_in r x) (h2 : rf_in t y) (hn : x ≠ y) : rf_in (rf_not r t) x := by
  unfold rf_not
  have a1 := h.1
  have a2 := h.2.1
  have b1 := h2.1
  have b2 := h2.2.1
  split
  · next e =>
    simp only [decide_eq_true_eq] at e
    split
    · next e2 =>
      simp only [decide_eq_true_eq] at e2
      exact rf_clo_in h (by omega)
    · split
      · next e3 =>
        simp only [decide_eq_true_eq] at e3
        exact rf_chi_in h (by omega)
      · exact h
  · exact h
def rf_holds (c : ClassFile.Cond) (x y : Int) : Prop := match c with
  | .lt => x < y
  | .ge => y ≤ x
  | .gt => y < x
  | .le => x ≤ y
  | .eq => x = y
  | .ne => x ≠ y
def rf_cmp (c : ClassFile.Cond) (r t : rfR) : rfR × rfR := match c with
  | .lt => (rf_chi r (t.2.1 - 1), rf_clo t (r.1 + 1))
  | .ge => (rf_clo r t.1, rf_chi t r.2.1)
  | .gt => (rf_clo r (t.1 + 1), rf_chi t (r.2.1 - 1))
  | .le => (rf_chi r t.2.1, rf_clo t r.1)
  | .eq => (rf_meet r t, rf_meet t r)
  | .ne => (rf_not r t, rf_not t r)
def rf_neg1 (c : ClassFile.Cond) : ClassFile.Cond := match c with
  | .lt => .ge
  | .ge => .lt
  | .gt => .le
  | .le => .gt
  | .eq => .ne
  | .ne => .eq
theorem rf_neg1_ok {c : ClassFile.Cond} {x y : Int} (h : ¬ rf_holds c x y) : rf_holds (rf_neg1 c) x y := by
  cases c <;> simp only [rf_holds, rf_neg1] at h ⊢ <;> omega
theorem rf_cmp_in {c : ClassFile.Cond} {r t : rfR} {x y : Int} (hx : rf_in r x) (hy : rf_in t y) (h : rf_holds c x y) : rf_in (rf_cmp c r t).1 x ∧ rf_in (rf_cmp c r t).2 y := by
  have a1 := hx.1
  have a2 := hx.2.1
  have b1 := hy.1
  have b2 := hy.2.1
  cases c <;> simp only [rf_holds] at h
  · subst h; exact ⟨rf_meet_in hx b1 b2, rf_meet_in hy a1 a2⟩
  · exact ⟨rf_not_in hx hy h, rf_not_in hy hx (fun e => h e.symm)⟩
  · exact ⟨rf_chi_in hx (by omega), rf_clo_in hy (by omega)⟩
  · exact ⟨rf_clo_in hx (by omega), rf_chi_in hy (by omega)⟩
  · exact ⟨rf_clo_in hx (by omega), rf_chi_in hy (by omega)⟩
  · exact ⟨rf_chi_in hx (by omega), rf_clo_in hy (by omega)⟩
-- what is known of a slot
def rf_fget (Lay : List rfL) (fs : List rfF) (j k : Nat) : Option (rfR × rfRl) := match fs.find? (fun u => u.1.1 == j && u.1.2 == k) with
  | some u => some u.2
  | none => (match rf_layr Lay j k with
    | some r => some (r, none)
    | none => none)
theorem rf_fget_ok {ad sp : Nat → Nat} {tys : List (ClassId × FieldType)} {Lay : List rfL} {w0 ws : va_W} (hw : rf_world ad sp tys Lay ws) {fs : List rfF} (hf : ∀ u ∈ fs, rf_fok w0 ws u) {j k : Nat} {q : rfR × rfRl} (h : rf_fget Lay fs j k = some q) : rf_fok w0 ws ((j, k), q) := by
  unfold rf_fget at h
  split at h
  · next u hu =>
    cases h
    have h1 := hf u (List.mem_of_find?_eq_some hu)
    have h2 := List.find?_some hu
    simp only [Bool.and_eq_true, beq_iff_eq] at h2
    obtain ⟨⟨j', k'⟩, v⟩ := u
    obtain ⟨rfl, rfl⟩ := h2
    exact h1
  · split at h
    · next r hr =>
      cases h
      obtain ⟨x, e, hi⟩ := rf_layr_in hw hr
      exact ⟨x, e, hi, trivial⟩
    · cases h
def rf_fput (fs : List rfF) (j k : Nat) (q : rfR × rfRl) : List rfF := ((j, k), q) :: fs.filter (fun u => !(u.1.1 == j && u.1.2 == k))
def rf_meeta (a : rfA) (lo hi : Int) : rfA := match a with
  | .inl (r, y) => .inl (rf_meet r (lo, hi, 1), y)
  | a => a
def rf_refv0 (Lay : List rfL) (S : rfS) (y : rfY) (r : rfR) : rfS := match y with
  | some (.inl i, some n) => (S.1.map (fun q => if q.1 == i then (q.1, rf_meeta q.2 (r.1 - n) (r.2.1 - n)) else q), S.2)
  | some (.inr f, some n) => (match rf_fget Lay S.2.2 f.1 f.2 with
    | some q => (S.1, S.2.1, rf_fput S.2.2 f.1 f.2 (rf_meet q.1 (r.1 - n, r.2.1 - n, 1), q.2))
    | none => S)
  | _ => S
theorem rf_refv0_ok {ad sp : Nat → Nat} {tys : List (ClassId × FieldType)} {Lay : List rfL} {w0 : va_W} {S : rfS} {C : rfC} (hw : rf_world ad sp tys Lay C.2.2) (hs : rf_ok ad sp w0 S C) {y : rfY} {r : rfR} {x : Int} (hy : rf_sy C.1 C.2.2 y x) (hr : rf_in r x) : rf_ok ad sp w0 (rf_refv0 Lay S y r) C := by
  have a1 := hr.1
  have a2 := hr.2.1
  match y, hy with
  | none, _ => exact hs
  | some (.inl i, none), _ => exact hs
  | some (.inr f, none), _ => exact hs
  | some (.inl i, some n), hy =>
    simp only [rf_sy] at hy
    obtain ⟨s0, s1, s2, s3⟩ := hs
    refine ⟨s0, fun q hq => ?_, s2, s3⟩
    obtain ⟨q0, hq0, rfl⟩ := List.mem_map.mp hq
    obtain ⟨v, hv, hav⟩ := s1 q0 hq0
    by_cases e : q0.1 = i
    · simp only [e, beq_self_eq_true, if_true]
      refine ⟨v, by rw [← e]; exact hv, ?_⟩
      obtain ⟨i', a⟩ := q0
      simp only at e hv hav ⊢
      subst e
      match a, hav with
      | .inl (t, z), ⟨u, h1, h2, h3⟩ =>
        subst h1
        have ev : rf_val C.1 C.2.2 (.inl i') = u.toInt := by simp [rf_val, rf_get_of s0 hv, rf_num]
        exact ⟨u, rfl, rf_meet_in h2 (by show r.1 - n ≤ _; omega) (by show _ ≤ r.2.1 - n; omega), h3⟩
      | .inr (.inl js), hav => exact hav
      | .inr (.inr 0), hav => exact hav
      | .inr (.inr (k + 1)), hav => exact hav
    · have e' : (q0.1 == i) = false := by simpa using e
      simp only [e']
      exact ⟨v, hv, hav⟩
  | some (.inr f, some n), hy =>
    simp only [rf_sy, rf_val] at hy
    unfold rf_refv0
    simp only
    split
    · next q hq =>
      obtain ⟨s0, s1, s2, s3⟩ := hs
      refine ⟨s0, s1, s2, fun u hu => ?_⟩
      rcases List.mem_cons.mp hu with hu | hu
      · subst hu
        obtain ⟨z, e, hi, hrl⟩ := rf_fget_ok hw s3 hq
        refine ⟨z, e, ?_, hrl⟩
        simp only at e
        rw [e] at hy
        simp only [rf_num] at hy
        exact rf_meet_in hi (by show r.1 - n ≤ _; omega) (by show _ ≤ r.2.1 - n; omega)
      · exact s3 u (List.mem_filter.mp hu).1
    · exact hs
/-- what a variable's range tells of the values that speak of it -/
def rf_refa (v : rfV) (lo hi : Int) (a : rfA) : rfA := match a with
  | .inl (r, some (u, some m)) => if decide (u = v) then .inl (rf_meet r (lo + m, hi + m, 1), some (u, some m)) else .inl (r, some (u, some m))
  | a => a
theorem rf_refa_av {ad sp : Nat → Nat} {L : List (Nat × Value)} {ws : va_W} {v : rfV} {lo hi : Int} (h1 : lo ≤ rf_val L ws v) (h2 : rf_val L ws v ≤ hi) {a : rfA} {x : Value} (ha : rf_av ad sp L ws a x) : rf_av ad sp L ws (rf_refa v lo hi a) x := by
  unfold rf_refa
  split
  · next r u m =>
    split
    · next e =>
      simp only [decide_eq_true_eq] at e
      subst e
      obtain ⟨z, hz, hr, hy⟩ := ha
      have hy' : z.toInt = rf_val L ws u + m := hy
      exact ⟨z, hz, rf_meet_in hr (by show lo + m ≤ _; omega) (by show _ ≤ hi + m; omega), hy⟩
    · exact ha
  · exact ha
def rf_refs (S : rfS) (y : rfY) (r : rfR) : rfS := match y with
  | some (v, some n) => (S.1.map (fun q => (q.1, rf_refa v (r.1 - n) (r.2.1 - n) q.2)), S.2.1.map (rf_refa v (r.1 - n) (r.2.1 - n)), S.2.2)
  | _ => S
theorem rf_refs_ok {ad sp : Nat → Nat} {w0 : va_W} {S : rfS} {C : rfC} (hs : rf_ok ad sp w0 S C) {y : rfY} {r : rfR} {x : Int} (hy : rf_sy C.1 C.2.2 y x) (hr : rf_in r x) : rf_ok ad sp w0 (rf_refs S y r) C := by
  unfold rf_refs
  split
  · next v n =>
    have hy' : x = rf_val C.1 C.2.2 v + n := hy
    have a1 := hr.1
    have a2 := hr.2.1
    obtain ⟨s0, s1, s2, s3⟩ := hs
    refine ⟨s0, fun q hq => ?_, rf_all_map (fun a b h => rf_refa_av (by omega) (by omega) h) _ _ s2, s3⟩
    obtain ⟨q0, hq0, rfl⟩ := List.mem_map.mp hq
    obtain ⟨w, h1, h2⟩ := s1 q0 hq0
    exact ⟨w, h1, rf_refa_av (by omega) (by omega) h2⟩
  · exact hs
def rf_refv (Lay : List rfL) (S : rfS) (y : rfY) (r : rfR) : rfS := rf_refv0 Lay (rf_refs S y r) y r
theorem rf_refv_ok {ad sp : Nat → Nat} {tys : List (ClassId × FieldType)} {Lay : List rfL} {w0 : va_W} {S : rfS} {C : rfC} (hw : rf_world ad sp tys Lay C.2.2) (hs : rf_ok ad sp w0 S C) {y : rfY} {r : rfR} {x : Int} (hy : rf_sy C.1 C.2.2 y x) (hr : rf_in r x) : rf_ok ad sp w0 (rf_refv Lay S y r) C := rf_refv0_ok hw (rf_refs_ok hs hy hr) hy hr
/-- the two numbers that were compared leave the stack, and c holds of them -/
def rf_br (Lay : List rfL) (c : ClassFile.Cond) (tgt : Nat) (S : rfS) (st : List rfA) (a b : rfR × rfY) : List rfO :=
  if decide ((rf_cmp c a.1 b.1).1.2.1 < (rf_cmp c a.1 b.1).1.1) || decide ((rf_cmp c a.1 b.1).2.2.1 < (rf_cmp c a.1 b.1).2.1) then [] else [(tgt, rf_refv Lay (rf_refv Lay (S.1, st, S.2.2) a.2 (rf_cmp c a.1 b.1).1) b.2 (rf_cmp c a.1 b.1).2, rf_d0)]
theorem rf_br_go {S : rfS} {c : ClassFile.Cond} {tgt : Nat} {st : List rfA} {sc : List Value} {a b : rfR × rfY} {x y : Int} (hs : rf_st E S C) (hst : rf_all (rf_av E.1 E.2.1 C.1 C.2.2) st sc) (ha : rf_in a.1 x ∧ rf_sy C.1 C.2.2 a.2 x) (hb : rf_in b.1 y ∧ rf_sy C.1 C.2.2 b.2 y) (hc : rf_holds c x y) (K : ∀ o ∈ rf_br E.2.2.2.1 c tgt S st a b, ∀ C', rf_st E o.2.1 C' → rf_dl o.2.2 C C' → rfW X o.1 C') : rfW X tgt (C.1, sc, C.2.2) := by
  obtain ⟨r1, r2⟩ := rf_cmp_in ha.1 hb.1 hc
  unfold rf_br at K
  rw [if_neg] at K
  · have h0 : rf_ok E.1 E.2.1 E.2.2.2.2.2 (S.1, st, S.2.2) (C.1, sc, C.2.2) := ⟨hs.1.1, hs.1.2.1, hst, hs.1.2.2.2⟩
    have h1 := rf_refv_ok (C := (C.1, sc, C.2.2)) hs.2.1 h0 ha.2 r1
    have h2 := rf_refv_ok (C := (C.1, sc, C.2.2)) hs.2.1 h1 hb.2 r2
    exact K _ List.mem_cons_self (C.1, sc, C.2.2) ⟨h2, hs.2⟩ (rf_dl0 C sc)
  · simp only [Bool.or_eq_true, decide_eq_true_eq]
    have := r1.1
    have := r1.2.1
    have := r2.1
    have := r2.2.1
    omega
def rf_icmp (Lay : List rfL) (c : ClassFile.Cond) (pc : Nat) (off : Int) (S : rfS) : Option (List rfO) := match S.2.1 with
  | .inl b :: .inl a :: st => if decide (0 ≤ (pc : Int) + off) then some (rf_br Lay c ((pc : Int) + off).toNat S st a b ++ rf_br Lay (rf_neg1 c) (pc + 3) S st a b) else none
  | _ => none
def rf_ifc (Lay : List rfL) (c : ClassFile.Cond) (pc : Nat) (off : Int) (S : rfS) : Option (List rfO) := match S.2.1 with
  | .inl a :: st => if decide (0 ≤ (pc : Int) + off) then some (rf_br Lay c ((pc : Int) + off).toNat S st a (rf_one 0, none) ++ rf_br Lay (rf_neg1 c) (pc + 3) S st a (rf_one 0, none)) else none
  | _ => none
theorem rf_neI {x y : Int32} (h : ¬ x = y) : x.toInt ≠ y.toInt := fun e => h (Int32.toInt_inj.mp e)
theorem rs_icmpG {c : ClassFile.Cond} {off : Int} (h : rf_icmp E.2.2.2.1 c pc off S = some outs) (hs : rf_st E S C) (k : ∀ (x y : Int32) (tgt : Nat) (st : List Value), C.2.1 = .int y :: .int x :: st → (pc : Int) + off = (tgt : Int) → (rf_holds c x.toInt y.toInt → rfW X tgt (C.1, st, C.2.2)) → (¬ rf_holds c x.toInt y.toInt → rfW X (pc + 3) (C.1, st, C.2.2)) → rfW X pc C) : rf_go X E outs pc C := by
  unfold rf_icmp at h
  obtain ⟨L, sc, ws⟩ := C
  obtain ⟨SL, sst, sf⟩ := S
  have h2 := hs.1.2.2.1
  match sst, sc, h, h2 with
  | .inl b :: .inl a :: st, u :: v :: sc, h, ⟨h3, h4, h5⟩ =>
    simp only at h
    split at h
    · next hn =>
      simp only [decide_eq_true_eq] at hn
      cases h
      obtain ⟨y, rfl, hy⟩ := h3
      obtain ⟨x, rfl, hx⟩ := h4
      intro K
      refine k x y ((pc : Int) + off).toNat sc rfl (by omega) (fun hc => ?_) (fun hc => ?_)
      · exact rf_br_go hs h5 hx hy hc (fun o ho => K o (List.mem_append_left _ ho))
      · exact rf_br_go hs h5 hx hy (rf_neg1_ok hc) (fun o ho => K o (List.mem_append_right _ ho))
    · cases h
  | .inl _ :: .inl _ :: _, [], _, h2 => exact h2.elim
  | .inl _ :: .inl _ :: _, [_], _, h2 => exact h2.2.elim
theorem rs_ifcG {c : ClassFile.Cond} {off : Int} (h : rf_ifc E.2.2.2.1 c pc off S = some outs) (hs : rf_st E S C) (k : ∀ (x : Int32) (tgt : Nat) (st : List Value), C.2.1 = .int x :: st → (pc : Int) + off = (tgt : Int) → (rf_holds c x.toInt 0 → rfW X tgt (C.1, st, C.2.2)) → (¬ rf_holds c x.toInt 0 → rfW X (pc + 3) (C.1, st, C.2.2)) → rfW X pc C) : rf_go X E outs pc C := by
  unfold rf_ifc at h
  obtain ⟨L, sc, ws⟩ := C
  obtain ⟨SL, sst, sf⟩ := S
  have h2 := hs.1.2.2.1
  match sst, sc, h, h2 with
  | .inl a :: st, v :: sc, h, ⟨h4, h5⟩ =>
    simp only at h
    split at h
    · next hn =>
      simp only [decide_eq_true_eq] at hn
      cases h
      obtain ⟨x, rfl, hx⟩ := h4
      intro K
      refine k x ((pc : Int) + off).toNat sc rfl (by omega) (fun hc => ?_) (fun hc => ?_)
      · exact rf_br_go (b := (rf_one 0, none)) hs h5 hx ⟨rf_one_in 0, trivial⟩ hc (fun o ho => K o (List.mem_append_left _ ho))
      · exact rf_br_go (b := (rf_one 0, none)) hs h5 hx ⟨rf_one_in 0, trivial⟩ (rf_neg1_ok hc) (fun o ho => K o (List.mem_append_right _ ho))
    · cases h
theorem rf_0I : (0 : Int32).toInt = 0 := by decide +kernel
theorem rs_icmp (F : rfFx X cc own Ts tys) {c : ClassFile.Cond} {off : Int} (hd : decode cc pc = .ok (.if_icmp c off, 3)) (h : rf_icmp E.2.2.2.1 c pc off S = some outs) (hs : rf_st E S C) : rf_go X E outs pc C :=
  rs_icmpG h hs fun x y tgt st e ht kt kf ls H locs hl hP hD hS => by
    rw [e]
    cases c
    · exact lv_icmp_eq F.1 F.2.1 hd ht (fun q => kt (by subst q; rfl) ls H locs hl hP hD hS) (fun q => kf (rf_neI q) ls H locs hl hP hD hS)
    · exact lv_icmp_ne F.1 F.2.1 hd ht (fun q => kt (rf_neI q) ls H locs hl hP hD hS) (fun q => kf (fun w => w (by subst q; rfl)) ls H locs hl hP hD hS)
    · exact lv_icmp_lt F.1 F.2.1 hd ht (fun q => kt (Int32.lt_iff_toInt_lt.mp q) ls H locs hl hP hD hS) (fun q => kf (fun w => q (Int32.lt_iff_toInt_lt.mpr w)) ls H locs hl hP hD hS)
    · exact lv_icmp_ge F.1 F.2.1 hd ht (fun q => kt (Int32.le_iff_toInt_le.mp q) ls H locs hl hP hD hS) (fun q => kf (fun w => q (Int32.le_iff_toInt_le.mpr w)) ls H locs hl hP hD hS)
    · exact lv_icmp_gt F.1 F.2.1 hd ht (fun q => kt (Int32.lt_iff_toInt_lt.mp q) ls H locs hl hP hD hS) (fun q => kf (fun w => q (Int32.lt_iff_toInt_lt.mpr w)) ls H locs hl hP hD hS)
    · exact lv_icmp_le F.1 F.2.1 hd ht (fun q => kt (Int32.le_iff_toInt_le.mp q) ls H locs hl hP hD hS) (fun q => kf (fun w => q (Int32.le_iff_toInt_le.mpr w)) ls H locs hl hP hD hS)
theorem rs_ifc (F : rfFx X cc own Ts tys) {c : ClassFile.Cond} {off : Int} (hd : decode cc pc = .ok (.ifCond c off, 3)) (h : rf_ifc E.2.2.2.1 c pc off S = some outs) (hs : rf_st E S C) : rf_go X E outs pc C :=
  rs_ifcG h hs fun x tgt st e ht kt kf ls H locs hl hP hD hS => by
    rw [e]
    cases c
    · exact lv_if_eq F.1 F.2.1 hd ht (fun q => kt (by subst q; exact rf_0I) ls H locs hl hP hD hS) (fun q => kf (fun w => rf_neI q (by rw [rf_0I]; exact w)) ls H locs hl hP hD hS)
    · exact lv_if_ne F.1 F.2.1 hd ht (fun q => kt (fun w => rf_neI q (by rw [rf_0I]; exact w)) ls H locs hl hP hD hS) (fun q => kf (fun w => w (by subst q; exact rf_0I)) ls H locs hl hP hD hS)
    · exact lv_if_lt F.1 F.2.1 hd ht (fun q => kt (by have := Int32.lt_iff_toInt_lt.mp q; rw [rf_0I] at this; exact this) ls H locs hl hP hD hS) (fun q => kf (fun w => q (Int32.lt_iff_toInt_lt.mpr (by rw [rf_0I]; exact w))) ls H locs hl hP hD hS)
    · exact lv_if_ge F.1 F.2.1 hd ht (fun q => kt (by have := Int32.le_iff_toInt_le.mp q; rw [rf_0I] at this; exact this) ls H locs hl hP hD hS) (fun q => kf (fun w => q (Int32.le_iff_toInt_le.mpr (by rw [rf_0I]; exact w))) ls H locs hl hP hD hS)
    · exact lv_if_gt F.1 F.2.1 hd ht (fun q => kt (by have := Int32.lt_iff_toInt_lt.mp q; rw [rf_0I] at this; exact this) ls H locs hl hP hD hS) (fun q => kf (fun w => q (Int32.lt_iff_toInt_lt.mpr (by rw [rf_0I]; exact w))) ls H locs hl hP hD hS)
    · exact lv_if_le F.1 F.2.1 hd ht (fun q => kt (by have := Int32.le_iff_toInt_le.mp q; rw [rf_0I] at this; exact this) ls H locs hl hP hD hS) (fun q => kf (fun w => q (Int32.le_iff_toInt_le.mpr (by rw [rf_0I]; exact w))) ls H locs hl hP hD hS)
def rf_goto (pc : Nat) (off : Int) (S : rfS) : Option (List rfO) := if decide (0 ≤ (pc : Int) + off) then some [(((pc : Int) + off).toNat, S, rf_d0)] else none
theorem rs_goto (F : rfFx X cc own Ts tys) {off : Int} (hd : decode cc pc = .ok (.goto off, 3)) (h : rf_goto pc off S = some outs) (hs : rf_st E S C) : rf_go X E outs pc C := by
  unfold rf_goto at h
  split at h
  · next hn =>
    simp only [decide_eq_true_eq] at hn
    cases h
    intro K ls H locs hl hP hD hS
    exact lv_goto (tgt := ((pc : Int) + off).toNat) F.1 F.2.1 hd (by omega) (K _ List.mem_cons_self C hs (rf_dl0 C C.2.1) ls H locs hl hP hD hS)
  · cases h
-- switches
def rf_sw (Lay : List rfL) (pc : Nat) (S : rfS) (st : List rfA) (a : rfR × rfY) : List (Int × Int) → Option (List rfO)
  | [] => some []
  | q :: qs => if decide (0 ≤ (pc : Int) + q.2) then (rf_sw Lay pc S st a qs).map (fun os => rf_br Lay .eq ((pc : Int) + q.2).toNat S st a (rf_one q.1, none) ++ os) else none
theorem rf_sw_go {st : List rfA} {a : rfR × rfY} : ∀ (ps : List (Int × Int)) (os : List rfO), rf_sw E.2.2.2.1 pc S st a ps = some os → ∀ q ∈ ps, 0 ≤ (pc : Int) + q.2 ∧ ∀ o ∈ rf_br E.2.2.2.1 .eq ((pc : Int) + q.2).toNat S st a (rf_one q.1, none), o ∈ os
  | [], _, _ => fun q hq => by cases hq
  | p :: ps, os, h => fun q hq => by
    unfold rf_sw at h
    split at h
    · next hn =>
      simp only [decide_eq_true_eq] at hn
      simp only [Option.map_eq_some_iff] at h
      obtain ⟨os', h', rfl⟩ := h
      rcases List.mem_cons.mp hq with e | hq
      · subst e
        exact ⟨hn, fun o ho => List.mem_append_left _ ho⟩
      · obtain ⟨h1, h2⟩ := rf_sw_go ps os' h' q hq
        exact ⟨h1, fun o ho => List.mem_append_right _ (h2 o ho)⟩
    · cases h
def rf_lsw (Lay : List rfL) (pc : Nat) (dflt : Int) (ps : List (Int × Int)) (S : rfS) : Option (List rfO) := match S.2.1 with
  | .inl a :: st => if decide (0 ≤ (pc : Int) + dflt) && (ps.zip (ps.drop 1)).all (fun (a, next) => a.1 < next.1) then (rf_sw Lay pc S st a ps).map (fun os => (((pc : Int) + dflt).toNat, (S.1, st, S.2.2), rf_d0) :: os) else none
  | _ => none
theorem rf_off : ∀ (ps : List (Int × Int)) (d x : Int), (∃ q ∈ ps, q.1 = x ∧ Op.lookupswitch.offset ps d x = q.2) ∨ Op.lookupswitch.offset ps d x = d
  | [], d, x => Or.inr rfl
  | (a, o) :: ps, d, x => by
    rw [Op.lookupswitch.offset_cons]
    split
    · next h => exact Or.inl ⟨(a, o), List.mem_cons_self, (by first | exact h | exact h.symm | simpa using h | (simp at h; exact h.symm)), rfl⟩
    · rcases rf_off ps d x with ⟨q, h1, h2, h3⟩ | h
      · exact Or.inl ⟨q, List.mem_cons_of_mem _ h1, h2, h3⟩
      · exact Or.inr h
theorem rs_lookup (F : rfFx X cc own Ts tys) {dflt : Int} {ps : Array (Int × Int)} {len : Nat} (hd : decode cc pc = .ok (.lookupswitch dflt ps, len)) (h : rf_lsw E.2.2.2.1 pc dflt ps.toList S = some outs) (hs : rf_st E S C) : rf_go X E outs pc C := by
  unfold rf_lsw at h
  obtain ⟨L, sc, ws⟩ := C
  obtain ⟨SL, sst, sf⟩ := S
  have h2 := hs.1.2.2.1
  match sst, sc, h, h2 with
  | .inl a :: st, v :: sc, h, ⟨h4, h5⟩ =>
    simp only at h
    split at h
    · next hn =>
      simp only [Bool.and_eq_true, decide_eq_true_eq] at hn
      simp only [Option.map_eq_some_iff] at h
      obtain ⟨os, ho, rfl⟩ := h
      obtain ⟨x, rfl, hx⟩ := h4
      intro K
      rcases rf_off ps.toList dflt x.toInt with ⟨q, h6, h7, h8⟩ | h8
      · obtain ⟨g1, g2⟩ := rf_sw_go _ _ ho q h6
        have k := rf_br_go (X := X) (tgt := ((pc : Int) + q.2).toNat) (y := q.1) (b := (rf_one q.1, none)) hs h5 hx ⟨rf_one_in q.1, trivial⟩ (show rf_holds .eq x.toInt q.1 from h7.symm) (fun o ho => K o (List.mem_cons_of_mem _ (g2 o ho)))
        intro ls H locs hl hP hD hS
        exact lv_lookup (tgt := ((pc : Int) + q.2).toNat) F.1 F.2.1 hd hn.2 h8 (by omega) (k ls H locs hl hP hD hS)
      · have k := K _ List.mem_cons_self (L, sc, ws) ⟨⟨hs.1.1, hs.1.2.1, h5, hs.1.2.2.2⟩, hs.2⟩ (rf_dl0 (L, .int x :: sc, ws) sc)
        intro ls H locs hl hP hD hS
        exact lv_lookup (tgt := ((pc : Int) + dflt).toNat) F.1 F.2.1 hd hn.2 h8 (by omega) (k ls H locs hl hP hD hS)
    · cases h
def rf_tpairs (lo : Int) : List Int → List (Int × Int)
  | [] => []
  | o :: os => (lo, o) :: rf_tpairs (lo + 1) os
theorem rf_tpairs_at : ∀ (os : List Int) (lo : Int) (k : Nat) (o : Int), os[k]? = some o → (lo + k, o) ∈ rf_tpairs lo os
  | [], _, k, o, h => by simp at h
  | p :: os, lo, 0, o, h => by
    simp only [List.getElem?_cons_zero, Option.some.injEq] at h
    subst h
    simp [rf_tpairs]
  | p :: os, lo, k + 1, o, h => by
    simp only [List.getElem?_cons_succ] at h
    have := rf_tpairs_at os (lo + 1) k o h
    refine List.mem_cons_of_mem _ ?_
    rw [show lo + ((k + 1 : Nat) : Int) = lo + 1 + (k : Int) by omega]
    exact this
def rf_tsw (Lay : List rfL) (pc : Nat) (dflt lo hi : Int) (offs : List Int) (S : rfS) : Option (List rfO) := match S.2.1 with
  | .inl a :: st => if decide (0 ≤ (pc : Int) + dflt) && decide (hi - lo < offs.length) then (rf_sw Lay pc S st a (rf_tpairs lo offs)).map (fun os => (if decide (lo ≤ a.1.1) && decide (a.1.2.1 ≤ hi) then [] else [(((pc : Int) + dflt).toNat, (S.1, st, S.2.2), rf_d0)]) ++ os) else none
  | _ => none
theorem rs_table (F : rfFx X cc own Ts tys) {dflt lo hi : Int} {offs : Array Int} {len : Nat} (hd : decode cc pc = .ok (.tableswitch dflt lo hi offs, len)) (h : rf_tsw E.2.2.2.1 pc dflt lo hi offs.toList S = some outs) (hs : rf_st E S C) : rf_go X E outs pc C := by
  unfold rf_tsw at h
  obtain ⟨L, sc, ws⟩ := C
  obtain ⟨SL, sst, sf⟩ := S
  have h2 := hs.1.2.2.1
  match sst, sc, h, h2 with
  | .inl a :: st, v :: sc, h, ⟨h4, h5⟩ =>
    simp only at h
    split at h
    · next hn =>
      simp only [Bool.and_eq_true, decide_eq_true_eq] at hn
      simp only [Option.map_eq_some_iff] at h
      obtain ⟨os, ho, rfl⟩ := h
      obtain ⟨x, rfl, hx⟩ := h4
      intro K
      by_cases hin : x.toInt < lo ∨ hi < x.toInt
      · have hm : ((((pc : Int) + dflt).toNat, (SL, st, sf), rf_d0) : rfO) ∈ (if decide (lo ≤ a.1.1) && decide (a.1.2.1 ≤ hi) then [] else [((((pc : Int) + dflt).toNat, (SL, st, sf), rf_d0) : rfO)]) ++ os := by
          rw [if_neg]
          · exact List.mem_append_left _ List.mem_cons_self
          · simp only [Bool.and_eq_true, decide_eq_true_eq]
            have := hx.1.1
            have := hx.1.2.1
            omega
        have k := K _ hm (L, sc, ws) ⟨⟨hs.1.1, hs.1.2.1, h5, hs.1.2.2.2⟩, hs.2⟩ (rf_dl0 (L, .int x :: sc, ws) sc)
        intro ls H locs hl hP hD hS
        exact lv_tableOut (tgt := ((pc : Int) + dflt).toNat) F.1 F.2.1 hd hin (by omega) (k ls H locs hl hP hD hS)
      · obtain ⟨o, hoo⟩ : ∃ o, offs.toList[(x.toInt - lo).toNat]? = some o := by
          have : (x.toInt - lo).toNat < offs.toList.length := by omega
          exact ⟨_, List.getElem?_eq_getElem this⟩
        have hp := rf_tpairs_at offs.toList lo _ o hoo
        rw [show lo + ((x.toInt - lo).toNat : Int) = x.toInt by omega] at hp
        obtain ⟨g1, g2⟩ := rf_sw_go _ _ ho _ hp
        have k := rf_br_go (X := X) (tgt := ((pc : Int) + o).toNat) (y := x.toInt) (b := (rf_one x.toInt, none)) hs h5 hx ⟨rf_one_in x.toInt, trivial⟩ (show rf_holds .eq x.toInt x.toInt from rfl) (fun o ho => K o (List.mem_append_right _ (g2 o ho)))
        intro ls H locs hl hP hD hS
        simp only at g1
        exact lv_tableIn (tgt := ((pc : Int) + o).toNat) F.1 F.2.1 hd (by omega) (by omega) (by rw [← Array.getElem?_toList]; exact hoo) (by omega) (k ls H locs hl hP hD hS)
    · cases h
end RfBranch
