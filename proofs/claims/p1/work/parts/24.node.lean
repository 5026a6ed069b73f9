/-! NODES: a method's abstract states, each with a rank that every step makes less; a method whose nodes check keeps its contract -/
section RfNode
variable {X : rfX} {E : rfE} {cc : ByteArray} {own : String} {S : rfS} {C : rfC} {pc : Nat} {outs : List rfO}
/-- pc, state, rank (a number and a factor for each of the method's rank variables), callee or way to end, the nodes behind -/
abbrev rfN : Type := Nat × rfS × (Int × List Int) × Nat × List Nat
def rf_rv (Lay : List rfL) (S : rfS) (v : rfV) : Option (Int × Int) := match v with
  | .inl i => (match rf_look S.1 i with
    | some (.inl (r, _)) => some (r.1, r.2.1)
    | _ => none)
  | .inr q => (match rf_fget Lay S.2.2 q.1 q.2 with
    | some u => some (u.1.1, u.1.2.1)
    | none => none)
theorem rf_rv_in (hs : rf_st E S C) {v : rfV} {a b : Int} (h : rf_rv E.2.2.2.1 S v = some (a, b)) : a ≤ rf_val C.1 C.2.2 v ∧ rf_val C.1 C.2.2 v ≤ b := by
  match v with
  | .inl i =>
    simp only [rf_rv] at h
    split at h
    · next r y hl =>
      cases h
      obtain ⟨v, hm, x, rfl, hr, -⟩ := hs.1.2.1 _ (rf_look_mem hl)
      simp only [rf_val, rf_get_of hs.1.1 hm, rf_num]
      exact ⟨hr.1, hr.2.1⟩
    · cases h
  | .inr q =>
    simp only [rf_rv] at h
    split at h
    · next u hu =>
      cases h
      obtain ⟨x, hx, hr, -⟩ := rf_fget_ok hs.2.1 hs.1.2.2.2 hu
      simp only at hx
      simp only [rf_val, hx, rf_num]
      exact ⟨hr.1, hr.2.1⟩
    · cases h
def rf_bnd (k : Int) (o : Option (Int × Int)) : Option Int := if decide (k = 0) then some 0 else (match o with
  | some q => some (if decide (0 ≤ k) then k * q.2 else k * q.1)
  | none => none)
theorem rf_bnd_le {k x u : Int} {o : Option (Int × Int)} (h : rf_bnd k o = some u) (ho : ∀ a b, o = some (a, b) → a ≤ x ∧ x ≤ b) : k * x ≤ u := by
  unfold rf_bnd at h
  split at h
  · next hk =>
    simp only [decide_eq_true_eq] at hk
    cases h
    rw [hk]
    simp
  · split at h
    · next q =>
      cases h
      obtain ⟨h1, h2⟩ := ho q.1 q.2 rfl
      split
      · next hk =>
        simp only [decide_eq_true_eq] at hk
        exact Int.mul_le_mul_of_nonneg_left h2 hk
      · next hk =>
        simp only [decide_eq_true_eq] at hk
        exact Int.mul_le_mul_of_nonpos_left (by omega) h1
    · cases h
def rf_ad2 (a b : Option Int) : Option Int := match a, b with
  | some x, some y => some (x + y)
  | _, _ => none
theorem rf_ad2_le {a b : Option Int} {x y u : Int} (h : rf_ad2 a b = some u) (ha : ∀ z, a = some z → x ≤ z) (hb : ∀ z, b = some z → y ≤ z) : x + y ≤ u := by
  match a, b, h with
  | some p, some q, h =>
    cases h
    have := ha p rfl
    have := hb q rfl
    omega
def rf_rk (vs : List rfV) (cs : List Int) (C : rfC) : Int := match vs, cs with
  | v :: vs, c :: cs => c * rf_val C.1 C.2.2 v + rf_rk vs cs C
  | _, _ => 0
/-- at most this the rank grows by (the constants apart) -/
def rf_dub (Lay : List rfL) (S T : rfS) (d : rfD) : List rfV → List Int → List Int → Option Int
  | v :: vs, a :: as, b :: bs => rf_ad2 (match d v with
    | none => rf_bnd (b - a) (rf_rv Lay S v)
    | some (some q) => rf_ad2 (rf_bnd (b - a) (rf_rv Lay S v)) (rf_bnd b (some q))
    | some none => rf_ad2 (rf_bnd b (rf_rv Lay T v)) (rf_bnd (-a) (rf_rv Lay S v))) (rf_dub Lay S T d vs as bs)
  | [], [], [] => some 0
  | _, _, _ => none
theorem rf_dub_le {T : rfS} {C' : rfC} {d : rfD} (hs : rf_st E S C) (ht : rf_st E T C') (hd : rf_dl d C C') : ∀ (vs : List rfV) (as bs : List Int) (u : Int), rf_dub E.2.2.2.1 S T d vs as bs = some u → rf_rk vs bs C' - rf_rk vs as C ≤ u
  | v :: vs, a :: as, b :: bs, u, h => by
    unfold rf_dub at h
    simp only [rf_rk]
    have ih : ∀ z, rf_dub E.2.2.2.1 S T d vs as bs = some z → rf_rk vs bs C' - rf_rk vs as C ≤ z := fun z hz => rf_dub_le hs ht hd vs as bs z hz
    have key : ∀ z, (match d v with
        | none => rf_bnd (b - a) (rf_rv E.2.2.2.1 S v)
        | some (some q) => rf_ad2 (rf_bnd (b - a) (rf_rv E.2.2.2.1 S v)) (rf_bnd b (some q))
        | some none => rf_ad2 (rf_bnd b (rf_rv E.2.2.2.1 T v)) (rf_bnd (-a) (rf_rv E.2.2.2.1 S v))) = some z → b * rf_val C'.1 C'.2.2 v - a * rf_val C.1 C.2.2 v ≤ z := by
      intro z hz
      have hv := hd v
      split at hz
      · next e =>
        rw [e] at hv
        simp only at hv
        have := rf_bnd_le (x := rf_val C.1 C.2.2 v) hz (fun p q h => rf_rv_in hs h)
        rw [hv]
        rw [Int.sub_mul] at this
        exact this
      · next q e =>
        rw [e] at hv
        obtain ⟨q1, q2⟩ := q
        simp only at hv
        have h1 := rf_ad2_le (x := (b - a) * rf_val C.1 C.2.2 v) (y := b * (rf_val C'.1 C'.2.2 v - rf_val C.1 C.2.2 v)) hz (fun w hw => rf_bnd_le hw (fun p q h => rf_rv_in hs h)) (fun w hw => rf_bnd_le hw (fun p q h => by cases h; omega))
        rw [Int.sub_mul, Int.mul_sub] at h1
        omega
      · have h1 := rf_ad2_le (x := b * rf_val C'.1 C'.2.2 v) (y := (-a) * rf_val C.1 C.2.2 v) hz (fun w hw => rf_bnd_le hw (fun p q h => rf_rv_in ht h)) (fun w hw => rf_bnd_le hw (fun p q h => rf_rv_in hs h))
        rw [Int.neg_mul] at h1
        omega
    have h2 := rf_ad2_le (x := b * rf_val C'.1 C'.2.2 v - a * rf_val C.1 C.2.2 v) (y := rf_rk vs bs C' - rf_rk vs as C) h key ih
    omega
  | [], [], [], u, h => by cases h; simp [rf_rk]
  | [], _ :: _, _, u, h => by simp [rf_dub] at h
  | [], [], _ :: _, u, h => by simp [rf_dub] at h
  | _ :: _, [], _, u, h => by simp [rf_dub] at h
  | _ :: _, _ :: _, [], u, h => by simp [rf_dub] at h
/-- at least this the rank is not less than nought -/
def rf_nub (Lay : List rfL) (T : rfS) : List rfV → List Int → Option Int
  | v :: vs, b :: bs => rf_ad2 (rf_bnd (-b) (rf_rv Lay T v)) (rf_nub Lay T vs bs)
  | [], [] => some 0
  | _, _ => none
theorem rf_nub_le {T : rfS} (ht : rf_st E T C) : ∀ (vs : List rfV) (bs : List Int) (u : Int), rf_nub E.2.2.2.1 T vs bs = some u → -rf_rk vs bs C ≤ u
  | v :: vs, b :: bs, u, h => by
    unfold rf_nub at h
    simp only [rf_rk]
    have h1 := rf_ad2_le (x := (-b) * rf_val C.1 C.2.2 v) (y := -rf_rk vs bs C) h (fun w hw => rf_bnd_le hw (fun p q h => rf_rv_in ht h)) (fun w hw => rf_nub_le ht vs bs w hw)
    rw [Int.neg_mul] at h1
    omega
  | [], [], u, h => by cases h; simp [rf_rk]
  | [], _ :: _, u, h => by cases h
  | _ :: _, [], u, h => by cases h
def rf_pos (Lay : List rfL) (vars : List rfV) (n : rfN) : Bool := match rf_nub Lay n.2.1 vars n.2.2.1.2 with
  | some u => decide (u ≤ n.2.2.1.1)
  | none => false
def rf_lessr (Lay : List rfL) (vars : List rfV) (n T : rfN) (d : rfD) : Bool := match rf_dub Lay n.2.1 T.2.1 d vars n.2.2.1.2 T.2.2.1.2 with
  | some u => decide (T.2.2.1.1 - n.2.2.1.1 + u ≤ -1)
  | none => false
/-- the locals that a contract's ways to end speak of: they stay what they were -/
def rf_kp (M : rfM) : List Nat := (mK M).flatMap (fun k => k.2.1.map (fun q => q.1))
def rf_keeps (ks : List Nat) (d : rfD) : Bool := ks.all (fun i => (match d (.inl i) with
  | none => true
  | some _ => false))
def rf_outs (Lay : List rfL) (vars : List rfV) (ks : List Nat) (N : List rfN) (n : rfN) : List rfO → List Nat → Bool
  | [], [] => true
  | o :: os, i :: is => (match N[i]? with
    | some T => o.1 == T.1 && rf_le Lay o.2.1 T.2.1 && rf_lessr Lay vars n T o.2.2 && rf_keeps ks o.2.2
    | none => false) && rf_outs Lay vars ks N n os is
  | _, _ => false
theorem rf_outs_at {Lay : List rfL} {vars : List rfV} {ks : List Nat} {N : List rfN} {n : rfN} : ∀ (os : List rfO) (is : List Nat), rf_outs Lay vars ks N n os is = true → ∀ o ∈ os, ∃ (i : Nat) (T : rfN), N[i]? = some T ∧ o.1 = T.1 ∧ rf_le Lay o.2.1 T.2.1 = true ∧ rf_lessr Lay vars n T o.2.2 = true ∧ rf_keeps ks o.2.2 = true
  | [], [], _ => fun o ho => by cases ho
  | o :: os, i :: is, h => fun o' ho => by
    simp only [rf_outs, Bool.and_eq_true] at h
    rcases List.mem_cons.mp ho with e | ho
    · subst e
      cases hT : N[i]? with
      | none => rw [hT] at h; cases h.1
      | some T =>
        rw [hT] at h
        simp only [Bool.and_eq_true, beq_iff_eq] at h
        exact ⟨i, T, hT, h.1.1.1.1, h.1.1.1.2, h.1.1.2, h.1.2⟩
    · exact rf_outs_at os is h.2 o' ho
  | [], _ :: _, h => by cases h
  | _ :: _, [], h => by cases h
/-- a return that keeps the contract by its way k -/
def rf_retv (Lay : List rfL) (M : rfM) (k : rfK) (S : rfS) : Bool := (match k.1, S.2.1 with
    | none, [] => true
    | some a, [b] => rf_ainc (rf_bare b) a
    | _, _ => false) && k.2.1.all (fun q => (match rf_look S.1 q.1, (mA M)[q.1]? with
    | some (.inl (r, _)), some (.inl _) => decide (q.2.1 ≤ r.1) && decide (r.2.1 ≤ q.2.2)
    | _, _ => false)) && k.2.2.all (rf_finc Lay S.2.2)
def rf_isbit (S : rfS) : Bool := match S.2.1 with
  | .inl (r, _) :: _ => decide (0 ≤ r.1) && decide (r.2.1 ≤ 1)
  | _ => false
def rf_ret (Lay : List rfL) (M : rfM) (i : Instr) (n : Nat) (S : rfS) : Bool := (match (mK M)[n]? with
  | some k => rf_retv Lay M k S
  | none => false) && (match i with
  | .ireturn => (match mr M, S.2.1 with
    | some .int, .inl _ :: _ => true
    | some .boolean, .inl _ :: _ => rf_isbit S
    | some .char, .inl (r, _) :: _ => decide (0 ≤ r.1) && decide (r.2.1 ≤ 65535)
    | some .byte, .inl (r, _) :: _ => decide (-128 ≤ r.1) && decide (r.2.1 ≤ 127)
    | _, _ => false)
  | .areturn => (match mr M, S.2.1 with
    | some (.object _), .inr (.inl _) :: _ => true
    | _, _ => false)
  | .return_ => (match mr M, S.2.1 with
    | none, [] => true
    | _, _ => false)
  | _ => false)
def rf_decs (cc : ByteArray) (dec : List (Nat × Instr × Nat)) : Prop := ∀ q ∈ dec, decode cc q.1 = .ok (q.2.1, q.2.2)
def rf_dget (dec : List (Nat × Instr × Nat)) (pc : Nat) : Option (Instr × Nat) := (dec.find? (fun q => q.1 == pc)).map (fun q => q.2)
theorem rf_dget_ok {dec : List (Nat × Instr × Nat)} (h : rf_decs cc dec) {i : Instr} {len : Nat} (hg : rf_dget dec pc = some (i, len)) : decode cc pc = .ok (i, len) := by
  unfold rf_dget at hg
  cases hf : dec.find? (fun q => q.1 == pc) with
  | none => rw [hf] at hg; cases hg
  | some u =>
    rw [hf] at hg
    have h1 := List.mem_of_find?_eq_some hf
    have h2 := List.find?_some hf
    simp only [beq_iff_eq] at h2
    simp only [Option.map_some, Option.some.injEq] at hg
    have := h u h1
    rw [h2, hg] at this
    exact this
def rf_isret (i : Instr) : Bool := match i with
  | .ireturn => true
  | .areturn => true
  | .return_ => true
  | _ => false
/-- nodes that only tell cases apart: by the value of a variable (1000000 + the cut's number), by the cell that a local refers to (2000000 + the local) -/
abbrev rfU : Type := List (rfV × List (Int × Int))
def rf_cover (lo hi : Int) : List (Int × Int) → Bool
  | [] => decide (hi < lo)
  | q :: qs => decide (q.1 ≤ lo) && rf_cover (q.2 + 1) hi qs
theorem rf_cover_at : ∀ (qs : List (Int × Int)) (lo hi x : Int), rf_cover lo hi qs = true → lo ≤ x → x ≤ hi → ∃ q ∈ qs, q.1 ≤ x ∧ x ≤ q.2
  | [], lo, hi, x, h, h1, h2 => by simp only [rf_cover, decide_eq_true_eq] at h; omega
  | q :: qs, lo, hi, x, h, h1, h2 => by
    simp only [rf_cover, Bool.and_eq_true, decide_eq_true_eq] at h
    rcases Int.lt_or_le q.2 x with h3 | h3
    · obtain ⟨u, hu, h4⟩ := rf_cover_at qs (q.2 + 1) hi x h.2 (by omega) h2
      exact ⟨u, List.mem_cons_of_mem _ hu, h4⟩
    · exact ⟨q, List.mem_cons_self, by omega, h3⟩
def rf_cut (Lay : List rfL) (u : rfV × List (Int × Int)) (pc : Nat) (S : rfS) : Option (List rfO) := match rf_rv Lay S u.1 with
  | some (lo, hi) => if rf_cover lo hi u.2 then some (u.2.filterMap (fun q => if rf_dead (rf_refv Lay S (some (u.1, some 0)) (q.1, q.2, 1)) then none else some (pc, rf_refv Lay S (some (u.1, some 0)) (q.1, q.2, 1), rf_d0))) else none
  | none => none
theorem rs_cut {u : rfV × List (Int × Int)} (h : rf_cut E.2.2.2.1 u pc S = some outs) (hs : rf_st E S C) : rf_go X E outs pc C := by
  unfold rf_cut at h
  split at h
  · next lo hi hr =>
    split at h
    · next hc =>
      cases h
      obtain ⟨h1, h2⟩ := rf_rv_in hs hr
      obtain ⟨q, hq, h3, h4⟩ := rf_cover_at _ _ _ _ hc h1 h2
      intro K
      have hst : rf_st E (rf_refv E.2.2.2.1 S (some (u.1, some 0)) (q.1, q.2, 1)) C := ⟨rf_refv_ok hs.2.1 hs.1 (x := rf_val C.1 C.2.2 u.1) (by simp [rf_sy]) (rf_in1 h3 h4), hs.2⟩
      refine K (pc, rf_refv E.2.2.2.1 S (some (u.1, some 0)) (q.1, q.2, 1), rf_d0) (List.mem_filterMap.mpr ⟨q, hq, ?_⟩) C hst (rf_dl0 C C.2.1)
      rw [rf_dead_no hst.1]
      rfl
    · cases h
  · cases h
def rf_setr (i j : Nat) (S : rfS) : rfS := (S.1.map (fun q => if q.1 == i then (q.1, .inr (.inl [j])) else q), S.2)
def rf_cutr (i : Nat) (pc : Nat) (S : rfS) : Option (List rfO) := match rf_look S.1 i with
  | some (.inr (.inl js)) => some (js.map (fun j => (pc, rf_setr i j S, rf_d0)))
  | _ => none
theorem rs_cutr {i : Nat} (h : rf_cutr i pc S = some outs) (hs : rf_st E S C) : rf_go X E outs pc C := by
  unfold rf_cutr at h
  split at h
  · next js hl =>
    cases h
    obtain ⟨v, hm, j, hj, rfl⟩ := hs.1.2.1 _ (rf_look_mem hl)
    intro K
    refine K (pc, rf_setr i j S, rf_d0) (List.mem_map.mpr ⟨j, hj, rfl⟩) C ⟨⟨hs.1.1, fun q hq => ?_, hs.1.2.2.1, hs.1.2.2.2⟩, hs.2⟩ (rf_dl0 C C.2.1)
    obtain ⟨q0, hq0, rfl⟩ := List.mem_map.mp hq
    obtain ⟨w, h1, h2⟩ := hs.1.2.1 q0 hq0
    by_cases e : q0.1 = i
    · simp only [e, beq_self_eq_true, if_true]
      exact ⟨_, hm, j, List.mem_cons_self, rfl⟩
    · have e' : (q0.1 == i) = false := by simpa using e
      simp only [e']
      exact ⟨w, h1, h2⟩
  · cases h
def rf_tell (U : rfU) (Lay : List rfL) (n pc : Nat) (S : rfS) : Option (List rfO) := if decide (2000000 ≤ n) then rf_cutr (n - 2000000) pc S else (match U[n - 1000000]? with
  | some u => rf_cut Lay u pc S
  | none => none)
theorem rs_tell {U : rfU} {n : Nat} (h : rf_tell U E.2.2.2.1 n pc S = some outs) (hs : rf_st E S C) : rf_go X E outs pc C := by
  unfold rf_tell at h
  split at h
  · exact rs_cutr h hs
  · split at h
    · exact rs_cut h hs
    · cases h
def rf_node (P : rfP) (U : rfU) (Lay : List rfL) (M : rfM) (dec : List (Nat × Instr × Nat)) (vars : List rfV) (N : List rfN) (n : rfN) : Bool := rf_pos Lay vars n && (if decide (1000000 ≤ n.2.2.2.1) then (match rf_tell U Lay n.2.2.2.1 n.1 n.2.1 with
    | some os => rf_outs Lay vars (rf_kp M) N n os n.2.2.2.2
    | none => false)
  else (match rf_dget dec n.1 with
  | some (i, len) => if rf_isret i then rf_ret Lay M i n.2.2.2.1 n.2.1 && len == 1 else rf_lenok i len && (match rf_step P Lay (mM M) (mL M) M.2.1.1 M.2.1.2 n.1 i n.2.2.2.1 n.2.1 with
    | some os => rf_outs Lay vars (rf_kp M) N n os n.2.2.2.2
    | none => false)
  | none => false))
end RfNode
