/-! DISTANCE: the rule of the table; it is what steps reach; letters of a number -/
section Dst
variable {x y : Nat → Int}
def dstN (x y : Nat → Int) : Nat → Nat → Nat → Int
  | 0, _, _ => 0
  | n + 1, i, j => if i = 0 then (j : Int) else if j = 0 then (i : Int) else if x (i - 1) = y (j - 1) then dstN x y n (i - 1) (j - 1) else
      if 2 ≤ i ∧ 2 ≤ j ∧ x (i - 1) = y (j - 2) ∧ x (i - 2) = y (j - 1) then min (1 + min (dstN x y n (i - 1) (j - 1)) (min (dstN x y n (i - 1) j) (dstN x y n i (j - 1)))) (dstN x y n (i - 2) (j - 2) + 1)
      else 1 + min (dstN x y n (i - 1) (j - 1)) (min (dstN x y n (i - 1) j) (dstN x y n i (j - 1)))
theorem dstN_s (n i j : Nat) : dstN x y (n + 1) i j = if i = 0 then (j : Int) else if j = 0 then (i : Int) else if x (i - 1) = y (j - 1) then dstN x y n (i - 1) (j - 1) else
      if 2 ≤ i ∧ 2 ≤ j ∧ x (i - 1) = y (j - 2) ∧ x (i - 2) = y (j - 1) then min (1 + min (dstN x y n (i - 1) (j - 1)) (min (dstN x y n (i - 1) j) (dstN x y n i (j - 1)))) (dstN x y n (i - 2) (j - 2) + 1)
      else 1 + min (dstN x y n (i - 1) (j - 1)) (min (dstN x y n (i - 1) j) (dstN x y n i (j - 1))) := rfl
theorem dstN_any : ∀ (n m i j : Nat), i + j ≤ n → i + j ≤ m → dstN x y n i j = dstN x y m i j := by
  intro n
  induction n with
  | zero =>
    intro m i j h1 h2
    have e1 : i = 0 := by omega
    have e2 : j = 0 := by omega
    subst e1; subst e2
    cases m with
    | zero => rfl
    | succ m => rw [dstN_s, if_pos rfl]; rfl
  | succ n ih =>
    intro m i j h1 h2
    cases m with
    | zero =>
      have e1 : i = 0 := by omega
      have e2 : j = 0 := by omega
      subst e1; subst e2
      rw [dstN_s, if_pos rfl]; rfl
    | succ m =>
      rw [dstN_s n, dstN_s m]
      by_cases hi : i = 0
      · rw [if_pos hi, if_pos hi]
      by_cases hj : j = 0
      · rw [if_neg hi, if_neg hi, if_pos hj, if_pos hj]
      rw [if_neg hi, if_neg hi, if_neg hj, if_neg hj, ih m (i - 1) (j - 1) (by omega) (by omega), ih m (i - 1) j (by omega) (by omega), ih m i (j - 1) (by omega) (by omega), ih m (i - 2) (j - 2) (by omega) (by omega)]
/-- how far i letters of x are from j letters of y -/
def dst (x y : Nat → Int) (i j : Nat) : Int := dstN x y (i + j) i j
theorem dst_0 (j : Nat) : dst x y 0 j = (j : Int) := by
  unfold dst
  cases j with
  | zero => rfl
  | succ j => rw [show 0 + (j + 1) = j + 1 by omega, dstN_s, if_pos rfl]
theorem dst_i0 (i : Nat) : dst x y i 0 = (i : Int) := by
  unfold dst
  cases i with
  | zero => rfl
  | succ i => rw [show i + 1 + 0 = i + 1 by omega, dstN_s, if_neg (by omega), if_pos rfl]
theorem dst_ss (i j : Nat) : dst x y (i + 1) (j + 1) = if x i = y j then dst x y i j else
    if 2 ≤ i + 1 ∧ 2 ≤ j + 1 ∧ x i = y (j - 1) ∧ x (i - 1) = y j then min (1 + min (dst x y i j) (min (dst x y i (j + 1)) (dst x y (i + 1) j))) (dst x y (i - 1) (j - 1) + 1)
    else 1 + min (dst x y i j) (min (dst x y i (j + 1)) (dst x y (i + 1) j)) := by
  have e := dstN_s (x := x) (y := y) (i + j + 1) (i + 1) (j + 1)
  rw [if_neg (by omega), if_neg (by omega)] at e
  have a1 : dstN x y (i + j + 1) (i + 1 - 1) (j + 1 - 1) = dst x y i j := dstN_any _ _ _ _ (by omega) (by omega)
  have a2 : dstN x y (i + j + 1) (i + 1 - 1) (j + 1) = dst x y i (j + 1) := dstN_any _ _ _ _ (by omega) (by omega)
  have a3 : dstN x y (i + j + 1) (i + 1) (j + 1 - 1) = dst x y (i + 1) j := dstN_any _ _ _ _ (by omega) (by omega)
  have a4 : dstN x y (i + j + 1) (i + 1 - 2) (j + 1 - 2) = dst x y (i - 1) (j - 1) := dstN_any _ _ _ _ (by omega) (by omega)
  rw [a1, a2, a3, a4] at e
  have a0 : dst x y (i + 1) (j + 1) = dstN x y (i + j + 1 + 1) (i + 1) (j + 1) := dstN_any _ _ _ _ (by omega) (by omega)
  rw [a0]
  exact e
theorem dst_eq {i j : Nat} (h : x i = y j) : dst x y (i + 1) (j + 1) = dst x y i j := by rw [dst_ss, if_pos h]
def dsw (x y : Nat → Int) (i j : Nat) : Prop := 1 ≤ i ∧ 1 ≤ j ∧ x i = y (j - 1) ∧ x (i - 1) = y j
theorem dst_ne {i j : Nat} (h : ¬ x i = y j) : dst x y (i + 1) (j + 1) ≤ dst x y i j + 1 ∧ dst x y (i + 1) (j + 1) ≤ dst x y i (j + 1) + 1 ∧ dst x y (i + 1) (j + 1) ≤ dst x y (i + 1) j + 1 ∧ (dsw x y i j → dst x y (i + 1) (j + 1) ≤ dst x y (i - 1) (j - 1) + 1) ∧
    (dst x y (i + 1) (j + 1) = dst x y i j + 1 ∨ dst x y (i + 1) (j + 1) = dst x y i (j + 1) + 1 ∨ dst x y (i + 1) (j + 1) = dst x y (i + 1) j + 1 ∨ (dsw x y i j ∧ dst x y (i + 1) (j + 1) = dst x y (i - 1) (j - 1) + 1)) := by
  rw [dst_ss, if_neg h]
  generalize dst x y i j = a
  generalize dst x y i (j + 1) = b
  generalize dst x y (i + 1) j = d
  generalize dst x y (i - 1) (j - 1) = e
  by_cases hs : dsw x y i j
  · have hs2 : 2 ≤ i + 1 ∧ 2 ≤ j + 1 ∧ x i = y (j - 1) ∧ x (i - 1) = y j := ⟨by have := hs.1; omega, by have := hs.2.1; omega, hs.2.2.1, hs.2.2.2⟩
    rw [if_pos hs2]
    refine ⟨by omega, by omega, by omega, fun _ => by omega, ?_⟩
    have : min (1 + min a (min b d)) (e + 1) = a + 1 ∨ min (1 + min a (min b d)) (e + 1) = b + 1 ∨ min (1 + min a (min b d)) (e + 1) = d + 1 ∨ min (1 + min a (min b d)) (e + 1) = e + 1 := by omega
    rcases this with q | q | q | q
    · exact Or.inl q
    · exact Or.inr (Or.inl q)
    · exact Or.inr (Or.inr (Or.inl q))
    · exact Or.inr (Or.inr (Or.inr ⟨hs, q⟩))
  · have hs2 : ¬ (2 ≤ i + 1 ∧ 2 ≤ j + 1 ∧ x i = y (j - 1) ∧ x (i - 1) = y j) := fun q => hs ⟨by omega, by omega, q.2.2.1, q.2.2.2⟩
    rw [if_neg hs2]
    refine ⟨by omega, by omega, by omega, fun q => absurd q hs, ?_⟩
    have : 1 + min a (min b d) = a + 1 ∨ 1 + min a (min b d) = b + 1 ∨ 1 + min a (min b d) = d + 1 := by omega
    rcases this with q | q | q
    · exact Or.inl q
    · exact Or.inr (Or.inl q)
    · exact Or.inr (Or.inr (Or.inl q))
theorem dst_lip (n : Nat) : ∀ i j : Nat, i + j ≤ n → (dst x y i (j + 1) ≤ dst x y i j + 1 ∧ dst x y i j ≤ dst x y i (j + 1) + 1) ∧ (dst x y (i + 1) j ≤ dst x y i j + 1 ∧ dst x y i j ≤ dst x y (i + 1) j + 1) := by
  induction n with
  | zero =>
    intro i j h
    have e1 : i = 0 := by omega
    have e2 : j = 0 := by omega
    subst e1; subst e2
    rw [dst_0, dst_0, dst_i0]
    omega
  | succ n ih =>
    intro i j h
    constructor
    · cases i with
      | zero => rw [dst_0, dst_0]; omega
      | succ i =>
        have hI := ih i j (by omega)
        by_cases e : x i = y j
        · rw [dst_eq e]; omega
        · obtain ⟨a1, a2, a3, a4, a5⟩ := dst_ne e
          refine ⟨by omega, ?_⟩
          rcases a5 with a5 | a5 | a5 | ⟨⟨s1, s2, s3, s4⟩, a5⟩
          · omega
          · omega
          · omega
          · obtain ⟨j', rfl⟩ : ∃ j', j = j' + 1 := ⟨j - 1, by omega⟩
            obtain ⟨i', rfl⟩ : ∃ i', i = i' + 1 := ⟨i - 1, by omega⟩
            have hk := ih i' j' (by omega)
            have e2 : dst x y (i' + 1 + 1) (j' + 1) = dst x y (i' + 1) j' := dst_eq s3
            have a5 : dst x y (i' + 1 + 1) (j' + 1 + 1) = dst x y i' j' + 1 := a5
            rw [e2, a5]
            omega
    · cases j with
      | zero => rw [dst_i0, dst_i0]; omega
      | succ j =>
        have hI := ih i j (by omega)
        by_cases e : x i = y j
        · rw [dst_eq e]; omega
        · obtain ⟨a1, a2, a3, a4, a5⟩ := dst_ne e
          refine ⟨by omega, ?_⟩
          rcases a5 with a5 | a5 | a5 | ⟨⟨s1, s2, s3, s4⟩, a5⟩
          · omega
          · omega
          · omega
          · obtain ⟨j', rfl⟩ : ∃ j', j = j' + 1 := ⟨j - 1, by omega⟩
            obtain ⟨i', rfl⟩ : ∃ i', i = i' + 1 := ⟨i - 1, by omega⟩
            have hk := ih i' j' (by omega)
            have e2 : dst x y (i' + 1) (j' + 1 + 1) = dst x y i' (j' + 1) := dst_eq s4
            have a5 : dst x y (i' + 1 + 1) (j' + 1 + 1) = dst x y i' j' + 1 := a5
            rw [e2, a5]
            omega
theorem dst_lo (n : Nat) : ∀ i j : Nat, i + j ≤ n → 0 ≤ dst x y i j := by
  induction n with
  | zero =>
    intro i j h
    have e1 : i = 0 := by omega
    subst e1
    rw [dst_0]; omega
  | succ n ih =>
    intro i j h
    cases i with
    | zero => rw [dst_0]; omega
    | succ i =>
      cases j with
      | zero => rw [dst_i0]; omega
      | succ j =>
        by_cases e : x i = y j
        · rw [dst_eq e]; exact ih i j (by omega)
        · obtain ⟨-, -, -, -, a5⟩ := dst_ne e
          have b1 := ih i j (by omega)
          have b2 := ih i (j + 1) (by omega)
          have b3 := ih (i + 1) j (by omega)
          have b4 := ih (i - 1) (j - 1) (by omega)
          rcases a5 with a5 | a5 | a5 | ⟨-, a5⟩ <;> omega
theorem dst_pos {i j : Nat} (h : ¬ x i = y j) : 1 ≤ dst x y (i + 1) (j + 1) := by
  obtain ⟨-, -, -, -, a5⟩ := dst_ne h
  have b1 := dst_lo (x := x) (y := y) _ i j (Nat.le_refl _)
  have b2 := dst_lo (x := x) (y := y) _ i (j + 1) (Nat.le_refl _)
  have b3 := dst_lo (x := x) (y := y) _ (i + 1) j (Nat.le_refl _)
  have b4 := dst_lo (x := x) (y := y) _ (i - 1) (j - 1) (Nat.le_refl _)
  rcases a5 with a5 | a5 | a5 | ⟨-, a5⟩ <;> omega
theorem dst_hi (i j : Nat) : dst x y i j ≤ (i : Int) + j := by
  induction i with
  | zero => rw [dst_0]; omega
  | succ i ih =>
    have := (dst_lip (x := x) (y := y) _ i j (Nat.le_refl _)).2.1
    omega
/-- what one step more reaches, letters alike not yet gone along -/
def dZ (x y : Nat → Int) (n : Int) (i j : Nat) : Prop := dst x y i j ≤ n ∨ (1 ≤ j ∧ dst x y i (j - 1) ≤ n) ∨ (1 ≤ i ∧ dst x y (i - 1) j ≤ n) ∨ (1 ≤ i ∧ 1 ≤ j ∧ dst x y (i - 1) (j - 1) ≤ n) ∨ (2 ≤ i ∧ 2 ≤ j ∧ x (i - 2) = y (j - 1) ∧ x (i - 1) = y (j - 2) ∧ dst x y (i - 2) (j - 2) ≤ n)
theorem dst_diag (i j : Nat) : dst x y (i + 1) (j + 1) ≤ dst x y i j + 1 := by
  by_cases e : x i = y j
  · rw [dst_eq e]; omega
  · exact (dst_ne e).1
theorem dZ_to {n : Int} {i j : Nat} (h : dZ x y n i j) : dst x y i j ≤ n + 1 := by
  rcases h with h | ⟨h1, h⟩ | ⟨h1, h⟩ | ⟨h1, h2, h⟩ | ⟨h1, h2, h3, h4, h⟩
  · omega
  · obtain ⟨j, rfl⟩ : ∃ j', j = j' + 1 := ⟨j - 1, by omega⟩
    have := (dst_lip (x := x) (y := y) _ i j (Nat.le_refl _)).1.1
    have h : dst x y i j ≤ n := h
    omega
  · obtain ⟨i, rfl⟩ : ∃ i', i = i' + 1 := ⟨i - 1, by omega⟩
    have := (dst_lip (x := x) (y := y) _ i j (Nat.le_refl _)).2.1
    have h : dst x y i j ≤ n := h
    omega
  · obtain ⟨i, rfl⟩ : ∃ i', i = i' + 1 := ⟨i - 1, by omega⟩
    obtain ⟨j, rfl⟩ : ∃ j', j = j' + 1 := ⟨j - 1, by omega⟩
    have := dst_diag (x := x) (y := y) i j
    have h : dst x y i j ≤ n := h
    omega
  · obtain ⟨i, rfl⟩ : ∃ i', i = i' + 2 := ⟨i - 2, by omega⟩
    obtain ⟨j, rfl⟩ : ∃ j', j = j' + 2 := ⟨j - 2, by omega⟩
    have h : dst x y i j ≤ n := h
    have h3 : x i = y (j + 1) := h3
    have h4 : x (i + 1) = y j := h4
    show dst x y (i + 1 + 1) (j + 1 + 1) ≤ n + 1
    by_cases e : x (i + 1) = y (j + 1)
    · rw [dst_eq e, dst_eq (show x i = y j by rw [h3, ← e, h4])]
      omega
    · have := (dst_ne e).2.2.2.1 ⟨by omega, by omega, h4, h3⟩
      have this : dst x y (i + 1 + 1) (j + 1 + 1) ≤ dst x y i j + 1 := this
      omega
theorem dZ_of {n : Int} {i j : Nat} (e : ¬ x i = y j) (h : dst x y (i + 1) (j + 1) ≤ n + 1) : dZ x y n (i + 1) (j + 1) := by
  obtain ⟨-, -, -, -, a5⟩ := dst_ne e
  rcases a5 with a5 | a5 | a5 | ⟨⟨s1, s2, s3, s4⟩, a5⟩
  · exact Or.inr (Or.inr (Or.inr (Or.inl ⟨by omega, by omega, show dst x y i j ≤ n by omega⟩)))
  · exact Or.inr (Or.inr (Or.inl ⟨by omega, show dst x y i (j + 1) ≤ n by omega⟩))
  · exact Or.inr (Or.inl ⟨by omega, show dst x y (i + 1) j ≤ n by omega⟩)
  · exact Or.inr (Or.inr (Or.inr (Or.inr ⟨by omega, by omega, show x (i - 1) = y j from s4, show x i = y (j - 1) from s3, show dst x y (i - 1) (j - 1) ≤ n by omega⟩)))
theorem dZ_0 {n : Int} (hn : 0 ≤ n) {j : Nat} (h : dst x y 0 j ≤ n + 1) : dZ x y n 0 j := by
  rw [dst_0] at h
  by_cases q : (j : Int) ≤ n
  · exact Or.inl (by rw [dst_0]; exact q)
  · exact Or.inr (Or.inl ⟨by omega, by rw [dst_0]; omega⟩)
theorem dZ_i0 {n : Int} (hn : 0 ≤ n) {i : Nat} (h : dst x y i 0 ≤ n + 1) : dZ x y n i 0 := by
  rw [dst_i0] at h
  by_cases q : (i : Int) ≤ n
  · exact Or.inl (by rw [dst_i0]; exact q)
  · exact Or.inr (Or.inr (Or.inl ⟨by omega, by rw [dst_i0]; omega⟩))
/-- letters alike gone along: what is reached -/
def dAl (x y : Nat → Int) (a b : Nat) (Z C : Nat → Nat → Prop) : Prop := (∀ j, j ≤ b → (C 0 j ↔ Z 0 j)) ∧ (∀ i, i < a → (C (i + 1) 0 ↔ Z (i + 1) 0)) ∧ ∀ i j, i < a → j < b → (C (i + 1) (j + 1) ↔ (Z (i + 1) (j + 1) ∨ (C i j ∧ x i = y j)))
theorem dAl_step {n : Int} (hn : 0 ≤ n) {a b : Nat} {Z C : Nat → Nat → Prop} (hZ : ∀ i j, i ≤ a → j ≤ b → (Z i j ↔ dZ x y n i j)) (h : dAl x y a b Z C) : ∀ i j, i ≤ a → j ≤ b → (C i j ↔ dst x y i j ≤ n + 1) := by
  intro i
  induction i with
  | zero =>
    intro j _ hj
    rw [h.1 j hj, hZ 0 j (by omega) hj]
    exact ⟨dZ_to, dZ_0 hn⟩
  | succ i ih =>
    intro j hi hj
    cases j with
    | zero =>
      rw [h.2.1 i (by omega), hZ _ _ hi hj]
      exact ⟨dZ_to, dZ_i0 hn⟩
    | succ j =>
      rw [h.2.2 i j (by omega) (by omega), hZ _ _ hi hj, ih j (by omega) (by omega)]
      constructor
      · rintro (q | ⟨q, e⟩)
        · exact dZ_to q
        · rw [dst_eq e]; exact q
      · intro q
        by_cases e : x i = y j
        · exact Or.inr ⟨by rw [dst_eq e] at q; exact q, e⟩
        · exact Or.inl (dZ_of e q)
theorem dAl_first {a b : Nat} {Z C : Nat → Nat → Prop} (hZ : ∀ i j, i ≤ a → j ≤ b → (Z i j ↔ (i = 0 ∧ j = 0))) (h : dAl x y a b Z C) : ∀ i j, i ≤ a → j ≤ b → (C i j ↔ dst x y i j ≤ 0) := by
  intro i
  induction i with
  | zero =>
    intro j _ hj
    rw [h.1 j hj, hZ 0 j (by omega) hj, dst_0]
    omega
  | succ i ih =>
    intro j hi hj
    cases j with
    | zero =>
      rw [h.2.1 i (by omega), hZ _ _ hi hj, dst_i0]
      omega
    | succ j =>
      rw [h.2.2 i j (by omega) (by omega), hZ _ _ hi hj, ih j (by omega) (by omega)]
      constructor
      · rintro (q | ⟨q, e⟩)
        · omega
        · rw [dst_eq e]; exact q
      · intro q
        by_cases e : x i = y j
        · exact Or.inr ⟨by rw [dst_eq e] at q; exact q, e⟩
        · have := dst_pos e
          omega
/-- letters of a number, 27 signs -/
def dvn (v : Int) : Nat → Int
  | 0 => v
  | n + 1 => dvn v n / 27
def lenI (v : Int) : Nat := if v < 1 then 0 else if v < 27 then 1 else if v < 729 then 2 else if v < 19683 then 3 else if v < 531441 then 4 else if v < 14348907 then 5 else 6
theorem lenI_le (v : Int) : lenI v ≤ 6 := by
  unfold lenI
  split <;> (try omega)
  split <;> (try omega)
  split <;> (try omega)
  split <;> (try omega)
  split <;> (try omega)
  split <;> omega
/-- the k-th letter -/
def ltI (v : Int) (k : Nat) : Int := dvn v (lenI v - 1 - k) % 27
/-- it can be -/
def cbI (v : Int) : Prop := 0 ≤ v ∧ v ≤ 387420488 ∧ (v = 0 ∨ (v % 27 ≠ 0 ∧ (v / 27 = 0 ∨ (v / 27 % 27 ≠ 0 ∧ (v / 27 / 27 = 0 ∨ (v / 27 / 27 % 27 ≠ 0 ∧ (v / 27 / 27 / 27 = 0 ∨ (v / 27 / 27 / 27 % 27 ≠ 0 ∧ (v / 27 / 27 / 27 / 27 = 0 ∨ (v / 27 / 27 / 27 / 27 % 27 ≠ 0 ∧ (v / 27 / 27 / 27 / 27 / 27 = 0 ∨ v / 27 / 27 / 27 / 27 / 27 % 27 ≠ 0)))))))))))
/-- DISTANCE of two numbers -/
def dstI (v u : Int) : Int := dst (ltI v) (ltI u) (lenI v) (lenI u)
end Dst
