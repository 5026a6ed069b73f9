/-! FORMS: rows in order, their members; what both classes lay by (printed by wip/p1/h2pure.py) -/
section P1Forms
def srt (f : Nat → Int) (n : Nat) : Prop := ∀ i j, i < j → j < n → f i < f j
def mmb (f : Nat → Int) (n : Nat) (x : Int) : Prop := ∃ k, k < n ∧ f k = x
theorem srt_le {f : Nat → Int} {n k : Nat} (h : srt f (n + 1)) (hk : k < n + 1) : f k ≤ f n := by
  rcases Nat.lt_or_ge k n with q | q
  · exact Int.le_of_lt (h k n q (by omega))
  · have e : k = n := by omega
    subst e
    exact Int.le_refl _
theorem srt_len : ∀ (n m : Nat) (f g : Nat → Int), srt f n → srt g m → (∀ x, mmb f n x ↔ mmb g m x) → n = m
  | 0, 0, _, _, _, _, _ => rfl
  | 0, m + 1, f, g, _, _, h => by
    obtain ⟨k, hk, _⟩ := (h (g 0)).mpr ⟨0, by omega, rfl⟩
    omega
  | n + 1, 0, f, g, _, _, h => by
    obtain ⟨k, hk, _⟩ := (h (f 0)).mp ⟨0, by omega, rfl⟩
    omega
  | n + 1, m + 1, f, g, hf, hg, h => by
    have e : f n = g m := by
      obtain ⟨k, hk, e1⟩ := (h (f n)).mp ⟨n, by omega, rfl⟩
      obtain ⟨k2, hk2, e2⟩ := (h (g m)).mpr ⟨m, by omega, rfl⟩
      have a1 := srt_le hg hk
      have a2 := srt_le hf hk2
      omega
    have r := srt_len n m f g (fun i j h1 h2 => hf i j h1 (by omega)) (fun i j h1 h2 => hg i j h1 (by omega)) (fun x => by
      constructor
      · rintro ⟨k, hk, e1⟩
        obtain ⟨k2, hk2, e2⟩ := (h x).mp ⟨k, by omega, e1⟩
        have a1 := hf k n hk (by omega)
        refine ⟨k2, ?_, e2⟩
        rcases Nat.lt_or_ge k2 m with q | q
        · exact q
        · have e3 : k2 = m := by omega
          subst e3
          omega
      · rintro ⟨k, hk, e1⟩
        obtain ⟨k2, hk2, e2⟩ := (h x).mpr ⟨k, by omega, e1⟩
        have a1 := hg k m hk (by omega)
        refine ⟨k2, ?_, e2⟩
        rcases Nat.lt_or_ge k2 n with q | q
        · exact q
        · have e3 : k2 = n := by omega
          subst e3
          omega)
    omega
theorem srt_ins {f g : Nat → Int} {n p : Nat} {v : Int} (hf : srt f n) (hp : p ≤ n) (h1 : ∀ k, k < p → f k < v) (h2 : ∀ k, p ≤ k → k < n → v < f k) (g1 : ∀ k, k < p → g k = f k) (g2 : g p = v) (g3 : ∀ k, p < k → k ≤ n → g k = f (k - 1)) : srt g (n + 1) ∧ ∀ x, mmb g (n + 1) x ↔ (mmb f n x ∨ x = v) := by
  constructor
  · intro i j hij hj
    rcases Nat.lt_trichotomy i p with q | q | q
    · rw [g1 i q]
      rcases Nat.lt_trichotomy j p with r | r | r
      · rw [g1 j r]; exact hf i j hij (by omega)
      · subst r; rw [g2]; exact h1 i q
      · rw [g3 j r (by omega)]; exact hf i (j - 1) (by omega) (by omega)
    · subst q
      rw [g2, g3 j hij (by omega)]
      exact h2 (j - 1) (by omega) (by omega)
    · rw [g3 i q (by omega), g3 j (by omega) (by omega)]
      exact hf (i - 1) (j - 1) (by omega) (by omega)
  · intro x
    constructor
    · rintro ⟨k, hk, e⟩
      rcases Nat.lt_trichotomy k p with q | q | q
      · exact Or.inl ⟨k, by omega, by rw [← g1 k q]; exact e⟩
      · subst q; exact Or.inr (by rw [← e, g2])
      · exact Or.inl ⟨k - 1, by omega, by rw [← g3 k q (by omega)]; exact e⟩
    · rintro (⟨k, hk, e⟩ | e)
      · rcases Nat.lt_or_ge k p with q | q
        · exact ⟨k, by omega, by rw [g1 k q]; exact e⟩
        · exact ⟨k + 1, by omega, by rw [g3 (k + 1) (by omega) (by omega)]; exact e⟩
      · exact ⟨p, by omega, by rw [g2, e]⟩
theorem mmb_old {f : Nat → Int} {n p : Nat} {v : Int} (hp : p < n) (e : f p = v) (x : Int) : mmb f n x ↔ (mmb f n x ∨ x = v) := by
  constructor
  · exact Or.inl
  · rintro (h | h)
    · exact h
    · exact ⟨p, hp, by rw [e, h]⟩
/-- a number without its digit that has k behind it -/
def woI (v : Int) (k : Nat) : Int := if k = 0 then v / 27 else if k = 1 then v / 729 * 27 + v % 27 else if k = 2 then v / 19683 * 729 + v % 729 else v / 531441 * 19683 + v % 19683
theorem woI_0 (v : Int) : woI v 0 = v / 27 := rfl
theorem woI_1 (v : Int) : woI v 1 = v / 729 * 27 + v % 27 := rfl
theorem woI_2 (v : Int) : woI v 2 = v / 19683 * 729 + v % 729 := rfl
theorem woI_3 (v : Int) : woI v 3 = v / 531441 * 19683 + v % 19683 := rfl
theorem woI_in {v : Int} (h0 : 0 ≤ v) (h1 : v ≤ 531440) (k : Nat) : 0 ≤ woI v k ∧ woI v k ≤ 531440 := by
  unfold woI
  (repeat' split) <;> omega
/-- what the class takes out of w: behind i letters -/
def sX (w : Int) (n i : Nat) (x : Int) : Prop := ∃ i', i' < i ∧ (x = woI w i' ∨ ∃ k, k < n - 1 ∧ x = woI (woI w i') k)
def sA (w x : Int) : Prop := x = w ∨ sX w (lenI w) (lenI w) x
/-- the letters of w that stay by the bits of s -/
def sbv (w : Int) (s : Int32) : Nat → Int
  | 0 => 0
  | k + 1 => if bt s k then 27 * sbv w s k + ltI w k else sbv w s k
def sM (w : Int) (n m : Nat) (x : Int) : Prop := ∃ s, s < m ∧ (n : Int) - (hcb (nI s) 14 : Int) ≤ 2 ∧ x = sbv w (nI s) n
theorem ltI_in (w : Int) (k : Nat) : 0 ≤ ltI w k ∧ ltI w k ≤ 26 := by
  unfold ltI
  omega
theorem sbv_in (w : Int) (s : Int32) : (sbv w s 0 = 0) ∧ (0 ≤ sbv w s 1 ∧ sbv w s 1 ≤ 26) ∧ (0 ≤ sbv w s 2 ∧ sbv w s 2 ≤ 728) ∧ (0 ≤ sbv w s 3 ∧ sbv w s 3 ≤ 19682) ∧ (0 ≤ sbv w s 4 ∧ sbv w s 4 ≤ 531440) := by
  have a0 := ltI_in w 0
  have a1 := ltI_in w 1
  have a2 := ltI_in w 2
  have a3 := ltI_in w 3
  have h0 : sbv w s 0 = 0 := rfl
  have h1 : 0 ≤ sbv w s 1 ∧ sbv w s 1 ≤ 26 := by
    show 0 ≤ (if bt s 0 then 27 * sbv w s 0 + ltI w 0 else sbv w s 0) ∧ (if bt s 0 then 27 * sbv w s 0 + ltI w 0 else sbv w s 0) ≤ 26
    split <;> omega
  have h2 : 0 ≤ sbv w s 2 ∧ sbv w s 2 ≤ 728 := by
    show 0 ≤ (if bt s 1 then 27 * sbv w s 1 + ltI w 1 else sbv w s 1) ∧ (if bt s 1 then 27 * sbv w s 1 + ltI w 1 else sbv w s 1) ≤ 728
    split <;> omega
  have h3 : 0 ≤ sbv w s 3 ∧ sbv w s 3 ≤ 19682 := by
    show 0 ≤ (if bt s 2 then 27 * sbv w s 2 + ltI w 2 else sbv w s 2) ∧ (if bt s 2 then 27 * sbv w s 2 + ltI w 2 else sbv w s 2) ≤ 19682
    split <;> omega
  have h4 : 0 ≤ sbv w s 4 ∧ sbv w s 4 ≤ 531440 := by
    show 0 ≤ (if bt s 3 then 27 * sbv w s 3 + ltI w 3 else sbv w s 3) ∧ (if bt s 3 then 27 * sbv w s 3 + ltI w 3 else sbv w s 3) ≤ 531440
    split <;> omega
  exact ⟨h0, h1, h2, h3, h4⟩
theorem sbv_b {w : Int} {s : Int32} {k : Nat} (hk : k ≤ 4) : 0 ≤ sbv w s k ∧ sbv w s k ≤ 531440 ∧ (k ≤ 3 → sbv w s k ≤ 19682) := by
  have h := sbv_in w s
  have : k = 0 ∨ k = 1 ∨ k = 2 ∨ k = 3 ∨ k = 4 := by omega
  rcases this with e | e | e | e | e <;> subst e <;> omega
theorem sbv_t {w : Int} {s : Int32} {k : Nat} (h : bt s k = true) : sbv w s (k + 1) = 27 * sbv w s k + ltI w k := by
  show (if bt s k then _ else _) = _
  rw [if_pos h]
theorem sbv_f {w : Int} {s : Int32} {k : Nat} (h : bt s k = false) : sbv w s (k + 1) = sbv w s k := by
  show (if bt s k then _ else _) = _
  rw [h]
  rfl
theorem bv0_0 : bt (nI 0) 0 = false := by decide +kernel
theorem bv0_1 : bt (nI 0) 1 = false := by decide +kernel
theorem bv0_2 : bt (nI 0) 2 = false := by decide +kernel
theorem bv0_3 : bt (nI 0) 3 = false := by decide +kernel
theorem hv0 : hcb (nI 0) 14 = 0 := by decide +kernel
theorem bv1_0 : bt (nI 1) 0 = true := by decide +kernel
theorem bv1_1 : bt (nI 1) 1 = false := by decide +kernel
theorem bv1_2 : bt (nI 1) 2 = false := by decide +kernel
theorem bv1_3 : bt (nI 1) 3 = false := by decide +kernel
theorem hv1 : hcb (nI 1) 14 = 1 := by decide +kernel
theorem bv2_0 : bt (nI 2) 0 = false := by decide +kernel
theorem bv2_1 : bt (nI 2) 1 = true := by decide +kernel
theorem bv2_2 : bt (nI 2) 2 = false := by decide +kernel
theorem bv2_3 : bt (nI 2) 3 = false := by decide +kernel
theorem hv2 : hcb (nI 2) 14 = 1 := by decide +kernel
theorem bv3_0 : bt (nI 3) 0 = true := by decide +kernel
theorem bv3_1 : bt (nI 3) 1 = true := by decide +kernel
theorem bv3_2 : bt (nI 3) 2 = false := by decide +kernel
theorem bv3_3 : bt (nI 3) 3 = false := by decide +kernel
theorem hv3 : hcb (nI 3) 14 = 2 := by decide +kernel
theorem bv4_0 : bt (nI 4) 0 = false := by decide +kernel
theorem bv4_1 : bt (nI 4) 1 = false := by decide +kernel
theorem bv4_2 : bt (nI 4) 2 = true := by decide +kernel
theorem bv4_3 : bt (nI 4) 3 = false := by decide +kernel
theorem hv4 : hcb (nI 4) 14 = 1 := by decide +kernel
theorem bv5_0 : bt (nI 5) 0 = true := by decide +kernel
theorem bv5_1 : bt (nI 5) 1 = false := by decide +kernel
theorem bv5_2 : bt (nI 5) 2 = true := by decide +kernel
theorem bv5_3 : bt (nI 5) 3 = false := by decide +kernel
theorem hv5 : hcb (nI 5) 14 = 2 := by decide +kernel
theorem bv6_0 : bt (nI 6) 0 = false := by decide +kernel
theorem bv6_1 : bt (nI 6) 1 = true := by decide +kernel
theorem bv6_2 : bt (nI 6) 2 = true := by decide +kernel
theorem bv6_3 : bt (nI 6) 3 = false := by decide +kernel
theorem hv6 : hcb (nI 6) 14 = 2 := by decide +kernel
theorem bv7_0 : bt (nI 7) 0 = true := by decide +kernel
theorem bv7_1 : bt (nI 7) 1 = true := by decide +kernel
theorem bv7_2 : bt (nI 7) 2 = true := by decide +kernel
theorem bv7_3 : bt (nI 7) 3 = false := by decide +kernel
theorem hv7 : hcb (nI 7) 14 = 3 := by decide +kernel
theorem bv8_0 : bt (nI 8) 0 = false := by decide +kernel
theorem bv8_1 : bt (nI 8) 1 = false := by decide +kernel
theorem bv8_2 : bt (nI 8) 2 = false := by decide +kernel
theorem bv8_3 : bt (nI 8) 3 = true := by decide +kernel
theorem hv8 : hcb (nI 8) 14 = 1 := by decide +kernel
theorem bv9_0 : bt (nI 9) 0 = true := by decide +kernel
theorem bv9_1 : bt (nI 9) 1 = false := by decide +kernel
theorem bv9_2 : bt (nI 9) 2 = false := by decide +kernel
theorem bv9_3 : bt (nI 9) 3 = true := by decide +kernel
theorem hv9 : hcb (nI 9) 14 = 2 := by decide +kernel
theorem bv10_0 : bt (nI 10) 0 = false := by decide +kernel
theorem bv10_1 : bt (nI 10) 1 = true := by decide +kernel
theorem bv10_2 : bt (nI 10) 2 = false := by decide +kernel
theorem bv10_3 : bt (nI 10) 3 = true := by decide +kernel
theorem hv10 : hcb (nI 10) 14 = 2 := by decide +kernel
theorem bv11_0 : bt (nI 11) 0 = true := by decide +kernel
theorem bv11_1 : bt (nI 11) 1 = true := by decide +kernel
theorem bv11_2 : bt (nI 11) 2 = false := by decide +kernel
theorem bv11_3 : bt (nI 11) 3 = true := by decide +kernel
theorem hv11 : hcb (nI 11) 14 = 3 := by decide +kernel
theorem bv12_0 : bt (nI 12) 0 = false := by decide +kernel
theorem bv12_1 : bt (nI 12) 1 = false := by decide +kernel
theorem bv12_2 : bt (nI 12) 2 = true := by decide +kernel
theorem bv12_3 : bt (nI 12) 3 = true := by decide +kernel
theorem hv12 : hcb (nI 12) 14 = 2 := by decide +kernel
theorem bv13_0 : bt (nI 13) 0 = true := by decide +kernel
theorem bv13_1 : bt (nI 13) 1 = false := by decide +kernel
theorem bv13_2 : bt (nI 13) 2 = true := by decide +kernel
theorem bv13_3 : bt (nI 13) 3 = true := by decide +kernel
theorem hv13 : hcb (nI 13) 14 = 3 := by decide +kernel
theorem bv14_0 : bt (nI 14) 0 = false := by decide +kernel
theorem bv14_1 : bt (nI 14) 1 = true := by decide +kernel
theorem bv14_2 : bt (nI 14) 2 = true := by decide +kernel
theorem bv14_3 : bt (nI 14) 3 = true := by decide +kernel
theorem hv14 : hcb (nI 14) 14 = 3 := by decide +kernel
theorem bv15_0 : bt (nI 15) 0 = true := by decide +kernel
theorem bv15_1 : bt (nI 15) 1 = true := by decide +kernel
theorem bv15_2 : bt (nI 15) 2 = true := by decide +kernel
theorem bv15_3 : bt (nI 15) 3 = true := by decide +kernel
theorem hv15 : hcb (nI 15) 14 = 4 := by decide +kernel
theorem wd1_0 {v e0 : Int} (hv : v = e0) (he0 : 0 ≤ e0 ∧ e0 ≤ 26) : woI v 0 = 0 := by
  rw [woI_0]
  omega
theorem wd2_0 {v e1 e0 : Int} (hv : v = 27 * e1 + e0) (he1 : 0 ≤ e1 ∧ e1 ≤ 26) (he0 : 0 ≤ e0 ∧ e0 ≤ 26) : woI v 0 = e1 := by
  rw [woI_0]
  omega
theorem wd2_1 {v e1 e0 : Int} (hv : v = 27 * e1 + e0) (he1 : 0 ≤ e1 ∧ e1 ≤ 26) (he0 : 0 ≤ e0 ∧ e0 ≤ 26) : woI v 1 = e0 := by
  have q1 : v / 729 = 0 := by omega
  have q2 : v % 27 = e0 := by omega
  rw [woI_1, q1, q2]
  omega
theorem wd3_0 {v e2 e1 e0 : Int} (hv : v = 729 * e2 + 27 * e1 + e0) (he2 : 0 ≤ e2 ∧ e2 ≤ 26) (he1 : 0 ≤ e1 ∧ e1 ≤ 26) (he0 : 0 ≤ e0 ∧ e0 ≤ 26) : woI v 0 = 27 * e2 + e1 := by
  rw [woI_0]
  omega
theorem wd3_1 {v e2 e1 e0 : Int} (hv : v = 729 * e2 + 27 * e1 + e0) (he2 : 0 ≤ e2 ∧ e2 ≤ 26) (he1 : 0 ≤ e1 ∧ e1 ≤ 26) (he0 : 0 ≤ e0 ∧ e0 ≤ 26) : woI v 1 = 27 * e2 + e0 := by
  have q1 : v / 729 = e2 := by omega
  have q2 : v % 27 = e0 := by omega
  rw [woI_1, q1, q2]
  omega
theorem wd3_2 {v e2 e1 e0 : Int} (hv : v = 729 * e2 + 27 * e1 + e0) (he2 : 0 ≤ e2 ∧ e2 ≤ 26) (he1 : 0 ≤ e1 ∧ e1 ≤ 26) (he0 : 0 ≤ e0 ∧ e0 ≤ 26) : woI v 2 = 27 * e1 + e0 := by
  have q1 : v / 19683 = 0 := by omega
  have q2 : v % 729 = 27 * e1 + e0 := by omega
  rw [woI_2, q1, q2]
  omega
theorem wd4_0 {v e3 e2 e1 e0 : Int} (hv : v = 19683 * e3 + 729 * e2 + 27 * e1 + e0) (he3 : 0 ≤ e3 ∧ e3 ≤ 26) (he2 : 0 ≤ e2 ∧ e2 ≤ 26) (he1 : 0 ≤ e1 ∧ e1 ≤ 26) (he0 : 0 ≤ e0 ∧ e0 ≤ 26) : woI v 0 = 729 * e3 + 27 * e2 + e1 := by
  rw [woI_0]
  omega
theorem wd4_1 {v e3 e2 e1 e0 : Int} (hv : v = 19683 * e3 + 729 * e2 + 27 * e1 + e0) (he3 : 0 ≤ e3 ∧ e3 ≤ 26) (he2 : 0 ≤ e2 ∧ e2 ≤ 26) (he1 : 0 ≤ e1 ∧ e1 ≤ 26) (he0 : 0 ≤ e0 ∧ e0 ≤ 26) : woI v 1 = 729 * e3 + 27 * e2 + e0 := by
  have q1 : v / 729 = 27 * e3 + e2 := by omega
  have q2 : v % 27 = e0 := by omega
  rw [woI_1, q1, q2]
  omega
theorem wd4_2 {v e3 e2 e1 e0 : Int} (hv : v = 19683 * e3 + 729 * e2 + 27 * e1 + e0) (he3 : 0 ≤ e3 ∧ e3 ≤ 26) (he2 : 0 ≤ e2 ∧ e2 ≤ 26) (he1 : 0 ≤ e1 ∧ e1 ≤ 26) (he0 : 0 ≤ e0 ∧ e0 ≤ 26) : woI v 2 = 729 * e3 + 27 * e1 + e0 := by
  have q1 : v / 19683 = e3 := by omega
  have q2 : v % 729 = 27 * e1 + e0 := by omega
  rw [woI_2, q1, q2]
  omega
theorem wd4_3 {v e3 e2 e1 e0 : Int} (hv : v = 19683 * e3 + 729 * e2 + 27 * e1 + e0) (he3 : 0 ≤ e3 ∧ e3 ≤ 26) (he2 : 0 ≤ e2 ∧ e2 ≤ 26) (he1 : 0 ≤ e1 ∧ e1 ≤ 26) (he0 : 0 ≤ e0 ∧ e0 ≤ 26) : woI v 3 = 729 * e2 + 27 * e1 + e0 := by
  have q1 : v / 531441 = 0 := by omega
  have q2 : v % 19683 = 729 * e2 + 27 * e1 + e0 := by omega
  rw [woI_3, q1, q2]
  omega
theorem sets0 {w : Int} (hl : lenI w = 0) (h1 : 0 ≤ w) (h2 : w < 1) (x : Int) : sA w x ↔ sM w 0 1 x := by
  have hw : w = 0 := by omega
  have s0 : sbv w (nI 0) 0 = 0 := by
    have z : sbv w (nI 0) 0 = 0 := rfl
    omega
  constructor
  · rintro (h | ⟨i, hi, h⟩)
    · exact ⟨0, by decide, by rw [hv0]; decide, by rw [h, s0]; exact hw⟩
    · rw [hl] at hi; omega
  · rintro ⟨s, hs, hc, h⟩
    have hs_ : s = 0 := by omega
    have e := hs_
    · subst e
      exact Or.inl (by rw [h, s0]; exact hw.symm)
theorem sets1 {w : Int} (hl : lenI w = 1) (h1 : 1 ≤ w) (h2 : w < 27) (x : Int) : sA w x ↔ sM w 1 2 x := by
  obtain ⟨d0, hw, b0⟩ : ∃ d0 : Int, w = d0 ∧ (0 ≤ d0 ∧ d0 ≤ 26) := ⟨w % 27, by omega, by omega⟩
  have l0 : ltI w 0 = d0 := by unfold ltI; rw [hl]; show w % 27 = d0; omega
  have s0 : sbv w (nI 0) 1 = 0 := by
    have z : sbv w (nI 0) 0 = 0 := rfl
    rw [sbv_f bv0_0]
    omega
  have s1 : sbv w (nI 1) 1 = d0 := by
    have z : sbv w (nI 1) 0 = 0 := rfl
    rw [sbv_t bv1_0, l0]
    omega
  have w0 : woI w 0 = 0 := wd1_0 hw b0
  constructor
  · rintro (h | ⟨i, hi, h⟩)
    · exact ⟨1, by decide, by rw [hv1]; decide, by rw [h, s1]; exact hw⟩
    · rw [hl] at hi h
      have hi_ : i = 0 := by omega
      have e := hi_
      · subst e
        rcases h with h | ⟨k, hk, h⟩
        · exact ⟨0, by decide, by rw [hv0]; decide, by rw [h, w0, s0]⟩
        · omega
  · rintro ⟨s, hs, hc, h⟩
    have hs_ : s = 0 ∨ s = 1 := by omega
    rcases hs_ with e | e
    · subst e
      exact Or.inr ⟨0, by rw [hl]; decide, Or.inl (by rw [h, s0, w0])⟩
    · subst e
      exact Or.inl (by rw [h, s1]; exact hw.symm)
theorem sets2 {w : Int} (hl : lenI w = 2) (h1 : 27 ≤ w) (h2 : w < 729) (x : Int) : sA w x ↔ sM w 2 4 x := by
  obtain ⟨d1, d0, hw, b1, b0⟩ : ∃ d1 d0 : Int, w = 27 * d1 + d0 ∧ (0 ≤ d1 ∧ d1 ≤ 26) ∧ (0 ≤ d0 ∧ d0 ≤ 26) := ⟨w / 27 % 27, w % 27, by omega, by omega, by omega⟩
  have l0 : ltI w 0 = d1 := by unfold ltI; rw [hl]; show w / 27 % 27 = d1; omega
  have l1 : ltI w 1 = d0 := by unfold ltI; rw [hl]; show w % 27 = d0; omega
  have s0 : sbv w (nI 0) 2 = 0 := by
    have z : sbv w (nI 0) 0 = 0 := rfl
    rw [sbv_f bv0_1, sbv_f bv0_0]
    omega
  have s1 : sbv w (nI 1) 2 = d1 := by
    have z : sbv w (nI 1) 0 = 0 := rfl
    rw [sbv_f bv1_1, sbv_t bv1_0, l0]
    omega
  have s2 : sbv w (nI 2) 2 = d0 := by
    have z : sbv w (nI 2) 0 = 0 := rfl
    rw [sbv_t bv2_1, sbv_f bv2_0, l1]
    omega
  have s3 : sbv w (nI 3) 2 = 27 * d1 + d0 := by
    have z : sbv w (nI 3) 0 = 0 := rfl
    rw [sbv_t bv3_1, sbv_t bv3_0, l1, l0]
    omega
  have w0 : woI w 0 = d1 := wd2_0 hw b1 b0
  have w0_0 : woI (woI w 0) 0 = 0 := wd1_0 w0 b1
  have w1 : woI w 1 = d0 := wd2_1 hw b1 b0
  have w1_0 : woI (woI w 1) 0 = 0 := wd1_0 w1 b0
  constructor
  · rintro (h | ⟨i, hi, h⟩)
    · exact ⟨3, by decide, by rw [hv3]; decide, by rw [h, s3]; exact hw⟩
    · rw [hl] at hi h
      have hi_ : i = 0 ∨ i = 1 := by omega
      rcases hi_ with e | e
      · subst e
        rcases h with h | ⟨k, hk, h⟩
        · exact ⟨1, by decide, by rw [hv1]; decide, by rw [h, w0, s1]⟩
        · have hk_ : k = 0 := by omega
          have e := hk_
          · subst e; exact ⟨0, by decide, by rw [hv0]; decide, by rw [h, w0_0, s0]⟩
      · subst e
        rcases h with h | ⟨k, hk, h⟩
        · exact ⟨2, by decide, by rw [hv2]; decide, by rw [h, w1, s2]⟩
        · have hk_ : k = 0 := by omega
          have e := hk_
          · subst e; exact ⟨0, by decide, by rw [hv0]; decide, by rw [h, w1_0, s0]⟩
  · rintro ⟨s, hs, hc, h⟩
    have hs_ : s = 0 ∨ s = 1 ∨ s = 2 ∨ s = 3 := by omega
    rcases hs_ with e | e | e | e
    · subst e
      exact Or.inr ⟨0, by rw [hl]; decide, Or.inr ⟨0, by rw [hl]; decide, by rw [h, s0, w0_0]⟩⟩
    · subst e
      exact Or.inr ⟨0, by rw [hl]; decide, Or.inl (by rw [h, s1, w0])⟩
    · subst e
      exact Or.inr ⟨1, by rw [hl]; decide, Or.inl (by rw [h, s2, w1])⟩
    · subst e
      exact Or.inl (by rw [h, s3]; exact hw.symm)
theorem sets3 {w : Int} (hl : lenI w = 3) (h1 : 729 ≤ w) (h2 : w < 19683) (x : Int) : sA w x ↔ sM w 3 8 x := by
  obtain ⟨d2, d1, d0, hw, b2, b1, b0⟩ : ∃ d2 d1 d0 : Int, w = 729 * d2 + 27 * d1 + d0 ∧ (0 ≤ d2 ∧ d2 ≤ 26) ∧ (0 ≤ d1 ∧ d1 ≤ 26) ∧ (0 ≤ d0 ∧ d0 ≤ 26) := ⟨w / 729 % 27, w / 27 % 27, w % 27, by omega, by omega, by omega, by omega⟩
  have l0 : ltI w 0 = d2 := by unfold ltI; rw [hl]; show w / 27 / 27 % 27 = d2; omega
  have l1 : ltI w 1 = d1 := by unfold ltI; rw [hl]; show w / 27 % 27 = d1; omega
  have l2 : ltI w 2 = d0 := by unfold ltI; rw [hl]; show w % 27 = d0; omega
  have s1 : sbv w (nI 1) 3 = d2 := by
    have z : sbv w (nI 1) 0 = 0 := rfl
    rw [sbv_f bv1_2, sbv_f bv1_1, sbv_t bv1_0, l0]
    omega
  have s2 : sbv w (nI 2) 3 = d1 := by
    have z : sbv w (nI 2) 0 = 0 := rfl
    rw [sbv_f bv2_2, sbv_t bv2_1, sbv_f bv2_0, l1]
    omega
  have s3 : sbv w (nI 3) 3 = 27 * d2 + d1 := by
    have z : sbv w (nI 3) 0 = 0 := rfl
    rw [sbv_f bv3_2, sbv_t bv3_1, sbv_t bv3_0, l1, l0]
    omega
  have s4 : sbv w (nI 4) 3 = d0 := by
    have z : sbv w (nI 4) 0 = 0 := rfl
    rw [sbv_t bv4_2, sbv_f bv4_1, sbv_f bv4_0, l2]
    omega
  have s5 : sbv w (nI 5) 3 = 27 * d2 + d0 := by
    have z : sbv w (nI 5) 0 = 0 := rfl
    rw [sbv_t bv5_2, sbv_f bv5_1, sbv_t bv5_0, l2, l0]
    omega
  have s6 : sbv w (nI 6) 3 = 27 * d1 + d0 := by
    have z : sbv w (nI 6) 0 = 0 := rfl
    rw [sbv_t bv6_2, sbv_t bv6_1, sbv_f bv6_0, l2, l1]
    omega
  have s7 : sbv w (nI 7) 3 = 729 * d2 + 27 * d1 + d0 := by
    have z : sbv w (nI 7) 0 = 0 := rfl
    rw [sbv_t bv7_2, sbv_t bv7_1, sbv_t bv7_0, l2, l1, l0]
    omega
  have w0 : woI w 0 = 27 * d2 + d1 := wd3_0 hw b2 b1 b0
  have w0_0 : woI (woI w 0) 0 = d2 := wd2_0 w0 b2 b1
  have w0_1 : woI (woI w 0) 1 = d1 := wd2_1 w0 b2 b1
  have w1 : woI w 1 = 27 * d2 + d0 := wd3_1 hw b2 b1 b0
  have w1_0 : woI (woI w 1) 0 = d2 := wd2_0 w1 b2 b0
  have w1_1 : woI (woI w 1) 1 = d0 := wd2_1 w1 b2 b0
  have w2 : woI w 2 = 27 * d1 + d0 := wd3_2 hw b2 b1 b0
  have w2_0 : woI (woI w 2) 0 = d1 := wd2_0 w2 b1 b0
  have w2_1 : woI (woI w 2) 1 = d0 := wd2_1 w2 b1 b0
  constructor
  · rintro (h | ⟨i, hi, h⟩)
    · exact ⟨7, by decide, by rw [hv7]; decide, by rw [h, s7]; exact hw⟩
    · rw [hl] at hi h
      have hi_ : i = 0 ∨ i = 1 ∨ i = 2 := by omega
      rcases hi_ with e | e | e
      · subst e
        rcases h with h | ⟨k, hk, h⟩
        · exact ⟨3, by decide, by rw [hv3]; decide, by rw [h, w0, s3]⟩
        · have hk_ : k = 0 ∨ k = 1 := by omega
          rcases hk_ with e | e
          · subst e; exact ⟨1, by decide, by rw [hv1]; decide, by rw [h, w0_0, s1]⟩
          · subst e; exact ⟨2, by decide, by rw [hv2]; decide, by rw [h, w0_1, s2]⟩
      · subst e
        rcases h with h | ⟨k, hk, h⟩
        · exact ⟨5, by decide, by rw [hv5]; decide, by rw [h, w1, s5]⟩
        · have hk_ : k = 0 ∨ k = 1 := by omega
          rcases hk_ with e | e
          · subst e; exact ⟨1, by decide, by rw [hv1]; decide, by rw [h, w1_0, s1]⟩
          · subst e; exact ⟨4, by decide, by rw [hv4]; decide, by rw [h, w1_1, s4]⟩
      · subst e
        rcases h with h | ⟨k, hk, h⟩
        · exact ⟨6, by decide, by rw [hv6]; decide, by rw [h, w2, s6]⟩
        · have hk_ : k = 0 ∨ k = 1 := by omega
          rcases hk_ with e | e
          · subst e; exact ⟨2, by decide, by rw [hv2]; decide, by rw [h, w2_0, s2]⟩
          · subst e; exact ⟨4, by decide, by rw [hv4]; decide, by rw [h, w2_1, s4]⟩
  · rintro ⟨s, hs, hc, h⟩
    have hs_ : s = 0 ∨ s = 1 ∨ s = 2 ∨ s = 3 ∨ s = 4 ∨ s = 5 ∨ s = 6 ∨ s = 7 := by omega
    rcases hs_ with e | e | e | e | e | e | e | e
    · subst e
      rw [hv0] at hc; exact absurd hc (by decide)
    · subst e
      exact Or.inr ⟨0, by rw [hl]; decide, Or.inr ⟨0, by rw [hl]; decide, by rw [h, s1, w0_0]⟩⟩
    · subst e
      exact Or.inr ⟨0, by rw [hl]; decide, Or.inr ⟨1, by rw [hl]; decide, by rw [h, s2, w0_1]⟩⟩
    · subst e
      exact Or.inr ⟨0, by rw [hl]; decide, Or.inl (by rw [h, s3, w0])⟩
    · subst e
      exact Or.inr ⟨1, by rw [hl]; decide, Or.inr ⟨1, by rw [hl]; decide, by rw [h, s4, w1_1]⟩⟩
    · subst e
      exact Or.inr ⟨1, by rw [hl]; decide, Or.inl (by rw [h, s5, w1])⟩
    · subst e
      exact Or.inr ⟨2, by rw [hl]; decide, Or.inl (by rw [h, s6, w2])⟩
    · subst e
      exact Or.inl (by rw [h, s7]; exact hw.symm)
theorem sets4 {w : Int} (hl : lenI w = 4) (h1 : 19683 ≤ w) (h2 : w < 531441) (x : Int) : sA w x ↔ sM w 4 16 x := by
  obtain ⟨d3, d2, d1, d0, hw, b3, b2, b1, b0⟩ : ∃ d3 d2 d1 d0 : Int, w = 19683 * d3 + 729 * d2 + 27 * d1 + d0 ∧ (0 ≤ d3 ∧ d3 ≤ 26) ∧ (0 ≤ d2 ∧ d2 ≤ 26) ∧ (0 ≤ d1 ∧ d1 ≤ 26) ∧ (0 ≤ d0 ∧ d0 ≤ 26) := ⟨w / 19683 % 27, w / 729 % 27, w / 27 % 27, w % 27, by omega, by omega, by omega, by omega, by omega⟩
  have l0 : ltI w 0 = d3 := by unfold ltI; rw [hl]; show w / 27 / 27 / 27 % 27 = d3; omega
  have l1 : ltI w 1 = d2 := by unfold ltI; rw [hl]; show w / 27 / 27 % 27 = d2; omega
  have l2 : ltI w 2 = d1 := by unfold ltI; rw [hl]; show w / 27 % 27 = d1; omega
  have l3 : ltI w 3 = d0 := by unfold ltI; rw [hl]; show w % 27 = d0; omega
  have s3 : sbv w (nI 3) 4 = 27 * d3 + d2 := by
    have z : sbv w (nI 3) 0 = 0 := rfl
    rw [sbv_f bv3_3, sbv_f bv3_2, sbv_t bv3_1, sbv_t bv3_0, l1, l0]
    omega
  have s5 : sbv w (nI 5) 4 = 27 * d3 + d1 := by
    have z : sbv w (nI 5) 0 = 0 := rfl
    rw [sbv_f bv5_3, sbv_t bv5_2, sbv_f bv5_1, sbv_t bv5_0, l2, l0]
    omega
  have s6 : sbv w (nI 6) 4 = 27 * d2 + d1 := by
    have z : sbv w (nI 6) 0 = 0 := rfl
    rw [sbv_f bv6_3, sbv_t bv6_2, sbv_t bv6_1, sbv_f bv6_0, l2, l1]
    omega
  have s7 : sbv w (nI 7) 4 = 729 * d3 + 27 * d2 + d1 := by
    have z : sbv w (nI 7) 0 = 0 := rfl
    rw [sbv_f bv7_3, sbv_t bv7_2, sbv_t bv7_1, sbv_t bv7_0, l2, l1, l0]
    omega
  have s9 : sbv w (nI 9) 4 = 27 * d3 + d0 := by
    have z : sbv w (nI 9) 0 = 0 := rfl
    rw [sbv_t bv9_3, sbv_f bv9_2, sbv_f bv9_1, sbv_t bv9_0, l3, l0]
    omega
  have s10 : sbv w (nI 10) 4 = 27 * d2 + d0 := by
    have z : sbv w (nI 10) 0 = 0 := rfl
    rw [sbv_t bv10_3, sbv_f bv10_2, sbv_t bv10_1, sbv_f bv10_0, l3, l1]
    omega
  have s11 : sbv w (nI 11) 4 = 729 * d3 + 27 * d2 + d0 := by
    have z : sbv w (nI 11) 0 = 0 := rfl
    rw [sbv_t bv11_3, sbv_f bv11_2, sbv_t bv11_1, sbv_t bv11_0, l3, l1, l0]
    omega
  have s12 : sbv w (nI 12) 4 = 27 * d1 + d0 := by
    have z : sbv w (nI 12) 0 = 0 := rfl
    rw [sbv_t bv12_3, sbv_t bv12_2, sbv_f bv12_1, sbv_f bv12_0, l3, l2]
    omega
  have s13 : sbv w (nI 13) 4 = 729 * d3 + 27 * d1 + d0 := by
    have z : sbv w (nI 13) 0 = 0 := rfl
    rw [sbv_t bv13_3, sbv_t bv13_2, sbv_f bv13_1, sbv_t bv13_0, l3, l2, l0]
    omega
  have s14 : sbv w (nI 14) 4 = 729 * d2 + 27 * d1 + d0 := by
    have z : sbv w (nI 14) 0 = 0 := rfl
    rw [sbv_t bv14_3, sbv_t bv14_2, sbv_t bv14_1, sbv_f bv14_0, l3, l2, l1]
    omega
  have s15 : sbv w (nI 15) 4 = 19683 * d3 + 729 * d2 + 27 * d1 + d0 := by
    have z : sbv w (nI 15) 0 = 0 := rfl
    rw [sbv_t bv15_3, sbv_t bv15_2, sbv_t bv15_1, sbv_t bv15_0, l3, l2, l1, l0]
    omega
  have w0 : woI w 0 = 729 * d3 + 27 * d2 + d1 := wd4_0 hw b3 b2 b1 b0
  have w0_0 : woI (woI w 0) 0 = 27 * d3 + d2 := wd3_0 w0 b3 b2 b1
  have w0_1 : woI (woI w 0) 1 = 27 * d3 + d1 := wd3_1 w0 b3 b2 b1
  have w0_2 : woI (woI w 0) 2 = 27 * d2 + d1 := wd3_2 w0 b3 b2 b1
  have w1 : woI w 1 = 729 * d3 + 27 * d2 + d0 := wd4_1 hw b3 b2 b1 b0
  have w1_0 : woI (woI w 1) 0 = 27 * d3 + d2 := wd3_0 w1 b3 b2 b0
  have w1_1 : woI (woI w 1) 1 = 27 * d3 + d0 := wd3_1 w1 b3 b2 b0
  have w1_2 : woI (woI w 1) 2 = 27 * d2 + d0 := wd3_2 w1 b3 b2 b0
  have w2 : woI w 2 = 729 * d3 + 27 * d1 + d0 := wd4_2 hw b3 b2 b1 b0
  have w2_0 : woI (woI w 2) 0 = 27 * d3 + d1 := wd3_0 w2 b3 b1 b0
  have w2_1 : woI (woI w 2) 1 = 27 * d3 + d0 := wd3_1 w2 b3 b1 b0
  have w2_2 : woI (woI w 2) 2 = 27 * d1 + d0 := wd3_2 w2 b3 b1 b0
  have w3 : woI w 3 = 729 * d2 + 27 * d1 + d0 := wd4_3 hw b3 b2 b1 b0
  have w3_0 : woI (woI w 3) 0 = 27 * d2 + d1 := wd3_0 w3 b2 b1 b0
  have w3_1 : woI (woI w 3) 1 = 27 * d2 + d0 := wd3_1 w3 b2 b1 b0
  have w3_2 : woI (woI w 3) 2 = 27 * d1 + d0 := wd3_2 w3 b2 b1 b0
  constructor
  · rintro (h | ⟨i, hi, h⟩)
    · exact ⟨15, by decide, by rw [hv15]; decide, by rw [h, s15]; exact hw⟩
    · rw [hl] at hi h
      have hi_ : i = 0 ∨ i = 1 ∨ i = 2 ∨ i = 3 := by omega
      rcases hi_ with e | e | e | e
      · subst e
        rcases h with h | ⟨k, hk, h⟩
        · exact ⟨7, by decide, by rw [hv7]; decide, by rw [h, w0, s7]⟩
        · have hk_ : k = 0 ∨ k = 1 ∨ k = 2 := by omega
          rcases hk_ with e | e | e
          · subst e; exact ⟨3, by decide, by rw [hv3]; decide, by rw [h, w0_0, s3]⟩
          · subst e; exact ⟨5, by decide, by rw [hv5]; decide, by rw [h, w0_1, s5]⟩
          · subst e; exact ⟨6, by decide, by rw [hv6]; decide, by rw [h, w0_2, s6]⟩
      · subst e
        rcases h with h | ⟨k, hk, h⟩
        · exact ⟨11, by decide, by rw [hv11]; decide, by rw [h, w1, s11]⟩
        · have hk_ : k = 0 ∨ k = 1 ∨ k = 2 := by omega
          rcases hk_ with e | e | e
          · subst e; exact ⟨3, by decide, by rw [hv3]; decide, by rw [h, w1_0, s3]⟩
          · subst e; exact ⟨9, by decide, by rw [hv9]; decide, by rw [h, w1_1, s9]⟩
          · subst e; exact ⟨10, by decide, by rw [hv10]; decide, by rw [h, w1_2, s10]⟩
      · subst e
        rcases h with h | ⟨k, hk, h⟩
        · exact ⟨13, by decide, by rw [hv13]; decide, by rw [h, w2, s13]⟩
        · have hk_ : k = 0 ∨ k = 1 ∨ k = 2 := by omega
          rcases hk_ with e | e | e
          · subst e; exact ⟨5, by decide, by rw [hv5]; decide, by rw [h, w2_0, s5]⟩
          · subst e; exact ⟨9, by decide, by rw [hv9]; decide, by rw [h, w2_1, s9]⟩
          · subst e; exact ⟨12, by decide, by rw [hv12]; decide, by rw [h, w2_2, s12]⟩
      · subst e
        rcases h with h | ⟨k, hk, h⟩
        · exact ⟨14, by decide, by rw [hv14]; decide, by rw [h, w3, s14]⟩
        · have hk_ : k = 0 ∨ k = 1 ∨ k = 2 := by omega
          rcases hk_ with e | e | e
          · subst e; exact ⟨6, by decide, by rw [hv6]; decide, by rw [h, w3_0, s6]⟩
          · subst e; exact ⟨10, by decide, by rw [hv10]; decide, by rw [h, w3_1, s10]⟩
          · subst e; exact ⟨12, by decide, by rw [hv12]; decide, by rw [h, w3_2, s12]⟩
  · rintro ⟨s, hs, hc, h⟩
    have hs_ : s = 0 ∨ s = 1 ∨ s = 2 ∨ s = 3 ∨ s = 4 ∨ s = 5 ∨ s = 6 ∨ s = 7 ∨ s = 8 ∨ s = 9 ∨ s = 10 ∨ s = 11 ∨ s = 12 ∨ s = 13 ∨ s = 14 ∨ s = 15 := by omega
    rcases hs_ with e | e | e | e | e | e | e | e | e | e | e | e | e | e | e | e
    · subst e
      rw [hv0] at hc; exact absurd hc (by decide)
    · subst e
      rw [hv1] at hc; exact absurd hc (by decide)
    · subst e
      rw [hv2] at hc; exact absurd hc (by decide)
    · subst e
      exact Or.inr ⟨0, by rw [hl]; decide, Or.inr ⟨0, by rw [hl]; decide, by rw [h, s3, w0_0]⟩⟩
    · subst e
      rw [hv4] at hc; exact absurd hc (by decide)
    · subst e
      exact Or.inr ⟨0, by rw [hl]; decide, Or.inr ⟨1, by rw [hl]; decide, by rw [h, s5, w0_1]⟩⟩
    · subst e
      exact Or.inr ⟨0, by rw [hl]; decide, Or.inr ⟨2, by rw [hl]; decide, by rw [h, s6, w0_2]⟩⟩
    · subst e
      exact Or.inr ⟨0, by rw [hl]; decide, Or.inl (by rw [h, s7, w0])⟩
    · subst e
      rw [hv8] at hc; exact absurd hc (by decide)
    · subst e
      exact Or.inr ⟨1, by rw [hl]; decide, Or.inr ⟨1, by rw [hl]; decide, by rw [h, s9, w1_1]⟩⟩
    · subst e
      exact Or.inr ⟨1, by rw [hl]; decide, Or.inr ⟨2, by rw [hl]; decide, by rw [h, s10, w1_2]⟩⟩
    · subst e
      exact Or.inr ⟨1, by rw [hl]; decide, Or.inl (by rw [h, s11, w1])⟩
    · subst e
      exact Or.inr ⟨2, by rw [hl]; decide, Or.inr ⟨2, by rw [hl]; decide, by rw [h, s12, w2_2]⟩⟩
    · subst e
      exact Or.inr ⟨2, by rw [hl]; decide, Or.inl (by rw [h, s13, w2])⟩
    · subst e
      exact Or.inr ⟨3, by rw [hl]; decide, Or.inl (by rw [h, s14, w3])⟩
    · subst e
      exact Or.inl (by rw [h, s15]; exact hw.symm)
theorem sets {w : Int} (h0 : 0 ≤ w) (h1 : w < 531441) (x : Int) : sA w x ↔ sM w (lenI w) (2 ^ lenI w) x := by
  have hl : lenI w = 0 ∨ lenI w = 1 ∨ lenI w = 2 ∨ lenI w = 3 ∨ lenI w = 4 := by
    unfold lenI
    (repeat' split) <;> omega
  have hr := hl
  rcases hl with hl | hl | hl | hl | hl
  · have q : 0 ≤ w ∧ w < 1 := by
      unfold lenI at hr hl
      (repeat' split at hl) <;> omega
    rw [hl]; exact sets0 hl q.1 q.2 x
  · have q : 1 ≤ w ∧ w < 27 := by
      unfold lenI at hr hl
      (repeat' split at hl) <;> omega
    rw [hl]; exact sets1 hl q.1 q.2 x
  · have q : 27 ≤ w ∧ w < 729 := by
      unfold lenI at hr hl
      (repeat' split at hl) <;> omega
    rw [hl]; exact sets2 hl q.1 q.2 x
  · have q : 729 ≤ w ∧ w < 19683 := by
      unfold lenI at hr hl
      (repeat' split at hl) <;> omega
    rw [hl]; exact sets3 hl q.1 q.2 x
  · have q : 19683 ≤ w ∧ w < 531441 := by
      unfold lenI at hr hl
      (repeat' split at hl) <;> omega
    rw [hl]; exact sets4 hl q.1 q.2 x
theorem dvn4 {a : Int} (h0 : 0 ≤ a) (h1 : a ≤ 387420488) : 0 ≤ dvn a (lenI a - 4) ∧ dvn a (lenI a - 4) < 531441 ∧ dvn a (lenI a - 4) ≤ a := by
  have hc : (lenI a - 4 = 0 ∧ a < 531441) ∨ (lenI a - 4 = 1 ∧ a < 14348907) ∨ lenI a - 4 = 2 := by
    unfold lenI
    (repeat' split) <;> omega
  rcases hc with ⟨e, h⟩ | ⟨e, h⟩ | e <;> rw [e]
  · show 0 ≤ a ∧ a < 531441 ∧ a ≤ a
    omega
  · show 0 ≤ a / 27 ∧ a / 27 < 531441 ∧ a / 27 ≤ a
    omega
  · show 0 ≤ a / 27 / 27 ∧ a / 27 / 27 < 531441 ∧ a / 27 / 27 ≤ a
    omega
theorem lenI4 {w : Int} (h1 : w < 531441) : lenI w ≤ 4 := by
  unfold lenI
  (repeat' split) <;> omega
/-- a letter's numbers together -/
def totI (v : Int) : Int := v % 27 + v / 27 % 27 + v / 27 / 27 % 27 + v / 27 / 27 / 27 % 27 + v / 27 / 27 / 27 / 27 % 27 + v / 27 / 27 / 27 / 27 / 27 % 27
theorem totI_in {v : Int} (h : 0 ≤ v) : 0 ≤ totI v ∧ totI v ≤ 156 := by
  unfold totI
  omega
end P1Forms
