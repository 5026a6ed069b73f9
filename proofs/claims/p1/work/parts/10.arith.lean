/-! RANGES: (lo, hi, stride): x lies in it if lo ≤ x ≤ hi and x - lo is a multiple of the stride (stride 0: x = lo) -/
section RfArith
abbrev rfR : Type := Int × Int × Nat
def rf_in (r : rfR) (x : Int) : Prop := r.1 ≤ x ∧ x ≤ r.2.1 ∧ ∃ q : Int, x = r.1 + (r.2.2 : Int) * q
def rf_top : rfR := (-2147483648, 2147483647, 1)
def rf_fit (lo hi : Int) : Bool := decide (-2147483648 ≤ lo) && decide (hi ≤ 2147483647)
def rf_mk (lo hi : Int) (st : Nat) : rfR := if rf_fit lo hi then (lo, hi, st) else rf_top
def rf_one (n : Int) : rfR := (n, n, 0)
theorem rf_one_in (n : Int) : rf_in (rf_one n) n := ⟨Int.le_refl _, Int.le_refl _, 0, by simp [rf_one]⟩
theorem rf_lt32 (x : Int32) : x.toInt ≤ 2147483647 := by have := x.toInt_lt; omega
theorem rf_ge32 (x : Int32) : -2147483648 ≤ x.toInt := by have := x.le_toInt; omega
theorem rf_in_top (x : Int32) : rf_in rf_top x.toInt := ⟨rf_ge32 x, rf_lt32 x, x.toInt + 2147483648, by simp [rf_top]; omega⟩
theorem rf_fit_iff {lo hi : Int} : rf_fit lo hi = true ↔ -2147483648 ≤ lo ∧ hi ≤ 2147483647 := by simp [rf_fit]
theorem rf_bm {z : Int} (h1 : -2147483648 ≤ z) (h2 : z ≤ 2147483647) : z.bmod (2 ^ 32) = z := Int.bmod_eq_of_le (by omega) (by omega)
theorem rf_mk_in {lo hi z : Int} {st : Nat} (x : Int32) (hx : x.toInt = z.bmod (2 ^ 32)) (h1 : lo ≤ z) (h2 : z ≤ hi) (h3 : ∃ q : Int, z = lo + (st : Int) * q) : rf_in (rf_mk lo hi st) x.toInt := by
  unfold rf_mk
  split
  · next h =>
    obtain ⟨a, b⟩ := rf_fit_iff.mp h
    rw [hx, rf_bm (by omega) (by omega)]
    exact ⟨h1, h2, h3⟩
  · exact rf_in_top x
theorem rf_mk_val {lo hi z : Int} {x : Int32} (hx : x.toInt = z.bmod (2 ^ 32)) (h1 : lo ≤ z) (h2 : z ≤ hi) (h : rf_fit lo hi = true) : x.toInt = z := by
  obtain ⟨a, b⟩ := rf_fit_iff.mp h
  rw [hx, rf_bm (by omega) (by omega)]
theorem rf_one_val {r : rfR} {x : Int} (h : rf_in r x) (hs : r.1 = r.2.1) : x = r.1 := by obtain ⟨a, b, -⟩ := h; omega
-- addition, subtraction
def rf_add (r t : rfR) : rfR := rf_mk (r.1 + t.1) (r.2.1 + t.2.1) (Nat.gcd r.2.2 t.2.2)
theorem rf_add_in {r t : rfR} {x y : Int32} (hx : rf_in r x.toInt) (hy : rf_in t y.toInt) : rf_in (rf_add r t) (x + y).toInt := by
  obtain ⟨a1, a2, q, hq⟩ := hx
  obtain ⟨b1, b2, u, hu⟩ := hy
  refine rf_mk_in (x + y) (Int32.toInt_add x y) (by omega) (by omega) ?_
  obtain ⟨k1, e1⟩ : ((Nat.gcd r.2.2 t.2.2 : Nat) : Int) ∣ (r.2.2 : Int) := Int.natCast_dvd_natCast.mpr (Nat.gcd_dvd_left _ _)
  obtain ⟨k2, e2⟩ : ((Nat.gcd r.2.2 t.2.2 : Nat) : Int) ∣ (t.2.2 : Int) := Int.natCast_dvd_natCast.mpr (Nat.gcd_dvd_right _ _)
  refine ⟨k1 * q + k2 * u, ?_⟩
  rw [Int.mul_add, ← Int.mul_assoc, ← Int.mul_assoc, ← e1, ← e2]
  omega
theorem rf_add_val {r t : rfR} {x y : Int32} (hx : rf_in r x.toInt) (hy : rf_in t y.toInt) (h : rf_fit (r.1 + t.1) (r.2.1 + t.2.1) = true) : (x + y).toInt = x.toInt + y.toInt := by
  obtain ⟨a1, a2, -⟩ := hx
  obtain ⟨b1, b2, -⟩ := hy
  exact rf_mk_val (Int32.toInt_add x y) (by omega) (by omega) h
def rf_sub (r t : rfR) : rfR := rf_mk (r.1 - t.2.1) (r.2.1 - t.1) (if decide (t.1 = t.2.1) then r.2.2 else 1)
theorem rf_sub_in {r t : rfR} {x y : Int32} (hx : rf_in r x.toInt) (hy : rf_in t y.toInt) : rf_in (rf_sub r t) (x - y).toInt := by
  have hy' := hy
  obtain ⟨a1, a2, q, hq⟩ := hx
  obtain ⟨b1, b2, u, hu⟩ := hy
  refine rf_mk_in (x - y) (Int32.toInt_sub x y) (by omega) (by omega) ?_
  by_cases hs : t.1 = t.2.1
  · rw [if_pos (by simpa using hs)]
    exact ⟨q, by omega⟩
  · rw [if_neg (by simpa using hs)]
    exact ⟨x.toInt - y.toInt - (r.1 - t.2.1), by omega⟩
theorem rf_sub_val {r t : rfR} {x y : Int32} (hx : rf_in r x.toInt) (hy : rf_in t y.toInt) (h : rf_fit (r.1 - t.2.1) (r.2.1 - t.1) = true) : (x - y).toInt = x.toInt - y.toInt := by
  obtain ⟨a1, a2, -⟩ := hx
  obtain ⟨b1, b2, -⟩ := hy
  exact rf_mk_val (Int32.toInt_sub x y) (by omega) (by omega) h
-- multiplication by a constant that isn't negative
def rf_mulc (r : rfR) (n : Int) : rfR := rf_mk (r.1 * n) (r.2.1 * n) (r.2.2 * n.toNat)
theorem rf_mulc_in {r : rfR} {x y : Int32} (hx : rf_in r x.toInt) (hy : 0 ≤ y.toInt) : rf_in (rf_mulc r y.toInt) (x * y).toInt := by
  obtain ⟨a1, a2, q, hq⟩ := hx
  refine rf_mk_in (x * y) (Int32.toInt_mul x y) (Int.mul_le_mul_of_nonneg_right a1 hy) (Int.mul_le_mul_of_nonneg_right a2 hy) ⟨q, ?_⟩
  have e : ((r.2.2 * y.toInt.toNat : Nat) : Int) = (r.2.2 : Int) * y.toInt := by rw [Int.natCast_mul, Int.toNat_of_nonneg hy]
  rw [e, hq, Int.add_mul, Int.mul_assoc, Int.mul_assoc, Int.mul_comm q]
def rf_mul (r t : rfR) : rfR := if decide (t.1 = t.2.1) && decide (0 ≤ t.1) then rf_mulc r t.1 else if decide (r.1 = r.2.1) && decide (0 ≤ r.1) then rf_mulc t r.1 else if decide (0 ≤ r.1) && decide (0 ≤ t.1) then rf_mk (r.1 * t.1) (r.2.1 * t.2.1) 1 else rf_top
theorem rf_mul_in {r t : rfR} {x y : Int32} (hx : rf_in r x.toInt) (hy : rf_in t y.toInt) : rf_in (rf_mul r t) (x * y).toInt := by
  unfold rf_mul
  split
  · next h =>
    simp only [Bool.and_eq_true, decide_eq_true_eq] at h
    have e := rf_one_val hy h.1
    rw [← e]
    exact rf_mulc_in hx (by omega)
  · split
    · next h =>
      simp only [Bool.and_eq_true, decide_eq_true_eq] at h
      have e := rf_one_val hx h.1
      rw [← e, Int32.mul_comm]
      exact rf_mulc_in hy (by omega)
    · split
      · next h =>
        simp only [Bool.and_eq_true, decide_eq_true_eq] at h
        have a1 := hx.1
        have a2 := hx.2.1
        have b1 := hy.1
        have b2 := hy.2.1
        exact rf_mk_in (x * y) (Int32.toInt_mul x y) (Int.mul_le_mul a1 b1 h.2 (by omega)) (Int.mul_le_mul a2 b2 (by omega) (by omega)) ⟨x.toInt * y.toInt - r.1 * t.1, by omega⟩
      · exact rf_in_top _
-- division, remainder
def rf_div (r t : rfR) : rfR := if decide (t.1 = t.2.1) && decide (0 < t.1) then (r.1.tdiv t.1, r.2.1.tdiv t.1, 1) else rf_top
theorem rf_tdiv_mono {a b n : Int} (h0 : 0 ≤ a) (h : a ≤ b) (hn : 0 < n) : a.tdiv n ≤ b.tdiv n := by
  rw [Int.tdiv_eq_ediv_of_nonneg h0, Int.tdiv_eq_ediv_of_nonneg (by omega)]
  exact Int.ediv_le_ediv hn h
theorem rf_div_val {x y : Int32} (hx : 0 ≤ x.toInt) (hy : 0 < y.toInt) : (x / y).toInt = x.toInt / y.toInt := by
  have h := rf_lt32 x
  have h1 : x.toInt / y.toInt ≤ x.toInt := Int.ediv_le_self _ hx
  have h2 : 0 ≤ x.toInt / y.toInt := Int.ediv_nonneg hx (by omega)
  rw [Int32.toInt_div, Int.tdiv_eq_ediv_of_nonneg hx, rf_bm (by omega) (by omega)]
theorem rf_tdiv_mono2 {a b n : Int} (h : a ≤ b) (hn : 0 < n) : a.tdiv n ≤ b.tdiv n := by
  rcases Int.lt_or_le a 0 with ha | ha
  · have ea : a.tdiv n = -((-a).tdiv n) := by rw [Int.neg_tdiv, Int.neg_neg]
    have h1 : 0 ≤ (-a).tdiv n := Int.tdiv_nonneg (by omega) (by omega)
    rcases Int.lt_or_le b 0 with hb | hb
    · have eb : b.tdiv n = -((-b).tdiv n) := by rw [Int.neg_tdiv, Int.neg_neg]
      have h2 := rf_tdiv_mono (a := -b) (b := -a) (n := n) (by omega) (by omega) hn
      omega
    · have h2 : 0 ≤ b.tdiv n := Int.tdiv_nonneg hb (by omega)
      omega
  · exact rf_tdiv_mono ha h hn
theorem rf_div_val2 {x y : Int32} (hy : 0 < y.toInt) : (x / y).toInt = x.toInt.tdiv y.toInt := by
  have h1 := rf_lt32 x
  have h2 := rf_ge32 x
  rcases Int.lt_or_le x.toInt 0 with ha | ha
  · have ea : x.toInt.tdiv y.toInt = -((-x.toInt).tdiv y.toInt) := by rw [Int.neg_tdiv, Int.neg_neg]
    have h3 : 0 ≤ (-x.toInt).tdiv y.toInt := Int.tdiv_nonneg (by omega) (by omega)
    have h4 : (-x.toInt).tdiv y.toInt ≤ -x.toInt := by
      rw [Int.tdiv_eq_ediv_of_nonneg (by omega)]
      exact Int.ediv_le_self _ (by omega)
    rw [Int32.toInt_div, rf_bm (by omega) (by omega)]
  · rw [rf_div_val ha hy, Int.tdiv_eq_ediv_of_nonneg ha]
theorem rf_div_in {r t : rfR} {x y : Int32} (hx : rf_in r x.toInt) (hy : rf_in t y.toInt) : rf_in (rf_div r t) (x / y).toInt := by
  unfold rf_div
  split
  · next h =>
    simp only [Bool.and_eq_true, decide_eq_true_eq] at h
    have e := rf_one_val hy h.1
    obtain ⟨a1, a2, -⟩ := hx
    have hv := rf_div_val2 (x := x) (y := y) (by omega)
    rw [e] at hv
    refine ⟨?_, ?_, (x / y).toInt - r.1.tdiv t.1, ?_⟩
    · rw [hv]; exact rf_tdiv_mono2 a1 h.2
    · rw [hv]; exact rf_tdiv_mono2 a2 h.2
    · show _ = r.1.tdiv t.1 + ((1 : Nat) : Int) * _
      omega
  · exact rf_in_top _
def rf_rem (r t : rfR) : rfR := if decide (0 < t.1) then (if decide (0 ≤ r.1) then (0, if decide (r.2.1 < t.2.1 - 1) then r.2.1 else t.2.1 - 1, 1) else (1 - t.2.1, t.2.1 - 1, 1)) else rf_top
theorem rf_rem_eq (x y : Int32) : (x - x / y * y).toInt = x.toInt.tmod y.toInt := rem_toInt x y
theorem rf_rem_in {r t : rfR} {x y : Int32} (hx : rf_in r x.toInt) (hy : rf_in t y.toInt) : rf_in (rf_rem r t) (x - x / y * y).toInt := by
  unfold rf_rem
  split
  · next h =>
    simp only [decide_eq_true_eq] at h
    obtain ⟨a1, a2, -⟩ := hx
    obtain ⟨b1, b2, -⟩ := hy
    rw [rf_rem_eq]
    have hb := tmod_bounds (a := x.toInt) (M := y.toInt) (by omega)
    split
    · next h0 =>
      simp only [decide_eq_true_eq] at h0
      have hn : 0 ≤ x.toInt.tmod y.toInt := Int.tmod_nonneg _ (by omega)
      have hl : x.toInt.tmod y.toInt ≤ x.toInt := by
        rw [Int.tmod_eq_emod_of_nonneg (by omega)]
        have e := Int.mul_ediv_add_emod x.toInt y.toInt
        have e2 : 0 ≤ y.toInt * (x.toInt / y.toInt) := Int.mul_nonneg (by omega) (Int.ediv_nonneg (by omega) (by omega))
        omega
      refine ⟨hn, ?_, x.toInt.tmod y.toInt, by simp⟩
      show _ ≤ (if decide (r.2.1 < t.2.1 - 1) then r.2.1 else t.2.1 - 1)
      split <;> omega
    · exact ⟨by show 1 - t.2.1 ≤ _; omega, by show _ ≤ t.2.1 - 1; omega, x.toInt.tmod y.toInt - (1 - t.2.1), by show _ = (1 - t.2.1) + ((1 : Nat) : Int) * _; omega⟩
  · exact rf_in_top _
theorem rf_rem_lt {x y : Int32} (hx : 0 ≤ x.toInt) (hy : 0 < y.toInt) : 0 ≤ (x - x / y * y).toInt ∧ (x - x / y * y).toInt < y.toInt := by
  rw [rf_rem_eq]
  exact ⟨Int.tmod_nonneg _ hx, (tmod_bounds hy).2⟩
theorem rf_div_lt {x y : Int32} (hx : 0 < x.toInt) (hy : 1 < y.toInt) : 0 ≤ (x / y).toInt ∧ (x / y).toInt < x.toInt := by
  rw [rf_div_val (by omega) (by omega)]
  exact ⟨Int.ediv_nonneg (by omega) (by omega), Int.ediv_lt_self_of_pos_of_ne_one hx (by omega)⟩
-- negation
def rf_neg (r : rfR) : rfR := rf_mk (-r.2.1) (-r.1) 1
theorem rf_neg_in {r : rfR} {x : Int32} (hx : rf_in r x.toInt) : rf_in (rf_neg r) (-x).toInt := by
  obtain ⟨a1, a2, -⟩ := hx
  exact rf_mk_in (-x) (Int32.toInt_neg x) (by omega) (by omega) ⟨-x.toInt + r.2.1, by omega⟩
end RfArith
