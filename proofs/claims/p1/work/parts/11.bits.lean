/-! bit operations on ranges -/
section RfBits
theorem rf_nn {x : Int32} (h : 0 ≤ x.toInt) : x.toInt = (x.toBitVec.toNat : Int) ∧ x.toBitVec.toNat < 2 ^ 31 := by
  have h1 : x.toInt = x.toBitVec.toInt := rfl
  rw [h1] at h ⊢
  have h2 := BitVec.toInt_eq_toNat_cond x.toBitVec
  have h3 := x.toBitVec.isLt
  split at h2 <;> omega
theorem rf_nn_of {x : Int32} (h : x.toBitVec.toNat < 2 ^ 31) : x.toInt = (x.toBitVec.toNat : Int) := by
  have h1 : x.toInt = x.toBitVec.toInt := rfl
  rw [h1]
  have h2 := BitVec.toInt_eq_toNat_cond x.toBitVec
  split at h2 <;> omega
def rf_and (r t : rfR) : rfR := if decide (0 ≤ r.1) then (if decide (0 ≤ t.1) then (0, if decide (r.2.1 < t.2.1) then r.2.1 else t.2.1, 1) else (0, r.2.1, 1)) else if decide (0 ≤ t.1) then (0, t.2.1, 1) else rf_top
theorem rf_and_l {x y : Int32} (h : 0 ≤ x.toInt) : 0 ≤ (x &&& y).toInt ∧ (x &&& y).toInt ≤ x.toInt := by
  obtain ⟨e, hl⟩ := rf_nn h
  have h1 : (x &&& y).toBitVec.toNat = x.toBitVec.toNat &&& y.toBitVec.toNat := by rw [Int32.toBitVec_and, BitVec.toNat_and]
  have h2 : x.toBitVec.toNat &&& y.toBitVec.toNat ≤ x.toBitVec.toNat := Nat.and_le_left
  have h3 := rf_nn_of (x := x &&& y) (by omega)
  omega
theorem rf_and_r {x y : Int32} (h : 0 ≤ y.toInt) : 0 ≤ (x &&& y).toInt ∧ (x &&& y).toInt ≤ y.toInt := by
  rw [Int32.and_comm]; exact rf_and_l h
theorem rf_in1 {lo hi z : Int} (h1 : lo ≤ z) (h2 : z ≤ hi) : rf_in (lo, hi, 1) z := ⟨h1, h2, z - lo, by show z = lo + ((1 : Nat) : Int) * _; omega⟩
theorem rf_and_in {r t : rfR} {x y : Int32} (hx : rf_in r x.toInt) (hy : rf_in t y.toInt) : rf_in (rf_and r t) (x &&& y).toInt := by
  obtain ⟨a1, a2, -⟩ := hx
  obtain ⟨b1, b2, -⟩ := hy
  unfold rf_and
  split
  · next h =>
    simp only [decide_eq_true_eq] at h
    have l := rf_and_l (x := x) (y := y) (by omega)
    split
    · next h2 =>
      simp only [decide_eq_true_eq] at h2
      have l2 := rf_and_r (x := x) (y := y) (by omega)
      refine rf_in1 l.1 ?_
      split <;> omega
    · exact rf_in1 l.1 (by omega)
  · split
    · next h2 =>
      simp only [decide_eq_true_eq] at h2
      have l2 := rf_and_r (x := x) (y := y) (by omega)
      exact rf_in1 l2.1 (by omega)
    · exact rf_in_top _
/-- the least 2 ^ k - 1 that isn't less, k at most 31 -/
def rf_p2 (n : Int) : Int := (2 : Int) ^ (n.toNat.log2 + 1) - 1
theorem rf_p2_lt {n : Int} {m : Nat} (h : (m : Int) ≤ n) : m < 2 ^ (n.toNat.log2 + 1) := by
  have h1 : m ≤ n.toNat := by omega
  have h2 : n.toNat < 2 ^ (n.toNat.log2 + 1) := Nat.lt_log2_self
  omega
def rf_or (r t : rfR) : rfR := if decide (0 ≤ r.1) && decide (0 ≤ t.1) then (0, rf_p2 (if decide (r.2.1 < t.2.1) then t.2.1 else r.2.1), 1) else rf_top
theorem rf_p2_max {a b : Int} {m n : Nat} (h : (m : Int) ≤ a) (h2 : (n : Int) ≤ b) : m < 2 ^ ((if decide (a < b) then b else a).toNat.log2 + 1) ∧ n < 2 ^ ((if decide (a < b) then b else a).toNat.log2 + 1) := by
  constructor <;> apply rf_p2_lt <;> split <;> rename_i q <;> simp only [decide_eq_true_eq] at q <;> omega
theorem rf_cast2 (k : Nat) : ((2 ^ k : Nat) : Int) = (2 : Int) ^ k := by rw [Int.natCast_pow]; rfl
theorem rf_or_in {r t : rfR} {x y : Int32} (hx : rf_in r x.toInt) (hy : rf_in t y.toInt) : rf_in (rf_or r t) (x ||| y).toInt := by
  obtain ⟨a1, a2, -⟩ := hx
  obtain ⟨b1, b2, -⟩ := hy
  unfold rf_or
  split
  · next h =>
    simp only [Bool.and_eq_true, decide_eq_true_eq] at h
    obtain ⟨e1, l1⟩ := rf_nn (x := x) (by omega)
    obtain ⟨e2, l2⟩ := rf_nn (x := y) (by omega)
    have h1 : (x ||| y).toBitVec.toNat = x.toBitVec.toNat ||| y.toBitVec.toNat := by rw [Int32.toBitVec_or, BitVec.toNat_or]
    obtain ⟨p1, p2⟩ := rf_p2_max (a := r.2.1) (b := t.2.1) (m := x.toBitVec.toNat) (n := y.toBitVec.toNat) (by omega) (by omega)
    have h2 := Nat.or_lt_two_pow l1 l2
    have h3 := Nat.or_lt_two_pow p1 p2
    rw [← h1] at h2 h3
    have h4 := rf_nn_of h2
    refine rf_in1 (by omega) ?_
    unfold rf_p2
    have h5 := rf_cast2 ((if decide (r.2.1 < t.2.1) then t.2.1 else r.2.1).toNat.log2 + 1)
    omega
  · exact rf_in_top _
def rf_xor (r t : rfR) : rfR := if decide (t.1 = -1) && decide (t.2.1 = -1) then rf_mk (-r.2.1 - 1) (-r.1 - 1) 1 else if decide (0 ≤ r.1) && decide (0 ≤ t.1) then (0, rf_p2 (if decide (r.2.1 < t.2.1) then t.2.1 else r.2.1), 1) else rf_top
theorem rf_xor_in {r t : rfR} {x y : Int32} (hx : rf_in r x.toInt) (hy : rf_in t y.toInt) : rf_in (rf_xor r t) (x ^^^ y).toInt := by
  obtain ⟨a1, a2, -⟩ := hx
  obtain ⟨b1, b2, -⟩ := hy
  unfold rf_xor
  split
  · next h =>
    simp only [Bool.and_eq_true, decide_eq_true_eq] at h
    have hm : y = -1 := Int32.toInt_inj.mp (by rw [show (-1 : Int32).toInt = -1 from by decide +kernel]; omega)
    subst hm
    have e : x ^^^ -1 = ~~~x := by rw [Int32.xor_neg_one]
    rw [e]
    exact rf_mk_in _ (Int32.toInt_not x) (by omega) (by omega) ⟨-x.toInt - 1 - (-r.2.1 - 1), by omega⟩
  · split
    · next h =>
      simp only [Bool.and_eq_true, decide_eq_true_eq] at h
      obtain ⟨e1, l1⟩ := rf_nn (x := x) (by omega)
      obtain ⟨e2, l2⟩ := rf_nn (x := y) (by omega)
      have h1 : (x ^^^ y).toBitVec.toNat = x.toBitVec.toNat ^^^ y.toBitVec.toNat := by rw [Int32.toBitVec_xor, BitVec.toNat_xor]
      obtain ⟨p1, p2⟩ := rf_p2_max (a := r.2.1) (b := t.2.1) (m := x.toBitVec.toNat) (n := y.toBitVec.toNat) (by omega) (by omega)
      have h2 := Nat.xor_lt_two_pow l1 l2
      have h3 := Nat.xor_lt_two_pow p1 p2
      rw [← h1] at h2 h3
      have h4 := rf_nn_of h2
      refine rf_in1 (by omega) ?_
      unfold rf_p2
      have h5 := rf_cast2 ((if decide (r.2.1 < t.2.1) then t.2.1 else r.2.1).toNat.log2 + 1)
      omega
    · exact rf_in_top _
-- shifts: the machine's are x <<< (y &&& 31), x >>> (y &&& 31)
theorem rf_sh31 {y : Int32} (h0 : 0 ≤ y.toInt) (h1 : y.toInt ≤ 31) : ((y &&& 31).toBitVec.smod 32).toNat = y.toInt.toNat := by
  obtain ⟨j, hj, rfl⟩ : ∃ j : Nat, j < 32 ∧ y = nI j := by
    refine ⟨y.toInt.toNat, by omega, Int32.toInt_inj.mp ?_⟩
    rw [nI_toInt (by omega)]
    omega
  rw [nI_toInt (by omega)]
  exact (by decide +kernel : ∀ n, n < 32 → ((nI n &&& 31).toBitVec.smod 32).toNat = (n : Int).toNat) j hj
def rf_shl (r t : rfR) : rfR := if decide (0 ≤ r.1) && decide (0 ≤ t.1) && decide (t.2.1 ≤ 31) && decide (r.2.1 * (2 : Int) ^ t.2.1.toNat ≤ 2147483647) then (r.1 * (2 : Int) ^ t.1.toNat, r.2.1 * (2 : Int) ^ t.2.1.toNat, 1) else rf_top
theorem rf_pow_mono {a b : Nat} (h : a ≤ b) : (2 : Int) ^ a ≤ (2 : Int) ^ b := by
  rw [← rf_cast2, ← rf_cast2]
  exact Int.ofNat_le.mpr (Nat.pow_le_pow_right (by decide) h)
theorem rf_pow_pos (a : Nat) : (0 : Int) < (2 : Int) ^ a := by
  rw [← rf_cast2]
  exact Int.ofNat_lt.mpr (Nat.pow_pos (by decide))
theorem rf_shl_in {r t : rfR} {x y : Int32} (hx : rf_in r x.toInt) (hy : rf_in t y.toInt) : rf_in (rf_shl r t) (x <<< (y &&& 31)).toInt := by
  obtain ⟨a1, a2, -⟩ := hx
  obtain ⟨b1, b2, -⟩ := hy
  unfold rf_shl
  split
  · next h =>
    simp only [Bool.and_eq_true, decide_eq_true_eq] at h
    obtain ⟨⟨⟨h1, h2⟩, h3⟩, h4⟩ := h
    obtain ⟨e1, l1⟩ := rf_nn (x := x) (by omega)
    have hs := pk_shl x (y &&& 31) y.toInt.toNat (rf_sh31 (by omega) (by omega))
    have m1 : x.toInt * (2 : Int) ^ y.toInt.toNat ≤ r.2.1 * (2 : Int) ^ t.2.1.toNat :=
      Int.mul_le_mul a2 (rf_pow_mono (by omega)) (Int.le_of_lt (rf_pow_pos _)) (by omega)
    have m2 : r.1 * (2 : Int) ^ t.1.toNat ≤ x.toInt * (2 : Int) ^ y.toInt.toNat :=
      Int.mul_le_mul a1 (rf_pow_mono (by omega)) (Int.le_of_lt (rf_pow_pos _)) (by omega)
    have e2 : ((x.toBitVec.toNat * 2 ^ y.toInt.toNat : Nat) : Int) = x.toInt * (2 : Int) ^ y.toInt.toNat := by rw [Int.natCast_mul, rf_cast2, e1]
    have hlt : x.toBitVec.toNat * 2 ^ y.toInt.toNat < 2 ^ 31 := by omega
    rw [Nat.mod_eq_of_lt (by omega)] at hs
    have h5 := rf_nn_of (x := x <<< (y &&& 31)) (by omega)
    rw [h5, hs]
    exact rf_in1 (by omega) (by omega)
  · exact rf_in_top _
def rf_shr (r : rfR) : rfR := (if decide (0 ≤ r.1) then 0 else r.1, if decide (0 ≤ r.2.1) then r.2.1 else -1, 1)
theorem rf_shr_b (a : Int) (k : Nat) : (0 ≤ a → 0 ≤ a >>> k ∧ a >>> k ≤ a) ∧ (a < 0 → a ≤ a >>> k ∧ a >>> k ≤ -1) := by
  have hp : (0 : Int) < ((2 ^ k : Nat) : Int) := Int.ofNat_lt.mpr (Nat.pow_pos (by decide))
  rw [Int.shiftRight_eq_div_pow]
  constructor
  · intro h
    exact ⟨Int.ediv_nonneg h (by omega), Int.ediv_le_self _ h⟩
  · intro h
    constructor
    · have h2 := (Int.le_ediv_iff_mul_le (a := a) (b := a) hp).mpr
      apply h2
      have : a * ((2 ^ k : Nat) : Int) ≤ a * 1 := Int.mul_le_mul_of_nonpos_left (by omega) (by omega)
      omega
    · have := Int.ediv_neg_of_neg_of_pos h hp
      omega
theorem rf_shr_k (y : Int32) : ∃ k : Nat, ((y &&& 31).toBitVec.smod 32).toNat = k := ⟨_, rfl⟩
theorem rf_shr_in {r : rfR} {x y : Int32} (hx : rf_in r x.toInt) : rf_in (rf_shr r) (x >>> (y &&& 31)).toInt := by
  obtain ⟨a1, a2, -⟩ := hx
  have hs := pk_shr x (y &&& 31) _ rfl
  have hb := rf_shr_b x.toInt ((y &&& 31).toBitVec.smod 32).toNat
  rw [hs]
  unfold rf_shr
  refine rf_in1 ?_ ?_
  · split <;> rename_i q <;> simp only [decide_eq_true_eq] at q
    · exact (hb.1 (by omega)).1
    · rcases Int.lt_or_le x.toInt 0 with h | h
      · have := hb.2 h; omega
      · have := hb.1 h; omega
  · split <;> rename_i q <;> simp only [decide_eq_true_eq] at q
    · rcases Int.lt_or_le x.toInt 0 with h | h
      · have := hb.2 h; omega
      · have := hb.1 h; omega
    · have := hb.2 (by omega); omega
-- narrowing
def rf_i2b (r : rfR) : rfR := if decide (-128 ≤ r.1) && decide (r.2.1 ≤ 127) then r else (-128, 127, 1)
theorem rf_i2b_v (x : Int32) : x.toInt8.toInt32.toInt = x.toInt.bmod (2 ^ 8) := by rw [Int8.toInt_toInt32, Int32.toInt_toInt8]
theorem rf_i2b_in {r : rfR} {x : Int32} (hx : rf_in r x.toInt) : rf_in (rf_i2b r) x.toInt8.toInt32.toInt := by
  rw [rf_i2b_v]
  unfold rf_i2b
  split
  · next h =>
    simp only [Bool.and_eq_true, decide_eq_true_eq] at h
    rw [Int.bmod_eq_of_le (by have := hx.1; omega) (by have := hx.2.1; omega)]
    exact hx
  · have h1 : -((2 ^ 8 : Nat) : Int) / 2 ≤ x.toInt.bmod (2 ^ 8) := Int.le_bmod (by decide)
    have h2 : x.toInt.bmod (2 ^ 8) < (((2 ^ 8 : Nat) : Int) + 1) / 2 := Int.bmod_lt (by decide)
    exact rf_in1 (by omega) (by omega)
def rf_i2c (r : rfR) : rfR := if decide (0 ≤ r.1) && decide (r.2.1 ≤ 65535) then r else (0, 65535, 1)
theorem rf_i2c_in {r : rfR} {x : Int32} (hx : rf_in r x.toInt) : rf_in (rf_i2c r) (x.toUInt32 % 65536).toInt32.toInt := by
  rw [pk_char]
  have hm : x.toBitVec.toNat % 65536 < 65536 := Nat.mod_lt _ (by decide)
  rw [nI_toInt (by omega)]
  unfold rf_i2c
  split
  · next h =>
    simp only [Bool.and_eq_true, decide_eq_true_eq] at h
    obtain ⟨e, l⟩ := rf_nn (x := x) (by have := hx.1; omega)
    have h2 := hx.2.1
    rw [Nat.mod_eq_of_lt (by omega), ← e]
    exact hx
  · exact rf_in1 (by omega) (by omega)
def rf_ushr (t : rfR) : rfR := if decide (1 ≤ t.1) && decide (t.2.1 ≤ 31) then (0, 2147483647, 1) else rf_top
theorem rf_lcmp (x y : Int64) : rf_in (-1, 1, 1) (lg_cmp x y).toInt := by
  unfold lg_cmp
  have e1 : (1 : Int32).toInt = 1 := by decide +kernel
  have e0 : (0 : Int32).toInt = 0 := by decide +kernel
  have em : (-1 : Int32).toInt = -1 := by decide +kernel
  repeat' split
  all_goals first | (rw [e1]; exact rf_in1 (by omega) (by omega)) | (rw [e0]; exact rf_in1 (by omega) (by omega)) | (rw [em]; exact rf_in1 (by omega) (by omega))
end RfBits
