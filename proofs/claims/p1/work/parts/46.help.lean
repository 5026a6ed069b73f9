theorem hupd_s (F : HF) (j k : Nat) (x : Int32) : hupd F j k x j k = x := by simp [hupd]
theorem hin1 {r : rfR} {k : Nat} {x : Int} (h : rf_in r x) : rf_in (([r] : List rfR).getD (k % ([r] : List rfR).length) rf_top) x := by
  have e : k % ([r] : List rfR).length = 0 := Nat.mod_one k
  rw [e]; exact h
theorem h_ldc2 {X : rfX} {G : rfG} {M : rfM} {w0 : va_W} {Lay : List rfL} {fl : rfFl} {cs lc : List (Nat × Int)} {Q : Option Value → HF → Prop} {L : List (Nat × Value)} {st : List Value} {F : HF} {pc i : Nat} {n : Int} (c : hC G X M w0 Lay fl cs Q) (hlc : rf_lcok (my M).cls G.2.2.1 lc) (hd : decode (mb M) pc = .ok (.ldc2_w i, 3)) (hc : lc.find? (fun q => q.1 == i) = some (i, n)) (K : ∀ x : Int64, hW G X M w0 (pc + 3) L (.long x :: st) F) : hW G X M w0 pc L st F := fun ws hw hs hF ls H locs hl hP hD hS =>
  lv_ldc2 c.2.2.1.1 c.2.2.1.2.1 c.2.2.1.2.2.2.1 (c.2.2.1.2.2.2.2.1 _ (hlc _ (rf_find1 hc))) hd (K _ ws hw hs hF ls H locs hl hP hD hS)
theorem h_addW {X : rfX} {G : rfG} {M : rfM} {w0 : va_W} {Lay : List rfL} {fl : rfFl} {cs : List (Nat × Int)} {Q : Option Value → HF → Prop} {L : List (Nat × Value)} {st : List Value} {F : HF} {pc : Nat} (c : hC G X M w0 Lay fl cs Q) {a b : Int32} (hd : decode (mb M) pc = .ok (.iadd, 1)) (K : hW G X M w0 (pc + 1) L (.int (a + b) :: st) F) : hW G X M w0 pc L (.int b :: .int a :: st) F := fun ws hw hs hF ls H locs hl hP hD hS =>
  lv_iadd c.2.2.1.1 c.2.2.1.2.1 hd (K ws hw hs hF ls H locs hl hP hD hS)
theorem h_subW {X : rfX} {G : rfG} {M : rfM} {w0 : va_W} {Lay : List rfL} {fl : rfFl} {cs : List (Nat × Int)} {Q : Option Value → HF → Prop} {L : List (Nat × Value)} {st : List Value} {F : HF} {pc : Nat} (c : hC G X M w0 Lay fl cs Q) {a b : Int32} (hd : decode (mb M) pc = .ok (.isub, 1)) (K : hW G X M w0 (pc + 1) L (.int (a - b) :: st) F) : hW G X M w0 pc L (.int b :: .int a :: st) F := fun ws hw hs hF ls H locs hl hP hD hS =>
  lv_isub c.2.2.1.1 c.2.2.1.2.1 hd (K ws hw hs hF ls H locs hl hP hD hS)
theorem h_mulW {X : rfX} {G : rfG} {M : rfM} {w0 : va_W} {Lay : List rfL} {fl : rfFl} {cs : List (Nat × Int)} {Q : Option Value → HF → Prop} {L : List (Nat × Value)} {st : List Value} {F : HF} {pc : Nat} (c : hC G X M w0 Lay fl cs Q) {a b : Int32} (hd : decode (mb M) pc = .ok (.imul, 1)) (K : hW G X M w0 (pc + 1) L (.int (a * b) :: st) F) : hW G X M w0 pc L (.int b :: .int a :: st) F := fun ws hw hs hF ls H locs hl hP hD hS =>
  lv_imul c.2.2.1.1 c.2.2.1.2.1 hd (K ws hw hs hF ls H locs hl hP hD hS)
theorem hat {X : rfX} {G : rfG} {M : rfM} {w0 : va_W} {L : List (Nat × Value)} {st : List Value} {F : HF} {pc : Nat} (pc' : Nat) (h : pc = pc') (K : hW G X M w0 pc' L st F) : hW G X M w0 pc L st F := by subst h; exact K
theorem hm1 {α : Type} {a k : α} (h : k ∈ [a]) : k = a := List.mem_singleton.mp h
theorem hm2 {α : Type} {a b k : α} (h : k ∈ [a, b]) : k = a ∨ k = b := by simpa using h
theorem hm3 {α : Type} {a b c k : α} (h : k ∈ [a, b, c]) : k = a ∨ k = b ∨ k = c := by simpa using h
theorem hm4 {α : Type} {a b c d k : α} (h : k ∈ [a, b, c, d]) : k = a ∨ k = b ∨ k = c ∨ k = d := by simpa using h
theorem hm5 {α : Type} {a b c d e k : α} (h : k ∈ [a, b, c, d, e]) : k = a ∨ k = b ∨ k = c ∨ k = d ∨ k = e := by simpa using h
theorem hk_val {r : rfR} {y : rfY} {ar : List (Nat × Int × Int)} {fs : List rfF} {vs : List Value} {F F' : HF} {rv : Option Value} (h : hkok (some (.inl (r, y)), ar, fs) vs F F' rv) : ∃ x : Int32, rv = some (.int x) ∧ rf_in r x.toInt := by
  obtain ⟨h1, -, -⟩ := h
  match rv, h1 with
  | some v, ⟨x, e, hx⟩ => exact ⟨x, by rw [e], hx⟩
theorem hk_arg {k : rfK} {vs : List Value} {F F' : HF} {rv : Option Value} (h : hkok k vs F F' rv) (i : Nat) {q : Nat × Int × Int} {x : Int32} (hq : k.2.1[i]? = some q) (hx : vs[q.1]? = some (.int x)) : q.2.1 ≤ x.toInt ∧ x.toInt ≤ q.2.2 := by
  obtain ⟨z, e, h2⟩ := h.2.1 q (List.mem_of_getElem? hq)
  rw [hx] at e
  cases e
  exact h2
theorem hk_fact {k : rfK} {vs : List Value} {F F' : HF} {rv : Option Value} (h : hkok k vs F F' rv) (i : Nat) {q : rfF} (hq : k.2.2[i]? = some q) : rf_in q.2.1 (hslot F' q.1) ∧ (match q.2.2 with
    | none => True
    | some (g, a, b) => hslot F g + a ≤ hslot F' q.1 ∧ hslot F' q.1 ≤ hslot F g + b) := h.2.2 q (List.mem_of_getElem? hq)
theorem hk_gh {F : HF} {g : Nat} (h : rf_in (1, 1, 0) (hslot F (998, g))) : hgh F g = true := by
  obtain ⟨h1, h2, -⟩ := h
  simp only [hslot, if_pos] at h1 h2
  split at h1
  · assumption
  · simp at h1
theorem hg_in {F : HF} {g : Nat} (h : hgh F g = true) : rf_in (1, 1, 0) (hslot F (998, g)) := by
  simp only [hslot, if_pos, h]
  exact ⟨Int.le_refl _, Int.le_refl _, 0, by simp⟩
theorem hrg {Lay : List rfL} {F : HF} (h : hrng Lay F) {j k : Nat} {r : rfR} (hl : rf_layr Lay j k = some r) : r.1 ≤ (F j k).toInt ∧ (F j k).toInt ≤ r.2.1 := ⟨(h j k r hl).1, (h j k r hl).2.1⟩
theorem hrga {Lay : List rfL} {F : HF} (h : hrng Lay F) {t j n k : Nat} {r : rfR} (hl : rf_arr Lay t j = some (n, [r])) (hk : k < n) : r.1 ≤ (F j k).toInt ∧ (F j k).toInt ≤ r.2.1 := by
  refine hrg h (k := k) ?_
  unfold rf_arr at hl
  unfold rf_layr
  split at hl
  · next t' n' tb hL =>
    split at hl
    · cases hl
      rw [hL]
      simp only [decide_eq_true hk, if_true, List.length_singleton, Nat.mod_one]
      rfl
    · cases hl
  · cases hl
theorem hdk {cc : ByteArray} {dec : List (Nat × Instr × Nat)} (h : rf_decs cc dec) (n pc : Nat) (i : Instr) (len : Nat) (hq : dec[n]? = some (pc, i, len)) : decode cc pc = .ok (i, len) := h (pc, i, len) (List.mem_of_getElem? hq)
theorem hframe_rf (ms : List (Nat × Nat)) (F : HF) : hframe ms F F := fun _ _ _ _ => rfl
theorem hframe_up {ms : List (Nat × Nat)} {F F1 : HF} (h : hframe ms F F1) {j k : Nat} (hm : rf_mod ms j k = true) (x : Int32) : hframe ms F (hupd F1 j k x) := by
  intro j' k' h9 hm'
  unfold hupd
  by_cases hj : j' = j
  · subst hj
    rw [if_pos rfl]
    by_cases hk : k' = k
    · subst hk; rw [hm] at hm'; cases hm'
    · rw [if_neg hk]; exact h _ _ h9 hm'
  · rw [if_neg hj]; exact h _ _ h9 hm'
theorem hframe_tr {ms ms' : List (Nat × Nat)} {F F1 F2 : HF} (h : hframe ms F F1) (h2 : hframe ms' F1 F2) (hm : rf_msub ms' ms = true) : hframe ms F F2 := fun j k h9 hk => by
  rw [h2 j k h9 (by cases hq : rf_mod ms' j k with
    | false => rfl
    | true => rw [rf_msub_ok hm j k hq] at hk; cases hk)]
  exact h j k h9 hk
theorem h_less {X : rfX} {G : rfG} {M : rfM} {w0 : va_W} {L L' : List (Nat × Value)} {st : List Value} {F : HF} {pc : Nat} (h : ∀ q ∈ L, q ∈ L') (K : hW G X M w0 pc L st F) : hW G X M w0 pc L' st F := fun ws hw hs hF ls H locs hl hP hD hS => K ws hw hs hF ls H locs ⟨hl.1, hl.2.1, fun q hq => hl.2.2 q (h q hq)⟩ hP hD hS
def hfs (F F' : HF) : List rfF → Prop
  | [] => True
  | q :: fs => (rf_in q.2.1 (hslot F' q.1) ∧ (match q.2.2 with
    | none => True
    | some (g, a, b) => hslot F g + a ≤ hslot F' q.1 ∧ hslot F' q.1 ≤ hslot F g + b)) ∧ hfs F F' fs
theorem hfs_mk {F F' : HF} : ∀ {fs : List rfF}, hfs F F' fs → ∀ q ∈ fs, rf_in q.2.1 (hslot F' q.1) ∧ (match q.2.2 with
    | none => True
    | some (g, a, b) => hslot F g + a ≤ hslot F' q.1 ∧ hslot F' q.1 ≤ hslot F g + b)
  | _ :: _, h, q, hq => (List.mem_cons.mp hq).elim (fun e => by rw [e]; exact h.1) (fun hq => hfs_mk h.2 q hq)
theorem hcon {x : Int32} {n : Int} (h : x.toInt = n) : rf_in (n, n, 0) x.toInt := ⟨by simp only; omega, by simp only; omega, 0, by simp only; omega⟩
theorem hgC_mk {F : HF} {b c u : Int} (h1 : (F 114 29).toInt = b) (h2 : (F 114 30).toInt = c) (h3 : (F 74 (F 114 29).toInt.toNat).toInt = u) (h : 560 * b ≤ c ∧ c ≤ 560 * b + 9 * u) : hgh F 2 = true := by
  simp only [hgh, rf_gCf, Bool.and_eq_true, decide_eq_true_eq]
  rw [h3, h1, h2]
  exact h
theorem hgC_at {F : HF} (h : hgh F 2 = true) : 560 * (F 114 29).toInt ≤ (F 114 30).toInt ∧ (F 114 30).toInt ≤ 560 * (F 114 29).toInt + 9 * (F 74 (F 114 29).toInt.toNat).toInt := by
  simpa only [hgh, rf_gCf, Bool.and_eq_true, decide_eq_true_eq] using h
theorem hgJ_at {F : HF} (h : hgh F 0 = true) (b : Nat) (hb : b < 2) : (F 84 b).toInt ≤ (F 83 b).toInt ∨ (560 * (b : Int) ≤ (F 83 b).toInt ∧ (F 84 b).toInt ≤ 560 * (b : Int) + 560 ∧ rf_runH (fun k => (F 85 k).toInt) ((F 84 b).toInt - (F 83 b).toInt).toNat (F 83 b).toInt.toNat 0 = true) := by
  have := List.all_eq_true.mp h b (List.mem_range.mpr hb)
  simp only [Bool.or_eq_true, Bool.and_eq_true, decide_eq_true_eq] at this
  rcases this with h1 | h1
  · exact Or.inl h1
  · exact Or.inr ⟨h1.1.1, h1.1.2, h1.2⟩
/-! BITS (the family of BITS.to-paste, then rows of our own) -/
def bt (x : Int32) (i : Nat) : Bool := x.toBitVec.getLsbD i
theorem b_ext {x y : Int32} (h : ∀ i, i < 32 → bt x i = bt y i) : x = y := Int32.toBitVec_inj.mp (BitVec.eq_of_getLsbD_eq (fun i hi => h i hi))
theorem b_or (x y : Int32) (i : Nat) : bt (x ||| y) i = (bt x i || bt y i) := by unfold bt; rw [Int32.toBitVec_or, BitVec.getLsbD_or]
theorem b_and (x y : Int32) (i : Nat) : bt (x &&& y) i = (bt x i && bt y i) := by unfold bt; rw [Int32.toBitVec_and, BitVec.getLsbD_and]
theorem b_xor (x y : Int32) (i : Nat) : bt (x ^^^ y) i = (bt x i ^^ bt y i) := by unfold bt; rw [Int32.toBitVec_xor, BitVec.getLsbD_xor]
theorem b_big {x : Int32} {i : Nat} (h : 32 ≤ i) : bt x i = false := BitVec.getLsbD_of_ge _ _ h
theorem b_255 (i : Nat) : bt 255 i = decide (i < 8) := by
  rcases Nat.lt_or_ge i 32 with h | h
  · exact (by decide +kernel : ∀ i, i < 32 → bt 255 i = decide (i < 8)) i h
  · rw [b_big h, decide_eq_false (by omega)]
theorem b_65535 (i : Nat) : bt 65535 i = decide (i < 16) := by
  rcases Nat.lt_or_ge i 32 with h | h
  · exact (by decide +kernel : ∀ i, i < 32 → bt 65535 i = decide (i < 16)) i h
  · rw [b_big h, decide_eq_false (by omega)]
theorem b_m1 : ∀ i, i < 32 → bt (-1) i = true := by decide +kernel
theorem b_0 (i : Nat) : bt 0 i = false := BitVec.getLsbD_zero
theorem s_l : ∀ n, n < 32 → ((nI n &&& 31).toBitVec.smod 32).toNat = n := by decide +kernel
theorem s_u : ∀ n, n < 32 → (((nI n).toUInt32 &&& Int32.toUInt32 31).toBitVec % 32).toNat = n := by decide +kernel
theorem b_shl (n : Nat) (hn : n < 32) (x : Int32) {i : Nat} (hi : i < 32) : bt (x <<< (nI n &&& 31)) i = (decide (n ≤ i) && bt x (i - n)) := by
  unfold bt
  rw [Int32.toBitVec_shiftLeft]
  show (x.toBitVec <<< ((nI n &&& 31).toBitVec.smod 32).toNat).getLsbD i = _
  rw [s_l n hn, BitVec.getLsbD_shiftLeft]
  rcases Nat.lt_or_ge i n with h | h
  · simp [h, Nat.not_le.mpr h]
  · simp [hi, h, Nat.not_lt.mpr h]
theorem b_ushr (n : Nat) (hn : n < 32) (x : Int32) (i : Nat) : bt ((x.toUInt32 >>> ((nI n).toUInt32 &&& Int32.toUInt32 31)).toInt32) i = bt x (n + i) := by
  show (x.toUInt32 >>> ((nI n).toUInt32 &&& Int32.toUInt32 31)).toBitVec.getLsbD i = x.toUInt32.toBitVec.getLsbD (n + i)
  rw [UInt32.toBitVec_shiftRight]
  show (x.toUInt32.toBitVec >>> (((nI n).toUInt32 &&& Int32.toUInt32 31).toBitVec % 32).toNat).getLsbD i = _
  rw [s_u n hn, BitVec.getLsbD_ushiftRight]
theorem b_sshr (n : Nat) (hn : n < 32) (x : Int32) {i : Nat} (hi : i < 32) : bt (x >>> (nI n &&& 31)) i = if n + i < 32 then bt x (n + i) else bt x 31 := by
  unfold bt
  rw [Int32.toBitVec_shiftRight]
  show (x.toBitVec.sshiftRight ((nI n &&& 31).toBitVec.smod 32).toNat).getLsbD i = _
  rw [s_l n hn, BitVec.getLsbD_sshiftRight, BitVec.msb_eq_getLsbD_last]
  simp [hi]
theorem b_1 : ∀ i, i < 32 → bt 1 i = decide (i = 0) := by decide +kernel
theorem h_c1 {v : Int32} (h : v.toInt = 1) : v = 1 := Int32.toInt_inj.mp (by rw [h]; decide +kernel)
theorem h_c2 {v : Int32} (h : v.toInt = 2) : v = 2 := Int32.toInt_inj.mp (by rw [h]; decide +kernel)
theorem h_cm1 {v : Int32} (h : v.toInt = -1) : v = -1 := Int32.toInt_inj.mp (by rw [h]; decide +kernel)
theorem h_nI {k : Int32} (h0 : 0 ≤ k.toInt) (h1 : k.toInt ≤ 31) : ∃ n : Nat, n < 32 ∧ k = nI n ∧ k.toInt.toNat = n := ⟨k.toInt.toNat, by omega, Int32.toInt_inj.mp (by rw [nI_toInt (by omega)]; omega), rfl⟩
theorem h_bitE {a : Int32} {n : Nat} (hn : n < 32) : ((a >>> (nI n &&& 31)) &&& 1) = if bt a n then 1 else 0 := by
  apply b_ext
  intro i hi
  rw [b_and, b_1 i hi]
  by_cases h : i = 0
  · subst h
    rw [b_sshr n hn a (by omega), Nat.add_zero, if_pos hn]
    cases bt a n <;> decide
  · rw [decide_eq_false h, Bool.and_false]
    split
    · rw [b_1 i hi, decide_eq_false h]
    · rw [b_0]
theorem h_bit1 {a k v : Int32} (h0 : 0 ≤ k.toInt) (h1 : k.toInt ≤ 31) (hv : v.toInt = 1) : ((a >>> (k &&& 31)) &&& v).toInt = if bt a k.toInt.toNat then 1 else 0 := by
  cases h_c1 hv
  obtain ⟨n, hn, e, e2⟩ := h_nI h0 h1
  rw [e2, e, h_bitE hn]
  cases bt a n <;> decide
/-- how many bits below n -/
def hcb (s : Int32) : Nat → Nat
  | 0 => 0
  | n + 1 => hcb s n + (if bt s n then 1 else 0)
theorem hcb_le (s : Int32) : ∀ n, hcb s n ≤ n
  | 0 => Nat.le_refl _
  | n + 1 => by
    have := hcb_le s n
    unfold hcb
    split <;> omega
theorem hcb_mono {s t : Int32} (h : ∀ k, bt t k = true → bt s k = true) : ∀ n, hcb t n ≤ hcb s n
  | 0 => Nat.le_refl _
  | n + 1 => by
    have := hcb_mono h n
    unfold hcb
    by_cases ht : bt t n = true
    · rw [if_pos ht, if_pos (h n ht)]; omega
    · rw [if_neg ht]; omega
theorem hcb_lt {s t : Int32} (h : ∀ k, bt t k = true → bt s k = true) {e : Nat} (h1 : bt s e = true) (h2 : bt t e = false) : ∀ n, e < n → hcb t n < hcb s n
  | 0, he => absurd he (Nat.not_lt_zero _)
  | n + 1, he => by
    unfold hcb
    by_cases hn : e = n
    · subst hn
      have := hcb_mono h e
      rw [if_pos h1, h2]
      simp only [Bool.false_eq_true, if_false]
      omega
    · have := hcb_lt h h1 h2 n (by omega)
      by_cases ht : bt t n = true
      · rw [if_pos ht, if_pos (h n ht)]; omega
      · rw [if_neg ht]; omega
theorem hcb_pos {s : Int32} {e n : Nat} (h1 : bt s e = true) (he : e < n) : 1 ≤ hcb s n := by
  have := hcb_lt (s := s) (t := 0) (fun k hk => by rw [b_0] at hk; cases hk) h1 (b_0 e) n he
  omega
def hsml (s : Int32) : Prop := ∀ k, 14 ≤ k → bt s k = false
theorem h_small {s : Int32} (h0 : 0 ≤ s.toInt) (h1 : s.toInt ≤ 16383) : hsml s := fun k hk => by
  obtain ⟨e, -⟩ := rf_nn h0
  have hlt : s.toBitVec.toNat < 2 ^ 14 := by
    have : (s.toBitVec.toNat : Int) ≤ 16383 := by omega
    omega
  show s.toBitVec.toNat.testBit k = false
  exact Nat.testBit_lt_two_pow (Nat.lt_of_lt_of_le hlt (Nat.pow_le_pow_right (by omega) hk))
theorem h_some {s : Int32} (h : hsml s) (hz : s.toInt ≠ 0) : ∃ k, k < 14 ∧ bt s k = true := by
  apply Classical.byContradiction
  intro hn
  apply hz
  have : s = 0 := b_ext (fun i hi => by
    rw [b_0]
    rcases Nat.lt_or_ge i 14 with q | q
    · cases hb : bt s i with
      | false => rfl
      | true => exact absurd ⟨i, q, hb⟩ hn
    · exact h i q)
  rw [this]
  decide +kernel
theorem h_one {e v : Int32} (h0 : 0 ≤ e.toInt) (h1 : e.toInt ≤ 31) (hv : v.toInt = 1) (k : Nat) : bt (v <<< (e &&& 31)) k = decide (k = e.toInt.toNat) := by
  cases h_c1 hv
  obtain ⟨n, hn, q, q2⟩ := h_nI h0 h1
  rw [q2, q]
  rcases Nat.lt_or_ge k 32 with hk | hk
  · rw [b_shl n hn 1 hk]
    by_cases h : n ≤ k
    · rw [b_1 (k - n) (by omega), decide_eq_true h, Bool.true_and]
      by_cases h2 : k = n
      · subst h2; rw [decide_eq_true (by omega), decide_eq_true rfl]
      · rw [decide_eq_false (by omega), decide_eq_false h2]
    · rw [decide_eq_false h, Bool.false_and, decide_eq_false (by omega)]
  · rw [b_big hk, decide_eq_false (by omega)]
theorem h_inv {x u : Int32} (hu : u.toInt = -1) (s : Int32) (k : Nat) : bt (s &&& (x ^^^ u)) k = (bt s k && !bt x k) := by
  cases h_cm1 hu
  rcases Nat.lt_or_ge k 32 with hk | hk
  · rw [b_and, b_xor, b_m1 k hk]
    cases bt s k <;> cases bt x k <;> decide
  · rw [b_big hk, b_big (x := s) hk]; rfl
theorem h_clrS {s x u : Int32} (hu : u.toInt = -1) (h : hsml s) : hsml (s &&& (x ^^^ u)) := fun k hk => by rw [h_inv hu, h k hk]; rfl
theorem h_clrL {s x u : Int32} (hu : u.toInt = -1) {e : Nat} (h1 : bt s e = true) (h2 : bt x e = true) (he : e < 14) : hcb (s &&& (x ^^^ u)) 14 < hcb s 14 := by
  refine hcb_lt (fun k hk => ?_) h1 (by rw [h_inv hu, h1, h2]; rfl) 14 he
  rw [h_inv hu] at hk
  cases hb : bt s k with
  | true => rfl
  | false => rw [hb] at hk; cases hk
theorem h_shl1 {c v : Int32} (hv : v.toInt = 1) {k : Nat} (hk : k < 32) : bt (c <<< (v &&& 31)) k = (decide (1 ≤ k) && bt c (k - 1)) := by
  cases h_c1 hv
  exact b_shl 1 (by omega) c hk
theorem h_stepb {c a s v v' : Int32} (hv : v.toInt = 1) (hv' : v'.toInt = 1) {k : Nat} (hk : k < 32) (h : bt c k = true ∨ (1 ≤ k ∧ bt c (k - 1) = true) ∨ bt a k = true ∨ (1 ≤ k ∧ bt a (k - 1) = true)) : bt ((((c ||| (c <<< (v &&& 31))) ||| a) ||| (a <<< (v' &&& 31))) ||| s) k = true := by
  rw [b_or, b_or, b_or, b_or, h_shl1 hv hk, h_shl1 hv' hk]
  rcases h with h | ⟨h1, h⟩ | h | ⟨h1, h⟩
  · simp [h]
  · simp [h, h1]
  · simp [h]
  · simp [h, h1]
theorem h_mask {t v v' : Int32} (h0 : 0 ≤ t.toInt) (h1 : t.toInt ≤ 12) (hv : v.toInt = 2) (hv' : v'.toInt = 1) {k : Nat} (hk : (k : Int) ≤ t.toInt) : bt ((v <<< (t &&& 31)) - v') k = true := by
  cases h_c2 hv
  cases h_c1 hv'
  obtain ⟨n, hn, q, q2⟩ := h_nI h0 (by omega)
  rw [q]
  exact (by decide +kernel : ∀ n, n < 13 → ∀ k, k ≤ n → bt (((2 : Int32) <<< (nI n &&& 31)) - 1) k = true) n (by omega) k (by omega)
def hMono (F F' : HF) : Prop := ∀ i k : Nat, bt (F 96 i) k = true → bt (F' 96 i) k = true
theorem hMono_up {F F1 : HF} (h : hMono F F1) (n : Nat) (t : Int32) : hMono F (hupd F1 96 n (F1 96 n ||| t)) := fun i k hb => by
  have h1 := h i k hb
  show bt (if i = n then (F1 96 n ||| t) else F1 96 i) k = true
  by_cases e : i = n
  · subst e; rw [if_pos rfl, b_or, h1]; rfl
  · rw [if_neg e]; exact h1
/-- all up to n steps is reached -/
def hInv (a b : Int) (n : Nat) (F : HF) : Prop := ∀ i k : Nat, (i : Int) ≤ a → (k : Int) ≤ b → i ≤ n → k ≤ n → bt (F 96 i) k = true
/-! MORE HAND ROWS: remainder, quotient, the static table POWERS, a length, Math.min and Math.max -/
section HandD
variable {X : rfX} {G : rfG} {M : rfM} {w0 : va_W} {Lay : List rfL} {fl : rfFl} {cs : List (Nat × Int)} {Q : Option Value → HF → Prop} {L : List (Nat × Value)} {st : List Value} {F : HF} {pc : Nat}
theorem h_ne0 {b : Int32} {n : Int} (hb : b.toInt = n) (hn : 0 < n) : ¬ b = 0 := fun e => by
  rw [e] at hb
  have : (0 : Int32).toInt = 0 := rfl
  omega
theorem h_rem (c : hC G X M w0 Lay fl cs Q) {a b : Int32} {n : Int} (hd : decode (mb M) pc = .ok (.irem, 1)) (hb : b.toInt = n) (hn : 0 < n) (ha : 0 ≤ a.toInt) (K : ∀ r : Int32, r.toInt = a.toInt % n → hW G X M w0 (pc + 1) L (.int r :: st) F) : hW G X M w0 pc L (.int b :: .int a :: st) F := fun ws hw hs hF ls H locs hl hP hD hS =>
  lv_irem c.2.2.1.1 c.2.2.1.2.1 hd (h_ne0 hb hn) (K _ (by rw [rf_rem_eq, hb, Int.tmod_eq_emod_of_nonneg ha]) ws hw hs hF ls H locs hl hP hD hS)
theorem h_div (c : hC G X M w0 Lay fl cs Q) {a b : Int32} {n : Int} (hd : decode (mb M) pc = .ok (.idiv, 1)) (hb : b.toInt = n) (hn : 0 < n) (ha : 0 ≤ a.toInt) (K : ∀ r : Int32, r.toInt = a.toInt / n → hW G X M w0 (pc + 1) L (.int r :: st) F) : hW G X M w0 pc L (.int b :: .int a :: st) F := fun ws hw hs hF ls H locs hl hP hD hS =>
  lv_idiv c.2.2.1.1 c.2.2.1.2.1 hd (h_ne0 hb hn) (K _ (by rw [rf_div_val2 (by omega), hb, Int.tdiv_eq_ediv_of_nonneg ha]) ws hw hs hF ls H locs hl hP hD hS)
theorem h_alen (c : hC G X M w0 Lay fl cs Q) {j t n : Nat} {tb : List rfR} (hd : decode (mb M) pc = .ok (.arraylength, 1)) (hl : Lay[j]? = some (.inr (t, n, .inl tb))) (hn : n < 2147483648) (K : ∀ r : Int32, r.toInt = (n : Int) → hW G X M w0 (pc + 1) L (.int r :: st) F) : hW G X M w0 pc L (.ref (G.2.1.1 j) :: st) F := fun ws hw hs hF ls H locs hll hP hD hS => by
  rw [← c.2.2.2.2.2.1] at hl
  obtain ⟨e, he, hc⟩ := hw.2 j _ hl
  obtain ⟨cA, ty, f, g1, g2, _⟩ := hc
  subst g2
  exact va_alen c.2.2.1.1 c.2.2.1.2.1 c.2.2.1.2.2.2.2.2 hP j t he g1 rfl hd (K (nI n) (nI_toInt hn) ws hw hs hF ls H locs hll hP hD hS)
theorem h_gst (c : hC G X M w0 Lay fl cs Q) (hG : okG G) {i : Nat} (hl : Cond.fieldLink (my M).cls i "NearSpell" "POWERS" "[I" ∈ G.2.2.1) (hd : decode (mb M) pc = .ok (.getstatic i, 3)) (K : hW G X M w0 (pc + 3) L (.ref (G.2.1.2.1 0) :: st) F) : hW G X M w0 pc L st F := fun ws hw hs hF ls H locs hll hP hD hS => by
  obtain ⟨e1, e2, e3, e4, e5, e6, e7, e8, e9⟩ := c.2.1
  have z := (hG.2.2.2.2 _ e9).1
  rw [← e4] at z
  exact va_gets c.2.2.1.1 c.2.2.1.2.1 z hS c.2.2.1.2.2.2.1 (c.2.2.1.2.2.2.2.1 _ hl) (fun _ h => h) hd (K ws hw hs hF ls H locs hll hP hD hS)
theorem h_pald (c : hC G X M w0 Lay fl cs Q) (hG : okG G) {i : Int32} {k : Nat} (hd : decode (mb M) pc = .ok (.iaload, 1)) (hi : i.toInt = (k : Int)) (hk : k < 7) (K : ∀ r : Int32, r.toInt = (wpw k).toInt → hW G X M w0 (pc + 1) L (.int r :: st) F) : hW G X M w0 pc L (.int i :: .ref (G.2.1.2.1 0) :: st) F := fun ws hw hs hF ls H locs hll hP hD hS => by
  obtain ⟨e1, e2, e3, e4, e5, e6, e7, e8, e9⟩ := c.2.1
  have z := (hG.2.2.2.2 _ e9).2.1
  rw [← e4] at z
  have ek : i.toNatClampNeg = k := by
    show i.toInt.toNat = k
    omega
  exact va_ti c.2.2.1.1 c.2.2.1.2.1 z hS (vp_in_iff.mpr ⟨by omega, by omega⟩) (v := .int (wpw k)) (by rw [ek]) hd (K _ rfl ws hw hs hF ls H locs hll hP hD hS)
theorem h_minv (a b : Int32) : ((if b < a then b else a).toInt = a.toInt ∨ (if b < a then b else a).toInt = b.toInt) ∧ (if b < a then b else a).toInt ≤ a.toInt ∧ (if b < a then b else a).toInt ≤ b.toInt := by
  by_cases h : b < a
  · have h2 := Int32.lt_iff_toInt_lt.mp h
    rw [if_pos h]; omega
  · have h2 : ¬ b.toInt < a.toInt := fun q => h (Int32.lt_iff_toInt_lt.mpr q)
    rw [if_neg h]; omega
theorem h_maxv (a b : Int32) : ((if a < b then b else a).toInt = a.toInt ∨ (if a < b then b else a).toInt = b.toInt) ∧ a.toInt ≤ (if a < b then b else a).toInt ∧ b.toInt ≤ (if a < b then b else a).toInt := by
  by_cases h : a < b
  · have h2 := Int32.lt_iff_toInt_lt.mp h
    rw [if_pos h]; omega
  · have h2 : ¬ a.toInt < b.toInt := fun q => h (Int32.lt_iff_toInt_lt.mpr q)
    rw [if_neg h]; omega
theorem h_min (c : hC G X M w0 Lay fl cs Q) {a b : Int32} {i : Nat} (hl : rf_bilink (my M).cls G.2.2.1 i 1) (hR : 1 ≤ M.2.1.1 ∧ (st.map fun v => v.category).sum + 13 ≤ M.2.1.2) (hd : decode (mb M) pc = .ok (.invokestatic i, 3)) (K : ∀ r : Int32, (r.toInt = a.toInt ∨ r.toInt = b.toInt) ∧ r.toInt ≤ a.toInt ∧ r.toInt ≤ b.toInt → hW G X M w0 (pc + 3) L (.int r :: st) F) : hW G X M w0 pc L (.int b :: .int a :: st) F := fun ws hw hs hF ls H locs hll hP hD hS => by
  obtain ⟨l0, -, l2, -⟩ := hl
  obtain ⟨m1, m2, m3⟩ := l2 rfl
  have hts := c.2.2.1.2.2.2.2.1
  exact va_mmin c.2.2.1.1 c.2.2.1.2.1 (c.2.2.1.2.2.1.trans hll.1.symm) c.2.2.1.2.2.2.1 (hts _ m1) (hts _ m2) (hts _ l0) (hts _ m3) (by rw [c.2.2.2.2.1.1]; exact hR.1) (by rw [c.2.2.2.2.1.2]; exact hR.2) (Nat.zero_le _) (Nat.zero_le _) hd (K _ (h_minv a b) ws hw hs hF ls H locs hll hP hD hS)
theorem h_max (c : hC G X M w0 Lay fl cs Q) {a b : Int32} {i : Nat} (hl : rf_bilink (my M).cls G.2.2.1 i 0) (hR : 1 ≤ M.2.1.1 ∧ (st.map fun v => v.category).sum + 13 ≤ M.2.1.2) (hd : decode (mb M) pc = .ok (.invokestatic i, 3)) (K : ∀ r : Int32, (r.toInt = a.toInt ∨ r.toInt = b.toInt) ∧ a.toInt ≤ r.toInt ∧ b.toInt ≤ r.toInt → hW G X M w0 (pc + 3) L (.int r :: st) F) : hW G X M w0 pc L (.int b :: .int a :: st) F := fun ws hw hs hF ls H locs hll hP hD hS => by
  obtain ⟨l0, l1, -, -⟩ := hl
  obtain ⟨m1, m2, m3⟩ := l1 rfl
  have hts := c.2.2.1.2.2.2.2.1
  exact va_mmax c.2.2.1.1 c.2.2.1.2.1 (c.2.2.1.2.2.1.trans hll.1.symm) c.2.2.1.2.2.2.1 (hts _ m1) (hts _ m2) (hts _ l0) (hts _ m3) (by rw [c.2.2.2.2.1.1]; exact hR.1) (by rw [c.2.2.2.2.1.2]; exact hR.2) (Nat.zero_le _) (Nat.zero_le _) hd (K _ (h_maxv a b) ws hw hs hF ls H locs hll hP hD hS)
theorem biMin {G : rfG} (hG : okG G) : rf_bilink "NearSpell$Ruler" G.2.2.1 44 1 := ⟨wmT hG (wm130), fun h => absurd h (by decide), fun _ => ⟨wmT hG (wm919), wmT hG (wm557), wmT hG (wm558)⟩, fun h => absurd h (by decide)⟩
theorem biMax {G : rfG} (hG : okG G) : rf_bilink "NearSpell$Ruler" G.2.2.1 49 0 := ⟨wmT hG (wm130), fun _ => ⟨wmT hG (wm920), wmT hG (wm652), wmT hG (wm653)⟩, fun h => absurd h (by decide), fun h => absurd h (by decide)⟩
end HandD
