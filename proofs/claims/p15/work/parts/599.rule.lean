/-! RULES, as numbers: what a row of signs comes to, the pile of signs that wait -/
section RfRule
def rf_hgt (c : Nat → Int) : Nat → Nat → Nat → Option Nat
  | 0, _, h => some h
  | n + 1, p, h => if c p = 126 then (if 1 ≤ h then rf_hgt c n (p + 1) h else none) else if 97 ≤ c p ∧ c p ≤ 122 then (if h < 60 then rf_hgt c n (p + 1) (h + 1) else none) else (if 2 ≤ h then rf_hgt c n (p + 1) (h - 1) else none)
def hstp (x : Int) (h : Nat) : Option Nat := if x = 126 then (if 1 ≤ h then some h else none) else if 97 ≤ x ∧ x ≤ 122 then (if h < 60 then some (h + 1) else none) else (if 2 ≤ h then some (h - 1) else none)
theorem hgt_run {c : Nat → Int} : ∀ (n p h h' : Nat), rf_hgt c n p h = some h' → rf_runH c n p h = true
  | 0, _, _, _, _ => rfl
  | n + 1, p, h, h', e => by
    unfold rf_hgt at e
    unfold rf_runH
    split at e
    · next h1 =>
      rw [if_pos h1]
      split at e
      · next h2 => simp only [decide_eq_true h2, Bool.true_and]; exact hgt_run n _ _ _ e
      · cases e
    · next h1 =>
      rw [if_neg h1]
      split at e
      · next h2 =>
        rw [if_pos h2]
        split at e
        · next h3 => simp only [decide_eq_true h3, Bool.true_and]; exact hgt_run n _ _ _ e
        · cases e
      · next h2 =>
        rw [if_neg h2]
        split at e
        · next h3 => simp only [decide_eq_true h3, Bool.true_and]; exact hgt_run n _ _ _ e
        · cases e
theorem hgt_one (c : Nat → Int) (n p h : Nat) : rf_hgt c (n + 1) p h = (hstp (c p) h).bind (fun h1 => rf_hgt c n (p + 1) h1) := by
  rw [rf_hgt, hstp]
  split
  · split <;> rfl
  · split
    · split <;> rfl
    · split <;> rfl
theorem hgt_snoc {c : Nat → Int} : ∀ (n p h : Nat), rf_hgt c (n + 1) p h = (rf_hgt c n p h).bind (hstp (c (p + n)))
  | 0, p, h => by
    rw [hgt_one]
    show (hstp (c p) h).bind (fun h1 => some h1) = hstp (c (p + 0)) h
    rw [Nat.add_zero]
    cases hstp (c p) h <;> rfl
  | n + 1, p, h => by
    rw [hgt_one (n := n + 1), hgt_one (n := n)]
    cases hstp (c p) h with
    | none => rfl
    | some z =>
      simp only [Option.bind_some]
      rw [hgt_snoc n (p + 1) z, show p + 1 + n = p + (n + 1) by omega]
theorem hgt_cong {c c' : Nat → Int} : ∀ (n p h : Nat), (∀ i, p ≤ i → i < p + n → c' i = c i) → rf_hgt c' n p h = rf_hgt c n p h
  | 0, _, _, _ => rfl
  | n + 1, p, h, e => by
    rw [hgt_one, hgt_one, e p (Nat.le_refl _) (by omega)]
    congr 1
    funext z
    exact hgt_cong n (p + 1) z (fun i h1 h2 => e i (by omega) (by omega))
theorem runH_cong {c c' : Nat → Int} : ∀ (n p h : Nat), (∀ i, p ≤ i → i < p + n → c' i = c i) → rf_runH c' n p h = rf_runH c n p h
  | 0, _, _, _ => rfl
  | n + 1, p, h, e => by
    unfold rf_runH
    rw [e p (Nat.le_refl _) (by omega), runH_cong n (p + 1) h (fun i h1 h2 => e i (by omega) (by omega)), runH_cong n (p + 1) (h + 1) (fun i h1 h2 => e i (by omega) (by omega)), runH_cong n (p + 1) (h - 1) (fun i h1 h2 => e i (by omega) (by omega))]
def hcnt (q : Int → Bool) (w : Nat → Int) : Nat → Nat
  | 0 => 0
  | n + 1 => hcnt q w n + (if q (w n) then 1 else 0)
theorem hcnt_cong {q : Int → Bool} {w w' : Nat → Int} : ∀ (n : Nat), (∀ i, i < n → w' i = w i) → hcnt q w' n = hcnt q w n
  | 0, _ => rfl
  | n + 1, e => by
    unfold hcnt
    rw [hcnt_cong n (fun i h => e i (by omega)), e n (by omega)]
def qB (x : Int) : Bool := decide (x = 1) || decide (x = 2) || decide (x = 4) || decide (x = 5) || decide (x = 6)
def qN (x : Int) : Bool := decide (x = 3)
def qK (x : Int) : Bool := decide (x = 7)
theorem qB_iff {x : Int} : qB x = true ↔ (x = 1 ∨ x = 2 ∨ x = 4 ∨ x = 5 ∨ x = 6) := by
  simp only [qB, Bool.or_eq_true, decide_eq_true_eq]; omega
/-- the pile: its numbers (what, sign), how high, how many binary ones, nots, brackets -/
def Pl (w g : Nat → Int) (n nb nn nk : Nat) : Prop := w 0 = 8 ∧ (∀ i, 0 < i → i < n → 1 ≤ w i ∧ w i ≤ 7 ∧ (w i = 3 → g i = 126) ∧ (qB (w i) = true → ¬ (97 ≤ g i ∧ g i ≤ 122) ∧ g i ≠ 126)) ∧ nb = hcnt qB w n ∧ nn = hcnt qN w n ∧ nk = hcnt qK w n ∧ n = 1 + nb + nn + nk
theorem Pl_cong {w g w' g' : Nat → Int} {n nb nn nk : Nat} (h : Pl w g n nb nn nk) (hn : 1 ≤ n) (e1 : ∀ i, i < n → w' i = w i) (e2 : ∀ i, i < n → g' i = g i) : Pl w' g' n nb nn nk := by
  obtain ⟨h1, h2, h3, h4, h5, h6⟩ := h
  refine ⟨by rw [e1 0 (by omega)]; exact h1, fun i a b => by rw [e1 i b, e2 i b]; exact h2 i a b, by rw [hcnt_cong n e1]; exact h3, by rw [hcnt_cong n e1]; exact h4, by rw [hcnt_cong n e1]; exact h5, h6⟩
theorem hcnt_s (q : Int → Bool) (w : Nat → Int) (n : Nat) : hcnt q w (n + 1) = hcnt q w n + (if q (w n) then 1 else 0) := rfl
/-- one more is laid on it -/
theorem Pl_push {w g w' g' : Nat → Int} {n nb nn nk : Nat} (h : Pl w g n nb nn nk) (hn : 1 ≤ n) (e1 : ∀ i, i < n → w' i = w i) (e2 : ∀ i, i < n → g' i = g i) (h1 : 1 ≤ w' n ∧ w' n ≤ 7) (h2 : w' n = 3 → g' n = 126) (h3 : qB (w' n) = true → ¬ (97 ≤ g' n ∧ g' n ≤ 122) ∧ g' n ≠ 126) :
    Pl w' g' (n + 1) (nb + if qB (w' n) then 1 else 0) (nn + if qN (w' n) then 1 else 0) (nk + if qK (w' n) then 1 else 0) := by
  obtain ⟨a1, a2, a3, a4, a5, a6⟩ := Pl_cong h hn e1 e2
  refine ⟨a1, fun i b1 b2 => ?_, ?_, ?_, ?_, ?_⟩
  · by_cases e : i = n
    · subst e; exact ⟨h1.1, h1.2, h2, h3⟩
    · exact a2 i b1 (by omega)
  · rw [hcnt_s, ← a3]
  · rw [hcnt_s, ← a4]
  · rw [hcnt_s, ← a5]
  · have : (if qB (w' n) then 1 else 0) + (if qN (w' n) then 1 else 0) + (if qK (w' n) then 1 else 0) = (1 : Nat) := by
      have hw : w' n = 1 ∨ w' n = 2 ∨ w' n = 3 ∨ w' n = 4 ∨ w' n = 5 ∨ w' n = 6 ∨ w' n = 7 := by omega
      rcases hw with e | e | e | e | e | e | e <;> rw [e] <;> decide
    omega
/-- the uppermost is taken off -/
theorem Pl_pop {w g : Nat → Int} {n nb nn nk : Nat} (h : Pl w g (n + 1) nb nn nk) (hn : 1 ≤ n) : ∃ nb' nn' nk', Pl w g n nb' nn' nk' ∧ nb = nb' + (if qB (w n) then 1 else 0) ∧ nn = nn' + (if qN (w n) then 1 else 0) ∧ nk = nk' + (if qK (w n) then 1 else 0) := by
  obtain ⟨a1, a2, a3, a4, a5, a6⟩ := h
  have hw := a2 n (by omega) (by omega)
  refine ⟨hcnt qB w n, hcnt qN w n, hcnt qK w n, ⟨a1, fun i b1 b2 => a2 i b1 (by omega), rfl, rfl, rfl, ?_⟩, a3, a4, a5⟩
  rw [hcnt_s] at a3 a4 a5
  have : (if qB (w n) then 1 else 0) + (if qN (w n) then 1 else 0) + (if qK (w n) then 1 else 0) = (1 : Nat) := by
    have hw : w n = 1 ∨ w n = 2 ∨ w n = 3 ∨ w n = 4 ∨ w n = 5 ∨ w n = 6 ∨ w n = 7 := by omega
    rcases hw with e | e | e | e | e | e | e <;> rw [e] <;> decide
  omega
/-- the reading of a rule, as it stands: rb the bank, z where its signs begin, U0 the units before it; wt: a unit is wanted -/
def RI (rb z U0 : Int) (wt : Bool) (F : HF) : Prop := (F 114 29).toInt = rb ∧ z ≤ (F 114 30).toInt ∧ 1 ≤ (F 114 32).toInt ∧ (F 74 rb.toNat).toInt = U0 + (F 114 33).toInt ∧ 0 ≤ (F 114 33).toInt ∧ (F 114 33).toInt ≤ 30 ∧ (F 114 31).toInt ≤ 7 ∧
  ∃ nb nn nk : Nat, Pl (fun i => (F 87 i).toInt) (fun i => (F 88 i).toInt) (F 114 32).toInt.toNat nb nn nk ∧ (F 114 31).toInt = nn + nk ∧ rf_hgt (fun i => (F 85 i).toInt) ((F 114 30).toInt - z).toNat z.toNat 0 = some (if wt then nb else nb + 1) ∧
  (if wt then (nb : Int) ≤ (F 114 33).toInt ∧ ((F 114 30).toInt - z) + nb + nn ≤ 9 * (F 114 33).toInt + (F 114 31).toInt else (nb : Int) + 1 ≤ (F 114 33).toInt ∧ ((F 114 30).toInt - z) + nb + nn + 1 ≤ 9 * (F 114 33).toInt)
/-- what is left of it when it has ended or failed -/
def RW (rb z U0 : Int) (F : HF) : Prop := (F 114 29).toInt = rb ∧ z ≤ (F 114 30).toInt ∧ (F 114 30).toInt ≤ z + 9 * ((F 74 rb.toNat).toInt - U0) + 7 ∧ ∃ h, rf_hgt (fun i => (F 85 i).toInt) ((F 114 30).toInt - z).toNat z.toNat 0 = some h
theorem RI_RW {rb z U0 : Int} {wt : Bool} {F : HF} (h : RI rb z U0 wt F) : RW rb z U0 F := by
  obtain ⟨h1, h2, h3, h4, h5, h6, h7, nb, nn, nk, h8, h9, h10, h11⟩ := h
  refine ⟨h1, h2, ?_, _, h10⟩
  cases wt with
  | true => simp only [if_true] at h11; omega
  | false => simp only [Bool.false_eq_true, if_false] at h11; omega
/-- the numbers that it speaks of are the same -/
def RSame (rb : Int) (F F' : HF) : Prop := F' 114 29 = F 114 29 ∧ F' 114 30 = F 114 30 ∧ F' 114 31 = F 114 31 ∧ F' 114 32 = F 114 32 ∧ F' 114 33 = F 114 33 ∧ F' 74 rb.toNat = F 74 rb.toNat ∧ (∀ i, F' 85 i = F 85 i) ∧ (∀ i, F' 87 i = F 87 i) ∧ ∀ i, F' 88 i = F 88 i
theorem RI_same {rb z U0 : Int} {wt : Bool} {F F' : HF} (h : RI rb z U0 wt F) (e : RSame rb F F') : RI rb z U0 wt F' := by
  obtain ⟨e1, e2, e3, e4, e5, e6, e7, e8, e9⟩ := e
  have f7 : (fun i => (F' 85 i).toInt) = fun i => (F 85 i).toInt := funext fun i => by rw [e7]
  have f8 : (fun i => (F' 87 i).toInt) = fun i => (F 87 i).toInt := funext fun i => by rw [e8]
  have f9 : (fun i => (F' 88 i).toInt) = fun i => (F 88 i).toInt := funext fun i => by rw [e9]
  unfold RI
  rw [e1, e2, e3, e4, e5, e6, f7, f8, f9]
  exact h
theorem RW_same {rb z U0 : Int} {F F' : HF} (h : RW rb z U0 F) (e1 : F' 114 29 = F 114 29) (e2 : F' 114 30 = F 114 30) (e6 : F' 74 rb.toNat = F 74 rb.toNat) (e7 : ∀ i, F' 85 i = F 85 i) : RW rb z U0 F' := by
  have f7 : (fun i => (F' 85 i).toInt) = fun i => (F 85 i).toInt := funext fun i => by rw [e7]
  unfold RW
  rw [e1, e2, e6, f7]
  exact h
/-- a sign is laid behind the others -/
theorem hgt_lay {c c' : Nat → Int} {z k : Int} {h : Nat} (hz : 0 ≤ z) (hk : z ≤ k) (a : Int) (e : ∀ i : Nat, c' i = if i = k.toNat then a else c i) (hh : rf_hgt c (k - z).toNat z.toNat 0 = some h) : rf_hgt c' (k + 1 - z).toNat z.toNat 0 = hstp a h := by
  rw [show (k + 1 - z).toNat = (k - z).toNat + 1 by omega, hgt_snoc, hgt_cong (c := c) _ _ _ (fun i h1 h2 => by rw [e, if_neg (by omega)]), hh]
  simp only [Option.bind_some]
  rw [e, if_pos (by omega)]
/-- a plain unit -/
theorem RI_unit {rb z U0 : Int} {F F' : HF} (hz : 0 ≤ z) (h : RI rb z U0 true F) (a : Int) (ha : 97 ≤ a ∧ a ≤ 122) (e1 : F' 114 29 = F 114 29) (e2 : (F' 114 30).toInt = (F 114 30).toInt + 1) (e3 : F' 114 31 = F 114 31) (e4 : F' 114 32 = F 114 32) (e5 : (F' 114 33).toInt = (F 114 33).toInt + 1) (h30 : (F 114 33).toInt < 30) (e6 : (F' 74 rb.toNat).toInt = (F 74 rb.toNat).toInt + 1) (e7 : ∀ i : Nat, (F' 85 i).toInt = if i = (F 114 30).toInt.toNat then a else (F 85 i).toInt) (e8 : ∀ i, F' 87 i = F 87 i) (e9 : ∀ i, F' 88 i = F 88 i) : RI rb z U0 false F' := by
  obtain ⟨h1, h2, h3, h4, h5, h6, h7, nb, nn, nk, h8, h9, h10, h11⟩ := h
  have f8 : (fun i => (F' 87 i).toInt) = fun i => (F 87 i).toInt := funext fun i => by rw [e8]
  have f9 : (fun i => (F' 88 i).toInt) = fun i => (F 88 i).toInt := funext fun i => by rw [e9]
  simp only [if_true] at h10 h11
  have hg := hgt_lay hz h2 a e7 h10
  have hp := h8.2.2.2.2.2
  refine ⟨by rw [e1]; exact h1, by omega, by rw [e4]; exact h3, by omega, by omega, by omega, by rw [e3]; exact h7, nb, nn, nk, by rw [f8, f9, e4]; exact h8, by rw [e3]; exact h9, ?_, ?_⟩
  · rw [e2, hg]
    unfold hstp
    rw [if_neg (by omega), if_pos ha, if_pos (by omega)]
    rfl
  · simp only [Bool.false_eq_true, if_false]
    rw [e2, e5]
    omega
/-- a not or a bracket -/
theorem RI_open {rb z U0 : Int} {F F' : HF} (h : RI rb z U0 true F) (x g u : Int) (hx : x = 3 ∧ u = 0 ∨ x = 7 ∧ u = 1) (hg : g = 126) (e1 : F' 114 29 = F 114 29) (e2 : F' 114 30 = F 114 30) (e3 : (F' 114 31).toInt = (F 114 31).toInt + 1) (hw : (F 114 31).toInt < 7) (e4 : (F' 114 32).toInt = (F 114 32).toInt + 1) (e5 : (F' 114 33).toInt = (F 114 33).toInt + u) (h30 : (F 114 33).toInt + u ≤ 30) (e6 : (F' 74 rb.toNat).toInt = (F 74 rb.toNat).toInt + u) (e7 : ∀ i, F' 85 i = F 85 i) (e8 : ∀ i : Nat, (F' 87 i).toInt = if i = (F 114 32).toInt.toNat then x else (F 87 i).toInt) (e9 : ∀ i : Nat, (F' 88 i).toInt = if i = (F 114 32).toInt.toNat then g else (F 88 i).toInt) : RI rb z U0 true F' := by
  obtain ⟨h1, h2, h3, h4, h5, h6, h7, nb, nn, nk, h8, h9, h10, h11⟩ := h
  have f7 : (fun i => (F' 85 i).toInt) = fun i => (F 85 i).toInt := funext fun i => by rw [e7]
  simp only [if_true] at h10 h11
  have hpush := Pl_push (w' := fun i => (F' 87 i).toInt) (g' := fun i => (F' 88 i).toInt) h8 (by omega) (fun i hi => by (try simp only); rw [e8, if_neg (by omega)]) (fun i hi => by (try simp only); rw [e9, if_neg (by omega)]) (by (try simp only); rw [e8, if_pos rfl]; omega) (fun _ => by (try simp only); rw [e9, if_pos rfl]; exact hg) (fun hq => by
    exfalso
    try simp only at hq
    rw [e8, if_pos rfl, qB_iff] at hq
    omega)
  try simp only at hpush
  rw [e8, if_pos rfl] at hpush
  have hn : (F' 114 32).toInt.toNat = (F 114 32).toInt.toNat + 1 := by omega
  refine ⟨by rw [e1]; exact h1, by rw [e2]; exact h2, by omega, by omega, by omega, by omega, by omega, _, _, _, by rw [hn]; exact hpush, ?_, ?_, ?_⟩
  · rcases hx with ⟨rfl, rfl⟩ | ⟨rfl, rfl⟩
    · show _ = ((nn + 1 : Nat) : Int) + ((nk + 0 : Nat) : Int); omega
    · show _ = ((nn + 0 : Nat) : Int) + ((nk + 1 : Nat) : Int); omega
  · rw [f7, e2, h10]
    rcases hx with ⟨rfl, rfl⟩ | ⟨rfl, rfl⟩ <;> rfl
  · simp only [if_true]
    rw [e2, e5]
    rcases hx with ⟨rfl, rfl⟩ | ⟨rfl, rfl⟩
    · show ((nb + 0 : Nat) : Int) ≤ _ ∧ _ + ((nb + 0 : Nat) : Int) + ((nn + 1 : Nat) : Int) ≤ _; omega
    · show ((nb + 0 : Nat) : Int) ≤ _ ∧ _ + ((nb + 0 : Nat) : Int) + ((nn + 0 : Nat) : Int) ≤ _; omega
/-- a sign between two -/
theorem RI_bin {rb z U0 : Int} {F F' : HF} (h : RI rb z U0 false F) (x g : Int) (hx : qB x = true) (hg : ¬ (97 ≤ g ∧ g ≤ 122) ∧ g ≠ 126) (e1 : F' 114 29 = F 114 29) (e2 : F' 114 30 = F 114 30) (e3 : F' 114 31 = F 114 31) (e4 : (F' 114 32).toInt = (F 114 32).toInt + 1) (e5 : F' 114 33 = F 114 33) (e6 : F' 74 rb.toNat = F 74 rb.toNat) (e7 : ∀ i, F' 85 i = F 85 i) (e8 : ∀ i : Nat, (F' 87 i).toInt = if i = (F 114 32).toInt.toNat then x else (F 87 i).toInt) (e9 : ∀ i : Nat, (F' 88 i).toInt = if i = (F 114 32).toInt.toNat then g else (F 88 i).toInt) : RI rb z U0 true F' := by
  obtain ⟨h1, h2, h3, h4, h5, h6, h7, nb, nn, nk, h8, h9, h10, h11⟩ := h
  have f7 : (fun i => (F' 85 i).toInt) = fun i => (F 85 i).toInt := funext fun i => by rw [e7]
  simp only [Bool.false_eq_true, if_false] at h10 h11
  have hx' := qB_iff.mp hx
  have hpush := Pl_push (w' := fun i => (F' 87 i).toInt) (g' := fun i => (F' 88 i).toInt) h8 (by omega) (fun i hi => by (try simp only); rw [e8, if_neg (by omega)]) (fun i hi => by (try simp only); rw [e9, if_neg (by omega)]) (by (try simp only); rw [e8, if_pos rfl]; omega) (fun hq => by
    exfalso
    try simp only at hq
    rw [e8, if_pos rfl] at hq
    omega) (fun _ => by (try simp only); rw [e9, if_pos rfl]; exact hg)
  try simp only at hpush
  rw [e8, if_pos rfl, hx, show qN x = false from decide_eq_false (by omega), show qK x = false from decide_eq_false (by omega)] at hpush
  have hn : (F' 114 32).toInt.toNat = (F 114 32).toInt.toNat + 1 := by omega
  refine ⟨by rw [e1]; exact h1, by rw [e2]; exact h2, by omega, by rw [e6, e5]; exact h4, by rw [e5]; exact h5, by rw [e5]; exact h6, by rw [e3]; exact h7, nb + 1, nn, nk, by rw [hn]; exact hpush, by rw [e3]; exact h9, by rw [f7, e2, h10]; rfl, ?_⟩
  simp only [if_true]
  rw [e2, e5, e3]
  omega
/-- a sign or a not is taken off and laid down -/
theorem RI_pop {rb z U0 : Int} {F F' : HF} (hz : 0 ≤ z) (h : RI rb z U0 false F) (hx : (F 87 ((F 114 32).toInt.toNat - 1)).toInt ≤ 6) (e1 : F' 114 29 = F 114 29) (e2 : (F' 114 30).toInt = (F 114 30).toInt + 1) (e3 : (F' 114 31).toInt = (F 114 31).toInt - (if (F 87 ((F 114 32).toInt.toNat - 1)).toInt = 3 then 1 else 0)) (e4 : (F' 114 32).toInt = (F 114 32).toInt - 1) (e5 : F' 114 33 = F 114 33) (e6 : F' 74 rb.toNat = F 74 rb.toNat) (e7 : ∀ i : Nat, (F' 85 i).toInt = if i = (F 114 30).toInt.toNat then (F 88 ((F 114 32).toInt.toNat - 1)).toInt else (F 85 i).toInt) (e8 : ∀ i, F' 87 i = F 87 i) (e9 : ∀ i, F' 88 i = F 88 i) : 2 ≤ (F 114 32).toInt ∧ RI rb z U0 false F' := by
  obtain ⟨h1, h2, h3, h4, h5, h6, h7, nb, nn, nk, h8, h9, h10, h11⟩ := h
  have f8 : (fun i => (F' 87 i).toInt) = fun i => (F 87 i).toInt := funext fun i => by rw [e8]
  have f9 : (fun i => (F' 88 i).toInt) = fun i => (F 88 i).toInt := funext fun i => by rw [e9]
  simp only [Bool.false_eq_true, if_false] at h10 h11
  have h2' : 2 ≤ (F 114 32).toInt := by
    rcases Int.lt_or_le (F 114 32).toInt 2 with q | q
    · exfalso
      have e : (F 114 32).toInt.toNat - 1 = 0 := by omega
      rw [e] at hx
      have := h8.1
      try simp only at this
      omega
    · exact q
  refine ⟨h2', ?_⟩
  obtain ⟨n, hn⟩ : ∃ n, (F 114 32).toInt.toNat = n + 1 := ⟨(F 114 32).toInt.toNat - 1, by omega⟩
  have hn1 : (F 114 32).toInt.toNat - 1 = n := by omega
  rw [hn1] at hx e3 e7
  rw [hn] at h8
  obtain ⟨nb', nn', nk', p1, p2, p3, p4⟩ := Pl_pop h8 (by omega)
  obtain ⟨w1, w2, w3, w4⟩ := h8.2.1 n (by omega) (by omega)
  try simp only at w1 w2 w3 w4 p2 p3 p4
  have hn' : (F' 114 32).toInt.toNat = n := by omega
  have hg := hgt_lay hz h2 _ e7 h10
  by_cases h33 : (F 87 n).toInt = 3
  · rw [h33] at p2 p3 p4
    have q1 : nb = nb' + 0 := p2
    have q2 : nn = nn' + 1 := p3
    have q3 : nk = nk' + 0 := p4
    rw [if_pos h33] at e3
    refine ⟨by rw [e1]; exact h1, by omega, by omega, by rw [e6, e5]; exact h4, by rw [e5]; exact h5, by rw [e5]; exact h6, by omega, nb', nn', nk', by rw [f8, f9, hn']; exact p1, by omega, ?_, ?_⟩
    · rw [e2, hg, w3 h33]
      unfold hstp
      rw [if_pos rfl, if_pos (by omega), q1]
      rfl
    · simp only [Bool.false_eq_true, if_false]
      rw [e2, e5]
      omega
  · have hb : qB (F 87 n).toInt = true := qB_iff.mpr (by omega)
    rw [hb] at p2
    rw [show qN (F 87 n).toInt = false from decide_eq_false h33] at p3
    rw [show qK (F 87 n).toInt = false from decide_eq_false (by omega)] at p4
    have q1 : nb = nb' + 1 := p2
    have q2 : nn = nn' + 0 := p3
    have q3 : nk = nk' + 0 := p4
    obtain ⟨g1, g2⟩ := w4 hb
    rw [if_neg h33] at e3
    refine ⟨by rw [e1]; exact h1, by omega, by omega, by rw [e6, e5]; exact h4, by rw [e5]; exact h5, by rw [e5]; exact h6, by omega, nb', nn', nk', by rw [f8, f9, hn']; exact p1, by omega, ?_, ?_⟩
    · rw [e2, hg]
      unfold hstp
      rw [if_neg g2, if_neg g1, if_pos (by omega), q1]
      rfl
    · simp only [Bool.false_eq_true, if_false]
      rw [e2, e5]
      omega
/-- a bracket is taken off -/
theorem RI_close {rb z U0 : Int} {F F' : HF} (h : RI rb z U0 false F) (hx : (F 87 ((F 114 32).toInt.toNat - 1)).toInt = 7) (e1 : F' 114 29 = F 114 29) (e2 : F' 114 30 = F 114 30) (e3 : (F' 114 31).toInt = (F 114 31).toInt - 1) (e4 : (F' 114 32).toInt = (F 114 32).toInt - 1) (e5 : F' 114 33 = F 114 33) (e6 : F' 74 rb.toNat = F 74 rb.toNat) (e7 : ∀ i, F' 85 i = F 85 i) (e8 : ∀ i, F' 87 i = F 87 i) (e9 : ∀ i, F' 88 i = F 88 i) : 2 ≤ (F 114 32).toInt ∧ RI rb z U0 false F' := by
  obtain ⟨h1, h2, h3, h4, h5, h6, h7, nb, nn, nk, h8, h9, h10, h11⟩ := h
  have f7 : (fun i => (F' 85 i).toInt) = fun i => (F 85 i).toInt := funext fun i => by rw [e7]
  have f8 : (fun i => (F' 87 i).toInt) = fun i => (F 87 i).toInt := funext fun i => by rw [e8]
  have f9 : (fun i => (F' 88 i).toInt) = fun i => (F 88 i).toInt := funext fun i => by rw [e9]
  simp only [Bool.false_eq_true, if_false] at h10 h11
  have h2' : 2 ≤ (F 114 32).toInt := by
    rcases Int.lt_or_le (F 114 32).toInt 2 with q | q
    · exfalso
      have e : (F 114 32).toInt.toNat - 1 = 0 := by omega
      rw [e] at hx
      have := h8.1
      try simp only at this
      omega
    · exact q
  refine ⟨h2', ?_⟩
  obtain ⟨n, hn⟩ : ∃ n, (F 114 32).toInt.toNat = n + 1 := ⟨(F 114 32).toInt.toNat - 1, by omega⟩
  have hn1 : (F 114 32).toInt.toNat - 1 = n := by omega
  rw [hn1] at hx
  rw [hn] at h8
  obtain ⟨nb', nn', nk', p1, p2, p3, p4⟩ := Pl_pop h8 (by omega)
  try simp only at p2 p3 p4
  rw [hx] at p2 p3 p4
  have q1 : nb = nb' + 0 := p2
  have q2 : nn = nn' + 0 := p3
  have q3 : nk = nk' + 1 := p4
  have hn' : (F' 114 32).toInt.toNat = n := by omega
  refine ⟨by rw [e1]; exact h1, by rw [e2]; exact h2, by omega, by rw [e6, e5]; exact h4, by rw [e5]; exact h5, by rw [e5]; exact h6, by omega, nb', nn', nk', by rw [f8, f9, hn']; exact p1, by omega, by rw [f7, e2, h10, q1]; rfl, ?_⟩
  simp only [Bool.false_eq_true, if_false]
  rw [e2, e5]
  omega
/-- the whole of it begins -/
theorem RI_start {rb z U0 : Int} {F : HF} (h1 : (F 114 29).toInt = rb) (h2 : (F 114 30).toInt = z) (h3 : (F 114 32).toInt = 1) (h4 : (F 74 rb.toNat).toInt = U0) (h5 : (F 114 33).toInt = 0) (h6 : (F 114 31).toInt = 0) (h7 : (F 87 0).toInt = 8) : RI rb z U0 true F := by
  refine ⟨h1, by omega, by omega, by omega, by omega, by omega, by omega, 0, 0, 0, ⟨h7, fun i a b => by omega, ?_, ?_, ?_, by omega⟩, by omega, ?_, ?_⟩
  · rw [h3]; show 0 = 0 + (if qB (F 87 0).toInt then 1 else 0); rw [h7]; rfl
  · rw [h3]; show 0 = 0 + (if qN (F 87 0).toInt then 1 else 0); rw [h7]; rfl
  · rw [h3]; show 0 = 0 + (if qK (F 87 0).toInt then 1 else 0); rw [h7]; rfl
  · rw [h2, show (z - z).toNat = 0 by omega]; rfl
  · simp only [if_true]; omega
theorem RI_top {rb z U0 : Int} {wt : Bool} {F : HF} (h : RI rb z U0 wt F) : 1 ≤ (F 114 32).toInt ∧ (F 114 32).toInt ≤ 38 ∧ (F 87 0).toInt = 8 ∧ ∀ i, i < (F 114 32).toInt.toNat → 1 ≤ (F 87 i).toInt ∧ (F 87 i).toInt ≤ 8 := by
  obtain ⟨h1, h2, h3, h4, h5, h6, h7, nb, nn, nk, h8, h9, h10, h11⟩ := h
  have hp := h8.2.2.2.2.2
  refine ⟨h3, ?_, h8.1, fun i hi => ?_⟩
  · cases wt with
    | true => simp only [if_true] at h11; omega
    | false => simp only [Bool.false_eq_true, if_false] at h11; omega
  · by_cases e : i = 0
    · subst e; have := h8.1; (try simp only at this); omega
    · have := h8.2.1 i (by omega) hi; (try simp only at this); omega
end RfRule
