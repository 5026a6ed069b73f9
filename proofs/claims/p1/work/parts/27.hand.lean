/-! BY HAND: states with known numbers (hW), a row for each instruction, contracts over numbers (h_met) -/
section RfHand
abbrev HF : Type := Nat → Nat → Int32
/-- the numbers of a world -/
def hv (ws : va_W) : HF := fun j k => match rf_raw ws j k with
  | some (.int x) => x
  | _ => 0
def hupd (F : HF) (j k : Nat) (x : Int32) : HF := fun j' k' => if j' = j then (if k' = k then x else F j' k') else F j' k'
theorem hv_num (ws : va_W) (j k : Nat) : rf_rnum ws j k = (hv ws j k).toInt := by
  unfold rf_rnum hv
  split
  · next x h => rw [h]; rfl
  · next h =>
    unfold rf_num
    split
    · next x h2 => exact absurd h2 (h x)
    · exact rf_0I.symm
def hgh (F : HF) (g : Nat) : Bool := match g with
  | 0 => rf_gJf (fun k => (F 85 k).toInt) (fun k => (F 83 k).toInt) (fun k => (F 84 k).toInt)
  | 1 => rf_gLf (fun k => (F 72 k).toInt) (F 114 3).toInt (F 114 6).toInt (F 114 7).toInt (F 114 8).toInt
  | 2 => rf_gCf (fun k => (F 74 k).toInt) (F 114 30).toInt (F 114 29).toInt
  | _ => false
theorem hgh_at (ws : va_W) (g : Nat) : rf_ghb ws g = hgh (hv ws) g := by
  have e : ∀ j, rf_rnum ws j = fun k => (hv ws j k).toInt := fun j => funext fun k => hv_num ws j k
  unfold rf_ghb hgh
  split <;> simp only [e]
/-- a slot's number, a ghost's 0 or 1 -/
def hslot (F : HF) (q : Nat × Nat) : Int := if q.1 = 998 then (if hgh F q.2 then 1 else 0) else (F q.1 q.2).toInt
theorem hslot_at {ws : va_W} (hl : ws.length ≤ 998) (j k : Nat) : rf_num (rf_fld ws j k) = hslot (hv ws) (j, k) := by
  unfold hslot
  by_cases h9 : j = 998
  · subst h9
    have hn : ws[998]? = none := List.getElem?_eq_none hl
    simp only [rf_fld, hn, beq_self_eq_true, if_true, rf_gh, hgh_at]
    split <;> rfl
  · rw [if_neg h9, ← hv_num]
    unfold rf_rnum rf_raw rf_fld
    cases hw : ws[j]? with
    | some q => rfl
    | none =>
      have : (j == 998) = false := by simpa using h9
      simp only [this]
      rfl
/-- what the layout says of the numbers -/
def hrng (Lay : List rfL) (F : HF) : Prop := ∀ j k r, rf_layr Lay j k = some r → rf_in r (F j k).toInt
theorem hv_of {ws : va_W} {j k : Nat} {x : Int32} (h : rf_raw ws j k = some (.int x)) : hv ws j k = x := by unfold hv; rw [h]
theorem rf_raw_fld {ws : va_W} {j k : Nat} {e : Nat × va_E} (h : ws[j]? = some e) : rf_fld ws j k = rf_raw ws j k := by unfold rf_fld rf_raw; rw [h]; rfl
theorem hv_some {ad sp : Nat → Nat} {tys : List (ClassId × FieldType)} {Lay : List rfL} {ws : va_W} (hw : rf_world ad sp tys Lay ws) {j k : Nat} {r : rfR} (h : rf_layr Lay j k = some r) : rf_fld ws j k = some (.int (hv ws j k)) ∧ rf_in r (hv ws j k).toInt := by
  obtain ⟨x, h1, h2⟩ := rf_layr_in hw h
  have hj : ∃ e, ws[j]? = some e := by
    unfold rf_layr at h
    cases hl : Lay[j]? with
    | none => rw [hl] at h; cases h
    | some c => obtain ⟨e, he, -⟩ := hw.2 j c hl; exact ⟨_, he⟩
  obtain ⟨e, he⟩ := hj
  have h3 := h1
  rw [rf_raw_fld he] at h3
  rw [hv_of h3]
  exact ⟨h1, h2⟩
theorem hrng_at {ad sp : Nat → Nat} {tys : List (ClassId × FieldType)} {Lay : List rfL} {ws : va_W} (hw : rf_world ad sp tys Lay ws) : hrng Lay (hv ws) := fun _ _ _ h => (hv_some hw h).2
def hframe (ms : List (Nat × Nat)) (F F' : HF) : Prop := ∀ j k, ¬ j = 998 → rf_mod ms j k = false → F' j k = F j k
theorem hframe_at {ms : List (Nat × Nat)} {ws ws' : va_W} (hl : ws'.length = ws.length) (h : rf_same ms ws ws') : hframe ms (hv ws) (hv ws') := by
  intro j k h9 hm
  have := h j k hm
  cases hj : ws[j]? with
  | none =>
    have hj' : ws'[j]? = none := List.getElem?_eq_none (by rw [hl]; exact List.getElem?_eq_none_iff.mp hj)
    simp [hv, rf_raw, hj, hj']
  | some q =>
    obtain ⟨q', hq'⟩ : ∃ q', ws'[j]? = some q' := by
      have := (List.getElem?_eq_some_iff.mp hj).1
      exact ⟨_, List.getElem?_eq_getElem (by rw [hl]; exact this)⟩
    rw [rf_raw_fld hj, rf_raw_fld hq'] at this
    simp only [hv, this]
theorem hv_upd {ws : va_W} {j a k : Nat} {e e' : va_E} {x : Int32} (he : ws[j]? = some (a, e)) (h1 : rf_cellv e' k = some (.int x)) (h2 : ∀ i, i ≠ k → rf_cellv e' i = rf_cellv e i) : hv (ws.set j (a, e')) = hupd (hv ws) j k x := by
  funext j' k'
  unfold hupd hv
  rw [rf_raw_set he]
  by_cases hj : j' = j
  · subst hj
    rw [if_pos rfl, if_pos rfl]
    by_cases hk : k' = k
    · subst hk; rw [if_pos rfl, h1]
    · rw [if_neg hk, h2 _ hk]
      simp [rf_raw, he]
  · rw [if_neg hj, if_neg hj]
def hE (G : rfG) (M : rfM) (w0 : va_W) : rfE := (G.2.1.1, G.2.1.2.1, G.2.1.2.2.1, G.2.1.2.2.2, mM M, w0)
def hW (G : rfG) (X : rfX) (M : rfM) (w0 : va_W) (pc : Nat) (L : List (Nat × Value)) (st : List Value) (F : HF) : Prop := ∀ ws, rf_world G.2.1.1 G.2.1.2.1 G.2.1.2.2.1 G.2.1.2.2.2 ws → rf_same (mM M) w0 ws → hv ws = F → rfW X pc (L, st, ws)
def h_Qc (G : rfG) (Φ : va_W → Option Value → Prop) : Array Value → State → Outcome → State → Prop := fun _ st o t =>
  (∃ (rv : Option Value) (ws' : va_W), o = .returned rv ∧ Φ ws' rv ∧ va_P G.1.2.1 G.1.2.2.1 ws' t.heap ∧ va_D G.1.2.2.2 ws') ∧ va_F G.1.2.2.2 st t
/-- the place of a hand proof: where it runs, the layout, the class's fields, what is to come out -/
def hC (G : rfG) (X : rfX) (M : rfM) (w0 : va_W) (Lay : List rfL) (fl : rfFl) (cs : List (Nat × Int)) (Q : Option Value → HF → Prop) : Prop :=
  rf_Gok G ∧ rf_in_G X (hE G M w0) G ∧ rfFx X (mb M) (my M).cls G.2.2.1 G.2.1.2.2.1 ∧ xn X = mL M ∧ ((xR X).frames = M.2.1.1 ∧ (xR X).locals = M.2.1.2) ∧ G.2.1.2.2.2 = Lay ∧ rf_flok (my M).cls G.2.2.1 G.1.2.2.1 fl ∧ rf_csok (my M).cls G.2.2.1 cs ∧
  ((xt X).sig.returnType = mr M ∧ (xt X).locks = false) ∧ w0.length = Lay.length ∧ ∃ Φ, xQ X = MQ (xb X) (h_Qc G Φ) (xa X) (xs X) 0 0 G.1.2.2.2 ∧ ∀ ws rv, rf_world G.2.1.1 G.2.1.2.1 G.2.1.2.2.1 G.2.1.2.2.2 ws → rf_same (mM M) w0 ws → Q rv (hv ws) → Φ ws rv
variable {X : rfX} {G : rfG} {M : rfM} {w0 : va_W} {Lay : List rfL} {fl : rfFl} {cs : List (Nat × Int)} {Q : Option Value → HF → Prop} {L : List (Nat × Value)} {st : List Value} {F : HF} {pc : Nat}
theorem h_know (c : hC G X M w0 Lay fl cs Q) (K : hrng Lay F → hframe (mM M) (hv w0) F → hW G X M w0 pc L st F) : hW G X M w0 pc L st F := fun ws hw hs hF => by
  have hl : ws.length = w0.length := by rw [hw.1, c.2.2.2.2.2.1, c.2.2.2.2.2.2.2.2.2.1]
  refine K ?_ ?_ ws hw hs hF
  · rw [← hF, ← c.2.2.2.2.2.1]; exact hrng_at hw
  · rw [← hF]; exact hframe_at hl hs
-- constants
theorem h_ic (c : hC G X M w0 Lay fl cs Q) {n : Int} (hd : decode (mb M) pc = .ok (.iconst n, 1)) (hn : (decide (-2147483648 ≤ n) && decide (n ≤ 2147483647)) = true) (K : ∀ x : Int32, x.toInt = n → hW G X M w0 (pc + 1) L (.int x :: st) F) : hW G X M w0 pc L st F := fun ws hw hs hF ls H locs hl hP hD hS => by
  simp only [Bool.and_eq_true, decide_eq_true_eq] at hn
  exact lv_iconst c.2.2.1.1 c.2.2.1.2.1 hd rfl (K _ (rf_tn n hn.1 hn.2) ws hw hs hF ls H locs hl hP hD hS)
theorem h_bp (c : hC G X M w0 Lay fl cs Q) {n : Int} (hd : decode (mb M) pc = .ok (.bipush n, 2)) (hn : (decide (-128 ≤ n) && decide (n ≤ 127)) = true) (K : ∀ x : Int32, x.toInt = n → hW G X M w0 (pc + 2) L (.int x :: st) F) : hW G X M w0 pc L st F := fun ws hw hs hF ls H locs hl hP hD hS => by
  simp only [Bool.and_eq_true, decide_eq_true_eq] at hn
  exact lv_bipush c.2.2.1.1 c.2.2.1.2.1 hd rfl (K _ (rf_tn8 n hn.1 hn.2) ws hw hs hF ls H locs hl hP hD hS)
theorem h_sp (c : hC G X M w0 Lay fl cs Q) {n : Int} (hd : decode (mb M) pc = .ok (.sipush n, 3)) (hn : (decide (-32768 ≤ n) && decide (n ≤ 32767)) = true) (K : ∀ x : Int32, x.toInt = n → hW G X M w0 (pc + 3) L (.int x :: st) F) : hW G X M w0 pc L st F := fun ws hw hs hF ls H locs hl hP hD hS => by
  simp only [Bool.and_eq_true, decide_eq_true_eq] at hn
  exact lv_sipush c.2.2.1.1 c.2.2.1.2.1 hd rfl (K _ (rf_tn16 n hn.1 hn.2) ws hw hs hF ls H locs hl hP hD hS)
theorem h_ldc (c : hC G X M w0 Lay fl cs Q) {i : Nat} {n : Int} (hd : decode (mb M) pc = .ok (.ldc i, 2)) (hc : cs.find? (fun q => q.1 == i) = some (i, n)) (hn : (decide (-2147483648 ≤ n) && decide (n ≤ 2147483647)) = true) (K : ∀ x : Int32, x.toInt = n → hW G X M w0 (pc + 2) L (.int x :: st) F) : hW G X M w0 pc L st F := fun ws hw hs hF ls H locs hl hP hD hS => by
  simp only [Bool.and_eq_true, decide_eq_true_eq] at hn
  exact lv_ldc c.2.2.1.1 c.2.2.1.2.1 c.2.2.1.2.2.2.1 (c.2.2.1.2.2.2.2.1 _ (c.2.2.2.2.2.2.2.1 _ (rf_find1 hc))) hd (K _ (rf_tn n hn.1 hn.2) ws hw hs hF ls H locs hl hP hD hS)
theorem h_ldcw (c : hC G X M w0 Lay fl cs Q) {i : Nat} {n : Int} (hd : decode (mb M) pc = .ok (.ldc_w i, 3)) (hc : cs.find? (fun q => q.1 == i) = some (i, n)) (hn : (decide (-2147483648 ≤ n) && decide (n ≤ 2147483647)) = true) (K : ∀ x : Int32, x.toInt = n → hW G X M w0 (pc + 3) L (.int x :: st) F) : hW G X M w0 pc L st F := fun ws hw hs hF ls H locs hl hP hD hS => by
  simp only [Bool.and_eq_true, decide_eq_true_eq] at hn
  exact lv_ldcw c.2.2.1.1 c.2.2.1.2.1 c.2.2.1.2.2.2.1 (c.2.2.1.2.2.2.2.1 _ (c.2.2.2.2.2.2.2.1 _ (rf_find1 hc))) hd (K _ (rf_tn n hn.1 hn.2) ws hw hs hF ls H locs hl hP hD hS)
-- locals
theorem h_il (c : hC G X M w0 Lay fl cs Q) {n : Nat} {x : Int32} (hd : decode (mb M) pc = .ok (.iload n, 2)) (hg : rf_get L n = some (.int x)) (K : hW G X M w0 (pc + 2) L (.int x :: st) F) : hW G X M w0 pc L st F := fun ws hw hs hF ls H locs hl hP hD hS =>
  lv_iload c.2.2.1.1 c.2.2.1.2.1 hd (rf_at hl (rf_get_mem hg)) (K ws hw hs hF ls H locs hl hP hD hS)
theorem h_iln (c : hC G X M w0 Lay fl cs Q) {n : Fin 4} {x : Int32} (hd : decode (mb M) pc = .ok (.iload_n n, 1)) (hg : rf_get L n = some (.int x)) (K : hW G X M w0 (pc + 1) L (.int x :: st) F) : hW G X M w0 pc L st F := fun ws hw hs hF ls H locs hl hP hD hS =>
  lv_iload_n c.2.2.1.1 c.2.2.1.2.1 hd rfl (rf_at hl (rf_get_mem hg)) (K ws hw hs hF ls H locs hl hP hD hS)
theorem h_aln (c : hC G X M w0 Lay fl cs Q) {n : Fin 4} {x : Nat} (hd : decode (mb M) pc = .ok (.aload_n n, 1)) (hg : rf_get L n = some (.ref x)) (K : hW G X M w0 (pc + 1) L (.ref x :: st) F) : hW G X M w0 pc L st F := fun ws hw hs hF ls H locs hl hP hD hS =>
  lv_aload_n c.2.2.1.1 c.2.2.1.2.1 hd rfl (rf_at hl (rf_get_mem hg)) (K ws hw hs hF ls H locs hl hP hD hS)
theorem h_is (c : hC G X M w0 Lay fl cs Q) {n : Nat} {x : Int32} {L' : List (Nat × Value)} (hd : decode (mb M) pc = .ok (.istore n, 2)) (hn : n < mL M) (hL : (n, .int x) :: L.filter (rf_fil1 n) = L') (K : hW G X M w0 (pc + 2) L' st F) : hW G X M w0 pc L (.int x :: st) F := fun ws hw hs hF ls H locs hl hP hD hS => by
  subst hL
  exact lv_istore c.2.2.1.1 c.2.2.1.2.1 hd hl (by rw [c.2.2.2.1]; exact hn) rfl (fun ls' hl' => K ws hw hs hF ls' H locs hl' hP hD hS)
theorem h_isn (c : hC G X M w0 Lay fl cs Q) {n : Fin 4} {x : Int32} {L' : List (Nat × Value)} (hd : decode (mb M) pc = .ok (.istore_n n, 1)) (hn : n.val < mL M) (hL : (n.val, .int x) :: L.filter (rf_fil1 n.val) = L') (K : hW G X M w0 (pc + 1) L' st F) : hW G X M w0 pc L (.int x :: st) F := fun ws hw hs hF ls H locs hl hP hD hS => by
  subst hL
  exact lv_istore_n c.2.2.1.1 c.2.2.1.2.1 hd rfl hl (by rw [c.2.2.2.1]; exact hn) rfl (fun ls' hl' => K ws hw hs hF ls' H locs hl' hP hD hS)
theorem h_inc (c : hC G X M w0 Lay fl cs Q) {i : Nat} {n : Int} {x : Int32} (L' : Int32 → List (Nat × Value)) (hd : decode (mb M) pc = .ok (.iinc i n, 3)) (hn : i < mL M) (hn2 : (decide (-128 ≤ n) && decide (n ≤ 127)) = true) (hg : rf_get L i = some (.int x)) (hf : -2147483648 ≤ x.toInt + n ∧ x.toInt + n ≤ 2147483647) (hL : ∀ r, (i, .int r) :: L.filter (rf_fil1 i) = L' r) (K : ∀ r : Int32, r.toInt = x.toInt + n → hW G X M w0 (pc + 3) (L' r) st F) : hW G X M w0 pc L st F := fun ws hw hs hF ls H locs hl hP hD hS => by
  simp only [Bool.and_eq_true, decide_eq_true_eq] at hn2
  obtain ⟨kk, hk⟩ := List.getElem?_of_mem (rf_get_mem hg)
  have en : (Int32.ofInt n).toInt = n := rf_tn n (by omega) (by omega)
  have e : (x + Int32.ofInt n).toInt = x.toInt + n := by
    have := rf_add_val (x := x) (y := Int32.ofInt n) (r := (x.toInt, x.toInt, 0)) (t := (n, n, 0)) ⟨Int.le_refl _, Int.le_refl _, 0, by simp⟩ (by rw [en]; exact ⟨Int.le_refl _, Int.le_refl _, 0, by simp⟩) (by simp only [rf_fit, Bool.and_eq_true, decide_eq_true_eq]; omega)
    rw [this, en]
  have k := K (x + Int32.ofInt n) e
  rw [← hL] at k
  exact lv_iinc c.2.2.1.1 c.2.2.1.2.1 hd hl hk rfl (by rw [c.2.2.2.1]; exact hn) rfl (fun ls' hl' => k ws hw hs hF ls' H locs hl' hP hD hS)
-- arithmetic
theorem h_addv {x y : Int32} (hf : -2147483648 ≤ x.toInt + y.toInt ∧ x.toInt + y.toInt ≤ 2147483647) : (x + y).toInt = x.toInt + y.toInt :=
  rf_add_val (r := (x.toInt, x.toInt, 0)) (t := (y.toInt, y.toInt, 0)) ⟨Int.le_refl _, Int.le_refl _, 0, by simp⟩ ⟨Int.le_refl _, Int.le_refl _, 0, by simp⟩ (by simp only [rf_fit, Bool.and_eq_true, decide_eq_true_eq]; omega)
theorem h_subv {x y : Int32} (hf : -2147483648 ≤ x.toInt - y.toInt ∧ x.toInt - y.toInt ≤ 2147483647) : (x - y).toInt = x.toInt - y.toInt :=
  rf_sub_val (r := (x.toInt, x.toInt, 0)) (t := (y.toInt, y.toInt, 0)) ⟨Int.le_refl _, Int.le_refl _, 0, by simp⟩ ⟨Int.le_refl _, Int.le_refl _, 0, by simp⟩ (by simp only [rf_fit, Bool.and_eq_true, decide_eq_true_eq]; omega)
theorem h_add (c : hC G X M w0 Lay fl cs Q) {a b : Int32} (hd : decode (mb M) pc = .ok (.iadd, 1)) (hf : -2147483648 ≤ a.toInt + b.toInt ∧ a.toInt + b.toInt ≤ 2147483647) (K : ∀ r : Int32, r.toInt = a.toInt + b.toInt → hW G X M w0 (pc + 1) L (.int r :: st) F) : hW G X M w0 pc L (.int b :: .int a :: st) F := fun ws hw hs hF ls H locs hl hP hD hS =>
  lv_iadd c.2.2.1.1 c.2.2.1.2.1 hd (K _ (h_addv hf) ws hw hs hF ls H locs hl hP hD hS)
theorem h_sub (c : hC G X M w0 Lay fl cs Q) {a b : Int32} (hd : decode (mb M) pc = .ok (.isub, 1)) (hf : -2147483648 ≤ a.toInt - b.toInt ∧ a.toInt - b.toInt ≤ 2147483647) (K : ∀ r : Int32, r.toInt = a.toInt - b.toInt → hW G X M w0 (pc + 1) L (.int r :: st) F) : hW G X M w0 pc L (.int b :: .int a :: st) F := fun ws hw hs hF ls H locs hl hP hD hS =>
  lv_isub c.2.2.1.1 c.2.2.1.2.1 hd (K _ (h_subv hf) ws hw hs hF ls H locs hl hP hD hS)
theorem h_mul (c : hC G X M w0 Lay fl cs Q) {a b : Int32} {n : Int} (hd : decode (mb M) pc = .ok (.imul, 1)) (ha : a.toInt = n) (hf : -2147483648 ≤ n * b.toInt ∧ n * b.toInt ≤ 2147483647) (K : ∀ r : Int32, r.toInt = n * b.toInt → hW G X M w0 (pc + 1) L (.int r :: st) F) : hW G X M w0 pc L (.int b :: .int a :: st) F := fun ws hw hs hF ls H locs hl hP hD hS => by
  have e : (a * b).toInt = n * b.toInt := by
    rw [Int32.toInt_mul, ha]
    exact Int.bmod_eq_of_le (by omega) (by omega)
  exact lv_imul c.2.2.1.1 c.2.2.1.2.1 hd (K _ e ws hw hs hF ls H locs hl hP hD hS)
theorem h_and (c : hC G X M w0 Lay fl cs Q) {a b : Int32} (hd : decode (mb M) pc = .ok (.iand, 1)) (K : hW G X M w0 (pc + 1) L (.int (a &&& b) :: st) F) : hW G X M w0 pc L (.int b :: .int a :: st) F := fun ws hw hs hF ls H locs hl hP hD hS =>
  lv_iand c.2.2.1.1 c.2.2.1.2.1 hd (K ws hw hs hF ls H locs hl hP hD hS)
theorem h_or (c : hC G X M w0 Lay fl cs Q) {a b : Int32} (hd : decode (mb M) pc = .ok (.ior, 1)) (K : hW G X M w0 (pc + 1) L (.int (a ||| b) :: st) F) : hW G X M w0 pc L (.int b :: .int a :: st) F := fun ws hw hs hF ls H locs hl hP hD hS =>
  lv_ior c.2.2.1.1 c.2.2.1.2.1 hd (K ws hw hs hF ls H locs hl hP hD hS)
theorem h_xor (c : hC G X M w0 Lay fl cs Q) {a b : Int32} (hd : decode (mb M) pc = .ok (.ixor, 1)) (K : hW G X M w0 (pc + 1) L (.int (a ^^^ b) :: st) F) : hW G X M w0 pc L (.int b :: .int a :: st) F := fun ws hw hs hF ls H locs hl hP hD hS =>
  lv_ixor c.2.2.1.1 c.2.2.1.2.1 hd (K ws hw hs hF ls H locs hl hP hD hS)
theorem h_shl (c : hC G X M w0 Lay fl cs Q) {a b : Int32} (hd : decode (mb M) pc = .ok (.ishl, 1)) (K : hW G X M w0 (pc + 1) L (.int (a <<< (b &&& 31)) :: st) F) : hW G X M w0 pc L (.int b :: .int a :: st) F := fun ws hw hs hF ls H locs hl hP hD hS =>
  lv_ishl c.2.2.1.1 c.2.2.1.2.1 hd (K ws hw hs hF ls H locs hl hP hD hS)
theorem h_shr (c : hC G X M w0 Lay fl cs Q) {a b : Int32} (hd : decode (mb M) pc = .ok (.ishr, 1)) (K : hW G X M w0 (pc + 1) L (.int (a >>> (b &&& 31)) :: st) F) : hW G X M w0 pc L (.int b :: .int a :: st) F := fun ws hw hs hF ls H locs hl hP hD hS =>
  lv_ishr c.2.2.1.1 c.2.2.1.2.1 hd (K ws hw hs hF ls H locs hl hP hD hS)
-- longs: their numbers don't matter here
theorem h_lc (c : hC G X M w0 Lay fl cs Q) {n : Fin 2} (hd : decode (mb M) pc = .ok (.lconst n, 1)) (K : ∀ x : Int64, hW G X M w0 (pc + 1) L (.long x :: st) F) : hW G X M w0 pc L st F := fun ws hw hs hF ls H locs hl hP hD hS =>
  lv_lconst c.2.2.1.1 c.2.2.1.2.1 hd rfl (K _ ws hw hs hF ls H locs hl hP hD hS)
theorem h_i2l (c : hC G X M w0 Lay fl cs Q) {a : Int32} (hd : decode (mb M) pc = .ok (.i2l, 1)) (K : ∀ x : Int64, hW G X M w0 (pc + 1) L (.long x :: st) F) : hW G X M w0 pc L (.int a :: st) F := fun ws hw hs hF ls H locs hl hP hD hS =>
  lv_i2l c.2.2.1.1 c.2.2.1.2.1 hd rfl (K _ ws hw hs hF ls H locs hl hP hD hS)
theorem h_lor (c : hC G X M w0 Lay fl cs Q) {a b : Int64} (hd : decode (mb M) pc = .ok (.lor, 1)) (K : ∀ x : Int64, hW G X M w0 (pc + 1) L (.long x :: st) F) : hW G X M w0 pc L (.long b :: .long a :: st) F := fun ws hw hs hF ls H locs hl hP hD hS =>
  lv_lor c.2.2.1.1 c.2.2.1.2.1 hd (K _ ws hw hs hF ls H locs hl hP hD hS)
theorem h_lshl (c : hC G X M w0 Lay fl cs Q) {a : Int64} {b : Int32} (hd : decode (mb M) pc = .ok (.lshl, 1)) (K : ∀ x : Int64, hW G X M w0 (pc + 1) L (.long x :: st) F) : hW G X M w0 pc L (.int b :: .long a :: st) F := fun ws hw hs hF ls H locs hl hP hD hS =>
  lv_lshl c.2.2.1.1 c.2.2.1.2.1 hd rfl (K _ ws hw hs hF ls H locs hl hP hD hS)
-- the stack
theorem h_dup (c : hC G X M w0 Lay fl cs Q) {v : Value} (hd : decode (mb M) pc = .ok (.dup, 1)) (hc : v.category = 1) (K : hW G X M w0 (pc + 1) L (v :: v :: st) F) : hW G X M w0 pc L (v :: st) F := fun ws hw hs hF ls H locs hl hP hD hS =>
  lv_dup c.2.2.1.1 c.2.2.1.2.1 hd hc (K ws hw hs hF ls H locs hl hP hD hS)
theorem h_dup2 (c : hC G X M w0 Lay fl cs Q) {v u : Value} (hd : decode (mb M) pc = .ok (.dup2, 1)) (hc : v.category = 1) (hc2 : u.category = 1) (K : hW G X M w0 (pc + 1) L (v :: u :: v :: u :: st) F) : hW G X M w0 pc L (v :: u :: st) F := fun ws hw hs hF ls H locs hl hP hD hS =>
  lv_dup2_11 c.2.2.1.1 c.2.2.1.2.1 hd hc hc2 (K ws hw hs hF ls H locs hl hP hD hS)
theorem h_pop (c : hC G X M w0 Lay fl cs Q) {v : Value} (hd : decode (mb M) pc = .ok (.pop, 1)) (hc : v.category = 1) (K : hW G X M w0 (pc + 1) L st F) : hW G X M w0 pc L (v :: st) F := fun ws hw hs hF ls H locs hl hP hD hS =>
  lv_pop c.2.2.1.1 c.2.2.1.2.1 hd hc (K ws hw hs hF ls H locs hl hP hD hS)
-- jumps
theorem h_goto (c : hC G X M w0 Lay fl cs Q) {off : Int} {tgt : Nat} (hd : decode (mb M) pc = .ok (.goto off, 3)) (ht : (pc : Int) + off = (tgt : Int)) (K : hW G X M w0 tgt L st F) : hW G X M w0 pc L st F := fun ws hw hs hF ls H locs hl hP hD hS =>
  lv_goto c.2.2.1.1 c.2.2.1.2.1 hd ht (K ws hw hs hF ls H locs hl hP hD hS)
theorem h_cmp (c : hC G X M w0 Lay fl cs Q) {o : ClassFile.Cond} {off : Int} {tgt : Nat} {x y : Int32} (hd : decode (mb M) pc = .ok (.if_icmp o off, 3)) (ht : (pc : Int) + off = (tgt : Int)) (K1 : rf_holds o x.toInt y.toInt → hW G X M w0 tgt L st F) (K2 : ¬ rf_holds o x.toInt y.toInt → hW G X M w0 (pc + 3) L st F) : hW G X M w0 pc L (.int y :: .int x :: st) F := fun ws hw hs hF ls H locs hl hP hD hS => by
  have kt := fun h => K1 h ws hw hs hF
  have kf := fun h => K2 h ws hw hs hF
  have F := c.2.2.1
  cases o
  · exact lv_icmp_eq F.1 F.2.1 hd ht (fun q => kt (by subst q; rfl) ls H locs hl hP hD hS) (fun q => kf (rf_neI q) ls H locs hl hP hD hS)
  · exact lv_icmp_ne F.1 F.2.1 hd ht (fun q => kt (rf_neI q) ls H locs hl hP hD hS) (fun q => kf (fun w => w (by subst q; rfl)) ls H locs hl hP hD hS)
  · exact lv_icmp_lt F.1 F.2.1 hd ht (fun q => kt (Int32.lt_iff_toInt_lt.mp q) ls H locs hl hP hD hS) (fun q => kf (fun w => q (Int32.lt_iff_toInt_lt.mpr w)) ls H locs hl hP hD hS)
  · exact lv_icmp_ge F.1 F.2.1 hd ht (fun q => kt (Int32.le_iff_toInt_le.mp q) ls H locs hl hP hD hS) (fun q => kf (fun w => q (Int32.le_iff_toInt_le.mpr w)) ls H locs hl hP hD hS)
  · exact lv_icmp_gt F.1 F.2.1 hd ht (fun q => kt (Int32.lt_iff_toInt_lt.mp q) ls H locs hl hP hD hS) (fun q => kf (fun w => q (Int32.lt_iff_toInt_lt.mpr w)) ls H locs hl hP hD hS)
  · exact lv_icmp_le F.1 F.2.1 hd ht (fun q => kt (Int32.le_iff_toInt_le.mp q) ls H locs hl hP hD hS) (fun q => kf (fun w => q (Int32.le_iff_toInt_le.mpr w)) ls H locs hl hP hD hS)
theorem h_if (c : hC G X M w0 Lay fl cs Q) {o : ClassFile.Cond} {off : Int} {tgt : Nat} {x : Int32} (hd : decode (mb M) pc = .ok (.ifCond o off, 3)) (ht : (pc : Int) + off = (tgt : Int)) (K1 : rf_holds o x.toInt 0 → hW G X M w0 tgt L st F) (K2 : ¬ rf_holds o x.toInt 0 → hW G X M w0 (pc + 3) L st F) : hW G X M w0 pc L (.int x :: st) F := fun ws hw hs hF ls H locs hl hP hD hS => by
  have kt := fun h => K1 h ws hw hs hF
  have kf := fun h => K2 h ws hw hs hF
  have F := c.2.2.1
  cases o
  · exact lv_if_eq F.1 F.2.1 hd ht (fun q => kt (by subst q; exact rf_0I) ls H locs hl hP hD hS) (fun q => kf (fun w => rf_neI q (by rw [rf_0I]; exact w)) ls H locs hl hP hD hS)
  · exact lv_if_ne F.1 F.2.1 hd ht (fun q => kt (fun w => rf_neI q (by rw [rf_0I]; exact w)) ls H locs hl hP hD hS) (fun q => kf (fun w => w (by subst q; exact rf_0I)) ls H locs hl hP hD hS)
  · exact lv_if_lt F.1 F.2.1 hd ht (fun q => kt (by have := Int32.lt_iff_toInt_lt.mp q; rw [rf_0I] at this; exact this) ls H locs hl hP hD hS) (fun q => kf (fun w => q (Int32.lt_iff_toInt_lt.mpr (by rw [rf_0I]; exact w))) ls H locs hl hP hD hS)
  · exact lv_if_ge F.1 F.2.1 hd ht (fun q => kt (by have := Int32.le_iff_toInt_le.mp q; rw [rf_0I] at this; exact this) ls H locs hl hP hD hS) (fun q => kf (fun w => q (Int32.le_iff_toInt_le.mpr (by rw [rf_0I]; exact w))) ls H locs hl hP hD hS)
  · exact lv_if_gt F.1 F.2.1 hd ht (fun q => kt (by have := Int32.lt_iff_toInt_lt.mp q; rw [rf_0I] at this; exact this) ls H locs hl hP hD hS) (fun q => kf (fun w => q (Int32.lt_iff_toInt_lt.mpr (by rw [rf_0I]; exact w))) ls H locs hl hP hD hS)
  · exact lv_if_le F.1 F.2.1 hd ht (fun q => kt (by have := Int32.le_iff_toInt_le.mp q; rw [rf_0I] at this; exact this) ls H locs hl hP hD hS) (fun q => kf (fun w => q (Int32.le_iff_toInt_le.mpr (by rw [rf_0I]; exact w))) ls H locs hl hP hD hS)
-- fields
theorem h_get0 (c : hC G X M w0 Lay fl cs Q) {i ci k wr j : Nat} {b : rfA} (hd : decode (mb M) pc = .ok (.getfield i, 3)) (hg : rf_flget fl i = some (ci, k, wr)) (hl : rf_gone Lay ci k j = some b) (K : ∀ (ws : va_W) (w : Value), rf_world G.2.1.1 G.2.1.2.1 G.2.1.2.2.1 G.2.1.2.2.2 ws → rf_same (mM M) w0 ws → hv ws = F → rf_raw ws j k = some w → rf_av G.2.1.1 G.2.1.2.1 [] [] b w → rfW X (pc + 3) (L, w :: st, ws)) : hW G X M w0 pc L (.ref (G.2.1.1 j) :: st) F := by
  intro ws hw hs hF ls H locs hll hP hD hS
  have F := c.2.2.1
  obtain ⟨e1, e2, e3, e4, e5, e6, e7, e8, e9⟩ := c.2.1
  rw [← c.2.2.2.2.2.1] at hl
  obtain ⟨fs, vs, w, q1, q2, q3, q4, q5, q6⟩ := rf_gone_at hw hl
  obtain ⟨Cn, T, N, ty0, p1, p2, p3, p4, -⟩ := c.2.2.2.2.2.2.1 _ (rf_flget_mem hg)
  rw [← e3] at p1
  have k1 := K ws w hw hs hF (by simp [rf_raw, q3, rf_cellv, q5]) q6 ls H locs hll hP hD hS
  rcases p4 with p4 | ⟨host, p4⟩
  · exact va_get F.1 F.2.1 F.2.2.2.2.1 p3 F.2.2.2.1 F.2.2.2.2.2 hP j q3 p1 k p2 (F.2.2.2.2.1 _ p4) (fun _ h => h) q5 hd k1
  · exact va_getN F.1 F.2.1 F.2.2.2.2.1 p3 F.2.2.2.1 F.2.2.2.2.2 hP j q3 p1 k p2 (F.2.2.2.2.1 _ p4) (fun _ h => h) q5 hd k1
theorem h_getI (c : hC G X M w0 Lay fl cs Q) {i ci k wr j : Nat} {r : rfR} {y : rfY} {x : Int32} (hd : decode (mb M) pc = .ok (.getfield i, 3)) (hg : rf_flget fl i = some (ci, k, wr)) (hl : rf_gone Lay ci k j = some (.inl (r, y))) (hx : F j k = x) (K : hW G X M w0 (pc + 3) L (.int x :: st) F) : hW G X M w0 pc L (.ref (G.2.1.1 j) :: st) F :=
  h_get0 c hd hg hl fun ws w hw hs hF hr ⟨z, hz, _⟩ => by
    subst hz
    have e := hv_of hr
    rw [hF] at e
    rw [hx] at e
    subst e
    exact K ws hw hs hF
theorem h_getR (c : hC G X M w0 Lay fl cs Q) {i ci k wr j j2 : Nat} (hd : decode (mb M) pc = .ok (.getfield i, 3)) (hg : rf_flget fl i = some (ci, k, wr)) (hl : rf_gone Lay ci k j = some (.inr (.inl [j2]))) (K : hW G X M w0 (pc + 3) L (.ref (G.2.1.1 j2) :: st) F) : hW G X M w0 pc L (.ref (G.2.1.1 j) :: st) F :=
  h_get0 c hd hg hl fun ws w hw hs hF hr ⟨z, hz, e⟩ => by
    cases List.mem_singleton.mp hz
    subst e
    exact K ws hw hs hF
theorem h_getJ (c : hC G X M w0 Lay fl cs Q) {i ci k wr j : Nat} (hd : decode (mb M) pc = .ok (.getfield i, 3)) (hg : rf_flget fl i = some (ci, k, wr)) (hl : rf_gone Lay ci k j = some (.inr (.inr 0))) (K : ∀ x : Int64, hW G X M w0 (pc + 3) L (.long x :: st) F) : hW G X M w0 pc L (.ref (G.2.1.1 j) :: st) F :=
  h_get0 c hd hg hl fun ws w hw hs hF hr ⟨z, e⟩ => by
    subst e
    exact K z ws hw hs hF
theorem h_put0 (c : hC G X M w0 Lay fl cs Q) {i ci k wr j : Nat} {b : rfA} {v : Value} (hd : decode (mb M) pc = .ok (.putfield i, 3)) (hg : rf_flget fl i = some (ci, k, wr)) (hl : rf_gone Lay ci k j = some b) (hm : rf_mod (mM M) j k = true) (hgm : rf_gms (mM M) [j] k k = true) (hav : rf_av G.2.1.1 G.2.1.2.1 [] [] b v) (hty : ∃ ty, (wr = 1 → ty = .int) ∧ (wr = 2 → ty = .long) ∧ (wr = 1 ∨ wr = 2) ∧ narrow ty v = v ∧ fits ty v = true)
    (K : ∀ (ws ws' : va_W), rf_world G.2.1.1 G.2.1.2.1 G.2.1.2.2.1 G.2.1.2.2.2 ws' → rf_same (mM M) w0 ws' → hv ws = F → (∃ (a : Nat) (vs : List Value), ws[j]? = some (a, .inr (ci, vs)) ∧ k < vs.length ∧ ws' = ws.set j (a, .inr (ci, vs.set k v))) → rfW X (pc + 3) (L, st, ws')) : hW G X M w0 pc L (v :: .ref (G.2.1.1 j) :: st) F := by
  intro ws hw hs hF ls H locs hll hP hD hS
  have F := c.2.2.1
  obtain ⟨e1, e2, e3, e4, e5, e6, e7, e8, e9⟩ := c.2.1
  rw [← c.2.2.2.2.2.1] at hl
  obtain ⟨fs, vs, w, q1, q2, q3, q4, q5, q6⟩ := rf_gone_at hw hl
  obtain ⟨Cn, T, N, ty0, p1, p2, p3, p4, p5, p6, p7, p8⟩ := c.2.2.2.2.2.2.1 _ (rf_flget_mem hg)
  rw [← e3] at p1
  have hkl : k < vs.length := by
    rcases Nat.lt_or_ge k vs.length with q | q
    · exact q
    · rw [List.getElem?_eq_none q] at q5; cases q5
  have hcell : rf_cell G.2.1.1 G.2.1.2.1 G.2.1.2.2.1 (.inl (ci, fs)) (.inr (ci, vs.set k v)) := ⟨_, rfl, rf_all_set _ _ q4 k b v q2 hav⟩
  have hoth : ∀ i, i ≠ k → rf_cellv (.inr (ci, vs.set k v)) i = rf_cellv (.inr (ci, vs)) i := fun i hi => by
    show (vs.set k v)[i]? = vs[i]?
    rw [List.getElem?_set_ne (fun e => hi e.symm)]
  obtain ⟨w1, w2, w3⟩ := rf_wset (fun i => i == k) hw hs q1 q3 hcell (fun i hi => hoth i (by simpa using hi)) (fun i hi => by simp only [beq_iff_eq] at hi; rw [hi]; exact hm) (rf_gms_at hgm List.mem_cons_self (Int.le_refl _) (Int.le_refl _))
  have K' := K ws _ w1 w2 hF ⟨_, vs, q3, hkl, rfl⟩
  obtain ⟨ty, t1, t2, t3, t4, t5⟩ := hty
  have hT : (T k).2.2.2 = false ∧ parseFieldDescriptor (T k).2.2.1 = some ty := by
    rcases t3 with t3 | t3
    · rw [t1 t3]; exact p7 t3
    · rw [t2 t3]; exact p8 t3
  rcases p4 with p4 | ⟨host, p4⟩
  · exact va_put F.1 F.2.1 F.2.2.2.2.1 p3 ty0 p5 p6 F.2.2.2.1 F.2.2.2.2.2 hP hD hS j q3 p1 k p2 (F.2.2.2.2.1 _ p4) (fun _ h => h) hT.1 hT.2 t4 t5 hkl hd (fun H1 locs1 hP1 hD1 hS1 => K' ls H1 locs1 hll hP1 hD1 hS1)
  · exact va_putN F.1 F.2.1 F.2.2.2.2.1 p3 ty0 p5 p6 F.2.2.2.1 F.2.2.2.2.2 hP hD hS j q3 p1 k p2 (F.2.2.2.2.1 _ p4) (fun _ h => h) hT.1 hT.2 t4 t5 hkl hd (fun H1 locs1 hP1 hD1 hS1 => K' ls H1 locs1 hll hP1 hD1 hS1)
theorem h_putI (c : hC G X M w0 Lay fl cs Q) {i ci k j : Nat} {r : rfR} {y : rfY} {x : Int32} (hd : decode (mb M) pc = .ok (.putfield i, 3)) (hg : rf_flget fl i = some (ci, k, 1)) (hl : rf_gone Lay ci k j = some (.inl (r, y))) (hm : rf_mod (mM M) j k = true) (hgm : rf_gms (mM M) [j] k k = true) (hy : y = none) (hr : rf_in r x.toInt) (K : hW G X M w0 (pc + 3) L st (hupd F j k x)) : hW G X M w0 pc L (.int x :: .ref (G.2.1.1 j) :: st) F :=
  h_put0 c hd hg hl hm hgm ⟨x, rfl, hr, by subst hy; trivial⟩ ⟨.int, fun _ => rfl, fun h => absurd h (by decide), Or.inl rfl, rfl, rfl⟩ fun ws ws' hw hs hF ⟨a, vs, q3, hkl, e⟩ => by
    subst e
    refine K _ hw hs ?_
    rw [← hF]
    exact hv_upd q3 (by show (vs.set k _)[k]? = _; simp [hkl]) (fun i hi => by show (vs.set k _)[i]? = vs[i]?; rw [List.getElem?_set_ne (fun e => hi e.symm)])
theorem h_putJ (c : hC G X M w0 Lay fl cs Q) {i ci k j : Nat} {x : Int64} (hd : decode (mb M) pc = .ok (.putfield i, 3)) (hg : rf_flget fl i = some (ci, k, 2)) (hl : rf_gone Lay ci k j = some (.inr (.inr 0))) (hm : rf_mod (mM M) j k = true) (hgm : rf_gms (mM M) [j] k k = true) (K : hW G X M w0 (pc + 3) L st (hupd F j k 0)) : hW G X M w0 pc L (.long x :: .ref (G.2.1.1 j) :: st) F :=
  h_put0 c hd hg hl hm hgm ⟨x, rfl⟩ ⟨.long, fun h => absurd h (by decide), fun _ => rfl, Or.inr rfl, rfl, rfl⟩ fun ws ws' hw hs hF ⟨a, vs, q3, hkl, e⟩ => by
    subst e
    refine K _ hw hs ?_
    rw [← hF]
    funext j' k'
    unfold hupd hv
    rw [rf_raw_set q3]
    by_cases hj : j' = j
    · subst hj
      rw [if_pos rfl, if_pos rfl]
      by_cases hk : k' = k
      · subst hk
        rw [if_pos rfl]
        have : rf_cellv (.inr (ci, vs.set k' (.long x))) k' = some (.long x) := by show (vs.set k' _)[k']? = _; simp [hkl]
        rw [this]
      · rw [if_neg hk]
        have : rf_cellv (.inr (ci, vs.set k (.long x))) k' = rf_cellv (.inr (ci, vs)) k' := by show (vs.set k _)[k']? = vs[k']?; rw [List.getElem?_set_ne (fun e => hk e.symm)]
        rw [this]
        simp [rf_raw, q3]
    · rw [if_neg hj, if_neg hj]
-- arrays
theorem h_aldG (c : hC G X M w0 Lay fl cs Q) {t j n : Nat} {tb : List rfR} {i : Int32} (hl : rf_arr Lay t j = some (n, tb)) (hi : 0 ≤ i.toInt ∧ i.toInt < n) {ws : va_W} (hw : rf_world G.2.1.1 G.2.1.2.1 G.2.1.2.2.1 G.2.1.2.2.2 ws) : ∃ (cA : ClassId) (ty : FieldType) (f : Nat → Int32), G.2.1.2.2.2[j]? = some (.inr (t, n, .inl tb)) ∧ G.2.1.2.2.1[t]? = some (cA, ty) ∧ ws[j]? = some (G.2.1.1 j, .inl (cA, n, .inl f)) ∧ (∀ i, i < n → rf_in (tb.getD (i % tb.length) rf_top) (f i).toInt) ∧ vp_in i n ∧ f i.toNatClampNeg = hv ws j i.toInt.toNat := by
  rw [← c.2.2.2.2.2.1] at hl
  obtain ⟨cA, ty, f, q1, q2, q3, q4⟩ := rf_arr_at hw hl
  refine ⟨cA, ty, f, q1, q2, q3, q4, vp_in_iff.mpr ⟨by omega, by omega⟩, ?_⟩
  have hil : i.toInt.toNat < n := by omega
  refine (hv_of ?_).symm
  simp only [rf_raw, q3, Option.bind_some, rf_cellv, if_pos hil]
  rfl
theorem h_iald (c : hC G X M w0 Lay fl cs Q) {j n k : Nat} {tb : List rfR} {i x : Int32} (hd : decode (mb M) pc = .ok (.iaload, 1)) (hl : rf_arr Lay 0 j = some (n, tb)) (hi : 0 ≤ i.toInt ∧ i.toInt < n) (hk : i.toInt.toNat = k) (hx : F j k = x) (K : hW G X M w0 (pc + 1) L (.int x :: st) F) : hW G X M w0 pc L (.int i :: .ref (G.2.1.1 j) :: st) F := by
  intro ws hw hs hF ls H locs hll hP hD hS
  have Fx := c.2.2.1
  obtain ⟨cA, ty, f, q1, q2, q3, q4, q5, q6⟩ := h_aldG c hl hi hw
  obtain ⟨c0, c1, c2, c3, Fo, ht⟩ := c.1.2.1
  have : ty = .int := by rw [ht] at q2; simp at q2; exact q2.2.symm
  subst this
  rw [hF, hk, hx] at q6
  subst q6
  exact va_iald Fx.1 Fx.2.1 Fx.2.2.2.2.2 hP j 0 q3 q2 q5 hd (K ws hw hs hF ls H locs hll hP hD hS)
theorem h_bald (c : hC G X M w0 Lay fl cs Q) {j n k : Nat} {tb : List rfR} {i x : Int32} (hd : decode (mb M) pc = .ok (.baload, 1)) (hl : rf_arr Lay 1 j = some (n, tb)) (hi : 0 ≤ i.toInt ∧ i.toInt < n) (hk : i.toInt.toNat = k) (hx : F j k = x) (K : hW G X M w0 (pc + 1) L (.int x :: st) F) : hW G X M w0 pc L (.int i :: .ref (G.2.1.1 j) :: st) F := by
  intro ws hw hs hF ls H locs hll hP hD hS
  have Fx := c.2.2.1
  obtain ⟨cA, ty, f, q1, q2, q3, q4, q5, q6⟩ := h_aldG c hl hi hw
  obtain ⟨c0, c1, c2, c3, Fo, ht⟩ := c.1.2.1
  have : ty = .byte := by rw [ht] at q2; simp at q2; exact q2.2.symm
  subst this
  rw [hF, hk, hx] at q6
  subst q6
  exact va_bald Fx.1 Fx.2.1 Fx.2.2.2.2.2 hP j 1 q3 q2 q5 hd (K ws hw hs hF ls H locs hll hP hD hS)
theorem h_iast (c : hC G X M w0 Lay fl cs Q) {j n k : Nat} {tb : List rfR} {i x : Int32} (hd : decode (mb M) pc = .ok (.iastore, 1)) (hl : rf_arr Lay 0 j = some (n, tb)) (hi : 0 ≤ i.toInt ∧ i.toInt < n) (hk : i.toInt.toNat = k) (hm : (mM M).any (fun q => q.1 == j && q.2 == 0) = true) (hgm : rf_gms (mM M) [j] 0 n = true) (hr : rf_in (tb.getD (k % tb.length) rf_top) x.toInt) (K : hW G X M w0 (pc + 1) L st (hupd F j k x)) : hW G X M w0 pc L (.int x :: .int i :: .ref (G.2.1.1 j) :: st) F := by
  intro ws hw hs hF ls H locs hll hP hD hS
  have Fx := c.2.2.1
  obtain ⟨cA, ty, f, q1, q2, q3, q4, q5, q6⟩ := h_aldG c hl hi hw
  obtain ⟨c0, c1, c2, c3, Fo, ht⟩ := c.1.2.1
  have : ty = .int := by rw [ht] at q2; simp at q2; exact q2.2.symm
  subst this
  have hcl : i.toNatClampNeg = i.toInt.toNat := rfl
  have hil : i.toInt.toNat < n := by omega
  have hcell : rf_cell G.2.1.1 G.2.1.2.1 G.2.1.2.2.1 (.inr (0, n, .inl tb)) (.inl (cA, n, .inl (upd f i.toNatClampNeg x))) := ⟨cA, .int, _, q2, rfl, fun a ha => by
    rw [hcl]
    by_cases e : a = i.toInt.toNat
    · subst e; rw [pk_us, hk]; exact hr
    · rw [pk_un e]; exact q4 a ha⟩
  have hoth : ∀ a, a ≠ k → rf_cellv (.inl (cA, n, .inl (upd f i.toNatClampNeg x))) a = rf_cellv (.inl (cA, n, .inl f)) a := fun a ha => by
    simp only [rf_cellv]
    rw [hcl, hk, pk_un ha]
  obtain ⟨w1, w2, w3⟩ := rf_wset (fun a => a == k) hw hs q1 q3 hcell (fun a ha => hoth a (by simpa using ha)) (fun a ha => rf_mod0 hm) (rf_gms_at hgm List.mem_cons_self (by omega) (by omega))
  refine va_iast Fx.1 Fx.2.1 Fx.2.2.2.2.2 hP hD hS j 0 q3 q2 q5 hd (fun H1 locs1 hP1 hD1 hS1 => K _ w1 w2 ?_ ls H1 locs1 hll hP1 hD1 hS1)
  rw [← hF]
  exact hv_upd q3 (by simp only [rf_cellv]; rw [hcl, hk, if_pos (by omega), pk_us]) hoth
-- returns
theorem h_qc (c : hC G X M w0 Lay fl cs Q) {ws : va_W} (hw : rf_world G.2.1.1 G.2.1.2.1 G.2.1.2.2.1 G.2.1.2.2.2 ws) (hs : rf_same (mM M) w0 ws) {rv : Option Value} (hq : Q rv (hv ws)) {H : Heap} {locs : List Loc} (hP : va_P (xD X) (xk X) ws H) (hD : va_D (xA X) ws) (hS : va_S (xA X) (xs X).heap H locs) : ∃ Qc, xQ X = MQ (xb X) Qc (xa X) (xs X) 0 0 G.1.2.2.2 ∧ (∀ t : State, t.heap = H → (xs X).WarmedH t.vm → Qc (xa X) (xs X) (.returned rv) t) ∧ ∀ q ∈ locs, G.1.2.2.2 q.base := by
  obtain ⟨Φ, hQ, hΦ⟩ := c.2.2.2.2.2.2.2.2.2.2
  obtain ⟨e1, e2, e3, e4, e5, e6, e7, e8, e9⟩ := c.2.1
  rw [e2, e3] at hP
  rw [e4] at hD hS
  exact ⟨_, hQ, fun t ht _ => ⟨⟨rv, ws, rfl, hΦ ws rv hw hs hq, by rw [ht]; exact hP, hD⟩, hS.F ht⟩, hS.2.2⟩
theorem h_iret (c : hC G X M w0 Lay fl cs Q) {x : Int32} (hd : decode (mb M) pc = .ok (.ireturn, 1)) (hr : mr M = some .int) (K : Q (some (.int x)) F) : hW G X M w0 pc L [.int x] F := fun ws hw hs hF ls H locs hl hP hD hS => by
  subst hF
  obtain ⟨Qc, hQ, hq, hf⟩ := h_qc c hw hs K hP hD hS
  show W _ _ _ _ _ _ _ _ _ _ _ _ _ _ _ _
  rw [hQ]
  exact W.iret c.2.2.1.1 c.2.2.1.2.1 (by rw [c.2.2.2.2.2.2.2.2.1.1, hr]) hq hf hd c.2.2.2.2.2.2.2.2.1.2
theorem h_zret (c : hC G X M w0 Lay fl cs Q) {x : Int32} (hd : decode (mb M) pc = .ok (.ireturn, 1)) (hr : mr M = some .boolean) (hx : 0 ≤ x.toInt ∧ x.toInt ≤ 1) (K : Q (some (.int x)) F) : hW G X M w0 pc L [.int x] F := fun ws hw hs hF ls H locs hl hP hD hS => by
  subst hF
  obtain ⟨Qc, hQ, hq, hf⟩ := h_qc c hw hs K hP hD hS
  show W _ _ _ _ _ _ _ _ _ _ _ _ _ _ _ _
  rw [hQ]
  exact W.zret c.2.2.1.1 c.2.2.1.2.1 (ty := .boolean) (by rw [c.2.2.2.2.2.2.2.2.1.1, hr]) (rf_bit1 hx.1 hx.2) hq hf hd c.2.2.2.2.2.2.2.2.1.2
theorem h_vret (c : hC G X M w0 Lay fl cs Q) (hd : decode (mb M) pc = .ok (.return_, 1)) (hr : mr M = none) (K : Q none F) : hW G X M w0 pc L [] F := fun ws hw hs hF ls H locs hl hP hD hS => by
  subst hF
  obtain ⟨Qc, hQ, hq, hf⟩ := h_qc c hw hs K hP hD hS
  show W _ _ _ _ _ _ _ _ _ _ _ _ _ _ _ _
  rw [hQ]
  exact W.vret c.2.2.1.1 c.2.2.1.2.1 (by rw [c.2.2.2.2.2.2.2.2.1.1, hr]) hq hf hd c.2.2.2.2.2.2.2.2.1.2
end RfHand
