/-! THE MACHINE OVER CONCRETE STATES (locals that are known, operand stack, world), and what a step of abstract states means there -/
section RfMach
abbrev rfX : Type := Program × Launch × Env × Room × State × MethodId × Array Value × List Frame × Method × Code × (State → Prop) × Nat × va_G × List vw_C × (Nat → Prop)
abbrev xp (X : rfX) : Program := X.1
abbrev xl (X : rfX) : Launch := X.2.1
abbrev xe (X : rfX) : Env := X.2.2.1
abbrev xR (X : rfX) : Room := X.2.2.2.1
abbrev xs (X : rfX) : State := X.2.2.2.2.1
abbrev xm (X : rfX) : MethodId := X.2.2.2.2.2.1
abbrev xa (X : rfX) : Array Value := X.2.2.2.2.2.2.1
abbrev xb (X : rfX) : List Frame := X.2.2.2.2.2.2.2.1
abbrev xt (X : rfX) : Method := X.2.2.2.2.2.2.2.2.1
abbrev xc (X : rfX) : Code := X.2.2.2.2.2.2.2.2.2.1
abbrev xQ (X : rfX) : State → Prop := X.2.2.2.2.2.2.2.2.2.2.1
abbrev xn (X : rfX) : Nat := X.2.2.2.2.2.2.2.2.2.2.2.1
abbrev xD (X : rfX) : va_G := X.2.2.2.2.2.2.2.2.2.2.2.2.1
abbrev xk (X : rfX) : List vw_C := X.2.2.2.2.2.2.2.2.2.2.2.2.2.1
abbrev xA (X : rfX) : Nat → Prop := X.2.2.2.2.2.2.2.2.2.2.2.2.2.2
abbrev xW (X : rfX) (H : Heap) (locs : List Loc) (g : JFrame) : Prop := W (xp X) (xl X) (xe X) (xR X) (xs X) (xm X) (xa X) (xb X) (xt X) (xc X) H locs 0 0 (xQ X) g
def rfW (X : rfX) (pc : Nat) (C : rfC) : Prop := ∀ (ls : Array Slot) (H : Heap) (locs : List Loc), lv_has ls (xn X) C.1 → va_P (xD X) (xk X) C.2.2 H → va_D (xA X) C.2.2 → va_S (xA X) (xs X).heap H locs → xW X H locs (F0 (xm X) pc ls C.2.1)
/-- what is fixed at a method's own run: the machine, its bytes, its locals' number, its class, the tables' words, the classes -/
def rfFx (X : rfX) (cc : ByteArray) (own : String) (Ts : List Cond) (tys : List (ClassId × FieldType)) : Prop :=
  (xp X).tables.exec = Jvm.exec ∧ (xc X).code = cc ∧ (xc X).maxLocals = xn X ∧ (xs X).vm.findClass own = some (xm X).cls ∧ (∀ w ∈ Ts, w.before (xa X) (xs X) = true) ∧ va_K (xD X) (xk X) tys (xs X)
abbrev rfE : Type := (Nat → Nat) × (Nat → Nat) × List (ClassId × FieldType) × List rfL × List (Nat × Nat) × va_W
def rf_st (E : rfE) (S : rfS) (C : rfC) : Prop := rf_ok E.1 E.2.1 E.2.2.2.2.2 S C ∧ rf_world E.1 E.2.1 E.2.2.1 E.2.2.2.1 C.2.2 ∧ rf_same E.2.2.2.2.1 E.2.2.2.2.2 C.2.2
abbrev rfO : Type := Nat × rfS × rfD
def rf_go (X : rfX) (E : rfE) (outs : List rfO) (pc : Nat) (C : rfC) : Prop := (∀ o ∈ outs, ∀ C', rf_st E o.2.1 C' → rf_dl o.2.2 C C' → rfW X o.1 C') → rfW X pc C
def rf_d0 : rfD := fun _ => none
def rf_d1 (v : rfV) (o : Option (Int × Int)) : rfD := fun u => if decide (u = v) then some o else none
theorem rf_dl0 (C : rfC) (st : List Value) : rf_dl rf_d0 C (C.1, st, C.2.2) := fun v => rfl
/-- one out: the same locals and world, another stack -/
theorem rf_go1 {X : rfX} {E : rfE} {S : rfS} {C : rfC} {pc pc' : Nat} {st' : List rfA} {sc' : List Value} (hs : rf_st E S C) (h : rf_all (rf_av E.1 E.2.1 C.1 C.2.2) st' sc') (k : rfW X pc' (C.1, sc', C.2.2) → rfW X pc C) : rf_go X E [(pc', (S.1, st', S.2.2), rf_d0)] pc C := by
  intro H
  refine k (H _ List.mem_cons_self (C.1, sc', C.2.2) ⟨⟨hs.1.1, hs.1.2.1, h, hs.1.2.2.2⟩, hs.2⟩ (rf_dl0 C sc'))
def rf_q0 (pc : Nat) (a : rfA) (S : rfS) : Option (List rfO) := some [(pc, (S.1, a :: S.2.1, S.2.2), rf_d0)]
def rf_q1 (pc : Nat) (f : rfA → Option rfA) (S : rfS) : Option (List rfO) := match S.2.1 with
  | a :: st => (f a).map (fun b => [(pc, (S.1, b :: st, S.2.2), rf_d0)])
  | [] => none
def rf_q2 (pc : Nat) (f : rfA → rfA → Option rfA) (S : rfS) : Option (List rfO) := match S.2.1 with
  | y :: x :: st => (f x y).map (fun b => [(pc, (S.1, b :: st, S.2.2), rf_d0)])
  | _ => none
theorem rf_q0_go {X : rfX} {E : rfE} {S : rfS} {C : rfC} {pc pc' : Nat} {a : rfA} {outs : List rfO} (h : rf_q0 pc' a S = some outs) (hs : rf_st E S C) {v : Value} (hv : rf_av E.1 E.2.1 C.1 C.2.2 a v) (k : rfW X pc' (C.1, v :: C.2.1, C.2.2) → rfW X pc C) : rf_go X E outs pc C := by
  cases h
  exact rf_go1 (sc' := v :: C.2.1) hs ⟨hv, hs.1.2.2.1⟩ k
theorem rf_q1_go {X : rfX} {E : rfE} {S : rfS} {C : rfC} {pc pc' : Nat} {f : rfA → Option rfA} {outs : List rfO} (h : rf_q1 pc' f S = some outs) (hs : rf_st E S C)
    (k : ∀ (a b : rfA) (v : Value) (st : List Value), f a = some b → rf_av E.1 E.2.1 C.1 C.2.2 a v → C.2.1 = v :: st → ∃ w, rf_av E.1 E.2.1 C.1 C.2.2 b w ∧ (rfW X pc' (C.1, w :: st, C.2.2) → rfW X pc (C.1, v :: st, C.2.2))) : rf_go X E outs pc C := by
  unfold rf_q1 at h
  obtain ⟨L, sc, ws⟩ := C
  obtain ⟨SL, sst, sf⟩ := S
  have h2 := hs.1.2.2.1
  match sst, sc, h, h2 with
  | a :: st, v :: sc, h, ⟨h3, h4⟩ =>
    simp only [Option.map_eq_some_iff] at h
    obtain ⟨b, hb, rfl⟩ := h
    obtain ⟨w, hw, kk⟩ := k a b v sc hb h3 rfl
    exact rf_go1 hs (sc' := w :: sc) ⟨hw, h4⟩ kk
theorem rf_q2_go {X : rfX} {E : rfE} {S : rfS} {C : rfC} {pc pc' : Nat} {f : rfA → rfA → Option rfA} {outs : List rfO} (h : rf_q2 pc' f S = some outs) (hs : rf_st E S C)
    (k : ∀ (x y b : rfA) (v u : Value) (st : List Value), f x y = some b → rf_av E.1 E.2.1 C.1 C.2.2 x v → rf_av E.1 E.2.1 C.1 C.2.2 y u → C.2.1 = u :: v :: st → ∃ w, rf_av E.1 E.2.1 C.1 C.2.2 b w ∧ (rfW X pc' (C.1, w :: st, C.2.2) → rfW X pc (C.1, u :: v :: st, C.2.2))) : rf_go X E outs pc C := by
  unfold rf_q2 at h
  obtain ⟨L, sc, ws⟩ := C
  obtain ⟨SL, sst, sf⟩ := S
  have h2 := hs.1.2.2.1
  match sst, sc, h, h2 with
  | y :: x :: st, u :: v :: sc, h, ⟨h3, h4, h5⟩ =>
    simp only [Option.map_eq_some_iff] at h
    obtain ⟨b, hb, rfl⟩ := h
    obtain ⟨w, hw, kk⟩ := k x y b v u sc hb h4 h3 rfl
    exact rf_go1 hs (sc' := w :: sc) ⟨hw, h5⟩ kk
  | _ :: _ :: _, [], _, h2 => exact h2.elim
  | _ :: _ :: _, [_], _, h2 => exact h2.2.elim
-- the operations on abstract values
def rf_i2 (f : rfR → rfR → rfR) (x y : rfA) : Option rfA := match x, y with
  | .inl (r, _), .inl (t, _) => some (.inl (f r t, none))
  | _, _ => none
def rf_l2 (x y : rfA) : Option rfA := match x, y with
  | .inr (.inr 0), .inr (.inr 0) => some (.inr (.inr 0))
  | _, _ => none
def rf_i1 (f : rfR → rfR) (x : rfA) : Option rfA := match x with
  | .inl (r, _) => some (.inl (f r, none))
  | _ => none
theorem rf_i2_av {E : rfE} {L : List (Nat × Value)} {ws : va_W} {f : rfR → rfR → rfR} {g : Int32 → Int32 → Int32} (hf : ∀ (r t : rfR) (x y : Int32), rf_in r x.toInt → rf_in t y.toInt → rf_in (f r t) (g x y).toInt) {x y b : rfA} {v u : Value} (h : rf_i2 f x y = some b) (hx : rf_av E.1 E.2.1 L ws x v) (hy : rf_av E.1 E.2.1 L ws y u) : ∃ a c : Int32, v = .int a ∧ u = .int c ∧ rf_av E.1 E.2.1 L ws b (.int (g a c)) := by
  match x, y, h, hx, hy with
  | .inl (r, _), .inl (t, _), h, ⟨a, h1, h2, _⟩, ⟨c, h3, h4, _⟩ =>
    cases h
    exact ⟨a, c, h1, h3, g a c, rfl, hf _ _ _ _ h2 h4, trivial⟩
theorem rf_i1_av {E : rfE} {L : List (Nat × Value)} {ws : va_W} {f : rfR → rfR} {g : Int32 → Int32} (hf : ∀ (r : rfR) (x : Int32), rf_in r x.toInt → rf_in (f r) (g x).toInt) {x b : rfA} {v : Value} (h : rf_i1 f x = some b) (hx : rf_av E.1 E.2.1 L ws x v) : ∃ a : Int32, v = .int a ∧ rf_av E.1 E.2.1 L ws b (.int (g a)) := by
  match x, h, hx with
  | .inl (r, _), h, ⟨a, h1, h2, _⟩ =>
    cases h
    exact ⟨a, h1, g a, rfl, hf _ _ h2, trivial⟩
/-- x plus a constant: what is said of a variable goes on -/
def rf_addy (u : rfY) (r t : rfR) : rfY := match u with
  | some (v, some n) => if decide (t.1 = t.2.1) && rf_fit (r.1 + t.1) (r.2.1 + t.2.1) then some (v, some (n + t.1)) else none
  | _ => none
def rf_adda (x y : rfA) : Option rfA := match x, y with
  | .inl (r, u), .inl (t, w) => some (.inl (rf_add r t, match rf_addy u r t with
    | some q => some q
    | none => rf_addy w t r))
  | _, _ => none
def rf_suba (x y : rfA) : Option rfA := match x, y with
  | .inl (r, u), .inl (t, _) => some (.inl (rf_sub r t, match u with
    | some (v, some n) => if decide (t.1 = t.2.1) && rf_fit (r.1 - t.2.1) (r.2.1 - t.1) then some (v, some (n - t.1)) else none
    | _ => none))
  | _, _ => none
theorem rf_addy_ok {L : List (Nat × Value)} {ws : va_W} {u : rfY} {r t : rfR} {a c : Int32} (h1 : rf_in r a.toInt) (h2 : rf_in t c.toInt) (hu : rf_sy L ws u a.toInt) : rf_sy L ws (rf_addy u r t) (a + c).toInt := by
  unfold rf_addy
  split
  · next v n =>
    split
    · next h =>
      simp only [Bool.and_eq_true, decide_eq_true_eq] at h
      have e := rf_add_val h1 h2 h.2
      have e2 := rf_one_val h2 h.1
      simp only [rf_sy] at hu ⊢
      omega
    · trivial
  · trivial
theorem rf_adda_av {E : rfE} {L : List (Nat × Value)} {ws : va_W} {x y b : rfA} {v u : Value} (h : rf_adda x y = some b) (hx : rf_av E.1 E.2.1 L ws x v) (hy : rf_av E.1 E.2.1 L ws y u) : ∃ a c : Int32, v = .int a ∧ u = .int c ∧ rf_av E.1 E.2.1 L ws b (.int (a + c)) := by
  match x, y, h, hx, hy with
  | .inl (r, yu), .inl (t, yw), h, ⟨a, h1, h2, h5⟩, ⟨c, h3, h4, h6⟩ =>
    cases h
    refine ⟨a, c, h1, h3, a + c, rfl, rf_add_in h2 h4, ?_⟩
    split
    · next q hq => rw [← hq]; exact rf_addy_ok h2 h4 h5
    · rw [Int32.add_comm]; exact rf_addy_ok h4 h2 h6
theorem rf_suba_av {E : rfE} {L : List (Nat × Value)} {ws : va_W} {x y b : rfA} {v u : Value} (h : rf_suba x y = some b) (hx : rf_av E.1 E.2.1 L ws x v) (hy : rf_av E.1 E.2.1 L ws y u) : ∃ a c : Int32, v = .int a ∧ u = .int c ∧ rf_av E.1 E.2.1 L ws b (.int (a - c)) := by
  match x, y, h, hx, hy with
  | .inl (r, yu), .inl (t, yw), h, ⟨a, h1, h2, h5⟩, ⟨c, h3, h4, h6⟩ =>
    cases h
    refine ⟨a, c, h1, h3, a - c, rfl, rf_sub_in h2 h4, ?_⟩
    split
    · next w n =>
      split
      · next hh =>
        simp only [Bool.and_eq_true, decide_eq_true_eq] at hh
        have e := rf_sub_val h2 h4 hh.2
        have e2 := rf_one_val h4 hh.1
        simp only [rf_sy] at h5 ⊢
        omega
      · trivial
    · trivial
/-- never 0 -/
def rf_no0 (t : rfR) : Bool := decide (0 < t.1) || decide (t.2.1 < 0)
theorem rf_no0_ne {t : rfR} {c : Int32} (h : rf_no0 t = true) (hc : rf_in t c.toInt) : ¬ c = 0 := by
  intro e
  subst e
  have e0 : (0 : Int32).toInt = 0 := by decide +kernel
  rw [e0] at hc
  obtain ⟨a, b, -⟩ := hc
  simp only [rf_no0, Bool.or_eq_true, decide_eq_true_eq] at h
  omega
def rf_diva (x y : rfA) : Option rfA := match x, y with
  | .inl (r, u), .inl (t, _) => if rf_no0 t then some (.inl (rf_div r t, match u with
    | some (v, some 0) => if decide (0 < r.1) && decide (1 < t.1) then some (v, none) else none
    | _ => none)) else none
  | _, _ => none
def rf_rema (x y : rfA) : Option rfA := match x, y with
  | .inl (r, _), .inl (t, w) => if rf_no0 t then some (.inl (rf_rem r t, match w with
    | some (v, some 0) => if decide (0 ≤ r.1) && decide (0 < t.1) then some (v, none) else none
    | _ => none)) else none
  | _, _ => none
theorem rf_diva_av {E : rfE} {L : List (Nat × Value)} {ws : va_W} {x y b : rfA} {v u : Value} (h : rf_diva x y = some b) (hx : rf_av E.1 E.2.1 L ws x v) (hy : rf_av E.1 E.2.1 L ws y u) : ∃ a c : Int32, v = .int a ∧ u = .int c ∧ ¬ c = 0 ∧ rf_av E.1 E.2.1 L ws b (.int (a / c)) := by
  match x, y, h, hx, hy with
  | .inl (r, yu), .inl (t, yw), h, ⟨a, h1, h2, h5⟩, ⟨c, h3, h4, h6⟩ =>
    simp only [rf_diva] at h
    split at h
    · next h0 =>
      cases h
      refine ⟨a, c, h1, h3, rf_no0_ne h0 h4, a / c, rfl, rf_div_in h2 h4, ?_⟩
      split
      · next w =>
        split
        · next hh =>
          simp only [Bool.and_eq_true, decide_eq_true_eq] at hh
          have e := rf_div_lt (x := a) (y := c) (by have := h2.1; omega) (by have := h4.1; omega)
          simp only [rf_sy] at h5 ⊢
          omega
        · trivial
      · trivial
    · cases h
theorem rf_rema_av {E : rfE} {L : List (Nat × Value)} {ws : va_W} {x y b : rfA} {v u : Value} (h : rf_rema x y = some b) (hx : rf_av E.1 E.2.1 L ws x v) (hy : rf_av E.1 E.2.1 L ws y u) : ∃ a c : Int32, v = .int a ∧ u = .int c ∧ ¬ c = 0 ∧ rf_av E.1 E.2.1 L ws b (.int (a - a / c * c)) := by
  match x, y, h, hx, hy with
  | .inl (r, yu), .inl (t, yw), h, ⟨a, h1, h2, h5⟩, ⟨c, h3, h4, h6⟩ =>
    simp only [rf_rema] at h
    split at h
    · next h0 =>
      cases h
      refine ⟨a, c, h1, h3, rf_no0_ne h0 h4, a - a / c * c, rfl, rf_rem_in h2 h4, ?_⟩
      split
      · next w =>
        split
        · next hh =>
          simp only [Bool.and_eq_true, decide_eq_true_eq] at hh
          have e := rf_rem_lt (x := a) (y := c) (by have := h2.1; omega) (by have := h4.1; omega)
          simp only [rf_sy] at h6 ⊢
          omega
        · trivial
      · trivial
    · cases h
end RfMach
