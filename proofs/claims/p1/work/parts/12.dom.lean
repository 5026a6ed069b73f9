/-! ABSTRACT STATES. A variable: a local, or a slot of a cell of the world (a field, a place of an array). An abstract value: a range with a word on a variable ('is it plus n', 'is less than it and not negative'); a reference to one of some cells; 0: a long; n + 1: the special reference n -/
section RfDom
abbrev rfV : Type := Nat ⊕ (Nat × Nat)
abbrev rfY : Type := Option (rfV × Option Int)
abbrev rfA : Type := (rfR × rfY) ⊕ (List Nat) ⊕ Nat
/-- how a number stands to what a slot held at the method's start: that slot, at least, at most -/
abbrev rfRl : Type := Option ((Nat × Nat) × Int × Int)
abbrev rfF : Type := (Nat × Nat) × rfR × rfRl
abbrev rfS : Type := List (Nat × rfA) × List rfA × List rfF
abbrev rfC : Type := List (Nat × Value) × List Value × va_W
abbrev rfL : Type := (Nat × List rfA) ⊕ (Nat × Nat × (List rfR ⊕ List Nat))
abbrev rfD : Type := rfV → Option (Option (Int × Int))
def rf_get (L : List (Nat × Value)) (i : Nat) : Option Value := (L.find? (fun q => q.1 == i)).map (fun q => q.2)
def rf_num (o : Option Value) : Int := match o with
  | some (.int x) => x.toInt
  | _ => 0
def rf_cellv (e : va_E) (k : Nat) : Option Value := match e with
  | .inr o => o.2[k]?
  | .inl (_, n, .inl f) => if k < n then some (.int (f k)) else none
  | _ => none
def rf_raw (ws : va_W) (j k : Nat) : Option Value := (ws[j]?).bind (fun q => rf_cellv q.2 k)
def rf_rnum (ws : va_W) (j k : Nat) : Int := rf_num (rf_raw ws j k)
/-! GHOSTS: words on the whole world, kept as if they were slots of a cell 998: slot 0: both banks' rules can be gone through (a row of signs in which no sign wants more than lies there, at most 60 high); slot 1: a name that was read has letters alone; slot 2: no more signs are laid in a bank than nine a unit -/
def rf_runH (c : Nat → Int) : Nat → Nat → Nat → Bool
  | 0, _, _ => true
  | n + 1, p, h => if c p = 126 then decide (1 ≤ h) && rf_runH c n (p + 1) h else if 97 ≤ c p ∧ c p ≤ 122 then decide (h < 60) && rf_runH c n (p + 1) (h + 1) else decide (2 ≤ h) && rf_runH c n (p + 1) (h - 1)
def rf_gJf (c f t : Nat → Int) : Bool := (List.range 2).all (fun b => decide (t b ≤ f b) || (decide (560 * (b : Int) ≤ f b) && decide (t b ≤ 560 * (b : Int) + 560) && rf_runH c (t b - f b).toNat (f b).toNat 0))
def rf_sgf (t : Nat → Int) (s k : Int) : Int := if k < s then t k.toNat % 256 else 0
def rf_gLf (t : Nat → Int) (s a e k : Int) : Bool := !(decide (k = 2)) || (List.range (e - a).toNat).all (fun i => decide (97 ≤ rf_sgf t s (a + i)) && decide (rf_sgf t s (a + i) ≤ 122))
def rf_gCf (u : Nat → Int) (c b : Int) : Bool := decide (560 * b ≤ c) && decide (c ≤ 560 * b + 9 * u b.toNat)
def rf_ghb (ws : va_W) (g : Nat) : Bool := match g with
  | 0 => rf_gJf (rf_rnum ws 85) (rf_rnum ws 83) (rf_rnum ws 84)
  | 1 => rf_gLf (rf_rnum ws 72) (rf_rnum ws 114 3) (rf_rnum ws 114 6) (rf_rnum ws 114 7) (rf_rnum ws 114 8)
  | 2 => rf_gCf (rf_rnum ws 74) (rf_rnum ws 114 30) (rf_rnum ws 114 29)
  | _ => false
def rf_gh (ws : va_W) (g : Nat) : Option Value := some (.int (if rf_ghb ws g then 1 else 0))
/-- what a ghost hangs on: ghost, cell, 0 (all of it) or slot + 1 -/
def rf_gsup : List (Nat × Nat × Nat) := [(0, 85, 0), (0, 83, 0), (0, 84, 0), (1, 72, 0), (1, 114, 7), (1, 114, 8), (1, 114, 9), (1, 114, 4), (2, 74, 0), (2, 114, 31), (2, 114, 30)]
theorem rf_gh_cong {ws ws' : va_W} {g : Nat} (h : ∀ u ∈ rf_gsup, u.1 = g → ∀ k, (u.2.2 = 0 ∨ u.2.2 = k + 1) → rf_raw ws' u.2.1 k = rf_raw ws u.2.1 k) : rf_gh ws' g = rf_gh ws g := by
  match g, h with
  | 0, h =>
    have e1 : rf_rnum ws' 85 = rf_rnum ws 85 := funext fun k => by unfold rf_rnum; rw [h (0, 85, 0) (by simp [rf_gsup]) rfl k (Or.inl rfl)]
    have e2 : rf_rnum ws' 83 = rf_rnum ws 83 := funext fun k => by unfold rf_rnum; rw [h (0, 83, 0) (by simp [rf_gsup]) rfl k (Or.inl rfl)]
    have e3 : rf_rnum ws' 84 = rf_rnum ws 84 := funext fun k => by unfold rf_rnum; rw [h (0, 84, 0) (by simp [rf_gsup]) rfl k (Or.inl rfl)]
    simp only [rf_gh, rf_ghb, e1, e2, e3]
  | 1, h =>
    have e1 : rf_rnum ws' 72 = rf_rnum ws 72 := funext fun k => by unfold rf_rnum; rw [h (1, 72, 0) (by simp [rf_gsup]) rfl k (Or.inl rfl)]
    have e2 : rf_rnum ws' 114 6 = rf_rnum ws 114 6 := by unfold rf_rnum; rw [h (1, 114, 7) (by simp [rf_gsup]) rfl 6 (Or.inr rfl)]
    have e3 : rf_rnum ws' 114 7 = rf_rnum ws 114 7 := by unfold rf_rnum; rw [h (1, 114, 8) (by simp [rf_gsup]) rfl 7 (Or.inr rfl)]
    have e4 : rf_rnum ws' 114 8 = rf_rnum ws 114 8 := by unfold rf_rnum; rw [h (1, 114, 9) (by simp [rf_gsup]) rfl 8 (Or.inr rfl)]
    have e5 : rf_rnum ws' 114 3 = rf_rnum ws 114 3 := by unfold rf_rnum; rw [h (1, 114, 4) (by simp [rf_gsup]) rfl 3 (Or.inr rfl)]
    simp only [rf_gh, rf_ghb, e1, e2, e3, e4, e5]
  | 2, h =>
    have e1 : rf_rnum ws' 74 = rf_rnum ws 74 := funext fun k => by unfold rf_rnum; rw [h (2, 74, 0) (by simp [rf_gsup]) rfl k (Or.inl rfl)]
    have e2 : rf_rnum ws' 114 30 = rf_rnum ws 114 30 := by unfold rf_rnum; rw [h (2, 114, 31) (by simp [rf_gsup]) rfl 30 (Or.inr rfl)]
    have e3 : rf_rnum ws' 114 29 = rf_rnum ws 114 29 := by unfold rf_rnum; rw [h (2, 114, 30) (by simp [rf_gsup]) rfl 29 (Or.inr rfl)]
    simp only [rf_gh, rf_ghb, e1, e2, e3]
  | g + 3, _ => rfl
def rf_fld (ws : va_W) (j k : Nat) : Option Value := match ws[j]? with
  | some q => rf_cellv q.2 k
  | none => if j == 998 then rf_gh ws k else none
def rf_val (L : List (Nat × Value)) (ws : va_W) (v : rfV) : Int := match v with
  | .inl i => rf_num (rf_get L i)
  | .inr q => rf_num (rf_fld ws q.1 q.2)
def rf_sy (L : List (Nat × Value)) (ws : va_W) (y : rfY) (x : Int) : Prop := match y with
  | none => True
  | some (v, some n) => x = rf_val L ws v + n
  | some (v, none) => 0 ≤ x ∧ x < rf_val L ws v
/-- the special value n: a reference; 999: what a static holds, null or a reference -/
def rf_spv (sp : Nat → Nat) (n : Nat) : Value := if n = 999 then (if sp 999 = 0 then .null else .ref (sp 999 - 1)) else .ref (sp n)
theorem rf_spv_ref {sp : Nat → Nat} {n : Nat} (h : ¬ n = 999) : rf_spv sp n = .ref (sp n) := by unfold rf_spv; rw [if_neg h]
theorem rf_spv_cat (sp : Nat → Nat) (n : Nat) : (rf_spv sp n).category = 1 := by
  unfold rf_spv
  split
  · split <;> rfl
  · rfl
def rf_av (ad sp : Nat → Nat) (L : List (Nat × Value)) (ws : va_W) (a : rfA) (v : Value) : Prop := match a with
  | .inl (r, y) => ∃ x : Int32, v = .int x ∧ rf_in r x.toInt ∧ rf_sy L ws y x.toInt
  | .inr (.inl js) => ∃ j, j ∈ js ∧ v = .ref (ad j)
  | .inr (.inr 0) => ∃ x : Int64, v = .long x
  | .inr (.inr (n + 1)) => v = rf_spv sp n
def rf_all {α β : Type} (P : α → β → Prop) : List α → List β → Prop
  | [], [] => True
  | a :: as, b :: bs => P a b ∧ rf_all P as bs
  | _, _ => False
def rf_fok (w0 ws : va_W) (q : rfF) : Prop := ∃ x : Int32, rf_fld ws q.1.1 q.1.2 = some (.int x) ∧ rf_in q.2.1 x.toInt ∧ (match q.2.2 with
  | none => True
  | some (g, a, b) => rf_num (rf_fld w0 g.1 g.2) + a ≤ x.toInt ∧ x.toInt ≤ rf_num (rf_fld w0 g.1 g.2) + b)
def rf_nd (L : List (Nat × Value)) : Prop := ∀ i v w, (i, v) ∈ L → (i, w) ∈ L → v = w
def rf_ok (ad sp : Nat → Nat) (w0 : va_W) (S : rfS) (C : rfC) : Prop :=
  rf_nd C.1 ∧ (∀ q ∈ S.1, ∃ v, (q.1, v) ∈ C.1 ∧ rf_av ad sp C.1 C.2.2 q.2 v) ∧ rf_all (rf_av ad sp C.1 C.2.2) S.2.1 C.2.1 ∧ ∀ q ∈ S.2.2, rf_fok w0 C.2.2 q
def rf_cell (ad sp : Nat → Nat) (tys : List (ClassId × FieldType)) (k : rfL) (e : va_E) : Prop := match k with
  | .inl (ci, fs) => ∃ vs, e = .inr (ci, vs) ∧ rf_all (rf_av ad sp [] []) fs vs
  | .inr (t, n, .inl tb) => ∃ cA ty f, tys[t]? = some (cA, ty) ∧ e = .inl (cA, n, .inl f) ∧ ∀ i, i < n → rf_in (tb.getD (i % tb.length) rf_top) (f i).toInt
  | .inr (t, n, .inr js) => ∃ cA ty g, tys[t]? = some (cA, ty) ∧ e = .inl (cA, n, .inr (.inr (.inr (.inr g)))) ∧ ∀ i, i < n → ∃ j, j ∈ js ∧ g i = some (ad j)
def rf_world (ad sp : Nat → Nat) (tys : List (ClassId × FieldType)) (Lay : List rfL) (ws : va_W) : Prop :=
  ws.length = Lay.length ∧ ∀ j k, Lay[j]? = some k → ∃ e, ws[j]? = some (ad j, e) ∧ rf_cell ad sp tys k e
/-- the slots that a method may write: (cell, 0): all of it; (cell, k + 1): slot k -/
def rf_mod (ms : List (Nat × Nat)) (j k : Nat) : Bool := ms.any (fun q => q.1 == j && (q.2 == 0 || q.2 == k + 1))
/-- a write at slots lo .. hi of the cells js touches what a ghost hangs on -/
def rf_gtouch (js : List Nat) (lo hi : Int) (u : Nat × Nat × Nat) : Bool := js.any (fun j => j == u.2.1) && (u.2.2 == 0 || (decide (lo < (u.2.2 : Int)) && decide ((u.2.2 : Int) ≤ hi + 1)))
def rf_gpk (js : List Nat) (lo hi : Int) (q : Nat × Nat) : Bool := q.1 == 998 && rf_gsup.any (fun u => u.1 == q.2 && rf_gtouch js lo hi u)
def rf_gms (ms : List (Nat × Nat)) (js : List Nat) (lo hi : Int) : Bool := rf_gsup.all (fun u => !(rf_gtouch js lo hi u) || rf_mod ms 998 u.1)
def rf_same (ms : List (Nat × Nat)) (w0 ws : va_W) : Prop := ∀ j k, rf_mod ms j k = false → rf_fld ws j k = rf_fld w0 j k
def rf_dl (d : rfD) (C C' : rfC) : Prop := ∀ v, match d v with
  | none => rf_val C'.1 C'.2.2 v = rf_val C.1 C.2.2 v
  | some none => True
  | some (some (a, b)) => rf_val C.1 C.2.2 v + a ≤ rf_val C'.1 C'.2.2 v ∧ rf_val C'.1 C'.2.2 v ≤ rf_val C.1 C.2.2 v + b
-- rows on them
theorem rf_get_of {L : List (Nat × Value)} (h : rf_nd L) {i : Nat} {v : Value} (hm : (i, v) ∈ L) : rf_get L i = some v := by
  unfold rf_get
  cases hf : L.find? (fun q => q.1 == i) with
  | none =>
    have := List.find?_eq_none.mp hf (i, v) hm
    simp at this
  | some q =>
    have h1 := List.mem_of_find?_eq_some hf
    have h2 := List.find?_some hf
    simp only [beq_iff_eq] at h2
    obtain ⟨a, b⟩ := q
    simp only at h2
    subst h2
    simp [h _ _ _ h1 hm]
theorem rf_get_mem {L : List (Nat × Value)} {i : Nat} {v : Value} (h : rf_get L i = some v) : (i, v) ∈ L := by
  unfold rf_get at h
  cases hf : L.find? (fun q => q.1 == i) with
  | none => rw [hf] at h; cases h
  | some q =>
    rw [hf] at h
    have h1 := List.mem_of_find?_eq_some hf
    have h2 := List.find?_some hf
    simp only [beq_iff_eq] at h2
    obtain ⟨a, b⟩ := q
    simp only at h2
    subst h2
    simp only [Option.map_some, Option.some.injEq] at h
    subst h
    exact h1
theorem rf_get_none {L : List (Nat × Value)} {i : Nat} (h : ∀ v, (i, v) ∉ L) : rf_get L i = none := by
  cases hg : rf_get L i with
  | none => rfl
  | some v => exact absurd (rf_get_mem hg) (h v)
theorem rf_all_map {α β γ : Type} {P : α → β → Prop} {Q : γ → β → Prop} {f : α → γ} (h : ∀ a b, P a b → Q (f a) b) : ∀ (as : List α) (bs : List β), rf_all P as bs → rf_all Q (as.map f) bs
  | [], [], _ => trivial
  | [], _ :: _, h' => h'.elim
  | _ :: _, [], h' => h'.elim
  | _ :: as, _ :: bs, h' => ⟨h _ _ h'.1, rf_all_map h as bs h'.2⟩
theorem rf_all_len {α β : Type} {P : α → β → Prop} : ∀ (as : List α) (bs : List β), rf_all P as bs → as.length = bs.length
  | [], [], _ => rfl
  | [], _ :: _, h' => h'.elim
  | _ :: _, [], h' => h'.elim
  | _ :: as, _ :: bs, h' => by simp [rf_all_len as bs h'.2]
theorem rf_all_get {α β : Type} {P : α → β → Prop} : ∀ (as : List α) (bs : List β), rf_all P as bs → ∀ (k : Nat) (a : α), as[k]? = some a → ∃ b, bs[k]? = some b ∧ P a b
  | [], [], _ => fun k a h => by simp at h
  | [], _ :: _, h' => h'.elim
  | _ :: _, [], h' => h'.elim
  | x :: as, y :: bs, h' => fun k a h => by
    cases k with
    | zero => simp only [List.getElem?_cons_zero, Option.some.injEq] at h; subst h; exact ⟨y, by simp, h'.1⟩
    | succ k => simp only [List.getElem?_cons_succ] at h ⊢; exact rf_all_get as bs h'.2 k a h
theorem rf_all_set {α β : Type} {P : α → β → Prop} : ∀ (as : List α) (bs : List β), rf_all P as bs → ∀ (k : Nat) (a : α) (b : β), as[k]? = some a → P a b → rf_all P as (bs.set k b)
  | [], [], _ => fun k a b h _ => by simp at h
  | [], _ :: _, h' => h'.elim
  | _ :: _, [], h' => h'.elim
  | x :: as, y :: bs, h' => fun k a b h hp => by
    cases k with
    | zero => simp only [List.getElem?_cons_zero, Option.some.injEq] at h; subst h; exact ⟨hp, h'.2⟩
    | succ k => simp only [List.getElem?_cons_succ] at h; exact ⟨h'.1, rf_all_set as bs h'.2 k a b h hp⟩
theorem rf_all_imp {α β : Type} {P Q : α → β → Prop} (h : ∀ a b, P a b → Q a b) : ∀ (as : List α) (bs : List β), rf_all P as bs → rf_all Q as bs
  | [], [], _ => trivial
  | [], _ :: _, h' => h'.elim
  | _ :: _, [], h' => h'.elim
  | _ :: as, _ :: bs, h' => ⟨h _ _ h'.1, rf_all_imp h as bs h'.2⟩
/-- the words on variables that a change touches are dropped -/
def rf_kill (p : rfV → Bool) (a : rfA) : rfA := match a with
  | .inl (r, some (v, n)) => if p v then .inl (r, none) else .inl (r, some (v, n))
  | a => a
theorem rf_kill_av {ad sp : Nat → Nat} {L L' : List (Nat × Value)} {ws ws' : va_W} {p : rfV → Bool} (h : ∀ v, p v = false → rf_val L' ws' v = rf_val L ws v) {a : rfA} {x : Value} (ha : rf_av ad sp L ws a x) : rf_av ad sp L' ws' (rf_kill p a) x := by
  match a, ha with
  | .inl (r, none), ⟨z, h1, h2, _⟩ => exact ⟨z, h1, h2, trivial⟩
  | .inl (r, some (v, n)), ⟨z, h1, h2, h3⟩ =>
    unfold rf_kill
    by_cases hp : p v = true
    · simp only [hp, if_true]
      exact ⟨z, h1, h2, trivial⟩
    · simp only [hp]
      refine ⟨z, h1, h2, ?_⟩
      have e := h v (by simpa using hp)
      cases n with
      | none => simp only [rf_sy] at h3 ⊢; rw [e]; exact h3
      | some n => simp only [rf_sy] at h3 ⊢; rw [e]; exact h3
  | .inr (.inl js), ha => exact ha
  | .inr (.inr 0), ha => exact ha
  | .inr (.inr (n + 1)), ha => exact ha
/-- nothing on variables -/
def rf_bare (a : rfA) : rfA := rf_kill (fun _ => true) a
theorem rf_bare_av {ad sp : Nat → Nat} {L L' : List (Nat × Value)} {ws ws' : va_W} {a : rfA} {x : Value} (ha : rf_av ad sp L ws a x) : rf_av ad sp L' ws' (rf_bare a) x := rf_kill_av (fun v h => by simp at h) ha
theorem rf_same_av {ad sp : Nat → Nat} {L L' : List (Nat × Value)} {ws ws' : va_W} (h : ∀ v, rf_val L' ws' v = rf_val L ws v) {a : rfA} {x : Value} (ha : rf_av ad sp L ws a x) : rf_av ad sp L' ws' a x := by
  have := rf_kill_av (p := fun _ => false) (fun v _ => h v) ha
  unfold rf_kill at this
  split at this <;> simpa using this
-- inclusion
def rf_inc (r t : rfR) : Bool := decide (t.1 ≤ r.1) && decide (r.2.1 ≤ t.2.1) && (t.2.2 == 1 || ((r.1 - t.1) % (t.2.2 : Int) == 0 && (r.2.2 % t.2.2 == 0 || decide (r.1 = r.2.1))))
theorem rf_inc_in {r t : rfR} (h : rf_inc r t = true) {x : Int} (hx : rf_in r x) : rf_in t x := by
  simp only [rf_inc, Bool.and_eq_true, Bool.or_eq_true, decide_eq_true_eq, beq_iff_eq] at h
  obtain ⟨⟨h1, h2⟩, h3⟩ := h
  obtain ⟨a1, a2, q, hq⟩ := hx
  refine ⟨by omega, by omega, ?_⟩
  rcases h3 with h3 | ⟨h3, h4⟩
  · exact ⟨x - t.1, by rw [h3]; omega⟩
  · obtain ⟨u, hu⟩ := Int.dvd_of_emod_eq_zero h3
    rcases h4 with h4 | h4
    · obtain ⟨w, hw⟩ := Nat.dvd_of_mod_eq_zero h4
      refine ⟨u + w * q, ?_⟩
      have e : (r.2.2 : Int) = (t.2.2 : Int) * w := by rw [hw]; simp
      rw [e, Int.mul_assoc] at hq
      rw [Int.mul_add, ← hu]
      omega
    · exact ⟨u, by omega⟩
def rf_yinc (y z : rfY) : Bool := match z with
  | none => true
  | z => y == z
def rf_ainc (a b : rfA) : Bool := match a, b with
  | .inl (r, y), .inl (t, z) => rf_inc r t && (match z with
    | none => true
    | some q => (match y with
      | none => false
      | some u => decide (u = q)))
  | .inr (.inl js), .inr (.inl ks) => js.all (fun j => ks.any (fun k => k == j))
  | .inr (.inr n), .inr (.inr k) => n == k
  | _, _ => false
theorem rf_ainc_av {ad sp : Nat → Nat} {L : List (Nat × Value)} {ws : va_W} {a b : rfA} (h : rf_ainc a b = true) {x : Value} (ha : rf_av ad sp L ws a x) : rf_av ad sp L ws b x := by
  match a, b, h, ha with
  | .inl (r, y), .inl (t, z), h, ⟨w, h1, h2, h3⟩ =>
    simp only [rf_ainc, Bool.and_eq_true] at h
    refine ⟨w, h1, rf_inc_in h.1 h2, ?_⟩
    match z, y, h.2, h3 with
    | none, _, _, _ => trivial
    | some q, some u, hq, h3 =>
      simp only [decide_eq_true_eq] at hq
      subst hq
      exact h3
  | .inr (.inl js), .inr (.inl ks), h, ⟨j, hj, e⟩ =>
    simp only [rf_ainc, List.all_eq_true, List.any_eq_true, beq_iff_eq] at h
    obtain ⟨k, hk, rfl⟩ := h j hj
    exact ⟨k, hk, e⟩
  | .inr (.inr n), .inr (.inr k), h, ha =>
    simp only [rf_ainc, beq_iff_eq] at h
    subst h
    exact ha
/-- the range that the layout has for a slot -/
def rf_layr (Lay : List rfL) (j k : Nat) : Option rfR := match Lay[j]? with
  | some (.inl (_, fs)) => (match fs[k]? with
    | some (.inl (r, _)) => some r
    | _ => none)
  | some (.inr (_, n, .inl tb)) => if decide (k < n) then some (tb.getD (k % tb.length) rf_top) else none
  | _ => none
theorem rf_layr_in {ad sp : Nat → Nat} {tys : List (ClassId × FieldType)} {Lay : List rfL} {ws : va_W} (hw : rf_world ad sp tys Lay ws) {j k : Nat} {r : rfR} (h : rf_layr Lay j k = some r) : ∃ x : Int32, rf_fld ws j k = some (.int x) ∧ rf_in r x.toInt := by
  unfold rf_layr at h
  cases hl : Lay[j]? with
  | none => rw [hl] at h; cases h
  | some c =>
    rw [hl] at h
    obtain ⟨e, he, hc⟩ := hw.2 j c hl
    match c, h, hc with
    | .inl (ci, fs), h, ⟨vs, hv, ha⟩ =>
      subst hv
      simp only at h
      cases hf : fs[k]? with
      | none => rw [hf] at h; cases h
      | some a =>
        rw [hf] at h
        obtain ⟨v, hv, hav⟩ := rf_all_get _ _ ha k a hf
        match a, h, hav with
        | .inl (t, y), h, ⟨x, h1, h2, _⟩ =>
          cases h
          exact ⟨x, by simp [rf_fld, he, rf_cellv, hv, h1], h2⟩
    | .inr (t, n, .inl tb), h, ⟨cA, ty, f, _, hv, hf⟩ =>
      subst hv
      simp only at h
      split at h
      · next hk =>
        simp only [decide_eq_true_eq] at hk
        cases h
        exact ⟨f k, by simp [rf_fld, he, rf_cellv, hk], hf k hk⟩
      · cases h
def rf_finc (Lay : List rfL) (fs : List rfF) (q : rfF) : Bool := (match fs.find? (fun u => u.1.1 == q.1.1 && u.1.2 == q.1.2) with
  | some u => rf_inc u.2.1 q.2.1 && (match q.2.2 with
    | none => true
    | some (g, a, b) => (match u.2.2 with
      | none => false
      | some (h, c, d) => (h.1 == g.1 && h.2 == g.2) && (decide (a ≤ c) && decide (d ≤ b))))
  | none => (match q.2.2 with
    | none => (match rf_layr Lay q.1.1 q.1.2 with
      | some r => rf_inc r q.2.1
      | none => false)
    | some _ => false))
theorem rf_finc_ok {ad sp : Nat → Nat} {tys : List (ClassId × FieldType)} {Lay : List rfL} {w0 ws : va_W} (hw : rf_world ad sp tys Lay ws) {fs : List rfF} {q : rfF} (h : rf_finc Lay fs q = true) (hf : ∀ u ∈ fs, rf_fok w0 ws u) : rf_fok w0 ws q := by
  unfold rf_finc at h
  obtain ⟨⟨j, k⟩, t, rl⟩ := q
  cases hfi : fs.find? (fun u => u.1.1 == j && u.1.2 == k) with
  | some u =>
    rw [hfi] at h
    have h1 := hf u (List.mem_of_find?_eq_some hfi)
    have h2 := List.find?_some hfi
    simp only [Bool.and_eq_true, beq_iff_eq] at h2
    obtain ⟨⟨j', k'⟩, r, rl'⟩ := u
    obtain ⟨rfl, rfl⟩ := h2
    obtain ⟨x, e, hi, hr⟩ := h1
    simp only [Bool.and_eq_true] at h
    refine ⟨x, e, rf_inc_in h.1 hi, ?_⟩
    match rl, rl', h.2, hr with
    | none, _, _, _ => trivial
    | some (g, a, b), some (h', c, d), h2, hr =>
      simp only [Bool.and_eq_true, decide_eq_true_eq, beq_iff_eq] at h2
      simp only at hr ⊢
      rw [h2.1.1, h2.1.2] at hr
      omega
  | none =>
    rw [hfi] at h
    match rl, h with
    | none, h =>
      simp only at h
      cases hl : rf_layr Lay j k with
      | none => rw [hl] at h; cases h
      | some r =>
        rw [hl] at h
        obtain ⟨x, e, hi⟩ := rf_layr_in hw hl
        exact ⟨x, e, rf_inc_in h hi, trivial⟩
def rf_stinc : List rfA → List rfA → Bool
  | [], [] => true
  | a :: as, b :: bs => rf_ainc a b && rf_stinc as bs
  | _, _ => false
theorem rf_stinc_ok {ad sp : Nat → Nat} {L : List (Nat × Value)} {ws : va_W} : ∀ (as bs : List rfA) (vs : List Value), rf_stinc as bs = true → rf_all (rf_av ad sp L ws) as vs → rf_all (rf_av ad sp L ws) bs vs
  | [], [], [], _, _ => trivial
  | [], [], _ :: _, _, h => h.elim
  | _ :: _, _ :: _, [], _, h => h.elim
  | a :: as, b :: bs, v :: vs, h, h' => by
    simp only [rf_stinc, Bool.and_eq_true] at h
    exact ⟨rf_ainc_av h.1 h'.1, rf_stinc_ok as bs vs h.2 h'.2⟩
  | [], _ :: _, _, h, _ => by cases h
  | _ :: _, [], _, h, _ => by cases h
def rf_look (S : List (Nat × rfA)) (i : Nat) : Option rfA := (S.find? (fun q => q.1 == i)).map (fun q => q.2)
theorem rf_look_mem {S : List (Nat × rfA)} {i : Nat} {a : rfA} (h : rf_look S i = some a) : (i, a) ∈ S := by
  unfold rf_look at h
  cases hf : S.find? (fun q => q.1 == i) with
  | none => rw [hf] at h; cases h
  | some q =>
    rw [hf] at h
    have h1 := List.mem_of_find?_eq_some hf
    have h2 := List.find?_some hf
    simp only [beq_iff_eq] at h2
    obtain ⟨x, b⟩ := q
    simp only at h2
    subst h2
    simp only [Option.map_some, Option.some.injEq] at h
    subst h
    exact h1
def rf_le (Lay : List rfL) (S T : rfS) : Bool := T.1.all (fun q => (match rf_look S.1 q.1 with
    | some a => rf_ainc a q.2
    | none => false)) && rf_stinc S.2.1 T.2.1 && T.2.2.all (rf_finc Lay S.2.2)
theorem rf_le_ok {ad sp : Nat → Nat} {tys : List (ClassId × FieldType)} {Lay : List rfL} {w0 : va_W} {S T : rfS} {C : rfC} (h : rf_le Lay S T = true) (hw : rf_world ad sp tys Lay C.2.2) (hs : rf_ok ad sp w0 S C) : rf_ok ad sp w0 T C := by
  simp only [rf_le, Bool.and_eq_true, List.all_eq_true] at h
  obtain ⟨⟨h1, h2⟩, h3⟩ := h
  obtain ⟨s0, s1, s2, s3⟩ := hs
  refine ⟨s0, fun q hq => ?_, rf_stinc_ok _ _ _ h2 s2, fun q hq => rf_finc_ok hw (h3 q hq) s3⟩
  have := h1 q hq
  cases hl : rf_look S.1 q.1 with
  | none => rw [hl] at this; cases this
  | some a =>
    rw [hl] at this
    obtain ⟨v, hv, hav⟩ := s1 _ (rf_look_mem hl)
    exact ⟨v, hv, rf_ainc_av this hav⟩
end RfDom
