/-! STORES into locals -/
section RfStore
variable {X : rfX} {E : rfE} {cc : ByteArray} {own : String} {Ts : List Cond} {tys : List (ClassId × FieldType)} {S : rfS} {C : rfC} {pc pc' : Nat} {outs : List rfO}
/-- a filter of locals that keeps all but those at i (and, of a long's two, at i + 1) and longs -/
def rf_fil (i : Nat) (w : Nat) (f : Nat × Value → Bool) : Prop := (∀ q, f q = true → q.1 ≠ i) ∧ ∀ q, f q = false → i ≤ q.1 ∧ q.1 ≤ i + w ∨ q.2.category = 2
theorem rf_num2 {v : Value} (h : v.category = 2) : rf_num (some v) = 0 := by
  cases v <;> simp [Value.category] at h <;> rfl
theorem rf_sto_nd {L : List (Nat × Value)} {i w : Nat} {f : Nat × Value → Bool} (hf : rf_fil i w f) (h : rf_nd L) (v : Value) : rf_nd ((i, v) :: L.filter f) := by
  intro k a b ha hb
  rcases List.mem_cons.mp ha with ha | ha <;> rcases List.mem_cons.mp hb with hb | hb
  · cases ha; cases hb; rfl
  · cases ha; exact absurd rfl (hf.1 _ (List.mem_filter.mp hb).2)
  · cases hb; exact absurd rfl (hf.1 _ (List.mem_filter.mp ha).2)
  · exact h k a b (List.mem_filter.mp ha).1 (List.mem_filter.mp hb).1
theorem rf_sto_val {L : List (Nat × Value)} {ws : va_W} {i w : Nat} {f : Nat × Value → Bool} (hf : rf_fil i w f) (h : rf_nd L) (x : Value) (v : rfV) (hv : ∀ k, v = .inl k → ¬ (i ≤ k ∧ k ≤ i + w)) : rf_val ((i, x) :: L.filter f) ws v = rf_val L ws v := by
  match v with
  | .inr q => rfl
  | .inl k =>
    have hk := hv k rfl
    have hki : k ≠ i := fun e => hk (by omega)
    simp only [rf_val]
    cases hg : rf_get L k with
    | none =>
      rw [rf_get_none]
      intro a ha
      rcases List.mem_cons.mp ha with ha | ha
      · cases ha; exact hki rfl
      · rw [rf_get_of h (List.mem_filter.mp ha).1] at hg; cases hg
    | some a =>
      have hm := rf_get_mem hg
      by_cases hc : f (k, a) = true
      · rw [rf_get_of (rf_sto_nd hf h x) (List.mem_cons_of_mem _ (List.mem_filter.mpr ⟨hm, hc⟩))]
      · have h2 := hf.2 (k, a) (by simpa using hc)
        rcases h2 with h2 | h2
        · exact absurd h2 hk
        · rw [rf_get_none, rf_num2 h2]
          · rfl
          · intro b hb
            rcases List.mem_cons.mp hb with hb | hb
            · cases hb; exact hki rfl
            · have e := h k a b hm (List.mem_filter.mp hb).1
              subst e
              exact hc (List.mem_filter.mp hb).2
/-- the abstract side: what stays -/
def rf_keepl (i w : Nat) (S : List (Nat × rfA)) : List (Nat × rfA) := S.filter (fun q => !(decide (i ≤ q.1) && decide (q.1 ≤ i + w)) && rf_cat1 q.2 || (!(decide (i ≤ q.1) && decide (q.1 ≤ i + w)) && !(q.1 + 1 == i)))
def rf_kl (i w : Nat) (v : rfV) : Bool := match v with
  | .inl k => decide (i ≤ k) && decide (k ≤ i + w)
  | .inr _ => false
theorem rf_kl_no {i w : Nat} {v : rfV} (h : rf_kl i w v = false) : ∀ k, v = .inl k → ¬ (i ≤ k ∧ k ≤ i + w) := by
  intro k e hh
  subst e
  simp [rf_kl] at h
  omega
def rf_fil1 (i : Nat) (q : Nat × Value) : Bool := !(q.1 == i) && !(q.1 + 1 == i && q.2.category == 2)
def rf_fil2 (i : Nat) (q : Nat × Value) : Bool := !(q.1 == i) && (!(q.1 == i + 1) && !(q.1 + 1 == i && q.2.category == 2))
theorem rf_fil1_ok (i : Nat) : rf_fil i 0 (rf_fil1 i) := by
  refine ⟨fun q h e => ?_, fun q h => ?_⟩
  · simp [rf_fil1, e] at h
  · simp only [rf_fil1] at h
    by_cases e : q.1 = i
    · exact Or.inl ⟨by omega, by omega⟩
    · simp [e] at h; exact Or.inr h.2
theorem rf_fil2_ok (i : Nat) : rf_fil i 1 (rf_fil2 i) := by
  refine ⟨fun q h e => ?_, fun q h => ?_⟩
  · simp [rf_fil2, e] at h
  · simp only [rf_fil2] at h
    by_cases e : q.1 = i
    · exact Or.inl ⟨by omega, by omega⟩
    · by_cases e2 : q.1 = i + 1
      · exact Or.inl ⟨by omega, by omega⟩
      · simp [e, e2] at h; exact Or.inr h.2
theorem rf_keepl_mem {i w : Nat} {T : List (Nat × rfA)} {q : Nat × rfA} (h : q ∈ rf_keepl i w T) : q ∈ T ∧ ¬ (i ≤ q.1 ∧ q.1 ≤ i + w) ∧ (q.1 + 1 = i → rf_cat1 q.2 = true) := by
  unfold rf_keepl at h
  obtain ⟨h1, h2⟩ := List.mem_filter.mp h
  simp only [Bool.or_eq_true, Bool.and_eq_true, Bool.not_eq_true', Bool.and_eq_false_iff, decide_eq_false_iff_not, beq_eq_false_iff_ne] at h2
  refine ⟨h1, ?_, ?_⟩
  · rcases h2 with h2 | h2 <;> omega
  · intro e
    rcases h2 with h2 | h2
    · exact h2.2
    · exact absurd e h2.2
/-- the state behind a store of the value v, abstractly a, at i (w: 0, of a long 1) -/
def rf_sto (i w : Nat) (a : rfA) (st : List rfA) (S : rfS) : rfS := ((i, rf_kill (rf_kl i w) a) :: (rf_keepl i w S.1).map (fun q => (q.1, rf_kill (rf_kl i w) q.2)), st.map (rf_kill (rf_kl i w)), S.2.2)
theorem rf_sto_st {i w : Nat} {f : Nat × Value → Bool} (hf : rf_fil i w f) (hf2 : ∀ q : Nat × Value, ¬ (i ≤ q.1 ∧ q.1 ≤ i + w) → (q.1 + 1 = i → q.2.category = 1) → f q = true) {a : rfA} {v : Value} {st : List rfA} {sc : List Value} (hs : rf_st E S C) (ha : rf_av E.1 E.2.1 C.1 C.2.2 a v) (hst : rf_all (rf_av E.1 E.2.1 C.1 C.2.2) st sc) : rf_st E (rf_sto i w a st S) ((i, v) :: C.1.filter f, sc, C.2.2) := by
  have hv : ∀ u, rf_kl i w u = false → rf_val ((i, v) :: C.1.filter f) C.2.2 u = rf_val C.1 C.2.2 u := fun u hu => rf_sto_val hf hs.1.1 v u (rf_kl_no hu)
  refine ⟨⟨rf_sto_nd hf hs.1.1 v, fun q hq => ?_, rf_all_map (fun a b h => rf_kill_av hv h) _ _ hst, hs.1.2.2.2⟩, hs.2⟩
  rcases List.mem_cons.mp hq with hq | hq
  · subst hq
    exact ⟨v, List.mem_cons_self, rf_kill_av hv ha⟩
  · obtain ⟨q0, hq0, rfl⟩ := List.mem_map.mp hq
    obtain ⟨h1, h2, h3⟩ := rf_keepl_mem hq0
    obtain ⟨u, hu, hau⟩ := hs.1.2.1 q0 h1
    exact ⟨u, List.mem_cons_of_mem _ (List.mem_filter.mpr ⟨hu, hf2 _ h2 (fun e => rf_cat1_av (h3 e) hau)⟩), rf_kill_av hv hau⟩
theorem rf_fil1_in (i : Nat) (q : Nat × Value) (h : ¬ (i ≤ q.1 ∧ q.1 ≤ i + 0)) (h2 : q.1 + 1 = i → q.2.category = 1) : rf_fil1 i q = true := by
  have e : q.1 ≠ i := by omega
  simp only [rf_fil1, beq_eq_false_iff_ne.mpr e, Bool.not_false, Bool.true_and, Bool.not_eq_true', Bool.and_eq_false_iff, beq_eq_false_iff_ne]
  by_cases e2 : q.1 + 1 = i
  · right; rw [h2 e2]; decide
  · exact Or.inl e2
theorem rf_fil2_in (i : Nat) (q : Nat × Value) (h : ¬ (i ≤ q.1 ∧ q.1 ≤ i + 1)) (h2 : q.1 + 1 = i → q.2.category = 1) : rf_fil2 i q = true := by
  have e : q.1 ≠ i := by omega
  have e1 : q.1 ≠ i + 1 := by omega
  simp only [rf_fil2, beq_eq_false_iff_ne.mpr e, beq_eq_false_iff_ne.mpr e1, Bool.not_false, Bool.true_and, Bool.not_eq_true', Bool.and_eq_false_iff, beq_eq_false_iff_ne]
  by_cases e2 : q.1 + 1 = i
  · right; rw [h2 e2]; decide
  · exact Or.inl e2
def rf_rel (i : Nat) (y : rfY) : Option (Int × Int) := match y with
  | some (.inl k, some n) => if k == i then some (n, n) else none
  | some (.inl k, none) => if k == i then some (-4294967296, -1) else none
  | _ => none
def rf_istore (nL pc' i : Nat) (S : rfS) : Option (List rfO) := match S.2.1 with
  | .inl (r, y) :: st => if decide (i < nL) then some [(pc', rf_sto i 0 (.inl (r, y)) st S, rf_d1 (.inl i) (rf_rel i y))] else none
  | _ => none
theorem rf_val_head {L : List (Nat × Value)} {ws : va_W} {i : Nat} {x : Int32} : rf_val ((i, .int x) :: L) ws (.inl i) = x.toInt := by
  simp [rf_val, rf_get, rf_num]
theorem rf_val_32 (L : List (Nat × Value)) (ws : va_W) (v : rfV) : rf_val L ws v ≤ 2147483647 := by
  have h : ∀ o : Option Value, rf_num o ≤ 2147483647 := by
    intro o
    unfold rf_num
    split
    · exact rf_lt32 _
    · decide
  match v with
  | .inl i => exact h _
  | .inr q => exact h _
theorem rs_istoreG {i : Nat} (h : rf_istore (xn X) pc' i S = some outs) (hs : rf_st E S C) (k : ∀ (x : Int32) (st : List Value), i < xn X → C.2.1 = .int x :: st → rfW X pc' ((i, .int x) :: C.1.filter (rf_fil1 i), st, C.2.2) → rfW X pc C) : rf_go X E outs pc C := by
  unfold rf_istore at h
  obtain ⟨L, sc, ws⟩ := C
  obtain ⟨SL, sst, sf⟩ := S
  have h2 := hs.1.2.2.1
  match sst, sc, h, h2 with
  | .inl (r, y) :: st, v :: sc, h, ⟨h3, h4⟩ =>
    simp only at h
    split at h
    · next hn =>
      simp only [decide_eq_true_eq] at hn
      cases h
      have h3' := h3
      obtain ⟨x, rfl, hr, hy⟩ := h3
      intro K
      refine k x sc hn rfl (K _ List.mem_cons_self _ (rf_sto_st (rf_fil1_ok i) (rf_fil1_in i) hs h3' h4) ?_)
      intro u
      by_cases hu : u = .inl i
      · subst hu
        simp only [rf_d1, decide_true, if_true]
        rw [rf_val_head]
        match y, hy with
        | none, _ => trivial
        | some (.inr q, none), _ => trivial
        | some (.inr q, some n), _ => trivial
        | some (.inl kk, some n), hy =>
          by_cases e : kk = i
          · subst e
            simp only [rf_rel, beq_self_eq_true, if_true]
            simp only [rf_sy] at hy
            omega
          · simp [rf_rel, e]
        | some (.inl kk, none), hy =>
          by_cases e : kk = i
          · subst e
            simp only [rf_rel, beq_self_eq_true, if_true]
            simp only [rf_sy] at hy
            have := rf_val_32 L ws (.inl kk)
            omega
          · simp [rf_rel, e]
      · simp only [rf_d1, decide_eq_false hu]
        exact rf_sto_val (rf_fil1_ok i) hs.1.1 _ u (fun k e => by subst e; intro hh; exact hu (by congr 1; omega))
    · cases h
theorem rs_istore (F : rfFx X cc own Ts tys) {n : Nat} (hd : decode cc pc = .ok (.istore n, 2)) (h : rf_istore (xn X) (pc + 2) n S = some outs) (hs : rf_st E S C) : rf_go X E outs pc C :=
  rs_istoreG h hs fun x st hn e k ls H locs hl hP hD hS => by
    rw [e]
    exact lv_istore F.1 F.2.1 hd hl hn rfl (fun ls' hl' => k ls' H locs hl' hP hD hS)
theorem rs_istore_n (F : rfFx X cc own Ts tys) {n : Fin 4} (hd : decode cc pc = .ok (.istore_n n, 1)) (h : rf_istore (xn X) (pc + 1) n S = some outs) (hs : rf_st E S C) : rf_go X E outs pc C :=
  rs_istoreG h hs fun x st hn e k ls H locs hl hP hD hS => by
    rw [e]
    exact lv_istore_n F.1 F.2.1 hd rfl hl hn rfl (fun ls' hl' => k ls' H locs hl' hP hD hS)
def rf_dw (i w : Nat) : rfD := fun u => if rf_kl i w u then some none else none
theorem rf_dw_dl {i w : Nat} {f : Nat × Value → Bool} (hf : rf_fil i w f) {L : List (Nat × Value)} (hL : rf_nd L) (v : Value) {ws : va_W} {sc sc' : List Value} : rf_dl (rf_dw i w) (L, sc, ws) ((i, v) :: L.filter f, sc', ws) := by
  intro u
  simp only [rf_dw]
  by_cases hu : rf_kl i w u = true
  · simp [hu]
  · simp only [hu]
    exact rf_sto_val hf hL v u (rf_kl_no (by simpa using hu))
def rf_astore (nL pc' i : Nat) (S : rfS) : Option (List rfO) := match S.2.1 with
  | .inr (.inl js) :: st => if decide (i < nL) then some [(pc', rf_sto i 0 (.inr (.inl js)) st S, rf_dw i 0)] else none
  | _ => none
theorem rs_astoreG {i : Nat} (h : rf_astore (xn X) pc' i S = some outs) (hs : rf_st E S C) (k : ∀ (x : Nat) (st : List Value), i < xn X → C.2.1 = .ref x :: st → rfW X pc' ((i, .ref x) :: C.1.filter (rf_fil1 i), st, C.2.2) → rfW X pc C) : rf_go X E outs pc C := by
  unfold rf_astore at h
  obtain ⟨L, sc, ws⟩ := C
  obtain ⟨SL, sst, sf⟩ := S
  have h2 := hs.1.2.2.1
  match sst, sc, h, h2 with
  | .inr (.inl js) :: st, v :: sc, h, ⟨h3, h4⟩ =>
    simp only at h
    split at h
    · next hn =>
      simp only [decide_eq_true_eq] at hn
      cases h
      have h3' := h3
      obtain ⟨j, hj, rfl⟩ := h3
      intro K
      exact k _ sc hn rfl (K _ List.mem_cons_self _ (rf_sto_st (rf_fil1_ok i) (rf_fil1_in i) hs h3' h4) (rf_dw_dl (rf_fil1_ok i) hs.1.1 _))
    · cases h
theorem rs_astore (F : rfFx X cc own Ts tys) {n : Nat} (hd : decode cc pc = .ok (.astore n, 2)) (h : rf_astore (xn X) (pc + 2) n S = some outs) (hs : rf_st E S C) : rf_go X E outs pc C :=
  rs_astoreG h hs fun x st hn e k ls H locs hl hP hD hS => by
    rw [e]
    exact lv_astore F.1 F.2.1 hd hl hn rfl (fun ls' hl' => k ls' H locs hl' hP hD hS)
theorem rs_astore_n (F : rfFx X cc own Ts tys) {n : Fin 4} (hd : decode cc pc = .ok (.astore_n n, 1)) (h : rf_astore (xn X) (pc + 1) n S = some outs) (hs : rf_st E S C) : rf_go X E outs pc C :=
  rs_astoreG h hs fun x st hn e k ls H locs hl hP hD hS => by
    rw [e]
    exact lv_astore_n F.1 F.2.1 hd rfl hl hn rfl (fun ls' hl' => k ls' H locs hl' hP hD hS)
def rf_lstore (nL pc' i : Nat) (S : rfS) : Option (List rfO) := match S.2.1 with
  | .inr (.inr 0) :: st => if decide (i + 1 < nL) then some [(pc', rf_sto i 1 (.inr (.inr 0)) st S, rf_dw i 1)] else none
  | _ => none
theorem rs_lstore_n (F : rfFx X cc own Ts tys) {i : Fin 4} (hd : decode cc pc = .ok (.lstore_n i, 1)) (h : rf_lstore (xn X) (pc + 1) i S = some outs) (hs : rf_st E S C) : rf_go X E outs pc C := by
  unfold rf_lstore at h
  obtain ⟨L, sc, ws⟩ := C
  obtain ⟨SL, sst, sf⟩ := S
  have h2 := hs.1.2.2.1
  match sst, sc, h, h2 with
  | .inr (.inr 0) :: st, v :: sc, h, ⟨h3, h4⟩ =>
    simp only at h
    split at h
    · next hn =>
      simp only [decide_eq_true_eq] at hn
      cases h
      have h3' := h3
      obtain ⟨x, rfl⟩ := h3
      intro K
      have k := K _ List.mem_cons_self _ (rf_sto_st (rf_fil2_ok i) (rf_fil2_in i) hs h3' h4) (rf_dw_dl (rf_fil2_ok i) hs.1.1 _)
      intro ls H locs hl hP hD hS
      exact lv_lstore_n F.1 F.2.1 hd rfl hl hn rfl (fun ls' hl' => k ls' H locs hl' hP hD hS)
    · cases h
def rf_iinc (nL pc' i : Nat) (n : Int) (S : rfS) : Option (List rfO) := match rf_look S.1 i with
  | some (.inl (r, _)) => if decide (i < nL) && decide (-32768 ≤ n) && decide (n ≤ 32767) then some [(pc', rf_sto i 0 (.inl (rf_add r (rf_one n), none)) S.2.1 S, rf_d1 (.inl i) (if rf_fit (r.1 + n) (r.2.1 + n) then some (n, n) else none))] else none
  | _ => none
theorem rs_iinc (F : rfFx X cc own Ts tys) {i : Nat} {n : Int} (hd : decode cc pc = .ok (.iinc i n, 3)) (h : rf_iinc (xn X) (pc + 3) i n S = some outs) (hs : rf_st E S C) : rf_go X E outs pc C := by
  unfold rf_iinc at h
  split at h
  · next r y hl =>
    split at h
    · next hn =>
      simp only [Bool.and_eq_true, decide_eq_true_eq] at hn
      cases h
      obtain ⟨v, hm, x, rfl, hr, hy⟩ := hs.1.2.1 _ (rf_look_mem hl)
      have en : (Int32.ofInt n).toInt = n := rf_tn n (by omega) (by omega)
      have hone : rf_in (rf_one n) (Int32.ofInt n).toInt := by rw [en]; exact rf_one_in n
      intro K
      have k := K _ List.mem_cons_self _ (rf_sto_st (v := .int (x + Int32.ofInt n)) (rf_fil1_ok i) (rf_fil1_in i) hs ⟨x + Int32.ofInt n, rfl, rf_add_in hr hone, trivial⟩ hs.1.2.2.1) ?_
      · intro ls H locs hl hP hD hS
        obtain ⟨kk, hk⟩ := List.getElem?_of_mem hm
        exact lv_iinc F.1 F.2.1 hd hl hk rfl hn.1.1 rfl (fun ls' hl' => k ls' H locs hl' hP hD hS)
      · intro u
        by_cases hu : u = .inl i
        · subst hu
          simp only [rf_d1, decide_true, if_true]
          rw [rf_val_head]
          split
          · trivial
          · trivial
          · next a b hab =>
            simp only [Option.some.injEq] at hab
            split at hab
            · next hf =>
              cases hab
              have e := rf_add_val hr hone hf
              have e2 : rf_val C.1 C.2.2 (.inl i) = x.toInt := by simp [rf_val, rf_get_of hs.1.1 hm, rf_num]
              omega
            · cases hab
        · simp only [rf_d1, decide_eq_false hu]
          exact rf_sto_val (rf_fil1_ok i) hs.1.1 _ u (fun k e => by subst e; intro hh; exact hu (by congr 1; omega))
    · cases h
  · cases h
end RfStore
