/-! CELLS: what a write changes, fields -/
section RfHeap
variable {X : rfX} {E : rfE} {cc : ByteArray} {own : String} {Ts : List Cond} {S : rfS} {C : rfC} {pc pc' : Nat} {outs : List rfO}
theorem rf_raw_set {ws : va_W} {j a : Nat} {e e0 : va_E} (h : ws[j]? = some (a, e0)) (j' k : Nat) : rf_raw (ws.set j (a, e)) j' k = if j' = j then rf_cellv e k else rf_raw ws j' k := by
  unfold rf_raw
  have hl : j < ws.length := by
    rcases Nat.lt_or_ge j ws.length with q | q
    · exact q
    · rw [List.getElem?_eq_none q] at h; cases h
  by_cases hj : j' = j
  · subst hj
    simp [hl]
  · rw [List.getElem?_set_ne (fun e => hj e.symm), if_neg hj]
theorem rf_fld_set {ws : va_W} {j a : Nat} {e e0 : va_E} (h : ws[j]? = some (a, e0)) (j' k : Nat) (hg : j' = 998 → ¬ j' = j → rf_gh (ws.set j (a, e)) k = rf_gh ws k) : rf_fld (ws.set j (a, e)) j' k = if j' = j then rf_cellv e k else rf_fld ws j' k := by
  unfold rf_fld
  have hl : j < ws.length := by
    rcases Nat.lt_or_ge j ws.length with q | q
    · exact q
    · rw [List.getElem?_eq_none q] at h; cases h
  by_cases hj : j' = j
  · subst hj
    simp [hl]
  · rw [List.getElem?_set_ne (fun e => hj e.symm), if_neg hj]
    cases hw : ws[j']? with
    | some q => rfl
    | none =>
      by_cases h9 : j' = 998
      · simp only [h9, beq_self_eq_true, if_true]; exact hg h9 hj
      · have : (j' == 998) = false := by simpa using h9
        simp only [this]
        rfl
/-- a cell is written: P are the slots that may have changed -/
theorem rf_wset {ad sp : Nat → Nat} {tys : List (ClassId × FieldType)} {Lay : List rfL} {ms : List (Nat × Nat)} {w0 ws : va_W} {j : Nat} {e e' : va_E} {k0 : rfL} (P : Nat → Bool) (hw : rf_world ad sp tys Lay ws) (hm : rf_same ms w0 ws) (hl : Lay[j]? = some k0) (he : ws[j]? = some (ad j, e)) (hc : rf_cell ad sp tys k0 e') (hP : ∀ k, P k = false → rf_cellv e' k = rf_cellv e k) (hms : ∀ k, P k = true → rf_mod ms j k = true) (hgm : ∀ u ∈ rf_gsup, u.2.1 = j → ∀ i, (u.2.2 = 0 ∨ u.2.2 = i + 1) → P i = true → rf_mod ms 998 u.1 = true) :
    rf_world ad sp tys Lay (ws.set j (ad j, e')) ∧ rf_same ms w0 (ws.set j (ad j, e')) ∧ (∀ j' k, ¬ (j' = j ∧ P k = true) → (j' = 998 → ∀ u ∈ rf_gsup, u.1 = k → u.2.1 = j → ∀ i, (u.2.2 = 0 ∨ u.2.2 = i + 1) → P i = false) → rf_fld (ws.set j (ad j, e')) j' k = rf_fld ws j' k) := by
  have h3 : ∀ j' k, ¬ (j' = j ∧ P k = true) → (j' = 998 → ∀ u ∈ rf_gsup, u.1 = k → u.2.1 = j → ∀ i, (u.2.2 = 0 ∨ u.2.2 = i + 1) → P i = false) → rf_fld (ws.set j (ad j, e')) j' k = rf_fld ws j' k := by
    intro j' k hn hgn
    rw [rf_fld_set he j' k (fun h9 _ => rf_gh_cong (fun u hu hk i hi => by
      rw [rf_raw_set he]
      split
      · next hj =>
        rw [hP i (hgn h9 u hu hk hj i hi)]
        simp [rf_raw, hj, he]
      · rfl))]
    split
    · next hj =>
      subst hj
      rw [hP k (by cases hq : P k with
        | false => rfl
        | true => exact absurd ⟨rfl, hq⟩ hn)]
      simp [rf_fld, he]
    · rfl
  refine ⟨⟨by rw [List.length_set]; exact hw.1, fun j' k' hk => ?_⟩, fun j' k hk => ?_, h3⟩
  · obtain ⟨e1, h1, h2⟩ := hw.2 j' k' hk
    by_cases hj : j' = j
    · subst hj
      cases hl.symm.trans hk
      have hlt : j' < ws.length := by
        rcases Nat.lt_or_ge j' ws.length with q | q
        · exact q
        · rw [List.getElem?_eq_none q] at h1; cases h1
      exact ⟨e', by simp [hlt], hc⟩
    · exact ⟨e1, by rw [List.getElem?_set_ne (fun e => hj e.symm)]; exact h1, h2⟩
  · rw [h3 j' k (fun q => by rw [q.1, hms k q.2] at hk; cases hk) (fun h9 u hu hk1 hj i hi => by
      cases hq : P i with
      | false => rfl
      | true =>
        have := hgm u hu hj i hi hq
        rw [← h9, hk1, hk] at this
        cases this)]
    exact hm j' k hk
def rf_drop (p : rfV → Bool) (st : List rfA) (S : rfS) : rfS := (S.1.map (fun q => (q.1, rf_kill p q.2)), st.map (rf_kill p), S.2.2.filter (fun u => !(p (.inr u.1))))
theorem rf_drop_ok {ad sp : Nat → Nat} {w0 ws' : va_W} {S : rfS} {C : rfC} {p : rfV → Bool} {st : List rfA} {sc : List Value} (hs : rf_ok ad sp w0 S C) (hst : rf_all (rf_av ad sp C.1 C.2.2) st sc) (hi : ∀ i, p (.inl i) = false) (hf : ∀ q, p (.inr q) = false → rf_fld ws' q.1 q.2 = rf_fld C.2.2 q.1 q.2) : rf_ok ad sp w0 (rf_drop p st S) (C.1, sc, ws') := by
  have hv : ∀ v, p v = false → rf_val C.1 ws' v = rf_val C.1 C.2.2 v := by
    intro v hp
    match v with
    | .inl i => rfl
    | .inr q => simp only [rf_val]; rw [hf q hp]
  obtain ⟨s0, s1, s2, s3⟩ := hs
  refine ⟨s0, fun q hq => ?_, rf_all_map (fun a b h => rf_kill_av hv h) _ _ hst, fun u hu => ?_⟩
  · obtain ⟨q0, hq0, rfl⟩ := List.mem_map.mp hq
    obtain ⟨v, h1, h2⟩ := s1 q0 hq0
    exact ⟨v, h1, rf_kill_av hv h2⟩
  · obtain ⟨h1, h2⟩ := List.mem_filter.mp hu
    obtain ⟨x, e, hx⟩ := s3 u h1
    exact ⟨x, by rw [hf u.1 (by simpa using h2)]; exact e, hx⟩
theorem rf_addf_ok {ad sp : Nat → Nat} {w0 : va_W} {S : rfS} {C : rfC} {q : rfF} (hs : rf_ok ad sp w0 S C) (hq : rf_fok w0 C.2.2 q) : rf_ok ad sp w0 (S.1, S.2.1, q :: S.2.2) C :=
  ⟨hs.1, hs.2.1, hs.2.2.1, fun u hu => (List.mem_cons.mp hu).elim (fun e => by rw [e]; exact hq) (hs.2.2.2 u)⟩
-- joins
def rf_hull (r t : rfR) : rfR := if decide (r = t) then r else (if decide (r.1 ≤ t.1) then r.1 else t.1, if decide (r.2.1 ≤ t.2.1) then t.2.1 else r.2.1, 1)
theorem rf_hull_l {r t : rfR} {x : Int} (h : rf_in r x) : rf_in (rf_hull r t) x := by
  unfold rf_hull
  have := h.1
  have := h.2.1
  split
  · exact h
  · refine rf_in1 ?_ ?_ <;> split <;> rename_i q <;> simp only [decide_eq_true_eq] at q <;> omega
theorem rf_hull_r {r t : rfR} {x : Int} (h : rf_in t x) : rf_in (rf_hull r t) x := by
  unfold rf_hull
  have := h.1
  have := h.2.1
  split
  · next e => simp only [decide_eq_true_eq] at e; rw [e]; exact h
  · refine rf_in1 ?_ ?_ <;> split <;> rename_i q <;> simp only [decide_eq_true_eq] at q <;> omega
def rf_join (a b : rfA) : Option rfA := match a, b with
  | .inl (r, _), .inl (t, _) => some (.inl (rf_hull r t, none))
  | .inr (.inl js), .inr (.inl ks) => some (.inr (.inl (js ++ ks)))
  | .inr (.inr 0), .inr (.inr 0) => some (.inr (.inr 0))
  | _, _ => none
theorem rf_join_av {ad sp : Nat → Nat} {L : List (Nat × Value)} {ws : va_W} {a b d : rfA} (h : rf_join a b = some d) {v : Value} (hv : rf_av ad sp L ws a v ∨ rf_av ad sp L ws b v) : rf_av ad sp L ws d v := by
  match a, b, h, hv with
  | .inl (r, _), .inl (t, _), h, hv =>
    cases h
    rcases hv with ⟨x, h1, h2, _⟩ | ⟨x, h1, h2, _⟩
    · exact ⟨x, h1, rf_hull_l h2, trivial⟩
    · exact ⟨x, h1, rf_hull_r h2, trivial⟩
  | .inr (.inl js), .inr (.inl ks), h, hv =>
    cases h
    rcases hv with ⟨j, h1, h2⟩ | ⟨j, h1, h2⟩
    · exact ⟨j, List.mem_append_left _ h1, h2⟩
    · exact ⟨j, List.mem_append_right _ h1, h2⟩
  | .inr (.inr 0), .inr (.inr 0), h, hv =>
    cases h
    exact hv.elim id id
def rf_jall (g : Nat → Option rfA) : List Nat → Option rfA
  | [] => none
  | [j] => g j
  | j :: js => (match g j, rf_jall g js with
    | some a, some b => rf_join a b
    | _, _ => none)
theorem rf_jall_av {ad sp : Nat → Nat} {L : List (Nat × Value)} {ws : va_W} {g : Nat → Option rfA} : ∀ (js : List Nat) (a : rfA), rf_jall g js = some a → ∀ j ∈ js, ∃ b, g j = some b ∧ ∀ v, rf_av ad sp L ws b v → rf_av ad sp L ws a v
  | [], a, h => by cases h
  | [i], a, h => fun j hj => by
    rw [List.mem_singleton.mp hj]
    exact ⟨a, h, fun v hv => hv⟩
  | i :: i2 :: js, a, h => fun j hj => by
    simp only [rf_jall] at h
    split at h
    · next x y h1 h2 =>
      rcases List.mem_cons.mp hj with e | hj
      · subst e
        exact ⟨x, h1, fun v hv => rf_join_av h (Or.inl hv)⟩
      · obtain ⟨b, hb, hb2⟩ := rf_jall_av (i2 :: js) y h2 j hj
        exact ⟨b, hb, fun v hv => rf_join_av h (Or.inr (hb2 v hv))⟩
    · cases h
-- fields
/-- (entry, class, slot, 0: read alone, 1: an int that may be written, 2: a long) -/
abbrev rfFl : Type := List (Nat × Nat × Nat × Nat)
def rf_flok (own : String) (Ts : List Cond) (cl : List vw_C) (fl : rfFl) : Prop := ∀ q ∈ fl, ∃ (Cn : String) (T : u_T) (N : Nat) (ty0 : Nat → FieldType), cl[q.2.1]? = some (Cn, T, N) ∧ q.2.2.1 < N ∧ (∀ w ∈ u_ws Cn T N, w ∈ Ts) ∧
  (Cond.fieldLink own q.1 (T q.2.2.1).1 (T q.2.2.1).2.1 (T q.2.2.1).2.2.1 ∈ Ts ∨ ∃ host, Cond.fieldLinkNest own q.1 (T q.2.2.1).1 (T q.2.2.1).2.1 (T q.2.2.1).2.2.1 host ∈ Ts) ∧
  (∀ k, k < N → parseFieldDescriptor (T k).2.2.1 = some (ty0 k)) ∧ (∀ a, a < N → ∀ b, b < N → a ≠ b → (T a).2.1 ≠ (T b).2.1) ∧
  (q.2.2.2 = 1 → (T q.2.2.1).2.2.2 = false ∧ parseFieldDescriptor (T q.2.2.1).2.2.1 = some .int) ∧ (q.2.2.2 = 2 → (T q.2.2.1).2.2.2 = false ∧ parseFieldDescriptor (T q.2.2.1).2.2.1 = some .long)
def rf_flget (fl : rfFl) (i : Nat) : Option (Nat × Nat × Nat) := (fl.find? (fun q => q.1 == i)).map (fun q => q.2)
theorem rf_flget_mem {fl : rfFl} {i : Nat} {q : Nat × Nat × Nat} (h : rf_flget fl i = some q) : (i, q) ∈ fl := by
  unfold rf_flget at h
  cases hf : fl.find? (fun q => q.1 == i) with
  | none => rw [hf] at h; cases h
  | some u =>
    rw [hf] at h
    have h1 := List.mem_of_find?_eq_some hf
    have h2 := List.find?_some hf
    simp only [beq_iff_eq] at h2
    obtain ⟨x, b⟩ := u
    simp only at h2
    subst h2
    simp only [Option.map_some, Option.some.injEq] at h
    subst h
    exact h1
def rf_gone (Lay : List rfL) (ci k j : Nat) : Option rfA := match Lay[j]? with
  | some (.inl (c', fs)) => if c' == ci then fs[k]? else none
  | _ => none
theorem rf_gone_at {ad sp : Nat → Nat} {tys : List (ClassId × FieldType)} {Lay : List rfL} {ws : va_W} (hw : rf_world ad sp tys Lay ws) {ci k j : Nat} {b : rfA} (h : rf_gone Lay ci k j = some b) : ∃ (fs : List rfA) (vs : List Value) (v : Value), Lay[j]? = some (.inl (ci, fs)) ∧ fs[k]? = some b ∧ ws[j]? = some (ad j, .inr (ci, vs)) ∧ rf_all (rf_av ad sp [] []) fs vs ∧ vs[k]? = some v ∧ rf_av ad sp [] [] b v := by
  unfold rf_gone at h
  split at h
  · next c' fs hl =>
    split at h
    · next hc =>
      simp only [beq_iff_eq] at hc
      subst hc
      obtain ⟨e, he, vs, rfl, ha⟩ := hw.2 j _ hl
      obtain ⟨v, hv, hav⟩ := rf_all_get _ _ ha k b h
      exact ⟨fs, vs, v, hl, h, he, ha, hv, hav⟩
    · cases h
  · cases h
/-- what is known of slot k of the one cell of js; of several: r -/
def rf_trk (Lay : List rfL) (fs : List rfF) (js : List Nat) (k : Nat) (r : rfR) : rfR × rfY := match js with
  | [j] => (match rf_fget Lay fs j k with
    | some q => (q.1, some (.inr (j, k), some 0))
    | none => (r, none))
  | _ => (r, none)
theorem rf_trk_av {ad sp : Nat → Nat} {tys : List (ClassId × FieldType)} {Lay : List rfL} {w0 ws : va_W} (hw : rf_world ad sp tys Lay ws) {fs : List rfF} (hf : ∀ u ∈ fs, rf_fok w0 ws u) {js : List Nat} {j k : Nat} {r : rfR} {x : Int32} {L : List (Nat × Value)} (hj : j ∈ js) (he : rf_fld ws j k = some (.int x)) (hr : rf_in r x.toInt) : rf_av ad sp L ws (.inl (rf_trk Lay fs js k r)) (.int x) := by
  unfold rf_trk
  split
  · next j' =>
    cases List.mem_singleton.mp hj
    split
    · next q hq =>
      obtain ⟨z, e1, e2, -⟩ := rf_fget_ok hw hf hq
      cases he.symm.trans e1
      exact ⟨x, rfl, e2, by simp [rf_sy, rf_val, he, rf_num]⟩
    · exact ⟨x, rfl, hr, trivial⟩
  · exact ⟨x, rfl, hr, trivial⟩
def rf_getf (Lay : List rfL) (fl : rfFl) (pc' i : Nat) (S : rfS) : Option (List rfO) := match S.2.1 with
  | .inr (.inl js) :: st => (match rf_flget fl i with
    | some (ci, k, _) => (match rf_jall (rf_gone Lay ci k) js with
      | some (.inl (r, _)) => some [(pc', (S.1, .inl (rf_trk Lay S.2.2 js k r) :: st, S.2.2), rf_d0)]
      | some a => some [(pc', (S.1, rf_bare a :: st, S.2.2), rf_d0)]
      | none => none)
    | none => none)
  | _ => none
theorem rs_getf (F : rfFx X cc own Ts E.2.2.1) {fl : rfFl} (hfl : rf_flok own Ts (xk X) fl) {i : Nat} (hd : decode cc pc = .ok (.getfield i, 3)) (h : rf_getf E.2.2.2.1 fl (pc + 3) i S = some outs) (hs : rf_st E S C) : rf_go X E outs pc C := by
  unfold rf_getf at h
  obtain ⟨L, sc, ws⟩ := C
  obtain ⟨SL, sst, sf⟩ := S
  have h2 := hs.1.2.2.1
  match sst, sc, h, h2 with
  | .inr (.inl js) :: st, v :: sc, h, ⟨⟨j, hj, ej⟩, h5⟩ =>
    subst ej
    simp only at h
    cases hg : rf_flget fl i with
    | none => rw [hg] at h; cases h
    | some q =>
      obtain ⟨ci, k, wr⟩ := q
      rw [hg] at h
      simp only at h
      cases ha : rf_jall (rf_gone E.2.2.2.1 ci k) js with
      | none => rw [ha] at h; cases h
      | some a =>
        rw [ha] at h
        obtain ⟨b, hb, hab⟩ := rf_jall_av (ad := E.1) (sp := E.2.1) (L := ([] : List (Nat × Value))) (ws := ([] : va_W)) js a ha j hj
        obtain ⟨fs, vs, w, q1, q2, q3, q4, q5, q6⟩ := rf_gone_at hs.2.1 hb
        have hw := hab w q6
        obtain ⟨Cn, T, N, ty0, p1, p2, p3, p4, -⟩ := hfl _ (rf_flget_mem hg)
        have kk : rfW X (pc + 3) (L, w :: sc, ws) → rfW X pc (L, .ref (E.1 j) :: sc, ws) := by
          intro K ls H locs hl hP hD hS
          rcases p4 with p4 | ⟨host, p4⟩
          · exact va_get F.1 F.2.1 F.2.2.2.2.1 p3 F.2.2.2.1 F.2.2.2.2.2 hP j q3 p1 k p2 (F.2.2.2.2.1 _ p4) (fun _ h => h) q5 hd (K ls H locs hl hP hD hS)
          · exact va_getN F.1 F.2.1 F.2.2.2.2.1 p3 F.2.2.2.1 F.2.2.2.2.2 hP j q3 p1 k p2 (F.2.2.2.2.1 _ p4) (fun _ h => h) q5 hd (K ls H locs hl hP hD hS)
        have hgen : ∀ a', outs = [(pc + 3, (SL, a' :: st, sf), rf_d0)] → rf_av E.1 E.2.1 L ws a' w → rf_go X E outs pc (L, .ref (E.1 j) :: sc, ws) := by
          intro a' ho hav
          subst ho
          exact rf_go1 hs (sc' := w :: sc) ⟨hav, h5⟩ kk
        match a, h, hw with
        | .inl (r, y), h, ⟨x, hx, hr, _⟩ =>
          cases h
          subst hx
          exact hgen _ rfl (rf_trk_av hs.2.1 hs.1.2.2.2 hj (by simp [rf_fld, q3, rf_cellv, q5]) hr)
        | .inr (.inl ks), h, hw => cases h; exact hgen _ rfl (rf_bare_av hw)
        | .inr (.inr n), h, hw => cases h; exact hgen _ rfl (rf_bare_av hw)
end RfHeap
