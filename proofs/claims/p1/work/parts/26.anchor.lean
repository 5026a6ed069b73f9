/-! ANCHORS: states are laid down only where ways meet; between them the steps are run -/
section RfAnchor
variable {X : rfX} {E : rfE} {cc : ByteArray} {own : String} {S : rfS} {C : rfC} {pc : Nat} {outs : List rfO}
/-- pc, state, rank, 0 or the way to tell cases apart -/
abbrev rfB : Type := Nat × rfS × (Int × List Int) × Nat
abbrev rfDs : Type := List (Option (Option (Int × Int)))
def rf_dc1 (x y : Option (Option (Int × Int))) : Option (Option (Int × Int)) := match x, y with
  | none, y => y
  | some none, _ => some none
  | some (some q), none => some (some q)
  | some (some _), some none => some none
  | some (some q), some (some u) => some (some (q.1 + u.1, q.2 + u.2))
def rf_dcomp (d : rfD) : List rfV → rfDs → rfDs
  | v :: vs, x :: xs => rf_dc1 x (d v) :: rf_dcomp d vs xs
  | _, _ => []
def rf_dm (x : Option (Option (Int × Int))) (a b : Int) : Prop := match x with
  | none => b = a
  | some none => True
  | some (some q) => a + q.1 ≤ b ∧ b ≤ a + q.2
def rf_dls (C0 C : rfC) : List rfV → rfDs → Prop
  | v :: vs, x :: xs => rf_dm x (rf_val C0.1 C0.2.2 v) (rf_val C.1 C.2.2 v) ∧ rf_dls C0 C vs xs
  | [], [] => True
  | _, _ => False
theorem rf_dc1_ok {x y : Option (Option (Int × Int))} {a b c : Int} (h : rf_dm x a b) (h2 : rf_dm y b c) : rf_dm (rf_dc1 x y) a c := by
  match x, y, h, h2 with
  | none, y, h, h2 => have h' : b = a := h; subst h'; exact h2
  | some none, _, _, _ => trivial
  | some (some q), none, h, h2 => have h' : c = b := h2; subst h'; exact h
  | some (some _), some none, _, _ => trivial
  | some (some q), some (some u), h, h2 =>
    simp only [rf_dm, rf_dc1] at h h2 ⊢
    omega
theorem rf_dl_dm {d : rfD} {C C' : rfC} (h : rf_dl d C C') (v : rfV) : rf_dm (d v) (rf_val C.1 C.2.2 v) (rf_val C'.1 C'.2.2 v) := by
  have := h v
  cases hd : d v with
  | none => rw [hd] at this; exact this
  | some o =>
    rw [hd] at this
    cases o with
    | none => trivial
    | some q => exact this
theorem rf_dcomp_ok {C0 C C' : rfC} {d : rfD} (hd : rf_dl d C C') : ∀ (vs : List rfV) (xs : rfDs), rf_dls C0 C vs xs → rf_dls C0 C' vs (rf_dcomp d vs xs)
  | v :: vs, x :: xs, h => ⟨rf_dc1_ok h.1 (rf_dl_dm hd v), rf_dcomp_ok hd vs xs h.2⟩
  | [], [], _ => trivial
  | [], _ :: _, h => h.elim
  | _ :: _, [], h => h.elim
def rf_d00 (vs : List rfV) : rfDs := vs.map (fun _ => none)
theorem rf_d00_ok (C : rfC) : ∀ vs : List rfV, rf_dls C C vs (rf_d00 vs)
  | [] => trivial
  | _ :: vs => ⟨rfl, rf_d00_ok C vs⟩
/-- at most this the rank grows by between two anchors, the constants apart -/
def rf_dub2 (Lay : List rfL) (S T : rfS) : List rfV → rfDs → List Int → List Int → Option Int
  | v :: vs, x :: xs, a :: as, b :: bs => rf_ad2 (match x with
    | none => rf_bnd (b - a) (rf_rv Lay S v)
    | some (some q) => rf_ad2 (rf_bnd (b - a) (rf_rv Lay S v)) (rf_bnd b (some q))
    | some none => rf_ad2 (rf_bnd b (rf_rv Lay T v)) (rf_bnd (-a) (rf_rv Lay S v))) (rf_dub2 Lay S T vs xs as bs)
  | [], [], [], [] => some 0
  | _, _, _, _ => none
theorem rf_dub2_le {T : rfS} {C' : rfC} (hs : rf_st E S C) (ht : rf_st E T C') : ∀ (vs : List rfV) (xs : rfDs) (as bs : List Int) (u : Int), rf_dls C C' vs xs → rf_dub2 E.2.2.2.1 S T vs xs as bs = some u → rf_rk vs bs C' - rf_rk vs as C ≤ u
  | v :: vs, x :: xs, a :: as, b :: bs, u, hd, h => by
    unfold rf_dub2 at h
    simp only [rf_rk]
    obtain ⟨hv, hd2⟩ := hd
    have ih : ∀ z, rf_dub2 E.2.2.2.1 S T vs xs as bs = some z → rf_rk vs bs C' - rf_rk vs as C ≤ z := fun z hz => rf_dub2_le hs ht vs xs as bs z hd2 hz
    have key : ∀ z, (match x with
        | none => rf_bnd (b - a) (rf_rv E.2.2.2.1 S v)
        | some (some q) => rf_ad2 (rf_bnd (b - a) (rf_rv E.2.2.2.1 S v)) (rf_bnd b (some q))
        | some none => rf_ad2 (rf_bnd b (rf_rv E.2.2.2.1 T v)) (rf_bnd (-a) (rf_rv E.2.2.2.1 S v))) = some z → b * rf_val C'.1 C'.2.2 v - a * rf_val C.1 C.2.2 v ≤ z := by
      intro z hz
      match x, hv, hz with
      | none, hv, hz =>
        have hv' : rf_val C'.1 C'.2.2 v = rf_val C.1 C.2.2 v := hv
        have := rf_bnd_le (x := rf_val C.1 C.2.2 v) hz (fun p q h => rf_rv_in hs h)
        rw [hv']
        rw [Int.sub_mul] at this
        exact this
      | some (some q), hv, hz =>
        obtain ⟨q1, q2⟩ := q
        simp only [rf_dm] at hv
        have h1 := rf_ad2_le (x := (b - a) * rf_val C.1 C.2.2 v) (y := b * (rf_val C'.1 C'.2.2 v - rf_val C.1 C.2.2 v)) hz (fun w hw => rf_bnd_le hw (fun p q h => rf_rv_in hs h)) (fun w hw => rf_bnd_le hw (fun p q h => by cases h; omega))
        rw [Int.sub_mul, Int.mul_sub] at h1
        omega
      | some none, _, hz =>
        have h1 := rf_ad2_le (x := b * rf_val C'.1 C'.2.2 v) (y := (-a) * rf_val C.1 C.2.2 v) hz (fun w hw => rf_bnd_le hw (fun p q h => rf_rv_in ht h)) (fun w hw => rf_bnd_le hw (fun p q h => rf_rv_in hs h))
        rw [Int.neg_mul] at h1
        omega
    have h2 := rf_ad2_le (x := b * rf_val C'.1 C'.2.2 v - a * rf_val C.1 C.2.2 v) (y := rf_rk vs bs C' - rf_rk vs as C) h key ih
    omega
  | [], [], [], [], u, _, h => by cases h; simp [rf_rk]
  | [], [], _ :: _, _, u, _, h => by simp [rf_dub2] at h
  | [], [], [], _ :: _, u, _, h => by simp [rf_dub2] at h
  | _ :: _, _ :: _, [], _, u, _, h => by simp [rf_dub2] at h
  | _ :: _, _ :: _, _ :: _, [], u, _, h => by simp [rf_dub2] at h
  | [], _ :: _, _, _, _, hd, _ => hd.elim
  | _ :: _, [], _, _, _, hd, _ => hd.elim
def rf_posB (Lay : List rfL) (vars : List rfV) (n : rfB) : Bool := match rf_nub Lay n.2.1 vars n.2.2.1.2 with
  | some u => decide (u ≤ n.2.2.1.1)
  | none => false
def rf_lessB (Lay : List rfL) (vars : List rfV) (n T : rfB) (xs : rfDs) : Bool := match rf_dub2 Lay n.2.1 T.2.1 vars xs n.2.2.1.2 T.2.2.1.2 with
  | some u => decide (T.2.2.1.1 - n.2.2.1.1 + u ≤ -1)
  | none => false
def rf_hit (Lay : List rfL) (vars : List rfV) (N : List rfB) (n : rfB) (pc : Nat) (S : rfS) (xs : rfDs) : Bool := N.any (fun T => T.1 == pc && rf_le Lay S T.2.1 && rf_lessB Lay vars n T xs)
def rf_first {α : Type} (f : Nat → Option α) : List Nat → Option α
  | [] => none
  | n :: ns => (match f n with
    | some a => some a
    | none => rf_first f ns)
theorem rf_first_at {α : Type} {f : Nat → Option α} : ∀ (ns : List Nat) (a : α), rf_first f ns = some a → ∃ n, f n = some a
  | [], a, h => by cases h
  | n :: ns, a, h => by
    unfold rf_first at h
    split at h
    · next b hb => cases h; exact ⟨n, hb⟩
    · exact rf_first_at ns a h
/-- which callees are tried at a pc -/
abbrev rfQ : Type := List (Nat × List Nat)
def rf_cands (q : rfQ) (pc : Nat) : List Nat := match q.find? (fun u => u.1 == pc) with
  | some u => u.2
  | none => [0]
def rf_run (P : rfP) (Lay : List rfL) (M : rfM) (dec : List (Nat × Instr × Nat)) (cd : rfQ) (vars : List rfV) (aps : List Nat) (N : List rfB) (n : rfB) : Nat → Nat → rfS → rfDs → Bool
  | 0, _, _, _ => false
  | fuel + 1, pc, S, xs => (match rf_dget dec pc with
    | some (i, len) => if rf_isret i then (List.range (mK M).length).any (fun k => rf_ret Lay M i k S) && len == 1 else rf_lenok i len && (match rf_first (fun k => rf_step P Lay (mM M) (mL M) M.2.1.1 M.2.1.2 pc i k S) (rf_cands cd pc) with
      | some os => os.all (fun o => rf_keeps (rf_kp M) o.2.2 && (if aps.any (fun a => a == o.1) then rf_hit Lay vars N n o.1 o.2.1 (rf_dcomp o.2.2 vars xs) else rf_run P Lay M dec cd vars aps N n fuel o.1 o.2.1 (rf_dcomp o.2.2 vars xs)))
      | none => false)
    | none => false)
def rf_anc (P : rfP) (U : rfU) (Lay : List rfL) (M : rfM) (dec : List (Nat × Instr × Nat)) (cd : rfQ) (vars : List rfV) (aps : List Nat) (fuel : Nat) (N : List rfB) (n : rfB) : Bool := rf_posB Lay vars n && (if n.2.2.2 == 0 then rf_run P Lay M dec cd vars aps N n fuel n.1 n.2.1 (rf_d00 vars) else (match rf_tell U Lay n.2.2.2 n.1 n.2.1 with
  | some os => os.all (fun o => rf_keeps (rf_kp M) o.2.2 && (rf_hit Lay vars N n o.1 o.2.1 (rf_dcomp o.2.2 vars (rf_d00 vars)) || rf_run P Lay M dec cd vars aps N n fuel o.1 o.2.1 (rf_dcomp o.2.2 vars (rf_d00 vars))))
  | none => false))
theorem rf_kp_keep {ks : List Nat} {d : rfD} {C C' : rfC} {vs : List Value} (h : rf_keeps ks d = true) (hd : rf_dl d C C') (hk : ∀ i ∈ ks, rf_val C.1 C.2.2 (.inl i) = rf_num (vs[i]?)) : ∀ i ∈ ks, rf_val C'.1 C'.2.2 (.inl i) = rf_num (vs[i]?) := by
  intro l hl
  have h4 := List.all_eq_true.mp h l hl
  have h5 := hd (.inl l)
  cases hdl : d (.inl l) with
  | some z => rw [hdl] at h4; cases h4
  | none =>
    rw [hdl] at h5
    simp only at h5
    rw [h5]
    exact hk l hl
theorem rf_anchors {G : rfG} (hG : rf_Gok G) (hX : rf_in_G X E G) (F : rfFx X cc own G.2.2.1 E.2.2.1) {P : rfP} (hP : rf_pok G own P) {M : rfM} {vs : List Value} (hQ : xQ X = MQ (xb X) (rf_Qc G M vs E.2.2.2.2.2) (xa X) (xs X) 0 0 G.1.2.2.2) (hr : (xt X).sig.returnType = mr M) (hlocks : (xt X).locks = false) (hmod : E.2.2.2.2.1 = mM M) (hn : xn X = mL M) (hfr : (xR X).frames = M.2.1.1) (hlo : (xR X).locals = M.2.1.2)
    (hv : rf_all (rf_av G.2.1.1 G.2.1.2.1 [] []) (mA M) vs) {dec : List (Nat × Instr × Nat)} (hdec : rf_decs cc dec) {U : rfU} {cd : rfQ} {vars : List rfV} {aps : List Nat} {fuel : Nat} {N : List rfB} (hN : ∀ n ∈ N, rf_anc P U E.2.2.2.1 M dec cd vars aps fuel N n = true) : ∀ (b : Nat) (n : rfB), n ∈ N → ∀ C : rfC, rf_st E n.2.1 C → (∀ i ∈ rf_kp M, rf_val C.1 C.2.2 (.inl i) = rf_num (vs[i]?)) → (n.2.2.1.1 + rf_rk vars n.2.2.1.2 C).toNat < b → rfW X n.1 C
  | 0, n, _, C, _, _, hb => absurd hb (Nat.not_lt_zero _)
  | b + 1, n, hnm, C, hs, hk, hb => by
    have hhit : ∀ (pc : Nat) (S' : rfS) (xs : rfDs) (C' : rfC), rf_hit E.2.2.2.1 vars N n pc S' xs = true → rf_st E S' C' → (∀ i ∈ rf_kp M, rf_val C'.1 C'.2.2 (.inl i) = rf_num (vs[i]?)) → rf_dls C C' vars xs → rfW X pc C' := by
      intro pc S' xs C' hh hs' hk' hd'
      simp only [rf_hit, List.any_eq_true, Bool.and_eq_true, beq_iff_eq] at hh
      obtain ⟨T, hTm, ⟨t1, t2⟩, t3⟩ := hh
      have hsT : rf_st E T.2.1 C' := ⟨rf_le_ok t2 hs'.2.1 hs'.1, hs'.2⟩
      rw [← t1]
      refine rf_anchors hG hX F hP hQ hr hlocks hmod hn hfr hlo hv hdec hN b T hTm C' hsT hk' ?_
      unfold rf_lessB at t3
      have hposT := hN T hTm
      simp only [rf_anc, Bool.and_eq_true] at hposT
      have hposT := hposT.1
      unfold rf_posB at hposT
      split at t3
      · next u hu =>
        simp only [decide_eq_true_eq] at t3
        split at hposT
        · next w hw =>
          simp only [decide_eq_true_eq] at hposT
          have h6 := rf_dub2_le hs hsT vars xs _ _ u hd' hu
          have h7 := rf_nub_le hsT vars _ w hw
          omega
        · cases hposT
      · cases t3
    have hrun : ∀ (f pc : Nat) (S' : rfS) (xs : rfDs) (C' : rfC), rf_run P E.2.2.2.1 M dec cd vars aps N n f pc S' xs = true → rf_st E S' C' → (∀ i ∈ rf_kp M, rf_val C'.1 C'.2.2 (.inl i) = rf_num (vs[i]?)) → rf_dls C C' vars xs → rfW X pc C' := by
      intro f
      induction f with
      | zero => intro pc S' xs C' h; cases h
      | succ f ih =>
        intro pc S' xs C' h hs' hk' hd'
        unfold rf_run at h
        cases hg : rf_dget dec pc with
        | none => rw [hg] at h; cases h
        | some q =>
          obtain ⟨i, len⟩ := q
          rw [hg] at h
          have hd := rf_dget_ok hdec hg
          simp only at h
          split at h
          · simp only [Bool.and_eq_true, beq_iff_eq, List.any_eq_true] at h
            obtain ⟨⟨k, -, hk2⟩, hl⟩ := h
            rw [hl] at hd
            exact rs_ret hX F hQ hr hlocks hmod hd hk2 hs' hv hk'
          · simp only [Bool.and_eq_true] at h
            obtain ⟨hlen, h⟩ := h
            cases ho : rf_first (fun k => rf_step P E.2.2.2.1 (mM M) (mL M) M.2.1.1 M.2.1.2 pc i k S') (rf_cands cd pc) with
            | none => rw [ho] at h; cases h
            | some os =>
              rw [ho] at h
              obtain ⟨k, hok⟩ := rf_first_at _ _ ho
              rw [← hmod, ← hn, ← hfr, ← hlo] at hok
              refine rs_step hG hX F hP hd hlen hok hs' (fun o hoo C2 hs2 hd2 => ?_)
              have h5 := List.all_eq_true.mp h o hoo
              simp only [Bool.and_eq_true] at h5
              have hk2 := rf_kp_keep h5.1 hd2 hk'
              have hdd := rf_dcomp_ok hd2 vars xs hd'
              have h6 := h5.2
              split at h6
              · exact hhit _ _ _ C2 h6 hs2 hk2 hdd
              · exact ih _ _ _ C2 h6 hs2 hk2 hdd
    have hc := hN n hnm
    simp only [rf_anc, Bool.and_eq_true] at hc
    obtain ⟨-, hc⟩ := hc
    split at hc
    · exact hrun fuel _ _ _ C hc hs hk (rf_d00_ok C vars)
    · cases ho : rf_tell U E.2.2.2.1 n.2.2.2 n.1 n.2.1 with
      | none => rw [ho] at hc; cases hc
      | some os =>
        rw [ho] at hc
        refine rs_tell ho hs (fun o hoo C2 hs2 hd2 => ?_)
        have h5 := List.all_eq_true.mp hc o hoo
        simp only [Bool.and_eq_true, Bool.or_eq_true] at h5
        have hk2 := rf_kp_keep h5.1 hd2 hk
        have hdd := rf_dcomp_ok hd2 vars _ (rf_d00_ok C vars)
        rcases h5.2 with h6 | h6
        · exact hhit _ _ _ C2 h6 hs2 hk2 hdd
        · exact hrun fuel _ _ _ C2 h6 hs2 hk2 hdd
def rf_chkB (P : rfP) (U : rfU) (Lay : List rfL) (M : rfM) (dec : List (Nat × Instr × Nat)) (cd : rfQ) (vars : List rfV) (aps : List Nat) (fuel : Nat) (N : List rfB) : Bool := (match N[0]? with
  | some n => n.1 == 0 && rf_le Lay (rf_start M) n.2.1
  | none => false) && N.all (rf_anc P U Lay M dec cd vars aps fuel N) && ((rf_kp M).isEmpty || (mA M).all rf_cat1) && (rf_kp M).all (fun i => decide (i < (mA M).length)) && decide (rf_words (mA M) ≤ mL M)
theorem rf_methodB {G : rfG} (hG : rf_Gok G) {P : rfP} {M : rfM} (hP : rf_pok G (my M).cls P) {dec : List (Nat × Instr × Nat)} (hdec : rf_decs (mb M) dec) {U : rfU} {cd : rfQ} {vars : List rfV} {aps : List Nat} {fuel : Nat} {N : List rfB} (hy : plainName (my M).cls = true) (h : rf_chkB P U G.2.1.2.2.2 M dec cd vars aps fuel N = true) : rf_met G M := by
  simp only [rf_chkB, Bool.and_eq_true, decide_eq_true_eq] at h
  obtain ⟨⟨⟨⟨h0, h1⟩, h2⟩, h3⟩, h4⟩ := h
  intro ws vs hv hw hp
  refine Met.ofW (cc := mb M) (maxL := mL M) (ret := mr M) hy rfl ?_
  intro p e s m args below meth c s₁ B hml hpc
  obtain ⟨rfl, hP0, hK, hD, hSF⟩ := hpc
  have hts0 := atoms_spec (ws := rf_ws G M) B.pre
  have hts : ∀ w ∈ G.2.2.1, w.before vs.toArray s = true := fun w hw => hts0 w (List.mem_cons_of_mem _ hw)
  have hown : s.vm.findClass (my M).cls = some m.cls := findClass_of_methodNamed B.named
  let X : rfX := (p, G.1.1, e, (headSpec (rf_ws G M) (mroom M)).room, s, m, vs.toArray, below, meth, c, MQ below (rf_Qc G M vs ws) vs.toArray s 0 0 G.1.2.2.2, mL M, G.1.2.1, G.1.2.2.1, G.1.2.2.2)
  let E : rfE := (G.2.1.1, G.2.1.2.1, G.2.1.2.2.1, G.2.1.2.2.2, mM M, ws)
  have hX : rf_in_G X E G := ⟨rfl, rfl, rfl, rfl, rfl, rfl, rfl, rfl, hSF⟩
  have F : rfFx X (mb M) (my M).cls G.2.2.1 E.2.2.1 := ⟨B.exec, B.bytes, hml, hown, hts, hK⟩
  have hl := lv_entry vs (n := mL M) (by rw [rf_sl_len _ _ hv]; exact h4)
  rw [lg_entry_eq]
  cases hn : N[0]? with
  | none => rw [hn] at h0; cases h0
  | some n =>
    rw [hn] at h0
    simp only [Bool.and_eq_true, beq_iff_eq] at h0
    have hvb : rf_all (rf_av G.2.1.1 G.2.1.2.1 [] []) ((mA M).map rf_bare) vs := rf_all_map (fun a b h => rf_bare_av h) _ _ hv
    have hst0 : rf_st E (rf_start M) (lv_args 0 vs, [], ws) := by
      refine ⟨⟨rf_args_nd vs 0, fun q hq => ?_, trivial, fun u hu => ?_⟩, hw, fun _ _ _ => rfl⟩
      · obtain ⟨v, g1, g2⟩ := rf_largs_ok _ _ 0 hvb q hq
        refine ⟨v, g1, ?_⟩
        have hbare : ∀ (as : List rfA) (i : Nat), ∀ q ∈ rf_largs i (as.map rf_bare), rf_bare q.2 = q.2 := by
          intro as
          induction as with
          | nil => intro i q hq; cases hq
          | cons a as ih =>
            intro i q hq
            rcases List.mem_cons.mp hq with e | hq
            · subst e
              exact rf_bare2 a
            · exact ih _ q hq
        rw [← hbare (mA M) 0 q hq]
        exact rf_bare_av g2
      · obtain ⟨q, hq, rfl⟩ := List.mem_map.mp hu
        obtain ⟨x, hx, hr⟩ := hp q hq
        refine ⟨x, hx, hr, ?_⟩
        have ex : rf_num (rf_fld ws q.1.1 q.1.2) = x.toInt := by rw [hx]; rfl
        show rf_num (rf_fld ws q.1.1 q.1.2) + 0 ≤ x.toInt ∧ x.toInt ≤ rf_num (rf_fld ws q.1.1 q.1.2) + 0
        omega
    have hstn : rf_st E n.2.1 (lv_args 0 vs, [], ws) := ⟨rf_le_ok h0.2 hw hst0.1, hst0.2⟩
    have hkp : ∀ i ∈ rf_kp M, rf_val (lv_args 0 vs) ws (.inl i) = rf_num (vs[i]?) := by
      intro i hi
      have hne : (mA M).all rf_cat1 = true := by
        simp only [Bool.or_eq_true] at h2
        rcases h2 with h2 | h2
        · rw [List.isEmpty_iff] at h2
          rw [h2] at hi
          cases hi
        · exact h2
      have hil := List.all_eq_true.mp h3 i hi
      simp only [decide_eq_true_eq] at hil
      obtain ⟨v, g1, g2⟩ := rf_args_num (mA M) vs _ _ 0 i hne hv (by rw [← rf_all_len _ _ hv]; exact hil)
      rw [Nat.zero_add] at g2
      simp only [rf_val, rf_get_of (rf_args_nd vs 0) g2, g1]
    have hnode := rf_anchors hG hX F hP (M := M) (vs := vs) rfl B.returns B.notSynchronized rfl rfl rfl rfl hv hdec (fun n hn => List.all_eq_true.mp h1 n hn) _ n (List.mem_of_getElem? hn) (lv_args 0 vs, [], ws) hstn hkp (Nat.lt_succ_self _)
    rw [h0.1] at hnode
    exact hnode _ s.heap [] hl hP0 hD va_S.rf
end RfAnchor
