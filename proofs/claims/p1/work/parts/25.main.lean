/-! A METHOD WHOSE NODES CHECK KEEPS ITS CONTRACT -/
section RfMain
variable {X : rfX} {E : rfE} {cc : ByteArray} {own : String} {S : rfS} {C : rfC} {pc : Nat} {outs : List rfO}
theorem rf_retv_ok {G : rfG} (hX : rf_in_G X E G) {M : rfM} {k : rfK} {vs : List Value} (h : rf_retv E.2.2.2.1 M k S = true) (hs : rf_st E S C) (hv : rf_all (rf_av G.2.1.1 G.2.1.2.1 [] []) (mA M) vs) (hk : ∀ i ∈ rf_kp M, rf_val C.1 C.2.2 (.inl i) = rf_num (vs[i]?)) (hm : k ∈ mK M) : ∃ rv : Option Value, C.2.1 = rv.toList ∧ rf_kok G k vs E.2.2.2.2.2 C.2.2 rv := by
  simp only [rf_retv, Bool.and_eq_true, List.all_eq_true] at h
  obtain ⟨⟨h1, h2⟩, h3⟩ := h
  obtain ⟨e1, e2, e3, e4, e5, e6, e7, e8, e9⟩ := id hX
  have hargs : ∀ q ∈ k.2.1, ∃ x : Int32, vs[q.1]? = some (.int x) ∧ q.2.1 ≤ x.toInt ∧ x.toInt ≤ q.2.2 := by
    intro q hq
    have h4 := h2 q hq
    split at h4
    · next r y u hl ha =>
      simp only [Bool.and_eq_true, decide_eq_true_eq] at h4
      obtain ⟨v, hm2, x, rfl, hr, -⟩ := hs.1.2.1 _ (rf_look_mem hl)
      obtain ⟨w, hw, x2, rfl, -⟩ := rf_all_get _ _ hv q.1 _ ha
      have hkk := hk q.1 (List.mem_flatMap.mpr ⟨k, hm, List.mem_map.mpr ⟨q, hq, rfl⟩⟩)
      simp only [rf_val, rf_get_of hs.1.1 hm2, hw, rf_num] at hkk
      have r1 := hr.1
      have r2 := hr.2.1
      exact ⟨x2, hw, by omega, by omega⟩
    · cases h4
  have hf : ∀ q ∈ k.2.2, rf_fok E.2.2.2.2.2 C.2.2 q := fun q hq => rf_finc_ok hs.2.1 (h3 q hq) hs.1.2.2.2
  have hst := hs.1.2.2.1
  obtain ⟨L, sc, ws⟩ := C
  obtain ⟨SL, sst, sf⟩ := S
  obtain ⟨kr, ka, kf⟩ := k
  match kr, sst, sc, h1, hst with
  | none, [], [], _, _ => exact ⟨none, rfl, trivial, hargs, hf⟩
  | some a, [b], [v], h1, hst =>
    refine ⟨some v, rfl, ?_, hargs, hf⟩
    show rf_av G.2.1.1 G.2.1.2.1 [] [] a v
    rw [← e5, ← e6]
    exact rf_ainc_av h1 (rf_bare_av hst.1)
  | none, [], _ :: _, _, hst => exact hst.elim
  | some a, [b], [], _, hst => exact hst.elim
  | some a, [b], _ :: _ :: _, _, hst => exact hst.2.elim
  | none, _ :: _, _, h1, _ => cases h1
  | some a, [], _, h1, _ => cases h1
  | some a, _ :: _ :: _, _, h1, _ => cases h1
theorem rf_bit1 {x : Int32} (h0 : 0 ≤ x.toInt) (h1 : x.toInt ≤ 1) : narrow .boolean (.int x) = .int x := by
  have e : x = 0 ∨ x = 1 := by
    rcases (show x.toInt = 0 ∨ x.toInt = 1 by omega) with h | h
    · exact Or.inl (Int32.toInt_inj.mp (by rw [h]; rfl))
    · exact Or.inr (Int32.toInt_inj.mp (by rw [h]; rfl))
  rcases e with rfl | rfl <;> rfl
theorem rf_char1 {x : Int32} (h0 : 0 ≤ x.toInt) (h1 : x.toInt ≤ 65535) : narrow .char (.int x) = .int x := by
  have e : x = nI x.toInt.toNat := Int32.toInt_inj.mp (by rw [nI_toInt (by omega)]; omega)
  rw [e]
  exact (pk_charN (by omega)).1
theorem rf_byte1 {x : Int32} (h0 : -128 ≤ x.toInt) (h1 : x.toInt ≤ 127) : narrow .byte (.int x) = .int x := by
  rw [narrow_byte]
  congr 1
  refine Int32.toInt_inj.mp ?_
  rw [rf_i2b_v, Int.bmod_eq_of_le (by omega) (by omega)]
theorem rs_ret {G : rfG} (hX : rf_in_G X E G) (F : rfFx X cc own G.2.2.1 E.2.2.1) {M : rfM} {vs : List Value} (hQ : xQ X = MQ (xb X) (rf_Qc G M vs E.2.2.2.2.2) (xa X) (xs X) 0 0 G.1.2.2.2) (hr : (xt X).sig.returnType = mr M) (hlocks : (xt X).locks = false) (hmod : E.2.2.2.2.1 = mM M) {i : Instr} {n : Nat} (hd : decode cc pc = .ok (i, 1)) (h : rf_ret E.2.2.2.1 M i n S = true) (hs : rf_st E S C) (hv : rf_all (rf_av G.2.1.1 G.2.1.2.1 [] []) (mA M) vs) (hk : ∀ i ∈ rf_kp M, rf_val C.1 C.2.2 (.inl i) = rf_num (vs[i]?)) : rfW X pc C := by
  simp only [rf_ret, Bool.and_eq_true] at h
  obtain ⟨h1, h2⟩ := h
  cases hkk : (mK M)[n]? with
  | none => rw [hkk] at h1; cases h1
  | some k =>
    rw [hkk] at h1
    have hm := List.mem_of_getElem? hkk
    obtain ⟨rv, e, hko⟩ := rf_retv_ok hX h1 hs hv hk hm
    obtain ⟨e1, e2, e3, e4, e5, e6, e7, e8, e9⟩ := id hX
    intro ls H locs hl hP hD hS
    have hst := hs.1.2.2.1
    have hw := hs.2.1
    have hsm := hs.2.2
    rw [e5, e6, e7, e8] at hw
    rw [hmod] at hsm
    rw [e2, e3] at hP
    rw [e4] at hD hS
    have hq : ∀ t : State, t.heap = H → (xs X).WarmedH t.vm → rf_Qc G M vs E.2.2.2.2.2 (xa X) (xs X) (.returned rv) t := fun t ht _ => ⟨⟨rv, C.2.2, rfl, ⟨hw, hsm, k, hm, hko⟩, by rw [ht]; exact hP, hD⟩, hS.F ht⟩
    have hf : ∀ q ∈ locs, G.1.2.2.2 q.base := hS.2.2
    show W _ _ _ _ _ _ _ _ _ _ _ _ _ _ _ _
    rw [hQ]
    cases i with
    | ireturn =>
      simp only at h2
      rw [e] at hst
      rw [e]
      match rv, hst, hq with
      | some v, hst, hq =>
        split at h2
        · next hmr hss =>
          rw [hss] at hst
          obtain ⟨⟨x, rfl, -⟩, -⟩ := hst
          exact W.iret F.1 F.2.1 (by rw [hr, hmr]) hq hf hd hlocks
        · next hmr hss =>
          rw [hss] at hst
          unfold rf_isbit at h2
          rw [hss] at h2
          obtain ⟨⟨x, rfl, hx, -⟩, -⟩ := hst
          simp only [Bool.and_eq_true, decide_eq_true_eq] at h2
          exact W.zret F.1 F.2.1 (ty := .boolean) (by rw [hr, hmr]) (rf_bit1 (by have := hx.1; omega) (by have := hx.2.1; omega)) hq hf hd hlocks
        · next hmr hss =>
          rw [hss] at hst
          obtain ⟨⟨x, rfl, hx, -⟩, -⟩ := hst
          simp only [Bool.and_eq_true, decide_eq_true_eq] at h2
          exact W.zret F.1 F.2.1 (ty := .char) (by rw [hr, hmr]) (rf_char1 (by have := hx.1; omega) (by have := hx.2.1; omega)) hq hf hd hlocks
        · next hmr hss =>
          rw [hss] at hst
          obtain ⟨⟨x, rfl, hx, -⟩, -⟩ := hst
          simp only [Bool.and_eq_true, decide_eq_true_eq] at h2
          exact W.zret F.1 F.2.1 (ty := .byte) (by rw [hr, hmr]) (rf_byte1 (by have := hx.1; omega) (by have := hx.2.1; omega)) hq hf hd hlocks
        · cases h2
      | none, hst, hq =>
        split at h2
        · next hmr hss => rw [hss] at hst; exact hst.elim
        · next hmr hss => rw [hss] at hst; exact hst.elim
        · next hmr hss => rw [hss] at hst; exact hst.elim
        · next hmr hss => rw [hss] at hst; exact hst.elim
        · cases h2
    | areturn =>
      simp only at h2
      rw [e] at hst
      rw [e]
      split at h2
      · next hmr hss =>
        rw [hss] at hst
        match rv, hst, hq with
        | some v, hst, hq =>
          obtain ⟨⟨j, hj, rfl⟩, -⟩ := hst
          exact W.aret F.1 F.2.1 (by rw [hr, hmr]) (Or.inl ⟨_, rfl⟩) (Or.inr ⟨_, rfl⟩) hq hf hd hlocks
        | none, hst, hq => exact hst.elim
      · cases h2
    | return_ =>
      simp only at h2
      split at h2
      · next hmr hss =>
        have hkr : rv = none := by
          rw [e, hss] at hst
          match rv, hst with
          | none, _ => rfl
          | some v, hst => exact hst.elim
        subst hkr
        rw [e]
        exact W.vret F.1 F.2.1 (by rw [hr, hmr]) hq hf hd hlocks
      · cases h2
    | _ => cases h2
/-- from every node, in every state that it tells of -/
theorem rf_nodes {G : rfG} (hG : rf_Gok G) (hX : rf_in_G X E G) (F : rfFx X cc own G.2.2.1 E.2.2.1) {P : rfP} (hP : rf_pok G own P) {M : rfM} {vs : List Value} (hQ : xQ X = MQ (xb X) (rf_Qc G M vs E.2.2.2.2.2) (xa X) (xs X) 0 0 G.1.2.2.2) (hr : (xt X).sig.returnType = mr M) (hlocks : (xt X).locks = false) (hmod : E.2.2.2.2.1 = mM M) (hn : xn X = mL M) (hfr : (xR X).frames = M.2.1.1) (hlo : (xR X).locals = M.2.1.2)
    (hv : rf_all (rf_av G.2.1.1 G.2.1.2.1 [] []) (mA M) vs) {dec : List (Nat × Instr × Nat)} (hdec : rf_decs cc dec) {U : rfU} {vars : List rfV} {N : List rfN} (hN : ∀ n ∈ N, rf_node P U E.2.2.2.1 M dec vars N n = true) : ∀ (b : Nat) (n : rfN), n ∈ N → ∀ C : rfC, rf_st E n.2.1 C → (∀ i ∈ rf_kp M, rf_val C.1 C.2.2 (.inl i) = rf_num (vs[i]?)) → (n.2.2.1.1 + rf_rk vars n.2.2.1.2 C).toNat < b → rfW X n.1 C
  | 0, n, _, C, _, _, hb => absurd hb (Nat.not_lt_zero _)
  | b + 1, n, hnm, C, hs, hk, hb => by
    have hc := hN n hnm
    simp only [rf_node, Bool.and_eq_true] at hc
    obtain ⟨hpos, hc⟩ := hc
    have hfin : ∀ os : List rfO, rf_outs E.2.2.2.1 vars (rf_kp M) N n os n.2.2.2.2 = true → ∀ o ∈ os, ∀ C', rf_st E o.2.1 C' → rf_dl o.2.2 C C' → rfW X o.1 C' := by
      intro os hc o hoo C' hs' hd'
      obtain ⟨j, T, hT, t1, t2, t3, t4⟩ := rf_outs_at os n.2.2.2.2 hc o hoo
      have hTm := List.mem_of_getElem? hT
      have hsT : rf_st E T.2.1 C' := ⟨rf_le_ok t2 hs'.2.1 hs'.1, hs'.2⟩
      rw [t1]
      refine rf_nodes hG hX F hP hQ hr hlocks hmod hn hfr hlo hv hdec hN b T hTm C' hsT (fun l hl => ?_) ?_
      · have h4 := List.all_eq_true.mp t4 l hl
        have h5 := hd' (.inl l)
        cases hdl : o.2.2 (.inl l) with
        | some z => rw [hdl] at h4; cases h4
        | none =>
          rw [hdl] at h5
          simp only at h5
          rw [h5]
          exact hk l hl
      · unfold rf_lessr at t3
        have hposT := hN T hTm
        simp only [rf_node, Bool.and_eq_true] at hposT
        have hposT := hposT.1
        unfold rf_pos at hposT
        split at t3
        · next u hu =>
          simp only [decide_eq_true_eq] at t3
          split at hposT
          · next w hw =>
            simp only [decide_eq_true_eq] at hposT
            have h6 := rf_dub_le hs hsT hd' vars _ _ u hu
            have h7 := rf_nub_le hsT vars _ w hw
            omega
          · cases hposT
        · cases t3
    split at hc
    · cases ho : rf_tell U E.2.2.2.1 n.2.2.2.1 n.1 n.2.1 with
      | none => rw [ho] at hc; cases hc
      | some os =>
        rw [ho] at hc
        exact rs_tell ho hs (hfin os hc)
    · cases hg : rf_dget dec n.1 with
      | none => rw [hg] at hc; cases hc
      | some q =>
        obtain ⟨i, len⟩ := q
        rw [hg] at hc
        have hd := rf_dget_ok hdec hg
        simp only at hc
        split at hc
        · simp only [Bool.and_eq_true, beq_iff_eq] at hc
          rw [hc.2] at hd
          exact rs_ret hX F hQ hr hlocks hmod hd hc.1 hs hv hk
        · simp only [Bool.and_eq_true] at hc
          obtain ⟨hlen, hc⟩ := hc
          cases ho : rf_step P E.2.2.2.1 (mM M) (mL M) M.2.1.1 M.2.1.2 n.1 i n.2.2.2.1 n.2.1 with
          | none => rw [ho] at hc; cases hc
          | some os =>
            rw [ho] at hc
            rw [← hmod, ← hn, ← hfr, ← hlo] at ho
            exact rs_step hG hX F hP hd hlen ho hs (hfin os hc)
/-- the locals at a method's start -/
def rf_largs : Nat → List rfA → List (Nat × rfA)
  | _, [] => []
  | i, a :: as => (i, a) :: rf_largs (i + rf_cat a) as
theorem rf_largs_ok {ad sp : Nat → Nat} : ∀ (as : List rfA) (vs : List Value) (i : Nat), rf_all (rf_av ad sp [] []) as vs → ∀ q ∈ rf_largs i as, ∃ v, (q.1, v) ∈ lv_args i vs ∧ rf_av ad sp [] [] q.2 v
  | [], [], _, _, q, hq => by cases hq
  | a :: as, v :: vs, i, h, q, hq => by
    rcases List.mem_cons.mp hq with e | hq
    · subst e
      exact ⟨v, List.mem_cons_self, h.1⟩
    · have hc := rf_cat_av (E := (ad, sp, [], [], [], [])) h.1
      have e : (if v.category = 2 then i + 2 else i + 1) = i + rf_cat a := by
        rw [hc]
        unfold rf_cat
        split <;> rfl
      obtain ⟨w, h1, h2⟩ := rf_largs_ok as vs (i + rf_cat a) h.2 q hq
      refine ⟨w, ?_, h2⟩
      simp only [lv_args]
      rw [e]
      exact List.mem_cons_of_mem _ h1
  | [], _ :: _, _, h, _, _ => h.elim
  | _ :: _, [], _, h, _, _ => h.elim
theorem rf_args_ge : ∀ (vs : List Value) (i : Nat), ∀ q ∈ lv_args i vs, i ≤ q.1
  | [], _, q, hq => by cases hq
  | v :: vs, i, q, hq => by
    rcases List.mem_cons.mp hq with e | hq
    · subst e; exact Nat.le_refl _
    · have := rf_args_ge vs _ q hq
      split at this <;> omega
theorem rf_args_nd : ∀ (vs : List Value) (i : Nat), rf_nd (lv_args i vs)
  | [], _ => fun k v w h => by cases h
  | v :: vs, i => by
    intro k a b ha hb
    simp only [lv_args] at ha hb
    rcases List.mem_cons.mp ha with ha | ha <;> rcases List.mem_cons.mp hb with hb | hb
    · cases ha; cases hb; rfl
    · cases ha
      have := rf_args_ge vs _ _ hb
      simp only at this
      split at this <;> omega
    · cases hb
      have := rf_args_ge vs _ _ ha
      simp only at this
      split at this <;> omega
    · exact rf_args_nd vs _ k a b ha hb
theorem rf_args_num : ∀ (as : List rfA) (vs : List Value) (ad sp : Nat → Nat) (i k : Nat), as.all rf_cat1 = true → rf_all (rf_av ad sp [] []) as vs → k < vs.length → ∃ v, vs[k]? = some v ∧ (i + k, v) ∈ lv_args i vs
  | [], [], _, _, _, k, _, _, hk => absurd hk (Nat.not_lt_zero _)
  | a :: as, v :: vs, ad, sp, i, 0, _, _, _ => ⟨v, rfl, List.mem_cons_self⟩
  | a :: as, v :: vs, ad, sp, i, k + 1, h1, h2, hk => by
    simp only [List.all_cons, Bool.and_eq_true] at h1
    have hc := rf_cat1_av (E := (ad, sp, [], [], [], [])) h1.1 h2.1
    obtain ⟨w, h3, h4⟩ := rf_args_num as vs ad sp (i + 1) k h1.2 h2.2 (by simpa using hk)
    refine ⟨w, by simpa using h3, ?_⟩
    simp only [lv_args]
    rw [if_neg (by rw [hc]; decide)]
    refine List.mem_cons_of_mem _ ?_
    rw [show i + (k + 1) = i + 1 + k by omega]
    exact h4
  | [], _ :: _, _, _, _, _, _, h, _ => h.elim
  | _ :: _, [], _, _, _, _, _, h, _ => h.elim
theorem rf_bare2 (a : rfA) : rf_bare (rf_bare a) = rf_bare a := by
  match a with
  | .inl (r, none) => rfl
  | .inl (r, some (v, n)) => rfl
  | .inr (.inl js) => rfl
  | .inr (.inr n) => rfl
/-- the state at a method's start -/
def rf_start (M : rfM) : rfS := (rf_largs 0 ((mA M).map rf_bare), [], (mP M).map (fun q => (q.1, q.2.1, some (q.1, 0, 0))))
def rf_words (as : List rfA) : Nat := (as.map rf_cat).sum
/-- the whole check of a method -/
def rf_chk (P : rfP) (U : rfU) (Lay : List rfL) (M : rfM) (dec : List (Nat × Instr × Nat)) (vars : List rfV) (N : List rfN) : Bool := (match N[0]? with
  | some n => n.1 == 0 && rf_le Lay (rf_start M) n.2.1
  | none => false) && N.all (rf_node P U Lay M dec vars N) && ((rf_kp M).isEmpty || (mA M).all rf_cat1) && (rf_kp M).all (fun i => decide (i < (mA M).length)) && decide (rf_words (mA M) ≤ mL M)
theorem rf_sl_len {ad sp : Nat → Nat} : ∀ (as : List rfA) (vs : List Value), rf_all (rf_av ad sp [] []) as vs → (lg_sl vs).length = (as.map rf_cat).sum
  | [], [], _ => rfl
  | a :: as, v :: vs, h => by
    have hc := rf_cat_av (E := (ad, sp, [], [], [], [])) h.1
    have ih := rf_sl_len as vs h.2
    simp only [lg_sl, List.flatMap_cons, List.length_append, List.map_cons, List.sum_cons] at ih ⊢
    rw [ih]
    congr 1
    rw [hc]
    unfold rf_cat
    split <;> rfl
  | [], _ :: _, h => h.elim
  | _ :: _, [], h => h.elim
theorem rf_method {G : rfG} (hG : rf_Gok G) {P : rfP} {M : rfM} (hP : rf_pok G (my M).cls P) {dec : List (Nat × Instr × Nat)} (hdec : rf_decs (mb M) dec) {U : rfU} {vars : List rfV} {N : List rfN} (hy : plainName (my M).cls = true) (h : rf_chk P U G.2.1.2.2.2 M dec vars N = true) : rf_met G M := by
  simp only [rf_chk, Bool.and_eq_true, decide_eq_true_eq] at h
  obtain ⟨⟨⟨⟨h0, h1⟩, h2⟩, h3⟩, h4⟩ := h
  intro ws vs hv hw hp
  refine Met.ofW (cc := mb M) (maxL := mL M) (ret := mr M) hy rfl ?_
  intro p e s m args below meth c s₁ B hml hpc
  obtain ⟨rfl, hP0, hK, hD, hSF⟩ := hpc
  have hts0 := atoms_spec (ws := rf_ws G M) B.pre
  have hts : ∀ w ∈ G.2.2.1, w.before vs.toArray s = true := fun w hw => hts0 w (List.mem_cons_of_mem _ hw)
  have hown : s.vm.findClass (my M).cls = some m.cls := findClass_of_methodNamed B.named
  let X : rfX := (p, G.1.1, e, (headSpec (rf_ws G M) (mroom M)).room, s, m, vs.toArray, below, meth, c, MQ below (rf_Qc G M vs ws) vs.toArray s 0 0 G.1.2.2.2, mL M, G.1.2.1, G.1.2.2.1, G.1.2.2.2)
  let E : rfE := (G.2.1.1, G.2.1.2.1, G.2.1.2.2.1, G.2.1.2.2.2, mM M, ws)
  have hX : rf_in_G X E G := ⟨rfl, rfl, rfl, rfl, rfl, rfl, rfl, rfl, hSF⟩
  have F : rfFx X (mb M) (my M).cls G.2.2.1 E.2.2.1 := ⟨B.exec, B.bytes, hml, hown, hts, hK⟩
  have hl := lv_entry vs (n := mL M) (by rw [rf_sl_len _ _ hv]; exact h4)
  rw [lg_entry_eq]
  cases hn : N[0]? with
  | none => rw [hn] at h0; cases h0
  | some n =>
    rw [hn] at h0
    simp only [Bool.and_eq_true, beq_iff_eq] at h0
    have hvb : rf_all (rf_av G.2.1.1 G.2.1.2.1 [] []) ((mA M).map rf_bare) vs := rf_all_map (fun a b h => rf_bare_av h) _ _ hv
    have hst0 : rf_st E (rf_start M) (lv_args 0 vs, [], ws) := by
      refine ⟨⟨rf_args_nd vs 0, fun q hq => ?_, trivial, fun u hu => ?_⟩, hw, fun _ _ _ => rfl⟩
      · obtain ⟨v, g1, g2⟩ := rf_largs_ok _ _ 0 hvb q hq
        refine ⟨v, g1, ?_⟩
        have hbare : ∀ (as : List rfA) (i : Nat), ∀ q ∈ rf_largs i (as.map rf_bare), rf_bare q.2 = q.2 := by
          intro as
          induction as with
          | nil => intro i q hq; cases hq
          | cons a as ih =>
            intro i q hq
            rcases List.mem_cons.mp hq with e | hq
            · subst e
              exact rf_bare2 a
            · exact ih _ q hq
        rw [← hbare (mA M) 0 q hq]
        exact rf_bare_av g2
      · obtain ⟨q, hq, rfl⟩ := List.mem_map.mp hu
        obtain ⟨x, hx, hr⟩ := hp q hq
        refine ⟨x, hx, hr, ?_⟩
        have ex : rf_num (rf_fld ws q.1.1 q.1.2) = x.toInt := by rw [hx]; rfl
        show rf_num (rf_fld ws q.1.1 q.1.2) + 0 ≤ x.toInt ∧ x.toInt ≤ rf_num (rf_fld ws q.1.1 q.1.2) + 0
        omega
    have hstn : rf_st E n.2.1 (lv_args 0 vs, [], ws) := ⟨rf_le_ok h0.2 hw hst0.1, hst0.2⟩
    have hkp : ∀ i ∈ rf_kp M, rf_val (lv_args 0 vs) ws (.inl i) = rf_num (vs[i]?) := by
      intro i hi
      have hne : (mA M).all rf_cat1 = true := by
        simp only [Bool.or_eq_true] at h2
        rcases h2 with h2 | h2
        · rw [List.isEmpty_iff] at h2
          rw [h2] at hi
          cases hi
        · exact h2
      have hil := List.all_eq_true.mp h3 i hi
      simp only [decide_eq_true_eq] at hil
      obtain ⟨v, g1, g2⟩ := rf_args_num (mA M) vs _ _ 0 i hne hv (by rw [← rf_all_len _ _ hv]; exact hil)
      rw [Nat.zero_add] at g2
      simp only [rf_val, rf_get_of (rf_args_nd vs 0) g2, g1]
    have hnode := rf_nodes hG hX F hP (M := M) (vs := vs) rfl B.returns B.notSynchronized rfl rfl rfl rfl hv hdec (fun n hn => List.all_eq_true.mp h1 n hn) _ n (List.mem_of_getElem? hn) (lv_args 0 vs, [], ws) hstn hkp (Nat.lt_succ_self _)
    rw [h0.1] at hnode
    exact hnode _ s.heap [] hl hP0 hD va_S.rf
end RfMain
