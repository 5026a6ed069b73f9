/-! P1: contracts at some arguments alone; from a node of the checker on; the fresh slots -/
section P1Gen
variable {X : rfX} {G : rfG} {M : rfM} {w0 : va_W} {Lay : List rfL} {fl : rfFl} {cs : List (Nat × Int)} {Q : Option Value → HF → Prop} {L : List (Nat × Value)} {st : List Value} {F : HF} {pc : Nat}
theorem h_ushr (c : hC G X M w0 Lay fl cs Q) {a b : Int32} (hd : decode (mb M) pc = .ok (.iushr, 1)) (K : hW G X M w0 (pc + 1) L (.int ((a.toUInt32 >>> (b.toUInt32 &&& Int32.toUInt32 31)).toInt32) :: st) F) : hW G X M w0 pc L (.int b :: .int a :: st) F := fun ws hw hs hF ls H locs hl hP hD hS =>
  lv_iushr c.2.2.1.1 c.2.2.1.2.1 hd rfl (K ws hw hs hF ls H locs hl hP hD hS)
/-- from a node of the checker on -/
theorem h_anchor (c : hC G X M w0 Lay fl cs Q) {vs : List Value} (hQ : xQ X = MQ (xb X) (rf_Qc G M vs w0) (xa X) (xs X) 0 0 G.1.2.2.2) (hv' : rf_all (rf_av G.2.1.1 G.2.1.2.1 [] []) (mA M) vs) {P : rfP} (hP : rf_pok G (my M).cls P) {dec : List (Nat × Instr × Nat)} (hdec : rf_decs (mb M) dec) {U : rfU} {cd : rfQ} {vars : List rfV} {aps : List Nat} {fuel : Nat} {N : List rfB} (hN : N.all (rf_anc P U Lay M dec cd vars aps fuel N) = true) (hkp : rf_kp M = []) (hll : Lay.length ≤ 998) (i : Nat) {n : rfB} (hn : N[i]? = some n) (hnd : rf_nd L) (hsk : n.2.1.2.2.all (fun q => hsok Lay q.1) = true) (hL : ∀ ws, ∀ q ∈ n.2.1.1, ∃ v, (q.1, v) ∈ L ∧ rf_av G.2.1.1 G.2.1.2.1 L ws q.2 v) (hst : ∀ ws, rf_all (rf_av G.2.1.1 G.2.1.2.1 L ws) n.2.1.2.1 st) (hF : hfs (hv w0) F n.2.1.2.2) : hW G X M w0 n.1 L st F := by
  intro ws hw hs hF'
  have hLay := c.2.2.2.2.2.1
  have hw2 := hw
  rw [hLay] at hw2
  have hst' : rf_st (hE G M w0) n.2.1 (L, st, ws) := by
    refine ⟨⟨hnd, hL ws, hst ws, fun q hq => ?_⟩, hw, hs⟩
    obtain ⟨r1, r2⟩ := hfs_mk hF q hq
    rw [← hF'] at r1 r2
    obtain ⟨x, e1, e2⟩ := hs_fld hw2 hll (List.all_eq_true.mp hsk q hq)
    rw [← e2] at r1 r2
    refine ⟨x, e1, r1, ?_⟩
    match hq2 : q.2.2, r2 with
    | none, _ => trivial
    | some (g, a, b), r2 =>
      have e3 := hslot_at (ws := w0) (by rw [c.2.2.2.2.2.2.2.2.2.1]; exact hll) g.1 g.2
      simp only at r2 ⊢
      show rf_num (rf_fld w0 g.1 g.2) + a ≤ _ ∧ _ ≤ rf_num (rf_fld w0 g.1 g.2) + b
      rw [e3]
      exact r2
  exact rf_anchors c.1 c.2.1 c.2.2.1 hP hQ c.2.2.2.2.2.2.2.2.1.1 c.2.2.2.2.2.2.2.2.1.2 rfl c.2.2.2.1 c.2.2.2.2.1.1 c.2.2.2.2.1.2 hv' hdec (fun n hn => by
    show rf_anc P U G.2.1.2.2.2 M dec cd vars aps fuel N n = true
    rw [hLay]
    exact List.all_eq_true.mp hN n hn) _ n (List.mem_of_getElem? hn) (L, st, ws) hst' (fun i hi => by rw [hkp] at hi; cases hi) (Nat.lt_succ_self _)
theorem h_mthX (hG : rf_Gok G) (hy : plainName (my M).cls = true) (hwd : rf_words (mA M) ≤ mL M) (hLay : G.2.1.2.2.2 = Lay) (hfl : rf_flok (my M).cls G.2.2.1 G.1.2.2.1 fl) (hcs : rf_csok (my M).cls G.2.2.1 cs) {ws : va_W} {vs : List Value} (hv' : rf_all (rf_av G.2.1.1 G.2.1.2.1 [] []) (mA M) vs) (hw : rf_world G.2.1.1 G.2.1.2.1 G.2.1.2.2.1 G.2.1.2.2.2 ws) {Φ : va_W → Option Value → Prop} (hΦ : ∀ ws' rv, rf_world G.2.1.1 G.2.1.2.1 G.2.1.2.2.1 G.2.1.2.2.2 ws' → rf_same (mM M) ws ws' → Q rv (hv ws') → Φ ws' rv)
    (H : ∀ X, hC G X M ws Lay fl cs Q → xQ X = MQ (xb X) (h_Qc G Φ) (xa X) (xs X) 0 0 G.1.2.2.2 → hW G X M ws 0 (lv_args 0 vs) [] (hv ws)) : Met G.1.1 (my M) (rf_ws G M) (mroom M) (va_Pc vs (rf_pre G ws)) (h_Qc G Φ) 0 0 G.1.2.2.2 := by
  refine Met.ofW (cc := mb M) (maxL := mL M) (ret := mr M) hy rfl ?_
  intro p e s m args below meth c s₁ B hml hpc
  obtain ⟨rfl, hP0, hK, hD, hSF⟩ := hpc
  have hts0 := atoms_spec (ws := rf_ws G M) B.pre
  have hts : ∀ w ∈ G.2.2.1, w.before vs.toArray s = true := fun w hw => hts0 w (List.mem_cons_of_mem _ hw)
  have hown : s.vm.findClass (my M).cls = some m.cls := findClass_of_methodNamed B.named
  let X : rfX := (p, G.1.1, e, (headSpec (rf_ws G M) (mroom M)).room, s, m, vs.toArray, below, meth, c, MQ below (h_Qc G Φ) vs.toArray s 0 0 G.1.2.2.2, mL M, G.1.2.1, G.1.2.2.1, G.1.2.2.2)
  have hX : rf_in_G X (hE G M ws) G := ⟨rfl, rfl, rfl, rfl, rfl, rfl, rfl, rfl, hSF⟩
  have F : rfFx X (mb M) (my M).cls G.2.2.1 G.2.1.2.2.1 := ⟨B.exec, B.bytes, hml, hown, hts, hK⟩
  have hl := lv_entry vs (n := mL M) (by rw [rf_sl_len _ _ hv']; exact hwd)
  rw [lg_entry_eq]
  have hc : hC G X M ws Lay fl cs Q := ⟨hG, hX, F, rfl, ⟨rfl, rfl⟩, hLay, hfl, hcs, ⟨B.returns, B.notSynchronized⟩, by rw [hw.1, hLay], Φ, rfl, hΦ⟩
  exact H X hc rfl ws hw (fun _ _ _ => rfl) rfl _ s.heap [] hl hP0 hD va_S.rf
/-- a contract at the arguments of which Pv holds -/
def rf_metV (G : rfG) (M : rfM) (Pv : List Value → Prop) : Prop := ∀ (ws : va_W) (vs : List Value), Pv vs → rf_all (rf_av G.2.1.1 G.2.1.2.1 [] []) (mA M) vs → rf_world G.2.1.1 G.2.1.2.1 G.2.1.2.2.1 G.2.1.2.2.2 ws → (∀ q ∈ mP M, ∃ x : Int32, rf_fld ws q.1.1 q.1.2 = some (.int x) ∧ rf_in q.2.1 x.toInt) →
  Met G.1.1 (my M) (rf_ws G M) (mroom M) (va_Pc vs (rf_pre G ws)) (rf_Qc G M vs ws) 0 0 G.1.2.2.2
theorem rf_metV_of (h : rf_met G M) : rf_metV G M (fun _ => True) := fun ws vs _ => h ws vs
theorem h_metVX (hG : rf_Gok G) (hy : plainName (my M).cls = true) (hwd : rf_words (mA M) ≤ mL M) (hLay : G.2.1.2.2.2 = Lay) (hfl : rf_flok (my M).cls G.2.2.1 G.1.2.2.1 fl) (hcs : rf_csok (my M).cls G.2.2.1 cs) (hf : hfits Lay M = true) {Pv : List Value → Prop}
    (H : ∀ (vs : List Value) (ws : va_W) (X : rfX), rf_all (rf_av G.2.1.1 G.2.1.2.1 [] []) (mA M) vs → hrng Lay (hv ws) → (Pv vs ∧ hpre M (hv ws) ∧ rf_all (rf_av G.2.1.1 G.2.1.2.1 [] []) (mA M) vs ∧ xQ X = MQ (xb X) (rf_Qc G M vs ws) (xa X) (xs X) 0 0 G.1.2.2.2) → hC G X M ws Lay fl cs (fun rv F' => hrng Lay F' → hpost M vs (hv ws) F' rv) → hW G X M ws 0 (lv_args 0 vs) [] (hv ws)) : rf_metV G M Pv := fun ws vs hpv hv' hw hp => by
  have hf' := hf
  simp only [hfits, Bool.and_eq_true, decide_eq_true_eq] at hf'
  refine h_mthX hG hy hwd hLay hfl hcs hv' hw (Φ := fun ws' rv => rf_post G M vs ws ws' rv) (Q := fun rv F' => hrng Lay F' → hpost M vs (hv ws) F' rv) (fun ws' rv h1 h2 h3 => ?_) (fun X hc hq => H vs ws X hv' (by rw [← hLay]; exact hrng_at hw) ⟨hpv, fun q hq => ?_, hv', hq⟩ hc)
  · obtain ⟨k, hk, hkk⟩ := h3 (by rw [← hLay]; exact hrng_at h1)
    exact ⟨h1, h2, k, hk, hkok_to hLay hf'.2 hw h1 (List.all_eq_true.mp hf'.1.1.2 k hk) (List.all_eq_true.mp hf'.1.2 k hk) hkk⟩
  · obtain ⟨x, e1, e2⟩ := hp q hq
    have hl : ws.length ≤ 998 := by rw [hw.1, hLay]; exact hf'.2
    have := hslot_at hl q.1.1 q.1.2
    rw [e1] at this
    have e3 : x.toInt = hslot (hv ws) q.1 := this
    rw [← e3]
    exact e2
theorem hfs_same {F : HF} : ∀ (ps : List rfF), (∀ q ∈ ps, rf_in q.2.1 (hslot F q.1)) → hfs F F (ps.map (fun q => (q.1, q.2.1, some (q.1, 0, 0))))
  | [], _ => trivial
  | p :: ps, h => ⟨⟨h p List.mem_cons_self, by simp only; omega⟩, hfs_same ps (fun q hq => h q (List.mem_cons_of_mem _ hq))⟩
/-- from the first node of the checker on, where slots and locals are as at the start -/
theorem h_anc0 (c : hC G X M w0 Lay fl cs Q) {vs : List Value} (hQ : xQ X = MQ (xb X) (rf_Qc G M vs w0) (xa X) (xs X) 0 0 G.1.2.2.2) (hv' : rf_all (rf_av G.2.1.1 G.2.1.2.1 [] []) (mA M) vs) {P : rfP} (hP : rf_pok G (my M).cls P) {dec : List (Nat × Instr × Nat)} (hdec : rf_decs (mb M) dec) {U : rfU} {cd : rfQ} {vars : List rfV} {aps : List Nat} {fuel : Nat} {N : List rfB} (hN : N.all (rf_anc P U Lay M dec cd vars aps fuel N) = true) (hkp : rf_kp M = []) (hll : Lay.length ≤ 998) {as : List rfA} {rk : Int × List Int} {z : Nat} (hn : N[0]? = some (pc, ((rf_start M).1, as, (rf_start M).2.2), rk, z)) (hsk : (mP M).all (fun q => hsok Lay q.1) = true) (hF0 : hv w0 = F) (hp : hpre M F) (hst : ∀ ws, rf_all (rf_av G.2.1.1 G.2.1.2.1 (lv_args 0 vs) ws) as st) : hW G X M w0 pc (lv_args 0 vs) st F := by
  subst hF0
  refine h_anchor (n := (pc, ((rf_start M).1, as, (rf_start M).2.2), rk, z)) c hQ hv' hP hdec hN hkp hll 0 hn (rf_args_nd vs 0) ?_ ?_ hst (hfs_same _ hp)
  · refine List.all_eq_true.mpr (fun u hu => ?_)
    obtain ⟨q, hq, rfl⟩ := List.mem_map.mp hu
    exact List.all_eq_true.mp hsk q hq
  · intro ws q hq
    have hvb : rf_all (rf_av G.2.1.1 G.2.1.2.1 [] []) ((mA M).map rf_bare) vs := rf_all_map (fun a b h => rf_bare_av h) _ _ hv'
    obtain ⟨v, g1, g2⟩ := rf_largs_ok _ _ 0 hvb q hq
    refine ⟨v, g1, ?_⟩
    have hbare : ∀ (as : List rfA) (i : Nat), ∀ q ∈ rf_largs i (as.map rf_bare), rf_bare q.2 = q.2 := by
      intro as
      induction as with
      | nil => intro i q hq; cases hq
      | cons a as ih =>
        intro i q hq
        rcases List.mem_cons.mp hq with e | hq
        · subst e
          exact rf_bare2 a
        · exact ih _ q hq
    rw [← hbare (mA M) 0 q hq]
    exact rf_bare_av g2
theorem hupd_id {F : HF} {j k : Nat} {x : Int32} (h : x = F j k) : hupd F j k x = F := by
  subst h
  funext a b
  unfold hupd
  split
  · next e =>
    subst e
    split
    · next e2 => subst e2; rfl
    · rfl
  · rfl
/-- the first argument behind the object can be a SPELLING, or can't -/
def cbV (b : Bool) (vs : List Value) : Prop := ∃ a : Int32, vs[1]? = some (.int a) ∧ (cbI a.toInt ↔ b = true)
-- THE FRESH SLOTS
def frL : List ((Nat × Nat) × Int) := [((5, 4), 0), ((5, 5), 4), ((5, 6), 2), ((5, 7), 13), ((5, 8), 0), ((5, 9), 0), ((5, 10), 0), ((5, 11), 0), ((5, 12), 0), ((10, 4), 0), ((10, 5), 4), ((10, 6), 2), ((10, 7), 13), ((10, 8), 0), ((10, 9), 0), ((10, 10), 0), ((10, 11), 0), ((10, 12), 0), ((11, 2), 0), ((11, 3), 0), ((11, 4), 0), ((11, 5), 0), ((11, 6), 0), ((11, 7), 0), ((11, 8), 0), ((11, 9), -1), ((12, 34), 0), ((12, 35), 0), ((12, 36), 0), ((16, 2), 0), ((16, 3), 0), ((16, 4), 0), ((16, 5), 0), ((20, 3), 0), ((20, 4), 0), ((22, 1), 0), ((22, 2), -1), ((22, 3), 0), ((22, 4), 0), ((24, 1), 0), ((24, 2), -1), ((24, 3), 0), ((24, 4), 0), ((26, 1), 0), ((26, 2), -1), ((26, 3), 0), ((26, 4), 0), ((28, 1), 0), ((28, 2), -1), ((28, 3), 0), ((28, 4), 0), ((30, 1), 0), ((30, 2), -1), ((30, 3), 0), ((30, 4), 0), ((32, 1), 0), ((32, 2), -1), ((32, 3), 0), ((32, 4), 0), ((34, 1), 0), ((34, 2), -1), ((34, 3), 0), ((34, 4), 0), ((36, 1), 0), ((36, 2), -1), ((36, 3), 0), ((36, 4), 0), ((38, 1), 0), ((38, 2), -1), ((38, 3), 0), ((38, 4), 0), ((40, 1), 0), ((40, 2), -1), ((40, 3), 0), ((40, 4), 0), ((42, 1), 0), ((42, 2), -1), ((42, 3), 0), ((42, 4), 0), ((44, 1), 0), ((44, 2), -1), ((44, 3), 0), ((44, 4), 0), ((46, 1), 0), ((46, 2), -1), ((46, 3), 0), ((46, 4), 0), ((48, 1), 0), ((48, 2), -1), ((48, 3), 0), ((48, 4), 0), ((50, 1), 0), ((50, 2), -1), ((50, 3), 0), ((50, 4), 0), ((58, 4), 1000), ((58, 5), -1), ((58, 6), -1), ((58, 7), 0), ((61, 4), 0), ((68, 8), 0), ((68, 9), 0), ((70, 1), 0), ((70, 14), 0), ((73, 0), 0), ((74, 0), 0), ((75, 0), 4), ((76, 0), 2), ((77, 0), 13), ((78, 0), 0), ((79, 0), 0), ((80, 0), 0), ((90, 28), 0), ((90, 29), 0), ((90, 36), 0), ((113, 0), 0), ((113, 1), 0), ((113, 2), 0), ((114, 2), 0), ((114, 3), 0), ((114, 4), 0), ((114, 5), -1), ((114, 6), 0), ((114, 7), 0), ((114, 8), 0), ((114, 9), 0), ((114, 28), 0), ((114, 29), 0), ((114, 30), 0), ((114, 31), 0), ((114, 32), 0), ((114, 33), 0), ((114, 34), 0), ((114, 39), 0), ((114, 44), 0), ((114, 45), 0), ((114, 48), 0), ((114, 55), 0), ((114, 56), 0), ((114, 63), 0), ((114, 64), 0)]
def frOK (F : HF) : Prop := ∀ q ∈ frL, (F q.1.1 q.1.2).toInt = q.2
def frchk (ms : List (Nat × Nat)) (M : rfM) : Bool := (mP M).all (fun q => !(q.1.1 == 998) && !(rf_mod ms q.1.1 q.1.2) && frL.any (fun f => f.1 == q.1 && q.2.1 == (f.2, f.2, 0)))
theorem fr_pre {M : rfM} {F F1 : HF} {ms : List (Nat × Nat)} (h : frOK F) (hf : hframe ms F F1) (hc : frchk ms M = true) : hpre M F1 := by
  intro q hq
  have h1 := List.all_eq_true.mp hc q hq
  simp only [Bool.and_eq_true, Bool.not_eq_true', beq_eq_false_iff_ne, List.any_eq_true, beq_iff_eq] at h1
  obtain ⟨⟨h2, h3⟩, f, hfm, e1, e2⟩ := h1
  have h4 := h f hfm
  rw [e1] at h4
  have h5 : hslot F1 q.1 = f.2 := by
    unfold hslot
    rw [if_neg h2, hf q.1.1 q.1.2 h2 h3]
    exact h4
  rw [h5, e2]
  exact ⟨Int.le_refl _, Int.le_refl _, 0, by simp⟩
theorem fr_at {F : HF} (h : frOK F) (i : Nat) {j k : Nat} {n : Int} (hq : frL[i]? = some ((j, k), n)) : (F j k).toInt = n := h ((j, k), n) (List.mem_of_getElem? hq)
/-- all ways to end answer n -/
def hconst (M : rfM) (n : Int) : Bool := (mK M).all (fun k => match k.1 with
  | some (.inl (r, _)) => decide (r.1 = n) && decide (r.2.1 = n)
  | _ => false)
theorem hpost_const {M : rfM} {vs : List Value} {F F' : HF} {x : Int32} {n : Int} (hi : hconst M n = true) (h : hpost M vs F F' (some (.int x))) : x.toInt = n := by
  obtain ⟨k, hk, hkk⟩ := h
  have := List.all_eq_true.mp hi k hk
  obtain ⟨h1, -, -⟩ := hkk
  split at this
  · next r y e =>
    rw [e] at h1
    obtain ⟨z, e1, e2⟩ := h1
    cases e1
    simp only [Bool.and_eq_true, decide_eq_true_eq] at this
    have a1 := e2.1
    have a2 := e2.2.1
    omega
  · cases this
theorem ushr0 (b : Int32) : ((0 : Int32).toUInt32 >>> (b.toUInt32 &&& Int32.toUInt32 31)).toInt32 = 0 := by
  have e : (0 : Int32).toUInt32 = 0 := by decide +kernel
  rw [e, UInt32.zero_shiftRight]
  decide +kernel
theorem h_ushr0 (c : hC G X M w0 Lay fl cs Q) {b : Int32} (hd : decode (mb M) pc = .ok (.iushr, 1)) (K : hW G X M w0 (pc + 1) L (.int 0 :: st) F) : hW G X M w0 pc L (.int b :: .int 0 :: st) F := h_ushr c hd (by rw [ushr0]; exact K)
theorem h_and0 (c : hC G X M w0 Lay fl cs Q) {b : Int32} (hd : decode (mb M) pc = .ok (.iand, 1)) (K : hW G X M w0 (pc + 1) L (.int 0 :: st) F) : hW G X M w0 pc L (.int b :: .int 0 :: st) F := h_and c hd (by rw [Int32.zero_and]; exact K)
theorem h_sub0 (c : hC G X M w0 Lay fl cs Q) (hd : decode (mb M) pc = .ok (.isub, 1)) (K : hW G X M w0 (pc + 1) L (.int 0 :: st) F) : hW G X M w0 pc L (.int 0 :: .int 0 :: st) F := h_subW c hd (by rw [show (0 : Int32) - 0 = 0 by decide]; exact K)
theorem h_add0 (c : hC G X M w0 Lay fl cs Q) (hd : decode (mb M) pc = .ok (.iadd, 1)) (K : hW G X M w0 (pc + 1) L (.int 0 :: st) F) : hW G X M w0 pc L (.int 0 :: .int 0 :: st) F := h_addW c hd (by rw [show (0 : Int32) + 0 = 0 by decide]; exact K)
end P1Gen
