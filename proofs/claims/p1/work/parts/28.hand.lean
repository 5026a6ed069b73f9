/-! BY HAND: calls and whole methods -/
section RfHand2
variable {X : rfX} {G : rfG} {M : rfM} {w0 : va_W} {Lay : List rfL} {fl : rfFl} {cs : List (Nat × Int)} {Q : Option Value → HF → Prop} {L : List (Nat × Value)} {st : List Value} {F : HF} {pc : Nat}
theorem h_callW {Φ : va_W → Option Value → Prop} {H : Heap} {locs : List Loc} {ls : Array Slot} {st0 rest : List Value} {a : Array Value} {p : Program} {l : Launch} {e : Env} {R : Room} {s : State} {m : MethodId} {args : Array Value} {below : List Frame} {meth : Method} {c : Code} {Q : State → Prop} (hr : va_Run p l e R s m args below meth c H locs 0 0 0 0 (F0 m pc ls st0) rest (h_Qc G Φ a) G.1.2.2.2) (hS : va_S G.1.2.2.2 s.heap H locs)
    (kk : ∀ (rv : Option Value) (ws' : va_W) (H1 : Heap) (locs1 : List Loc), Φ ws' rv → va_P G.1.2.1 G.1.2.2.1 ws' H1 → va_D G.1.2.2.2 ws' → va_S G.1.2.2.2 s.heap H1 locs1 → W p l e R s m args below meth c H1 locs1 0 0 Q (F0 m (pc + 3) ls (rv.toList ++ rest))) : W p l e R s m args below meth c H locs 0 0 Q (F0 m pc ls st0) := by
  intro T hT X
  obtain ⟨v, st₀, t, T', L, h0, X', hL, e1, e2, ⟨⟨rv, ws', hv, hp, hP, hD⟩, hz, hk⟩, st⟩ := hr T hT X
  cases hv
  rw [h0] at hz hk
  obtain ⟨t2, a1, b1⟩ := kk v ws' T'.heap (locs ++ L) hp (by rw [e1]; exact hP) hD
    ⟨Nat.le_trans hS.1 (by rw [e1]; exact hz), fun q h1 h2 => by rw [e1, hk q (Nat.lt_of_lt_of_le h1 hS.1) h2]; exact hS.2.1 q h1 h2, fun q hq => by
      rcases List.mem_append.mp hq with h | h
      · exact hS.2.2 q h
      · exact hL q h⟩ T' rfl X'
  exact ⟨t2, st t2 a1, b1⟩
theorem h_runS {E : rfE} {cc : ByteArray} {own : String} (hG : rf_Gok G) (hX : rf_in_G X E G) (F : rfFx X cc own G.2.2.1 E.2.2.1) {M : rfM} {Φ : va_W → Option Value → Prop} {i : Nat} (hl : rf_linkS G own i M) (hd : decode cc pc = .ok (.invokestatic i, 3)) (hR : M.2.1.1 + 1 ≤ (xR X).frames ∧ 8 + (mL M + 11) + M.2.1.2 ≤ (xR X).locals)
    {ws : va_W} {vs rest : List Value} (hM : Met G.1.1 (my M) (rf_ws G M) (mroom M) (va_Pc vs (rf_pre G ws)) (h_Qc G Φ) 0 0 G.1.2.2.2) (hlen : vs.length = (mA M).length) (hcat : (rest.map fun v => v.category).sum ≤ 8)
    (K : ∀ (rv : Option Value) (ws' : va_W), Φ ws' rv → rfW X (pc + 3) (L, rv.toList ++ rest, ws')) : rfW X pc (L, vs.reverse ++ rest, ws) := by
  intro ls H locs hll hP hD hS
  have hX' := hX
  obtain ⟨e1, e2, e3, e4, e5, e6, e7, e8, e9⟩ := hX'
  obtain ⟨⟨lk, l2, l3, l4, l5, l6⟩, l7⟩ := hl
  have hts := F.2.2.2.2.1
  have hM' := hM
  rw [← e1, ← e4] at hM'
  have hpre := rf_pre_at hG hX F hP hD hS vs
  have run : va_Run (xp X) (xl X) (xe X) (xR X) (xs X) (xm X) (xa X) (xb X) (xt X) (xc X) H locs 0 0 0 0 (F0 (xm X) pc ls (vs.reverse ++ rest)) rest (h_Qc G Φ vs.toArray) (xA X) := by
    rcases lk with lk | ⟨host, lk⟩
    · exact va_runS (As := vs) (rest := rest) ⟨F.1, F.2.1, F.2.2.1, F.2.2.2.1, hts⟩ hM' ⟨callB_of (mA M).length hts (rf_good hG l3) rfl rfl rfl (hts _ l2) (hts _ lk) ⟨l4, l5, l6⟩ hR, hts _ l7⟩ ⟨rf_blind hG vs ws, hpre⟩ rfl hlen hll.1 rfl (lv_room (rest := vs.reverse ++ rest) hcat) hd ⟨Nat.zero_le _, Nat.zero_le _⟩
    · exact va_runSN (As := vs) (rest := rest) ⟨F.1, F.2.1, F.2.2.1, F.2.2.2.1, hts⟩ hM' ⟨va_cnB (mA M).length hts (rf_good hG l3) rfl rfl rfl (lk _ e9) (hts _ l2) ⟨l4, l5, l6⟩ hR, hts _ l7, trivial⟩ ⟨rf_blind hG vs ws, hpre⟩ rfl hlen hll.1 rfl (lv_room (rest := vs.reverse ++ rest) hcat) hd ⟨Nat.zero_le _, Nat.zero_le _⟩
  rw [e4] at run hS
  refine h_callW run hS (fun rv ws' H1 locs1 hq hP1 hD1 hS1 => ?_)
  exact K rv ws' hq ls H1 locs1 hll (by rw [e2, e3]; exact hP1) (by rw [e4]; exact hD1) (by rw [e4]; exact hS1)
theorem h_runV {E : rfE} {cc : ByteArray} {own : String} (hG : rf_Gok G) (hX : rf_in_G X E G) (F : rfFx X cc own G.2.2.1 E.2.2.1) {M : rfM} {Φ : va_W → Option Value → Prop} {i ci : Nat} (hl : rf_linkV G own i ci M) (hd : decode cc pc = .ok (.invokevirtual i, 3)) (hR : M.2.1.1 + 1 ≤ (xR X).frames ∧ 8 + (mL M + 11) + M.2.1.2 ≤ (xR X).locals)
    {ws : va_W} {b : Nat} {vs rest : List Value} (hb : ∀ (H : Heap) (locs : List Loc), va_P (xD X) (xk X) ws H → va_S (xA X) (xs X).heap H locs → ∃ cell : Cell, H[b]? = some cell ∧ cell.vm.isStatics = false ∧ (xs X).vm.findClass (my M).cls = some cell.cls) (hM : Met G.1.1 (my M) (rf_ws G M) (mroom M) (va_Pc (.ref b :: vs) (rf_pre G ws)) (h_Qc G Φ) 0 0 G.1.2.2.2) (hlen : vs.length = (mA M).length - 1) (hcat : (rest.map fun v => v.category).sum ≤ 8)
    (K : ∀ (rv : Option Value) (ws' : va_W), Φ ws' rv → rfW X (pc + 3) (L, rv.toList ++ rest, ws')) : rfW X pc (L, vs.reverse ++ .ref b :: rest, ws) := by
  intro ls H locs hll hP hD hS
  have hX' := hX
  obtain ⟨e1, e2, e3, e4, e5, e6, e7, e8, e9⟩ := hX'
  obtain ⟨⟨lk, l2, l3, l4, l5, l6⟩, l7, l8, -⟩ := hl
  have hts := F.2.2.2.2.1
  have hM' := hM
  rw [← e1, ← e4] at hM'
  have hpre := rf_pre_at hG hX F hP hD hS (.ref b :: vs)
  have hrecv := hb H locs hP hS
  have run : va_Run (xp X) (xl X) (xe X) (xR X) (xs X) (xm X) (xa X) (xb X) (xt X) (xc X) H locs 0 0 0 0 (F0 (xm X) pc ls (vs.reverse ++ .ref b :: rest)) rest (h_Qc G Φ (Value.ref b :: vs).toArray) (xA X) := by
    rcases lk with lk | ⟨host, lk⟩
    · exact va_runV (C := (my M).cls) (As := vs) (rest := rest) ⟨F.1, F.2.1, F.2.2.1, F.2.2.2.1, hts⟩ hM' ⟨callB_of ((mA M).length - 1) hts (rf_good hG l3) rfl rfl rfl (hts _ l2) (hts _ lk) ⟨l4, l5, l6⟩ hR, hts _ l7, hts _ l8⟩ ⟨rf_blind hG _ ws, hrecv, hpre⟩ rfl hlen hll.1 rfl (lv_room (rest := vs.reverse ++ .ref b :: rest) hcat) hd ⟨Nat.zero_le _, Nat.zero_le _⟩
    · exact va_runVN (C := (my M).cls) (As := vs) (rest := rest) ⟨F.1, F.2.1, F.2.2.1, F.2.2.2.1, hts⟩ hM' ⟨va_cnB ((mA M).length - 1) hts (rf_good hG l3) rfl rfl rfl (lk _ e9) (hts _ l2) ⟨l4, l5, l6⟩ hR, hts _ l7, hts _ l8⟩ ⟨rf_blind hG _ ws, hrecv, hpre⟩ rfl hlen hll.1 rfl (lv_room (rest := vs.reverse ++ .ref b :: rest) hcat) hd ⟨Nat.zero_le _, Nat.zero_le _⟩
  rw [e4] at run hS
  refine h_callW run hS (fun rv ws' H1 locs1 hq hP1 hD1 hS1 => ?_)
  exact K rv ws' hq ls H1 locs1 hll (by rw [e2, e3]; exact hP1) (by rw [e4]; exact hD1) (by rw [e4]; exact hS1)
/-- the slot is one that holds a number, or a ghost -/
def hsok (Lay : List rfL) (q : Nat × Nat) : Bool := q.1 == 998 || (rf_layr Lay q.1 q.2).isSome
theorem hs_fld {Lay : List rfL} {ad sp : Nat → Nat} {tys : List (ClassId × FieldType)} {ws : va_W} (hw : rf_world ad sp tys Lay ws) (hll : Lay.length ≤ 998) {q : Nat × Nat} (h : hsok Lay q = true) : ∃ x : Int32, rf_fld ws q.1 q.2 = some (.int x) ∧ x.toInt = hslot (hv ws) q := by
  simp only [hsok, Bool.or_eq_true, beq_iff_eq] at h
  have hl : ws.length ≤ 998 := by rw [hw.1]; exact hll
  have hn := hslot_at hl q.1 q.2
  rcases h with h | h
  · obtain ⟨q1, q2⟩ := q
    simp only at h
    subst h
    have hnn : ws[998]? = none := List.getElem?_eq_none hl
    refine ⟨if rf_ghb ws q2 then 1 else 0, by simp [rf_fld, hnn, rf_gh], ?_⟩
    rw [← hn]
    simp [rf_fld, hnn, rf_gh, rf_num]
  · obtain ⟨r, hr⟩ := Option.isSome_iff_exists.mp h
    obtain ⟨h1, h2⟩ := hv_some hw hr
    refine ⟨_, h1, ?_⟩
    rw [← hn, h1]
    rfl
/-- a way to end, over numbers -/
def hkok (k : rfK) (vs : List Value) (F F' : HF) (rv : Option Value) : Prop := (match k.1, rv with
    | none, none => True
    | some (.inl (r, _)), some v => ∃ x : Int32, v = .int x ∧ rf_in r x.toInt
    | _, _ => False) ∧ (∀ q ∈ k.2.1, ∃ x : Int32, vs[q.1]? = some (.int x) ∧ q.2.1 ≤ x.toInt ∧ x.toInt ≤ q.2.2) ∧ ∀ q ∈ k.2.2, rf_in q.2.1 (hslot F' q.1) ∧ (match q.2.2 with
    | none => True
    | some (g, a, b) => hslot F g + a ≤ hslot F' q.1 ∧ hslot F' q.1 ≤ hslot F g + b)
def hkint (k : rfK) : Bool := match k.1 with
  | none => true
  | some (.inl (_, none)) => true
  | _ => false
theorem hkok_of {Lay : List rfL} (hLay : G.2.1.2.2.2 = Lay) (hll : Lay.length ≤ 998) {ws ws' : va_W} (hw : rf_world G.2.1.1 G.2.1.2.1 G.2.1.2.2.1 G.2.1.2.2.2 ws) (hw' : rf_world G.2.1.1 G.2.1.2.1 G.2.1.2.2.1 G.2.1.2.2.2 ws') {k : rfK} (hi : hkint k = true) {vs : List Value} {rv : Option Value} (h : rf_kok G k vs ws ws' rv) : hkok k vs (hv ws) (hv ws') rv := by
  have hl : ws.length ≤ 998 := by rw [hw.1, hLay]; exact hll
  have hl' : ws'.length ≤ 998 := by rw [hw'.1, hLay]; exact hll
  obtain ⟨h1, h2, h3⟩ := h
  refine ⟨?_, h2, fun q hq => ?_⟩
  · unfold hkint at hi
    split at hi
    · next e =>
      rw [e] at h1 ⊢
      match rv, h1 with
      | none, _ => trivial
    · next r e =>
      rw [e] at h1 ⊢
      match rv, h1 with
      | some v, ⟨x, e1, e2, _⟩ => exact ⟨x, e1, e2⟩
    · cases hi
  · obtain ⟨x, e, r1, r2⟩ := h3 q hq
    have en := hslot_at hl' q.1.1 q.1.2
    rw [e] at en
    have en' : x.toInt = hslot (hv ws') q.1 := en
    refine ⟨by rw [← en']; exact r1, ?_⟩
    match hq2 : q.2.2, r2 with
    | none, _ => trivial
    | some (g, a, b), r2 =>
      have e3 := hslot_at hl g.1 g.2
      simp only at r2 ⊢
      rw [e3, en'] at r2
      exact r2
theorem hkok_to {Lay : List rfL} (hLay : G.2.1.2.2.2 = Lay) (hll : Lay.length ≤ 998) {ws ws' : va_W} (hw : rf_world G.2.1.1 G.2.1.2.1 G.2.1.2.2.1 G.2.1.2.2.2 ws) (hw' : rf_world G.2.1.1 G.2.1.2.1 G.2.1.2.2.1 G.2.1.2.2.2 ws') {k : rfK} (hi : hkint k = true) (hsk : k.2.2.all (fun q => hsok Lay q.1) = true) {vs : List Value} {rv : Option Value} (h : hkok k vs (hv ws) (hv ws') rv) : rf_kok G k vs ws ws' rv := by
  have hl : ws.length ≤ 998 := by rw [hw.1, hLay]; exact hll
  obtain ⟨h1, h2, h3⟩ := h
  refine ⟨?_, h2, fun q hq => ?_⟩
  · unfold hkint at hi
    split at hi
    · next e =>
      rw [e] at h1 ⊢
      match rv, h1 with
      | none, _ => trivial
    · next r e =>
      rw [e] at h1 ⊢
      match rv, h1 with
      | some v, ⟨x, e1, e2⟩ => exact ⟨x, e1, e2, trivial⟩
    · cases hi
  · obtain ⟨r1, r2⟩ := h3 q hq
    rw [hLay] at hw'
    obtain ⟨x, e1, e2⟩ := hs_fld hw' hll (List.all_eq_true.mp hsk q hq)
    rw [← e2] at r1 r2
    refine ⟨x, e1, r1, ?_⟩
    match hq2 : q.2.2, r2 with
    | none, _ => trivial
    | some (g, a, b), r2 =>
      have e3 := hslot_at hl g.1 g.2
      simp only at r2 ⊢
      rw [e3]
      exact r2
theorem h_sub2 {M' : rfM} (hm : rf_msub (mM M') (mM M) = true) {ws ws' : va_W} (hs : rf_same (mM M) w0 ws) (hs' : rf_same (mM M') ws ws') : rf_same (mM M) w0 ws' := fun j k h => by
  rw [hs' j k (by cases hq : rf_mod (mM M') j k with
    | false => rfl
    | true => rw [rf_msub_ok hm j k hq] at h; cases h)]
  exact hs j k h
/-- may M' be called from M: mods, room -/
def hcan (Lay : List rfL) (M M' : rfM) : Bool := rf_msub (mM M') (mM M) && decide (M'.2.1.1 + 1 ≤ M.2.1.1) && decide (8 + (mL M' + 11) + M'.2.1.2 ≤ M.2.1.2)
def hfits (Lay : List rfL) (M' : rfM) : Bool := (mP M').all (fun q => hsok Lay q.1) && (mK M').all hkint && (mK M').all (fun k => k.2.2.all (fun q => hsok Lay q.1)) && decide (Lay.length ≤ 998)
def hpre (M' : rfM) (F : HF) : Prop := ∀ q ∈ mP M', rf_in q.2.1 (hslot F q.1)
def hpost (M' : rfM) (vs : List Value) (F F' : HF) (rv : Option Value) : Prop := ∃ k ∈ mK M', hkok k vs F F' rv
/-- a contract over numbers -/
def h_met (G : rfG) (M : rfM) (Pre : List Value → HF → Prop) (Post : List Value → HF → HF → Option Value → Prop) : Prop := ∀ (ws : va_W) (vs : List Value), rf_all (rf_av G.2.1.1 G.2.1.2.1 [] []) (mA M) vs → rf_world G.2.1.1 G.2.1.2.1 G.2.1.2.2.1 G.2.1.2.2.2 ws → Pre vs (hv ws) →
  Met G.1.1 (my M) (rf_ws G M) (mroom M) (va_Pc vs (rf_pre G ws)) (h_Qc G (fun ws' rv => rf_world G.2.1.1 G.2.1.2.1 G.2.1.2.2.1 G.2.1.2.2.2 ws' ∧ rf_same (mM M) ws ws' ∧ Post vs (hv ws) (hv ws') rv)) 0 0 G.1.2.2.2
theorem h_pre_of {M' : rfM} (hLay : G.2.1.2.2.2 = Lay) (hf : hfits Lay M' = true) {ws : va_W} (hw : rf_world G.2.1.1 G.2.1.2.1 G.2.1.2.2.1 G.2.1.2.2.2 ws) (hp : hpre M' (hv ws)) : ∀ q ∈ mP M', ∃ x : Int32, rf_fld ws q.1.1 q.1.2 = some (.int x) ∧ rf_in q.2.1 x.toInt := fun q hq => by
  simp only [hfits, Bool.and_eq_true, decide_eq_true_eq] at hf
  rw [hLay] at hw
  obtain ⟨x, e1, e2⟩ := hs_fld hw hf.2 (List.all_eq_true.mp hf.1.1.1 q hq)
  exact ⟨x, e1, by rw [e2]; exact hp q hq⟩
theorem h_rest (c : hC G X M w0 Lay fl cs Q) {ws : va_W} (hw : rf_world G.2.1.1 G.2.1.2.1 G.2.1.2.2.1 G.2.1.2.2.2 ws) {ws' : va_W} (hw' : rf_world G.2.1.1 G.2.1.2.1 G.2.1.2.2.1 G.2.1.2.2.2 ws') : ws'.length = ws.length := by rw [hw.1, hw'.1]
theorem hv_same0 {ms : List (Nat × Nat)} {ws ws' : va_W} (hl : ws'.length = ws.length) (h : rf_same ms ws ws') (e : ms = []) : hv ws' = hv ws := by
  subst e
  funext j k
  cases hj : ws[j]? with
  | none =>
    have hj' : ws'[j]? = none := List.getElem?_eq_none (by rw [hl]; exact List.getElem?_eq_none_iff.mp hj)
    simp [hv, rf_raw, hj, hj']
  | some q =>
    obtain ⟨q', hq'⟩ : ∃ q', ws'[j]? = some q' := ⟨_, List.getElem?_eq_getElem (by rw [hl]; exact (List.getElem?_eq_some_iff.mp hj).1)⟩
    have := h j k rfl
    rw [rf_raw_fld hj, rf_raw_fld hq'] at this
    simp only [hv, this]
/-- a static method with a checker's contract is called -/
theorem h_callS (c : hC G X M w0 Lay fl cs Q) {M' : rfM} (hM : rf_met G M') (hf : hfits Lay M' = true) (hc : hcan Lay M M' = true) {i : Nat} (hl : rf_linkS G (my M).cls i M') (hd : decode (mb M) pc = .ok (.invokestatic i, 3)) (vs : List Value) {sv rest : List Value} (hsv : sv = vs.reverse ++ rest) (hv' : rf_all (rf_av G.2.1.1 G.2.1.2.1 [] []) (mA M') vs) (hcat : (rest.map fun v => v.category).sum ≤ 8) (hp : hpre M' F)
    (K : ∀ (rv : Option Value) (F' : HF), hframe (mM M') F F' → hrng Lay F' → hpost M' vs F F' rv → (mM M' = [] → F' = F) → hW G X M w0 (pc + 3) L (rv.toList ++ rest) F') : hW G X M w0 pc L sv F := by
  intro ws hw hs hF
  subst hF; subst hsv
  have hLay := c.2.2.2.2.2.1
  have hf' := hf
  simp only [hfits, Bool.and_eq_true, decide_eq_true_eq] at hf'
  simp only [hcan, Bool.and_eq_true, decide_eq_true_eq] at hc
  have hm := hM ws vs hv' hw (h_pre_of hLay hf hw hp)
  refine h_runS c.1 c.2.1 c.2.2.1 (M := M') (Φ := fun ws' rv => rf_post G M' vs ws ws' rv) hl hd (by rw [c.2.2.2.2.1.1, c.2.2.2.2.1.2]; exact ⟨hc.1.2, hc.2⟩) hm (rf_all_len _ _ hv').symm hcat (fun rv ws' ⟨h1, h2, k, hk, hkk⟩ => ?_)
  have hw2 := h1
  refine K rv (hv ws') (hframe_at (h_rest c hw h1) h2) (by rw [← hLay]; exact hrng_at h1) ⟨k, hk, hkok_of hLay hf'.2 hw h1 (List.all_eq_true.mp hf'.1.1.2 k hk) hkk⟩ (hv_same0 (h_rest c hw h1) h2) ws' h1 (h_sub2 hc.1.1 hs h2) rfl
theorem h_callSF (c : hC G X M w0 Lay fl cs Q) {M' : rfM} {Pre : List Value → HF → Prop} {Post : List Value → HF → HF → Option Value → Prop} (hM : h_met G M' Pre Post) (hc : hcan Lay M M' = true) {i : Nat} (hl : rf_linkS G (my M).cls i M') (hd : decode (mb M) pc = .ok (.invokestatic i, 3)) (vs : List Value) {sv rest : List Value} (hsv : sv = vs.reverse ++ rest) (hv' : rf_all (rf_av G.2.1.1 G.2.1.2.1 [] []) (mA M') vs) (hcat : (rest.map fun v => v.category).sum ≤ 8) (hp : Pre vs F)
    (K : ∀ (rv : Option Value) (F' : HF), hframe (mM M') F F' → hrng Lay F' → Post vs F F' rv → (mM M' = [] → F' = F) → hW G X M w0 (pc + 3) L (rv.toList ++ rest) F') : hW G X M w0 pc L sv F := by
  intro ws hw hs hF
  subst hF; subst hsv
  have hLay := c.2.2.2.2.2.1
  simp only [hcan, Bool.and_eq_true, decide_eq_true_eq] at hc
  have hm := hM ws vs hv' hw hp
  refine h_runS c.1 c.2.1 c.2.2.1 (M := M') hl hd (by rw [c.2.2.2.2.1.1, c.2.2.2.2.1.2]; exact ⟨hc.1.2, hc.2⟩) hm (rf_all_len _ _ hv').symm hcat (fun rv ws' ⟨h1, h2, h3⟩ => ?_)
  exact K rv (hv ws') (hframe_at (h_rest c hw h1) h2) (by rw [← hLay]; exact hrng_at h1) h3 (hv_same0 (h_rest c hw h1) h2) ws' h1 (h_sub2 hc.1.1 hs h2) rfl
theorem h_recv (c : hC G X M w0 Lay fl cs Q) {M' : rfM} {i ci j : Nat} {own : String} {fs : List rfA} (hl : rf_linkV G own i ci M') (h1 : Lay[j]? = some (.inl (ci, fs))) (h2 : ¬ ci = 1000) {ws : va_W} (hw : rf_world G.2.1.1 G.2.1.2.1 G.2.1.2.2.1 G.2.1.2.2.2 ws) : ∀ (H : Heap) (locs : List Loc), va_P (xD X) (xk X) ws H → va_S (xA X) (xs X).heap H locs → ∃ cell : Cell, H[G.2.1.1 j]? = some cell ∧ cell.vm.isStatics = false ∧ (xs X).vm.findClass (my M').cls = some cell.cls := by
  intro H locs hP hS
  obtain ⟨e1, e2, e3, e4, e5, e6, e7, e8, e9⟩ := c.2.1
  rw [← c.2.2.2.2.2.1] at h1
  obtain ⟨en, hen, vs2, rfl, -⟩ := hw.2 j _ h1
  rcases hl.2.2.2 with ⟨-, T, N, l9⟩ | ⟨l9, -⟩
  · exact va_recv c.2.2.1.2.2.2.2.2 hP (by rw [e3]; exact l9) hen
  · exact absurd l9 h2
def hcls (Lay : List rfL) (j ci : Nat) : Bool := !(ci == 1000) && (match Lay[j]? with
  | some (.inl (c', _)) => c' == ci
  | _ => false)
theorem hcls_at {j ci : Nat} (h : hcls Lay j ci = true) : ¬ ci = 1000 ∧ ∃ fs, Lay[j]? = some (.inl (ci, fs)) := by
  simp only [hcls, Bool.and_eq_true, Bool.not_eq_true', beq_eq_false_iff_ne] at h
  refine ⟨h.1, ?_⟩
  have h2 := h.2
  split at h2
  · next c' fs hL =>
    simp only [beq_iff_eq] at h2
    subst h2
    exact ⟨fs, hL⟩
  · cases h2
/-- a method of the object in cell j, with a checker's contract, is called -/
theorem h_callV (c : hC G X M w0 Lay fl cs Q) {M' : rfM} (hM : rf_met G M') (hf : hfits Lay M' = true) (hc : hcan Lay M M' = true) {i ci j : Nat} (hl : rf_linkV G (my M).cls i ci M') (hj : hcls Lay j ci = true) (hd : decode (mb M) pc = .ok (.invokevirtual i, 3)) (vs : List Value) {sv rest : List Value} (hsv : sv = vs.reverse ++ .ref (G.2.1.1 j) :: rest) (hv' : rf_all (rf_av G.2.1.1 G.2.1.2.1 [] []) (mA M') (.ref (G.2.1.1 j) :: vs)) (hcat : (rest.map fun v => v.category).sum ≤ 8) (hp : hpre M' F)
    (K : ∀ (rv : Option Value) (F' : HF), hframe (mM M') F F' → hrng Lay F' → hpost M' (.ref (G.2.1.1 j) :: vs) F F' rv → (mM M' = [] → F' = F) → hW G X M w0 (pc + 3) L (rv.toList ++ rest) F') : hW G X M w0 pc L sv F := by
  intro ws hw hs hF
  subst hF; subst hsv
  have hLay := c.2.2.2.2.2.1
  have hf' := hf
  simp only [hfits, Bool.and_eq_true, decide_eq_true_eq] at hf'
  simp only [hcan, Bool.and_eq_true, decide_eq_true_eq] at hc
  obtain ⟨h9, fs, hfs⟩ := hcls_at hj
  have hm := hM ws (.ref (G.2.1.1 j) :: vs) hv' hw (h_pre_of hLay hf hw hp)
  have hlen : vs.length = (mA M').length - 1 := by have := rf_all_len _ _ hv'; simp at this; omega
  refine h_runV c.1 c.2.1 c.2.2.1 (M := M') (Φ := fun ws' rv => rf_post G M' (.ref (G.2.1.1 j) :: vs) ws ws' rv) hl hd (by rw [c.2.2.2.2.1.1, c.2.2.2.2.1.2]; exact ⟨hc.1.2, hc.2⟩) (h_recv c hl hfs h9 hw) hm hlen hcat (fun rv ws' ⟨h1, h2, k, hk, hkk⟩ => ?_)
  refine K rv (hv ws') (hframe_at (h_rest c hw h1) h2) (by rw [← hLay]; exact hrng_at h1) ⟨k, hk, hkok_of hLay hf'.2 hw h1 (List.all_eq_true.mp hf'.1.1.2 k hk) hkk⟩ (hv_same0 (h_rest c hw h1) h2) ws' h1 (h_sub2 hc.1.1 hs h2) rfl
theorem h_callVF (c : hC G X M w0 Lay fl cs Q) {M' : rfM} {Pre : List Value → HF → Prop} {Post : List Value → HF → HF → Option Value → Prop} (hM : h_met G M' Pre Post) (hc : hcan Lay M M' = true) {i ci j : Nat} (hl : rf_linkV G (my M).cls i ci M') (hj : hcls Lay j ci = true) (hd : decode (mb M) pc = .ok (.invokevirtual i, 3)) (vs : List Value) {sv rest : List Value} (hsv : sv = vs.reverse ++ .ref (G.2.1.1 j) :: rest) (hv' : rf_all (rf_av G.2.1.1 G.2.1.2.1 [] []) (mA M') (.ref (G.2.1.1 j) :: vs)) (hcat : (rest.map fun v => v.category).sum ≤ 8) (hp : Pre (.ref (G.2.1.1 j) :: vs) F)
    (K : ∀ (rv : Option Value) (F' : HF), hframe (mM M') F F' → hrng Lay F' → Post (.ref (G.2.1.1 j) :: vs) F F' rv → (mM M' = [] → F' = F) → hW G X M w0 (pc + 3) L (rv.toList ++ rest) F') : hW G X M w0 pc L sv F := by
  intro ws hw hs hF
  subst hF; subst hsv
  have hLay := c.2.2.2.2.2.1
  simp only [hcan, Bool.and_eq_true, decide_eq_true_eq] at hc
  obtain ⟨h9, fs, hfs⟩ := hcls_at hj
  have hm := hM ws (.ref (G.2.1.1 j) :: vs) hv' hw hp
  have hlen : vs.length = (mA M').length - 1 := by have := rf_all_len _ _ hv'; simp at this; omega
  refine h_runV c.1 c.2.1 c.2.2.1 (M := M') hl hd (by rw [c.2.2.2.2.1.1, c.2.2.2.2.1.2]; exact ⟨hc.1.2, hc.2⟩) (h_recv c hl hfs h9 hw) hm hlen hcat (fun rv ws' ⟨h1, h2, h3⟩ => ?_)
  exact K rv (hv ws') (hframe_at (h_rest c hw h1) h2) (by rw [← hLay]; exact hrng_at h1) h3 (hv_same0 (h_rest c hw h1) h2) ws' h1 (h_sub2 hc.1.1 hs h2) rfl
/-- a method as a whole -/
theorem h_mth (hG : rf_Gok G) (hy : plainName (my M).cls = true) (hwd : rf_words (mA M) ≤ mL M) (hLay : G.2.1.2.2.2 = Lay) (hfl : rf_flok (my M).cls G.2.2.1 G.1.2.2.1 fl) (hcs : rf_csok (my M).cls G.2.2.1 cs) {ws : va_W} {vs : List Value} (hv' : rf_all (rf_av G.2.1.1 G.2.1.2.1 [] []) (mA M) vs) (hw : rf_world G.2.1.1 G.2.1.2.1 G.2.1.2.2.1 G.2.1.2.2.2 ws) {Φ : va_W → Option Value → Prop} (hΦ : ∀ ws' rv, rf_world G.2.1.1 G.2.1.2.1 G.2.1.2.2.1 G.2.1.2.2.2 ws' → rf_same (mM M) ws ws' → Q rv (hv ws') → Φ ws' rv)
    (H : ∀ X, hC G X M ws Lay fl cs Q → hW G X M ws 0 (lv_args 0 vs) [] (hv ws)) : Met G.1.1 (my M) (rf_ws G M) (mroom M) (va_Pc vs (rf_pre G ws)) (h_Qc G Φ) 0 0 G.1.2.2.2 := by
  refine Met.ofW (cc := mb M) (maxL := mL M) (ret := mr M) hy rfl ?_
  intro p e s m args below meth c s₁ B hml hpc
  obtain ⟨rfl, hP0, hK, hD, hSF⟩ := hpc
  have hts0 := atoms_spec (ws := rf_ws G M) B.pre
  have hts : ∀ w ∈ G.2.2.1, w.before vs.toArray s = true := fun w hw => hts0 w (List.mem_cons_of_mem _ hw)
  have hown : s.vm.findClass (my M).cls = some m.cls := findClass_of_methodNamed B.named
  let X : rfX := (p, G.1.1, e, (headSpec (rf_ws G M) (mroom M)).room, s, m, vs.toArray, below, meth, c, MQ below (h_Qc G Φ) vs.toArray s 0 0 G.1.2.2.2, mL M, G.1.2.1, G.1.2.2.1, G.1.2.2.2)
  have hX : rf_in_G X (hE G M ws) G := ⟨rfl, rfl, rfl, rfl, rfl, rfl, rfl, rfl, hSF⟩
  have F : rfFx X (mb M) (my M).cls G.2.2.1 G.2.1.2.2.1 := ⟨B.exec, B.bytes, hml, hown, hts, hK⟩
  have hl := lv_entry vs (n := mL M) (by rw [rf_sl_len _ _ hv']; exact hwd)
  rw [lg_entry_eq]
  have hc : hC G X M ws Lay fl cs Q := ⟨hG, hX, F, rfl, ⟨rfl, rfl⟩, hLay, hfl, hcs, ⟨B.returns, B.notSynchronized⟩, by rw [hw.1, hLay], Φ, rfl, hΦ⟩
  exact H X hc ws hw (fun _ _ _ => rfl) rfl _ s.heap [] hl hP0 hD va_S.rf
theorem h_metOf (hG : rf_Gok G) (hy : plainName (my M).cls = true) (hwd : rf_words (mA M) ≤ mL M) (hLay : G.2.1.2.2.2 = Lay) (hfl : rf_flok (my M).cls G.2.2.1 G.1.2.2.1 fl) (hcs : rf_csok (my M).cls G.2.2.1 cs) {Pre : List Value → HF → Prop} {Post : List Value → HF → HF → Option Value → Prop}
    (H : ∀ (vs : List Value) (ws : va_W) (X : rfX), rf_all (rf_av G.2.1.1 G.2.1.2.1 [] []) (mA M) vs → hrng Lay (hv ws) → Pre vs (hv ws) → hC G X M ws Lay fl cs (fun rv F' => Post vs (hv ws) F' rv) → hW G X M ws 0 (lv_args 0 vs) [] (hv ws)) : h_met G M Pre Post := fun ws vs hv' hw hp =>
  h_mth hG hy hwd hLay hfl hcs hv' hw (Q := fun rv F' => Post vs (hv ws) F' rv) (fun ws' rv h1 h2 h3 => ⟨h1, h2, h3⟩) (fun X hc => H vs ws X hv' (by rw [← hLay]; exact hrng_at hw) hp hc)
theorem h_rfOf (hG : rf_Gok G) (hy : plainName (my M).cls = true) (hwd : rf_words (mA M) ≤ mL M) (hLay : G.2.1.2.2.2 = Lay) (hfl : rf_flok (my M).cls G.2.2.1 G.1.2.2.1 fl) (hcs : rf_csok (my M).cls G.2.2.1 cs) (hf : hfits Lay M = true)
    (H : ∀ (vs : List Value) (ws : va_W) (X : rfX), rf_all (rf_av G.2.1.1 G.2.1.2.1 [] []) (mA M) vs → hrng Lay (hv ws) → hpre M (hv ws) → hC G X M ws Lay fl cs (fun rv F' => hrng Lay F' → hpost M vs (hv ws) F' rv) → hW G X M ws 0 (lv_args 0 vs) [] (hv ws)) : rf_met G M := fun ws vs hv' hw hp => by
  have hf' := hf
  simp only [hfits, Bool.and_eq_true, decide_eq_true_eq] at hf'
  refine h_mth hG hy hwd hLay hfl hcs hv' hw (Φ := fun ws' rv => rf_post G M vs ws ws' rv) (Q := fun rv F' => hrng Lay F' → hpost M vs (hv ws) F' rv) (fun ws' rv h1 h2 h3 => ?_) (fun X hc => H vs ws X hv' (by rw [← hLay]; exact hrng_at hw) (fun q hq => ?_) hc)
  · obtain ⟨k, hk, hkk⟩ := h3 (by rw [← hLay]; exact hrng_at h1)
    exact ⟨h1, h2, k, hk, hkok_to hLay hf'.2 hw h1 (List.all_eq_true.mp hf'.1.1.2 k hk) (List.all_eq_true.mp hf'.1.2 k hk) hkk⟩
  · obtain ⟨x, e1, e2⟩ := hp q hq
    have hl : ws.length ≤ 998 := by rw [hw.1, hLay]; exact hf'.2
    have := hslot_at hl q.1.1 q.1.2
    rw [e1] at this
    have e3 : x.toInt = hslot (hv ws) q.1 := this
    rw [← e3]
    exact e2
end RfHand2
