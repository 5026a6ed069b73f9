/-! CONTRACTS of methods by abstract values, and calls -/
section RfCall
variable {X : rfX} {E : rfE} {cc : ByteArray} {own : String} {Ts : List Cond} {S : rfS} {C : rfC} {pc pc' : Nat} {outs : List rfO}
/-- a way in which a method may end: its answer, what is then known of its arguments (place, least, most), what of slots -/
abbrev rfK : Type := Option rfA × List (Nat × Int × Int) × List rfF
/-- a contract: (name, bytes, locals, return), (frames, words of locals), (arguments, what it asks of slots), what it may write, its ways to end -/
abbrev rfM : Type := (MethodName × ByteArray × Nat × Option FieldType) × (Nat × Nat) × (List rfA × List rfF) × List (Nat × Nat) × List rfK
abbrev my (M : rfM) : MethodName := M.1.1
abbrev mb (M : rfM) : ByteArray := M.1.2.1
abbrev mL (M : rfM) : Nat := M.1.2.2.1
abbrev mr (M : rfM) : Option FieldType := M.1.2.2.2
abbrev mroom (M : rfM) : Room := { frames := M.2.1.1, cells := 0, slots := 0, locals := M.2.1.2 }
abbrev mA (M : rfM) : List rfA := M.2.2.1.1
abbrev mP (M : rfM) : List rfF := M.2.2.1.2
abbrev mM (M : rfM) : List (Nat × Nat) := M.2.2.2.1
abbrev mK (M : rfM) : List rfK := M.2.2.2.2
/-- launch, classes' numbers, classes, addresses that may be written; addresses of the cells, special ones, array classes, layout; words; what else is known of a state -/
abbrev rfG : Type := (Launch × va_G × List vw_C × (Nat → Prop)) × ((Nat → Nat) × (Nat → Nat) × List (ClassId × FieldType) × List rfL) × List Cond × (State → Prop)
def rf_Gok (G : rfG) : Prop := (∀ w ∈ G.2.2.1, goodWord w = true) ∧ rf_tysok G.2.1.2.2.1 ∧ ∀ (s U : State), G.2.2.2 s → (s.WarmedH U.vm ∨ U.vm = s.vm) → (∀ a, a < s.heap.size → ¬ G.1.2.2.2 a → U.heap[a]? = s.heap[a]?) → G.2.2.2 U
def rf_pre (G : rfG) (ws : va_W) (U : State) : Prop := va_P G.1.2.1 G.1.2.2.1 ws U.heap ∧ va_K G.1.2.1 G.1.2.2.1 G.2.1.2.2.1 U ∧ va_D G.1.2.2.2 ws ∧ G.2.2.2 U
def rf_kok (G : rfG) (k : rfK) (vs : List Value) (ws ws' : va_W) (rv : Option Value) : Prop := (match k.1, rv with
    | none, none => True
    | some a, some v => rf_av G.2.1.1 G.2.1.2.1 [] [] a v
    | _, _ => False) ∧ (∀ q ∈ k.2.1, ∃ x : Int32, vs[q.1]? = some (.int x) ∧ q.2.1 ≤ x.toInt ∧ x.toInt ≤ q.2.2) ∧ ∀ q ∈ k.2.2, rf_fok ws ws' q
def rf_post (G : rfG) (M : rfM) (vs : List Value) (ws ws' : va_W) (rv : Option Value) : Prop :=
  rf_world G.2.1.1 G.2.1.2.1 G.2.1.2.2.1 G.2.1.2.2.2 ws' ∧ rf_same (mM M) ws ws' ∧ ∃ k ∈ mK M, rf_kok G k vs ws ws' rv
def rf_Qc (G : rfG) (M : rfM) (vs : List Value) (ws : va_W) : Array Value → State → Outcome → State → Prop := fun _ st o t =>
  (∃ (rv : Option Value) (ws' : va_W), o = .returned rv ∧ rf_post G M vs ws ws' rv ∧ va_P G.1.2.1 G.1.2.2.1 ws' t.heap ∧ va_D G.1.2.2.2 ws') ∧ va_F G.1.2.2.2 st t
def rf_ws (G : rfG) (M : rfM) : List Cond := Cond.code (my M) (mb M) (mL M) (mr M) :: G.2.2.1
def rf_met (G : rfG) (M : rfM) : Prop := ∀ (ws : va_W) (vs : List Value), rf_all (rf_av G.2.1.1 G.2.1.2.1 [] []) (mA M) vs → rf_world G.2.1.1 G.2.1.2.1 G.2.1.2.2.1 G.2.1.2.2.2 ws → (∀ q ∈ mP M, ∃ x : Int32, rf_fld ws q.1.1 q.1.2 = some (.int x) ∧ rf_in q.2.1 x.toInt) →
  Met G.1.1 (my M) (rf_ws G M) (mroom M) (va_Pc vs (rf_pre G ws)) (rf_Qc G M vs ws) 0 0 G.1.2.2.2
theorem rf_callW {G : rfG} {M : rfM} {vs : List Value} {ws : va_W} {H : Heap} {locs : List Loc} {ls : Array Slot} {st0 rest : List Value} {a : Array Value} {p : Program} {l : Launch} {e : Env} {R : Room} {s : State} {m : MethodId} {args : Array Value} {below : List Frame} {meth : Method} {c : Code} {Q : State → Prop} (hr : va_Run p l e R s m args below meth c H locs 0 0 0 0 (F0 m pc ls st0) rest (rf_Qc G M vs ws a) G.1.2.2.2) (hS : va_S G.1.2.2.2 s.heap H locs)
    (kk : ∀ (rv : Option Value) (ws' : va_W) (H1 : Heap) (locs1 : List Loc), rf_post G M vs ws ws' rv → va_P G.1.2.1 G.1.2.2.1 ws' H1 → va_D G.1.2.2.2 ws' → va_S G.1.2.2.2 s.heap H1 locs1 → W p l e R s m args below meth c H1 locs1 0 0 Q (F0 m (pc + 3) ls (rv.toList ++ rest))) : W p l e R s m args below meth c H locs 0 0 Q (F0 m pc ls st0) := by
  intro T hT X
  obtain ⟨v, st₀, t, T', L, h0, X', hL, e1, e2, ⟨⟨rv, ws', hv, hp, hP, hD⟩, hz, hk⟩, st⟩ := hr T hT X
  cases hv
  rw [h0] at hz hk
  obtain ⟨t2, a1, b1⟩ := kk v ws' T'.heap (locs ++ L) hp (by rw [e1]; exact hP) hD
    ⟨Nat.le_trans hS.1 (by rw [e1]; exact hz), fun q h1 h2 => by rw [e1, hk q (Nat.lt_of_lt_of_le h1 hS.1) h2]; exact hS.2.1 q h1 h2, fun q hq => by
      rcases List.mem_append.mp hq with h | h
      · exact hS.2.2 q h
      · exact hL q h⟩ T' rfl X'
  exact ⟨t2, st t2 a1, b1⟩
/-- the link of a call: entry i of own's pool names M -/
def rf_link (G : rfG) (own : String) (i : Nat) (M : rfM) (n : Nat) : Prop := (Cond.methodLink own i (my M) ∈ G.2.2.1 ∨ ∃ host, ∀ s : State, G.2.2.2 s → va_Nw (Cond.methodLinkNest own i (my M) host) s) ∧ Cond.initialized (my M).cls ∈ G.2.2.1 ∧ Cond.code (my M) (mb M) (mL M) (mr M) ∈ G.2.2.1 ∧
  (my M).cls ≠ "java/lang/invoke/MethodHandle" ∧ (my M).cls ≠ "java/lang/invoke/VarHandle" ∧ (parseMethodDescriptor (my M).desc).map (fun d => d.parameters.length) = some n
def rf_linkS (G : rfG) (own : String) (i : Nat) (M : rfM) : Prop := rf_link G own i M (mA M).length ∧ Cond.static (my M) ∈ G.2.2.1
def rf_linkV (G : rfG) (own : String) (i ci : Nat) (M : rfM) : Prop := rf_link G own i M ((mA M).length - 1) ∧ Cond.instanceMethod (my M) ∈ G.2.2.1 ∧ Cond.selects (my M).cls (my M) (my M) ∈ G.2.2.1 ∧ ((¬ ci = 1000 ∧ ∃ T N, G.1.2.2.1[ci]? = some ((my M).cls, T, N)) ∨ (ci = 1000 ∧ (my M).cls = "java/lang/String" ∧ ∀ s, G.2.2.2 s → ∀ n, (n = 1 ∨ n = 2) → va_O "java/lang/String" (G.2.1.2.1 n) G.1.2.2.2 s s.heap))
theorem rf_good {G : rfG} (hG : rf_Gok G) {M : rfM} (hc : Cond.code (my M) (mb M) (mL M) (mr M) ∈ G.2.2.1) : GoodIn G.2.2.1 (rf_ws G M) := by
  intro w hw
  rcases List.mem_cons.mp hw with e | hw
  · subst e; exact ⟨hc, good_of_word (hG.1 _ hc)⟩
  · exact ⟨hw, good_of_word (hG.1 _ hw)⟩
theorem rf_blind {G : rfG} (hG : rf_Gok G) (vs : List Value) (ws : va_W) : FrameBlind (va_Pc vs (rf_pre G ws)) := by
  intro a U g mk ⟨h1, h2, h3, h4, h5⟩
  exact ⟨h1, h2, va_K.moved (u := U) (U := U.calling g mk a) (Vm.Alike.refl U.vm) h3, h4, hG.2.2 U (U.calling g mk a) h5 (Or.inr rfl) (fun _ _ _ => rfl)⟩
/-- X runs in the world of G, in the state s where what G knows holds -/
def rf_in_G (X : rfX) (E : rfE) (G : rfG) : Prop := xl X = G.1.1 ∧ xD X = G.1.2.1 ∧ xk X = G.1.2.2.1 ∧ xA X = G.1.2.2.2 ∧ E.1 = G.2.1.1 ∧ E.2.1 = G.2.1.2.1 ∧ E.2.2.1 = G.2.1.2.2.1 ∧ E.2.2.2.1 = G.2.1.2.2.2 ∧ G.2.2.2 (xs X)
/-- the callee's start -/
theorem rf_pre_at {G : rfG} (hG : rf_Gok G) (hX : rf_in_G X E G) (F : rfFx X cc own Ts E.2.2.1) {ws : va_W} {H : Heap} {locs : List Loc} (hP : va_P (xD X) (xk X) ws H) (hD : va_D (xA X) ws) (hS : va_S (xA X) (xs X).heap H locs) (vs : List Value) : ∀ U : State, U.heap = H → (xs X).WarmedH U.vm → va_Pc vs (rf_pre G ws) vs.toArray U := by
  intro U hU hW
  obtain ⟨e1, e2, e3, e4, e5, e6, e7, e8, e9⟩ := hX
  rw [e2, e3] at hP
  rw [e4] at hD hS
  have hK := F.2.2.2.2.2
  rw [e2, e3, e7] at hK
  refine ⟨rfl, by rw [hU]; exact hP, va_K.moved hW.alike hK, hD, hG.2.2 (xs X) U e9 (Or.inl hW) (fun a h1 h2 => by rw [hU]; exact hS.2.1 a h1 h2)⟩
/-- a static method is called -/
theorem rf_runS {G : rfG} (hG : rf_Gok G) (hX : rf_in_G X E G) (F : rfFx X cc own G.2.2.1 E.2.2.1) {M : rfM} (hM : rf_met G M) {i : Nat} (hl : rf_linkS G own i M) (hd : decode cc pc = .ok (.invokestatic i, 3)) (hR : M.2.1.1 + 1 ≤ (xR X).frames ∧ 8 + (mL M + 11) + M.2.1.2 ≤ (xR X).locals)
    {L : List (Nat × Value)} {ws : va_W} {vs rest : List Value} (hv : rf_all (rf_av G.2.1.1 G.2.1.2.1 [] []) (mA M) vs) (hw : rf_world G.2.1.1 G.2.1.2.1 G.2.1.2.2.1 G.2.1.2.2.2 ws) (hp : ∀ q ∈ mP M, ∃ x : Int32, rf_fld ws q.1.1 q.1.2 = some (.int x) ∧ rf_in q.2.1 x.toInt) (hcat : (rest.map fun v => v.category).sum ≤ 8)
    (K : ∀ (rv : Option Value) (ws' : va_W), rf_post G M vs ws ws' rv → rfW X (pc + 3) (L, rv.toList ++ rest, ws')) : rfW X pc (L, vs.reverse ++ rest, ws) := by
  intro ls H locs hll hP hD hS
  have hX' := hX
  obtain ⟨e1, e2, e3, e4, e5, e6, e7, e8, e9⟩ := hX'
  obtain ⟨⟨lk, l2, l3, l4, l5, l6⟩, l7⟩ := hl
  have hts := F.2.2.2.2.1
  have hM' := hM ws vs hv hw hp
  rw [← e1, ← e4] at hM'
  have hlen : vs.length = (mA M).length := (rf_all_len _ _ hv).symm
  have hpre := rf_pre_at hG hX F hP hD hS vs
  have run : va_Run (xp X) (xl X) (xe X) (xR X) (xs X) (xm X) (xa X) (xb X) (xt X) (xc X) H locs 0 0 0 0 (F0 (xm X) pc ls (vs.reverse ++ rest)) rest (rf_Qc G M vs ws vs.toArray) (xA X) := by
    rcases lk with lk | ⟨host, lk⟩
    · exact va_runS (As := vs) (rest := rest) ⟨F.1, F.2.1, F.2.2.1, F.2.2.2.1, hts⟩ hM' ⟨callB_of (mA M).length hts (rf_good hG l3) rfl rfl rfl (hts _ l2) (hts _ lk) ⟨l4, l5, l6⟩ hR, hts _ l7⟩ ⟨rf_blind hG vs ws, hpre⟩ rfl hlen hll.1 rfl (lv_room (rest := vs.reverse ++ rest) hcat) hd ⟨Nat.zero_le _, Nat.zero_le _⟩
    · exact va_runSN (As := vs) (rest := rest) ⟨F.1, F.2.1, F.2.2.1, F.2.2.2.1, hts⟩ hM' ⟨va_cnB (mA M).length hts (rf_good hG l3) rfl rfl rfl (lk _ e9) (hts _ l2) ⟨l4, l5, l6⟩ hR, hts _ l7, trivial⟩ ⟨rf_blind hG vs ws, hpre⟩ rfl hlen hll.1 rfl (lv_room (rest := vs.reverse ++ rest) hcat) hd ⟨Nat.zero_le _, Nat.zero_le _⟩
  rw [e4] at run hS
  refine rf_callW run hS (fun rv ws' H1 locs1 hq hP1 hD1 hS1 => ?_)
  exact K rv ws' hq ls H1 locs1 hll (by rw [e2, e3]; exact hP1) (by rw [e4]; exact hD1) (by rw [e4]; exact hS1)
/-- a method of an object is called -/
theorem rf_runV {G : rfG} (hG : rf_Gok G) (hX : rf_in_G X E G) (F : rfFx X cc own G.2.2.1 E.2.2.1) {M : rfM} (hM : rf_met G M) {i ci : Nat} (hl : rf_linkV G own i ci M) (hd : decode cc pc = .ok (.invokevirtual i, 3)) (hR : M.2.1.1 + 1 ≤ (xR X).frames ∧ 8 + (mL M + 11) + M.2.1.2 ≤ (xR X).locals)
    {L : List (Nat × Value)} {ws : va_W} {b : Nat} {vs rest : List Value} (hb : ∀ (H : Heap) (locs : List Loc), va_P (xD X) (xk X) ws H → va_S (xA X) (xs X).heap H locs → ∃ cell : Cell, H[b]? = some cell ∧ cell.vm.isStatics = false ∧ (xs X).vm.findClass (my M).cls = some cell.cls) (hv : rf_all (rf_av G.2.1.1 G.2.1.2.1 [] []) (mA M) (.ref b :: vs)) (hw : rf_world G.2.1.1 G.2.1.2.1 G.2.1.2.2.1 G.2.1.2.2.2 ws) (hp : ∀ q ∈ mP M, ∃ x : Int32, rf_fld ws q.1.1 q.1.2 = some (.int x) ∧ rf_in q.2.1 x.toInt) (hcat : (rest.map fun v => v.category).sum ≤ 8)
    (K : ∀ (rv : Option Value) (ws' : va_W), rf_post G M (.ref b :: vs) ws ws' rv → rfW X (pc + 3) (L, rv.toList ++ rest, ws')) : rfW X pc (L, vs.reverse ++ .ref b :: rest, ws) := by
  intro ls H locs hll hP hD hS
  have hX' := hX
  obtain ⟨e1, e2, e3, e4, e5, e6, e7, e8, e9⟩ := hX'
  obtain ⟨⟨lk, l2, l3, l4, l5, l6⟩, l7, l8, -⟩ := hl
  have hts := F.2.2.2.2.1
  have hM' := hM ws (.ref b :: vs) hv hw hp
  rw [← e1, ← e4] at hM'
  have hlen : vs.length = (mA M).length - 1 := by have := rf_all_len _ _ hv; simp at this; omega
  have hpre := rf_pre_at hG hX F hP hD hS (.ref b :: vs)
  have hrecv := hb H locs hP hS
  have run : va_Run (xp X) (xl X) (xe X) (xR X) (xs X) (xm X) (xa X) (xb X) (xt X) (xc X) H locs 0 0 0 0 (F0 (xm X) pc ls (vs.reverse ++ .ref b :: rest)) rest (rf_Qc G M (.ref b :: vs) ws (Value.ref b :: vs).toArray) (xA X) := by
    rcases lk with lk | ⟨host, lk⟩
    · exact va_runV (C := (my M).cls) (As := vs) (rest := rest) ⟨F.1, F.2.1, F.2.2.1, F.2.2.2.1, hts⟩ hM' ⟨callB_of ((mA M).length - 1) hts (rf_good hG l3) rfl rfl rfl (hts _ l2) (hts _ lk) ⟨l4, l5, l6⟩ hR, hts _ l7, hts _ l8⟩ ⟨rf_blind hG _ ws, hrecv, hpre⟩ rfl hlen hll.1 rfl (lv_room (rest := vs.reverse ++ .ref b :: rest) hcat) hd ⟨Nat.zero_le _, Nat.zero_le _⟩
    · exact va_runVN (C := (my M).cls) (As := vs) (rest := rest) ⟨F.1, F.2.1, F.2.2.1, F.2.2.2.1, hts⟩ hM' ⟨va_cnB ((mA M).length - 1) hts (rf_good hG l3) rfl rfl rfl (lk _ e9) (hts _ l2) ⟨l4, l5, l6⟩ hR, hts _ l7, hts _ l8⟩ ⟨rf_blind hG _ ws, hrecv, hpre⟩ rfl hlen hll.1 rfl (lv_room (rest := vs.reverse ++ .ref b :: rest) hcat) hd ⟨Nat.zero_le _, Nat.zero_le _⟩
  rw [e4] at run hS
  refine rf_callW run hS (fun rv ws' H1 locs1 hq hP1 hD1 hS1 => ?_)
  exact K rv ws' hq ls H1 locs1 hll (by rw [e2, e3]; exact hP1) (by rw [e4]; exact hD1) (by rw [e4]; exact hS1)
end RfCall
