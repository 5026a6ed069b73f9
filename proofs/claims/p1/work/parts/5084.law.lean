/-! THE LAW: statics, texts, classes at its start -/
def lwSF (sp : Nat → Nat) (A : Nat → Prop) (s : State) : Prop := va_Z "NearSpell" "POWERS" "[I" (.ref (sp 0)) A s s.heap ∧ va_T .int (sp 0) 7 (fun j => .int (wpw j)) A s s.heap ∧ (∀ q ∈ wNest, va_Nw (Cond.methodLinkNest q.1 q.2.1 q.2.2.1 q.2.2.2) s) ∧
  va_Z "java/lang/String" "COMPACT_STRINGS" "Z" (.int 1) A s s.heap ∧ va_Z "jdk/internal/util/Preconditions" "SIOOBE_FORMATTER" "Ljava/util/function/BiFunction;" (rf_spv sp 999) A s s.heap ∧ vk_S 2 wlens wbyts (fun i => sp (i + 1)) (fun i => sp (i + 3)) A s s.heap ∧ ∀ k, (k = 1 ∨ k = 2) → vk_R "NearSpell$Reader" (wTe k) (wTx k) (sp k) s
theorem lwSF_to {sp : Nat → Nat} {A : Nat → Prop} {s U : State} (h : lwSF sp A s) (hU : s.WarmedH U.vm ∨ U.vm = s.vm) (hk : ∀ a, a < s.heap.size → ¬ A a → U.heap[a]? = s.heap[a]?) : lwSF sp A U := by
  have al : s.vm.Alike U.vm := by
    rcases hU with h | h
    · exact h.alike
    · rw [h]; exact Vm.Alike.refl _
  obtain ⟨h1, h2, h3, h4, h5, h6, h7⟩ := h
  refine ⟨va_Z.moved al (h1.kept hk), va_T.moved al (h2.kept hk), fun q hq => ?_, va_Z.moved al (h4.kept hk), va_Z.moved al (h5.kept hk), vk_S.moved al (h6.kept hk), fun k hk' => ?_⟩
  · rcases hU with hU | hU
    · exact va_Nw.warmM hU (h3 q hq)
    · exact va_Nw.same rfl hU.symm (h3 q hq)
  · rcases hU with hU | hU
    · exact vk_R.warm hU (h7 k hk')
    · exact vk_R.same hU (h7 k hk')
set_option maxRecDepth 20000 in
theorem fl_pow : ∀ j, j < 7 → (flatC (Jvm.Cond.and given_1 narrow_1))[12 + j]? = some (Cond.eq (.elem (.static "NearSpell" "POWERS" "[I") (.int (Int32.ofNat j))) (.int (wpw j))) := by decide +kernel
set_option maxRecDepth 20000 in
theorem fl_s1 : ∀ j, j < 112 → (flatC (Jvm.Cond.and given_1 narrow_1))[23 + j]? = some (Cond.eq (.elem (.field (Term.string "NearSpell$Reader" 150) "java/lang/String" "value" "[B") (.int (Int32.ofNat j))) (.int ((wbyts.getD 0 []).getD j 0))) := by decide +kernel
set_option maxRecDepth 20000 in
theorem fl_s2 : ∀ j, j < 11 → (flatC (Jvm.Cond.and given_1 narrow_1))[139 + j]? = some (Cond.eq (.elem (.field (Term.string "NearSpell$Reader" 139) "java/lang/String" "value" "[B") (.int (Int32.ofNat j))) (.int ((wbyts.getD 1 []).getD j 0))) := by decide +kernel
def lwTm (i : Nat) : Term := if i = 0 then (Term.string "NearSpell$Reader" 150) else (Term.string "NearSpell$Reader" 139)
set_option maxRecDepth 20000 in
theorem lwSF_of {args : Array Value} {s : State} (hts : ∀ w ∈ lw_tbl, w.before args s = true) (hgv : (Jvm.Cond.and given_1 narrow_1).before args s = true) : ∃ sp, lwSF sp (fun q => s.heap.size ≤ q) s := by
  have hs := flat_of_before _ hgv
  have hA : ∀ a : Nat, a < s.heap.size → ¬ (fun q => s.heap.size ≤ q) a := fun a h => Nat.not_le.mpr h
  have hat : ∀ (k : Nat) {w : Cond}, (flatC (Jvm.Cond.and given_1 narrow_1))[k]? = some w → w.before args s = true := fun k w h => hs _ (List.mem_of_getElem? h)
  obtain ⟨t, ht, hT⟩ := va_Tof (tm := .static "NearSpell" "POWERS" "[I") (ty := .int) (N := 7) (f := fun j => .int (wpw j)) (A := fun q => s.heap.size ≤ q) (by decide) (hat 10 (by decide +kernel)) (va_eqt (z := Int32.ofNat 7) (hat 11 (by decide +kernel))) (fun j hj => va_eqt (hat _ (fl_pow j hj))) hA
  have hZ := va_Zof (A := fun q => s.heap.size ≤ q) (hts _ (List.mem_of_getElem? (i := 805) (by decide +kernel))) (hts _ (List.mem_of_getElem? (i := 117) (by decide +kernel))) ht hA
  have hCS := va_Zof (C := "java/lang/String") (n := "COMPACT_STRINGS") (d := "Z") (A := fun q => s.heap.size ≤ q) (hts _ (List.mem_of_getElem? (i := 589) (by decide +kernel))) (hts _ (List.mem_of_getElem? (i := 131) (by decide +kernel))) (va_eqi (z := 1) (hat 4 (by decide +kernel))) hA
  have hSI := va_Zqof (C := "jdk/internal/util/Preconditions") (n := "SIOOBE_FORMATTER") (d := "Ljava/util/function/BiFunction;") (A := fun q => s.heap.size ≤ q) (hts _ (List.mem_of_getElem? (i := 597) (by decide +kernel))) (hts _ (List.mem_of_getElem? (i := 133) (by decide +kernel))) (hat 5 (by decide +kernel)) hA
  have i2 : ∀ i : Nat, i < 2 → i = 0 ∨ i = 1 := fun i h => by omega
  obtain ⟨adK, adV, hS, hev⟩ := vk_Sof (N := 2) (tm := lwTm) (len := wlens) (byt := wbyts) (A := fun q => s.heap.size ≤ q)
    (fun i hi => by rcases i2 i hi with e | e <;> subst e <;> decide)
    (fun i hi => by rcases i2 i hi with e | e <;> subst e <;> first | (exact hat 19 (by decide +kernel)) | (exact hat 135 (by decide +kernel)))
    (fun i hi => by rcases i2 i hi with e | e <;> subst e <;> first | (exact hat 20 (by decide +kernel)) | (exact hat 136 (by decide +kernel)))
    (fun i hi => by rcases i2 i hi with e | e <;> subst e <;> first | (exact hat 21 (by decide +kernel)) | (exact hat 137 (by decide +kernel)))
    (fun i hi => by rcases i2 i hi with e | e <;> subst e <;> first | (exact hat 22 (by decide +kernel)) | (exact hat 138 (by decide +kernel)))
    (fun i hi => by rcases i2 i hi with e | e <;> subst e <;> first | (exact fun j hj => hat _ (fl_s1 j hj)) | (exact fun j hj => hat _ (fl_s2 j hj)))
    (fun i j hi hj hij => by rcases i2 i hi with e | e <;> rcases i2 j hj with e' | e' <;> subst e <;> subst e' <;> first | (exact absurd rfl hij) | (exact Or.inl (hat 150 (by decide +kernel))) | (exact Or.inr (hat 150 (by decide +kernel)))) hA
  have hu : ∃ u : Nat, va_Z "jdk/internal/util/Preconditions" "SIOOBE_FORMATTER" "Ljava/util/function/BiFunction;" (if u = 0 then .null else .ref (u - 1)) (fun q => s.heap.size ≤ q) s s.heap := by
    rcases hSI with h | ⟨t2, h⟩
    · exact ⟨0, h⟩
    · exact ⟨t2 + 1, by rw [if_neg (by omega)]; exact h⟩
  obtain ⟨u, hu⟩ := hu
  refine ⟨fun n => if n = 0 then t else if n = 1 then adK 0 else if n = 2 then adK 1 else if n = 3 then adV 0 else if n = 4 then adV 1 else if n = 999 then u else 0, hZ, hT, ?_, hCS, hu, ⟨fun i hi => ?_, fun i j hi hj e => ?_⟩, fun k hk => ?_⟩
  · exact List.forall_mem_cons.mpr ⟨va_Nw.of rfl (hts _ (List.mem_of_getElem? (i := 260) (by decide +kernel))), List.forall_mem_cons.mpr ⟨va_Nw.of rfl (hts _ (List.mem_of_getElem? (i := 271) (by decide +kernel))), List.forall_mem_cons.mpr ⟨va_Nw.of rfl (hts _ (List.mem_of_getElem? (i := 1007) (by decide +kernel))), List.forall_mem_cons.mpr ⟨va_Nw.of rfl (hts _ (List.mem_of_getElem? (i := 1010) (by decide +kernel))), List.forall_mem_cons.mpr ⟨va_Nw.of rfl (hts _ (List.mem_of_getElem? (i := 1015) (by decide +kernel))), List.forall_mem_cons.mpr ⟨va_Nw.of rfl (hts _ (List.mem_of_getElem? (i := 1232) (by decide +kernel))), List.forall_mem_cons.mpr ⟨va_Nw.of rfl (hts _ (List.mem_of_getElem? (i := 1233) (by decide +kernel))), List.forall_mem_cons.mpr ⟨va_Nw.of rfl (hts _ (List.mem_of_getElem? (i := 822) (by decide +kernel))), List.forall_mem_cons.mpr ⟨va_Nw.of rfl (hts _ (List.mem_of_getElem? (i := 833) (by decide +kernel))), List.forall_mem_cons.mpr ⟨va_Nw.of rfl (hts _ (List.mem_of_getElem? (i := 834) (by decide +kernel))), List.forall_mem_cons.mpr ⟨va_Nw.of rfl (hts _ (List.mem_of_getElem? (i := 327) (by decide +kernel))), List.forall_mem_cons.mpr ⟨va_Nw.of rfl (hts _ (List.mem_of_getElem? (i := 1073) (by decide +kernel))), List.forall_mem_cons.mpr ⟨va_Nw.of rfl (hts _ (List.mem_of_getElem? (i := 907) (by decide +kernel))), fun _ h => absurd h List.not_mem_nil⟩⟩⟩⟩⟩⟩⟩⟩⟩⟩⟩⟩⟩
  · rcases i2 i hi with e | e
    · subst e; exact hS.1 0 (by decide)
    · subst e; exact hS.1 1 (by decide)
  · rcases i2 i hi with e1 | e1 <;> rcases i2 j hj with e2 | e2 <;> subst e1 <;> subst e2
    · rfl
    · exact absurd (hS.2 0 1 (by decide) (by decide) e) (by decide)
    · exact absurd (hS.2 1 0 (by decide) (by decide) e) (by decide)
    · rfl
  · rcases hk with e | e
    · subst e; exact vk_R.of (hts _ (List.mem_of_getElem? (i := 579) (by decide +kernel))) (hev 0 (by decide))
    · subst e; exact vk_R.of (hts _ (List.mem_of_getElem? (i := 628) (by decide +kernel))) (hev 1 (by decide))
theorem lwKn {args : Array Value} {s : State} (hts : ∀ w ∈ lw_tbl, w.before args s = true) : ∃ D : va_G, ∀ (k : Nat) (q : vw_C), wCl[k]? = some q → u_Kn s q.1 q.2.1 q.2.2 (D.1 k) (D.2 k) := by
  have h : ∀ k : Nat, ∃ d : ClassId × (Nat → Nat), ∀ q : vw_C, wCl[k]? = some q → u_Kn s q.1 q.2.1 q.2.2 d.1 d.2 := by
    intro k
    match k with
    | 0 =>
      obtain ⟨a, b, h⟩ := u_known (C := RX0) (T := TX0) (N := 6) (n := 6) hts uwX0 (hts (.instantiable RX0 6) (List.mem_of_getElem? (i := 270) (by decide +kernel)))
      exact ⟨(a, b), fun q hq => by cases (Option.some.inj (show some (RX0, TX0, 6) = some q from hq)); exact h⟩
    | 1 =>
      obtain ⟨a, b, h⟩ := u_known (C := RX1) (T := TX1) (N := 13) (n := 13) hts uwX1 (hts (.instantiable RX1 13) (List.mem_of_getElem? (i := 147) (by decide +kernel)))
      exact ⟨(a, b), fun q hq => by cases (Option.some.inj (show some (RX1, TX1, 13) = some q from hq)); exact h⟩
    | 2 =>
      obtain ⟨a, b, h⟩ := u_known (C := RX2) (T := TX2) (N := 5) (n := 5) hts uwX2 (hts (.instantiable RX2 5) (List.mem_of_getElem? (i := 368) (by decide +kernel)))
      exact ⟨(a, b), fun q hq => by cases (Option.some.inj (show some (RX2, TX2, 5) = some q from hq)); exact h⟩
    | 3 =>
      obtain ⟨a, b, h⟩ := u_known (C := RX3) (T := TX3) (N := 5) (n := 5) hts uwX3 (hts (.instantiable RX3 5) (List.mem_of_getElem? (i := 326) (by decide +kernel)))
      exact ⟨(a, b), fun q hq => by cases (Option.some.inj (show some (RX3, TX3, 5) = some q from hq)); exact h⟩
    | 4 =>
      obtain ⟨a, b, h⟩ := u_known (C := RX4) (T := TX4) (N := 5) (n := 5) hts uwX4 (hts (.instantiable RX4 5) (List.mem_of_getElem? (i := 319) (by decide +kernel)))
      exact ⟨(a, b), fun q hq => by cases (Option.some.inj (show some (RX4, TX4, 5) = some q from hq)); exact h⟩
    | 5 =>
      obtain ⟨a, b, h⟩ := u_known (C := RX5) (T := TX5) (N := 8) (n := 8) hts uwX5 (hts (.instantiable RX5 8) (List.mem_of_getElem? (i := 390) (by decide +kernel)))
      exact ⟨(a, b), fun q hq => by cases (Option.some.inj (show some (RX5, TX5, 8) = some q from hq)); exact h⟩
    | 6 =>
      obtain ⟨a, b, h⟩ := u_known (C := RX6) (T := TX6) (N := 10) (n := 10) hts uwX6 (hts (.instantiable RX6 10) (List.mem_of_getElem? (i := 220) (by decide +kernel)))
      exact ⟨(a, b), fun q hq => by cases (Option.some.inj (show some (RX6, TX6, 10) = some q from hq)); exact h⟩
    | 7 =>
      obtain ⟨a, b, h⟩ := u_known (C := RX7) (T := TX7) (N := 5) (n := 5) hts uwX7 (hts (.instantiable RX7 5) (List.mem_of_getElem? (i := 297) (by decide +kernel)))
      exact ⟨(a, b), fun q hq => by cases (Option.some.inj (show some (RX7, TX7, 5) = some q from hq)); exact h⟩
    | 8 =>
      obtain ⟨a, b, h⟩ := u_known (C := RX8) (T := TX8) (N := 1) (n := 1) hts uwX8 (hts (.instantiable RX8 1) (List.mem_of_getElem? (i := 259) (by decide +kernel)))
      exact ⟨(a, b), fun q hq => by cases (Option.some.inj (show some (RX8, TX8, 1) = some q from hq)); exact h⟩
    | 9 =>
      obtain ⟨a, b, h⟩ := u_known (C := RX9) (T := TX9) (N := 5) (n := 5) hts uwX9 (hts (.instantiable RX9 5) (List.mem_of_getElem? (i := 428) (by decide +kernel)))
      exact ⟨(a, b), fun q hq => by cases (Option.some.inj (show some (RX9, TX9, 5) = some q from hq)); exact h⟩
    | 10 =>
      obtain ⟨a, b, h⟩ := u_known (C := RX10) (T := TX10) (N := 10) (n := 10) hts uwX10 (hts (.instantiable RX10 10) (List.mem_of_getElem? (i := 450) (by decide +kernel)))
      exact ⟨(a, b), fun q hq => by cases (Option.some.inj (show some (RX10, TX10, 10) = some q from hq)); exact h⟩
    | 11 =>
      obtain ⟨a, b, h⟩ := u_known (C := RX11) (T := TX11) (N := 15) (n := 15) hts uwX11 (hts (.instantiable RX11 15) (List.mem_of_getElem? (i := 139) (by decide +kernel)))
      exact ⟨(a, b), fun q hq => by cases (Option.some.inj (show some (RX11, TX11, 15) = some q from hq)); exact h⟩
    | 12 =>
      obtain ⟨a, b, h⟩ := u_known (C := RX12) (T := TX12) (N := 67) (n := 67) hts uwX12 (hts (.instantiable RX12 67) (List.mem_of_getElem? (i := 1403) (by decide +kernel)))
      exact ⟨(a, b), fun q hq => by cases (Option.some.inj (show some (RX12, TX12, 67) = some q from hq)); exact h⟩
    | k + 13 => exact ⟨(0, fun _ => 0), fun q hq => by simp [wCl] at hq⟩
  obtain ⟨f, hf⟩ := Classical.axiomOfChoice h
  exact ⟨(fun k => (f k).1, fun k => (f k).2), hf⟩
theorem lwTys {args : Array Value} {s : State} (hts : ∀ w ∈ lw_tbl, w.before args s = true) : ∃ c0 c1 c2 c3 : ClassId, ∀ (k : Nat) (q : ClassId × FieldType), ([(c0, .int), (c1, .byte), (c2, .boolean), (c3, .object "NearSpell$FormList")] : List (ClassId × FieldType))[k]? = some q → ArrOfT s q.1 q.2 ∧ va_RA s q.1 q.2 := by
  obtain ⟨c0, k0, m0, f0, g0, h0⟩ := Cond.arrayClass_spec (hts (.arrayClass .int) (List.mem_of_getElem? (i := 218) (by decide +kernel)))
  obtain ⟨c1, k1, m1, f1, g1, h1⟩ := Cond.arrayClass_spec (hts (.arrayClass .byte) (List.mem_of_getElem? (i := 217) (by decide +kernel)))
  obtain ⟨c2, k2, m2, f2, g2, h2⟩ := Cond.arrayClass_spec (hts (.arrayClass .boolean) (List.mem_of_getElem? (i := 488) (by decide +kernel)))
  obtain ⟨m3, c3, k3, f3, -, g3, h3, e3⟩ := Cond.arrayOver_spec (hts (.arrayOver (.object "NearSpell$FormList")) (List.mem_of_getElem? (i := 325) (by decide +kernel)))
  refine ⟨c0, c1, c2, c3, fun k q hq => ?_⟩
  match k, hq with
  | 0, hq => cases hq; exact ⟨fun n z => ⟨fun k h => (by cases h), k0, g0, m0, h0⟩, f0⟩
  | 1, hq => cases hq; exact ⟨fun n z => ⟨fun k h => (by cases h), k1, g1, m1, h1⟩, f1⟩
  | 2, hq => cases hq; exact ⟨fun n z => ⟨fun k h => (by cases h), k2, g2, m2, h2⟩, f2⟩
  | 3, hq => cases hq; exact ⟨fun n z => ⟨fun k h => (by cases h), k3, g3, m3, h3⟩, k3, m3, g3, h3, f3, e3⟩
  | k + 4, hq => simp at hq
/-! worlds out of lists of cells -/
def rfWall (ad sp : Nat → Nat) (tys : List (ClassId × FieldType)) : Nat → List rfL → va_W → Prop
  | _, [], [] => True
  | i, k :: ks, q :: ws => (q.1 = ad i ∧ rf_cell ad sp tys k q.2) ∧ rfWall ad sp tys (i + 1) ks ws
  | _, _, _ => False
theorem rfWall_at {ad sp : Nat → Nat} {tys : List (ClassId × FieldType)} : ∀ (ks : List rfL) (ws : va_W) (i : Nat), rfWall ad sp tys i ks ws → ws.length = ks.length ∧ ∀ j k, ks[j]? = some k → ∃ e, ws[j]? = some (ad (i + j), e) ∧ rf_cell ad sp tys k e
  | [], [], i, _ => ⟨rfl, fun j k h => by simp at h⟩
  | k :: ks, q :: ws, i, h => by
    obtain ⟨⟨h1, h2⟩, h3⟩ := h
    obtain ⟨g1, g2⟩ := rfWall_at ks ws (i + 1) h3
    refine ⟨by simp [g1], fun j k' hk => ?_⟩
    cases j with
    | zero =>
      cases hk
      exact ⟨q.2, by rw [Nat.add_zero, ← h1]; rfl, h2⟩
    | succ j =>
      obtain ⟨e, e1, e2⟩ := g2 j k' hk
      exact ⟨e, by rw [show i + (j + 1) = i + 1 + j by omega]; exact e1, e2⟩
  | [], _ :: _, _, h => absurd h id
  | _ :: _, [], _, h => absurd h id
theorem rfWall_world {ad sp : Nat → Nat} {tys : List (ClassId × FieldType)} {Lay : List rfL} {ws : va_W} (h : rfWall ad sp tys 0 Lay ws) : rf_world ad sp tys Lay ws := by
  obtain ⟨h1, h2⟩ := rfWall_at Lay ws 0 h
  exact ⟨h1, fun j k hk => by have := h2 j k hk; rwa [Nat.zero_add] at this⟩
theorem lw_z {tb : List rfR} (h : tb.all (fun r => decide (r.1 ≤ 0) && decide (0 ≤ r.2.1) && decide (r.2.2 = 1)) = true) (hn : 0 < tb.length) (i : Nat) : rf_in (tb.getD (i % tb.length) rf_top) (0 : Int32).toInt := by
  have hl : i % tb.length < tb.length := Nat.mod_lt _ hn
  have hm : tb.getD (i % tb.length) rf_top ∈ tb := by
    rw [List.getD_eq_getElem?_getD, List.getElem?_eq_getElem hl]
    exact List.getElem_mem hl
  have h2 := List.all_eq_true.mp h _ hm
  simp only [Bool.and_eq_true, decide_eq_true_eq] at h2
  have e0 : (0 : Int32).toInt = 0 := by decide +kernel
  rw [e0]
  exact ⟨h2.1.1, h2.1.2, -(tb.getD (i % tb.length) rf_top).1, by rw [h2.2]; omega⟩
theorem lw_zu {tb : List rfR} {v : Int32} (h : tb.all (fun r => decide (r.1 ≤ 0) && decide (0 ≤ r.2.1) && decide (r.2.2 = 1)) = true) (hn : 0 < tb.length) (hv : rf_in (tb.getD 0 rf_top) v.toInt) (i : Nat) : rf_in (tb.getD (i % tb.length) rf_top) (upd (fun _ => 0) 0 v i).toInt := by
  by_cases e : i = 0
  · subst e; rw [pk_us, Nat.zero_mod]; exact hv
  · rw [pk_un e]; exact lw_z h hn i
/-! the law's own rows -/
section RfLaw
variable {X : rfX} {G : rfG} {b Ln : Nat} {sc : Nat → Int32} {n sl pc : Nat} {L : List (Nat × Value)} {st : List Value} {ws : va_W}
def lwC (X : rfX) (G : rfG) (b Ln : Nat) (sc : Nat → Int32) (n sl : Nat) : Prop := okG G ∧ rf_in_G X (G.2.1.1, G.2.1.2.1, G.2.1.2.2.1, G.2.1.2.2.2, [], []) G ∧ kC X code "NearSpellLaw" G.2.1.2.2.1 room_1 4 ∧ (va_X b Ln sc (xs X) (xs X).heap ∧ b < (xs X).heap.size ∧ ¬ xA X b) ∧ Ln ≤ 3072 ∧ n ≤ 600000 ∧ sl ≤ 7302250
theorem k_runV {E : rfE} {cc : ByteArray} {own : String} (hG : rf_Gok G) (hX : rf_in_G X E G) (F : rfFx X cc own G.2.2.1 E.2.2.1) {M : rfM} {Φ : va_W → Option Value → Prop} {i ci : Nat} (hl : rf_linkV G own i ci M) (hd : decode cc pc = .ok (.invokevirtual i, 3)) (hR : M.2.1.1 + 1 ≤ (xR X).frames ∧ 8 + (mL M + 11) + M.2.1.2 ≤ (xR X).locals) (hcs : n ≤ (xR X).cells ∧ sl ≤ (xR X).slots)
    {b : Nat} {vs rest : List Value} (hb : ∀ (H : Heap) (locs : List Loc), va_P (xD X) (xk X) ws H → va_S (xA X) (xs X).heap H locs → ∃ cell : Cell, H[b]? = some cell ∧ cell.vm.isStatics = false ∧ (xs X).vm.findClass (my M).cls = some cell.cls) (hM : Met G.1.1 (my M) (rf_ws G M) (mroom M) (va_Pc (.ref b :: vs) (rf_pre G ws)) (h_Qc G Φ) 0 0 G.1.2.2.2) (hlen : vs.length = (mA M).length - 1) (hcat : (rest.map fun v => v.category).sum ≤ 8)
    (K : ∀ (rv : Option Value) (ws' : va_W), Φ ws' rv → kW X n sl (pc + 3) L (rv.toList ++ rest) ws') : kW X n sl pc L (vs.reverse ++ .ref b :: rest) ws := by
  intro ls H locs hll hP hD hS
  have hX' := hX
  obtain ⟨e1, e2, e3, e4, e5, e6, e7, e8, e9⟩ := hX'
  obtain ⟨⟨lk, l2, l3, l4, l5, l6⟩, l7, l8, -⟩ := hl
  have hts := F.2.2.2.2.1
  have hM' := hM
  rw [← e1, ← e4] at hM'
  have hpre := rf_pre_at hG hX F hP hD hS (.ref b :: vs)
  have hrecv := hb H locs hP hS
  have run : va_Run (xp X) (xl X) (xe X) (xR X) (xs X) (xm X) (xa X) (xb X) (xt X) (xc X) H locs n sl 0 0 (F0 (xm X) pc ls (vs.reverse ++ .ref b :: rest)) rest (h_Qc G Φ (Value.ref b :: vs).toArray) (xA X) := by
    rcases lk with lk | ⟨host, lk⟩
    · exact va_runV (C := (my M).cls) (As := vs) (rest := rest) ⟨F.1, F.2.1, F.2.2.1, F.2.2.2.1, hts⟩ hM' ⟨callB_of ((mA M).length - 1) hts (rf_good hG l3) rfl rfl rfl (hts _ l2) (hts _ lk) ⟨l4, l5, l6⟩ hR, hts _ l7, hts _ l8⟩ ⟨rf_blind hG _ ws, hrecv, hpre⟩ rfl hlen hll.1 rfl (lv_room (rest := vs.reverse ++ .ref b :: rest) hcat) hd hcs
    · exact va_runVN (C := (my M).cls) (As := vs) (rest := rest) ⟨F.1, F.2.1, F.2.2.1, F.2.2.2.1, hts⟩ hM' ⟨va_cnB ((mA M).length - 1) hts (rf_good hG l3) rfl rfl rfl (lk _ e9) (hts _ l2) ⟨l4, l5, l6⟩ hR, hts _ l7, hts _ l8⟩ ⟨rf_blind hG _ ws, hrecv, hpre⟩ rfl hlen hll.1 rfl (lv_room (rest := vs.reverse ++ .ref b :: rest) hcat) hd hcs
  rw [e4] at run hS
  intro T hT X0
  obtain ⟨v, st₀, t, T', Lc, h0, X', hL, q1, q2, ⟨⟨rv, ws', hv, hp, hP1, hD1⟩, hz, hk⟩, stp⟩ := run T hT X0
  cases hv
  rw [h0] at hz hk
  obtain ⟨t2, a1, b1⟩ := K v ws' hp ls T'.heap (locs ++ Lc) hll (by rw [q1, e2, e3]; exact hP1) (by rw [e4]; exact hD1)
    (by
      rw [e4]
      exact ⟨Nat.le_trans hS.1 (by rw [q1]; exact hz), fun q h1 h2 => by rw [q1, hk q (Nat.lt_of_lt_of_le h1 hS.1) h2]; exact hS.2.1 q h1 h2, fun q hq => by
        rcases List.mem_append.mp hq with h | h
        · exact hS.2.2 q h
        · exact hL q h⟩) T' rfl X'
  exact ⟨t2, stp t2 a1, b1⟩
theorem lw_fx (C : lwC X G b Ln sc n sl) : rfFx X code "NearSpellLaw" G.2.2.1 G.2.1.2.2.1 := by
  rw [C.1.2.2.2.1]
  exact C.2.2.1.1
theorem lw_recv (C : lwC X G b Ln sc n sl) {M : rfM} {i ci j : Nat} {own : String} {fs : List rfA} (hl : rf_linkV G own i ci M) (h1 : wLay[j]? = some (.inl (ci, fs))) (h2 : ¬ ci = 1000) (hw : rf_world G.2.1.1 G.2.1.2.1 G.2.1.2.2.1 G.2.1.2.2.2 ws) : ∀ (H : Heap) (locs : List Loc), va_P (xD X) (xk X) ws H → va_S (xA X) (xs X).heap H locs → ∃ cell : Cell, H[G.2.1.1 j]? = some cell ∧ cell.vm.isStatics = false ∧ (xs X).vm.findClass (my M).cls = some cell.cls := by
  intro H locs hP hS
  obtain ⟨e1, e2, e3, e4, e5, e6, e7, e8, e9⟩ := C.2.1
  rw [← C.1.2.2.1] at h1
  obtain ⟨en, hen, vs2, rfl, -⟩ := hw.2 j _ h1
  rcases hl.2.2.2 with ⟨-, T, N, l9⟩ | ⟨l9, -⟩
  · exact va_recv (lw_fx C).2.2.2.2.2 hP (by rw [e3]; exact l9) hen
  · exact absurd l9 h2
def hallint (M : rfM) : Bool := (mK M).all (fun k => match k.1 with
  | some (.inl _) => true
  | _ => false)
theorem hpost_int {M : rfM} {vs : List Value} {F F' : HF} {rv : Option Value} (hi : hallint M = true) (h : hpost M vs F F' rv) : ∃ x : Int32, rv = some (.int x) := by
  obtain ⟨k, hk, hkk⟩ := h
  have := List.all_eq_true.mp hi k hk
  obtain ⟨h1, -, -⟩ := hkk
  split at this
  · next u e =>
    obtain ⟨r, y⟩ := u
    rw [e] at h1
    match rv, h1 with
    | some v, ⟨x, e1, _⟩ => exact ⟨x, by rw [e1]⟩
  · cases this
/-- a method with a checker's contract is called -/
theorem k_callM (C : lwC X G b Ln sc n sl) {M : rfM} (hM : rf_met G M) (hf : hfits wLay M = true) (hint : hallint M = true) {i ci j : Nat} (hl : rf_linkV G "NearSpellLaw" i ci M) (hj : hcls wLay j ci = true) (hR : M.2.1.1 + 1 ≤ 2048 ∧ 8 + (mL M + 11) + M.2.1.2 ≤ 84000) (hd : decode code pc = .ok (.invokevirtual i, 3)) (vs : List Value) {sv rest : List Value} (hsv : sv = vs.reverse ++ .ref (G.2.1.1 j) :: rest) (hv' : rf_all (rf_av G.2.1.1 G.2.1.2.1 [] []) (mA M) (.ref (G.2.1.1 j) :: vs)) (hcat : (rest.map fun v => v.category).sum ≤ 8) (hw : rf_world G.2.1.1 G.2.1.2.1 G.2.1.2.2.1 G.2.1.2.2.2 ws) (hp : hpre M (hv ws))
    (K : ∀ (x : Int32) (ws' : va_W), rf_world G.2.1.1 G.2.1.2.1 G.2.1.2.2.1 G.2.1.2.2.2 ws' → hframe (mM M) (hv ws) (hv ws') → hpost M (.ref (G.2.1.1 j) :: vs) (hv ws) (hv ws') (some (.int x)) → kW X n sl (pc + 3) L (.int x :: rest) ws') : kW X n sl pc L sv ws := by
  subst hsv
  have hLay := C.1.2.2.1
  have hf' := hf
  simp only [hfits, Bool.and_eq_true, decide_eq_true_eq] at hf'
  obtain ⟨h9, fs, hfs⟩ := hcls_at hj
  have hm := hM ws (.ref (G.2.1.1 j) :: vs) hv' hw (h_pre_of hLay hf hw hp)
  have hlen : vs.length = (mA M).length - 1 := by have := rf_all_len _ _ hv'; simp at this; omega
  have hRm := C.2.2.1.2.2.2.1
  refine k_runV C.1.1 C.2.1 (lw_fx C) (M := M) (Φ := fun ws' rv => rf_post G M (.ref (G.2.1.1 j) :: vs) ws ws' rv) hl hd (by rw [hRm]; exact hR) (by rw [hRm]; exact ⟨C.2.2.2.2.2.1, C.2.2.2.2.2.2⟩) (lw_recv C hl hfs h9 hw) hm hlen hcat (fun rv ws' ⟨h1, h2, k, hk, hkk⟩ => ?_)
  have hpo : hpost M (.ref (G.2.1.1 j) :: vs) (hv ws) (hv ws') rv := ⟨k, hk, hkok_of hLay hf'.2 hw h1 (List.all_eq_true.mp hf'.1.1.2 k hk) hkk⟩
  obtain ⟨x, rfl⟩ := hpost_int hint hpo
  exact K x ws' h1 (hframe_at (by rw [h1.1, hw.1]) h2) hpo
/-- a method with a contract over numbers is called -/
theorem k_callH (C : lwC X G b Ln sc n sl) {M : rfM} {Pre : List Value → HF → Prop} {Post : List Value → HF → HF → Option Value → Prop} (hM : h_met G M Pre Post) {i ci j : Nat} (hl : rf_linkV G "NearSpellLaw" i ci M) (hj : hcls wLay j ci = true) (hR : M.2.1.1 + 1 ≤ 2048 ∧ 8 + (mL M + 11) + M.2.1.2 ≤ 84000) (hd : decode code pc = .ok (.invokevirtual i, 3)) (vs : List Value) {sv rest : List Value} (hsv : sv = vs.reverse ++ .ref (G.2.1.1 j) :: rest) (hv' : rf_all (rf_av G.2.1.1 G.2.1.2.1 [] []) (mA M) (.ref (G.2.1.1 j) :: vs)) (hcat : (rest.map fun v => v.category).sum ≤ 8) (hw : rf_world G.2.1.1 G.2.1.2.1 G.2.1.2.2.1 G.2.1.2.2.2 ws) (hp : Pre (.ref (G.2.1.1 j) :: vs) (hv ws))
    (K : ∀ (rv : Option Value) (ws' : va_W), rf_world G.2.1.1 G.2.1.2.1 G.2.1.2.2.1 G.2.1.2.2.2 ws' → hframe (mM M) (hv ws) (hv ws') → Post (.ref (G.2.1.1 j) :: vs) (hv ws) (hv ws') rv → kW X n sl (pc + 3) L (rv.toList ++ rest) ws') : kW X n sl pc L sv ws := by
  subst hsv
  obtain ⟨h9, fs, hfs⟩ := hcls_at hj
  have hm := hM ws (.ref (G.2.1.1 j) :: vs) hv' hw hp
  have hlen : vs.length = (mA M).length - 1 := by have := rf_all_len _ _ hv'; simp at this; omega
  have hRm := C.2.2.1.2.2.2.1
  refine k_runV C.1.1 C.2.1 (lw_fx C) (M := M) hl hd (by rw [hRm]; exact hR) (by rw [hRm]; exact ⟨C.2.2.2.2.2.1, C.2.2.2.2.2.2⟩) (lw_recv C hl hfs h9 hw) hm hlen hcat (fun rv ws' ⟨h1, h2, h3⟩ => ?_)
  exact K rv ws' h1 (hframe_at (by rw [h1.1, hw.1]) h2) h3
theorem k_sld (C : lwC X G b Ln sc n sl) {i : Int32} (hin : vp_in i Ln) (hd : decode code pc = .ok (.iaload, 1)) (K : kW X n sl (pc + 1) L (.int (sc i.toNatClampNeg) :: st) ws) : kW X n sl pc L (.int i :: .ref b :: st) ws := fun ls H locs hl hP hD hS =>
  va_sld C.2.2.1.1.1 C.2.2.1.1.2.1 C.2.2.2.1.1 C.2.2.2.1.2.1 C.2.2.2.1.2.2 hS hin hd (K ls H locs hl hP hD hS)
theorem k_slen (C : lwC X G b Ln sc n sl) (hd : decode code pc = .ok (.arraylength, 1)) (K : kW X n sl (pc + 1) L (.int (Int32.ofNat Ln) :: st) ws) : kW X n sl pc L (.ref b :: st) ws := fun ls H locs hl hP hD hS =>
  va_slen C.2.2.1.1.1 C.2.2.1.1.2.1 C.2.2.2.1.1 C.2.2.2.1.2.1 C.2.2.2.1.2.2 hS hd (K ls H locs hl hP hD hS)
theorem k_sub {cc : ByteArray} {own : String} {tys : List (ClassId × FieldType)} {rm : Room} {ml : Nat} (c : kC X cc own tys rm ml) {x y : Int32} (hd : decode cc pc = .ok (.isub, 1)) (K : kW X n sl (pc + 1) L (.int (x - y) :: st) ws) : kW X n sl pc L (.int y :: .int x :: st) ws := fun ls H locs hl hP hD hS =>
  lv_isub c.1.1 c.1.2.1 hd (K ls H locs hl hP hD hS)
theorem k_and {cc : ByteArray} {own : String} {tys : List (ClassId × FieldType)} {rm : Room} {ml : Nat} (c : kC X cc own tys rm ml) {x y : Int32} (hd : decode cc pc = .ok (.iand, 1)) (K : kW X n sl (pc + 1) L (.int (x &&& y) :: st) ws) : kW X n sl pc L (.int y :: .int x :: st) ws := fun ls H locs hl hP hD hS =>
  lv_iand c.1.1 c.1.2.1 hd (K ls H locs hl hP hD hS)
theorem k_gt {cc : ByteArray} {own : String} {tys : List (ClassId × FieldType)} {rm : Room} {ml : Nat} (c : kC X cc own tys rm ml) {off : Int} {tgt : Nat} {x y : Int32} (hd : decode cc pc = .ok (.if_icmp .gt off, 3)) (ht : (pc : Int) + off = (tgt : Int)) (K1 : y.toInt < x.toInt → kW X n sl tgt L st ws) (K2 : ¬ y.toInt < x.toInt → kW X n sl (pc + 3) L st ws) : kW X n sl pc L (.int y :: .int x :: st) ws := fun ls H locs hl hP hD hS =>
  lv_icmp_gt c.1.1 c.1.2.1 hd ht (fun q => K1 (Int32.lt_iff_toInt_lt.mp q) ls H locs hl hP hD hS) (fun q => K2 (fun w => q (Int32.lt_iff_toInt_lt.mpr w)) ls H locs hl hP hD hS)
theorem k_ceq {cc : ByteArray} {own : String} {tys : List (ClassId × FieldType)} {rm : Room} {ml : Nat} (c : kC X cc own tys rm ml) {off : Int} {tgt : Nat} {x y : Int32} (hd : decode cc pc = .ok (.if_icmp .eq off, 3)) (ht : (pc : Int) + off = (tgt : Int)) (h : x = y) (K1 : kW X n sl tgt L st ws) : kW X n sl pc L (.int y :: .int x :: st) ws := fun ls H locs hl hP hD hS =>
  lv_icmp_eq c.1.1 c.1.2.1 hd ht (fun _ => K1 ls H locs hl hP hD hS) (fun q => absurd h q)
theorem k_ifeq {cc : ByteArray} {own : String} {tys : List (ClassId × FieldType)} {rm : Room} {ml : Nat} (c : kC X cc own tys rm ml) {off : Int} {tgt : Nat} {x : Int32} (hd : decode cc pc = .ok (.ifCond .eq off, 3)) (ht : (pc : Int) + off = (tgt : Int)) (K1 : kW X n sl tgt L st ws) (K2 : kW X n sl (pc + 3) L st ws) : kW X n sl pc L (.int x :: st) ws := fun ls H locs hl hP hD hS =>
  lv_if_eq c.1.1 c.1.2.1 hd ht (fun _ => K1 ls H locs hl hP hD hS) (fun _ => K2 ls H locs hl hP hD hS)
theorem k_addE {cc : ByteArray} {own : String} {tys : List (ClassId × FieldType)} {rm : Room} {ml : Nat} (c : kC X cc own tys rm ml) {x y : Int32} (hd : decode cc pc = .ok (.iadd, 1)) (K : kW X n sl (pc + 1) L (.int (x + y) :: st) ws) : kW X n sl pc L (.int y :: .int x :: st) ws := fun ls H locs hl hP hD hS =>
  lv_iadd c.1.1 c.1.2.1 hd (K ls H locs hl hP hD hS)
theorem k_tabI {cc : ByteArray} {own : String} {tys : List (ClassId × FieldType)} {rm : Room} {ml : Nat} (c : kC X cc own tys rm ml) {dflt lo hi : Int} {offs : Array Int} {len : Nat} {x : Int32} {off : Int} {tgt : Nat} (hd : decode cc pc = .ok (.tableswitch dflt lo hi offs, len)) (k : Int) (hx : x.toInt = k) (h1 : ¬ k < lo) (h2 : ¬ hi < k) (ho : offs[(k - lo).toNat]? = some off) (ht : (pc : Int) + off = (tgt : Int)) (K : kW X n sl tgt L st ws) : kW X n sl pc L (.int x :: st) ws := fun ls H locs hl hP hD hS =>
  lv_tableIn c.1.1 c.1.2.1 hd (by rw [hx]; exact h1) (by rw [hx]; exact h2) (by rw [hx]; exact ho) ht (K ls H locs hl hP hD hS)
theorem k_tabO {cc : ByteArray} {own : String} {tys : List (ClassId × FieldType)} {rm : Room} {ml : Nat} (c : kC X cc own tys rm ml) {dflt lo hi : Int} {offs : Array Int} {len : Nat} {x : Int32} {tgt : Nat} (hd : decode cc pc = .ok (.tableswitch dflt lo hi offs, len)) (h : x.toInt < lo ∨ hi < x.toInt) (ht : (pc : Int) + dflt = (tgt : Int)) (K : kW X n sl tgt L st ws) : kW X n sl pc L (.int x :: st) ws := fun ls H locs hl hP hD hS =>
  lv_tableOut c.1.1 c.1.2.1 hd h ht (K ls H locs hl hP hD hS)
theorem k_perm {ws' : va_W} (is : List Nat) (hs : is.filterMap (fun i => ws[i]?) = ws') (hn : va_nd is = true) (hm : is.map (fun i => ws[i]?) = ws'.map some) (K : kW X n sl pc L st ws') : kW X n sl pc L st ws := fun ls H locs hl hP hD hS => K ls H locs hl (hP.sub is hs) (hD.sub is hn hm) hS
theorem lw_in {i k : Int32} (h0 : 0 ≤ i.toInt) (h1 : i.toInt + 5 < (Ln : Int)) (h2 : Ln ≤ 3072) (hk : 0 ≤ k.toInt ∧ k.toInt ≤ 5) : vp_in (i + k) Ln := by
  have e := h_addv (x := i) (y := k) (by omega)
  exact vp_in_iff.mpr ⟨by rw [e]; omega, by rw [e]; omega⟩
theorem hconst_val {M : rfM} {vs : List Value} {F F' : HF} {rv : Option Value} {n : Int} (hi : hconst M n = true) (h : hpost M vs F F' rv) : ∃ x : Int32, rv = some (.int x) ∧ x.toInt = n := by
  obtain ⟨k, hk, hkk⟩ := h
  have := List.all_eq_true.mp hi k hk
  obtain ⟨h1, -, -⟩ := hkk
  split at this
  · next r y e =>
    rw [e] at h1
    match rv, h1 with
    | some v, ⟨x, e1, e2⟩ =>
      simp only [Bool.and_eq_true, decide_eq_true_eq] at this
      have a1 := e2.1
      have a2 := e2.2.1
      exact ⟨x, by rw [e1], by omega⟩
  · cases this
/-- a method is called that answers one number -/
theorem k_callC (C : lwC X G b Ln sc n sl) {M : rfM} {Pv : List Value → Prop} (hM : rf_metV G M Pv) (a : Int) (hf : hfits wLay M = true) (hint : hconst M a = true) {i ci j : Nat} (hl : rf_linkV G "NearSpellLaw" i ci M) (hj : hcls wLay j ci = true) (hR : M.2.1.1 + 1 ≤ 2048 ∧ 8 + (mL M + 11) + M.2.1.2 ≤ 84000) (hd : decode code pc = .ok (.invokevirtual i, 3)) (vs : List Value) {sv rest : List Value} (hsv : sv = vs.reverse ++ .ref (G.2.1.1 j) :: rest) (hv' : rf_all (rf_av G.2.1.1 G.2.1.2.1 [] []) (mA M) (.ref (G.2.1.1 j) :: vs)) (hcat : (rest.map fun v => v.category).sum ≤ 8) (hw : rf_world G.2.1.1 G.2.1.2.1 G.2.1.2.2.1 G.2.1.2.2.2 ws) (hp : hpre M (hv ws)) (hpv : Pv (.ref (G.2.1.1 j) :: vs))
    (K : ∀ (x : Int32) (ws' : va_W), rf_world G.2.1.1 G.2.1.2.1 G.2.1.2.2.1 G.2.1.2.2.2 ws' → hframe (mM M) (hv ws) (hv ws') → x.toInt = a → kW X n sl (pc + 3) L (.int x :: rest) ws') : kW X n sl pc L sv ws := by
  subst hsv
  have hLay := C.1.2.2.1
  have hf' := hf
  simp only [hfits, Bool.and_eq_true, decide_eq_true_eq] at hf'
  obtain ⟨h9, fs, hfs⟩ := hcls_at hj
  have hm := hM ws (.ref (G.2.1.1 j) :: vs) hpv hv' hw (h_pre_of hLay hf hw hp)
  have hlen : vs.length = (mA M).length - 1 := by have := rf_all_len _ _ hv'; simp at this; omega
  have hRm := C.2.2.1.2.2.2.1
  refine k_runV C.1.1 C.2.1 (lw_fx C) (M := M) (Φ := fun ws' rv => rf_post G M (.ref (G.2.1.1 j) :: vs) ws ws' rv) hl hd (by rw [hRm]; exact hR) (by rw [hRm]; exact ⟨C.2.2.2.2.2.1, C.2.2.2.2.2.2⟩) (lw_recv C hl hfs h9 hw) hm hlen hcat (fun rv ws' ⟨h1, h2, k, hk, hkk⟩ => ?_)
  have hpo : hpost M (.ref (G.2.1.1 j) :: vs) (hv ws) (hv ws') rv := ⟨k, hk, hkok_of hLay hf'.2 hw h1 (List.all_eq_true.mp hf'.1.1.2 k hk) hkk⟩
  obtain ⟨x, rfl, e⟩ := hconst_val hint hpo
  exact K x ws' h1 (hframe_at (by rw [h1.1, hw.1]) h2) e
theorem k_sldE (C : lwC X G b Ln sc n sl) {i v : Int32} (hin : vp_in i Ln) (hv : sc i.toNatClampNeg = v) (hd : decode code pc = .ok (.iaload, 1)) (K : kW X n sl (pc + 1) L (.int v :: st) ws) : kW X n sl pc L (.int i :: .ref b :: st) ws := by
  subst hv
  exact k_sld C hin hd K
end RfLaw
