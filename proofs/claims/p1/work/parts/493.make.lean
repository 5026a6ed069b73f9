/-! MAKING: worlds that grow, cells counted; walks with known numbers -/
section RfMake
variable {X : rfX} {cc : ByteArray} {own : String} {tys : List (ClassId × FieldType)} {rm : Room} {ml : Nat} {n sl pc : Nat} {L : List (Nat × Value)} {st : List Value} {ws ws' : va_W}
def kW (X : rfX) (n sl pc : Nat) (L : List (Nat × Value)) (st : List Value) (ws : va_W) : Prop := ∀ (ls : Array Slot) (H : Heap) (locs : List Loc), lv_has ls (xn X) L → va_P (xD X) (xk X) ws H → va_D (xA X) ws → va_S (xA X) (xs X).heap H locs → W (xp X) (xl X) (xe X) (xR X) (xs X) (xm X) (xa X) (xb X) (xt X) (xc X) H locs n sl (xQ X) (F0 (xm X) pc ls st)
def kC (X : rfX) (cc : ByteArray) (own : String) (tys : List (ClassId × FieldType)) (rm : Room) (ml : Nat) : Prop := rfFx X cc own wTs tys ∧ xk X = wCl ∧ (∀ q, (xs X).heap.size ≤ q → xA X q) ∧ xR X = rm ∧ xn X = ml
theorem k_pc (pc' : Nat) (h : pc = pc') (K : kW X n sl pc' L st ws) : kW X n sl pc L st ws := by subst h; exact K
theorem k_ws (h : ws = ws') (K : kW X n sl pc L st ws') : kW X n sl pc L st ws := by subst h; exact K
theorem k_num {n' sl' : Nat} (h1 : n = n') (h2 : sl = sl') (K : kW X n' sl' pc L st ws) : kW X n sl pc L st ws := by subst h1; subst h2; exact K
theorem k_al (c : kC X cc own tys rm ml) {i : Fin 4} {v : Nat} (hd : decode cc pc = .ok (.aload_n i, 1)) (hg : rf_get L i = some (.ref v)) (K : kW X n sl (pc + 1) L (.ref v :: st) ws) : kW X n sl pc L st ws := fun ls H locs hl hP hD hS =>
  lv_aload_n c.1.1 c.1.2.1 hd rfl (rf_at hl (rf_get_mem hg)) (K ls H locs hl hP hD hS)
theorem k_alw (c : kC X cc own tys rm ml) {i : Nat} {v : Nat} (hd : decode cc pc = .ok (.aload i, 2)) (hg : rf_get L i = some (.ref v)) (K : kW X n sl (pc + 2) L (.ref v :: st) ws) : kW X n sl pc L st ws := fun ls H locs hl hP hD hS =>
  lv_aload c.1.1 c.1.2.1 hd (rf_at hl (rf_get_mem hg)) (K ls H locs hl hP hD hS)
theorem k_il (c : kC X cc own tys rm ml) {i : Fin 4} {v : Int32} (hd : decode cc pc = .ok (.iload_n i, 1)) (hg : rf_get L i = some (.int v)) (K : kW X n sl (pc + 1) L (.int v :: st) ws) : kW X n sl pc L st ws := fun ls H locs hl hP hD hS =>
  lv_iload_n c.1.1 c.1.2.1 hd rfl (rf_at hl (rf_get_mem hg)) (K ls H locs hl hP hD hS)
theorem k_ic (c : kC X cc own tys rm ml) {z : Int} {v : Int32} (hd : decode cc pc = .ok (.iconst z, 1)) (hv : Int32.ofInt z = v) (K : kW X n sl (pc + 1) L (.int v :: st) ws) : kW X n sl pc L st ws := fun ls H locs hl hP hD hS =>
  lv_iconst c.1.1 c.1.2.1 hd hv (K ls H locs hl hP hD hS)
theorem k_bp (c : kC X cc own tys rm ml) {z : Int} {v : Int32} (hd : decode cc pc = .ok (.bipush z, 2)) (hv : (Int8.ofInt z).toInt32 = v) (K : kW X n sl (pc + 2) L (.int v :: st) ws) : kW X n sl pc L st ws := fun ls H locs hl hP hD hS =>
  lv_bipush c.1.1 c.1.2.1 hd hv (K ls H locs hl hP hD hS)
theorem k_sp (c : kC X cc own tys rm ml) {z : Int} {v : Int32} (hd : decode cc pc = .ok (.sipush z, 3)) (hv : (Int16.ofInt z).toInt32 = v) (K : kW X n sl (pc + 3) L (.int v :: st) ws) : kW X n sl pc L st ws := fun ls H locs hl hP hD hS =>
  lv_sipush c.1.1 c.1.2.1 hd hv (K ls H locs hl hP hD hS)
theorem k_isn (c : kC X cc own tys rm ml) {i : Fin 4} {x : Int32} {L' : List (Nat × Value)} (hd : decode cc pc = .ok (.istore_n i, 1)) (hn : i.val < ml) (hL : (i.val, .int x) :: L.filter (rf_fil1 i.val) = L') (K : kW X n sl (pc + 1) L' st ws) : kW X n sl pc L (.int x :: st) ws := fun ls H locs hl hP hD hS => by
  subst hL
  exact lv_istore_n c.1.1 c.1.2.1 hd rfl hl (by rw [c.2.2.2.2]; exact hn) rfl (fun ls' hl' => K ls' H locs hl' hP hD hS)
theorem k_asn (c : kC X cc own tys rm ml) {i : Fin 4} {x : Nat} {L' : List (Nat × Value)} (hd : decode cc pc = .ok (.astore_n i, 1)) (hn : i.val < ml) (hL : (i.val, .ref x) :: L.filter (rf_fil1 i.val) = L') (K : kW X n sl (pc + 1) L' st ws) : kW X n sl pc L (.ref x :: st) ws := fun ls H locs hl hP hD hS => by
  subst hL
  exact lv_astore_n c.1.1 c.1.2.1 hd rfl hl (by rw [c.2.2.2.2]; exact hn) rfl (fun ls' hl' => K ls' H locs hl' hP hD hS)
theorem k_inc (c : kC X cc own tys rm ml) {i : Nat} {z : Int} {x y : Int32} {L' : List (Nat × Value)} (hd : decode cc pc = .ok (.iinc i z, 3)) (hn : i < ml) (hg : rf_get L i = some (.int x)) (hy : x + Int32.ofInt z = y) (hL : (i, .int y) :: L.filter (rf_fil1 i) = L') (K : kW X n sl (pc + 3) L' st ws) : kW X n sl pc L st ws := fun ls H locs hl hP hD hS => by
  subst hL
  subst hy
  obtain ⟨kk, hk⟩ := List.getElem?_of_mem (rf_get_mem hg)
  exact lv_iinc c.1.1 c.1.2.1 hd hl hk rfl (by rw [c.2.2.2.2]; exact hn) rfl (fun ls' hl' => K ls' H locs hl' hP hD hS)
theorem k_goto (c : kC X cc own tys rm ml) {off : Int} {tgt : Nat} (hd : decode cc pc = .ok (.goto off, 3)) (ht : (pc : Int) + off = (tgt : Int)) (K : kW X n sl tgt L st ws) : kW X n sl pc L st ws := fun ls H locs hl hP hD hS =>
  lv_goto c.1.1 c.1.2.1 hd ht (K ls H locs hl hP hD hS)
theorem k_geT (c : kC X cc own tys rm ml) {off : Int} {tgt : Nat} {x y : Int32} (hd : decode cc pc = .ok (.if_icmp .ge off, 3)) (ht : (pc : Int) + off = (tgt : Int)) (h : y ≤ x) (K : kW X n sl tgt L st ws) : kW X n sl pc L (.int y :: .int x :: st) ws := fun ls H locs hl hP hD hS =>
  lv_icmp_ge c.1.1 c.1.2.1 hd ht (fun _ => K ls H locs hl hP hD hS) (fun q => absurd h q)
theorem k_geF (c : kC X cc own tys rm ml) {off : Int} {tgt : Nat} {x y : Int32} (hd : decode cc pc = .ok (.if_icmp .ge off, 3)) (ht : (pc : Int) + off = (tgt : Int)) (h : ¬ y ≤ x) (K : kW X n sl (pc + 3) L st ws) : kW X n sl pc L (.int y :: .int x :: st) ws := fun ls H locs hl hP hD hS =>
  lv_icmp_ge c.1.1 c.1.2.1 hd ht (fun q => absurd q h) (fun _ => K ls H locs hl hP hD hS)
theorem k_dup (c : kC X cc own tys rm ml) {v : Value} (hd : decode cc pc = .ok (.dup, 1)) (hc : v.category = 1) (K : kW X n sl (pc + 1) L (v :: v :: st) ws) : kW X n sl pc L (v :: st) ws := fun ls H locs hl hP hD hS =>
  lv_dup c.1.1 c.1.2.1 hd hc (K ls H locs hl hP hD hS)
theorem k_pop (c : kC X cc own tys rm ml) {v : Value} (hd : decode cc pc = .ok (.pop, 1)) (hc : v.category = 1) (K : kW X n sl (pc + 1) L st ws) : kW X n sl pc L (v :: st) ws := fun ls H locs hl hP hD hS =>
  lv_pop c.1.1 c.1.2.1 hd hc (K ls H locs hl hP hD hS)
theorem k_mul (c : kC X cc own tys rm ml) {x y v : Int32} (hd : decode cc pc = .ok (.imul, 1)) (hv : x * y = v) (K : kW X n sl (pc + 1) L (.int v :: st) ws) : kW X n sl pc L (.int y :: .int x :: st) ws := fun ls H locs hl hP hD hS => by
  subst hv
  exact lv_imul c.1.1 c.1.2.1 hd (K ls H locs hl hP hD hS)
theorem k_add (c : kC X cc own tys rm ml) {x y v : Int32} (hd : decode cc pc = .ok (.iadd, 1)) (hv : x + y = v) (K : kW X n sl (pc + 1) L (.int v :: st) ws) : kW X n sl pc L (.int y :: .int x :: st) ws := fun ls H locs hl hP hD hS => by
  subst hv
  exact lv_iadd c.1.1 c.1.2.1 hd (K ls H locs hl hP hD hS)
theorem k_get (c : kC X cc own tys rm ml) {C : String} {T : u_T} {N ci i : Nat} (hin : ∀ w ∈ u_ws C T N, w ∈ wTs) (hc : wCl[ci]? = some (C, T, N)) (k : Nat) (hk : k < N) (hlink : Cond.fieldLink own i (T k).1 (T k).2.1 (T k).2.2.1 ∈ wTs) (q0 : Nat) {a : Nat} {fs : List Value} {v : Value} (he : ws[q0]? = some (a, .inr (ci, fs))) (hv : fs[k]? = some v) (hd : decode cc pc = .ok (.getfield i, 3)) (K : kW X n sl (pc + 3) L (v :: st) ws) : kW X n sl pc L (.ref a :: st) ws := fun ls H locs hl hP hD hS =>
  va_get c.1.1 c.1.2.1 c.1.2.2.2.2.1 hin c.1.2.2.2.1 c.1.2.2.2.2.2 hP q0 he (by rw [c.2.1]; exact hc) k hk (c.1.2.2.2.2.1 _ hlink) (fun _ h => h) hv hd (K ls H locs hl hP hD hS)
theorem k_putF (c : kC X cc own tys rm ml) (hnm : (xt X).name = "<init>") {C : String} {T : u_T} {N ci i : Nat} (hin : ∀ w ∈ u_ws C T N, w ∈ wTs) (ty0 : Nat → FieldType) (hty : ∀ k, k < N → parseFieldDescriptor (T k).2.2.1 = some (ty0 k)) (hdn : ∀ a, a < N → ∀ b, b < N → a ≠ b → (T a).2.1 ≠ (T b).2.1) (hc : wCl[ci]? = some (C, T, N)) (k : Nat) (hk : k < N) (hlink : Cond.fieldLink own i (T k).1 (T k).2.1 (T k).2.2.1 ∈ wTs) (hfin : (T k).2.2.2 = true) (hdecl : (T k).1 = own) {v : Value} (hn : narrow (ty0 k) v = v) (hfit : fits (ty0 k) v = true) (q0 : Nat) {a : Nat} {fs : List Value} (he : ws[q0]? = some (a, .inr (ci, fs))) (hl : k < fs.length) (hws : ws.set q0 (a, .inr (ci, fs.set k v)) = ws') (hd : decode cc pc = .ok (.putfield i, 3)) (K : kW X n sl (pc + 3) L st ws') : kW X n sl pc L (v :: .ref a :: st) ws := fun ls H locs hl' hP hD hS => by
  subst hws
  exact va_putF c.1.1 c.1.2.1 c.1.2.2.2.2.1 hin ty0 hty hdn c.1.2.2.2.1 c.1.2.2.2.2.2 hP hD hS q0 he (by rw [c.2.1]; exact hc) k hk (c.1.2.2.2.2.1 _ hlink) (fun _ h => h) hfin hnm hdecl (hty k hk) hn hfit hl hd (fun H1 locs1 hP1 hD1 hS1 => K ls H1 locs1 hl' hP1 hD1 hS1)
theorem k_put (c : kC X cc own tys rm ml) {C : String} {T : u_T} {N ci i : Nat} (hin : ∀ w ∈ u_ws C T N, w ∈ wTs) (ty0 : Nat → FieldType) (hty : ∀ k, k < N → parseFieldDescriptor (T k).2.2.1 = some (ty0 k)) (hdn : ∀ a, a < N → ∀ b, b < N → a ≠ b → (T a).2.1 ≠ (T b).2.1) (hc : wCl[ci]? = some (C, T, N)) (k : Nat) (hk : k < N) (hlink : Cond.fieldLink own i (T k).1 (T k).2.1 (T k).2.2.1 ∈ wTs) (hfin : (T k).2.2.2 = false) {v : Value} (hn : narrow (ty0 k) v = v) (hfit : fits (ty0 k) v = true) (q0 : Nat) {a : Nat} {fs : List Value} (he : ws[q0]? = some (a, .inr (ci, fs))) (hl : k < fs.length) (hws : ws.set q0 (a, .inr (ci, fs.set k v)) = ws') (hd : decode cc pc = .ok (.putfield i, 3)) (K : kW X n sl (pc + 3) L st ws') : kW X n sl pc L (v :: .ref a :: st) ws := fun ls H locs hl' hP hD hS => by
  subst hws
  exact va_put c.1.1 c.1.2.1 c.1.2.2.2.2.1 hin ty0 hty hdn c.1.2.2.2.1 c.1.2.2.2.2.2 hP hD hS q0 he (by rw [c.2.1]; exact hc) k hk (c.1.2.2.2.2.1 _ hlink) (fun _ h => h) hfin (hty k hk) hn hfit hl hd (fun H1 locs1 hP1 hD1 hS1 => K ls H1 locs1 hl' hP1 hD1 hS1)
theorem k_ra {s : State} {a b : ClassId} {ty : FieldType} (h1 : va_RA s a ty) (h2 : va_RA s b ty) : a = b := by
  cases ty with
  | object C =>
    obtain ⟨-, -, -, -, -, e1⟩ := h1
    obtain ⟨-, -, -, -, -, e2⟩ := h2
    exact Option.some.inj (e1.symm.trans e2)
  | _ => exact Option.some.inj (h1.symm.trans h2)
theorem k_newa (c : kC X cc own tys rm ml) {atype : ArrayType} {ty : FieldType} (t0 : Nat) {cA : ClassId} {z : Int32} {N : Nat} (hty : newarray.typeOf atype = ty) (hw : Cond.arrayClass ty ∈ wTs) (ht : tys[t0]? = some (cA, ty)) (hdef : defaultValue ty = .int 0) (hn : ¬ z < 0) (hN : z.toNatClampNeg = N) (hb : N * componentBytes ty ≤ 536870912) (hc : n + 1 ≤ rm.cells) (hs : sl + N ≤ rm.slots) (hd : decode cc pc = .ok (.newarray atype, 2)) {ws' : Nat → va_W} (hws : ∀ q, ws ++ [(q, .inl (cA, N, .inl (fun _ => 0)))] = ws' q) (K : ∀ q, kW X (n + 1) (sl + N) (pc + 2) L (.ref q :: st) (ws' q)) : kW X n sl pc L (.int z :: st) ws := fun ls H locs hl hP hD hS => by
  have hR := c.2.2.2.1
  refine va_newa c.1.1 c.1.2.1 (atype := atype) (by rw [hty]; exact c.1.2.2.2.2.1 _ hw) hty c.1.2.2.2.2.2 hP hD hS c.2.2.1 (a0 := (N, .inl (fun _ => 0))) (fun cA => by rw [hdef]; rfl) hn hN hb (by rw [hR]; exact hc) (by rw [hR]; exact hs) hd (fun q cA' H1 hK' hP' hD' hS' => ?_)
  have e1 := (hK'.2 tys.length (cA', ty) (by simp)).2
  have e2 := (c.1.2.2.2.2.2.2 t0 (cA, ty) ht).2
  cases k_ra e1 e2
  have k := K q
  rw [← hws q] at k
  exact k ls H1 locs hl hP' hD' hS'
theorem k_newq (c : kC X cc own tys rm ml) {C : String} {i : Nat} (t0 : Nat) {cA : ClassId} {z : Int32} {N : Nat} (hlink : Cond.classLink own i C ∈ wTs) (hov : va_AO C (xs X)) (ht : tys[t0]? = some (cA, .object C)) (hn : ¬ z < 0) (hN : z.toNatClampNeg = N) (hb : N * 4 ≤ 536870912) (hc : n + 1 ≤ rm.cells) (hs : sl + N ≤ rm.slots) (hd : decode cc pc = .ok (.anewarray i, 3)) {ws' : Nat → va_W} (hws : ∀ q, ws ++ [(q, .inl (cA, N, .inr (.inr (.inr (.inr (fun _ => none))))))] = ws' q) (K : ∀ q, kW X (n + 1) (sl + N) (pc + 3) L (.ref q :: st) (ws' q)) : kW X n sl pc L (.int z :: st) ws := fun ls H locs hl hP hD hS => by
  have hR := c.2.2.2.1
  refine va_newq c.1.1 c.1.2.1 c.1.2.2.2.1 (c.1.2.2.2.2.1 _ hlink) hov c.1.2.2.2.2.2 hP hD hS c.2.2.1 hn hN hb (by rw [hR]; exact hc) (by rw [hR]; exact hs) hd (fun q cA' H1 hK' hP' hD' hS' => ?_)
  have e1 := (hK'.2 tys.length (cA', .object C) (by simp)).2
  have e2 := (c.1.2.2.2.2.2.2 t0 (cA, .object C) ht).2
  cases k_ra e1 e2
  have k := K q
  rw [← hws q] at k
  exact k ls H1 locs hl hP' hD' hS'
theorem k_new (c : kC X cc own tys rm ml) {C : String} {T : u_T} {N ci i : Nat} (hin : ∀ w ∈ u_ws C T N, w ∈ wTs) (ty0 : Nat → FieldType) (hty : ∀ k, k < N → parseFieldDescriptor (T k).2.2.1 = some (ty0 k)) (hlink : Cond.classLink own i C ∈ wTs) (hinst : Cond.instantiable C N ∈ wTs) (hini : Cond.initialized C ∈ wTs) (hc : wCl[ci]? = some (C, T, N)) {fs : List Value} (hfs : ∀ j, j < N → defaultValue (ty0 j) = vp_V fs j) (hcl : n + 1 ≤ rm.cells) (hs : sl + N ≤ rm.slots) (hd : decode cc pc = .ok (.new i, 3)) {ws' : Nat → va_W} (hws : ∀ q, ws ++ [(q, .inr (ci, fs))] = ws' q) (K : ∀ q, kW X (n + 1) (sl + N) (pc + 3) L (.ref q :: st) (ws' q)) : kW X n sl pc L st ws := fun ls H locs hl hP hD hS => by
  have hR := c.2.2.2.1
  refine va_new c.1.1 c.1.2.1 c.1.2.2.2.2.1 hin ty0 hty c.1.2.2.2.1 (c.1.2.2.2.2.1 _ hlink) (c.1.2.2.2.2.1 _ hinst) (c.1.2.2.2.2.1 _ hini) c.1.2.2.2.2.2 hP hD hS c.2.2.1 (by rw [c.2.1]; exact hc) hfs (by rw [hR]; exact hcl) (by rw [hR]; exact hs) hd (fun q H1 hP' hD' hS' => ?_)
  have k := K q
  rw [← hws q] at k
  exact k ls H1 locs hl hP' hD' hS'
theorem k_obj (c : kC X cc own tys rm ml) {i a : Nat} (hlink : Cond.methodLink own i objectInit ∈ wTs) (hinst : Cond.instanceMethod objectInit ∈ wTs) (hcode : Cond.code objectInit ⟨#[0xb1]⟩ 1 none ∈ wTs) (hfr : 1 ≤ rm.frames) (hlo : (st.map fun v => v.category).sum + 12 ≤ rm.locals) (hd : decode cc pc = .ok (.invokespecial i, 3)) (K : kW X n sl (pc + 3) L st ws) : kW X n sl pc L (.ref a :: st) ws := fun ls H locs hl hP hD hS => by
  have hR := c.2.2.2.1
  exact W.objInit c.1.1 c.1.2.1 c.1.2.2.2.1 (c.1.2.2.2.2.1 _ hlink) (c.1.2.2.2.2.1 _ hinst) (c.1.2.2.2.2.1 _ hcode) rfl (by rw [c.1.2.2.1]; exact hl.1) rfl hd (by rw [hR]; exact hfr) (by rw [hR]; show 2 * 0 + _ + 12 ≤ _; omega) (K ls H locs hl hP hD hS)
theorem k_iastA (c : kC X cc own tys rm ml) (P : (Nat → Int32) → Prop) (q0 t0 : Nat) {a : Nat} {cA : ClassId} {m : Nat} {f : Nat → Int32} (ha : ws[q0]? = some (a, .inl (cA, m, .inl f))) (ht : tys[t0]? = some (cA, .int)) {i x : Int32} (hin : vp_in i m) (hd : decode cc pc = .ok (.iastore, 1)) (hP' : P (upd f i.toNatClampNeg x)) {ws' : (Nat → Int32) → va_W} (hws : ∀ g, ws.set q0 (a, .inl (cA, m, .inl g)) = ws' g) (K : ∀ g, P g → kW X n sl (pc + 1) L st (ws' g)) : kW X n sl pc L (.int x :: .int i :: .ref a :: st) ws := fun ls H locs hl hP hD hS =>
  va_iast c.1.1 c.1.2.1 c.1.2.2.2.2.2 hP hD hS q0 t0 ha ht hin hd (fun H1 locs1 hP1 hD1 hS1 => by
    have k := K _ hP'
    rw [← hws] at k
    exact k ls H1 locs1 hl hP1 hD1 hS1)
theorem k_zastA (c : kC X cc own tys rm ml) (P : (Nat → Int32) → Prop) (q0 t0 : Nat) {a : Nat} {cA : ClassId} {m : Nat} {f : Nat → Int32} (ha : ws[q0]? = some (a, .inl (cA, m, .inl f))) (ht : tys[t0]? = some (cA, .boolean)) {i x : Int32} (hin : vp_in i m) (hd : decode cc pc = .ok (.bastore, 1)) (hP' : P (upd f i.toNatClampNeg (vp_nar .boolean x))) {ws' : (Nat → Int32) → va_W} (hws : ∀ g, ws.set q0 (a, .inl (cA, m, .inl g)) = ws' g) (K : ∀ g, P g → kW X n sl (pc + 1) L st (ws' g)) : kW X n sl pc L (.int x :: .int i :: .ref a :: st) ws := fun ls H locs hl hP hD hS =>
  va_zast c.1.1 c.1.2.1 c.1.2.2.2.2.2 hP hD hS q0 t0 ha ht hin hd (fun H1 locs1 hP1 hD1 hS1 => by
    have k := K _ hP'
    rw [← hws] at k
    exact k ls H1 locs1 hl hP1 hD1 hS1)
theorem k_iald (c : kC X cc own tys rm ml) (q0 t0 : Nat) {a : Nat} {cA : ClassId} {m : Nat} {f : Nat → Int32} (ha : ws[q0]? = some (a, .inl (cA, m, .inl f))) (ht : tys[t0]? = some (cA, .int)) {i v : Int32} (hin : vp_in i m) (hv : f i.toNatClampNeg = v) (hd : decode cc pc = .ok (.iaload, 1)) (K : kW X n sl (pc + 1) L (.int v :: st) ws) : kW X n sl pc L (.int i :: .ref a :: st) ws := fun ls H locs hl hP hD hS => by
  subst hv
  exact va_iald c.1.1 c.1.2.1 c.1.2.2.2.2.2 hP q0 t0 ha ht hin hd (K ls H locs hl hP hD hS)
theorem k_aast (c : kC X cc own tys rm ml) (q0 t0 qk ci : Nat) {a : Nat} {cA : ClassId} {r : vw_C} {m v : Nat} {vs : List Value} {f : Nat → Option Nat} (ha : ws[q0]? = some (a, .inl (cA, m, .inr (.inr (.inr (.inr f)))))) (ht : tys[t0]? = some (cA, .object r.1)) (hv : ws[qk]? = some (v, .inr (ci, vs))) (hc : wCl[ci]? = some r) {i : Int32} (hin : vp_in i m) (hd : decode cc pc = .ok (.aastore, 1)) (hws : ws.set q0 (a, .inl (cA, m, .inr (.inr (.inr (.inr (va_up f i.toNatClampNeg (some v))))))) = ws') (K : kW X n sl (pc + 1) L st ws') : kW X n sl pc L (.ref v :: .int i :: .ref a :: st) ws := fun ls H locs hl hP hD hS => by
  subst hws
  exact va_astq c.1.1 c.1.2.1 c.1.2.2.2.2.2 hP hD hS q0 t0 qk ci ha ht hv (by rw [c.2.1]; exact hc) hin hd (fun H1 locs1 hP1 hD1 hS1 => K ls H1 locs1 hl hP1 hD1 hS1)
/-! contracts of what makes -/
def kQ (D : va_G) (A : Nat → Prop) (Wp : va_W → Prop) : Array Value → State → Outcome → State → Prop := fun _ st oc t => (∃ ws' : va_W, oc = .returned none ∧ Wp ws' ∧ va_P D wCl ws' t.heap ∧ va_D A ws') ∧ va_F A st t
def kSF (s : State) : Prop := (∀ q ∈ wNest, va_Nw (Cond.methodLinkNest q.1 q.2.1 q.2.2.1 q.2.2.2) s) ∧ va_AO "NearSpell$FormList" s
def kPre (D : va_G) (tys : List (ClassId × FieldType)) (wpre : va_W) (sz : Nat) (U : State) : Prop := U.heap.size = sz ∧ va_P D wCl wpre U.heap ∧ va_K D wCl tys U ∧ va_D (fun _ => True) wpre ∧ kSF U
def kMet (l : Launch) (D : va_G) (tys : List (ClassId × FieldType)) (y : MethodName) (b : ByteArray) (ml : Nat) (rm : Room) (vs : List Value) (wpre : va_W) (Wp : va_W → Prop) : Prop := ∀ sz, Met l y (Cond.code y b ml none :: wTs) rm (va_Pc vs (kPre D tys wpre sz)) (kQ D (va_A wpre sz) Wp) rm.cells rm.slots (va_A wpre sz)
def kB (X : rfX) (l : Launch) (D : va_G) : Prop := kSF (xs X) ∧ xl X = l ∧ xD X = D
def kE (X : rfX) (l : Launch) (D : va_G) (nm : String) (rm : Room) (Wp : va_W → Prop) : Prop := kB X l D ∧ (xt X).name = nm ∧ (xt X).sig.returnType = none ∧ (xt X).locks = false ∧ xQ X = MQ (xb X) (kQ D (xA X) Wp) (xa X) (xs X) rm.cells rm.slots (xA X)
theorem kSF_to {s U : State} (h : kSF s) (hU : s.WarmedH U.vm ∨ U.vm = s.vm) : kSF U := by
  refine ⟨fun q hq => ?_, ?_⟩
  · rcases hU with hU | hU
    · exact va_Nw.warmM hU (h.1 q hq)
    · exact va_Nw.same rfl hU.symm (h.1 q hq)
  · rcases hU with hU | hU
    · exact va_AO.moved hU.alike h.2
    · exact va_AO.moved (by rw [hU]; exact Vm.Alike.refl _) h.2
theorem k_good {y : MethodName} {b : ByteArray} {ml : Nat} {r : Option FieldType} (hc : Cond.code y b ml r ∈ wTs) : GoodIn wTs (Cond.code y b ml r :: wTs) := by
  intro w hw
  rcases List.mem_cons.mp hw with e | hw
  · subst e; exact ⟨hc, good_of_word (wgood _ hc)⟩
  · exact ⟨hw, good_of_word (wgood _ hw)⟩
theorem k_met {l : Launch} {D : va_G} {y : MethodName} {b : ByteArray} {vs : List Value} {wpre : va_W} {Wp : va_W → Prop} (hy : plainName y.cls = true) (hwd : (lg_sl vs).length ≤ ml) (H : ∀ X, kC X b y.cls tys rm ml → kE X l D y.name rm Wp → kW X 0 0 0 (lv_args 0 vs) [] wpre) : kMet l D tys y b ml rm vs wpre Wp := by
  intro sz
  refine Met.ofW (cc := b) (maxL := ml) (ret := none) hy rfl ?_
  intro p e s m args below meth c s₁ B hml hpc
  obtain ⟨rfl, hsz, hP0, hK, hD0, hSF⟩ := hpc
  subst hsz
  have hts0 := atoms_spec (ws := Cond.code y b ml none :: wTs) B.pre
  have hts : ∀ w ∈ wTs, w.before vs.toArray s = true := fun w hw => hts0 w (List.mem_cons_of_mem _ hw)
  have hown : s.vm.findClass y.cls = some m.cls := findClass_of_methodNamed B.named
  let X : rfX := (p, l, e, (headSpec (Cond.code y b ml none :: wTs) rm).room, s, m, vs.toArray, below, meth, c, MQ below (kQ D (va_A wpre s.heap.size) Wp) vs.toArray s rm.cells rm.slots (va_A wpre s.heap.size), ml, D, wCl, va_A wpre s.heap.size)
  have hl := lv_entry vs (n := ml) hwd
  rw [lg_entry_eq]
  have hc : kC X b y.cls tys rm ml := ⟨⟨B.exec, B.bytes, hml, hown, hts, hK⟩, rfl, fun q h => Or.inr h, rfl, rfl⟩
  have he : kE X l D y.name rm Wp := ⟨⟨hSF, rfl, rfl⟩, (name_of_methodNamed B.named B.method).1, B.returns, B.notSynchronized, rfl⟩
  exact H X hc he _ s.heap [] hl hP0 hD0.self va_S.rf
theorem k_ret {l : Launch} {D : va_G} {nm : String} {Wp : va_W → Prop} (c : kC X cc own tys rm ml) (e : kE X l D nm rm Wp) (hn : n = rm.cells) (hsl : sl = rm.slots) (hd : decode cc pc = .ok (.return_, 1)) (hw : Wp ws) : kW X n sl pc L [] ws := fun ls H locs hl hP hD hS => by
  subst hn
  subst hsl
  show W _ _ _ _ _ _ _ _ _ _ _ _ _ _ _ _
  rw [e.2.2.2.2]
  exact W.vret c.1.1 c.1.2.1 e.2.2.1 (fun t ht hW => ⟨⟨ws, rfl, hw, by rw [ht, ← e.1.2.2, ← c.2.1]; exact hP, hD⟩, hS.F ht⟩) hS.2.2 hd e.2.2.2.1
theorem k_blind {D : va_G} {wpre : va_W} {sz : Nat} (vs : List Value) : FrameBlind (va_Pc vs (kPre D tys wpre sz)) := by
  intro a U g mk ⟨h1, h2, h3, h4, h5, h6⟩
  exact ⟨h1, h2, h3, va_K.moved (u := U) (U := U.calling g mk a) (Vm.Alike.refl U.vm) h4, h5, kSF_to h6 (Or.inr rfl)⟩
theorem k_back {l : Launch} {D : va_G} {Wp : va_W → Prop} (c : kC X cc own tys rm ml) (e : kB X l D) {H : Heap} {locs : List Loc} {ls : Array Slot} {sv rest : List Value} {mc ms : Nat} {a : Array Value} {wpre wr : va_W} (isC isR : List Nat) (hC : isC.map (fun i => ws[i]?) = wpre.map some) (hR : isR.map (fun i => ws[i]?) = wr.map some) (hnd : va_nd isR = true) (hdis : ∀ i ∈ isR, i ∉ isC) (hl : lv_has ls (xn X) L) (hP : va_P (xD X) (xk X) ws H) (hD : va_D (xA X) ws) (hS : va_S (xA X) (xs X).heap H locs)
    (run : va_Run (xp X) (xl X) (xe X) (xR X) (xs X) (xm X) (xa X) (xb X) (xt X) (xc X) H locs n sl mc ms (F0 (xm X) pc ls sv) rest (kQ D (va_A wpre H.size) Wp a) (va_A wpre H.size)) (K : ∀ ws', Wp ws' → kW X (n + mc) (sl + ms) (pc + 3) L rest (wr ++ ws')) : W (xp X) (xl X) (xe X) (xR X) (xs X) (xm X) (xa X) (xb X) (xt X) (xc X) H locs n sl (xQ X) (F0 (xm X) pc ls sv) := by
  have hFc := va_free (wc := wpre) hD hS c.2.2.1 isC hC
  intro T hT X0
  obtain ⟨v, st₀, t, T', Lc, h0, X', hL, e1, e2, ⟨⟨ws', hv, hp, hP1, hD1⟩, hz, hk⟩, stp⟩ := run T hT X0
  cases hv
  rw [h0] at hz hk
  obtain ⟨hPj, hDj⟩ := va_join (wr := wr) (w1 := ws') hP hD isC isR hC hR hnd hdis hk hFc (by rw [e.2.2, c.2.1]; exact hP1) hD1
  obtain ⟨t2, a1, b1⟩ := K ws' hp ls T'.heap (locs ++ Lc) hl (by rw [e1]; exact hPj) hDj
    ⟨Nat.le_trans hS.1 (by rw [e1]; exact hz), fun q h1 h2 => by rw [e1, hk q (Nat.lt_of_lt_of_le h1 hS.1) (fun h => h2 (hFc q h))]; exact hS.2.1 q h1 h2, fun q hq => by
      rcases List.mem_append.mp hq with h | h
      · exact hS.2.2 q h
      · exact hFc _ (hL q h)⟩ T' rfl X'
  exact ⟨t2, stp t2 a1, b1⟩
/-- a constructor is called -/
theorem k_callI {l : Launch} {D : va_G} {Wp : va_W → Prop} (c : kC X cc own tys rm ml) (e : kB X l D) {y : MethodName} {b : ByteArray} {ml' : Nat} {rm' : Room} {a : Nat} {vs rest sv : List Value} {wpre wr : va_W} (hM : kMet l D tys y b ml' rm' (.ref a :: vs) wpre Wp) {i : Nat} (hlk : Cond.methodLink own i y ∈ wTs ∨ ∃ host, (own, i, y, host) ∈ wNest) (hini : Cond.initialized y.cls ∈ wTs) (hcode : Cond.code y b ml' none ∈ wTs) (hinst : Cond.instanceMethod y ∈ wTs) (hy : y.name = "<init>") (hds : y.cls ≠ "java/lang/invoke/MethodHandle" ∧ y.cls ≠ "java/lang/invoke/VarHandle" ∧ (parseMethodDescriptor y.desc).map (fun d => d.parameters.length) = some vs.length) (hR : rm'.frames + 1 ≤ rm.frames ∧ 8 + (ml' + 11) + rm'.locals ≤ rm.locals) (hf : n + rm'.cells ≤ rm.cells ∧ sl + rm'.slots ≤ rm.slots) (hd : decode cc pc = .ok (.invokespecial i, 3)) (hsv : sv = vs.reverse ++ .ref a :: rest) (hcat : (rest.map fun v => v.category).sum ≤ 8) (isC isR : List Nat) (hC : isC.map (fun i => ws[i]?) = wpre.map some) (hRr : isR.map (fun i => ws[i]?) = wr.map some) (hnC : va_nd isC = true) (hnd : va_nd isR = true) (hdis : ∀ i ∈ isR, i ∉ isC) (hCf : isC.filterMap (fun i => ws[i]?) = wpre)
    (K : ∀ ws', Wp ws' → kW X (n + rm'.cells) (sl + rm'.slots) (pc + 3) L rest (wr ++ ws')) : kW X n sl pc L sv ws := by
  intro ls H locs hl hP hD hS
  subst hsv
  have F := c.1
  have hts := F.2.2.2.2.1
  have hRm := c.2.2.2.1
  have hP2 := hP
  rw [e.2.2, c.2.1] at hP2
  have hK2 := F.2.2.2.2.2
  rw [e.2.2, c.2.1] at hK2
  have hM' := hM H.size
  rw [← e.2.1] at hM'
  have hpre : ∀ U : State, U.heap = H → (xs X).WarmedH U.vm → va_Pc (.ref a :: vs) (kPre D tys wpre H.size) (Value.ref a :: vs).toArray U := fun U hU hW => ⟨rfl, by rw [hU], by rw [hU]; exact hP2.sub isC hCf, va_K.moved hW.alike hK2, (hD.sub isC hnC hC).weaken (fun _ _ _ _ => trivial), kSF_to e.1 (Or.inl hW)⟩
  refine k_back c e isC isR hC hRr hnd hdis hl hP hD hS (mc := rm'.cells) (ms := rm'.slots) (a := (Value.ref a :: vs).toArray) ?_ K
  rcases hlk with lk | ⟨host, lk⟩
  · exact va_runI (As := vs) (rest := rest) ⟨F.1, F.2.1, F.2.2.1, F.2.2.2.1, hts⟩ hM' ⟨callB_of vs.length hts (k_good hcode) rfl rfl rfl (hts _ hini) (hts _ lk) hds (by rw [hRm]; exact hR), hy, hts _ hinst⟩ ⟨k_blind _, hpre⟩ rfl rfl hl.1 rfl (lv_room hcat) hd (by rw [hRm]; exact hf)
  · exact va_runIN (As := vs) (rest := rest) ⟨F.1, F.2.1, F.2.2.1, F.2.2.2.1, hts⟩ hM' ⟨va_cnB vs.length hts (k_good hcode) rfl rfl rfl (e.1.1 _ lk) (hts _ hini) hds (by rw [hRm]; exact hR), hy, hts _ hinst⟩ ⟨k_blind _, hpre⟩ rfl rfl hl.1 rfl (lv_room hcat) hd (by rw [hRm]; exact hf)
/-- a method of the object that is made is called -/
theorem k_callV {l : Launch} {D : va_G} {Wp : va_W → Prop} (c : kC X cc own tys rm ml) (e : kB X l D) {y : MethodName} {b : ByteArray} {ml' : Nat} {rm' : Room} {a : Nat} {vs rest sv : List Value} {wpre wr : va_W} (hM : kMet l D tys y b ml' rm' (.ref a :: vs) wpre Wp) {i : Nat} (hlk : Cond.methodLink own i y ∈ wTs) (hini : Cond.initialized y.cls ∈ wTs) (hcode : Cond.code y b ml' none ∈ wTs) (hinst : Cond.instanceMethod y ∈ wTs) (hsel : Cond.selects y.cls y y ∈ wTs) (hds : y.cls ≠ "java/lang/invoke/MethodHandle" ∧ y.cls ≠ "java/lang/invoke/VarHandle" ∧ (parseMethodDescriptor y.desc).map (fun d => d.parameters.length) = some vs.length) (hR : rm'.frames + 1 ≤ rm.frames ∧ 8 + (ml' + 11) + rm'.locals ≤ rm.locals) (hf : n + rm'.cells ≤ rm.cells ∧ sl + rm'.slots ≤ rm.slots) (hd : decode cc pc = .ok (.invokevirtual i, 3)) (hsv : sv = vs.reverse ++ .ref a :: rest) (hcat : (rest.map fun v => v.category).sum ≤ 8) (q0 ci : Nat) {T : u_T} {N : Nat} {fs : List Value} (hc : wCl[ci]? = some (y.cls, T, N)) (he : ws[q0]? = some (a, .inr (ci, fs))) (isC isR : List Nat) (hC : isC.map (fun i => ws[i]?) = wpre.map some) (hRr : isR.map (fun i => ws[i]?) = wr.map some) (hnC : va_nd isC = true) (hnd : va_nd isR = true) (hdis : ∀ i ∈ isR, i ∉ isC) (hCf : isC.filterMap (fun i => ws[i]?) = wpre)
    (K : ∀ ws', Wp ws' → kW X (n + rm'.cells) (sl + rm'.slots) (pc + 3) L rest (wr ++ ws')) : kW X n sl pc L sv ws := by
  intro ls H locs hl hP hD hS
  subst hsv
  have F := c.1
  have hts := F.2.2.2.2.1
  have hRm := c.2.2.2.1
  have hP2 := hP
  rw [e.2.2, c.2.1] at hP2
  have hK2 := F.2.2.2.2.2
  rw [e.2.2, c.2.1] at hK2
  have hM' := hM H.size
  rw [← e.2.1] at hM'
  have hpre : ∀ U : State, U.heap = H → (xs X).WarmedH U.vm → va_Pc (.ref a :: vs) (kPre D tys wpre H.size) (Value.ref a :: vs).toArray U := fun U hU hW => ⟨rfl, by rw [hU], by rw [hU]; exact hP2.sub isC hCf, va_K.moved hW.alike hK2, (hD.sub isC hnC hC).weaken (fun _ _ _ _ => trivial), kSF_to e.1 (Or.inl hW)⟩
  refine k_back c e isC isR hC hRr hnd hdis hl hP hD hS (mc := rm'.cells) (ms := rm'.slots) (a := (Value.ref a :: vs).toArray) ?_ K
  exact va_runV (C := y.cls) (As := vs) (rest := rest) ⟨F.1, F.2.1, F.2.2.1, F.2.2.2.1, hts⟩ hM' ⟨callB_of vs.length hts (k_good hcode) rfl rfl rfl (hts _ hini) (hts _ hlk) hds (by rw [hRm]; exact hR), hts _ hinst, hts _ hsel⟩ ⟨k_blind _, va_recv hK2 hP2 hc he, hpre⟩ rfl rfl hl.1 rfl (lv_room hcat) hd (by rw [hRm]; exact hf)
end RfMake
