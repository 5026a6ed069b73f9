/-! STEPS that touch no cell and don't branch -/
section RfPure
variable {X : rfX} {E : rfE} {cc : ByteArray} {own : String} {Ts : List Cond} {tys : List (ClassId × FieldType)} {S : rfS} {C : rfC} {pc pc' : Nat} {outs : List rfO}
theorem rf_tn (n : Int) (h : -2147483648 ≤ n) (h2 : n ≤ 2147483647) : (Int32.ofInt n).toInt = n := Int32.toInt_ofInt_of_le (by omega) (by omega)
theorem rf_tn8 (n : Int) (h : -128 ≤ n) (h2 : n ≤ 127) : ((Int8.ofInt n).toInt32).toInt = n := by rw [Int8.toInt_toInt32]; exact Int8.toInt_ofInt_of_le (by omega) (by omega)
theorem rf_tn16 (n : Int) (h : -32768 ≤ n) (h2 : n ≤ 32767) : ((Int16.ofInt n).toInt32).toInt = n := by rw [Int16.toInt_toInt32]; exact Int16.toInt_ofInt_of_le (by omega) (by omega)
def rf_const (lo hi : Int) (pc' : Nat) (n : Int) (S : rfS) : Option (List rfO) := if decide (lo ≤ n) && decide (n ≤ hi) then rf_q0 pc' (.inl (rf_one n, none)) S else none
theorem rs_const {lo hi n : Int} (h : rf_const lo hi pc' n S = some outs) (hs : rf_st E S C) (v : Int32) (hv : lo ≤ n → n ≤ hi → v.toInt = n) (k : rfW X pc' (C.1, .int v :: C.2.1, C.2.2) → rfW X pc C) : rf_go X E outs pc C := by
  unfold rf_const at h
  split at h
  · next hh =>
    simp only [Bool.and_eq_true, decide_eq_true_eq] at hh
    exact rf_q0_go h hs ⟨v, rfl, by rw [hv hh.1 hh.2]; exact rf_one_in n, trivial⟩ k
  · cases h
theorem rs_iconst (F : rfFx X cc own Ts tys) {n : Int} (hd : decode cc pc = .ok (.iconst n, 1)) (h : rf_const (-2147483648) 2147483647 (pc + 1) n S = some outs) (hs : rf_st E S C) : rf_go X E outs pc C :=
  rs_const h hs (Int32.ofInt n) (fun a b => rf_tn n a b) fun k ls H locs hl hP hD hS => lv_iconst F.1 F.2.1 hd rfl (k ls H locs hl hP hD hS)
theorem rs_bipush (F : rfFx X cc own Ts tys) {n : Int} (hd : decode cc pc = .ok (.bipush n, 2)) (h : rf_const (-128) 127 (pc + 2) n S = some outs) (hs : rf_st E S C) : rf_go X E outs pc C :=
  rs_const h hs _ (fun a b => rf_tn8 n a b) fun k ls H locs hl hP hD hS => lv_bipush F.1 F.2.1 hd rfl (k ls H locs hl hP hD hS)
theorem rs_sipush (F : rfFx X cc own Ts tys) {n : Int} (hd : decode cc pc = .ok (.sipush n, 3)) (h : rf_const (-32768) 32767 (pc + 3) n S = some outs) (hs : rf_st E S C) : rf_go X E outs pc C :=
  rs_const h hs _ (fun a b => rf_tn16 n a b) fun k ls H locs hl hP hD hS => lv_sipush F.1 F.2.1 hd rfl (k ls H locs hl hP hD hS)
def rf_ldc (cs : List (Nat × Int)) (pc' i : Nat) (S : rfS) : Option (List rfO) := match cs.find? (fun q => q.1 == i) with
  | some q => rf_const (-2147483648) 2147483647 pc' q.2 S
  | none => none
def rf_csok (own : String) (Ts : List Cond) (cs : List (Nat × Int)) : Prop := ∀ q ∈ cs, Cond.constant own q.1 (Int32.ofInt q.2) ∈ Ts
theorem rf_find1 {cs : List (Nat × Int)} {i : Nat} {q : Nat × Int} (h : cs.find? (fun q => q.1 == i) = some q) : (i, q.2) ∈ cs := by
  have h1 := List.mem_of_find?_eq_some h
  have h2 := List.find?_some h
  simp only [beq_iff_eq] at h2
  subst h2
  exact h1
theorem rs_ldc (F : rfFx X cc own Ts tys) {cs : List (Nat × Int)} (hc : rf_csok own Ts cs) {i : Nat} (hd : decode cc pc = .ok (.ldc i, 2)) (h : rf_ldc cs (pc + 2) i S = some outs) (hs : rf_st E S C) : rf_go X E outs pc C := by
  unfold rf_ldc at h
  split at h
  · next q hq =>
    exact rs_const h hs _ (fun a b => rf_tn _ a b) fun k ls H locs hl hP hD hS => lv_ldc F.1 F.2.1 F.2.2.2.1 (F.2.2.2.2.1 _ (hc _ (rf_find1 hq))) hd (k ls H locs hl hP hD hS)
  · cases h
theorem rs_ldcw (F : rfFx X cc own Ts tys) {cs : List (Nat × Int)} (hc : rf_csok own Ts cs) {i : Nat} (hd : decode cc pc = .ok (.ldc_w i, 3)) (h : rf_ldc cs (pc + 3) i S = some outs) (hs : rf_st E S C) : rf_go X E outs pc C := by
  unfold rf_ldc at h
  split at h
  · next q hq =>
    exact rs_const h hs _ (fun a b => rf_tn _ a b) fun k ls H locs hl hP hD hS => lv_ldcw F.1 F.2.1 F.2.2.2.1 (F.2.2.2.2.1 _ (hc _ (rf_find1 hq))) hd (k ls H locs hl hP hD hS)
  · cases h
def rf_lcok (own : String) (Ts : List Cond) (cs : List (Nat × Int)) : Prop := ∀ q ∈ cs, Cond.constantLong own q.1 (Int64.ofInt q.2) ∈ Ts
def rf_ldc2 (cs : List (Nat × Int)) (pc' i : Nat) (S : rfS) : Option (List rfO) := match cs.find? (fun q => q.1 == i) with
  | some _ => rf_q0 pc' (.inr (.inr 0)) S
  | none => none
theorem rs_ldc2 (F : rfFx X cc own Ts tys) {cs : List (Nat × Int)} (hc : rf_lcok own Ts cs) {i : Nat} (hd : decode cc pc = .ok (.ldc2_w i, 3)) (h : rf_ldc2 cs (pc + 3) i S = some outs) (hs : rf_st E S C) : rf_go X E outs pc C := by
  unfold rf_ldc2 at h
  split at h
  · next q hq =>
    exact rf_q0_go (v := .long (Int64.ofInt q.2)) h hs ⟨_, rfl⟩ fun k ls H locs hl hP hD hS => lv_ldc2 F.1 F.2.1 F.2.2.2.1 (F.2.2.2.2.1 _ (hc _ (rf_find1 hq))) hd (k ls H locs hl hP hD hS)
  · cases h
theorem rs_lconst (F : rfFx X cc own Ts tys) {n : Fin 2} (hd : decode cc pc = .ok (.lconst n, 1)) (h : rf_q0 (pc + 1) (.inr (.inr 0)) S = some outs) (hs : rf_st E S C) : rf_go X E outs pc C :=
  rf_q0_go (v := .long _) h hs ⟨_, rfl⟩ fun k ls H locs hl hP hD hS => lv_lconst F.1 F.2.1 hd rfl (k ls H locs hl hP hD hS)
-- loads
def rf_iload (pc' i : Nat) (S : rfS) : Option (List rfO) := match rf_look S.1 i with
  | some (.inl (r, y)) => rf_q0 pc' (.inl (r, match y with
    | none => some (.inl i, some 0)
    | some q => some q)) S
  | _ => none
theorem rf_at {ls : Array Slot} {nL : Nat} {L : List (Nat × Value)} (h : lv_has ls nL L) {i : Nat} {v : Value} (hm : (i, v) ∈ L) : ls[i]? = some (.val v) := h.2.2 _ hm
theorem rs_iloadG {i : Nat} (h : rf_iload pc' i S = some outs) (hs : rf_st E S C) (k : ∀ x : Int32, (i, Value.int x) ∈ C.1 → rfW X pc' (C.1, .int x :: C.2.1, C.2.2) → rfW X pc C) : rf_go X E outs pc C := by
  unfold rf_iload at h
  split at h
  · next r y hl =>
    obtain ⟨v, hm, x, rfl, hr, hy⟩ := hs.1.2.1 _ (rf_look_mem hl)
    refine rf_q0_go (v := .int x) h hs ⟨x, rfl, hr, ?_⟩ (k x hm)
    cases y with
    | none => simp [rf_sy, rf_val, rf_get_of hs.1.1 hm, rf_num]
    | some q => exact hy
  · cases h
theorem rs_iload_n (F : rfFx X cc own Ts tys) {n : Fin 4} (hd : decode cc pc = .ok (.iload_n n, 1)) (h : rf_iload (pc + 1) n S = some outs) (hs : rf_st E S C) : rf_go X E outs pc C :=
  rs_iloadG h hs fun x hm k ls H locs hl hP hD hS => lv_iload_n F.1 F.2.1 hd rfl (rf_at hl hm) (k ls H locs hl hP hD hS)
theorem rs_iload (F : rfFx X cc own Ts tys) {n : Nat} (hd : decode cc pc = .ok (.iload n, 2)) (h : rf_iload (pc + 2) n S = some outs) (hs : rf_st E S C) : rf_go X E outs pc C :=
  rs_iloadG h hs fun x hm k ls H locs hl hP hD hS => lv_iload F.1 F.2.1 hd (rf_at hl hm) (k ls H locs hl hP hD hS)
def rf_aload (pc' i : Nat) (S : rfS) : Option (List rfO) := match rf_look S.1 i with
  | some (.inr (.inl js)) => rf_q0 pc' (.inr (.inl js)) S
  | some (.inr (.inr (n + 1))) => if n == 999 then none else rf_q0 pc' (.inr (.inr (n + 1))) S
  | _ => none
theorem rs_aloadG {i : Nat} (h : rf_aload pc' i S = some outs) (hs : rf_st E S C) (k : ∀ x : Nat, (i, Value.ref x) ∈ C.1 → rfW X pc' (C.1, .ref x :: C.2.1, C.2.2) → rfW X pc C) : rf_go X E outs pc C := by
  unfold rf_aload at h
  split at h
  · next js hl =>
    obtain ⟨v, hm, j, hj, rfl⟩ := hs.1.2.1 _ (rf_look_mem hl)
    exact rf_q0_go (v := .ref (E.1 j)) h hs ⟨j, hj, rfl⟩ (k _ hm)
  · next n hl =>
    obtain ⟨v, hm, hv⟩ := hs.1.2.1 _ (rf_look_mem hl)
    split at h
    · cases h
    · next hn =>
      simp only [beq_iff_eq] at hn
      have hv' : v = .ref (E.2.1 n) := (show v = rf_spv E.2.1 n from hv).trans (rf_spv_ref hn)
      subst hv'
      exact rf_q0_go (v := .ref (E.2.1 n)) h hs (rf_spv_ref hn).symm (k _ hm)
  · cases h
theorem rs_aload_n (F : rfFx X cc own Ts tys) {n : Fin 4} (hd : decode cc pc = .ok (.aload_n n, 1)) (h : rf_aload (pc + 1) n S = some outs) (hs : rf_st E S C) : rf_go X E outs pc C :=
  rs_aloadG h hs fun x hm k ls H locs hl hP hD hS => lv_aload_n F.1 F.2.1 hd rfl (rf_at hl hm) (k ls H locs hl hP hD hS)
theorem rs_aload (F : rfFx X cc own Ts tys) {n : Nat} (hd : decode cc pc = .ok (.aload n, 2)) (h : rf_aload (pc + 2) n S = some outs) (hs : rf_st E S C) : rf_go X E outs pc C :=
  rs_aloadG h hs fun x hm k ls H locs hl hP hD hS => lv_aload F.1 F.2.1 hd (rf_at hl hm) (k ls H locs hl hP hD hS)
def rf_lload (pc' i : Nat) (S : rfS) : Option (List rfO) := match rf_look S.1 i with
  | some (.inr (.inr 0)) => rf_q0 pc' (.inr (.inr 0)) S
  | _ => none
theorem rs_lload_n (F : rfFx X cc own Ts tys) {n : Fin 4} (hd : decode cc pc = .ok (.lload_n n, 1)) (h : rf_lload (pc + 1) n S = some outs) (hs : rf_st E S C) : rf_go X E outs pc C := by
  unfold rf_lload at h
  split at h
  · next hl =>
    obtain ⟨v, hm, x, rfl⟩ := hs.1.2.1 _ (rf_look_mem hl)
    exact rf_q0_go (v := .long x) h hs ⟨x, rfl⟩ fun k ls H locs hl hP hD hS => lv_lload_n F.1 F.2.1 hd rfl (rf_at hl hm) (k ls H locs hl hP hD hS)
  · cases h
-- arithmetic
theorem rs_i2 {f : rfR → rfR → rfR} {g : Int32 → Int32 → Int32} (hf : ∀ (r t : rfR) (x y : Int32), rf_in r x.toInt → rf_in t y.toInt → rf_in (f r t) (g x y).toInt) (h : rf_q2 pc' (rf_i2 f) S = some outs) (hs : rf_st E S C) (k : ∀ (a c : Int32) (st : List Value), rfW X pc' (C.1, .int (g a c) :: st, C.2.2) → rfW X pc (C.1, .int c :: .int a :: st, C.2.2)) : rf_go X E outs pc C :=
  rf_q2_go h hs fun x y b v u st hb hx hy hc => by
    obtain ⟨a, c, rfl, rfl, hr⟩ := rf_i2_av hf hb hx hy
    exact ⟨_, hr, k a c st⟩
theorem rs_i1 {f : rfR → rfR} {g : Int32 → Int32} (hf : ∀ (r : rfR) (x : Int32), rf_in r x.toInt → rf_in (f r) (g x).toInt) (h : rf_q1 pc' (rf_i1 f) S = some outs) (hs : rf_st E S C) (k : ∀ (a : Int32) (st : List Value), rfW X pc' (C.1, .int (g a) :: st, C.2.2) → rfW X pc (C.1, .int a :: st, C.2.2)) : rf_go X E outs pc C :=
  rf_q1_go h hs fun x b v st hb hx hc => by
    obtain ⟨a, rfl, hr⟩ := rf_i1_av hf hb hx
    exact ⟨_, hr, k a st⟩
theorem rs_iadd (F : rfFx X cc own Ts tys) (hd : decode cc pc = .ok (.iadd, 1)) (h : rf_q2 (pc + 1) rf_adda S = some outs) (hs : rf_st E S C) : rf_go X E outs pc C :=
  rf_q2_go h hs fun x y b v u st hb hx hy hc => by
    obtain ⟨a, c, rfl, rfl, hr⟩ := rf_adda_av hb hx hy
    exact ⟨_, hr, fun k ls H locs hl hP hD hS => lv_iadd F.1 F.2.1 hd (k ls H locs hl hP hD hS)⟩
theorem rs_isub (F : rfFx X cc own Ts tys) (hd : decode cc pc = .ok (.isub, 1)) (h : rf_q2 (pc + 1) rf_suba S = some outs) (hs : rf_st E S C) : rf_go X E outs pc C :=
  rf_q2_go h hs fun x y b v u st hb hx hy hc => by
    obtain ⟨a, c, rfl, rfl, hr⟩ := rf_suba_av hb hx hy
    exact ⟨_, hr, fun k ls H locs hl hP hD hS => lv_isub F.1 F.2.1 hd (k ls H locs hl hP hD hS)⟩
theorem rs_idiv (F : rfFx X cc own Ts tys) (hd : decode cc pc = .ok (.idiv, 1)) (h : rf_q2 (pc + 1) rf_diva S = some outs) (hs : rf_st E S C) : rf_go X E outs pc C :=
  rf_q2_go h hs fun x y b v u st hb hx hy hc => by
    obtain ⟨a, c, rfl, rfl, hn, hr⟩ := rf_diva_av hb hx hy
    exact ⟨_, hr, fun k ls H locs hl hP hD hS => lv_idiv F.1 F.2.1 hd hn (k ls H locs hl hP hD hS)⟩
theorem rs_irem (F : rfFx X cc own Ts tys) (hd : decode cc pc = .ok (.irem, 1)) (h : rf_q2 (pc + 1) rf_rema S = some outs) (hs : rf_st E S C) : rf_go X E outs pc C :=
  rf_q2_go h hs fun x y b v u st hb hx hy hc => by
    obtain ⟨a, c, rfl, rfl, hn, hr⟩ := rf_rema_av hb hx hy
    exact ⟨_, hr, fun k ls H locs hl hP hD hS => lv_irem F.1 F.2.1 hd hn (k ls H locs hl hP hD hS)⟩
theorem rs_imul (F : rfFx X cc own Ts tys) (hd : decode cc pc = .ok (.imul, 1)) (h : rf_q2 (pc + 1) (rf_i2 rf_mul) S = some outs) (hs : rf_st E S C) : rf_go X E outs pc C :=
  rs_i2 (g := fun x y => x * y) (fun _ _ _ _ => rf_mul_in) h hs fun a c st k ls H locs hl hP hD hS => lv_imul F.1 F.2.1 hd (k ls H locs hl hP hD hS)
theorem rs_iand (F : rfFx X cc own Ts tys) (hd : decode cc pc = .ok (.iand, 1)) (h : rf_q2 (pc + 1) (rf_i2 rf_and) S = some outs) (hs : rf_st E S C) : rf_go X E outs pc C :=
  rs_i2 (g := fun x y => x &&& y) (fun _ _ _ _ => rf_and_in) h hs fun a c st k ls H locs hl hP hD hS => lv_iand F.1 F.2.1 hd (k ls H locs hl hP hD hS)
theorem rs_ior (F : rfFx X cc own Ts tys) (hd : decode cc pc = .ok (.ior, 1)) (h : rf_q2 (pc + 1) (rf_i2 rf_or) S = some outs) (hs : rf_st E S C) : rf_go X E outs pc C :=
  rs_i2 (g := fun x y => x ||| y) (fun _ _ _ _ => rf_or_in) h hs fun a c st k ls H locs hl hP hD hS => lv_ior F.1 F.2.1 hd (k ls H locs hl hP hD hS)
theorem rs_ixor (F : rfFx X cc own Ts tys) (hd : decode cc pc = .ok (.ixor, 1)) (h : rf_q2 (pc + 1) (rf_i2 rf_xor) S = some outs) (hs : rf_st E S C) : rf_go X E outs pc C :=
  rs_i2 (g := fun x y => x ^^^ y) (fun _ _ _ _ => rf_xor_in) h hs fun a c st k ls H locs hl hP hD hS => lv_ixor F.1 F.2.1 hd (k ls H locs hl hP hD hS)
theorem rs_ishl (F : rfFx X cc own Ts tys) (hd : decode cc pc = .ok (.ishl, 1)) (h : rf_q2 (pc + 1) (rf_i2 rf_shl) S = some outs) (hs : rf_st E S C) : rf_go X E outs pc C :=
  rs_i2 (g := fun x y => x <<< (y &&& 31)) (fun _ _ _ _ => rf_shl_in) h hs fun a c st k ls H locs hl hP hD hS => lv_ishl F.1 F.2.1 hd (k ls H locs hl hP hD hS)
theorem rs_ishr (F : rfFx X cc own Ts tys) (hd : decode cc pc = .ok (.ishr, 1)) (h : rf_q2 (pc + 1) (rf_i2 (fun r _ => rf_shr r)) S = some outs) (hs : rf_st E S C) : rf_go X E outs pc C :=
  rs_i2 (g := fun x y => x >>> (y &&& 31)) (fun _ _ _ _ hr _ => rf_shr_in hr) h hs fun a c st k ls H locs hl hP hD hS => lv_ishr F.1 F.2.1 hd (k ls H locs hl hP hD hS)
theorem rs_iushr (F : rfFx X cc own Ts tys) (hd : decode cc pc = .ok (.iushr, 1)) (h : rf_q2 (pc + 1) (rf_i2 (fun _ _ => rf_top)) S = some outs) (hs : rf_st E S C) : rf_go X E outs pc C :=
  rs_i2 (g := fun x y => (x.toUInt32 >>> (y.toUInt32 &&& Int32.toUInt32 31)).toInt32) (fun _ _ _ _ _ _ => rf_in_top _) h hs fun a c st k ls H locs hl hP hD hS => lv_iushr F.1 F.2.1 hd rfl (k ls H locs hl hP hD hS)
theorem rs_ineg (F : rfFx X cc own Ts tys) (hd : decode cc pc = .ok (.ineg, 1)) (h : rf_q1 (pc + 1) (rf_i1 rf_neg) S = some outs) (hs : rf_st E S C) : rf_go X E outs pc C :=
  rs_i1 (g := fun x => -x) (fun _ _ => rf_neg_in) h hs fun a st k ls H locs hl hP hD hS => lv_ineg F.1 F.2.1 hd (k ls H locs hl hP hD hS)
theorem rs_i2b (F : rfFx X cc own Ts tys) (hd : decode cc pc = .ok (.i2b, 1)) (h : rf_q1 (pc + 1) (rf_i1 rf_i2b) S = some outs) (hs : rf_st E S C) : rf_go X E outs pc C :=
  rs_i1 (g := fun x => x.toInt8.toInt32) (fun _ _ => rf_i2b_in) h hs fun a st k ls H locs hl hP hD hS => lv_i2b F.1 F.2.1 hd rfl (k ls H locs hl hP hD hS)
theorem rs_i2c (F : rfFx X cc own Ts tys) (hd : decode cc pc = .ok (.i2c, 1)) (h : rf_q1 (pc + 1) (rf_i1 rf_i2c) S = some outs) (hs : rf_st E S C) : rf_go X E outs pc C :=
  rs_i1 (g := fun x => (x.toUInt32 % 65536).toInt32) (fun _ _ => rf_i2c_in) h hs fun a st k ls H locs hl hP hD hS => lv_i2c F.1 F.2.1 hd rfl (k ls H locs hl hP hD hS)
-- longs: what they are isn't told
def rf_i2la (x : rfA) : Option rfA := match x with
  | .inl _ => some (.inr (.inr 0))
  | _ => none
theorem rs_i2l (F : rfFx X cc own Ts tys) (hd : decode cc pc = .ok (.i2l, 1)) (h : rf_q1 (pc + 1) rf_i2la S = some outs) (hs : rf_st E S C) : rf_go X E outs pc C :=
  rf_q1_go h hs fun x b v st hb hx hc => by
    match x, hb, hx with
    | .inl (r, y), hb, ⟨a, ha, _⟩ =>
      subst ha; cases hb
      exact ⟨.long a.toInt64, ⟨_, rfl⟩, fun k ls H locs hl hP hD hS => lv_i2l F.1 F.2.1 hd rfl (k ls H locs hl hP hD hS)⟩
theorem rf_l2_av {L : List (Nat × Value)} {ws : va_W} {x y b : rfA} {v u : Value} (h : rf_l2 x y = some b) (hx : rf_av E.1 E.2.1 L ws x v) (hy : rf_av E.1 E.2.1 L ws y u) : ∃ a c : Int64, v = .long a ∧ u = .long c ∧ b = .inr (.inr 0) := by
  match x, y, h, hx, hy with
  | .inr (.inr 0), .inr (.inr 0), h, ⟨a, h1⟩, ⟨c, h3⟩ =>
    cases h
    exact ⟨a, c, h1, h3, rfl⟩
theorem rs_lor (F : rfFx X cc own Ts tys) (hd : decode cc pc = .ok (.lor, 1)) (h : rf_q2 (pc + 1) rf_l2 S = some outs) (hs : rf_st E S C) : rf_go X E outs pc C :=
  rf_q2_go h hs fun x y b v u st hb hx hy hc => by
    obtain ⟨a, c, rfl, rfl, rfl⟩ := rf_l2_av hb hx hy
    exact ⟨.long (a ||| c), ⟨_, rfl⟩, fun k ls H locs hl hP hD hS => lv_lor F.1 F.2.1 hd (k ls H locs hl hP hD hS)⟩
def rf_lcm (x y : rfA) : Option rfA := match rf_l2 x y with
  | some _ => some (.inl ((-1, 1, 1), none))
  | none => none
theorem rs_lcmp (F : rfFx X cc own Ts tys) (hd : decode cc pc = .ok (.lcmp, 1)) (h : rf_q2 (pc + 1) rf_lcm S = some outs) (hs : rf_st E S C) : rf_go X E outs pc C :=
  rf_q2_go h hs fun x y b v u st hb hx hy hc => by
    unfold rf_lcm at hb
    split at hb
    · next q hq =>
      obtain ⟨a, c, rfl, rfl, rfl⟩ := rf_l2_av hq hx hy
      cases hb
      exact ⟨.int (lg_cmp a c), ⟨_, rfl, rf_lcmp a c, trivial⟩, fun k ls H locs hl hP hD hS => W.lcmp F.1 F.2.1 hd (k ls H locs hl hP hD hS)⟩
    · cases hb
def rf_lsh (x y : rfA) : Option rfA := match x, y with
  | .inr (.inr 0), .inl _ => some (.inr (.inr 0))
  | _, _ => none
theorem rs_lshl (F : rfFx X cc own Ts tys) (hd : decode cc pc = .ok (.lshl, 1)) (h : rf_q2 (pc + 1) rf_lsh S = some outs) (hs : rf_st E S C) : rf_go X E outs pc C :=
  rf_q2_go h hs fun x y b v u st hb hx hy hc => by
    match x, y, hb, hx, hy with
    | .inr (.inr 0), .inl (r, z), hb, ⟨a, ha⟩, ⟨d, hd', _⟩ =>
      subst ha; subst hd'; cases hb
      exact ⟨.long _, ⟨_, rfl⟩, fun k ls H locs hl hP hD hS => lv_lshl F.1 F.2.1 hd rfl (k ls H locs hl hP hD hS)⟩
-- the stack
def rf_cat1 (a : rfA) : Bool := match a with
  | .inr (.inr 0) => false
  | _ => true
theorem rf_cat1_av {L : List (Nat × Value)} {ws : va_W} {a : rfA} {v : Value} (h : rf_cat1 a = true) (ha : rf_av E.1 E.2.1 L ws a v) : v.category = 1 := by
  match a, h, ha with
  | .inl (r, y), _, ⟨x, h1, _⟩ => subst h1; rfl
  | .inr (.inl js), _, ⟨j, _, h1⟩ => subst h1; rfl
  | .inr (.inr (n + 1)), _, ha => simp only [rf_av] at ha; subst ha; exact rf_spv_cat _ _
def rf_dup (pc' : Nat) (S : rfS) : Option (List rfO) := match S.2.1 with
  | a :: st => if rf_cat1 a then some [(pc', (S.1, a :: a :: st, S.2.2), rf_d0)] else none
  | _ => none
def rf_pop (pc' : Nat) (S : rfS) : Option (List rfO) := match S.2.1 with
  | a :: st => if rf_cat1 a then some [(pc', (S.1, st, S.2.2), rf_d0)] else none
  | _ => none
def rf_dup2 (pc' : Nat) (S : rfS) : Option (List rfO) := match S.2.1 with
  | a :: b :: st => if rf_cat1 a && rf_cat1 b then some [(pc', (S.1, a :: b :: a :: b :: st, S.2.2), rf_d0)] else none
  | _ => none
theorem rs_dup (F : rfFx X cc own Ts tys) (hd : decode cc pc = .ok (.dup, 1)) (h : rf_dup (pc + 1) S = some outs) (hs : rf_st E S C) : rf_go X E outs pc C := by
  unfold rf_dup at h
  obtain ⟨L, sc, ws⟩ := C
  obtain ⟨SL, sst, sf⟩ := S
  have h2 := hs.1.2.2.1
  match sst, sc, h, h2 with
  | a :: st, v :: sc, h, ⟨h3, h4⟩ =>
    simp only at h
    split at h
    · next hc =>
      cases h
      exact rf_go1 hs (sc' := v :: v :: sc) ⟨h3, h3, h4⟩ fun k ls H locs hl hP hD hS => lv_dup F.1 F.2.1 hd (rf_cat1_av hc h3) (k ls H locs hl hP hD hS)
    · cases h
theorem rs_pop (F : rfFx X cc own Ts tys) (hd : decode cc pc = .ok (.pop, 1)) (h : rf_pop (pc + 1) S = some outs) (hs : rf_st E S C) : rf_go X E outs pc C := by
  unfold rf_pop at h
  obtain ⟨L, sc, ws⟩ := C
  obtain ⟨SL, sst, sf⟩ := S
  have h2 := hs.1.2.2.1
  match sst, sc, h, h2 with
  | a :: st, v :: sc, h, ⟨h3, h4⟩ =>
    simp only at h
    split at h
    · next hc =>
      cases h
      exact rf_go1 hs (sc' := sc) h4 fun k ls H locs hl hP hD hS => lv_pop F.1 F.2.1 hd (rf_cat1_av hc h3) (k ls H locs hl hP hD hS)
    · cases h
theorem rs_dup2 (F : rfFx X cc own Ts tys) (hd : decode cc pc = .ok (.dup2, 1)) (h : rf_dup2 (pc + 1) S = some outs) (hs : rf_st E S C) : rf_go X E outs pc C := by
  unfold rf_dup2 at h
  obtain ⟨L, sc, ws⟩ := C
  obtain ⟨SL, sst, sf⟩ := S
  have h2 := hs.1.2.2.1
  match sst, sc, h, h2 with
  | a :: b :: st, v :: u :: sc, h, ⟨h3, h4, h5⟩ =>
    simp only at h
    split at h
    · next hc =>
      simp only [Bool.and_eq_true] at hc
      cases h
      exact rf_go1 hs (sc' := v :: u :: v :: u :: sc) ⟨h3, h4, h3, h4, h5⟩ fun k ls H locs hl hP hD hS => lv_dup2_11 F.1 F.2.1 hd (rf_cat1_av hc.1 h3) (rf_cat1_av hc.2 h4) (k ls H locs hl hP hD hS)
    · cases h
  | _ :: _ :: _, [], _, h2 => exact h2.elim
  | _ :: _ :: _, [_], _, h2 => exact h2.2.elim
end RfPure
