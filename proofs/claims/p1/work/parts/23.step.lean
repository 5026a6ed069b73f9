/-! ONE STEP, whatever the instruction -/
section RfStep
variable {X : rfX} {E : rfE} {cc : ByteArray} {own : String} {S : rfS} {C : rfC} {pc : Nat} {outs : List rfO}
/-- tables of a class: fields' links, int constants, long constants, special ones, callees, links of static calls (entry, callee), of calls of objects (entry, callee, class), entries of arraycopy -/
abbrev rfP : Type := rfFl × List (Nat × Int) × List (Nat × Int) × rfT × List rfM × List (Nat × Nat) × List (Nat × Nat × Nat) × List Nat × List (Nat × Nat)
def rf_pok (G : rfG) (own : String) (P : rfP) : Prop := rf_flok own G.2.2.1 G.1.2.2.1 P.1 ∧ rf_csok own G.2.2.1 P.2.1 ∧ rf_lcok own G.2.2.1 P.2.2.1 ∧ rf_spok G own P.2.2.2.1 ∧ (∀ M ∈ P.2.2.2.2.1, rf_met G M) ∧
  (∀ q ∈ P.2.2.2.2.2.1, ∀ M, P.2.2.2.2.1[q.2]? = some M → rf_linkS G own q.1 M) ∧ (∀ q ∈ P.2.2.2.2.2.2.1, ∀ M, P.2.2.2.2.1[q.2.1]? = some M → rf_linkV G own q.1 q.2.2 M) ∧ (∀ i ∈ P.2.2.2.2.2.2.2.1, rf_cplink own G.2.2.1 i) ∧ ∀ q ∈ P.2.2.2.2.2.2.2.2, rf_bilink own G.2.2.1 q.1 q.2
def rf_ilen (i : Instr) : Nat := match i with
  | .bipush _ => 2
  | .ldc _ => 2
  | .iload _ => 2
  | .aload _ => 2
  | .istore _ => 2
  | .astore _ => 2
  | .sipush _ => 3
  | .ldc_w _ => 3
  | .ldc2_w _ => 3
  | .iinc _ _ => 3
  | .goto _ => 3
  | .ifCond _ _ => 3
  | .if_icmp _ _ => 3
  | .getfield _ => 3
  | .putfield _ => 3
  | .getstatic _ => 3
  | .invokestatic _ => 3
  | .invokevirtual _ => 3
  | _ => 1
def rf_lenok (i : Instr) (len : Nat) : Bool := match i with
  | .tableswitch _ _ _ _ => true
  | .lookupswitch _ _ => true
  | i => len == rf_ilen i
def rf_or2 {α : Type} (a b : Option α) : Option α := match a with
  | some x => some x
  | none => b
def rf_invs (P : rfP) (Lay : List rfL) (ms : List (Nat × Nat)) (fr lo pc' i n : Nat) (S : rfS) : Option (List rfO) := if P.2.2.2.2.2.2.2.1.any (fun k => k == i) then rf_copy Lay ms fr lo pc' S else (match P.2.2.2.2.2.2.2.2.find? (fun q => q.1 == i) with
  | some q => rf_bi q.2 fr lo pc' S
  | none => if P.2.2.2.2.2.1.any (fun q => q.1 == i && q.2 == n) then (match P.2.2.2.2.1[n]? with
  | some M => rf_invS Lay ms fr lo pc' M S
  | none => none) else none)
def rf_invv (P : rfP) (Lay : List rfL) (ms : List (Nat × Nat)) (fr lo pc' i n : Nat) (S : rfS) : Option (List rfO) := match P.2.2.2.2.2.2.1.find? (fun q => q.1 == i && q.2.1 == n) with
  | some q => (match P.2.2.2.2.1[n]? with
    | some M => rf_invV Lay ms fr lo pc' q.2.2 M S
    | none => none)
  | none => none
def rf_step (P : rfP) (Lay : List rfL) (ms : List (Nat × Nat)) (nL fr lo pc : Nat) (i : Instr) (n : Nat) (S : rfS) : Option (List rfO) := match i with
  | .iconst k => rf_const (-2147483648) 2147483647 (pc + 1) k S
  | .bipush k => rf_const (-128) 127 (pc + 2) k S
  | .sipush k => rf_const (-32768) 32767 (pc + 3) k S
  | .ldc k => rf_or2 (rf_ldc P.2.1 (pc + 2) k S) (rf_ldcs P.2.2.2.1 (pc + 2) k S)
  | .ldc_w k => rf_ldc P.2.1 (pc + 3) k S
  | .ldc2_w k => rf_ldc2 P.2.2.1 (pc + 3) k S
  | .lconst _ => rf_q0 (pc + 1) (.inr (.inr 0)) S
  | .iload_n k => rf_iload (pc + 1) k S
  | .iload k => rf_iload (pc + 2) k S
  | .aload_n k => rf_aload (pc + 1) k S
  | .aload k => rf_aload (pc + 2) k S
  | .lload_n k => rf_lload (pc + 1) k S
  | .istore_n k => rf_istore nL (pc + 1) k S
  | .istore k => rf_istore nL (pc + 2) k S
  | .astore_n k => rf_astore nL (pc + 1) k S
  | .astore k => rf_astore nL (pc + 2) k S
  | .lstore_n k => rf_lstore nL (pc + 1) k S
  | .iinc k d => rf_iinc nL (pc + 3) k d S
  | .iadd => rf_q2 (pc + 1) rf_adda S
  | .isub => rf_q2 (pc + 1) rf_suba S
  | .imul => rf_q2 (pc + 1) (rf_i2 rf_mul) S
  | .idiv => rf_q2 (pc + 1) rf_diva S
  | .irem => rf_q2 (pc + 1) rf_rema S
  | .iand => rf_q2 (pc + 1) (rf_i2 rf_and) S
  | .ior => rf_q2 (pc + 1) (rf_i2 rf_or) S
  | .ixor => rf_q2 (pc + 1) (rf_i2 rf_xor) S
  | .ishl => rf_q2 (pc + 1) (rf_i2 rf_shl) S
  | .ishr => rf_q2 (pc + 1) (rf_i2 (fun r _ => rf_shr r)) S
  | .iushr => rf_q2 (pc + 1) (rf_i2 (fun _ _ => rf_top)) S
  | .ineg => rf_q1 (pc + 1) (rf_i1 rf_neg) S
  | .i2b => rf_q1 (pc + 1) (rf_i1 rf_i2b) S
  | .i2c => rf_q1 (pc + 1) (rf_i1 rf_i2c) S
  | .i2l => rf_q1 (pc + 1) rf_i2la S
  | .lor => rf_q2 (pc + 1) rf_l2 S
  | .lshl => rf_q2 (pc + 1) rf_lsh S
  | .lcmp => rf_q2 (pc + 1) rf_lcm S
  | .dup => rf_dup (pc + 1) S
  | .dup2 => rf_dup2 (pc + 1) S
  | .pop => rf_pop (pc + 1) S
  | .goto o => rf_goto pc o S
  | .ifCond c o => rf_ifc Lay c pc o S
  | .if_icmp c o => rf_icmp Lay c pc o S
  | .tableswitch d a b os => rf_tsw Lay pc d a b os.toList S
  | .lookupswitch d ps => rf_lsw Lay pc d ps.toList S
  | .getfield k => rf_or2 (rf_getf Lay P.1 (pc + 3) k S) (rf_getsf P.2.2.2.1 (pc + 3) k S)
  | .putfield k => rf_putf Lay ms P.1 (pc + 3) k S
  | .getstatic k => rf_gets P.2.2.2.1 (pc + 3) k S
  | .iaload => rf_or2 (rf_ald Lay 0 (pc + 1) S) (rf_sald P.2.2.2.1 0 (pc + 1) S)
  | .baload => rf_or2 (rf_bald Lay (pc + 1) S) (rf_sald P.2.2.2.1 1 (pc + 1) S)
  | .aaload => rf_aald Lay (pc + 1) S
  | .iastore => rf_ast Lay ms 0 (fun r => r) true (pc + 1) S
  | .bastore => rf_bast Lay ms (pc + 1) S
  | .arraylength => rf_or2 (rf_alen Lay (pc + 1) S) (rf_salen P.2.2.2.1 (pc + 1) S)
  | .invokestatic k => rf_invs P Lay ms fr lo (pc + 3) k n S
  | .invokevirtual k => rf_invv P Lay ms fr lo (pc + 3) k n S
  | _ => none
theorem rf_or2_or {α : Type} {a b : Option α} {x : α} (h : rf_or2 a b = some x) : a = some x ∨ b = some x := by
  unfold rf_or2 at h
  split at h
  · exact Or.inl h
  · exact Or.inr h
set_option maxHeartbeats 4000000 in
theorem rs_step {G : rfG} (hG : rf_Gok G) (hX : rf_in_G X E G) (F : rfFx X cc own G.2.2.1 E.2.2.1) {P : rfP} (hP : rf_pok G own P) {i : Instr} {len n : Nat} (hd : decode cc pc = .ok (i, len)) (hlen : rf_lenok i len = true) (h : rf_step P E.2.2.2.1 E.2.2.2.2.1 (xn X) (xR X).frames (xR X).locals pc i n S = some outs) (hs : rf_st E S C) : rf_go X E outs pc C := by
  obtain ⟨p1, p2, p3, p4, p5, p6, p7, p8, p9⟩ := hP
  have ht : rf_tysok E.2.2.1 := by rw [hX.2.2.2.2.2.2.1]; exact hG.2.1
  have p1' : rf_flok own G.2.2.1 (xk X) P.1 := by rw [hX.2.2.1]; exact p1
  have L1 : ∀ k : Nat, (len == k) = true → len = k := fun k h => by simpa using h
  cases i with
  | iconst k => cases L1 _ hlen; exact rs_iconst F hd h hs
  | bipush k => cases L1 _ hlen; exact rs_bipush F hd h hs
  | sipush k => cases L1 _ hlen; exact rs_sipush F hd h hs
  | ldc k =>
    cases L1 _ hlen
    rcases rf_or2_or h with h | h
    · exact rs_ldc F p2 hd h hs
    · exact rs_ldcs hX F p4 hd h hs
  | ldc_w k => cases L1 _ hlen; exact rs_ldcw F p2 hd h hs
  | ldc2_w k => cases L1 _ hlen; exact rs_ldc2 F p3 hd h hs
  | lconst k => cases L1 _ hlen; exact rs_lconst F hd h hs
  | iload_n k => cases L1 _ hlen; exact rs_iload_n F hd h hs
  | iload k => cases L1 _ hlen; exact rs_iload F hd h hs
  | aload_n k => cases L1 _ hlen; exact rs_aload_n F hd h hs
  | aload k => cases L1 _ hlen; exact rs_aload F hd h hs
  | lload_n k => cases L1 _ hlen; exact rs_lload_n F hd h hs
  | istore_n k => cases L1 _ hlen; exact rs_istore_n F hd h hs
  | istore k => cases L1 _ hlen; exact rs_istore F hd h hs
  | astore_n k => cases L1 _ hlen; exact rs_astore_n F hd h hs
  | astore k => cases L1 _ hlen; exact rs_astore F hd h hs
  | lstore_n k => cases L1 _ hlen; exact rs_lstore_n F hd h hs
  | iinc k d => cases L1 _ hlen; exact rs_iinc F hd h hs
  | iadd => cases L1 _ hlen; exact rs_iadd F hd h hs
  | isub => cases L1 _ hlen; exact rs_isub F hd h hs
  | imul => cases L1 _ hlen; exact rs_imul F hd h hs
  | idiv => cases L1 _ hlen; exact rs_idiv F hd h hs
  | irem => cases L1 _ hlen; exact rs_irem F hd h hs
  | iand => cases L1 _ hlen; exact rs_iand F hd h hs
  | ior => cases L1 _ hlen; exact rs_ior F hd h hs
  | ixor => cases L1 _ hlen; exact rs_ixor F hd h hs
  | ishl => cases L1 _ hlen; exact rs_ishl F hd h hs
  | ishr => cases L1 _ hlen; exact rs_ishr F hd h hs
  | iushr => cases L1 _ hlen; exact rs_iushr F hd h hs
  | ineg => cases L1 _ hlen; exact rs_ineg F hd h hs
  | i2b => cases L1 _ hlen; exact rs_i2b F hd h hs
  | i2c => cases L1 _ hlen; exact rs_i2c F hd h hs
  | i2l => cases L1 _ hlen; exact rs_i2l F hd h hs
  | lor => cases L1 _ hlen; exact rs_lor F hd h hs
  | lshl => cases L1 _ hlen; exact rs_lshl F hd h hs
  | lcmp => cases L1 _ hlen; exact rs_lcmp F hd h hs
  | dup => cases L1 _ hlen; exact rs_dup F hd h hs
  | dup2 => cases L1 _ hlen; exact rs_dup2 F hd h hs
  | pop => cases L1 _ hlen; exact rs_pop F hd h hs
  | goto o => cases L1 _ hlen; exact rs_goto F hd h hs
  | ifCond c o => cases L1 _ hlen; exact rs_ifc F hd h hs
  | if_icmp c o => cases L1 _ hlen; exact rs_icmp F hd h hs
  | tableswitch d a b os => exact rs_table F hd h hs
  | lookupswitch d ps => exact rs_lookup F hd h hs
  | getfield k =>
    cases L1 _ hlen
    rcases rf_or2_or h with h | h
    · exact rs_getf F p1' hd h hs
    · exact rs_getsf hX F p4 hd h hs
  | putfield k => cases L1 _ hlen; exact rs_putf F p1' hd h hs
  | getstatic k => cases L1 _ hlen; exact rs_gets hX F p4 hd h hs
  | iaload =>
    cases L1 _ hlen
    rcases rf_or2_or h with h | h
    · exact rs_iald F ht hd h hs
    · exact rs_siald hX F p4 hd h hs
  | baload =>
    cases L1 _ hlen
    rcases rf_or2_or h with h | h
    · exact rs_bald F ht hd h hs
    · exact rs_sbald hX F p4 hd h hs
  | aaload => cases L1 _ hlen; exact rs_aald F ht hd h hs
  | iastore => cases L1 _ hlen; exact rs_iast F ht hd h hs
  | bastore => cases L1 _ hlen; exact rs_bast F ht hd h hs
  | arraylength =>
    cases L1 _ hlen
    rcases rf_or2_or h with h | h
    · exact rs_alen F hd h hs
    · exact rs_salen hX F p4 hd h hs
  | invokestatic k =>
    cases L1 _ hlen
    change rf_invs _ _ _ _ _ _ _ _ _ = _ at h
    unfold rf_invs at h
    split at h
    · next hc =>
      simp only [List.any_eq_true, beq_iff_eq] at hc
      obtain ⟨k', hk, rfl⟩ := hc
      exact rs_copy F ht (p8 _ hk) hd h hs
    · split at h
      · next q hq =>
        have h1 := List.mem_of_find?_eq_some hq
        have h2 := List.find?_some hq
        simp only [beq_iff_eq] at h2
        subst h2
        exact rs_bi F (p9 q h1) hd h hs
      · split at h
        · next hc =>
          simp only [List.any_eq_true, Bool.and_eq_true, beq_iff_eq] at hc
          obtain ⟨q, hq, rfl, rfl⟩ := hc
          split at h
          · next M hM => exact rs_invS hG hX F (p5 M (List.mem_of_getElem? hM)) (p6 q hq M hM) hd h hs
          · cases h
        · cases h
  | invokevirtual k =>
    cases L1 _ hlen
    change rf_invv _ _ _ _ _ _ _ _ _ = _ at h
    unfold rf_invv at h
    split at h
    · next q hq =>
      have h1 := List.mem_of_find?_eq_some hq
      have h2 := List.find?_some hq
      simp only [Bool.and_eq_true, beq_iff_eq] at h2
      obtain ⟨rfl, rfl⟩ := h2
      split at h
      · next M hM => exact rs_invV hG hX F (p5 M (List.mem_of_getElem? hM)) (p7 q h1 M hM) hd h hs
      · cases h
    · cases h
  | _ => cases h
end RfStep
