/-! DISTANCE in the class: the rest (printed by wip/p15/d15b.py) -/
def dM_tl : rfM := ((⟨"NearSpell$Ruler", "toLonger", "(II)I"⟩, prog_9_method_7_code, 5, (some .int)), (5,300), ([.inr (.inl [20]), .inl ((0,0,1),none), .inl ((0,387420488,1),none)],[]), [(18,0),(19,0),(20,5)], [])
def ddDX7_toLonger : List (Nat × Instr × Nat) := [(0,.iconst 0,1),(1,.iload_n 1,1),(2,.aload_n 0,1),(3,.getfield 25,3),(6,.invokestatic 44,3),(9,.invokestatic 49,3),(12,.istore_n 3,1),(13,.aload_n 0,1),(14,.iload_n 2,1),(15,.aload_n 0,1),(16,.getfield 15,3),(19,.iload_n 3,1),(20,.invokestatic 36,3),(23,.putfield 25,3),(26,.iload_n 3,1),(27,.iconst 1,1),(28,.iadd,1),(29,.istore 4,2),(31,.iload 4,2),(33,.aload_n 0,1),(34,.getfield 25,3),(37,.if_icmp .gt 15,3),(40,.aload_n 0,1),(41,.iload 4,2),(43,.invokevirtual 52,3),(46,.iinc 4 1,3),(49,.goto (-18),3),(52,.aload_n 0,1),(53,.getfield 18,3),(56,.aload_n 0,1),(57,.getfield 25,3),(60,.bipush 13,2),(62,.imul,1),(63,.aload_n 0,1),(64,.getfield 21,3),(67,.iadd,1),(68,.iaload,1),(69,.ireturn,1)]
set_option maxRecDepth 100000 in
theorem dkDX7_toLonger : rf_decs prog_9_method_7_code ddDX7_toLonger := dd_of (by decide +kernel)
set_option maxHeartbeats 4000000 in
set_option maxRecDepth 20000 in
theorem dp_tl {G : rfG} (hG : okG G) : h_met G dM_tl (fun _ _ => True) (fun vs F _ rv => ∃ u v : Int32, vs[2]? = some (.int u) ∧ rv = some (.int v) ∧ v.toInt = dst (fun k => (F 17 k).toInt) (ltI u.toInt) (F 20 3).toInt.toNat (lenI u.toInt)) := by
  refine h_metOf hG.1 (by decide +kernel) (by decide) hG.2.2.1 (wflT hG flokX7) (wcsT hG csokX7) ?_
  intro vs w0 X hv_ hr hp c
  match vs, hv_ with
  | [_, _, _], ⟨⟨_, hj0, rfl⟩, ⟨b, rfl, hi_b, _⟩, ⟨u, rfl, hi_u, _⟩, _⟩ =>
  cases List.mem_singleton.mp hj0
  have hd : ∀ n pc i len, ddDX7_toLonger[n]? = some (pc, i, len) → decode (mb dM_tl) pc = .ok (i, len) := fun n pc i len h => hdk dkDX7_toLonger n pc i len h
  show hW G X dM_tl w0 0 [(0, .ref (G.2.1.1 20)), (1, .int b), (2, .int u)] [] (hv w0)
  generalize hF0 : hv w0 = F at *
  have hb : b.toInt = 0 := by have h1 : 0 ≤ b.toInt := hi_b.1; have h2 : b.toInt ≤ 0 := hi_b.2.1; omega
  have hu : 0 ≤ u.toInt ∧ u.toInt ≤ 387420488 := ⟨hi_u.1, hi_u.2.1⟩
  have hts : 0 ≤ (F 20 3).toInt ∧ (F 20 3).toInt ≤ 12 := hrg hr dly_20_3
  have hos : 0 ≤ (F 20 4).toInt ∧ (F 20 4).toInt ≤ 12 := hrg hr dly_20_4
  have hl6 := lenI_le u.toInt
  have K31 : ∀ (FB : HF), hframe [(18, 0), (19, 0), (20, 5)] F FB → (∀ k : Nat, k < lenI u.toInt → (FB 18 k).toInt = ltI u.toInt k) → (FB 20 4).toInt = (lenI u.toInt : Int) → ∀ (m : Nat) (w4 w3 : Int32) (F1 : HF), hframe [(19, 0)] FB F1 → tOK FB F1 (F 20 3).toInt w4.toInt.toNat → 1 ≤ w4.toInt → w4.toInt ≤ (lenI u.toInt : Int) + 1 → m = ((lenI u.toInt : Int) + 1 - w4.toInt).toNat → hW G X dM_tl w0 31 [(4, .int w4), (3, .int w3), (2, .int u), (1, .int b), (0, .ref (G.2.1.1 20))] [] F1 := by
    intro FB frB hot hoB m
    induction m using Nat.strongRecOn with
    | ind m ih =>
    intro w4 w3 F1 fr1 htb h40 h41 hm
    refine h_il c (hd 18 31 _ _ rfl) (by rfl) (hat 33 rfl ?_)
    refine h_aln c (hd 19 33 _ _ rfl) (by rfl) (hat 34 rfl ?_)
    refine h_getI c (hd 20 34 _ _ rfl) dfgX7_25 dgnX7_25_20 (x := FB 20 4) (fr1 20 4 (by decide) (by rfl)) (hat 37 rfl ?_)
    refine h_cmp c (hd 21 37 _ _ rfl) (tgt := 52) (by decide) (fun (h37 : (FB 20 4).toInt < w4.toInt) => ?_) (fun (h37 : ¬ ((FB 20 4).toInt < w4.toInt)) => hat 40 rfl ?_)
    · skip
      refine h_aln c (hd 27 52 _ _ rfl) (by rfl) (hat 53 rfl ?_)
      refine h_getR c (hd 28 53 _ _ rfl) dfgX7_18 dgnX7_18_20 (hat 56 rfl ?_)
      refine h_aln c (hd 29 56 _ _ rfl) (by rfl) (hat 57 rfl ?_)
      refine h_getI c (hd 30 57 _ _ rfl) dfgX7_25 dgnX7_25_20 (x := FB 20 4) (fr1 20 4 (by decide) (by rfl)) (hat 60 rfl ?_)
      refine h_bp c (hd 31 60 _ _ rfl) (by decide) (fun v60 e60 => hat 62 rfl ?_)
      refine h_mulR c (hd 32 62 _ _ rfl) e60 (by omega) (fun v62 e62 => hat 63 rfl ?_)
      refine h_aln c (hd 33 63 _ _ rfl) (by rfl) (hat 64 rfl ?_)
      refine h_getI c (hd 34 64 _ _ rfl) dfgX7_21 dgnX7_21_20 (x := F 20 3) ((fr1 20 3 (by decide) (by rfl)).trans (frB 20 3 (by decide) (by rfl))) (hat 67 rfl ?_)
      refine h_add c (hd 35 67 _ _ rfl) (by omega) (fun v67 e67 => hat 68 rfl ?_)
      refine h_iald c (hd 36 68 _ _ rfl) dla19 ⟨by omega, by omega⟩ (by omega) (x := F1 19 (13 * lenI u.toInt + (F 20 3).toInt.toNat)) (rfl) (hat 69 rfl ?_)
      have ev_ := htb (lenI u.toInt) (F 20 3).toInt.toNat (by omega) (by omega)
      refine h_iret c (hd 37 69 _ _ rfl) rfl ⟨u, _, rfl, rfl, ?_⟩
      rw [ev_]
      exact dst_congr _ _ _ (Nat.le_refl _) (fun k _ => by show (FB 17 k).toInt = _; rw [frB 17 k (by decide) (by rfl)]) (fun k hk => hot k hk)
    · skip
      refine h_aln c (hd 22 40 _ _ rfl) (by rfl) (hat 41 rfl ?_)
      refine h_il c (hd 23 41 _ _ rfl) (by rfl) (hat 43 rfl ?_)
      refine h_callVF c (M' := dM_fill) (dp_fill hG) (by decide +kernel) (wlkV (lkX7_52 hG) _ rfl rfl) (j := 20) (by decide +kernel) (hd 24 43 _ _ rfl) [.int w4] (rest := []) (by rfl) ⟨⟨20, by decide, rfl⟩, ⟨_, rfl, rf_in1 (by omega) (by omega), trivial⟩, trivial⟩ (Nat.le_of_ble_eq_true rfl) ⟨w4, rfl, tOK_base fr1 (congrArg Int32.toInt ((fr1 20 3 (by decide) (by rfl)).trans (frB 20 3 (by decide) (by rfl)))) htb⟩ (fun rv43 F43 fr43 rr43 pp43 sm_ => hat 46 rfl ?_)
      obtain ⟨er_, r_, ea_, ht43⟩ := pp43
      subst er_; cases ea_
      refine h_inc c (fun r_ => [(4, .int r_), (3, .int w3), (2, .int u), (1, .int b), (0, .ref (G.2.1.1 20))]) (hd 25 46 _ _ rfl) (by decide) (by decide) (by rfl) (by omega) (fun _ => by rfl) (fun v46 e46 => hat 49 rfl ?_)
      refine h_goto c (hd 26 49 _ _ rfl) (tgt := 31) (by decide) ?_
      exact h_less (L := [(4, .int v46), (3, .int w3), (2, .int u), (1, .int b), (0, .ref (G.2.1.1 20))]) (by simp) (ih ((lenI u.toInt : Int) + 1 - v46.toInt).toNat (by omega) _ _ _ (hframe_tr fr1 fr43 (by decide)) (by rw [show v46.toInt.toNat = w4.toInt.toNat + 1 by omega]; exact tOK_back fr1 (congrArg Int32.toInt ((fr1 20 3 (by decide) (by rfl)).trans (frB 20 3 (by decide) (by rfl)))) ht43) (by omega) (by omega) rfl)
  refine h_ic c (hd 0 0 _ _ rfl) (by decide) (fun v0 e0 => hat 1 rfl ?_)
  refine h_iln c (hd 1 1 _ _ rfl) (by rfl) (hat 2 rfl ?_)
  refine h_aln c (hd 2 2 _ _ rfl) (by rfl) (hat 3 rfl ?_)
  refine h_getI c (hd 3 3 _ _ rfl) dfgX7_25 dgnX7_25_20 (x := F 20 4) (rfl) (hat 6 rfl ?_)
  refine h_min c (biMin hG) ⟨Nat.le_of_ble_eq_true rfl, Nat.le_of_ble_eq_true rfl⟩ (hd 4 6 _ _ rfl) (fun (v6 : Int32) (e6 : isMin v6.toInt b.toInt (F 20 4).toInt) => hat 9 rfl ?_)
  refine h_max c (biMax hG) ⟨Nat.le_of_ble_eq_true rfl, Nat.le_of_ble_eq_true rfl⟩ (hd 5 9 _ _ rfl) (fun (v9 : Int32) (e9 : isMax v9.toInt v0.toInt v6.toInt) => hat 12 rfl ?_)
  have z9_ : v9.toInt = 0 := by
    obtain ⟨a1_, a2_, a3_⟩ := e6
    obtain ⟨b1_, b2_, b3_⟩ := e9
    omega
  clear e6 e9
  refine h_isn c (hd 6 12 _ _ rfl) (by decide) (L' := [(3, .int v9), (0, .ref (G.2.1.1 20)), (1, .int b), (2, .int u)]) (by rfl) (hat 13 rfl ?_)
  refine h_aln c (hd 7 13 _ _ rfl) (by rfl) (hat 14 rfl ?_)
  refine h_iln c (hd 8 14 _ _ rfl) (by rfl) (hat 15 rfl ?_)
  refine h_aln c (hd 9 15 _ _ rfl) (by rfl) (hat 16 rfl ?_)
  refine h_getR c (hd 10 16 _ _ rfl) dfgX7_15 dgnX7_15_20 (hat 19 rfl ?_)
  refine h_iln c (hd 11 19 _ _ rfl) (by rfl) (hat 20 rfl ?_)
  refine h_callSF c (M' := dM_put18) (dp_put18 hG) (by decide +kernel) (wlkS (lkX7_36 hG) _ rfl rfl) (hd 12 20 _ _ rfl) [.int u, .ref (G.2.1.1 18), .int v9] (rest := [.ref (G.2.1.1 20)]) (by rfl) ⟨⟨_, rfl, rf_in1 (by omega) (by omega), trivial⟩, ⟨18, by decide, rfl⟩, ⟨_, rfl, rf_in1 (by omega) (by omega), trivial⟩, trivial⟩ (Nat.le_of_ble_eq_true rfl) trivial (fun rv20 F20 fr20 rr20 pp20 sm_ => hat 23 rfl ?_)
  obtain ⟨a_, x20, ea_, er_, hx20, hlx20⟩ := pp20
  cases ea_; subst er_
  refine h_putI c (hd 13 23 _ _ rfl) dfgX7_25 dgnX7_25_20 (by decide) (by decide) rfl (rf_in1 (by omega) (by omega)) (hat 26 rfl ?_)
  refine h_iln c (hd 14 26 _ _ rfl) (by rfl) (hat 27 rfl ?_)
  refine h_ic c (hd 15 27 _ _ rfl) (by decide) (fun v27 e27 => hat 28 rfl ?_)
  refine h_add c (hd 16 28 _ _ rfl) (by omega) (fun v28 e28 => hat 29 rfl ?_)
  refine h_is c (hd 17 29 _ _ rfl) (by decide) (L' := [(4, .int v28), (3, .int v9), (0, .ref (G.2.1.1 20)), (1, .int b), (2, .int u)]) (by rfl) (hat 31 rfl ?_)
  refine h_know c (fun hr9 _ => ?_)
  refine h_less (L := [(4, .int v28), (3, .int v9), (2, .int u), (1, .int b), (0, .ref (G.2.1.1 20))]) (by simp) (K31 (hupd F20 20 4 x20) (hframe_up (hframe_tr (hframe_rf [(18, 0), (19, 0), (20, 5)] F) fr20 (by decide)) (by rfl) _) (fun k hk => hlx20 k hk) (show (x20 : Int32).toInt = _ from hx20) _ _ _ _ (hframe_rf _ _) (fun j i hj hi => ?_) (by omega) (by omega) rfl)
  have ej_ : j = 0 := by omega
  subst ej_
  have q_ := dRow0 hr9 (i := i) (by omega)
  rw [dst_i0, show 13 * 0 + i = i by omega]
  exact q_
def dM_to : rfM := ((⟨"NearSpell$Ruler", "to", "(I)I"⟩, prog_9_method_5_code, 2, (some .int)), (6,400), ([.inr (.inl [20]), .inl ((0,387420488,1),none)],[]), [(18,0),(19,0),(20,5)], [])
def ddDX7_to : List (Nat × Instr × Nat) := [(0,.aload_n 0,1),(1,.iconst 0,1),(2,.iload_n 1,1),(3,.invokevirtual 40,3),(6,.ireturn,1)]
set_option maxRecDepth 100000 in
theorem dkDX7_to : rf_decs prog_9_method_5_code ddDX7_to := dd_of (by decide +kernel)
set_option maxHeartbeats 4000000 in
set_option maxRecDepth 20000 in
theorem dp_to {G : rfG} (hG : okG G) : h_met G dM_to (fun _ _ => True) (fun vs F _ rv => ∃ u v : Int32, vs[1]? = some (.int u) ∧ rv = some (.int v) ∧ v.toInt = dst (fun k => (F 17 k).toInt) (ltI u.toInt) (F 20 3).toInt.toNat (lenI u.toInt)) := by
  refine h_metOf hG.1 (by decide +kernel) (by decide) hG.2.2.1 (wflT hG flokX7) (wcsT hG csokX7) ?_
  intro vs w0 X hv_ hr hp c
  match vs, hv_ with
  | [_, _], ⟨⟨_, hj0, rfl⟩, ⟨u, rfl, hi_u, _⟩, _⟩ =>
  cases List.mem_singleton.mp hj0
  have hd : ∀ n pc i len, ddDX7_to[n]? = some (pc, i, len) → decode (mb dM_to) pc = .ok (i, len) := fun n pc i len h => hdk dkDX7_to n pc i len h
  show hW G X dM_to w0 0 [(0, .ref (G.2.1.1 20)), (1, .int u)] [] (hv w0)
  generalize hF0 : hv w0 = F at *
  have hu : 0 ≤ u.toInt ∧ u.toInt ≤ 387420488 := ⟨hi_u.1, hi_u.2.1⟩
  refine h_aln c (hd 0 0 _ _ rfl) (by rfl) (hat 1 rfl ?_)
  refine h_ic c (hd 1 1 _ _ rfl) (by decide) (fun v1 e1 => hat 2 rfl ?_)
  refine h_iln c (hd 2 2 _ _ rfl) (by rfl) (hat 3 rfl ?_)
  refine h_callVF c (M' := dM_tl) (dp_tl hG) (by decide +kernel) (wlkV (lkX7_40 hG) _ rfl rfl) (j := 20) (by decide +kernel) (hd 3 3 _ _ rfl) [.int v1, .int u] (rest := []) (by rfl) ⟨⟨20, by decide, rfl⟩, ⟨_, rfl, rf_in1 (by omega) (by omega), trivial⟩, ⟨_, rfl, rf_in1 (by omega) (by omega), trivial⟩, trivial⟩ (Nat.le_of_ble_eq_true rfl) trivial (fun rv3 F3 fr3 rr3 pp3 sm_ => hat 6 rfl ?_)
  obtain ⟨u_, x3, eu_, er_, hx3⟩ := pp3
  cases eu_; subst er_
  exact h_iret c (hd 4 6 _ _ rfl) rfl ⟨u, _, rfl, rfl, hx3⟩
def dM_set : rfM := ((⟨"NearSpell$Ruler", "setText", "(I)V"⟩, prog_9_method_3_code, 2, none), (5,300), ([.inr (.inl [20]), .inl ((0,387420488,1),none)],[]), [(17,0),(20,4),(20,5)], [])
def ddDX7_setText : List (Nat × Instr × Nat) := [(0,.aload_n 0,1),(1,.iload_n 1,1),(2,.aload_n 0,1),(3,.getfield 11,3),(6,.iconst 0,1),(7,.invokestatic 36,3),(10,.putfield 21,3),(13,.aload_n 0,1),(14,.iconst 0,1),(15,.putfield 25,3),(18,.return_,1)]
set_option maxRecDepth 100000 in
theorem dkDX7_setText : rf_decs prog_9_method_3_code ddDX7_setText := dd_of (by decide +kernel)
set_option maxHeartbeats 4000000 in
set_option maxRecDepth 20000 in
theorem dp_set {G : rfG} (hG : okG G) : h_met G dM_set (fun _ _ => True) (fun vs _ F' rv => rv = none ∧ ∃ a : Int32, vs[1]? = some (.int a) ∧ (F' 20 3).toInt = (lenI a.toInt : Int) ∧ ∀ k : Nat, k < lenI a.toInt → (F' 17 k).toInt = ltI a.toInt k) := by
  refine h_metOf hG.1 (by decide +kernel) (by decide) hG.2.2.1 (wflT hG flokX7) (wcsT hG csokX7) ?_
  intro vs w0 X hv_ hr hp c
  match vs, hv_ with
  | [_, _], ⟨⟨_, hj0, rfl⟩, ⟨a, rfl, hi_a, _⟩, _⟩ =>
  cases List.mem_singleton.mp hj0
  have hd : ∀ n pc i len, ddDX7_setText[n]? = some (pc, i, len) → decode (mb dM_set) pc = .ok (i, len) := fun n pc i len h => hdk dkDX7_setText n pc i len h
  show hW G X dM_set w0 0 [(0, .ref (G.2.1.1 20)), (1, .int a)] [] (hv w0)
  generalize hF0 : hv w0 = F at *
  have ha : 0 ≤ a.toInt ∧ a.toInt ≤ 387420488 := ⟨hi_a.1, hi_a.2.1⟩
  have hl6 := lenI_le a.toInt
  refine h_aln c (hd 0 0 _ _ rfl) (by rfl) (hat 1 rfl ?_)
  refine h_iln c (hd 1 1 _ _ rfl) (by rfl) (hat 2 rfl ?_)
  refine h_aln c (hd 2 2 _ _ rfl) (by rfl) (hat 3 rfl ?_)
  refine h_getR c (hd 3 3 _ _ rfl) dfgX7_11 dgnX7_11_20 (hat 6 rfl ?_)
  refine h_ic c (hd 4 6 _ _ rfl) (by decide) (fun v6 e6 => hat 7 rfl ?_)
  refine h_callSF c (M' := dM_put17) (dp_put17 hG) (by decide +kernel) (wlkS (lkX7_36 hG) _ rfl rfl) (hd 5 7 _ _ rfl) [.int a, .ref (G.2.1.1 17), .int v6] (rest := [.ref (G.2.1.1 20)]) (by rfl) ⟨⟨_, rfl, rf_in1 (by omega) (by omega), trivial⟩, ⟨17, by decide, rfl⟩, ⟨_, rfl, rf_in1 (by omega) (by omega), trivial⟩, trivial⟩ (Nat.le_of_ble_eq_true rfl) trivial (fun rv7 F7 fr7 rr7 pp7 sm_ => hat 10 rfl ?_)
  obtain ⟨a_, x7, ea_, er_, hx7, hlx7⟩ := pp7
  cases ea_; subst er_
  refine h_putI c (hd 6 10 _ _ rfl) dfgX7_21 dgnX7_21_20 (by decide) (by decide) rfl (rf_in1 (by omega) (by omega)) (hat 13 rfl ?_)
  refine h_aln c (hd 7 13 _ _ rfl) (by rfl) (hat 14 rfl ?_)
  refine h_ic c (hd 8 14 _ _ rfl) (by decide) (fun v14 e14 => hat 15 rfl ?_)
  refine h_putI c (hd 9 15 _ _ rfl) dfgX7_25 dgnX7_25_20 (by decide) (by decide) rfl (rf_in1 (by omega) (by omega)) (hat 18 rfl ?_)
  exact h_vret c (hd 10 18 _ _ rfl) rfl ⟨rfl, a, rfl, hx7, fun k hk => hlx7 k hk⟩
def dM_bet : rfM := ((⟨"NearSpell$Ruler", "between", "(II)I"⟩, prog_9_method_2_code, 3, (some .int)), (7,500), ([.inr (.inl [20]), .inl ((0,387420488,1),none), .inl ((0,387420488,1),none)],[]), [(17,0),(18,0),(19,0),(20,4),(20,5)], [])
def ddDX7_between : List (Nat × Instr × Nat) := [(0,.aload_n 0,1),(1,.iload_n 1,1),(2,.invokevirtual 28,3),(5,.aload_n 0,1),(6,.iload_n 2,1),(7,.invokevirtual 32,3),(10,.ireturn,1)]
set_option maxRecDepth 100000 in
theorem dkDX7_between : rf_decs prog_9_method_2_code ddDX7_between := dd_of (by decide +kernel)
set_option maxHeartbeats 4000000 in
set_option maxRecDepth 20000 in
theorem dp_bet {G : rfG} (hG : okG G) : h_met G dM_bet (fun _ _ => True) (fun vs _ _ rv => ∃ a u v : Int32, vs[1]? = some (.int a) ∧ vs[2]? = some (.int u) ∧ rv = some (.int v) ∧ v.toInt = dstI a.toInt u.toInt) := by
  refine h_metOf hG.1 (by decide +kernel) (by decide) hG.2.2.1 (wflT hG flokX7) (wcsT hG csokX7) ?_
  intro vs w0 X hv_ hr hp c
  match vs, hv_ with
  | [_, _, _], ⟨⟨_, hj0, rfl⟩, ⟨a, rfl, hi_a, _⟩, ⟨u, rfl, hi_u, _⟩, _⟩ =>
  cases List.mem_singleton.mp hj0
  have hd : ∀ n pc i len, ddDX7_between[n]? = some (pc, i, len) → decode (mb dM_bet) pc = .ok (i, len) := fun n pc i len h => hdk dkDX7_between n pc i len h
  show hW G X dM_bet w0 0 [(0, .ref (G.2.1.1 20)), (1, .int a), (2, .int u)] [] (hv w0)
  generalize hF0 : hv w0 = F at *
  have ha : 0 ≤ a.toInt ∧ a.toInt ≤ 387420488 := ⟨hi_a.1, hi_a.2.1⟩
  have hu : 0 ≤ u.toInt ∧ u.toInt ≤ 387420488 := ⟨hi_u.1, hi_u.2.1⟩
  refine h_aln c (hd 0 0 _ _ rfl) (by rfl) (hat 1 rfl ?_)
  refine h_iln c (hd 1 1 _ _ rfl) (by rfl) (hat 2 rfl ?_)
  refine h_callVF c (M' := dM_set) (dp_set hG) (by decide +kernel) (wlkV (lkX7_28 hG) _ rfl rfl) (j := 20) (by decide +kernel) (hd 2 2 _ _ rfl) [.int a] (rest := []) (by rfl) ⟨⟨20, by decide, rfl⟩, ⟨_, rfl, rf_in1 (by omega) (by omega), trivial⟩, trivial⟩ (Nat.le_of_ble_eq_true rfl) trivial (fun rv2 F2 fr2 rr2 pp2 sm_ => hat 5 rfl ?_)
  obtain ⟨er_, a_, ea_, hs2, ht2⟩ := pp2
  subst er_; cases ea_
  refine h_aln c (hd 3 5 _ _ rfl) (by rfl) (hat 6 rfl ?_)
  refine h_iln c (hd 4 6 _ _ rfl) (by rfl) (hat 7 rfl ?_)
  refine h_callVF c (M' := dM_to) (dp_to hG) (by decide +kernel) (wlkV (lkX7_32 hG) _ rfl rfl) (j := 20) (by decide +kernel) (hd 5 7 _ _ rfl) [.int u] (rest := []) (by rfl) ⟨⟨20, by decide, rfl⟩, ⟨_, rfl, rf_in1 (by omega) (by omega), trivial⟩, trivial⟩ (Nat.le_of_ble_eq_true rfl) trivial (fun rv7 F7 fr7 rr7 pp7 sm_ => hat 10 rfl ?_)
  obtain ⟨u_, x7, eu_, er_, hx7⟩ := pp7
  cases eu_; subst er_
  refine h_iret c (hd 6 10 _ _ rfl) rfl ⟨a, u, _, rfl, rfl, rfl, ?_⟩
  rw [hx7, show (F2 20 3).toInt.toNat = lenI a.toInt by omega]
  exact dst_congr _ _ _ (Nat.le_refl _) (fun k hk => ht2 k hk) (fun _ _ => rfl)
def dM_dist : rfM := ((⟨"NearSpell", "distance", "(II)I"⟩, prog_1_method_15_code, 3, (some .int)), (10,1000), ([.inr (.inl [70]), .inl (((-2147483648),2147483647,1),none), .inl (((-2147483648),2147483647,1),none)],[]), [(17,0),(18,0),(19,0),(20,4),(20,5)], [])
def ddDX11_distance : List (Nat × Instr × Nat) := [(0,.iload_n 1,1),(1,.invokestatic 163,3),(4,.ifCond .eq 10,3),(7,.iload_n 2,1),(8,.invokestatic 163,3),(11,.ifCond .ne 5,3),(14,.iconst (-1),1),(15,.ireturn,1),(16,.aload_n 0,1),(17,.getfield 49,3),(20,.iload_n 1,1),(21,.iload_n 2,1),(22,.invokevirtual 214,3),(25,.ireturn,1)]
set_option maxRecDepth 100000 in
theorem dkDX11_distance : rf_decs prog_1_method_15_code ddDX11_distance := dd_of (by decide +kernel)
set_option maxHeartbeats 4000000 in
set_option maxRecDepth 20000 in
theorem dp_dist {G : rfG} (hG : okG G) : h_met G dM_dist (fun _ _ => True) (fun vs _ _ rv => ∃ a u v : Int32, vs[1]? = some (.int a) ∧ vs[2]? = some (.int u) ∧ rv = some (.int v) ∧ ((cbI a.toInt ∧ cbI u.toInt ∧ v.toInt = dstI a.toInt u.toInt) ∨ (¬ (cbI a.toInt ∧ cbI u.toInt) ∧ v.toInt = -1))) := by
  refine h_metOf hG.1 (by decide +kernel) (by decide) hG.2.2.1 (wflT hG flokX11) (wcsT hG csokX11) ?_
  intro vs w0 X hv_ hr hp c
  match vs, hv_ with
  | [_, _, _], ⟨⟨_, hj0, rfl⟩, ⟨a, rfl, hi_a, _⟩, ⟨u, rfl, hi_u, _⟩, _⟩ =>
  cases List.mem_singleton.mp hj0
  have hd : ∀ n pc i len, ddDX11_distance[n]? = some (pc, i, len) → decode (mb dM_dist) pc = .ok (i, len) := fun n pc i len h => hdk dkDX11_distance n pc i len h
  show hW G X dM_dist w0 0 [(0, .ref (G.2.1.1 70)), (1, .int a), (2, .int u)] [] (hv w0)
  generalize hF0 : hv w0 = F at *
  refine h_iln c (hd 0 0 _ _ rfl) (by rfl) (hat 1 rfl ?_)
  refine h_callSF c (M' := dM_can) (dp_can hG) (by decide +kernel) (wlkS (lkX11_163 hG) _ rfl rfl) (hd 1 1 _ _ rfl) [.int a] (rest := []) (by rfl) ⟨⟨_, rfl, rf_in_top _, trivial⟩, trivial⟩ (Nat.le_of_ble_eq_true rfl) trivial (fun rv1 F1 fr1 rr1 pp1 sm_ => hat 4 rfl ?_)
  have e_ := (sm_ rfl).symm
  subst e_
  obtain ⟨a_, x1, ea_, er_, hx1⟩ := pp1
  cases ea_; subst er_
  refine h_if c (hd 2 4 _ _ rfl) (tgt := 14) (by decide) (fun (h4 : x1.toInt = 0) => ?_) (fun (h4 : ¬ (x1.toInt = 0)) => hat 7 rfl ?_)
  · skip
    refine h_ic c (hd 6 14 _ _ rfl) (by decide) (fun v14 e14 => hat 15 rfl ?_)
    exact h_iret c (hd 7 15 _ _ rfl) rfl ⟨a, u, _, rfl, rfl, rfl, Or.inr ⟨(fun q => by rcases hx1 with h_ | h_; omega; exact h_.2 q.1), by omega⟩⟩
  · skip
    refine h_iln c (hd 3 7 _ _ rfl) (by rfl) (hat 8 rfl ?_)
    refine h_callSF c (M' := dM_can) (dp_can hG) (by decide +kernel) (wlkS (lkX11_163 hG) _ rfl rfl) (hd 4 8 _ _ rfl) [.int u] (rest := []) (by rfl) ⟨⟨_, rfl, rf_in_top _, trivial⟩, trivial⟩ (Nat.le_of_ble_eq_true rfl) trivial (fun rv8 F8 fr8 rr8 pp8 sm_ => hat 11 rfl ?_)
    have e_ := (sm_ rfl).symm
    subst e_
    obtain ⟨a_, x8, ea_, er_, hx8⟩ := pp8
    cases ea_; subst er_
    refine h_if c (hd 5 11 _ _ rfl) (tgt := 16) (by decide) (fun (h11 : x8.toInt ≠ 0) => ?_) (fun (h11 : ¬ (x8.toInt ≠ 0)) => hat 14 rfl ?_)
    · skip
      have ca_ : cbI a.toInt := by rcases hx1 with h_ | h_; exact h_.2; omega
      have cu_ : cbI u.toInt := by rcases hx8 with h_ | h_; exact h_.2; omega
      have ra_ := ca_.1
      have ra2_ := ca_.2.1
      have ru_ := cu_.1
      have ru2_ := cu_.2.1
      refine h_aln c (hd 8 16 _ _ rfl) (by rfl) (hat 17 rfl ?_)
      refine h_getR c (hd 9 17 _ _ rfl) dfgX11_49 dgnX11_49_70 (hat 20 rfl ?_)
      refine h_iln c (hd 10 20 _ _ rfl) (by rfl) (hat 21 rfl ?_)
      refine h_iln c (hd 11 21 _ _ rfl) (by rfl) (hat 22 rfl ?_)
      refine h_callVF c (M' := dM_bet) (dp_bet hG) (by decide +kernel) (wlkV (lkX11_214 hG) _ rfl rfl) (j := 20) (by decide +kernel) (hd 12 22 _ _ rfl) [.int a, .int u] (rest := []) (by rfl) ⟨⟨20, by decide, rfl⟩, ⟨_, rfl, rf_in1 (by omega) (by omega), trivial⟩, ⟨_, rfl, rf_in1 (by omega) (by omega), trivial⟩, trivial⟩ (Nat.le_of_ble_eq_true rfl) trivial (fun rv22 F22 fr22 rr22 pp22 sm_ => hat 25 rfl ?_)
      obtain ⟨a_, u_, x22, ea_, eu_, er_, hx22⟩ := pp22
      cases ea_; cases eu_; subst er_
      exact h_iret c (hd 13 25 _ _ rfl) rfl ⟨a, u, _, rfl, rfl, rfl, Or.inl ⟨ca_, cu_, hx22⟩⟩
    · skip
      refine h_ic c (hd 6 14 _ _ rfl) (by decide) (fun v14 e14 => hat 15 rfl ?_)
      exact h_iret c (hd 7 15 _ _ rfl) rfl ⟨a, u, _, rfl, rfl, rfl, Or.inr ⟨(fun q => by rcases hx8 with h_ | h_; omega; exact h_.2 q.2), by omega⟩⟩
