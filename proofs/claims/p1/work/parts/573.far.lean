/-! far in the reference; later (printed by wip/p1/h3.py) -/
theorem efgX10_35 : rf_flget flX10 35 = some (10,9,1) := by decide +kernel
theorem egnX10_35_68 : rf_gone wLay 10 9 68 = some (.inl ((0,100000,1),none)) := rfl
theorem efgX11_92 : rf_flget flX11 92 = some (11,12,0) := by decide +kernel
theorem egnX11_92_70 : rf_gone wLay 11 12 70 = some (.inr (.inl [68])) := rfl
theorem efgX12_483 : rf_flget flX12 483 = some (12,64,1) := by decide +kernel
theorem egnX12_483_114 : rf_gone wLay 12 64 114 = some (.inl ((0,100000,1),none)) := rfl
/-- far -/
def hq_far_M : rfM := ((⟨"NearSpellModel", "far", "(II)I"⟩, prog_14_method_92_code, 7, (some .int)), (6,289), ([.inr (.inl [114]),.inl ((0,6,1),none),.inl ((0,1,1),none)],[((90,28),(0,0,0),none),((90,29),(0,0,0),none),((90,36),(0,0,0),none),((114,44),(0,0,0),none),((114,45),(0,0,0),none)]), [(102,0),(103,0)], [(some (.inl ((0,0,0),none)),[],[])])
def ddEX12_far : List (Nat × Instr × Nat) := [(0,.iload_n 1,1),(1,.iconst 0,1),(2,.bipush 6,2),(4,.invokestatic 334,3),(7,.ifCond .eq 12,3),(10,.iload_n 2,1),(11,.iconst 0,1),(12,.iconst 1,1),(13,.invokestatic 334,3),(16,.ifCond .ne 5,3),(19,.iconst (-1),1),(20,.ireturn,1),(21,.aload_n 0,1),(22,.iload_n 1,1),(23,.invokevirtual 450,3),(26,.aload_n 0,1),(27,.invokevirtual 423,3),(30,.istore_n 3,1),(31,.iconst 0,1),(32,.istore 4,2),(34,.iconst 0,1),(35,.istore 5,2),(37,.iconst 0,1),(38,.istore 6,2),(40,.iload 6,2),(42,.sipush 16384,3),(45,.if_icmp .ge 51,3),(48,.iload 6,2),(50,.iload_n 3,1),(51,.iconst (-1),1),(52,.ixor,1),(53,.iand,1),(54,.ifCond .ne 36,3),(57,.iload 6,2),(59,.invokestatic 356,3),(62,.iload 5,2),(64,.if_icmp .le 26,3),(67,.aload_n 0,1),(68,.iload 6,2),(70,.invokevirtual 459,3),(73,.ifCond .ne 6,3),(76,.goto 14,3),(79,.iload 6,2),(81,.istore 4,2),(83,.iload 6,2),(85,.invokestatic 356,3),(88,.istore 5,2),(90,.iinc 6 1,3),(93,.goto (-53),3),(96,.iload_n 2,1),(97,.ifCond .ne 8,3),(100,.iload 5,2),(102,.goto 5,3),(105,.iload 4,2),(107,.ireturn,1)]
set_option maxRecDepth 100000 in
theorem dkEX12_far : rf_decs prog_14_method_92_code ddEX12_far := rf_decs_of (by decide +kernel)
theorem far_and {w x v : Int32} (hx : x.toInt = 0) (hv : v.toInt = -1) : (w &&& (x ^^^ v)) = w := by
  have e0 : (0 : Int32).toInt = 0 := by decide +kernel
  have e1 : x = 0 := Int32.toInt_inj.mp (by rw [hx, e0])
  cases h_cm1 hv
  subst e1
  rw [show (0 : Int32) ^^^ (-1) = -1 by decide +kernel]
  exact b_ext (fun i hi => by rw [b_and, b_m1 i hi, Bool.and_true])
set_option maxHeartbeats 8000000 in
set_option maxRecDepth 20000 in
theorem hq_far_met {G : rfG} (hG : okG G) : rf_met G hq_far_M := by
  refine h_rfOf hG.1 (by decide +kernel) (by decide) hG.2.2.1 (wflT hG flokX12) (wcsT hG csokX12) (by decide +kernel) ?_
  intro vs w0 X hv_ hr hp c
  match vs, hv_ with
  | [_, _, _], ⟨⟨_, hj0, rfl⟩, ⟨d, rfl, hi_d, _⟩, ⟨u, rfl, hi_u, _⟩, _⟩ =>
  cases List.mem_singleton.mp hj0
  have hd : ∀ n pc i len, ddEX12_far[n]? = some (pc, i, len) → decode (mb hq_far_M) pc = .ok (i, len) := fun n pc i len h => hdk dkEX12_far n pc i len h
  show hW G X hq_far_M w0 0 [(0, .ref (G.2.1.1 114)), (1, .int d), (2, .int u)] [] (hv w0)
  generalize hF0 : hv w0 = F at *
  have hdd : 0 ≤ d.toInt ∧ d.toInt ≤ 6 := ⟨hi_d.1, hi_d.2.1⟩
  have huu : 0 ≤ u.toInt ∧ u.toInt ≤ 1 := ⟨hi_u.1, hi_u.2.1⟩
  have K40 : ∀ (t3 : Int32), t3.toInt = 0 → ∀ (w5 w4 : Int32), w5.toInt = 0 → w4.toInt = 0 → ∀ (FB : HF) (m : Nat) (w6 : Int32), 0 ≤ w6.toInt → w6.toInt ≤ 16384 → m = 16384 - w6.toInt.toNat → hW G X hq_far_M w0 40 [(6, .int w6), (5, .int w5), (4, .int w4), (3, .int t3), (2, .int u), (1, .int d), (0, .ref (G.2.1.1 114))] [] FB := by
    intro t3 ht3 w5 w4 h5 h4 FB m
    induction m using Nat.strongRecOn with
    | ind m ih =>
    intro w6 h60 h61 hm
    refine h_il c (hd 24 40 _ _ rfl) (by rfl) (hat 42 rfl ?_)
    refine h_sp c (hd 25 42 _ _ rfl) (by decide) (fun v42 e42 => hat 45 rfl ?_)
    refine h_cmp c (hd 26 45 _ _ rfl) (tgt := 96) (by decide) (fun (h45 : v42.toInt ≤ w6.toInt) => ?_) (fun (h45 : ¬ (v42.toInt ≤ w6.toInt)) => hat 48 rfl ?_)
    · skip
      refine h_iln c (hd 49 96 _ _ rfl) (by rfl) (hat 97 rfl ?_)
      refine h_if c (hd 50 97 _ _ rfl) (tgt := 105) (by decide) (fun (h97 : u.toInt ≠ 0) => ?_) (fun (h97 : ¬ (u.toInt ≠ 0)) => hat 100 rfl ?_)
      · skip
        refine h_il c (hd 53 105 _ _ rfl) (by rfl) (hat 107 rfl ?_)
        exact h_iret c (hd 54 107 _ _ rfl) rfl (fun _ => ⟨_, List.mem_cons_self, ⟨_, rfl, hcon (by omega)⟩, fun q hq => absurd hq List.not_mem_nil, fun q hq => absurd hq List.not_mem_nil⟩)
      · skip
        refine h_il c (hd 51 100 _ _ rfl) (by rfl) (hat 102 rfl ?_)
        refine h_goto c (hd 52 102 _ _ rfl) (tgt := 107) (by decide) ?_
        exact h_iret c (hd 54 107 _ _ rfl) rfl (fun _ => ⟨_, List.mem_cons_self, ⟨_, rfl, hcon (by omega)⟩, fun q hq => absurd hq List.not_mem_nil, fun q hq => absurd hq List.not_mem_nil⟩)
    · skip
      refine h_il c (hd 27 48 _ _ rfl) (by rfl) (hat 50 rfl ?_)
      refine h_iln c (hd 28 50 _ _ rfl) (by rfl) (hat 51 rfl ?_)
      refine h_ic c (hd 29 51 _ _ rfl) (by decide) (fun v51 e51 => hat 52 rfl ?_)
      refine h_xor c (hd 30 52 _ _ rfl) (hat 53 rfl ?_)
      refine h_and c (hd 31 53 _ _ rfl) (hat 54 rfl ?_)
      rw [far_and ht3 e51]
      refine h_if c (hd 32 54 _ _ rfl) (tgt := 90) (by decide) (fun (h54 : w6.toInt ≠ 0) => ?_) (fun (h54 : ¬ (w6.toInt ≠ 0)) => hat 57 rfl ?_)
      · skip
        refine h_inc c (fun r_ => [(6, .int r_), (5, .int w5), (4, .int w4), (3, .int t3), (2, .int u), (1, .int d), (0, .ref (G.2.1.1 114))]) (hd 47 90 _ _ rfl) (by decide) (by decide) (by rfl) (by omega) (fun _ => by rfl) (fun v90 e90 => hat 93 rfl ?_)
        refine h_goto c (hd 48 93 _ _ rfl) (tgt := 40) (by decide) ?_
        exact h_less (L := [(6, .int v90), (5, .int w5), (4, .int w4), (3, .int t3), (2, .int u), (1, .int d), (0, .ref (G.2.1.1 114))]) (by simp) (ih (16384 - v90.toInt.toNat) (by omega) _ (by omega) (by omega) rfl)
      · skip
        refine h_il c (hd 33 57 _ _ rfl) (by rfl) (hat 59 rfl ?_)
        refine h_callS c (M' := q131_M) (q131_met hG) (by decide +kernel) (by decide +kernel) (wlkS (lkX12_356 hG) _ rfl rfl) (hd 34 59 _ _ rfl) [.int w6] (rest := []) (by rfl) ⟨⟨_, rfl, hcon (by omega), trivial⟩, trivial⟩ (Nat.le_of_ble_eq_true rfl) (fun q hq => absurd hq List.not_mem_nil) (fun rv59 F59 fr59 rr59 pp59 sm_ => hat 62 rfl ?_)
        have e_ := (sm_ rfl).symm
        subst e_
        obtain ⟨k_, hk_, pp59⟩ := pp59
        rcases hm1 hk_ with rfl
        obtain ⟨x59, hrv_, hx59⟩ := hk_val pp59
        subst hrv_
        have hx59 : 0 ≤ x59.toInt ∧ x59.toInt ≤ 0 := ⟨hx59.1, hx59.2.1⟩
        refine h_il c (hd 35 62 _ _ rfl) (by rfl) (hat 64 rfl ?_)
        refine h_cmp c (hd 36 64 _ _ rfl) (tgt := 90) (by decide) (fun (h64 : x59.toInt ≤ w5.toInt) => ?_) (fun (h64 : ¬ (x59.toInt ≤ w5.toInt)) => hat 67 rfl ?_)
        · skip
          refine h_inc c (fun r_ => [(6, .int r_), (5, .int w5), (4, .int w4), (3, .int t3), (2, .int u), (1, .int d), (0, .ref (G.2.1.1 114))]) (hd 47 90 _ _ rfl) (by decide) (by decide) (by rfl) (by omega) (fun _ => by rfl) (fun v90 e90 => hat 93 rfl ?_)
          refine h_goto c (hd 48 93 _ _ rfl) (tgt := 40) (by decide) ?_
          exact h_less (L := [(6, .int v90), (5, .int w5), (4, .int w4), (3, .int t3), (2, .int u), (1, .int d), (0, .ref (G.2.1.1 114))]) (by simp) (ih (16384 - v90.toInt.toNat) (by omega) _ (by omega) (by omega) rfl)
        · skip
          exact absurd (by omega) h64
  refine h_iln c (hd 0 0 _ _ rfl) (by rfl) (hat 1 rfl ?_)
  refine h_ic c (hd 1 1 _ _ rfl) (by decide) (fun v1 e1 => hat 2 rfl ?_)
  refine h_bp c (hd 2 2 _ _ rfl) (by decide) (fun v2 e2 => hat 4 rfl ?_)
  refine h_callSF c (M' := dM_isIn) (dp_isIn hG) (by decide +kernel) (wlkS (lkX12_334 hG) _ rfl rfl) (hd 3 4 _ _ rfl) [.int d, .int v1, .int v2] (rest := []) (by rfl) ⟨⟨_, rfl, rf_in_top _, trivial⟩, ⟨_, rfl, rf_in_top _, trivial⟩, ⟨_, rfl, rf_in_top _, trivial⟩, trivial⟩ (Nat.le_of_ble_eq_true rfl) trivial (fun rv4 F4 fr4 rr4 pp4 sm_ => hat 7 rfl ?_)
  have e_ := (sm_ rfl).symm
  subst e_
  obtain ⟨a0_, a1_, a2_, x4, ea_, er_, hx4⟩ := pp4
  cases ea_; subst er_
  refine h_if c (hd 4 7 _ _ rfl) (tgt := 19) (by decide) (fun (h7 : x4.toInt = 0) => ?_) (fun (h7 : ¬ (x4.toInt = 0)) => hat 10 rfl ?_)
  · skip
    exact absurd h7 (by omega)
  · skip
    refine h_iln c (hd 5 10 _ _ rfl) (by rfl) (hat 11 rfl ?_)
    refine h_ic c (hd 6 11 _ _ rfl) (by decide) (fun v11 e11 => hat 12 rfl ?_)
    refine h_ic c (hd 7 12 _ _ rfl) (by decide) (fun v12 e12 => hat 13 rfl ?_)
    refine h_callSF c (M' := dM_isIn) (dp_isIn hG) (by decide +kernel) (wlkS (lkX12_334 hG) _ rfl rfl) (hd 8 13 _ _ rfl) [.int u, .int v11, .int v12] (rest := []) (by rfl) ⟨⟨_, rfl, rf_in_top _, trivial⟩, ⟨_, rfl, rf_in_top _, trivial⟩, ⟨_, rfl, rf_in_top _, trivial⟩, trivial⟩ (Nat.le_of_ble_eq_true rfl) trivial (fun rv13 F13 fr13 rr13 pp13 sm_ => hat 16 rfl ?_)
    have e_ := (sm_ rfl).symm
    subst e_
    obtain ⟨a0_, a1_, a2_, x13, ea_, er_, hx13⟩ := pp13
    cases ea_; subst er_
    refine h_if c (hd 9 16 _ _ rfl) (tgt := 21) (by decide) (fun (h16 : x13.toInt ≠ 0) => ?_) (fun (h16 : ¬ (x13.toInt ≠ 0)) => hat 19 rfl ?_)
    · skip
      refine h_aln c (hd 12 21 _ _ rfl) (by rfl) (hat 22 rfl ?_)
      refine h_iln c (hd 13 22 _ _ rfl) (by rfl) (hat 23 rfl ?_)
      refine h_callV c (M' := q257_M) (q257_met hG) (by decide +kernel) (by decide +kernel) (wlkV (lkX12_450 hG) _ rfl rfl) (j := 114) (by decide +kernel) (hd 14 23 _ _ rfl) [.int d] (rest := []) (by rfl) ⟨⟨114, by decide, rfl⟩, ⟨_, rfl, rf_in1 (by omega) (by omega), trivial⟩, trivial⟩ (Nat.le_of_ble_eq_true rfl) (List.forall_mem_cons.mpr ⟨(hp _ (List.mem_of_getElem? (i := 0) rfl)), List.forall_mem_cons.mpr ⟨(hp _ (List.mem_of_getElem? (i := 1) rfl)), List.forall_mem_cons.mpr ⟨(hp _ (List.mem_of_getElem? (i := 2) rfl)), List.forall_mem_cons.mpr ⟨(hp _ (List.mem_of_getElem? (i := 3) rfl)), List.forall_mem_cons.mpr ⟨(hp _ (List.mem_of_getElem? (i := 4) rfl)), fun _ h => absurd h List.not_mem_nil⟩⟩⟩⟩⟩) (fun rv23 F23 fr23 rr23 pp23 sm_ => hat 26 rfl ?_)
      obtain ⟨k_, hk_, pp23⟩ := pp23
      rcases hm1 hk_ with rfl
      match rv23, pp23 with
      | none, pp23 =>
      skip
      refine h_aln c (hd 15 26 _ _ rfl) (by rfl) (hat 27 rfl ?_)
      refine h_callV c (M' := q199_M) (q199_met hG) (by decide +kernel) (by decide +kernel) (wlkV (lkX12_423 hG) _ rfl rfl) (j := 114) (by decide +kernel) (hd 16 27 _ _ rfl) [] (rest := []) (by rfl) ⟨⟨114, by decide, rfl⟩, trivial⟩ (Nat.le_of_ble_eq_true rfl) (List.forall_mem_cons.mpr ⟨(by show rf_in _ (F23 90 28).toInt; rw [fr23 90 28 (by decide) (by rfl)]; exact hp _ (List.mem_of_getElem? (i := 0) rfl)), List.forall_mem_cons.mpr ⟨(by show rf_in _ (F23 90 29).toInt; rw [fr23 90 29 (by decide) (by rfl)]; exact hp _ (List.mem_of_getElem? (i := 1) rfl)), List.forall_mem_cons.mpr ⟨(by show rf_in _ (F23 90 36).toInt; rw [fr23 90 36 (by decide) (by rfl)]; exact hp _ (List.mem_of_getElem? (i := 2) rfl)), fun _ h => absurd h List.not_mem_nil⟩⟩⟩) (fun rv27 F27 fr27 rr27 pp27 sm_ => hat 30 rfl ?_)
      have e_ := (sm_ rfl).symm
      subst e_
      obtain ⟨k_, hk_, pp27⟩ := pp27
      rcases hm1 hk_ with rfl
      obtain ⟨x27, hrv_, hx27⟩ := hk_val pp27
      subst hrv_
      have hx27 : 0 ≤ x27.toInt ∧ x27.toInt ≤ 0 := ⟨hx27.1, hx27.2.1⟩
      refine h_isn c (hd 17 30 _ _ rfl) (by decide) (L' := [(3, .int x27), (0, .ref (G.2.1.1 114)), (1, .int d), (2, .int u)]) (by rfl) (hat 31 rfl ?_)
      refine h_ic c (hd 18 31 _ _ rfl) (by decide) (fun v31 e31 => hat 32 rfl ?_)
      refine h_is c (hd 19 32 _ _ rfl) (by decide) (L' := [(4, .int v31), (3, .int x27), (0, .ref (G.2.1.1 114)), (1, .int d), (2, .int u)]) (by rfl) (hat 34 rfl ?_)
      refine h_ic c (hd 20 34 _ _ rfl) (by decide) (fun v34 e34 => hat 35 rfl ?_)
      refine h_is c (hd 21 35 _ _ rfl) (by decide) (L' := [(5, .int v34), (4, .int v31), (3, .int x27), (0, .ref (G.2.1.1 114)), (1, .int d), (2, .int u)]) (by rfl) (hat 37 rfl ?_)
      refine h_ic c (hd 22 37 _ _ rfl) (by decide) (fun v37 e37 => hat 38 rfl ?_)
      refine h_is c (hd 23 38 _ _ rfl) (by decide) (L' := [(6, .int v37), (5, .int v34), (4, .int v31), (3, .int x27), (0, .ref (G.2.1.1 114)), (1, .int d), (2, .int u)]) (by rfl) (hat 40 rfl ?_)
      exact h_less (L := [(6, .int v37), (5, .int v34), (4, .int v31), (3, .int x27), (2, .int u), (1, .int d), (0, .ref (G.2.1.1 114))]) (by simp) (K40 x27 (by omega) v34 v31 (by omega) (by omega) _ _ _ (by omega) (by omega) rfl)
    · skip
      exact absurd (by omega) h16
def gM_go : rfM := ((⟨"NearSpell$Witness", "goOn", "(I)I"⟩, prog_12_method_3_code, 2, (some .int)), (2,100), ([.inr (.inl [68]), .inl (((-2147483648),2147483647,1),none)],[]), [(68,10)], [])
def ddEX10_goOn : List (Nat × Instr × Nat) := [(0,.iload_n 1,1),(1,.ifCond .lt 21,3),(4,.iload_n 1,1),(5,.sipush 1000,3),(8,.if_icmp .gt 14,3),(11,.aload_n 0,1),(12,.getfield 35,3),(15,.iload_n 1,1),(16,.iadd,1),(17,.ldc 46,2),(19,.if_icmp .le 5,3),(22,.iconst (-1),1),(23,.ireturn,1),(24,.aload_n 0,1),(25,.dup,1),(26,.getfield 35,3),(29,.iload_n 1,1),(30,.iadd,1),(31,.putfield 35,3),(34,.aload_n 0,1),(35,.getfield 35,3),(38,.ireturn,1)]
set_option maxRecDepth 100000 in
theorem dkEX10_goOn : rf_decs prog_12_method_3_code ddEX10_goOn := rf_decs_of (by decide +kernel)
set_option maxHeartbeats 8000000 in
set_option maxRecDepth 20000 in
theorem gp_go {G : rfG} (hG : okG G) : h_met G gM_go (fun _ F => (F 68 9).toInt = 0) (fun vs F _ rv => ∃ a y : Int32, vs[1]? = some (.int a) ∧ rv = some (.int y) ∧ ((0 ≤ a.toInt ∧ a.toInt ≤ 1000 ∧ y.toInt = a.toInt) ∨ (¬ (0 ≤ a.toInt ∧ a.toInt ≤ 1000) ∧ y.toInt = -1))) := by
  refine h_metOf hG.1 (by decide +kernel) (by decide) hG.2.2.1 (wflT hG flokX10) (wcsT hG csokX10) ?_
  intro vs w0 X hv_ hr hp c
  match vs, hv_ with
  | [_, _], ⟨⟨_, hj0, rfl⟩, ⟨a, rfl, hi_a, _⟩, _⟩ =>
  cases List.mem_singleton.mp hj0
  have hd : ∀ n pc i len, ddEX10_goOn[n]? = some (pc, i, len) → decode (mb gM_go) pc = .ok (i, len) := fun n pc i len h => hdk dkEX10_goOn n pc i len h
  show hW G X gM_go w0 0 [(0, .ref (G.2.1.1 68)), (1, .int a)] [] (hv w0)
  generalize hF0 : hv w0 = F at *
  refine h_iln c (hd 0 0 _ _ rfl) (by rfl) (hat 1 rfl ?_)
  refine h_if c (hd 1 1 _ _ rfl) (tgt := 22) (by decide) (fun (h1 : a.toInt < 0) => ?_) (fun (h1 : ¬ (a.toInt < 0)) => hat 4 rfl ?_)
  · skip
    refine h_ic c (hd 11 22 _ _ rfl) (by decide) (fun v22 e22 => hat 23 rfl ?_)
    exact h_iret c (hd 12 23 _ _ rfl) rfl ⟨a, _, rfl, rfl, by omega⟩
  · skip
    refine h_iln c (hd 2 4 _ _ rfl) (by rfl) (hat 5 rfl ?_)
    refine h_sp c (hd 3 5 _ _ rfl) (by decide) (fun v5 e5 => hat 8 rfl ?_)
    refine h_cmp c (hd 4 8 _ _ rfl) (tgt := 22) (by decide) (fun (h8 : v5.toInt < a.toInt) => ?_) (fun (h8 : ¬ (v5.toInt < a.toInt)) => hat 11 rfl ?_)
    · skip
      refine h_ic c (hd 11 22 _ _ rfl) (by decide) (fun v22 e22 => hat 23 rfl ?_)
      exact h_iret c (hd 12 23 _ _ rfl) rfl ⟨a, _, rfl, rfl, by omega⟩
    · skip
      refine h_aln c (hd 5 11 _ _ rfl) (by rfl) (hat 12 rfl ?_)
      refine h_getI c (hd 6 12 _ _ rfl) efgX10_35 egnX10_35_68 (x := F 68 9) (rfl) (hat 15 rfl ?_)
      refine h_iln c (hd 7 15 _ _ rfl) (by rfl) (hat 16 rfl ?_)
      refine h_add c (hd 8 16 _ _ rfl) (by omega) (fun v16 e16 => hat 17 rfl ?_)
      refine h_ldc c (hd 9 17 _ _ rfl) (n := 100000) (by rfl) (by decide) (fun v17 e17 => hat 19 rfl ?_)
      refine h_cmp c (hd 10 19 _ _ rfl) (tgt := 24) (by decide) (fun (h19 : v16.toInt ≤ v17.toInt) => ?_) (fun (h19 : ¬ (v16.toInt ≤ v17.toInt)) => hat 22 rfl ?_)
      · skip
        refine h_aln c (hd 13 24 _ _ rfl) (by rfl) (hat 25 rfl ?_)
        refine h_dup c (hd 14 25 _ _ rfl) (by rfl) (hat 26 rfl ?_)
        refine h_getI c (hd 15 26 _ _ rfl) efgX10_35 egnX10_35_68 (x := F 68 9) (rfl) (hat 29 rfl ?_)
        refine h_iln c (hd 16 29 _ _ rfl) (by rfl) (hat 30 rfl ?_)
        refine h_add c (hd 17 30 _ _ rfl) (by omega) (fun v30 e30 => hat 31 rfl ?_)
        refine h_putI c (hd 18 31 _ _ rfl) efgX10_35 egnX10_35_68 (by decide) (by decide) rfl (rf_in1 (by omega) (by omega)) (hat 34 rfl ?_)
        refine h_aln c (hd 19 34 _ _ rfl) (by rfl) (hat 35 rfl ?_)
        refine h_getI c (hd 20 35 _ _ rfl) efgX10_35 egnX10_35_68 (x := v30) (rfl) (hat 38 rfl ?_)
        exact h_iret c (hd 21 38 _ _ rfl) rfl ⟨a, _, rfl, rfl, by omega⟩
      · skip
        refine h_ic c (hd 11 22 _ _ rfl) (by decide) (fun v22 e22 => hat 23 rfl ?_)
        exact h_iret c (hd 12 23 _ _ rfl) rfl ⟨a, _, rfl, rfl, by omega⟩
def gM_nlater : rfM := ((⟨"NearSpell", "later", "(I)I"⟩, prog_1_method_43_code, 2, (some .int)), (4,200), ([.inr (.inl [70]), .inl (((-2147483648),2147483647,1),none)],[]), [(68,10)], [])
def ddEX11_later : List (Nat × Instr × Nat) := [(0,.aload_n 0,1),(1,.getfield 92,3),(4,.iload_n 1,1),(5,.invokevirtual 324,3),(8,.ireturn,1)]
set_option maxRecDepth 100000 in
theorem dkEX11_later : rf_decs prog_1_method_43_code ddEX11_later := rf_decs_of (by decide +kernel)
set_option maxHeartbeats 8000000 in
set_option maxRecDepth 20000 in
theorem gp_nlater {G : rfG} (hG : okG G) : h_met G gM_nlater (fun _ F => (F 68 9).toInt = 0) (fun vs F _ rv => ∃ a y : Int32, vs[1]? = some (.int a) ∧ rv = some (.int y) ∧ ((0 ≤ a.toInt ∧ a.toInt ≤ 1000 ∧ y.toInt = a.toInt) ∨ (¬ (0 ≤ a.toInt ∧ a.toInt ≤ 1000) ∧ y.toInt = -1))) := by
  refine h_metOf hG.1 (by decide +kernel) (by decide) hG.2.2.1 (wflT hG flokX11) (wcsT hG csokX11) ?_
  intro vs w0 X hv_ hr hp c
  match vs, hv_ with
  | [_, _], ⟨⟨_, hj0, rfl⟩, ⟨a, rfl, hi_a, _⟩, _⟩ =>
  cases List.mem_singleton.mp hj0
  have hd : ∀ n pc i len, ddEX11_later[n]? = some (pc, i, len) → decode (mb gM_nlater) pc = .ok (i, len) := fun n pc i len h => hdk dkEX11_later n pc i len h
  show hW G X gM_nlater w0 0 [(0, .ref (G.2.1.1 70)), (1, .int a)] [] (hv w0)
  generalize hF0 : hv w0 = F at *
  refine h_aln c (hd 0 0 _ _ rfl) (by rfl) (hat 1 rfl ?_)
  refine h_getR c (hd 1 1 _ _ rfl) efgX11_92 egnX11_92_70 (hat 4 rfl ?_)
  refine h_iln c (hd 2 4 _ _ rfl) (by rfl) (hat 5 rfl ?_)
  refine h_callVF c (M' := gM_go) (gp_go hG) (by decide +kernel) (wlkV (lkX11_324 hG) _ rfl rfl) (j := 68) (by decide +kernel) (hd 3 5 _ _ rfl) [.int a] (rest := []) (by rfl) ⟨⟨68, by decide, rfl⟩, ⟨_, rfl, rf_in_top _, trivial⟩, trivial⟩ (Nat.le_of_ble_eq_true rfl) hp (fun rv5 F5 fr5 rr5 pp5 sm_ => hat 8 rfl ?_)
  obtain ⟨a_, x5, ea_, er_, hx5⟩ := pp5
  cases ea_; subst er_
  exact h_iret c (hd 4 8 _ _ rfl) rfl ⟨a, _, rfl, rfl, hx5⟩
def gM_later : rfM := ((⟨"NearSpellModel", "later", "(I)I"⟩, prog_14_method_119_code, 2, (some .int)), (4,200), ([.inr (.inl [114]), .inl (((-2147483648),2147483647,1),none)],[]), [(114,65)], [])
def ddEX12_later : List (Nat × Instr × Nat) := [(0,.iload_n 1,1),(1,.iconst 0,1),(2,.sipush 1000,3),(5,.invokestatic 334,3),(8,.ifCond .eq 15,3),(11,.aload_n 0,1),(12,.getfield 483,3),(15,.iload_n 1,1),(16,.iadd,1),(17,.ldc_w 486,3),(20,.if_icmp .le 5,3),(23,.iconst (-1),1),(24,.ireturn,1),(25,.aload_n 0,1),(26,.dup,1),(27,.getfield 483,3),(30,.iload_n 1,1),(31,.iadd,1),(32,.putfield 483,3),(35,.aload_n 0,1),(36,.getfield 483,3),(39,.ireturn,1)]
set_option maxRecDepth 100000 in
theorem dkEX12_later : rf_decs prog_14_method_119_code ddEX12_later := rf_decs_of (by decide +kernel)
set_option maxHeartbeats 8000000 in
set_option maxRecDepth 20000 in
theorem gp_later {G : rfG} (hG : okG G) : h_met G gM_later (fun _ F => (F 114 64).toInt = 0) (fun vs F _ rv => ∃ a y : Int32, vs[1]? = some (.int a) ∧ rv = some (.int y) ∧ ((0 ≤ a.toInt ∧ a.toInt ≤ 1000 ∧ y.toInt = a.toInt) ∨ (¬ (0 ≤ a.toInt ∧ a.toInt ≤ 1000) ∧ y.toInt = -1))) := by
  refine h_metOf hG.1 (by decide +kernel) (by decide) hG.2.2.1 (wflT hG flokX12) (wcsT hG csokX12) ?_
  intro vs w0 X hv_ hr hp c
  match vs, hv_ with
  | [_, _], ⟨⟨_, hj0, rfl⟩, ⟨a, rfl, hi_a, _⟩, _⟩ =>
  cases List.mem_singleton.mp hj0
  have hd : ∀ n pc i len, ddEX12_later[n]? = some (pc, i, len) → decode (mb gM_later) pc = .ok (i, len) := fun n pc i len h => hdk dkEX12_later n pc i len h
  show hW G X gM_later w0 0 [(0, .ref (G.2.1.1 114)), (1, .int a)] [] (hv w0)
  generalize hF0 : hv w0 = F at *
  refine h_iln c (hd 0 0 _ _ rfl) (by rfl) (hat 1 rfl ?_)
  refine h_ic c (hd 1 1 _ _ rfl) (by decide) (fun v1 e1 => hat 2 rfl ?_)
  refine h_sp c (hd 2 2 _ _ rfl) (by decide) (fun v2 e2 => hat 5 rfl ?_)
  refine h_callSF c (M' := dM_isIn) (dp_isIn hG) (by decide +kernel) (wlkS (lkX12_334 hG) _ rfl rfl) (hd 3 5 _ _ rfl) [.int a, .int v1, .int v2] (rest := []) (by rfl) ⟨⟨_, rfl, rf_in_top _, trivial⟩, ⟨_, rfl, rf_in_top _, trivial⟩, ⟨_, rfl, rf_in_top _, trivial⟩, trivial⟩ (Nat.le_of_ble_eq_true rfl) trivial (fun rv5 F5 fr5 rr5 pp5 sm_ => hat 8 rfl ?_)
  have e_ := (sm_ rfl).symm
  subst e_
  obtain ⟨a0_, a1_, a2_, x5, ea_, er_, hx5⟩ := pp5
  cases ea_; subst er_
  refine h_if c (hd 4 8 _ _ rfl) (tgt := 23) (by decide) (fun (h8 : x5.toInt = 0) => ?_) (fun (h8 : ¬ (x5.toInt = 0)) => hat 11 rfl ?_)
  · skip
    refine h_ic c (hd 11 23 _ _ rfl) (by decide) (fun v23 e23 => hat 24 rfl ?_)
    exact h_iret c (hd 12 24 _ _ rfl) rfl ⟨a, _, rfl, rfl, by omega⟩
  · skip
    refine h_aln c (hd 5 11 _ _ rfl) (by rfl) (hat 12 rfl ?_)
    refine h_getI c (hd 6 12 _ _ rfl) efgX12_483 egnX12_483_114 (x := F 114 64) (rfl) (hat 15 rfl ?_)
    refine h_iln c (hd 7 15 _ _ rfl) (by rfl) (hat 16 rfl ?_)
    refine h_add c (hd 8 16 _ _ rfl) (by omega) (fun v16 e16 => hat 17 rfl ?_)
    refine h_ldcw c (hd 9 17 _ _ rfl) (n := 100000) (by rfl) (by decide) (fun v17 e17 => hat 20 rfl ?_)
    refine h_cmp c (hd 10 20 _ _ rfl) (tgt := 25) (by decide) (fun (h20 : v16.toInt ≤ v17.toInt) => ?_) (fun (h20 : ¬ (v16.toInt ≤ v17.toInt)) => hat 23 rfl ?_)
    · skip
      refine h_aln c (hd 13 25 _ _ rfl) (by rfl) (hat 26 rfl ?_)
      refine h_dup c (hd 14 26 _ _ rfl) (by rfl) (hat 27 rfl ?_)
      refine h_getI c (hd 15 27 _ _ rfl) efgX12_483 egnX12_483_114 (x := F 114 64) (rfl) (hat 30 rfl ?_)
      refine h_iln c (hd 16 30 _ _ rfl) (by rfl) (hat 31 rfl ?_)
      refine h_add c (hd 17 31 _ _ rfl) (by omega) (fun v31 e31 => hat 32 rfl ?_)
      refine h_putI c (hd 18 32 _ _ rfl) efgX12_483 egnX12_483_114 (by decide) (by decide) rfl (rf_in1 (by omega) (by omega)) (hat 35 rfl ?_)
      refine h_aln c (hd 19 35 _ _ rfl) (by rfl) (hat 36 rfl ?_)
      refine h_getI c (hd 20 36 _ _ rfl) efgX12_483 egnX12_483_114 (x := v31) (rfl) (hat 39 rfl ?_)
      exact h_iret c (hd 21 39 _ _ rfl) rfl ⟨a, _, rfl, rfl, by omega⟩
    · skip
      refine h_ic c (hd 11 23 _ _ rfl) (by decide) (fun v23 e23 => hat 24 rfl ?_)
      exact h_iret c (hd 12 24 _ _ rfl) rfl ⟨a, _, rfl, rfl, by omega⟩
