/-! small hand contracts (printed by wip/p1/h1.py) -/
/-- java/lang/Integer.bitCount -/
def hq_bc_M : rfM := ((⟨"java/lang/Integer", "bitCount", "(I)I"⟩, prog_16_method_49_code, 1, (some .int)), (2,100), ([.inl ((0,0,0),none)],[]), [], [(some (.inl ((0,0,0),none)),[],[])])
def ddEJ6_bitCount_0f7a4 : List (Nat × Instr × Nat) := [(0,.iload_n 0,1),(1,.iload_n 0,1),(2,.iconst 1,1),(3,.iushr,1),(4,.ldc_w 265,3),(7,.iand,1),(8,.isub,1),(9,.istore_n 0,1),(10,.iload_n 0,1),(11,.ldc_w 266,3),(14,.iand,1),(15,.iload_n 0,1),(16,.iconst 2,1),(17,.iushr,1),(18,.ldc_w 266,3),(21,.iand,1),(22,.iadd,1),(23,.istore_n 0,1),(24,.iload_n 0,1),(25,.iload_n 0,1),(26,.iconst 4,1),(27,.iushr,1),(28,.iadd,1),(29,.ldc_w 267,3),(32,.iand,1),(33,.istore_n 0,1),(34,.iload_n 0,1),(35,.iload_n 0,1),(36,.bipush 8,2),(38,.iushr,1),(39,.iadd,1),(40,.istore_n 0,1),(41,.iload_n 0,1),(42,.iload_n 0,1),(43,.bipush 16,2),(45,.iushr,1),(46,.iadd,1),(47,.istore_n 0,1),(48,.iload_n 0,1),(49,.bipush 63,2),(51,.iand,1),(52,.ireturn,1)]
set_option maxRecDepth 100000 in
theorem dkEJ6_bitCount_0f7a4 : rf_decs prog_16_method_49_code ddEJ6_bitCount_0f7a4 := rf_decs_of (by decide +kernel)
set_option maxHeartbeats 8000000 in
set_option maxRecDepth 20000 in
theorem hq_bc_met {G : rfG} (hG : okG G) : rf_met G hq_bc_M := by
  refine h_rfOf hG.1 (by decide +kernel) (by decide) hG.2.2.1 (wflT hG flokJ6) (wcsT hG csokJ6) (by decide +kernel) ?_
  intro vs w0 X hv_ hr hp c
  match vs, hv_ with
  | [_], ⟨⟨a, rfl, hi_a, _⟩, _⟩ =>
  have hd : ∀ n pc i len, ddEJ6_bitCount_0f7a4[n]? = some (pc, i, len) → decode (mb hq_bc_M) pc = .ok (i, len) := fun n pc i len h => hdk dkEJ6_bitCount_0f7a4 n pc i len h
  show hW G X hq_bc_M w0 0 [(0, .int a)] [] (hv w0)
  generalize hF0 : hv w0 = F at *
  have ha : a = 0 := Int32.toInt_inj.mp (by have h1 : 0 ≤ a.toInt := hi_a.1; have h2 : a.toInt ≤ 0 := hi_a.2.1; have e0 : (0 : Int32).toInt = 0 := by decide +kernel
                                            omega)
  subst ha
  refine h_iln c (hd 0 0 _ _ rfl) (by rfl) (hat 1 rfl ?_)
  refine h_iln c (hd 1 1 _ _ rfl) (by rfl) (hat 2 rfl ?_)
  refine h_ic c (hd 2 2 _ _ rfl) (by decide) (fun v2 e2 => hat 3 rfl ?_)
  refine h_ushr0 c (hd 3 3 _ _ rfl) (hat 4 rfl ?_)
  refine h_ldcw c (hd 4 4 _ _ rfl) (n := 1431655765) (by rfl) (by decide) (fun v4 e4 => hat 7 rfl ?_)
  refine h_and0 c (hd 5 7 _ _ rfl) (hat 8 rfl ?_)
  refine h_sub0 c (hd 6 8 _ _ rfl) (hat 9 rfl ?_)
  refine h_isn c (hd 7 9 _ _ rfl) (by decide) (L' := [(0, .int 0)]) (by rfl) (hat 10 rfl ?_)
  refine h_iln c (hd 8 10 _ _ rfl) (by rfl) (hat 11 rfl ?_)
  refine h_ldcw c (hd 9 11 _ _ rfl) (n := 858993459) (by rfl) (by decide) (fun v11 e11 => hat 14 rfl ?_)
  refine h_and0 c (hd 10 14 _ _ rfl) (hat 15 rfl ?_)
  refine h_iln c (hd 11 15 _ _ rfl) (by rfl) (hat 16 rfl ?_)
  refine h_ic c (hd 12 16 _ _ rfl) (by decide) (fun v16 e16 => hat 17 rfl ?_)
  refine h_ushr0 c (hd 13 17 _ _ rfl) (hat 18 rfl ?_)
  refine h_ldcw c (hd 14 18 _ _ rfl) (n := 858993459) (by rfl) (by decide) (fun v18 e18 => hat 21 rfl ?_)
  refine h_and0 c (hd 15 21 _ _ rfl) (hat 22 rfl ?_)
  refine h_add0 c (hd 16 22 _ _ rfl) (hat 23 rfl ?_)
  refine h_isn c (hd 17 23 _ _ rfl) (by decide) (L' := [(0, .int 0)]) (by rfl) (hat 24 rfl ?_)
  refine h_iln c (hd 18 24 _ _ rfl) (by rfl) (hat 25 rfl ?_)
  refine h_iln c (hd 19 25 _ _ rfl) (by rfl) (hat 26 rfl ?_)
  refine h_ic c (hd 20 26 _ _ rfl) (by decide) (fun v26 e26 => hat 27 rfl ?_)
  refine h_ushr0 c (hd 21 27 _ _ rfl) (hat 28 rfl ?_)
  refine h_add0 c (hd 22 28 _ _ rfl) (hat 29 rfl ?_)
  refine h_ldcw c (hd 23 29 _ _ rfl) (n := 252645135) (by rfl) (by decide) (fun v29 e29 => hat 32 rfl ?_)
  refine h_and0 c (hd 24 32 _ _ rfl) (hat 33 rfl ?_)
  refine h_isn c (hd 25 33 _ _ rfl) (by decide) (L' := [(0, .int 0)]) (by rfl) (hat 34 rfl ?_)
  refine h_iln c (hd 26 34 _ _ rfl) (by rfl) (hat 35 rfl ?_)
  refine h_iln c (hd 27 35 _ _ rfl) (by rfl) (hat 36 rfl ?_)
  refine h_bp c (hd 28 36 _ _ rfl) (by decide) (fun v36 e36 => hat 38 rfl ?_)
  refine h_ushr0 c (hd 29 38 _ _ rfl) (hat 39 rfl ?_)
  refine h_add0 c (hd 30 39 _ _ rfl) (hat 40 rfl ?_)
  refine h_isn c (hd 31 40 _ _ rfl) (by decide) (L' := [(0, .int 0)]) (by rfl) (hat 41 rfl ?_)
  refine h_iln c (hd 32 41 _ _ rfl) (by rfl) (hat 42 rfl ?_)
  refine h_iln c (hd 33 42 _ _ rfl) (by rfl) (hat 43 rfl ?_)
  refine h_bp c (hd 34 43 _ _ rfl) (by decide) (fun v43 e43 => hat 45 rfl ?_)
  refine h_ushr0 c (hd 35 45 _ _ rfl) (hat 46 rfl ?_)
  refine h_add0 c (hd 36 46 _ _ rfl) (hat 47 rfl ?_)
  refine h_isn c (hd 37 47 _ _ rfl) (by decide) (L' := [(0, .int 0)]) (by rfl) (hat 48 rfl ?_)
  refine h_iln c (hd 38 48 _ _ rfl) (by rfl) (hat 49 rfl ?_)
  refine h_bp c (hd 39 49 _ _ rfl) (by decide) (fun v49 e49 => hat 51 rfl ?_)
  refine h_and0 c (hd 40 51 _ _ rfl) (hat 52 rfl ?_)
  exact h_iret c (hd 41 52 _ _ rfl) rfl (fun _ => ⟨_, List.mem_cons_self, ⟨_, rfl, hcon (by decide +kernel)⟩, fun q hq => absurd hq List.not_mem_nil, fun q hq => absurd hq List.not_mem_nil⟩)
/-- NearSpell.commonDivisor -/
def hq_cd_M : rfM := ((⟨"NearSpell", "commonDivisor", "(II)I"⟩, prog_1_method_51_code, 6, (some .int)), (2,100), ([.inl ((100,100,0),none),.inl ((100,100,0),none)],[]), [], [(some (.inl ((100,100,0),none)),[],[])])
def ddEX11_commonDivisor : List (Nat × Instr × Nat) := [(0,.iload_n 0,1),(1,.istore_n 2,1),(2,.iload_n 1,1),(3,.istore_n 3,1),(4,.iconst 0,1),(5,.istore 4,2),(7,.iload 4,2),(9,.bipush 100,2),(11,.if_icmp .ge 23,3),(14,.iload_n 3,1),(15,.ifCond .eq 19,3),(18,.iload_n 2,1),(19,.iload_n 3,1),(20,.irem,1),(21,.istore 5,2),(23,.iload_n 3,1),(24,.istore_n 2,1),(25,.iload 5,2),(27,.istore_n 3,1),(28,.iinc 4 1,3),(31,.goto (-24),3),(34,.iload_n 2,1),(35,.ireturn,1)]
set_option maxRecDepth 100000 in
theorem dkEX11_commonDivisor : rf_decs prog_1_method_51_code ddEX11_commonDivisor := rf_decs_of (by decide +kernel)
set_option maxHeartbeats 8000000 in
set_option maxRecDepth 20000 in
theorem hq_cd_met {G : rfG} (hG : okG G) : rf_met G hq_cd_M := by
  refine h_rfOf hG.1 (by decide +kernel) (by decide) hG.2.2.1 (wflT hG flokX11) (wcsT hG csokX11) (by decide +kernel) ?_
  intro vs w0 X hv_ hr hp c
  match vs, hv_ with
  | [_, _], ⟨⟨a, rfl, hi_a, _⟩, ⟨b, rfl, hi_b, _⟩, _⟩ =>
  have hd : ∀ n pc i len, ddEX11_commonDivisor[n]? = some (pc, i, len) → decode (mb hq_cd_M) pc = .ok (i, len) := fun n pc i len h => hdk dkEX11_commonDivisor n pc i len h
  show hW G X hq_cd_M w0 0 [(0, .int a), (1, .int b)] [] (hv w0)
  generalize hF0 : hv w0 = F at *
  have ha : a.toInt = 100 := by have h1 : 100 ≤ a.toInt := hi_a.1; have h2 : a.toInt ≤ 100 := hi_a.2.1; omega
  have hb : b.toInt = 100 := by have h1 : 100 ≤ b.toInt := hi_b.1; have h2 : b.toInt ≤ 100 := hi_b.2.1; omega
  refine h_iln c (hd 0 0 _ _ rfl) (by rfl) (hat 1 rfl ?_)
  refine h_isn c (hd 1 1 _ _ rfl) (by decide) (L' := [(2, .int a), (0, .int a), (1, .int b)]) (by rfl) (hat 2 rfl ?_)
  refine h_iln c (hd 2 2 _ _ rfl) (by rfl) (hat 3 rfl ?_)
  refine h_isn c (hd 3 3 _ _ rfl) (by decide) (L' := [(3, .int b), (2, .int a), (0, .int a), (1, .int b)]) (by rfl) (hat 4 rfl ?_)
  refine h_ic c (hd 4 4 _ _ rfl) (by decide) (fun v4 e4 => hat 5 rfl ?_)
  refine h_is c (hd 5 5 _ _ rfl) (by decide) (L' := [(4, .int v4), (3, .int b), (2, .int a), (0, .int a), (1, .int b)]) (by rfl) (hat 7 rfl ?_)
  refine h_il c (hd 6 7 _ _ rfl) (by rfl) (hat 9 rfl ?_)
  refine h_bp c (hd 7 9 _ _ rfl) (by decide) (fun v9 e9 => hat 11 rfl ?_)
  refine h_cmp c (hd 8 11 _ _ rfl) (tgt := 34) (by decide) (fun (h11 : v9.toInt ≤ v4.toInt) => ?_) (fun (h11 : ¬ (v9.toInt ≤ v4.toInt)) => hat 14 rfl ?_)
  · exfalso; omega
  · skip
    refine h_iln c (hd 9 14 _ _ rfl) (by rfl) (hat 15 rfl ?_)
    refine h_if c (hd 10 15 _ _ rfl) (tgt := 34) (by decide) (fun (h15 : b.toInt = 0) => ?_) (fun (h15 : ¬ (b.toInt = 0)) => hat 18 rfl ?_)
    · exfalso; omega
    · skip
      refine h_iln c (hd 11 18 _ _ rfl) (by rfl) (hat 19 rfl ?_)
      refine h_iln c (hd 12 19 _ _ rfl) (by rfl) (hat 20 rfl ?_)
      refine h_rem c (hd 13 20 _ _ rfl) hb (by decide) (by omega) (fun v20 e20 => hat 21 rfl ?_)
      have e20 : v20.toInt = 0 := by omega
      refine h_is c (hd 14 21 _ _ rfl) (by decide) (L' := [(5, .int v20), (4, .int v4), (3, .int b), (2, .int a), (0, .int a), (1, .int b)]) (by rfl) (hat 23 rfl ?_)
      refine h_iln c (hd 15 23 _ _ rfl) (by rfl) (hat 24 rfl ?_)
      refine h_isn c (hd 16 24 _ _ rfl) (by decide) (L' := [(2, .int b), (5, .int v20), (4, .int v4), (3, .int b), (0, .int a), (1, .int b)]) (by rfl) (hat 25 rfl ?_)
      refine h_il c (hd 17 25 _ _ rfl) (by rfl) (hat 27 rfl ?_)
      refine h_isn c (hd 18 27 _ _ rfl) (by decide) (L' := [(3, .int v20), (2, .int b), (5, .int v20), (4, .int v4), (0, .int a), (1, .int b)]) (by rfl) (hat 28 rfl ?_)
      refine h_inc c (fun r_ => [(4, .int r_), (3, .int v20), (2, .int b), (5, .int v20), (0, .int a), (1, .int b)]) (hd 19 28 _ _ rfl) (by decide) (by decide) (by rfl) (by omega) (fun _ => by rfl) (fun v28 e28 => hat 31 rfl ?_)
      have e28 : v28.toInt = 1 := by omega
      refine h_goto c (hd 20 31 _ _ rfl) (tgt := 7) (by decide) ?_
      refine h_il c (hd 6 7 _ _ rfl) (by rfl) (hat 9 rfl ?_)
      refine h_bp c (hd 7 9 _ _ rfl) (by decide) (fun v9_1 e9_1 => hat 11 rfl ?_)
      refine h_cmp c (hd 8 11 _ _ rfl) (tgt := 34) (by decide) (fun (h11_1 : v9_1.toInt ≤ v28.toInt) => ?_) (fun (h11_1 : ¬ (v9_1.toInt ≤ v28.toInt)) => hat 14 rfl ?_)
      · exfalso; omega
      · skip
        refine h_iln c (hd 9 14 _ _ rfl) (by rfl) (hat 15 rfl ?_)
        refine h_if c (hd 10 15 _ _ rfl) (tgt := 34) (by decide) (fun (h15_1 : v20.toInt = 0) => ?_) (fun (h15_1 : ¬ (v20.toInt = 0)) => hat 18 rfl ?_)
        · skip
          refine h_iln c (hd 21 34 _ _ rfl) (by rfl) (hat 35 rfl ?_)
          exact h_iret c (hd 22 35 _ _ rfl) rfl (fun _ => ⟨_, List.mem_cons_self, ⟨_, rfl, hcon (by omega)⟩, fun q hq => absurd hq List.not_mem_nil, fun q hq => absurd hq List.not_mem_nil⟩)
        · exfalso; omega
/-- NearSpellModel.divisor -/
def hq_dv1_M : rfM := ((⟨"NearSpellModel", "divisor", "(II)I"⟩, prog_14_method_38_code, 5, (some .int)), (2,100), ([.inl ((1,1,0),none),.inl ((1,1,0),none)],[]), [], [(some (.inl ((1,1,0),none)),[],[])])
def ddEX12_divisor : List (Nat × Instr × Nat) := [(0,.iload_n 0,1),(1,.istore_n 2,1),(2,.iload_n 1,1),(3,.istore_n 3,1),(4,.iload_n 3,1),(5,.ifCond .le 16,3),(8,.iload_n 2,1),(9,.iload_n 3,1),(10,.irem,1),(11,.istore 4,2),(13,.iload_n 3,1),(14,.istore_n 2,1),(15,.iload 4,2),(17,.istore_n 3,1),(18,.goto (-14),3),(21,.iload_n 2,1),(22,.ireturn,1)]
set_option maxRecDepth 100000 in
theorem dkEX12_divisor : rf_decs prog_14_method_38_code ddEX12_divisor := rf_decs_of (by decide +kernel)
set_option maxHeartbeats 8000000 in
set_option maxRecDepth 20000 in
theorem hq_dv1_met {G : rfG} (hG : okG G) : rf_met G hq_dv1_M := by
  refine h_rfOf hG.1 (by decide +kernel) (by decide) hG.2.2.1 (wflT hG flokX12) (wcsT hG csokX12) (by decide +kernel) ?_
  intro vs w0 X hv_ hr hp c
  match vs, hv_ with
  | [_, _], ⟨⟨a, rfl, hi_a, _⟩, ⟨b, rfl, hi_b, _⟩, _⟩ =>
  have hd : ∀ n pc i len, ddEX12_divisor[n]? = some (pc, i, len) → decode (mb hq_dv1_M) pc = .ok (i, len) := fun n pc i len h => hdk dkEX12_divisor n pc i len h
  show hW G X hq_dv1_M w0 0 [(0, .int a), (1, .int b)] [] (hv w0)
  generalize hF0 : hv w0 = F at *
  have ha : a.toInt = 1 := by have h1 : 1 ≤ a.toInt := hi_a.1; have h2 : a.toInt ≤ 1 := hi_a.2.1; omega
  have hb : b.toInt = 1 := by have h1 : 1 ≤ b.toInt := hi_b.1; have h2 : b.toInt ≤ 1 := hi_b.2.1; omega
  refine h_iln c (hd 0 0 _ _ rfl) (by rfl) (hat 1 rfl ?_)
  refine h_isn c (hd 1 1 _ _ rfl) (by decide) (L' := [(2, .int a), (0, .int a), (1, .int b)]) (by rfl) (hat 2 rfl ?_)
  refine h_iln c (hd 2 2 _ _ rfl) (by rfl) (hat 3 rfl ?_)
  refine h_isn c (hd 3 3 _ _ rfl) (by decide) (L' := [(3, .int b), (2, .int a), (0, .int a), (1, .int b)]) (by rfl) (hat 4 rfl ?_)
  refine h_iln c (hd 4 4 _ _ rfl) (by rfl) (hat 5 rfl ?_)
  refine h_if c (hd 5 5 _ _ rfl) (tgt := 21) (by decide) (fun (h5 : b.toInt ≤ 0) => ?_) (fun (h5 : ¬ (b.toInt ≤ 0)) => hat 8 rfl ?_)
  · exfalso; omega
  · skip
    refine h_iln c (hd 6 8 _ _ rfl) (by rfl) (hat 9 rfl ?_)
    refine h_iln c (hd 7 9 _ _ rfl) (by rfl) (hat 10 rfl ?_)
    refine h_rem c (hd 8 10 _ _ rfl) hb (by decide) (by omega) (fun v10 e10 => hat 11 rfl ?_)
    have e10 : v10.toInt = 0 := by omega
    refine h_is c (hd 9 11 _ _ rfl) (by decide) (L' := [(4, .int v10), (3, .int b), (2, .int a), (0, .int a), (1, .int b)]) (by rfl) (hat 13 rfl ?_)
    refine h_iln c (hd 10 13 _ _ rfl) (by rfl) (hat 14 rfl ?_)
    refine h_isn c (hd 11 14 _ _ rfl) (by decide) (L' := [(2, .int b), (4, .int v10), (3, .int b), (0, .int a), (1, .int b)]) (by rfl) (hat 15 rfl ?_)
    refine h_il c (hd 12 15 _ _ rfl) (by rfl) (hat 17 rfl ?_)
    refine h_isn c (hd 13 17 _ _ rfl) (by decide) (L' := [(3, .int v10), (2, .int b), (4, .int v10), (0, .int a), (1, .int b)]) (by rfl) (hat 18 rfl ?_)
    refine h_goto c (hd 14 18 _ _ rfl) (tgt := 4) (by decide) ?_
    refine h_iln c (hd 4 4 _ _ rfl) (by rfl) (hat 5 rfl ?_)
    refine h_if c (hd 5 5 _ _ rfl) (tgt := 21) (by decide) (fun (h5_1 : v10.toInt ≤ 0) => ?_) (fun (h5_1 : ¬ (v10.toInt ≤ 0)) => hat 8 rfl ?_)
    · skip
      refine h_iln c (hd 15 21 _ _ rfl) (by rfl) (hat 22 rfl ?_)
      exact h_iret c (hd 16 22 _ _ rfl) rfl (fun _ => ⟨_, List.mem_cons_self, ⟨_, rfl, hcon (by omega)⟩, fun q hq => absurd hq List.not_mem_nil, fun q hq => absurd hq List.not_mem_nil⟩)
    · exfalso; omega
/-- NearSpellModel.divisor -/
def hq_dv100_M : rfM := ((⟨"NearSpellModel", "divisor", "(II)I"⟩, prog_14_method_38_code, 5, (some .int)), (2,100), ([.inl ((100,100,0),none),.inl ((100,100,0),none)],[]), [], [(some (.inl ((100,100,0),none)),[],[])])
set_option maxHeartbeats 8000000 in
set_option maxRecDepth 20000 in
theorem hq_dv100_met {G : rfG} (hG : okG G) : rf_met G hq_dv100_M := by
  refine h_rfOf hG.1 (by decide +kernel) (by decide) hG.2.2.1 (wflT hG flokX12) (wcsT hG csokX12) (by decide +kernel) ?_
  intro vs w0 X hv_ hr hp c
  match vs, hv_ with
  | [_, _], ⟨⟨a, rfl, hi_a, _⟩, ⟨b, rfl, hi_b, _⟩, _⟩ =>
  have hd : ∀ n pc i len, ddEX12_divisor[n]? = some (pc, i, len) → decode (mb hq_dv100_M) pc = .ok (i, len) := fun n pc i len h => hdk dkEX12_divisor n pc i len h
  show hW G X hq_dv100_M w0 0 [(0, .int a), (1, .int b)] [] (hv w0)
  generalize hF0 : hv w0 = F at *
  have ha : a.toInt = 100 := by have h1 : 100 ≤ a.toInt := hi_a.1; have h2 : a.toInt ≤ 100 := hi_a.2.1; omega
  have hb : b.toInt = 100 := by have h1 : 100 ≤ b.toInt := hi_b.1; have h2 : b.toInt ≤ 100 := hi_b.2.1; omega
  refine h_iln c (hd 0 0 _ _ rfl) (by rfl) (hat 1 rfl ?_)
  refine h_isn c (hd 1 1 _ _ rfl) (by decide) (L' := [(2, .int a), (0, .int a), (1, .int b)]) (by rfl) (hat 2 rfl ?_)
  refine h_iln c (hd 2 2 _ _ rfl) (by rfl) (hat 3 rfl ?_)
  refine h_isn c (hd 3 3 _ _ rfl) (by decide) (L' := [(3, .int b), (2, .int a), (0, .int a), (1, .int b)]) (by rfl) (hat 4 rfl ?_)
  refine h_iln c (hd 4 4 _ _ rfl) (by rfl) (hat 5 rfl ?_)
  refine h_if c (hd 5 5 _ _ rfl) (tgt := 21) (by decide) (fun (h5 : b.toInt ≤ 0) => ?_) (fun (h5 : ¬ (b.toInt ≤ 0)) => hat 8 rfl ?_)
  · exfalso; omega
  · skip
    refine h_iln c (hd 6 8 _ _ rfl) (by rfl) (hat 9 rfl ?_)
    refine h_iln c (hd 7 9 _ _ rfl) (by rfl) (hat 10 rfl ?_)
    refine h_rem c (hd 8 10 _ _ rfl) hb (by decide) (by omega) (fun v10 e10 => hat 11 rfl ?_)
    have e10 : v10.toInt = 0 := by omega
    refine h_is c (hd 9 11 _ _ rfl) (by decide) (L' := [(4, .int v10), (3, .int b), (2, .int a), (0, .int a), (1, .int b)]) (by rfl) (hat 13 rfl ?_)
    refine h_iln c (hd 10 13 _ _ rfl) (by rfl) (hat 14 rfl ?_)
    refine h_isn c (hd 11 14 _ _ rfl) (by decide) (L' := [(2, .int b), (4, .int v10), (3, .int b), (0, .int a), (1, .int b)]) (by rfl) (hat 15 rfl ?_)
    refine h_il c (hd 12 15 _ _ rfl) (by rfl) (hat 17 rfl ?_)
    refine h_isn c (hd 13 17 _ _ rfl) (by decide) (L' := [(3, .int v10), (2, .int b), (4, .int v10), (0, .int a), (1, .int b)]) (by rfl) (hat 18 rfl ?_)
    refine h_goto c (hd 14 18 _ _ rfl) (tgt := 4) (by decide) ?_
    refine h_iln c (hd 4 4 _ _ rfl) (by rfl) (hat 5 rfl ?_)
    refine h_if c (hd 5 5 _ _ rfl) (tgt := 21) (by decide) (fun (h5_1 : v10.toInt ≤ 0) => ?_) (fun (h5_1 : ¬ (v10.toInt ≤ 0)) => hat 8 rfl ?_)
    · skip
      refine h_iln c (hd 15 21 _ _ rfl) (by rfl) (hat 22 rfl ?_)
      exact h_iret c (hd 16 22 _ _ rfl) rfl (fun _ => ⟨_, List.mem_cons_self, ⟨_, rfl, hcon (by omega)⟩, fun q hq => absurd hq List.not_mem_nil, fun q hq => absurd hq List.not_mem_nil⟩)
    · exfalso; omega
/-- NearSpellModel.divisor -/
def hq_dv10000_M : rfM := ((⟨"NearSpellModel", "divisor", "(II)I"⟩, prog_14_method_38_code, 5, (some .int)), (2,100), ([.inl ((10000,10000,0),none),.inl ((10000,10000,0),none)],[]), [], [(some (.inl ((10000,10000,0),none)),[],[])])
set_option maxHeartbeats 8000000 in
set_option maxRecDepth 20000 in
theorem hq_dv10000_met {G : rfG} (hG : okG G) : rf_met G hq_dv10000_M := by
  refine h_rfOf hG.1 (by decide +kernel) (by decide) hG.2.2.1 (wflT hG flokX12) (wcsT hG csokX12) (by decide +kernel) ?_
  intro vs w0 X hv_ hr hp c
  match vs, hv_ with
  | [_, _], ⟨⟨a, rfl, hi_a, _⟩, ⟨b, rfl, hi_b, _⟩, _⟩ =>
  have hd : ∀ n pc i len, ddEX12_divisor[n]? = some (pc, i, len) → decode (mb hq_dv10000_M) pc = .ok (i, len) := fun n pc i len h => hdk dkEX12_divisor n pc i len h
  show hW G X hq_dv10000_M w0 0 [(0, .int a), (1, .int b)] [] (hv w0)
  generalize hF0 : hv w0 = F at *
  have ha : a.toInt = 10000 := by have h1 : 10000 ≤ a.toInt := hi_a.1; have h2 : a.toInt ≤ 10000 := hi_a.2.1; omega
  have hb : b.toInt = 10000 := by have h1 : 10000 ≤ b.toInt := hi_b.1; have h2 : b.toInt ≤ 10000 := hi_b.2.1; omega
  refine h_iln c (hd 0 0 _ _ rfl) (by rfl) (hat 1 rfl ?_)
  refine h_isn c (hd 1 1 _ _ rfl) (by decide) (L' := [(2, .int a), (0, .int a), (1, .int b)]) (by rfl) (hat 2 rfl ?_)
  refine h_iln c (hd 2 2 _ _ rfl) (by rfl) (hat 3 rfl ?_)
  refine h_isn c (hd 3 3 _ _ rfl) (by decide) (L' := [(3, .int b), (2, .int a), (0, .int a), (1, .int b)]) (by rfl) (hat 4 rfl ?_)
  refine h_iln c (hd 4 4 _ _ rfl) (by rfl) (hat 5 rfl ?_)
  refine h_if c (hd 5 5 _ _ rfl) (tgt := 21) (by decide) (fun (h5 : b.toInt ≤ 0) => ?_) (fun (h5 : ¬ (b.toInt ≤ 0)) => hat 8 rfl ?_)
  · exfalso; omega
  · skip
    refine h_iln c (hd 6 8 _ _ rfl) (by rfl) (hat 9 rfl ?_)
    refine h_iln c (hd 7 9 _ _ rfl) (by rfl) (hat 10 rfl ?_)
    refine h_rem c (hd 8 10 _ _ rfl) hb (by decide) (by omega) (fun v10 e10 => hat 11 rfl ?_)
    have e10 : v10.toInt = 0 := by omega
    refine h_is c (hd 9 11 _ _ rfl) (by decide) (L' := [(4, .int v10), (3, .int b), (2, .int a), (0, .int a), (1, .int b)]) (by rfl) (hat 13 rfl ?_)
    refine h_iln c (hd 10 13 _ _ rfl) (by rfl) (hat 14 rfl ?_)
    refine h_isn c (hd 11 14 _ _ rfl) (by decide) (L' := [(2, .int b), (4, .int v10), (3, .int b), (0, .int a), (1, .int b)]) (by rfl) (hat 15 rfl ?_)
    refine h_il c (hd 12 15 _ _ rfl) (by rfl) (hat 17 rfl ?_)
    refine h_isn c (hd 13 17 _ _ rfl) (by decide) (L' := [(3, .int v10), (2, .int b), (4, .int v10), (0, .int a), (1, .int b)]) (by rfl) (hat 18 rfl ?_)
    refine h_goto c (hd 14 18 _ _ rfl) (tgt := 4) (by decide) ?_
    refine h_iln c (hd 4 4 _ _ rfl) (by rfl) (hat 5 rfl ?_)
    refine h_if c (hd 5 5 _ _ rfl) (tgt := 21) (by decide) (fun (h5_1 : v10.toInt ≤ 0) => ?_) (fun (h5_1 : ¬ (v10.toInt ≤ 0)) => hat 8 rfl ?_)
    · skip
      refine h_iln c (hd 15 21 _ _ rfl) (by rfl) (hat 22 rfl ?_)
      exact h_iret c (hd 16 22 _ _ rfl) rfl (fun _ => ⟨_, List.mem_cons_self, ⟨_, rfl, hcon (by omega)⟩, fun q hq => absurd hq List.not_mem_nil, fun q hq => absurd hq List.not_mem_nil⟩)
    · exfalso; omega
/-- NearSpellModel.divisor -/
def hq_dv1000000_M : rfM := ((⟨"NearSpellModel", "divisor", "(II)I"⟩, prog_14_method_38_code, 5, (some .int)), (2,100), ([.inl ((1000000,1000000,0),none),.inl ((1000000,1000000,0),none)],[]), [], [(some (.inl ((1000000,1000000,0),none)),[],[])])
set_option maxHeartbeats 8000000 in
set_option maxRecDepth 20000 in
theorem hq_dv1000000_met {G : rfG} (hG : okG G) : rf_met G hq_dv1000000_M := by
  refine h_rfOf hG.1 (by decide +kernel) (by decide) hG.2.2.1 (wflT hG flokX12) (wcsT hG csokX12) (by decide +kernel) ?_
  intro vs w0 X hv_ hr hp c
  match vs, hv_ with
  | [_, _], ⟨⟨a, rfl, hi_a, _⟩, ⟨b, rfl, hi_b, _⟩, _⟩ =>
  have hd : ∀ n pc i len, ddEX12_divisor[n]? = some (pc, i, len) → decode (mb hq_dv1000000_M) pc = .ok (i, len) := fun n pc i len h => hdk dkEX12_divisor n pc i len h
  show hW G X hq_dv1000000_M w0 0 [(0, .int a), (1, .int b)] [] (hv w0)
  generalize hF0 : hv w0 = F at *
  have ha : a.toInt = 1000000 := by have h1 : 1000000 ≤ a.toInt := hi_a.1; have h2 : a.toInt ≤ 1000000 := hi_a.2.1; omega
  have hb : b.toInt = 1000000 := by have h1 : 1000000 ≤ b.toInt := hi_b.1; have h2 : b.toInt ≤ 1000000 := hi_b.2.1; omega
  refine h_iln c (hd 0 0 _ _ rfl) (by rfl) (hat 1 rfl ?_)
  refine h_isn c (hd 1 1 _ _ rfl) (by decide) (L' := [(2, .int a), (0, .int a), (1, .int b)]) (by rfl) (hat 2 rfl ?_)
  refine h_iln c (hd 2 2 _ _ rfl) (by rfl) (hat 3 rfl ?_)
  refine h_isn c (hd 3 3 _ _ rfl) (by decide) (L' := [(3, .int b), (2, .int a), (0, .int a), (1, .int b)]) (by rfl) (hat 4 rfl ?_)
  refine h_iln c (hd 4 4 _ _ rfl) (by rfl) (hat 5 rfl ?_)
  refine h_if c (hd 5 5 _ _ rfl) (tgt := 21) (by decide) (fun (h5 : b.toInt ≤ 0) => ?_) (fun (h5 : ¬ (b.toInt ≤ 0)) => hat 8 rfl ?_)
  · exfalso; omega
  · skip
    refine h_iln c (hd 6 8 _ _ rfl) (by rfl) (hat 9 rfl ?_)
    refine h_iln c (hd 7 9 _ _ rfl) (by rfl) (hat 10 rfl ?_)
    refine h_rem c (hd 8 10 _ _ rfl) hb (by decide) (by omega) (fun v10 e10 => hat 11 rfl ?_)
    have e10 : v10.toInt = 0 := by omega
    refine h_is c (hd 9 11 _ _ rfl) (by decide) (L' := [(4, .int v10), (3, .int b), (2, .int a), (0, .int a), (1, .int b)]) (by rfl) (hat 13 rfl ?_)
    refine h_iln c (hd 10 13 _ _ rfl) (by rfl) (hat 14 rfl ?_)
    refine h_isn c (hd 11 14 _ _ rfl) (by decide) (L' := [(2, .int b), (4, .int v10), (3, .int b), (0, .int a), (1, .int b)]) (by rfl) (hat 15 rfl ?_)
    refine h_il c (hd 12 15 _ _ rfl) (by rfl) (hat 17 rfl ?_)
    refine h_isn c (hd 13 17 _ _ rfl) (by decide) (L' := [(3, .int v10), (2, .int b), (4, .int v10), (0, .int a), (1, .int b)]) (by rfl) (hat 18 rfl ?_)
    refine h_goto c (hd 14 18 _ _ rfl) (tgt := 4) (by decide) ?_
    refine h_iln c (hd 4 4 _ _ rfl) (by rfl) (hat 5 rfl ?_)
    refine h_if c (hd 5 5 _ _ rfl) (tgt := 21) (by decide) (fun (h5_1 : v10.toInt ≤ 0) => ?_) (fun (h5_1 : ¬ (v10.toInt ≤ 0)) => hat 8 rfl ?_)
    · skip
      refine h_iln c (hd 15 21 _ _ rfl) (by rfl) (hat 22 rfl ?_)
      exact h_iret c (hd 16 22 _ _ rfl) rfl (fun _ => ⟨_, List.mem_cons_self, ⟨_, rfl, hcon (by omega)⟩, fun q hq => absurd hq List.not_mem_nil, fun q hq => absurd hq List.not_mem_nil⟩)
    · exfalso; omega
/-- NearSpellModel.divisor -/
def hq_dv100000000_M : rfM := ((⟨"NearSpellModel", "divisor", "(II)I"⟩, prog_14_method_38_code, 5, (some .int)), (2,100), ([.inl ((100000000,100000000,0),none),.inl ((100000000,100000000,0),none)],[]), [], [(some (.inl ((100000000,100000000,0),none)),[],[])])
set_option maxHeartbeats 8000000 in
set_option maxRecDepth 20000 in
theorem hq_dv100000000_met {G : rfG} (hG : okG G) : rf_met G hq_dv100000000_M := by
  refine h_rfOf hG.1 (by decide +kernel) (by decide) hG.2.2.1 (wflT hG flokX12) (wcsT hG csokX12) (by decide +kernel) ?_
  intro vs w0 X hv_ hr hp c
  match vs, hv_ with
  | [_, _], ⟨⟨a, rfl, hi_a, _⟩, ⟨b, rfl, hi_b, _⟩, _⟩ =>
  have hd : ∀ n pc i len, ddEX12_divisor[n]? = some (pc, i, len) → decode (mb hq_dv100000000_M) pc = .ok (i, len) := fun n pc i len h => hdk dkEX12_divisor n pc i len h
  show hW G X hq_dv100000000_M w0 0 [(0, .int a), (1, .int b)] [] (hv w0)
  generalize hF0 : hv w0 = F at *
  have ha : a.toInt = 100000000 := by have h1 : 100000000 ≤ a.toInt := hi_a.1; have h2 : a.toInt ≤ 100000000 := hi_a.2.1; omega
  have hb : b.toInt = 100000000 := by have h1 : 100000000 ≤ b.toInt := hi_b.1; have h2 : b.toInt ≤ 100000000 := hi_b.2.1; omega
  refine h_iln c (hd 0 0 _ _ rfl) (by rfl) (hat 1 rfl ?_)
  refine h_isn c (hd 1 1 _ _ rfl) (by decide) (L' := [(2, .int a), (0, .int a), (1, .int b)]) (by rfl) (hat 2 rfl ?_)
  refine h_iln c (hd 2 2 _ _ rfl) (by rfl) (hat 3 rfl ?_)
  refine h_isn c (hd 3 3 _ _ rfl) (by decide) (L' := [(3, .int b), (2, .int a), (0, .int a), (1, .int b)]) (by rfl) (hat 4 rfl ?_)
  refine h_iln c (hd 4 4 _ _ rfl) (by rfl) (hat 5 rfl ?_)
  refine h_if c (hd 5 5 _ _ rfl) (tgt := 21) (by decide) (fun (h5 : b.toInt ≤ 0) => ?_) (fun (h5 : ¬ (b.toInt ≤ 0)) => hat 8 rfl ?_)
  · exfalso; omega
  · skip
    refine h_iln c (hd 6 8 _ _ rfl) (by rfl) (hat 9 rfl ?_)
    refine h_iln c (hd 7 9 _ _ rfl) (by rfl) (hat 10 rfl ?_)
    refine h_rem c (hd 8 10 _ _ rfl) hb (by decide) (by omega) (fun v10 e10 => hat 11 rfl ?_)
    have e10 : v10.toInt = 0 := by omega
    refine h_is c (hd 9 11 _ _ rfl) (by decide) (L' := [(4, .int v10), (3, .int b), (2, .int a), (0, .int a), (1, .int b)]) (by rfl) (hat 13 rfl ?_)
    refine h_iln c (hd 10 13 _ _ rfl) (by rfl) (hat 14 rfl ?_)
    refine h_isn c (hd 11 14 _ _ rfl) (by decide) (L' := [(2, .int b), (4, .int v10), (3, .int b), (0, .int a), (1, .int b)]) (by rfl) (hat 15 rfl ?_)
    refine h_il c (hd 12 15 _ _ rfl) (by rfl) (hat 17 rfl ?_)
    refine h_isn c (hd 13 17 _ _ rfl) (by decide) (L' := [(3, .int v10), (2, .int b), (4, .int v10), (0, .int a), (1, .int b)]) (by rfl) (hat 18 rfl ?_)
    refine h_goto c (hd 14 18 _ _ rfl) (tgt := 4) (by decide) ?_
    refine h_iln c (hd 4 4 _ _ rfl) (by rfl) (hat 5 rfl ?_)
    refine h_if c (hd 5 5 _ _ rfl) (tgt := 21) (by decide) (fun (h5_1 : v10.toInt ≤ 0) => ?_) (fun (h5_1 : ¬ (v10.toInt ≤ 0)) => hat 8 rfl ?_)
    · skip
      refine h_iln c (hd 15 21 _ _ rfl) (by rfl) (hat 22 rfl ?_)
      exact h_iret c (hd 16 22 _ _ rfl) rfl (fun _ => ⟨_, List.mem_cons_self, ⟨_, rfl, hcon (by omega)⟩, fun q hq => absurd hq List.not_mem_nil, fun q hq => absurd hq List.not_mem_nil⟩)
    · exfalso; omega
