/-! DISTANCE in the reference: letters (printed by wip/p15/d15c.py) -/
theorem dfgX12_384 : rf_flget flX12 384 = some (12,44,1) := by decide +kernel
theorem dgnX12_384_114 : rf_gone wLay 12 44 114 = some (.inl ((0,12,1),none)) := rfl
theorem dfgX12_387 : rf_flget flX12 387 = some (12,45,1) := by decide +kernel
theorem dgnX12_387_114 : rf_gone wLay 12 45 114 = some (.inl ((0,12,1),none)) := rfl
theorem dfgX12_84 : rf_flget flX12 84 = some (12,40,0) := by decide +kernel
theorem dgnX12_84_114 : rf_gone wLay 12 40 114 = some (.inr (.inl [94])) := rfl
theorem dfgX12_87 : rf_flget flX12 87 = some (12,41,0) := by decide +kernel
theorem dgnX12_87_114 : rf_gone wLay 12 41 114 = some (.inr (.inl [95])) := rfl
theorem dla_94 : rf_arr wLay 0 94 = some (12,[((-2147483648),2147483647,1)]) := by decide +kernel
theorem dla_95 : rf_arr wLay 0 95 = some (12,[((-2147483648),2147483647,1)]) := by decide +kernel
theorem dfgX12_90 : rf_flget flX12 90 = some (12,42,0) := by decide +kernel
theorem dgnX12_90_114 : rf_gone wLay 12 42 114 = some (.inr (.inl [96])) := rfl
theorem dfgX12_93 : rf_flget flX12 93 = some (12,43,0) := by decide +kernel
theorem dgnX12_93_114 : rf_gone wLay 12 43 114 = some (.inr (.inl [97])) := rfl
theorem dly_114_44 : rf_layr wLay 114 44 = some (0,12,1) := by decide +kernel
theorem dly_114_45 : rf_layr wLay 114 45 = some (0,12,1) := by decide +kernel
theorem dla_96 : rf_arr wLay 0 96 = some (13,[((-2147483648),2147483647,1)]) := by decide +kernel
theorem dla_97 : rf_arr wLay 0 97 = some (13,[((-2147483648),2147483647,1)]) := by decide +kernel
set_option maxRecDepth 20000 in
theorem dwm1806 : (Jvm.Cond.methodLink "NearSpellModel" (393 : Nat) ({ cls := "NearSpellModel", name := "goAlong", desc := "()V" } : Jvm.MethodName)) ∈ wTs := wmem (i := 1806) (by decide +kernel) (by decide +kernel)
set_option maxRecDepth 20000 in
theorem dwm1809 : (Jvm.Cond.code ({ cls := "NearSpellModel", name := "goAlong", desc := "()V" } : Jvm.MethodName) prog_14_method_58_code (3 : Nat) (Option.none : Option Jvm.ClassFile.FieldType)) ∈ wTs := wmem (i := 1809) (by decide +kernel) (by decide +kernel)
set_option maxRecDepth 20000 in
theorem dwm1808 : (Jvm.Cond.instanceMethod ({ cls := "NearSpellModel", name := "goAlong", desc := "()V" } : Jvm.MethodName)) ∈ wTs := wmem (i := 1808) (by decide +kernel) (by decide +kernel)
set_option maxRecDepth 20000 in
theorem dwm83 : (Cond.selects "NearSpellModel" ⟨"NearSpellModel", "goAlong", "()V"⟩ ⟨"NearSpellModel", "goAlong", "()V"⟩) ∈ wTs := wmem (i := 83) (by decide +kernel) (by decide +kernel)
set_option maxRecDepth 20000 in
theorem dwm1814 : (Jvm.Cond.methodLink "NearSpellModel" (390 : Nat) ({ cls := "NearSpellModel", name := "swapsAt", desc := "(I)I" } : Jvm.MethodName)) ∈ wTs := wmem (i := 1814) (by decide +kernel) (by decide +kernel)
set_option maxRecDepth 20000 in
theorem dwm1817 : (Jvm.Cond.code ({ cls := "NearSpellModel", name := "swapsAt", desc := "(I)I" } : Jvm.MethodName) prog_14_method_59_code (4 : Nat) (Option.some Jvm.ClassFile.FieldType.int)) ∈ wTs := wmem (i := 1817) (by decide +kernel) (by decide +kernel)
set_option maxRecDepth 20000 in
theorem dwm1816 : (Jvm.Cond.instanceMethod ({ cls := "NearSpellModel", name := "swapsAt", desc := "(I)I" } : Jvm.MethodName)) ∈ wTs := wmem (i := 1816) (by decide +kernel) (by decide +kernel)
set_option maxRecDepth 20000 in
theorem dwm85 : (Cond.selects "NearSpellModel" ⟨"NearSpellModel", "swapsAt", "(I)I"⟩ ⟨"NearSpellModel", "swapsAt", "(I)I"⟩) ∈ wTs := wmem (i := 85) (by decide +kernel) (by decide +kernel)
set_option maxRecDepth 20000 in
theorem dwm1810 : (Jvm.Cond.methodLink "NearSpellModel" (396 : Nat) ({ cls := "NearSpellModel", name := "goStep", desc := "()V" } : Jvm.MethodName)) ∈ wTs := wmem (i := 1810) (by decide +kernel) (by decide +kernel)
set_option maxRecDepth 20000 in
theorem dwm1813 : (Jvm.Cond.code ({ cls := "NearSpellModel", name := "goStep", desc := "()V" } : Jvm.MethodName) prog_14_method_60_code (3 : Nat) (Option.none : Option Jvm.ClassFile.FieldType)) ∈ wTs := wmem (i := 1813) (by decide +kernel) (by decide +kernel)
set_option maxRecDepth 20000 in
theorem dwm1812 : (Jvm.Cond.instanceMethod ({ cls := "NearSpellModel", name := "goStep", desc := "()V" } : Jvm.MethodName)) ∈ wTs := wmem (i := 1812) (by decide +kernel) (by decide +kernel)
set_option maxRecDepth 20000 in
theorem dwm84 : (Cond.selects "NearSpellModel" ⟨"NearSpellModel", "goStep", "()V"⟩ ⟨"NearSpellModel", "goStep", "()V"⟩) ∈ wTs := wmem (i := 84) (by decide +kernel) (by decide +kernel)
theorem dlkX12_393 {G : rfG} (h : okG G) : wlk G "NearSpellModel" 393 (⟨"NearSpellModel", "goAlong", "()V"⟩, prog_14_method_58_code, 3, none) 0 ∧ Cond.instanceMethod ⟨"NearSpellModel", "goAlong", "()V"⟩ ∈ G.2.2.1 ∧ Cond.selects "NearSpellModel" ⟨"NearSpellModel", "goAlong", "()V"⟩ ⟨"NearSpellModel", "goAlong", "()V"⟩ ∈ G.2.2.1 ∧ ((¬ 12 = 1000 ∧ ∃ T N, G.1.2.2.1[12]? = some ("NearSpellModel", T, N)) ∨ (12 = 1000 ∧ "NearSpellModel" = "java/lang/String" ∧ ∀ s, G.2.2.2 s → ∀ n, (n = 1 ∨ n = 2) → va_O "java/lang/String" (G.2.1.2.1 n) G.1.2.2.2 s s.heap)) := ⟨⟨Or.inl (wmT h (dwm1806)), wmT h (wm129), wmT h (dwm1809), by decide +kernel, by decide +kernel, by decide +kernel⟩, wmT h (dwm1808), wmT h (dwm83), Or.inl ⟨by decide, TX12, 67, by rw [h.2.1]; rfl⟩⟩
theorem dlkX12_390 {G : rfG} (h : okG G) : wlk G "NearSpellModel" 390 (⟨"NearSpellModel", "swapsAt", "(I)I"⟩, prog_14_method_59_code, 4, (some .int)) 1 ∧ Cond.instanceMethod ⟨"NearSpellModel", "swapsAt", "(I)I"⟩ ∈ G.2.2.1 ∧ Cond.selects "NearSpellModel" ⟨"NearSpellModel", "swapsAt", "(I)I"⟩ ⟨"NearSpellModel", "swapsAt", "(I)I"⟩ ∈ G.2.2.1 ∧ ((¬ 12 = 1000 ∧ ∃ T N, G.1.2.2.1[12]? = some ("NearSpellModel", T, N)) ∨ (12 = 1000 ∧ "NearSpellModel" = "java/lang/String" ∧ ∀ s, G.2.2.2 s → ∀ n, (n = 1 ∨ n = 2) → va_O "java/lang/String" (G.2.1.2.1 n) G.1.2.2.2 s s.heap)) := ⟨⟨Or.inl (wmT h (dwm1814)), wmT h (wm129), wmT h (dwm1817), by decide +kernel, by decide +kernel, by decide +kernel⟩, wmT h (dwm1816), wmT h (dwm85), Or.inl ⟨by decide, TX12, 67, by rw [h.2.1]; rfl⟩⟩
theorem dlkX12_396 {G : rfG} (h : okG G) : wlk G "NearSpellModel" 396 (⟨"NearSpellModel", "goStep", "()V"⟩, prog_14_method_60_code, 3, none) 0 ∧ Cond.instanceMethod ⟨"NearSpellModel", "goStep", "()V"⟩ ∈ G.2.2.1 ∧ Cond.selects "NearSpellModel" ⟨"NearSpellModel", "goStep", "()V"⟩ ⟨"NearSpellModel", "goStep", "()V"⟩ ∈ G.2.2.1 ∧ ((¬ 12 = 1000 ∧ ∃ T N, G.1.2.2.1[12]? = some ("NearSpellModel", T, N)) ∨ (12 = 1000 ∧ "NearSpellModel" = "java/lang/String" ∧ ∀ s, G.2.2.2 s → ∀ n, (n = 1 ∨ n = 2) → va_O "java/lang/String" (G.2.1.2.1 n) G.1.2.2.2 s s.heap)) := ⟨⟨Or.inl (wmT h (dwm1810)), wmT h (wm129), wmT h (dwm1813), by decide +kernel, by decide +kernel, by decide +kernel⟩, wmT h (dwm1812), wmT h (dwm84), Or.inl ⟨by decide, TX12, 67, by rw [h.2.1]; rfl⟩⟩
theorem dvn_nn {v : Int} (h : 0 ≤ v) : ∀ n, 0 ≤ dvn v n ∧ dvn v n ≤ v
  | 0 => ⟨h, Int.le_refl _⟩
  | n + 1 => by
    have := dvn_nn h n
    show 0 ≤ dvn v n / 27 ∧ dvn v n / 27 ≤ v
    omega
theorem h_c4 {v : Int32} (h : v.toInt = 4) : v = 4 := Int32.toInt_inj.mp (by rw [h]; decide +kernel)
theorem h_two {e v : Int32} (h0 : 0 ≤ e.toInt) (h1 : e.toInt ≤ 12) (hv : v.toInt = 2) (k : Nat) : bt (v <<< (e &&& 31)) k = decide (k = e.toInt.toNat + 1) := by
  cases h_c2 hv
  obtain ⟨n, hn, q, q2⟩ := h_nI h0 (by omega)
  rw [q2, q]
  rcases Nat.lt_or_ge k 32 with hk | hk
  · exact (by decide +kernel : ∀ n, n < 13 → ∀ k, k < 32 → bt ((2 : Int32) <<< (nI n &&& 31)) k = decide (k = n + 1)) n (by omega) k hk
  · rw [b_big hk, decide_eq_false (by omega)]
theorem h_four {e v : Int32} (h0 : 0 ≤ e.toInt) (h1 : e.toInt ≤ 12) (hv : v.toInt = 4) (k : Nat) : bt (v <<< (e &&& 31)) k = decide (k = e.toInt.toNat + 2) := by
  cases h_c4 hv
  obtain ⟨n, hn, q, q2⟩ := h_nI h0 (by omega)
  rw [q2, q]
  rcases Nat.lt_or_ge k 32 with hk | hk
  · exact (by decide +kernel : ∀ n, n < 13 → ∀ k, k < 32 → bt ((4 : Int32) <<< (nI n &&& 31)) k = decide (k = n + 2)) n (by omega) k hk
  · rw [b_big hk, decide_eq_false (by omega)]
def dM_isIn : rfM := ((⟨"NearSpellModel", "isIn", "(III)Z"⟩, prog_14_method_35_code, 3, (some .boolean)), (2,100), ([.inl (((-2147483648),2147483647,1),none), .inl (((-2147483648),2147483647,1),none), .inl (((-2147483648),2147483647,1),none)],[]), [], [])
def ddDX12_isIn : List (Nat × Instr × Nat) := [(0,.iload_n 0,1),(1,.iload_n 1,1),(2,.if_icmp .lt 12,3),(5,.iload_n 0,1),(6,.iload_n 2,1),(7,.if_icmp .gt 7,3),(10,.iconst 1,1),(11,.goto 4,3),(14,.iconst 0,1),(15,.ireturn,1)]
set_option maxRecDepth 100000 in
theorem dkDX12_isIn : rf_decs prog_14_method_35_code ddDX12_isIn := dd_of (by decide +kernel)
set_option maxHeartbeats 4000000 in
set_option maxRecDepth 20000 in
theorem dp_isIn {G : rfG} (hG : okG G) : h_met G dM_isIn (fun _ _ => True) (fun vs _ _ rv => ∃ a b d x : Int32, vs = [.int a, .int b, .int d] ∧ rv = some (.int x) ∧ ((x.toInt = 1 ∧ b.toInt ≤ a.toInt ∧ a.toInt ≤ d.toInt) ∨ (x.toInt = 0 ∧ ¬ (b.toInt ≤ a.toInt ∧ a.toInt ≤ d.toInt)))) := by
  refine h_metOf hG.1 (by decide +kernel) (by decide) hG.2.2.1 (wflT hG flokX12) (wcsT hG csokX12) ?_
  intro vs w0 X hv_ hr hp c
  match vs, hv_ with
  | [_, _, _], ⟨⟨a, rfl, hi_a, _⟩, ⟨b, rfl, hi_b, _⟩, ⟨d, rfl, hi_d, _⟩, _⟩ =>
  have hd : ∀ n pc i len, ddDX12_isIn[n]? = some (pc, i, len) → decode (mb dM_isIn) pc = .ok (i, len) := fun n pc i len h => hdk dkDX12_isIn n pc i len h
  show hW G X dM_isIn w0 0 [(0, .int a), (1, .int b), (2, .int d)] [] (hv w0)
  generalize hF0 : hv w0 = F at *
  refine h_iln c (hd 0 0 _ _ rfl) (by rfl) (hat 1 rfl ?_)
  refine h_iln c (hd 1 1 _ _ rfl) (by rfl) (hat 2 rfl ?_)
  refine h_cmp c (hd 2 2 _ _ rfl) (tgt := 14) (by decide) (fun (h2 : a.toInt < b.toInt) => ?_) (fun (h2 : ¬ (a.toInt < b.toInt)) => hat 5 rfl ?_)
  · skip
    refine h_ic c (hd 8 14 _ _ rfl) (by decide) (fun v14 e14 => hat 15 rfl ?_)
    exact h_zret c (hd 9 15 _ _ rfl) rfl (by omega) ⟨a, b, d, _, rfl, rfl, by omega⟩
  · skip
    refine h_iln c (hd 3 5 _ _ rfl) (by rfl) (hat 6 rfl ?_)
    refine h_iln c (hd 4 6 _ _ rfl) (by rfl) (hat 7 rfl ?_)
    refine h_cmp c (hd 5 7 _ _ rfl) (tgt := 14) (by decide) (fun (h7 : d.toInt < a.toInt) => ?_) (fun (h7 : ¬ (d.toInt < a.toInt)) => hat 10 rfl ?_)
    · skip
      refine h_ic c (hd 8 14 _ _ rfl) (by decide) (fun v14 e14 => hat 15 rfl ?_)
      exact h_zret c (hd 9 15 _ _ rfl) rfl (by omega) ⟨a, b, d, _, rfl, rfl, by omega⟩
    · skip
      refine h_ic c (hd 6 10 _ _ rfl) (by decide) (fun v10 e10 => hat 11 rfl ?_)
      refine h_goto c (hd 7 11 _ _ rfl) (tgt := 15) (by decide) ?_
      exact h_zret c (hd 9 15 _ _ rfl) rfl (by omega) ⟨a, b, d, _, rfl, rfl, by omega⟩
def dM_mlen : rfM := ((⟨"NearSpellModel", "lengthOf", "(I)I"⟩, prog_14_method_41_code, 3, (some .int)), (2,100), ([.inl ((0,387420488,1),none)],[]), [], [])
def ddDX12_lengthOf : List (Nat × Instr × Nat) := [(0,.iconst 0,1),(1,.istore_n 1,1),(2,.iload_n 0,1),(3,.istore_n 2,1),(4,.iload_n 2,1),(5,.ifCond .le 14,3),(8,.iinc 1 1,3),(11,.iload_n 2,1),(12,.bipush 27,2),(14,.idiv,1),(15,.istore_n 2,1),(16,.goto (-12),3),(19,.iload_n 1,1),(20,.ireturn,1)]
set_option maxRecDepth 100000 in
theorem dkDX12_lengthOf : rf_decs prog_14_method_41_code ddDX12_lengthOf := dd_of (by decide +kernel)
set_option maxHeartbeats 4000000 in
set_option maxRecDepth 20000 in
theorem dp_mlen {G : rfG} (hG : okG G) : h_met G dM_mlen (fun _ _ => True) (fun vs _ _ rv => ∃ a x : Int32, vs = [.int a] ∧ rv = some (.int x) ∧ x.toInt = (lenI a.toInt : Int)) := by
  refine h_metOf hG.1 (by decide +kernel) (by decide) hG.2.2.1 (wflT hG flokX12) (wcsT hG csokX12) ?_
  intro vs w0 X hv_ hr hp c
  match vs, hv_ with
  | [_], ⟨⟨a, rfl, hi_a, _⟩, _⟩ =>
  have hd : ∀ n pc i len, ddDX12_lengthOf[n]? = some (pc, i, len) → decode (mb dM_mlen) pc = .ok (i, len) := fun n pc i len h => hdk dkDX12_lengthOf n pc i len h
  show hW G X dM_mlen w0 0 [(0, .int a)] [] (hv w0)
  generalize hF0 : hv w0 = F at *
  have ha : 0 ≤ a.toInt ∧ a.toInt ≤ 387420488 := ⟨hi_a.1, hi_a.2.1⟩
  refine h_ic c (hd 0 0 _ _ rfl) (by decide) (fun v0 e0 => hat 1 rfl ?_)
  refine h_isn c (hd 1 1 _ _ rfl) (by decide) (L' := [(1, .int v0), (0, .int a)]) (by rfl) (hat 2 rfl ?_)
  refine h_iln c (hd 2 2 _ _ rfl) (by rfl) (hat 3 rfl ?_)
  refine h_isn c (hd 3 3 _ _ rfl) (by decide) (L' := [(2, .int a), (1, .int v0), (0, .int a)]) (by rfl) (hat 4 rfl ?_)
  refine h_iln c (hd 4 4 _ _ rfl) (by rfl) (hat 5 rfl ?_)
  refine h_if c (hd 5 5 _ _ rfl) (tgt := 19) (by decide) (fun (h5 : a.toInt ≤ 0) => ?_) (fun (h5 : ¬ (a.toInt ≤ 0)) => hat 8 rfl ?_)
  · skip
    refine h_iln c (hd 12 19 _ _ rfl) (by rfl) (hat 20 rfl ?_)
    have hl_ := lenI_0 (v := a.toInt) (by omega)
    exact h_iret c (hd 13 20 _ _ rfl) rfl ⟨a, _, rfl, rfl, by rw [hl_]; omega⟩
  · skip
    refine h_inc c (fun r_ => [(1, .int r_), (2, .int a), (0, .int a)]) (hd 6 8 _ _ rfl) (by decide) (by decide) (by rfl) (by omega) (fun _ => by rfl) (fun v8 e8 => hat 11 rfl ?_)
    have e8 : v8.toInt = 1 := by omega
    refine h_iln c (hd 7 11 _ _ rfl) (by rfl) (hat 12 rfl ?_)
    refine h_bp c (hd 8 12 _ _ rfl) (by decide) (fun v12 e12 => hat 14 rfl ?_)
    refine h_div c (hd 9 14 _ _ rfl) e12 (by decide) (by omega) (fun v14 e14 => hat 15 rfl ?_)
    refine h_isn c (hd 10 15 _ _ rfl) (by decide) (L' := [(2, .int v14), (1, .int v8), (0, .int a)]) (by rfl) (hat 16 rfl ?_)
    refine h_goto c (hd 11 16 _ _ rfl) (tgt := 4) (by decide) ?_
    refine h_iln c (hd 4 4 _ _ rfl) (by rfl) (hat 5 rfl ?_)
    refine h_if c (hd 5 5 _ _ rfl) (tgt := 19) (by decide) (fun (h5_1 : v14.toInt ≤ 0) => ?_) (fun (h5_1 : ¬ (v14.toInt ≤ 0)) => hat 8 rfl ?_)
    · skip
      refine h_iln c (hd 12 19 _ _ rfl) (by rfl) (hat 20 rfl ?_)
      have hl_ := lenI_1 (v := a.toInt) (by omega) (by omega)
      exact h_iret c (hd 13 20 _ _ rfl) rfl ⟨a, _, rfl, rfl, by rw [hl_]; omega⟩
    · skip
      refine h_inc c (fun r_ => [(1, .int r_), (2, .int v14), (0, .int a)]) (hd 6 8 _ _ rfl) (by decide) (by decide) (by rfl) (by omega) (fun _ => by rfl) (fun v8_1 e8_1 => hat 11 rfl ?_)
      have e8_1 : v8_1.toInt = 2 := by omega
      refine h_iln c (hd 7 11 _ _ rfl) (by rfl) (hat 12 rfl ?_)
      refine h_bp c (hd 8 12 _ _ rfl) (by decide) (fun v12_1 e12_1 => hat 14 rfl ?_)
      refine h_div c (hd 9 14 _ _ rfl) e12_1 (by decide) (by omega) (fun v14_1 e14_1 => hat 15 rfl ?_)
      refine h_isn c (hd 10 15 _ _ rfl) (by decide) (L' := [(2, .int v14_1), (1, .int v8_1), (0, .int a)]) (by rfl) (hat 16 rfl ?_)
      refine h_goto c (hd 11 16 _ _ rfl) (tgt := 4) (by decide) ?_
      refine h_iln c (hd 4 4 _ _ rfl) (by rfl) (hat 5 rfl ?_)
      refine h_if c (hd 5 5 _ _ rfl) (tgt := 19) (by decide) (fun (h5_2 : v14_1.toInt ≤ 0) => ?_) (fun (h5_2 : ¬ (v14_1.toInt ≤ 0)) => hat 8 rfl ?_)
      · skip
        refine h_iln c (hd 12 19 _ _ rfl) (by rfl) (hat 20 rfl ?_)
        have hl_ := lenI_2 (v := a.toInt) (by omega) (by omega)
        exact h_iret c (hd 13 20 _ _ rfl) rfl ⟨a, _, rfl, rfl, by rw [hl_]; omega⟩
      · skip
        refine h_inc c (fun r_ => [(1, .int r_), (2, .int v14_1), (0, .int a)]) (hd 6 8 _ _ rfl) (by decide) (by decide) (by rfl) (by omega) (fun _ => by rfl) (fun v8_2 e8_2 => hat 11 rfl ?_)
        have e8_2 : v8_2.toInt = 3 := by omega
        refine h_iln c (hd 7 11 _ _ rfl) (by rfl) (hat 12 rfl ?_)
        refine h_bp c (hd 8 12 _ _ rfl) (by decide) (fun v12_2 e12_2 => hat 14 rfl ?_)
        refine h_div c (hd 9 14 _ _ rfl) e12_2 (by decide) (by omega) (fun v14_2 e14_2 => hat 15 rfl ?_)
        refine h_isn c (hd 10 15 _ _ rfl) (by decide) (L' := [(2, .int v14_2), (1, .int v8_2), (0, .int a)]) (by rfl) (hat 16 rfl ?_)
        refine h_goto c (hd 11 16 _ _ rfl) (tgt := 4) (by decide) ?_
        refine h_iln c (hd 4 4 _ _ rfl) (by rfl) (hat 5 rfl ?_)
        refine h_if c (hd 5 5 _ _ rfl) (tgt := 19) (by decide) (fun (h5_3 : v14_2.toInt ≤ 0) => ?_) (fun (h5_3 : ¬ (v14_2.toInt ≤ 0)) => hat 8 rfl ?_)
        · skip
          refine h_iln c (hd 12 19 _ _ rfl) (by rfl) (hat 20 rfl ?_)
          have hl_ := lenI_3 (v := a.toInt) (by omega) (by omega)
          exact h_iret c (hd 13 20 _ _ rfl) rfl ⟨a, _, rfl, rfl, by rw [hl_]; omega⟩
        · skip
          refine h_inc c (fun r_ => [(1, .int r_), (2, .int v14_2), (0, .int a)]) (hd 6 8 _ _ rfl) (by decide) (by decide) (by rfl) (by omega) (fun _ => by rfl) (fun v8_3 e8_3 => hat 11 rfl ?_)
          have e8_3 : v8_3.toInt = 4 := by omega
          refine h_iln c (hd 7 11 _ _ rfl) (by rfl) (hat 12 rfl ?_)
          refine h_bp c (hd 8 12 _ _ rfl) (by decide) (fun v12_3 e12_3 => hat 14 rfl ?_)
          refine h_div c (hd 9 14 _ _ rfl) e12_3 (by decide) (by omega) (fun v14_3 e14_3 => hat 15 rfl ?_)
          refine h_isn c (hd 10 15 _ _ rfl) (by decide) (L' := [(2, .int v14_3), (1, .int v8_3), (0, .int a)]) (by rfl) (hat 16 rfl ?_)
          refine h_goto c (hd 11 16 _ _ rfl) (tgt := 4) (by decide) ?_
          refine h_iln c (hd 4 4 _ _ rfl) (by rfl) (hat 5 rfl ?_)
          refine h_if c (hd 5 5 _ _ rfl) (tgt := 19) (by decide) (fun (h5_4 : v14_3.toInt ≤ 0) => ?_) (fun (h5_4 : ¬ (v14_3.toInt ≤ 0)) => hat 8 rfl ?_)
          · skip
            refine h_iln c (hd 12 19 _ _ rfl) (by rfl) (hat 20 rfl ?_)
            have hl_ := lenI_4 (v := a.toInt) (by omega) (by omega)
            exact h_iret c (hd 13 20 _ _ rfl) rfl ⟨a, _, rfl, rfl, by rw [hl_]; omega⟩
          · skip
            refine h_inc c (fun r_ => [(1, .int r_), (2, .int v14_3), (0, .int a)]) (hd 6 8 _ _ rfl) (by decide) (by decide) (by rfl) (by omega) (fun _ => by rfl) (fun v8_4 e8_4 => hat 11 rfl ?_)
            have e8_4 : v8_4.toInt = 5 := by omega
            refine h_iln c (hd 7 11 _ _ rfl) (by rfl) (hat 12 rfl ?_)
            refine h_bp c (hd 8 12 _ _ rfl) (by decide) (fun v12_4 e12_4 => hat 14 rfl ?_)
            refine h_div c (hd 9 14 _ _ rfl) e12_4 (by decide) (by omega) (fun v14_4 e14_4 => hat 15 rfl ?_)
            refine h_isn c (hd 10 15 _ _ rfl) (by decide) (L' := [(2, .int v14_4), (1, .int v8_4), (0, .int a)]) (by rfl) (hat 16 rfl ?_)
            refine h_goto c (hd 11 16 _ _ rfl) (tgt := 4) (by decide) ?_
            refine h_iln c (hd 4 4 _ _ rfl) (by rfl) (hat 5 rfl ?_)
            refine h_if c (hd 5 5 _ _ rfl) (tgt := 19) (by decide) (fun (h5_5 : v14_4.toInt ≤ 0) => ?_) (fun (h5_5 : ¬ (v14_4.toInt ≤ 0)) => hat 8 rfl ?_)
            · skip
              refine h_iln c (hd 12 19 _ _ rfl) (by rfl) (hat 20 rfl ?_)
              have hl_ := lenI_5 (v := a.toInt) (by omega) (by omega)
              exact h_iret c (hd 13 20 _ _ rfl) rfl ⟨a, _, rfl, rfl, by rw [hl_]; omega⟩
            · skip
              refine h_inc c (fun r_ => [(1, .int r_), (2, .int v14_4), (0, .int a)]) (hd 6 8 _ _ rfl) (by decide) (by decide) (by rfl) (by omega) (fun _ => by rfl) (fun v8_5 e8_5 => hat 11 rfl ?_)
              have e8_5 : v8_5.toInt = 6 := by omega
              refine h_iln c (hd 7 11 _ _ rfl) (by rfl) (hat 12 rfl ?_)
              refine h_bp c (hd 8 12 _ _ rfl) (by decide) (fun v12_5 e12_5 => hat 14 rfl ?_)
              refine h_div c (hd 9 14 _ _ rfl) e12_5 (by decide) (by omega) (fun v14_5 e14_5 => hat 15 rfl ?_)
              refine h_isn c (hd 10 15 _ _ rfl) (by decide) (L' := [(2, .int v14_5), (1, .int v8_5), (0, .int a)]) (by rfl) (hat 16 rfl ?_)
              refine h_goto c (hd 11 16 _ _ rfl) (tgt := 4) (by decide) ?_
              refine h_iln c (hd 4 4 _ _ rfl) (by rfl) (hat 5 rfl ?_)
              refine h_if c (hd 5 5 _ _ rfl) (tgt := 19) (by decide) (fun (h5_6 : v14_5.toInt ≤ 0) => ?_) (fun (h5_6 : ¬ (v14_5.toInt ≤ 0)) => hat 8 rfl ?_)
              · skip
                refine h_iln c (hd 12 19 _ _ rfl) (by rfl) (hat 20 rfl ?_)
                have hl_ := lenI_6 (v := a.toInt) (by omega)
                exact h_iret c (hd 13 20 _ _ rfl) rfl ⟨a, _, rfl, rfl, by rw [hl_]; omega⟩
              · skip
                exact absurd (by omega) h5_6
def dM_mcan : rfM := ((⟨"NearSpellModel", "canBe", "(I)Z"⟩, prog_14_method_40_code, 2, (some .boolean)), (4,200), ([.inl (((-2147483648),2147483647,1),none)],[]), [], [])
def ddDX12_canBe : List (Nat × Instr × Nat) := [(0,.iload_n 0,1),(1,.iconst 0,1),(2,.ldc_w 333,3),(5,.invokestatic 334,3),(8,.ifCond .ne 5,3),(11,.iconst 0,1),(12,.ireturn,1),(13,.iload_n 0,1),(14,.istore_n 1,1),(15,.iload_n 1,1),(16,.ifCond .le 20,3),(19,.iload_n 1,1),(20,.bipush 27,2),(22,.irem,1),(23,.ifCond .ne 5,3),(26,.iconst 0,1),(27,.ireturn,1),(28,.iload_n 1,1),(29,.bipush 27,2),(31,.idiv,1),(32,.istore_n 1,1),(33,.goto (-18),3),(36,.iconst 1,1),(37,.ireturn,1)]
set_option maxRecDepth 100000 in
theorem dkDX12_canBe : rf_decs prog_14_method_40_code ddDX12_canBe := dd_of (by decide +kernel)
set_option maxHeartbeats 4000000 in
set_option maxRecDepth 20000 in
theorem dp_mcan {G : rfG} (hG : okG G) : h_met G dM_mcan (fun _ _ => True) (fun vs _ _ rv => ∃ a x : Int32, vs = [.int a] ∧ rv = some (.int x) ∧ ((x.toInt = 1 ∧ cbI a.toInt) ∨ (x.toInt = 0 ∧ ¬ cbI a.toInt))) := by
  refine h_metOf hG.1 (by decide +kernel) (by decide) hG.2.2.1 (wflT hG flokX12) (wcsT hG csokX12) ?_
  intro vs w0 X hv_ hr hp c
  match vs, hv_ with
  | [_], ⟨⟨a, rfl, hi_a, _⟩, _⟩ =>
  have hd : ∀ n pc i len, ddDX12_canBe[n]? = some (pc, i, len) → decode (mb dM_mcan) pc = .ok (i, len) := fun n pc i len h => hdk dkDX12_canBe n pc i len h
  show hW G X dM_mcan w0 0 [(0, .int a)] [] (hv w0)
  generalize hF0 : hv w0 = F at *
  refine h_iln c (hd 0 0 _ _ rfl) (by rfl) (hat 1 rfl ?_)
  refine h_ic c (hd 1 1 _ _ rfl) (by decide) (fun v1 e1 => hat 2 rfl ?_)
  refine h_ldcw c (hd 2 2 _ _ rfl) (n := 387420488) (by rfl) (by decide) (fun v2 e2 => hat 5 rfl ?_)
  refine h_callSF c (M' := dM_isIn) (dp_isIn hG) (by decide +kernel) (wlkS (lkX12_334 hG) _ rfl rfl) (hd 3 5 _ _ rfl) [.int a, .int v1, .int v2] (rest := []) (by rfl) ⟨⟨_, rfl, rf_in_top _, trivial⟩, ⟨_, rfl, rf_in_top _, trivial⟩, ⟨_, rfl, rf_in_top _, trivial⟩, trivial⟩ (Nat.le_of_ble_eq_true rfl) trivial (fun rv5 F5 fr5 rr5 pp5 sm_ => hat 8 rfl ?_)
  have e_ := (sm_ rfl).symm
  subst e_
  obtain ⟨a_, b_, d_, x5, ea_, er_, hx5⟩ := pp5
  cases ea_; subst er_
  refine h_if c (hd 4 8 _ _ rfl) (tgt := 13) (by decide) (fun (h8 : x5.toInt ≠ 0) => ?_) (fun (h8 : ¬ (x5.toInt ≠ 0)) => hat 11 rfl ?_)
  · skip
    refine h_iln c (hd 7 13 _ _ rfl) (by rfl) (hat 14 rfl ?_)
    refine h_isn c (hd 8 14 _ _ rfl) (by decide) (L' := [(1, .int a), (0, .int a)]) (by rfl) (hat 15 rfl ?_)
    refine h_iln c (hd 9 15 _ _ rfl) (by rfl) (hat 16 rfl ?_)
    refine h_if c (hd 10 16 _ _ rfl) (tgt := 36) (by decide) (fun (h16 : a.toInt ≤ 0) => ?_) (fun (h16 : ¬ (a.toInt ≤ 0)) => hat 19 rfl ?_)
    · skip
      refine h_ic c (hd 22 36 _ _ rfl) (by decide) (fun v36 e36 => hat 37 rfl ?_)
      have hc_ : cbI a.toInt := by unfold cbI; omega
      exact h_zret c (hd 23 37 _ _ rfl) rfl (by omega) ⟨a, _, rfl, rfl, Or.inl ⟨by omega, hc_⟩⟩
    · skip
      refine h_iln c (hd 11 19 _ _ rfl) (by rfl) (hat 20 rfl ?_)
      refine h_bp c (hd 12 20 _ _ rfl) (by decide) (fun v20 e20 => hat 22 rfl ?_)
      refine h_rem c (hd 13 22 _ _ rfl) e20 (by decide) (by omega) (fun v22 e22 => hat 23 rfl ?_)
      refine h_if c (hd 14 23 _ _ rfl) (tgt := 28) (by decide) (fun (h23 : v22.toInt ≠ 0) => ?_) (fun (h23 : ¬ (v22.toInt ≠ 0)) => hat 26 rfl ?_)
      · skip
        refine h_iln c (hd 17 28 _ _ rfl) (by rfl) (hat 29 rfl ?_)
        refine h_bp c (hd 18 29 _ _ rfl) (by decide) (fun v29 e29 => hat 31 rfl ?_)
        refine h_div c (hd 19 31 _ _ rfl) e29 (by decide) (by omega) (fun v31 e31 => hat 32 rfl ?_)
        refine h_isn c (hd 20 32 _ _ rfl) (by decide) (L' := [(1, .int v31), (0, .int a)]) (by rfl) (hat 33 rfl ?_)
        refine h_goto c (hd 21 33 _ _ rfl) (tgt := 15) (by decide) ?_
        refine h_iln c (hd 9 15 _ _ rfl) (by rfl) (hat 16 rfl ?_)
        refine h_if c (hd 10 16 _ _ rfl) (tgt := 36) (by decide) (fun (h16_1 : v31.toInt ≤ 0) => ?_) (fun (h16_1 : ¬ (v31.toInt ≤ 0)) => hat 19 rfl ?_)
        · skip
          refine h_ic c (hd 22 36 _ _ rfl) (by decide) (fun v36_1 e36_1 => hat 37 rfl ?_)
          have hc_ : cbI a.toInt := by unfold cbI; omega
          exact h_zret c (hd 23 37 _ _ rfl) rfl (by omega) ⟨a, _, rfl, rfl, Or.inl ⟨by omega, hc_⟩⟩
        · skip
          refine h_iln c (hd 11 19 _ _ rfl) (by rfl) (hat 20 rfl ?_)
          refine h_bp c (hd 12 20 _ _ rfl) (by decide) (fun v20_1 e20_1 => hat 22 rfl ?_)
          refine h_rem c (hd 13 22 _ _ rfl) e20_1 (by decide) (by omega) (fun v22_1 e22_1 => hat 23 rfl ?_)
          refine h_if c (hd 14 23 _ _ rfl) (tgt := 28) (by decide) (fun (h23_1 : v22_1.toInt ≠ 0) => ?_) (fun (h23_1 : ¬ (v22_1.toInt ≠ 0)) => hat 26 rfl ?_)
          · skip
            refine h_iln c (hd 17 28 _ _ rfl) (by rfl) (hat 29 rfl ?_)
            refine h_bp c (hd 18 29 _ _ rfl) (by decide) (fun v29_1 e29_1 => hat 31 rfl ?_)
            refine h_div c (hd 19 31 _ _ rfl) e29_1 (by decide) (by omega) (fun v31_1 e31_1 => hat 32 rfl ?_)
            refine h_isn c (hd 20 32 _ _ rfl) (by decide) (L' := [(1, .int v31_1), (0, .int a)]) (by rfl) (hat 33 rfl ?_)
            refine h_goto c (hd 21 33 _ _ rfl) (tgt := 15) (by decide) ?_
            refine h_iln c (hd 9 15 _ _ rfl) (by rfl) (hat 16 rfl ?_)
            refine h_if c (hd 10 16 _ _ rfl) (tgt := 36) (by decide) (fun (h16_2 : v31_1.toInt ≤ 0) => ?_) (fun (h16_2 : ¬ (v31_1.toInt ≤ 0)) => hat 19 rfl ?_)
            · skip
              refine h_ic c (hd 22 36 _ _ rfl) (by decide) (fun v36_2 e36_2 => hat 37 rfl ?_)
              have hc_ : cbI a.toInt := by unfold cbI; omega
              exact h_zret c (hd 23 37 _ _ rfl) rfl (by omega) ⟨a, _, rfl, rfl, Or.inl ⟨by omega, hc_⟩⟩
            · skip
              refine h_iln c (hd 11 19 _ _ rfl) (by rfl) (hat 20 rfl ?_)
              refine h_bp c (hd 12 20 _ _ rfl) (by decide) (fun v20_2 e20_2 => hat 22 rfl ?_)
              refine h_rem c (hd 13 22 _ _ rfl) e20_2 (by decide) (by omega) (fun v22_2 e22_2 => hat 23 rfl ?_)
              refine h_if c (hd 14 23 _ _ rfl) (tgt := 28) (by decide) (fun (h23_2 : v22_2.toInt ≠ 0) => ?_) (fun (h23_2 : ¬ (v22_2.toInt ≠ 0)) => hat 26 rfl ?_)
              · skip
                refine h_iln c (hd 17 28 _ _ rfl) (by rfl) (hat 29 rfl ?_)
                refine h_bp c (hd 18 29 _ _ rfl) (by decide) (fun v29_2 e29_2 => hat 31 rfl ?_)
                refine h_div c (hd 19 31 _ _ rfl) e29_2 (by decide) (by omega) (fun v31_2 e31_2 => hat 32 rfl ?_)
                refine h_isn c (hd 20 32 _ _ rfl) (by decide) (L' := [(1, .int v31_2), (0, .int a)]) (by rfl) (hat 33 rfl ?_)
                refine h_goto c (hd 21 33 _ _ rfl) (tgt := 15) (by decide) ?_
                refine h_iln c (hd 9 15 _ _ rfl) (by rfl) (hat 16 rfl ?_)
                refine h_if c (hd 10 16 _ _ rfl) (tgt := 36) (by decide) (fun (h16_3 : v31_2.toInt ≤ 0) => ?_) (fun (h16_3 : ¬ (v31_2.toInt ≤ 0)) => hat 19 rfl ?_)
                · skip
                  refine h_ic c (hd 22 36 _ _ rfl) (by decide) (fun v36_3 e36_3 => hat 37 rfl ?_)
                  have hc_ : cbI a.toInt := by unfold cbI; omega
                  exact h_zret c (hd 23 37 _ _ rfl) rfl (by omega) ⟨a, _, rfl, rfl, Or.inl ⟨by omega, hc_⟩⟩
                · skip
                  refine h_iln c (hd 11 19 _ _ rfl) (by rfl) (hat 20 rfl ?_)
                  refine h_bp c (hd 12 20 _ _ rfl) (by decide) (fun v20_3 e20_3 => hat 22 rfl ?_)
                  refine h_rem c (hd 13 22 _ _ rfl) e20_3 (by decide) (by omega) (fun v22_3 e22_3 => hat 23 rfl ?_)
                  refine h_if c (hd 14 23 _ _ rfl) (tgt := 28) (by decide) (fun (h23_3 : v22_3.toInt ≠ 0) => ?_) (fun (h23_3 : ¬ (v22_3.toInt ≠ 0)) => hat 26 rfl ?_)
                  · skip
                    refine h_iln c (hd 17 28 _ _ rfl) (by rfl) (hat 29 rfl ?_)
                    refine h_bp c (hd 18 29 _ _ rfl) (by decide) (fun v29_3 e29_3 => hat 31 rfl ?_)
                    refine h_div c (hd 19 31 _ _ rfl) e29_3 (by decide) (by omega) (fun v31_3 e31_3 => hat 32 rfl ?_)
                    refine h_isn c (hd 20 32 _ _ rfl) (by decide) (L' := [(1, .int v31_3), (0, .int a)]) (by rfl) (hat 33 rfl ?_)
                    refine h_goto c (hd 21 33 _ _ rfl) (tgt := 15) (by decide) ?_
                    refine h_iln c (hd 9 15 _ _ rfl) (by rfl) (hat 16 rfl ?_)
                    refine h_if c (hd 10 16 _ _ rfl) (tgt := 36) (by decide) (fun (h16_4 : v31_3.toInt ≤ 0) => ?_) (fun (h16_4 : ¬ (v31_3.toInt ≤ 0)) => hat 19 rfl ?_)
                    · skip
                      refine h_ic c (hd 22 36 _ _ rfl) (by decide) (fun v36_4 e36_4 => hat 37 rfl ?_)
                      have hc_ : cbI a.toInt := by unfold cbI; omega
                      exact h_zret c (hd 23 37 _ _ rfl) rfl (by omega) ⟨a, _, rfl, rfl, Or.inl ⟨by omega, hc_⟩⟩
                    · skip
                      refine h_iln c (hd 11 19 _ _ rfl) (by rfl) (hat 20 rfl ?_)
                      refine h_bp c (hd 12 20 _ _ rfl) (by decide) (fun v20_4 e20_4 => hat 22 rfl ?_)
                      refine h_rem c (hd 13 22 _ _ rfl) e20_4 (by decide) (by omega) (fun v22_4 e22_4 => hat 23 rfl ?_)
                      refine h_if c (hd 14 23 _ _ rfl) (tgt := 28) (by decide) (fun (h23_4 : v22_4.toInt ≠ 0) => ?_) (fun (h23_4 : ¬ (v22_4.toInt ≠ 0)) => hat 26 rfl ?_)
                      · skip
                        refine h_iln c (hd 17 28 _ _ rfl) (by rfl) (hat 29 rfl ?_)
                        refine h_bp c (hd 18 29 _ _ rfl) (by decide) (fun v29_4 e29_4 => hat 31 rfl ?_)
                        refine h_div c (hd 19 31 _ _ rfl) e29_4 (by decide) (by omega) (fun v31_4 e31_4 => hat 32 rfl ?_)
                        refine h_isn c (hd 20 32 _ _ rfl) (by decide) (L' := [(1, .int v31_4), (0, .int a)]) (by rfl) (hat 33 rfl ?_)
                        refine h_goto c (hd 21 33 _ _ rfl) (tgt := 15) (by decide) ?_
                        refine h_iln c (hd 9 15 _ _ rfl) (by rfl) (hat 16 rfl ?_)
                        refine h_if c (hd 10 16 _ _ rfl) (tgt := 36) (by decide) (fun (h16_5 : v31_4.toInt ≤ 0) => ?_) (fun (h16_5 : ¬ (v31_4.toInt ≤ 0)) => hat 19 rfl ?_)
                        · skip
                          refine h_ic c (hd 22 36 _ _ rfl) (by decide) (fun v36_5 e36_5 => hat 37 rfl ?_)
                          have hc_ : cbI a.toInt := by unfold cbI; omega
                          exact h_zret c (hd 23 37 _ _ rfl) rfl (by omega) ⟨a, _, rfl, rfl, Or.inl ⟨by omega, hc_⟩⟩
                        · skip
                          refine h_iln c (hd 11 19 _ _ rfl) (by rfl) (hat 20 rfl ?_)
                          refine h_bp c (hd 12 20 _ _ rfl) (by decide) (fun v20_5 e20_5 => hat 22 rfl ?_)
                          refine h_rem c (hd 13 22 _ _ rfl) e20_5 (by decide) (by omega) (fun v22_5 e22_5 => hat 23 rfl ?_)
                          refine h_if c (hd 14 23 _ _ rfl) (tgt := 28) (by decide) (fun (h23_5 : v22_5.toInt ≠ 0) => ?_) (fun (h23_5 : ¬ (v22_5.toInt ≠ 0)) => hat 26 rfl ?_)
                          · skip
                            refine h_iln c (hd 17 28 _ _ rfl) (by rfl) (hat 29 rfl ?_)
                            refine h_bp c (hd 18 29 _ _ rfl) (by decide) (fun v29_5 e29_5 => hat 31 rfl ?_)
                            refine h_div c (hd 19 31 _ _ rfl) e29_5 (by decide) (by omega) (fun v31_5 e31_5 => hat 32 rfl ?_)
                            refine h_isn c (hd 20 32 _ _ rfl) (by decide) (L' := [(1, .int v31_5), (0, .int a)]) (by rfl) (hat 33 rfl ?_)
                            refine h_goto c (hd 21 33 _ _ rfl) (tgt := 15) (by decide) ?_
                            refine h_iln c (hd 9 15 _ _ rfl) (by rfl) (hat 16 rfl ?_)
                            refine h_if c (hd 10 16 _ _ rfl) (tgt := 36) (by decide) (fun (h16_6 : v31_5.toInt ≤ 0) => ?_) (fun (h16_6 : ¬ (v31_5.toInt ≤ 0)) => hat 19 rfl ?_)
                            · skip
                              refine h_ic c (hd 22 36 _ _ rfl) (by decide) (fun v36_6 e36_6 => hat 37 rfl ?_)
                              have hc_ : cbI a.toInt := by unfold cbI; omega
                              exact h_zret c (hd 23 37 _ _ rfl) rfl (by omega) ⟨a, _, rfl, rfl, Or.inl ⟨by omega, hc_⟩⟩
                            · skip
                              exact absurd (by omega) h16_6
                          · skip
                            refine h_ic c (hd 15 26 _ _ rfl) (by decide) (fun v26_5 e26_5 => hat 27 rfl ?_)
                            have hc_ : ¬ cbI a.toInt := by unfold cbI; omega
                            exact h_zret c (hd 16 27 _ _ rfl) rfl (by omega) ⟨a, _, rfl, rfl, Or.inr ⟨by omega, hc_⟩⟩
                      · skip
                        refine h_ic c (hd 15 26 _ _ rfl) (by decide) (fun v26_4 e26_4 => hat 27 rfl ?_)
                        have hc_ : ¬ cbI a.toInt := by unfold cbI; omega
                        exact h_zret c (hd 16 27 _ _ rfl) rfl (by omega) ⟨a, _, rfl, rfl, Or.inr ⟨by omega, hc_⟩⟩
                  · skip
                    refine h_ic c (hd 15 26 _ _ rfl) (by decide) (fun v26_3 e26_3 => hat 27 rfl ?_)
                    have hc_ : ¬ cbI a.toInt := by unfold cbI; omega
                    exact h_zret c (hd 16 27 _ _ rfl) rfl (by omega) ⟨a, _, rfl, rfl, Or.inr ⟨by omega, hc_⟩⟩
              · skip
                refine h_ic c (hd 15 26 _ _ rfl) (by decide) (fun v26_2 e26_2 => hat 27 rfl ?_)
                have hc_ : ¬ cbI a.toInt := by unfold cbI; omega
                exact h_zret c (hd 16 27 _ _ rfl) rfl (by omega) ⟨a, _, rfl, rfl, Or.inr ⟨by omega, hc_⟩⟩
          · skip
            refine h_ic c (hd 15 26 _ _ rfl) (by decide) (fun v26_1 e26_1 => hat 27 rfl ?_)
            have hc_ : ¬ cbI a.toInt := by unfold cbI; omega
            exact h_zret c (hd 16 27 _ _ rfl) rfl (by omega) ⟨a, _, rfl, rfl, Or.inr ⟨by omega, hc_⟩⟩
      · skip
        refine h_ic c (hd 15 26 _ _ rfl) (by decide) (fun v26 e26 => hat 27 rfl ?_)
        have hc_ : ¬ cbI a.toInt := by unfold cbI; omega
        exact h_zret c (hd 16 27 _ _ rfl) rfl (by omega) ⟨a, _, rfl, rfl, Or.inr ⟨by omega, hc_⟩⟩
  · skip
    refine h_ic c (hd 5 11 _ _ rfl) (by decide) (fun v11 e11 => hat 12 rfl ?_)
    have hc_ : ¬ cbI a.toInt := by unfold cbI; omega
    exact h_zret c (hd 6 12 _ _ rfl) rfl (by omega) ⟨a, _, rfl, rfl, Or.inr ⟨by omega, hc_⟩⟩
def dM_fl : rfM := ((⟨"NearSpellModel", "firstLetters", "(II)I"⟩, prog_14_method_43_code, 4, (some .int)), (4,200), ([.inl ((0,387420488,1),none), .inl ((0,6,1),none)],[]), [], [])
def ddDX12_firstLetters : List (Nat × Instr × Nat) := [(0,.iload_n 0,1),(1,.istore_n 2,1),(2,.iload_n 0,1),(3,.invokestatic 319,3),(6,.istore_n 3,1),(7,.iload_n 3,1),(8,.iload_n 1,1),(9,.if_icmp .le 14,3),(12,.iload_n 2,1),(13,.bipush 27,2),(15,.idiv,1),(16,.istore_n 2,1),(17,.iinc 3 (-1),3),(20,.goto (-13),3),(23,.iload_n 2,1),(24,.ireturn,1)]
set_option maxRecDepth 100000 in
theorem dkDX12_firstLetters : rf_decs prog_14_method_43_code ddDX12_firstLetters := dd_of (by decide +kernel)
set_option maxHeartbeats 4000000 in
set_option maxRecDepth 20000 in
theorem dp_fl {G : rfG} (hG : okG G) : h_met G dM_fl (fun _ _ => True) (fun vs _ _ rv => ∃ a n x : Int32, vs = [.int a, .int n] ∧ rv = some (.int x) ∧ x.toInt = dvn a.toInt (lenI a.toInt - n.toInt.toNat)) := by
  refine h_metOf hG.1 (by decide +kernel) (by decide) hG.2.2.1 (wflT hG flokX12) (wcsT hG csokX12) ?_
  intro vs w0 X hv_ hr hp c
  match vs, hv_ with
  | [_, _], ⟨⟨a, rfl, hi_a, _⟩, ⟨n, rfl, hi_n, _⟩, _⟩ =>
  have hd : ∀ n pc i len, ddDX12_firstLetters[n]? = some (pc, i, len) → decode (mb dM_fl) pc = .ok (i, len) := fun n pc i len h => hdk dkDX12_firstLetters n pc i len h
  show hW G X dM_fl w0 0 [(0, .int a), (1, .int n)] [] (hv w0)
  generalize hF0 : hv w0 = F at *
  have ha : 0 ≤ a.toInt ∧ a.toInt ≤ 387420488 := ⟨hi_a.1, hi_a.2.1⟩
  have hn : 0 ≤ n.toInt ∧ n.toInt ≤ 6 := ⟨hi_n.1, hi_n.2.1⟩
  have hl6 := lenI_le a.toInt
  have K7 : ∀ (m : Nat) (w3 w2 : Int32), 0 ≤ w3.toInt → w3.toInt ≤ (lenI a.toInt : Int) → (n.toInt ≤ w3.toInt ∨ w3.toInt = (lenI a.toInt : Int)) → w2.toInt = dvn a.toInt (lenI a.toInt - w3.toInt.toNat) → m = w3.toInt.toNat → hW G X dM_fl w0 7 [(3, .int w3), (2, .int w2), (1, .int n), (0, .int a)] [] F := by
    intro m
    induction m using Nat.strongRecOn with
    | ind m ih =>
    intro w3 w2 h30 h31 h32 h2 hm
    have hnn := dvn_nn ha.1 (lenI a.toInt - w3.toInt.toNat)
    refine h_iln c (hd 5 7 _ _ rfl) (by rfl) (hat 8 rfl ?_)
    refine h_iln c (hd 6 8 _ _ rfl) (by rfl) (hat 9 rfl ?_)
    refine h_cmp c (hd 7 9 _ _ rfl) (tgt := 23) (by decide) (fun (h9 : w3.toInt ≤ n.toInt) => ?_) (fun (h9 : ¬ (w3.toInt ≤ n.toInt)) => hat 12 rfl ?_)
    · skip
      refine h_iln c (hd 14 23 _ _ rfl) (by rfl) (hat 24 rfl ?_)
      refine h_iret c (hd 15 24 _ _ rfl) rfl ⟨a, n, _, rfl, rfl, ?_⟩
      rw [h2, show lenI a.toInt - w3.toInt.toNat = lenI a.toInt - n.toInt.toNat by omega]
    · skip
      refine h_iln c (hd 8 12 _ _ rfl) (by rfl) (hat 13 rfl ?_)
      refine h_bp c (hd 9 13 _ _ rfl) (by decide) (fun v13 e13 => hat 15 rfl ?_)
      refine h_div c (hd 10 15 _ _ rfl) e13 (by decide) (by omega) (fun v15 e15 => hat 16 rfl ?_)
      refine h_isn c (hd 11 16 _ _ rfl) (by decide) (L' := [(2, .int v15), (3, .int w3), (1, .int n), (0, .int a)]) (by rfl) (hat 17 rfl ?_)
      refine h_inc c (fun r_ => [(3, .int r_), (2, .int v15), (1, .int n), (0, .int a)]) (hd 12 17 _ _ rfl) (by decide) (by decide) (by rfl) (by omega) (fun _ => by rfl) (fun v17 e17 => hat 20 rfl ?_)
      refine h_goto c (hd 13 20 _ _ rfl) (tgt := 7) (by decide) ?_
      refine h_less (L := [(3, .int v17), (2, .int v15), (1, .int n), (0, .int a)]) (by simp) (ih v17.toInt.toNat (by omega) _ _ (by omega) (by omega) (by omega) ?_ rfl)
      rw [show lenI a.toInt - v17.toInt.toNat = (lenI a.toInt - w3.toInt.toNat) + 1 by omega]
      show _ = dvn a.toInt (lenI a.toInt - w3.toInt.toNat) / 27
      rw [← h2]
      exact e15
  refine h_iln c (hd 0 0 _ _ rfl) (by rfl) (hat 1 rfl ?_)
  refine h_isn c (hd 1 1 _ _ rfl) (by decide) (L' := [(2, .int a), (0, .int a), (1, .int n)]) (by rfl) (hat 2 rfl ?_)
  refine h_iln c (hd 2 2 _ _ rfl) (by rfl) (hat 3 rfl ?_)
  refine h_callSF c (M' := dM_mlen) (dp_mlen hG) (by decide +kernel) (wlkS (lkX12_319 hG) _ rfl rfl) (hd 3 3 _ _ rfl) [.int a] (rest := []) (by rfl) ⟨⟨_, rfl, rf_in1 (by omega) (by omega), trivial⟩, trivial⟩ (Nat.le_of_ble_eq_true rfl) trivial (fun rv3 F3 fr3 rr3 pp3 sm_ => hat 6 rfl ?_)
  have e_ := (sm_ rfl).symm
  subst e_
  obtain ⟨a_, x3, ea_, er_, hx3⟩ := pp3
  cases ea_; subst er_
  refine h_isn c (hd 4 6 _ _ rfl) (by decide) (L' := [(3, .int x3), (2, .int a), (0, .int a), (1, .int n)]) (by rfl) (hat 7 rfl ?_)
  refine h_less (L := [(3, .int x3), (2, .int a), (1, .int n), (0, .int a)]) (by simp) (K7 _ _ _ (by omega) (by omega) (Or.inr hx3) ?_ rfl)
  rw [show lenI a.toInt - x3.toInt.toNat = 0 by omega]
  rfl
def dM_lt : rfM := ((⟨"NearSpellModel", "letterOf", "(II)I"⟩, prog_14_method_44_code, 2, (some .int)), (6,300), ([.inl ((0,387420488,1),none), .inl ((0,5,1),none)],[]), [], [])
def ddDX12_letterOf : List (Nat × Instr × Nat) := [(0,.iload_n 0,1),(1,.iload_n 1,1),(2,.iconst 1,1),(3,.iadd,1),(4,.invokestatic 322,3),(7,.bipush 27,2),(9,.irem,1),(10,.ireturn,1)]
set_option maxRecDepth 100000 in
theorem dkDX12_letterOf : rf_decs prog_14_method_44_code ddDX12_letterOf := dd_of (by decide +kernel)
set_option maxHeartbeats 4000000 in
set_option maxRecDepth 20000 in
theorem dp_lt {G : rfG} (hG : okG G) : h_met G dM_lt (fun _ _ => True) (fun vs _ _ rv => ∃ a k x : Int32, vs = [.int a, .int k] ∧ rv = some (.int x) ∧ x.toInt = ltI a.toInt k.toInt.toNat) := by
  refine h_metOf hG.1 (by decide +kernel) (by decide) hG.2.2.1 (wflT hG flokX12) (wcsT hG csokX12) ?_
  intro vs w0 X hv_ hr hp c
  match vs, hv_ with
  | [_, _], ⟨⟨a, rfl, hi_a, _⟩, ⟨k, rfl, hi_k, _⟩, _⟩ =>
  have hd : ∀ n pc i len, ddDX12_letterOf[n]? = some (pc, i, len) → decode (mb dM_lt) pc = .ok (i, len) := fun n pc i len h => hdk dkDX12_letterOf n pc i len h
  show hW G X dM_lt w0 0 [(0, .int a), (1, .int k)] [] (hv w0)
  generalize hF0 : hv w0 = F at *
  have ha : 0 ≤ a.toInt ∧ a.toInt ≤ 387420488 := ⟨hi_a.1, hi_a.2.1⟩
  have hk : 0 ≤ k.toInt ∧ k.toInt ≤ 5 := ⟨hi_k.1, hi_k.2.1⟩
  refine h_iln c (hd 0 0 _ _ rfl) (by rfl) (hat 1 rfl ?_)
  refine h_iln c (hd 1 1 _ _ rfl) (by rfl) (hat 2 rfl ?_)
  refine h_ic c (hd 2 2 _ _ rfl) (by decide) (fun v2 e2 => hat 3 rfl ?_)
  refine h_add c (hd 3 3 _ _ rfl) (by omega) (fun v3 e3 => hat 4 rfl ?_)
  refine h_callSF c (M' := dM_fl) (dp_fl hG) (by decide +kernel) (wlkS (lkX12_322 hG) _ rfl rfl) (hd 4 4 _ _ rfl) [.int a, .int v3] (rest := []) (by rfl) ⟨⟨_, rfl, rf_in1 (by omega) (by omega), trivial⟩, ⟨_, rfl, rf_in1 (by omega) (by omega), trivial⟩, trivial⟩ (Nat.le_of_ble_eq_true rfl) trivial (fun rv4 F4 fr4 rr4 pp4 sm_ => hat 7 rfl ?_)
  have e_ := (sm_ rfl).symm
  subst e_
  obtain ⟨a_, n_, x4, ea_, er_, hx4⟩ := pp4
  cases ea_; subst er_
  have hnn := dvn_nn ha.1 (lenI a.toInt - v3.toInt.toNat)
  refine h_bp c (hd 5 7 _ _ rfl) (by decide) (fun v7 e7 => hat 9 rfl ?_)
  refine h_rem c (hd 6 9 _ _ rfl) e7 (by decide) (by omega) (fun v9 e9 => hat 10 rfl ?_)
  refine h_iret c (hd 7 10 _ _ rfl) rfl ⟨a, k, _, rfl, rfl, ?_⟩
  unfold ltI
  rw [e9, hx4, show lenI a.toInt - v3.toInt.toNat = lenI a.toInt - 1 - k.toInt.toNat by omega]
def dM_l1 : rfM := ((⟨"NearSpellModel", "layOne", "(II)V"⟩, prog_14_method_56_code, 4, none), (8,400), ([.inr (.inl [114]), .inl ((0,387420488,1),none), .inl ((0,0,1),none)],[]), [(94,0),(114,45)], [])
def ddDX12_layOne : List (Nat × Instr × Nat) := [(0,.aload_n 0,1),(1,.iload_n 1,1),(2,.invokestatic 319,3),(5,.iload_n 2,1),(6,.invokestatic 319,3),(9,.iadd,1),(10,.putfield 384,3),(13,.iconst 0,1),(14,.istore_n 3,1),(15,.iload_n 3,1),(16,.iload_n 1,1),(17,.invokestatic 319,3),(20,.if_icmp .ge 20,3),(23,.aload_n 0,1),(24,.getfield 84,3),(27,.iload_n 3,1),(28,.iload_n 1,1),(29,.iload_n 3,1),(30,.invokestatic 359,3),(33,.iastore,1),(34,.iinc 3 1,3),(37,.goto (-22),3),(40,.iconst 0,1),(41,.istore_n 3,1),(42,.iload_n 3,1),(43,.iload_n 2,1),(44,.invokestatic 319,3),(47,.if_icmp .ge 25,3),(50,.aload_n 0,1),(51,.getfield 84,3),(54,.iload_n 1,1),(55,.invokestatic 319,3),(58,.iload_n 3,1),(59,.iadd,1),(60,.iload_n 2,1),(61,.iload_n 3,1),(62,.invokestatic 359,3),(65,.iastore,1),(66,.iinc 3 1,3),(69,.goto (-27),3),(72,.return_,1)]
set_option maxRecDepth 100000 in
theorem dkDX12_layOne : rf_decs prog_14_method_56_code ddDX12_layOne := dd_of (by decide +kernel)
set_option maxHeartbeats 4000000 in
set_option maxRecDepth 20000 in
theorem dp_l1 {G : rfG} (hG : okG G) : h_met G dM_l1 (fun _ _ => True) (fun vs _ F' rv => rv = none ∧ ∃ a : Int32, vs[1]? = some (.int a) ∧ (F' 114 44).toInt = (lenI a.toInt : Int) ∧ ∀ k : Nat, k < lenI a.toInt → (F' 94 k).toInt = ltI a.toInt k) := by
  refine h_metOf hG.1 (by decide +kernel) (by decide) hG.2.2.1 (wflT hG flokX12) (wcsT hG csokX12) ?_
  intro vs w0 X hv_ hr hp c
  match vs, hv_ with
  | [_, _, _], ⟨⟨_, hj0, rfl⟩, ⟨a, rfl, hi_a, _⟩, ⟨b, rfl, hi_b, _⟩, _⟩ =>
  cases List.mem_singleton.mp hj0
  have hd : ∀ n pc i len, ddDX12_layOne[n]? = some (pc, i, len) → decode (mb dM_l1) pc = .ok (i, len) := fun n pc i len h => hdk dkDX12_layOne n pc i len h
  show hW G X dM_l1 w0 0 [(0, .ref (G.2.1.1 114)), (1, .int a), (2, .int b)] [] (hv w0)
  generalize hF0 : hv w0 = F at *
  have ha : 0 ≤ a.toInt ∧ a.toInt ≤ 387420488 := ⟨hi_a.1, hi_a.2.1⟩
  have hb : b.toInt = 0 := by have h1 : 0 ≤ b.toInt := hi_b.1; have h2 : b.toInt ≤ 0 := hi_b.2.1; omega
  have hl6 := lenI_le a.toInt
  have hl0 : lenI b.toInt = 0 := lenI_0 (by omega)
  have K40 : ∀ (w3 : Int32) (F1 : HF), hframe [(94, 0), (114, 45)] F F1 → (F1 114 44).toInt = (lenI a.toInt : Int) → (∀ k : Nat, k < lenI a.toInt → (F1 94 k).toInt = ltI a.toInt k) → hW G X dM_l1 w0 40 [(3, .int w3), (2, .int b), (1, .int a), (0, .ref (G.2.1.1 114))] [] F1 := by
    intro w3 F1 fr1 hs1 hk1
    refine h_ic c (hd 22 40 _ _ rfl) (by decide) (fun v40 e40 => hat 41 rfl ?_)
    refine h_isn c (hd 23 41 _ _ rfl) (by decide) (L' := [(3, .int v40), (2, .int b), (1, .int a), (0, .ref (G.2.1.1 114))]) (by rfl) (hat 42 rfl ?_)
    refine h_iln c (hd 24 42 _ _ rfl) (by rfl) (hat 43 rfl ?_)
    refine h_iln c (hd 25 43 _ _ rfl) (by rfl) (hat 44 rfl ?_)
    refine h_callSF c (M' := dM_mlen) (dp_mlen hG) (by decide +kernel) (wlkS (lkX12_319 hG) _ rfl rfl) (hd 26 44 _ _ rfl) [.int b] (rest := [.int v40]) (by rfl) ⟨⟨_, rfl, rf_in1 (by omega) (by omega), trivial⟩, trivial⟩ (Nat.le_of_ble_eq_true rfl) trivial (fun rv44 F44 fr44 rr44 pp44 sm_ => hat 47 rfl ?_)
    have e_ := (sm_ rfl).symm
    subst e_
    obtain ⟨a_, x44, ea_, er_, hx44⟩ := pp44
    cases ea_; subst er_
    refine h_cmp c (hd 27 47 _ _ rfl) (tgt := 72) (by decide) (fun (h47 : x44.toInt ≤ v40.toInt) => ?_) (fun (h47 : ¬ (x44.toInt ≤ v40.toInt)) => hat 50 rfl ?_)
    · skip
      exact h_vret c (hd 40 72 _ _ rfl) rfl ⟨rfl, a, rfl, hs1, hk1⟩
    · skip
      exact absurd (by omega) h47
  have K15 : ∀ (m : Nat) (w3 : Int32) (F1 : HF), hframe [(94, 0), (114, 45)] F F1 → (F1 114 44).toInt = (lenI a.toInt : Int) → (∀ k : Nat, (k : Int) < w3.toInt → (F1 94 k).toInt = ltI a.toInt k) → 0 ≤ w3.toInt → w3.toInt ≤ (lenI a.toInt : Int) → m = ((lenI a.toInt : Int) - w3.toInt).toNat → hW G X dM_l1 w0 15 [(3, .int w3), (2, .int b), (1, .int a), (0, .ref (G.2.1.1 114))] [] F1 := by
    intro m
    induction m using Nat.strongRecOn with
    | ind m ih =>
    intro w3 F1 fr1 hs1 hk1 h30 h31 hm
    refine h_iln c (hd 9 15 _ _ rfl) (by rfl) (hat 16 rfl ?_)
    refine h_iln c (hd 10 16 _ _ rfl) (by rfl) (hat 17 rfl ?_)
    refine h_callSF c (M' := dM_mlen) (dp_mlen hG) (by decide +kernel) (wlkS (lkX12_319 hG) _ rfl rfl) (hd 11 17 _ _ rfl) [.int a] (rest := [.int w3]) (by rfl) ⟨⟨_, rfl, rf_in1 (by omega) (by omega), trivial⟩, trivial⟩ (Nat.le_of_ble_eq_true rfl) trivial (fun rv17 F17 fr17 rr17 pp17 sm_ => hat 20 rfl ?_)
    have e_ := (sm_ rfl).symm
    subst e_
    obtain ⟨a_, x17, ea_, er_, hx17⟩ := pp17
    cases ea_; subst er_
    refine h_cmp c (hd 12 20 _ _ rfl) (tgt := 40) (by decide) (fun (h20 : x17.toInt ≤ w3.toInt) => ?_) (fun (h20 : ¬ (x17.toInt ≤ w3.toInt)) => hat 23 rfl ?_)
    · skip
      exact h_less (L := [(3, .int w3), (2, .int b), (1, .int a), (0, .ref (G.2.1.1 114))]) (by simp) (K40 _ _ fr1 hs1 (fun k hk => hk1 k (by omega)))
    · skip
      refine h_aln c (hd 13 23 _ _ rfl) (by rfl) (hat 24 rfl ?_)
      refine h_getR c (hd 14 24 _ _ rfl) dfgX12_84 dgnX12_84_114 (hat 27 rfl ?_)
      refine h_iln c (hd 15 27 _ _ rfl) (by rfl) (hat 28 rfl ?_)
      refine h_iln c (hd 16 28 _ _ rfl) (by rfl) (hat 29 rfl ?_)
      refine h_iln c (hd 17 29 _ _ rfl) (by rfl) (hat 30 rfl ?_)
      refine h_callSF c (M' := dM_lt) (dp_lt hG) (by decide +kernel) (wlkS (lkX12_359 hG) _ rfl rfl) (hd 18 30 _ _ rfl) [.int a, .int w3] (rest := [.int w3, .ref (G.2.1.1 94)]) (by rfl) ⟨⟨_, rfl, rf_in1 (by omega) (by omega), trivial⟩, ⟨_, rfl, rf_in1 (by omega) (by omega), trivial⟩, trivial⟩ (Nat.le_of_ble_eq_true rfl) trivial (fun rv30 F30 fr30 rr30 pp30 sm_ => hat 33 rfl ?_)
      have e_ := (sm_ rfl).symm
      subst e_
      obtain ⟨a_, n_, x30, ea_, er_, hx30⟩ := pp30
      cases ea_; subst er_
      refine h_iast c (hd 19 33 _ _ rfl) dla_94 ⟨by omega, by omega⟩ rfl (by decide) (by decide) (hin1 (rf_in_top _)) (hat 34 rfl ?_)
      refine h_inc c (fun r_ => [(3, .int r_), (2, .int b), (1, .int a), (0, .ref (G.2.1.1 114))]) (hd 20 34 _ _ rfl) (by decide) (by decide) (by rfl) (by omega) (fun _ => by rfl) (fun v34 e34 => hat 37 rfl ?_)
      refine h_goto c (hd 21 37 _ _ rfl) (tgt := 15) (by decide) ?_
      refine h_less (L := [(3, .int v34), (2, .int b), (1, .int a), (0, .ref (G.2.1.1 114))]) (by simp) (ih ((lenI a.toInt : Int) - v34.toInt).toNat (by omega) _ _ (hframe_up fr1 (by rfl) _) hs1 (fun k hk => ?_) (by omega) (by omega) rfl)
      show (if k = w3.toInt.toNat then x30 else F1 94 k).toInt = _
      by_cases e_ : k = w3.toInt.toNat
      · rw [if_pos e_, e_]; exact hx30
      · rw [if_neg e_]; exact hk1 k (by omega)
  refine h_aln c (hd 0 0 _ _ rfl) (by rfl) (hat 1 rfl ?_)
  refine h_iln c (hd 1 1 _ _ rfl) (by rfl) (hat 2 rfl ?_)
  refine h_callSF c (M' := dM_mlen) (dp_mlen hG) (by decide +kernel) (wlkS (lkX12_319 hG) _ rfl rfl) (hd 2 2 _ _ rfl) [.int a] (rest := [.ref (G.2.1.1 114)]) (by rfl) ⟨⟨_, rfl, rf_in1 (by omega) (by omega), trivial⟩, trivial⟩ (Nat.le_of_ble_eq_true rfl) trivial (fun rv2 F2 fr2 rr2 pp2 sm_ => hat 5 rfl ?_)
  have e_ := (sm_ rfl).symm
  subst e_
  obtain ⟨a_, x2, ea_, er_, hx2⟩ := pp2
  cases ea_; subst er_
  refine h_iln c (hd 3 5 _ _ rfl) (by rfl) (hat 6 rfl ?_)
  refine h_callSF c (M' := dM_mlen) (dp_mlen hG) (by decide +kernel) (wlkS (lkX12_319 hG) _ rfl rfl) (hd 4 6 _ _ rfl) [.int b] (rest := [.int x2, .ref (G.2.1.1 114)]) (by rfl) ⟨⟨_, rfl, rf_in1 (by omega) (by omega), trivial⟩, trivial⟩ (Nat.le_of_ble_eq_true rfl) trivial (fun rv6 F6 fr6 rr6 pp6 sm_ => hat 9 rfl ?_)
  have e_ := (sm_ rfl).symm
  subst e_
  obtain ⟨a_, x6, ea_, er_, hx6⟩ := pp6
  cases ea_; subst er_
  refine h_add c (hd 5 9 _ _ rfl) (by omega) (fun v9 e9 => hat 10 rfl ?_)
  refine h_putI c (hd 6 10 _ _ rfl) dfgX12_384 dgnX12_384_114 (by decide) (by decide) rfl (rf_in1 (by omega) (by omega)) (hat 13 rfl ?_)
  refine h_ic c (hd 7 13 _ _ rfl) (by decide) (fun v13 e13 => hat 14 rfl ?_)
  refine h_isn c (hd 8 14 _ _ rfl) (by decide) (L' := [(3, .int v13), (0, .ref (G.2.1.1 114)), (1, .int a), (2, .int b)]) (by rfl) (hat 15 rfl ?_)
  exact h_less (L := [(3, .int v13), (2, .int b), (1, .int a), (0, .ref (G.2.1.1 114))]) (by simp) (K15 _ _ _ (hframe_up (hframe_rf _ _) (by rfl) _) (show v9.toInt = _ by omega) (fun k hk => by omega) (by omega) (by omega) rfl)
def dM_l2 : rfM := ((⟨"NearSpellModel", "layTwo", "(II)V"⟩, prog_14_method_57_code, 4, none), (8,400), ([.inr (.inl [114]), .inl ((0,387420488,1),none), .inl ((0,0,1),none)],[]), [(95,0),(114,46)], [])
def ddDX12_layTwo : List (Nat × Instr × Nat) := [(0,.aload_n 0,1),(1,.iload_n 1,1),(2,.invokestatic 319,3),(5,.iload_n 2,1),(6,.invokestatic 319,3),(9,.iadd,1),(10,.putfield 387,3),(13,.iconst 0,1),(14,.istore_n 3,1),(15,.iload_n 3,1),(16,.iload_n 1,1),(17,.invokestatic 319,3),(20,.if_icmp .ge 20,3),(23,.aload_n 0,1),(24,.getfield 87,3),(27,.iload_n 3,1),(28,.iload_n 1,1),(29,.iload_n 3,1),(30,.invokestatic 359,3),(33,.iastore,1),(34,.iinc 3 1,3),(37,.goto (-22),3),(40,.iconst 0,1),(41,.istore_n 3,1),(42,.iload_n 3,1),(43,.iload_n 2,1),(44,.invokestatic 319,3),(47,.if_icmp .ge 25,3),(50,.aload_n 0,1),(51,.getfield 87,3),(54,.iload_n 1,1),(55,.invokestatic 319,3),(58,.iload_n 3,1),(59,.iadd,1),(60,.iload_n 2,1),(61,.iload_n 3,1),(62,.invokestatic 359,3),(65,.iastore,1),(66,.iinc 3 1,3),(69,.goto (-27),3),(72,.return_,1)]
set_option maxRecDepth 100000 in
theorem dkDX12_layTwo : rf_decs prog_14_method_57_code ddDX12_layTwo := dd_of (by decide +kernel)
set_option maxHeartbeats 4000000 in
set_option maxRecDepth 20000 in
theorem dp_l2 {G : rfG} (hG : okG G) : h_met G dM_l2 (fun _ _ => True) (fun vs _ F' rv => rv = none ∧ ∃ a : Int32, vs[1]? = some (.int a) ∧ (F' 114 45).toInt = (lenI a.toInt : Int) ∧ ∀ k : Nat, k < lenI a.toInt → (F' 95 k).toInt = ltI a.toInt k) := by
  refine h_metOf hG.1 (by decide +kernel) (by decide) hG.2.2.1 (wflT hG flokX12) (wcsT hG csokX12) ?_
  intro vs w0 X hv_ hr hp c
  match vs, hv_ with
  | [_, _, _], ⟨⟨_, hj0, rfl⟩, ⟨a, rfl, hi_a, _⟩, ⟨b, rfl, hi_b, _⟩, _⟩ =>
  cases List.mem_singleton.mp hj0
  have hd : ∀ n pc i len, ddDX12_layTwo[n]? = some (pc, i, len) → decode (mb dM_l2) pc = .ok (i, len) := fun n pc i len h => hdk dkDX12_layTwo n pc i len h
  show hW G X dM_l2 w0 0 [(0, .ref (G.2.1.1 114)), (1, .int a), (2, .int b)] [] (hv w0)
  generalize hF0 : hv w0 = F at *
  have ha : 0 ≤ a.toInt ∧ a.toInt ≤ 387420488 := ⟨hi_a.1, hi_a.2.1⟩
  have hb : b.toInt = 0 := by have h1 : 0 ≤ b.toInt := hi_b.1; have h2 : b.toInt ≤ 0 := hi_b.2.1; omega
  have hl6 := lenI_le a.toInt
  have hl0 : lenI b.toInt = 0 := lenI_0 (by omega)
  have K40 : ∀ (w3 : Int32) (F1 : HF), hframe [(95, 0), (114, 46)] F F1 → (F1 114 45).toInt = (lenI a.toInt : Int) → (∀ k : Nat, k < lenI a.toInt → (F1 95 k).toInt = ltI a.toInt k) → hW G X dM_l2 w0 40 [(3, .int w3), (2, .int b), (1, .int a), (0, .ref (G.2.1.1 114))] [] F1 := by
    intro w3 F1 fr1 hs1 hk1
    refine h_ic c (hd 22 40 _ _ rfl) (by decide) (fun v40 e40 => hat 41 rfl ?_)
    refine h_isn c (hd 23 41 _ _ rfl) (by decide) (L' := [(3, .int v40), (2, .int b), (1, .int a), (0, .ref (G.2.1.1 114))]) (by rfl) (hat 42 rfl ?_)
    refine h_iln c (hd 24 42 _ _ rfl) (by rfl) (hat 43 rfl ?_)
    refine h_iln c (hd 25 43 _ _ rfl) (by rfl) (hat 44 rfl ?_)
    refine h_callSF c (M' := dM_mlen) (dp_mlen hG) (by decide +kernel) (wlkS (lkX12_319 hG) _ rfl rfl) (hd 26 44 _ _ rfl) [.int b] (rest := [.int v40]) (by rfl) ⟨⟨_, rfl, rf_in1 (by omega) (by omega), trivial⟩, trivial⟩ (Nat.le_of_ble_eq_true rfl) trivial (fun rv44 F44 fr44 rr44 pp44 sm_ => hat 47 rfl ?_)
    have e_ := (sm_ rfl).symm
    subst e_
    obtain ⟨a_, x44, ea_, er_, hx44⟩ := pp44
    cases ea_; subst er_
    refine h_cmp c (hd 27 47 _ _ rfl) (tgt := 72) (by decide) (fun (h47 : x44.toInt ≤ v40.toInt) => ?_) (fun (h47 : ¬ (x44.toInt ≤ v40.toInt)) => hat 50 rfl ?_)
    · skip
      exact h_vret c (hd 40 72 _ _ rfl) rfl ⟨rfl, a, rfl, hs1, hk1⟩
    · skip
      exact absurd (by omega) h47
  have K15 : ∀ (m : Nat) (w3 : Int32) (F1 : HF), hframe [(95, 0), (114, 46)] F F1 → (F1 114 45).toInt = (lenI a.toInt : Int) → (∀ k : Nat, (k : Int) < w3.toInt → (F1 95 k).toInt = ltI a.toInt k) → 0 ≤ w3.toInt → w3.toInt ≤ (lenI a.toInt : Int) → m = ((lenI a.toInt : Int) - w3.toInt).toNat → hW G X dM_l2 w0 15 [(3, .int w3), (2, .int b), (1, .int a), (0, .ref (G.2.1.1 114))] [] F1 := by
    intro m
    induction m using Nat.strongRecOn with
    | ind m ih =>
    intro w3 F1 fr1 hs1 hk1 h30 h31 hm
    refine h_iln c (hd 9 15 _ _ rfl) (by rfl) (hat 16 rfl ?_)
    refine h_iln c (hd 10 16 _ _ rfl) (by rfl) (hat 17 rfl ?_)
    refine h_callSF c (M' := dM_mlen) (dp_mlen hG) (by decide +kernel) (wlkS (lkX12_319 hG) _ rfl rfl) (hd 11 17 _ _ rfl) [.int a] (rest := [.int w3]) (by rfl) ⟨⟨_, rfl, rf_in1 (by omega) (by omega), trivial⟩, trivial⟩ (Nat.le_of_ble_eq_true rfl) trivial (fun rv17 F17 fr17 rr17 pp17 sm_ => hat 20 rfl ?_)
    have e_ := (sm_ rfl).symm
    subst e_
    obtain ⟨a_, x17, ea_, er_, hx17⟩ := pp17
    cases ea_; subst er_
    refine h_cmp c (hd 12 20 _ _ rfl) (tgt := 40) (by decide) (fun (h20 : x17.toInt ≤ w3.toInt) => ?_) (fun (h20 : ¬ (x17.toInt ≤ w3.toInt)) => hat 23 rfl ?_)
    · skip
      exact h_less (L := [(3, .int w3), (2, .int b), (1, .int a), (0, .ref (G.2.1.1 114))]) (by simp) (K40 _ _ fr1 hs1 (fun k hk => hk1 k (by omega)))
    · skip
      refine h_aln c (hd 13 23 _ _ rfl) (by rfl) (hat 24 rfl ?_)
      refine h_getR c (hd 14 24 _ _ rfl) dfgX12_87 dgnX12_87_114 (hat 27 rfl ?_)
      refine h_iln c (hd 15 27 _ _ rfl) (by rfl) (hat 28 rfl ?_)
      refine h_iln c (hd 16 28 _ _ rfl) (by rfl) (hat 29 rfl ?_)
      refine h_iln c (hd 17 29 _ _ rfl) (by rfl) (hat 30 rfl ?_)
      refine h_callSF c (M' := dM_lt) (dp_lt hG) (by decide +kernel) (wlkS (lkX12_359 hG) _ rfl rfl) (hd 18 30 _ _ rfl) [.int a, .int w3] (rest := [.int w3, .ref (G.2.1.1 95)]) (by rfl) ⟨⟨_, rfl, rf_in1 (by omega) (by omega), trivial⟩, ⟨_, rfl, rf_in1 (by omega) (by omega), trivial⟩, trivial⟩ (Nat.le_of_ble_eq_true rfl) trivial (fun rv30 F30 fr30 rr30 pp30 sm_ => hat 33 rfl ?_)
      have e_ := (sm_ rfl).symm
      subst e_
      obtain ⟨a_, n_, x30, ea_, er_, hx30⟩ := pp30
      cases ea_; subst er_
      refine h_iast c (hd 19 33 _ _ rfl) dla_95 ⟨by omega, by omega⟩ rfl (by decide) (by decide) (hin1 (rf_in_top _)) (hat 34 rfl ?_)
      refine h_inc c (fun r_ => [(3, .int r_), (2, .int b), (1, .int a), (0, .ref (G.2.1.1 114))]) (hd 20 34 _ _ rfl) (by decide) (by decide) (by rfl) (by omega) (fun _ => by rfl) (fun v34 e34 => hat 37 rfl ?_)
      refine h_goto c (hd 21 37 _ _ rfl) (tgt := 15) (by decide) ?_
      refine h_less (L := [(3, .int v34), (2, .int b), (1, .int a), (0, .ref (G.2.1.1 114))]) (by simp) (ih ((lenI a.toInt : Int) - v34.toInt).toNat (by omega) _ _ (hframe_up fr1 (by rfl) _) hs1 (fun k hk => ?_) (by omega) (by omega) rfl)
      show (if k = w3.toInt.toNat then x30 else F1 95 k).toInt = _
      by_cases e_ : k = w3.toInt.toNat
      · rw [if_pos e_, e_]; exact hx30
      · rw [if_neg e_]; exact hk1 k (by omega)
  refine h_aln c (hd 0 0 _ _ rfl) (by rfl) (hat 1 rfl ?_)
  refine h_iln c (hd 1 1 _ _ rfl) (by rfl) (hat 2 rfl ?_)
  refine h_callSF c (M' := dM_mlen) (dp_mlen hG) (by decide +kernel) (wlkS (lkX12_319 hG) _ rfl rfl) (hd 2 2 _ _ rfl) [.int a] (rest := [.ref (G.2.1.1 114)]) (by rfl) ⟨⟨_, rfl, rf_in1 (by omega) (by omega), trivial⟩, trivial⟩ (Nat.le_of_ble_eq_true rfl) trivial (fun rv2 F2 fr2 rr2 pp2 sm_ => hat 5 rfl ?_)
  have e_ := (sm_ rfl).symm
  subst e_
  obtain ⟨a_, x2, ea_, er_, hx2⟩ := pp2
  cases ea_; subst er_
  refine h_iln c (hd 3 5 _ _ rfl) (by rfl) (hat 6 rfl ?_)
  refine h_callSF c (M' := dM_mlen) (dp_mlen hG) (by decide +kernel) (wlkS (lkX12_319 hG) _ rfl rfl) (hd 4 6 _ _ rfl) [.int b] (rest := [.int x2, .ref (G.2.1.1 114)]) (by rfl) ⟨⟨_, rfl, rf_in1 (by omega) (by omega), trivial⟩, trivial⟩ (Nat.le_of_ble_eq_true rfl) trivial (fun rv6 F6 fr6 rr6 pp6 sm_ => hat 9 rfl ?_)
  have e_ := (sm_ rfl).symm
  subst e_
  obtain ⟨a_, x6, ea_, er_, hx6⟩ := pp6
  cases ea_; subst er_
  refine h_add c (hd 5 9 _ _ rfl) (by omega) (fun v9 e9 => hat 10 rfl ?_)
  refine h_putI c (hd 6 10 _ _ rfl) dfgX12_387 dgnX12_387_114 (by decide) (by decide) rfl (rf_in1 (by omega) (by omega)) (hat 13 rfl ?_)
  refine h_ic c (hd 7 13 _ _ rfl) (by decide) (fun v13 e13 => hat 14 rfl ?_)
  refine h_isn c (hd 8 14 _ _ rfl) (by decide) (L' := [(3, .int v13), (0, .ref (G.2.1.1 114)), (1, .int a), (2, .int b)]) (by rfl) (hat 15 rfl ?_)
  exact h_less (L := [(3, .int v13), (2, .int b), (1, .int a), (0, .ref (G.2.1.1 114))]) (by simp) (K15 _ _ _ (hframe_up (hframe_rf _ _) (by rfl) _) (show v9.toInt = _ by omega) (fun k hk => by omega) (by omega) (by omega) rfl)
def dM_bit : rfM := ((⟨"NearSpellModel", "bit", "(II)Z"⟩, prog_14_method_36_code, 2, (some .boolean)), (2,100), ([.inl (((-2147483648),2147483647,1),none), .inl ((0,31,1),none)],[]), [], [])
def ddDX12_bit : List (Nat × Instr × Nat) := [(0,.iload_n 0,1),(1,.iload_n 1,1),(2,.ishr,1),(3,.iconst 1,1),(4,.iand,1),(5,.iconst 1,1),(6,.if_icmp .ne 7,3),(9,.iconst 1,1),(10,.goto 4,3),(13,.iconst 0,1),(14,.ireturn,1)]
set_option maxRecDepth 100000 in
theorem dkDX12_bit : rf_decs prog_14_method_36_code ddDX12_bit := dd_of (by decide +kernel)
set_option maxHeartbeats 4000000 in
set_option maxRecDepth 20000 in
theorem dp_bit {G : rfG} (hG : okG G) : h_met G dM_bit (fun _ _ => True) (fun vs _ _ rv => ∃ a k x : Int32, vs = [.int a, .int k] ∧ rv = some (.int x) ∧ ((x.toInt = 1 ∧ bt a k.toInt.toNat = true) ∨ (x.toInt = 0 ∧ bt a k.toInt.toNat = false))) := by
  refine h_metOf hG.1 (by decide +kernel) (by decide) hG.2.2.1 (wflT hG flokX12) (wcsT hG csokX12) ?_
  intro vs w0 X hv_ hr hp c
  match vs, hv_ with
  | [_, _], ⟨⟨a, rfl, hi_a, _⟩, ⟨k, rfl, hi_k, _⟩, _⟩ =>
  have hd : ∀ n pc i len, ddDX12_bit[n]? = some (pc, i, len) → decode (mb dM_bit) pc = .ok (i, len) := fun n pc i len h => hdk dkDX12_bit n pc i len h
  show hW G X dM_bit w0 0 [(0, .int a), (1, .int k)] [] (hv w0)
  generalize hF0 : hv w0 = F at *
  have hk : 0 ≤ k.toInt ∧ k.toInt ≤ 31 := ⟨hi_k.1, hi_k.2.1⟩
  refine h_iln c (hd 0 0 _ _ rfl) (by rfl) (hat 1 rfl ?_)
  refine h_iln c (hd 1 1 _ _ rfl) (by rfl) (hat 2 rfl ?_)
  refine h_shr c (hd 2 2 _ _ rfl) (hat 3 rfl ?_)
  refine h_ic c (hd 3 3 _ _ rfl) (by decide) (fun v3 e3 => hat 4 rfl ?_)
  refine h_and c (hd 4 4 _ _ rfl) (hat 5 rfl ?_)
  refine h_ic c (hd 5 5 _ _ rfl) (by decide) (fun v5 e5 => hat 6 rfl ?_)
  refine h_cmp c (hd 6 6 _ _ rfl) (tgt := 13) (by decide) (fun (h6 : ((a >>> (k &&& 31)) &&& v3).toInt ≠ v5.toInt) => ?_) (fun (h6 : ¬ (((a >>> (k &&& 31)) &&& v3).toInt ≠ v5.toInt)) => hat 9 rfl ?_)
  · skip
    refine h_ic c (hd 9 13 _ _ rfl) (by decide) (fun v13 e13 => hat 14 rfl ?_)
    have hb_ := h_bit1 (a := a) hk.1 hk.2 e3
    cases hq_ : bt a k.toInt.toNat with
    | true =>
      rw [hq_] at hb_
      simp only [if_true] at hb_
      exact h_zret c (hd 10 14 _ _ rfl) rfl (by omega) ⟨a, k, _, rfl, rfl, Or.inl ⟨by omega, hq_⟩⟩
    | false =>
      rw [hq_] at hb_
      simp only [Bool.false_eq_true, if_false] at hb_
      exact h_zret c (hd 10 14 _ _ rfl) rfl (by omega) ⟨a, k, _, rfl, rfl, Or.inr ⟨by omega, hq_⟩⟩
  · skip
    refine h_ic c (hd 7 9 _ _ rfl) (by decide) (fun v9 e9 => hat 10 rfl ?_)
    refine h_goto c (hd 8 10 _ _ rfl) (tgt := 14) (by decide) ?_
    have hb_ := h_bit1 (a := a) hk.1 hk.2 e3
    cases hq_ : bt a k.toInt.toNat with
    | true =>
      rw [hq_] at hb_
      simp only [if_true] at hb_
      exact h_zret c (hd 10 14 _ _ rfl) rfl (by omega) ⟨a, k, _, rfl, rfl, Or.inl ⟨by omega, hq_⟩⟩
    | false =>
      rw [hq_] at hb_
      simp only [Bool.false_eq_true, if_false] at hb_
      exact h_zret c (hd 10 14 _ _ rfl) rfl (by omega) ⟨a, k, _, rfl, rfl, Or.inr ⟨by omega, hq_⟩⟩
