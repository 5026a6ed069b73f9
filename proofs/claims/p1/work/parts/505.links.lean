/-! links and words that the parts ahead don't have -/
set_option maxRecDepth 20000 in
theorem wm1341 : (Jvm.Cond.methodLink "NearSpell" (324 : Nat) ({ cls := "NearSpell$Witness", name := "goOn", desc := "(I)I" } : Jvm.MethodName)) ∈ wTs := wmem (i := 1341) (by decide +kernel) (by decide +kernel)
set_option maxRecDepth 20000 in
theorem wm1344 : (Jvm.Cond.code ({ cls := "NearSpell$Witness", name := "goOn", desc := "(I)I" } : Jvm.MethodName) prog_12_method_3_code (2 : Nat) (Option.some Jvm.ClassFile.FieldType.int)) ∈ wTs := wmem (i := 1344) (by decide +kernel) (by decide +kernel)
set_option maxRecDepth 20000 in
theorem wm1342 : (Jvm.Cond.instanceMethod ({ cls := "NearSpell$Witness", name := "goOn", desc := "(I)I" } : Jvm.MethodName)) ∈ wTs := wmem (i := 1342) (by decide +kernel) (by decide +kernel)
set_option maxRecDepth 20000 in
theorem wm1343 : (Jvm.Cond.selects "NearSpell$Witness" ({ cls := "NearSpell$Witness", name := "goOn", desc := "(I)I" } : Jvm.MethodName) ({ cls := "NearSpell$Witness", name := "goOn", desc := "(I)I" } : Jvm.MethodName)) ∈ wTs := wmem (i := 1343) (by decide +kernel) (by decide +kernel)
theorem lkX11_324 {G : rfG} (h : okG G) : wlk G "NearSpell" 324 (⟨"NearSpell$Witness", "goOn", "(I)I"⟩, prog_12_method_3_code, 2, (some .int)) 1 ∧ Cond.instanceMethod ⟨"NearSpell$Witness", "goOn", "(I)I"⟩ ∈ G.2.2.1 ∧ Cond.selects "NearSpell$Witness" ⟨"NearSpell$Witness", "goOn", "(I)I"⟩ ⟨"NearSpell$Witness", "goOn", "(I)I"⟩ ∈ G.2.2.1 ∧ ((¬ 10 = 1000 ∧ ∃ T N, G.1.2.2.1[10]? = some ("NearSpell$Witness", T, N)) ∨ (10 = 1000 ∧ "NearSpell$Witness" = "java/lang/String" ∧ ∀ s, G.2.2.2 s → ∀ n, (n = 1 ∨ n = 2) → va_O "java/lang/String" (G.2.1.2.1 n) G.1.2.2.2 s s.heap)) := ⟨⟨Or.inl (wmT h (wm1341)), wmT h (wm128), wmT h (wm1344), by decide +kernel, by decide +kernel, by decide +kernel⟩, wmT h (wm1342), wmT h (wm1343), Or.inl ⟨by decide, TX10, 10, by rw [h.2.1]; rfl⟩⟩
theorem fgX10_35 : rf_flget flX10 35 = some (10,9,1) := by decide +kernel
theorem gnX10_35_68 : rf_gone wLay 10 9 68 = some (.inl ((0,100000,1),none)) := rfl
theorem fgX11_104 : rf_flget flX11 104 = some (11,14,1) := by decide +kernel
theorem gnX11_104_70 : rf_gone wLay 11 14 70 = some (.inl ((0,22,1),none)) := rfl
theorem fgX11_92 : rf_flget flX11 92 = some (11,12,0) := by decide +kernel
theorem gnX11_92_70 : rf_gone wLay 11 12 70 = some (.inr (.inl [68])) := rfl
theorem fgX12_347 : rf_flget flX12 347 = some (12,48,1) := by decide +kernel
theorem gnX12_347_114 : rf_gone wLay 12 48 114 = some (.inl ((0,64,1),none)) := rfl
theorem fgX12_483 : rf_flget flX12 483 = some (12,64,1) := by decide +kernel
theorem gnX12_483_114 : rf_gone wLay 12 64 114 = some (.inl ((0,100000,1),none)) := rfl
theorem ly_68_9 : rf_layr wLay 68 9 = some (0,100000,1) := by decide +kernel
theorem ly_114_64 : rf_layr wLay 114 64 = some (0,100000,1) := by decide +kernel
