theorem hgL_no {F : HF} (h : (F 114 8).toInt ≠ 2) : hgh F 1 = true := by
  simp only [hgh, rf_gLf, decide_eq_false h, Bool.not_false, Bool.true_or]
theorem hgL_mk {F F' : HF} {a e : Int} (e72 : ∀ k, F' 72 k = F 72 k) (e3 : F' 114 3 = F 114 3) (e6 : (F' 114 6).toInt = a) (e7 : (F' 114 7).toInt = e) (h : ∀ i : Int, a ≤ i → i < e → 97 ≤ rf_sgf (fun k => (F 72 k).toInt) (F 114 3).toInt i ∧ rf_sgf (fun k => (F 72 k).toInt) (F 114 3).toInt i ≤ 122) : hgh F' 1 = true := by
  simp only [hgh, rf_gLf, Bool.or_eq_true, List.all_eq_true, Bool.and_eq_true, decide_eq_true_eq]
  refine Or.inr (fun i hi => ?_)
  have hi := List.mem_range.mp hi
  have ef : (fun k => (F' 72 k).toInt) = fun k => (F 72 k).toInt := funext fun k => by rw [e72]
  rw [ef, e3, e6]
  rw [e6, e7] at hi
  exact h _ (by omega) (by omega)
theorem hgL_at {F : HF} (h : hgh F 1 = true) (h2 : (F 114 8).toInt = 2) : ∀ i : Int, (F 114 6).toInt ≤ i → i < (F 114 7).toInt → 97 ≤ rf_sgf (fun k => (F 72 k).toInt) (F 114 3).toInt i ∧ rf_sgf (fun k => (F 72 k).toInt) (F 114 3).toInt i ≤ 122 := by
  simp only [hgh, rf_gLf, Bool.or_eq_true, List.all_eq_true, Bool.and_eq_true, decide_eq_true_eq, Bool.not_eq_true', decide_eq_false_iff_not] at h
  rcases h with h | h
  · exact absurd h2 h
  · intro i h3 h4
    have := h (i - (F 114 6).toInt).toNat (List.mem_range.mpr (by omega))
    have e : (F 114 6).toInt + ((i - (F 114 6).toInt).toNat : Int) = i := by omega
    rw [e] at this
    exact this
theorem h_sgpos {t : Nat → Int} {s k : Int} (h : rf_sgf t s k ≠ 0) : k < s := by
  unfold rf_sgf at h
  split at h
  · assumption
  · exact absurd rfl h
theorem fgX10_35 : rf_flget flX10 35 = some (10,9,1) := by decide +kernel
theorem gnX10_35_68 : rf_gone wLay 10 9 68 = some (.inl ((0,100000,1),none)) := rfl
theorem fgX11_92 : rf_flget flX11 92 = some (11,12,0) := by decide +kernel
theorem gnX11_92_70 : rf_gone wLay 11 12 70 = some (.inr (.inl [68])) := rfl
theorem fgX12_13 : rf_flget flX12 13 = some (12,1,0) := by decide +kernel
theorem gnX12_13_114 : rf_gone wLay 12 1 114 = some (.inr (.inl [72])) := rfl
theorem fgX12_151 : rf_flget flX12 151 = some (12,3,1) := by decide +kernel
theorem gnX12_151_114 : rf_gone wLay 12 3 114 = some (.inl ((0,1600,1),none)) := rfl
theorem fgX12_185 : rf_flget flX12 185 = some (12,7,1) := by decide +kernel
theorem gnX12_185_114 : rf_gone wLay 12 7 114 = some (.inl ((0,1601,1),none)) := rfl
theorem fgX12_188 : rf_flget flX12 188 = some (12,6,1) := by decide +kernel
theorem gnX12_188_114 : rf_gone wLay 12 6 114 = some (.inl ((0,1600,1),none)) := rfl
theorem fgX12_195 : rf_flget flX12 195 = some (12,8,1) := by decide +kernel
theorem gnX12_195_114 : rf_gone wLay 12 8 114 = some (.inl ((0,5,1),none)) := rfl
theorem fgX12_20 : rf_flget flX12 20 = some (12,11,0) := by decide +kernel
theorem gnX12_20_114 : rf_gone wLay 12 11 114 = some (.inr (.inl [73])) := rfl
theorem fgX12_202 : rf_flget flX12 202 = some (12,10,2) := by decide +kernel
theorem gnX12_202_114 : rf_gone wLay 12 10 114 = some (.inr (.inr 0)) := rfl
theorem fgX12_213 : rf_flget flX12 213 = some (12,9,1) := by decide +kernel
theorem gnX12_213_114 : rf_gone wLay 12 9 114 = some (.inl (((-2147483648),2147483647,1),none)) := rfl
theorem fgX12_233 : rf_flget flX12 233 = some (12,29,1) := by decide +kernel
theorem gnX12_233_114 : rf_gone wLay 12 29 114 = some (.inl ((0,1,1),none)) := rfl
theorem fgX12_236 : rf_flget flX12 236 = some (12,30,1) := by decide +kernel
theorem gnX12_236_114 : rf_gone wLay 12 30 114 = some (.inl ((0,1120,1),none)) := rfl
theorem fgX12_24 : rf_flget flX12 24 = some (12,12,0) := by decide +kernel
theorem gnX12_24_114 : rf_gone wLay 12 12 114 = some (.inr (.inl [74])) := rfl
theorem fgX12_242 : rf_flget flX12 242 = some (12,28,1) := by decide +kernel
theorem gnX12_242_114 : rf_gone wLay 12 28 114 = some (.inl ((0,1,1),none)) := rfl
theorem fgX12_27 : rf_flget flX12 27 = some (12,13,0) := by decide +kernel
theorem gnX12_27_114 : rf_gone wLay 12 13 114 = some (.inr (.inl [75])) := rfl
theorem fgX12_279 : rf_flget flX12 279 = some (12,33,1) := by decide +kernel
theorem gnX12_279_114 : rf_gone wLay 12 33 114 = some (.inl ((0,30,1),none)) := rfl
theorem fgX12_285 : rf_flget flX12 285 = some (12,32,1) := by decide +kernel
theorem gnX12_285_114 : rf_gone wLay 12 32 114 = some (.inl ((0,90,1),none)) := rfl
theorem fgX12_288 : rf_flget flX12 288 = some (12,31,1) := by decide +kernel
theorem gnX12_288_114 : rf_gone wLay 12 31 114 = some (.inl ((0,8,1),none)) := rfl
theorem fgX12_30 : rf_flget flX12 30 = some (12,14,0) := by decide +kernel
theorem gnX12_30_114 : rf_gone wLay 12 14 114 = some (.inr (.inl [76])) := rfl
theorem fgX12_33 : rf_flget flX12 33 = some (12,15,0) := by decide +kernel
theorem gnX12_33_114 : rf_gone wLay 12 15 114 = some (.inr (.inl [77])) := rfl
theorem fgX12_36 : rf_flget flX12 36 = some (12,16,0) := by decide +kernel
theorem gnX12_36_114 : rf_gone wLay 12 16 114 = some (.inr (.inl [78])) := rfl
theorem fgX12_39 : rf_flget flX12 39 = some (12,17,0) := by decide +kernel
theorem gnX12_39_114 : rf_gone wLay 12 17 114 = some (.inr (.inl [79])) := rfl
theorem fgX12_42 : rf_flget flX12 42 = some (12,18,0) := by decide +kernel
theorem gnX12_42_114 : rf_gone wLay 12 18 114 = some (.inr (.inl [80])) := rfl
theorem fgX12_483 : rf_flget flX12 483 = some (12,64,1) := by decide +kernel
theorem gnX12_483_114 : rf_gone wLay 12 64 114 = some (.inl ((0,100000,1),none)) := rfl
theorem fgX12_51 : rf_flget flX12 51 = some (12,21,0) := by decide +kernel
theorem gnX12_51_114 : rf_gone wLay 12 21 114 = some (.inr (.inl [83])) := rfl
theorem fgX12_54 : rf_flget flX12 54 = some (12,22,0) := by decide +kernel
theorem gnX12_54_114 : rf_gone wLay 12 22 114 = some (.inr (.inl [84])) := rfl
theorem fgX12_57 : rf_flget flX12 57 = some (12,23,0) := by decide +kernel
theorem gnX12_57_114 : rf_gone wLay 12 23 114 = some (.inr (.inl [85])) := rfl
theorem fgX12_60 : rf_flget flX12 60 = some (12,24,0) := by decide +kernel
theorem gnX12_60_114 : rf_gone wLay 12 24 114 = some (.inr (.inl [86])) := rfl
theorem fgX12_63 : rf_flget flX12 63 = some (12,25,0) := by decide +kernel
theorem gnX12_63_114 : rf_gone wLay 12 25 114 = some (.inr (.inl [87])) := rfl
theorem fgX12_66 : rf_flget flX12 66 = some (12,26,0) := by decide +kernel
theorem gnX12_66_114 : rf_gone wLay 12 26 114 = some (.inr (.inl [88])) := rfl
theorem fgX12_69 : rf_flget flX12 69 = some (12,27,0) := by decide +kernel
theorem gnX12_69_114 : rf_gone wLay 12 27 114 = some (.inr (.inl [89])) := rfl
theorem ly_68_9 : rf_layr wLay 68 9 = some (0,100000,1) := by decide +kernel
theorem ly_114_3 : rf_layr wLay 114 3 = some (0,1600,1) := by decide +kernel
theorem ly_114_4 : rf_layr wLay 114 4 = some (0,4,1) := by decide +kernel
theorem ly_114_6 : rf_layr wLay 114 6 = some (0,1600,1) := by decide +kernel
theorem ly_114_7 : rf_layr wLay 114 7 = some (0,1601,1) := by decide +kernel
theorem ly_114_8 : rf_layr wLay 114 8 = some (0,5,1) := by decide +kernel
theorem ly_114_28 : rf_layr wLay 114 28 = some (0,1,1) := by decide +kernel
theorem ly_114_30 : rf_layr wLay 114 30 = some (0,1120,1) := by decide +kernel
theorem ly_114_31 : rf_layr wLay 114 31 = some (0,8,1) := by decide +kernel
theorem ly_114_32 : rf_layr wLay 114 32 = some (0,90,1) := by decide +kernel
theorem ly_114_64 : rf_layr wLay 114 64 = some (0,100000,1) := by decide +kernel
theorem la_72 : rf_arr wLay 1 72 = some (1600,[((-128),127,1)]) := by decide +kernel
theorem la_73 : rf_arr wLay 0 73 = some (2,[(0,10,1)]) := by decide +kernel
theorem la_74 : rf_arr wLay 0 74 = some (2,[(0,60,1)]) := by decide +kernel
theorem la_75 : rf_arr wLay 0 75 = some (2,[(0,6,1)]) := by decide +kernel
theorem la_76 : rf_arr wLay 0 76 = some (2,[(0,2,1)]) := by decide +kernel
theorem la_77 : rf_arr wLay 0 77 = some (2,[(1,31,1),(0,31,1)]) := by decide +kernel
theorem la_78 : rf_arr wLay 0 78 = some (2,[(0,100,1)]) := by decide +kernel
theorem la_79 : rf_arr wLay 0 79 = some (2,[(0,999,1)]) := by decide +kernel
theorem la_80 : rf_arr wLay 0 80 = some (2,[(0,63,1)]) := by decide +kernel
theorem la_83 : rf_arr wLay 0 83 = some (2,[(0,1120,1)]) := by decide +kernel
theorem la_84 : rf_arr wLay 0 84 = some (2,[(0,1120,1)]) := by decide +kernel
theorem la_85 : rf_arr wLay 0 85 = some (1120,[((-2147483648),2147483647,1)]) := by decide +kernel
theorem la_86 : rf_arr wLay 0 86 = some (1120,[((-2147483648),2147483647,1)]) := by decide +kernel
theorem la_87 : rf_arr wLay 0 87 = some (90,[(0,8,1)]) := by decide +kernel
theorem la_88 : rf_arr wLay 0 88 = some (90,[((-2147483648),2147483647,1)]) := by decide +kernel
theorem la_89 : rf_arr wLay 0 89 = some (60,[((-2147483648),2147483647,1)]) := by decide +kernel
set_option maxRecDepth 20000 in
theorem wm1341 : (Jvm.Cond.methodLink "NearSpell" (324 : Nat) ({ cls := "NearSpell$Witness", name := "goOn", desc := "(I)I" } : Jvm.MethodName)) ∈ wTs := wmem (i := 1341) (by decide +kernel) (by decide +kernel)
set_option maxRecDepth 20000 in
theorem wm1344 : (Jvm.Cond.code ({ cls := "NearSpell$Witness", name := "goOn", desc := "(I)I" } : Jvm.MethodName) prog_12_method_3_code (2 : Nat) (Option.some Jvm.ClassFile.FieldType.int)) ∈ wTs := wmem (i := 1344) (by decide +kernel) (by decide +kernel)
set_option maxRecDepth 20000 in
theorem wm1342 : (Jvm.Cond.instanceMethod ({ cls := "NearSpell$Witness", name := "goOn", desc := "(I)I" } : Jvm.MethodName)) ∈ wTs := wmem (i := 1342) (by decide +kernel) (by decide +kernel)
set_option maxRecDepth 20000 in
theorem wm1343 : (Jvm.Cond.selects "NearSpell$Witness" ({ cls := "NearSpell$Witness", name := "goOn", desc := "(I)I" } : Jvm.MethodName) ({ cls := "NearSpell$Witness", name := "goOn", desc := "(I)I" } : Jvm.MethodName)) ∈ wTs := wmem (i := 1343) (by decide +kernel) (by decide +kernel)
set_option maxRecDepth 20000 in
theorem wm1630 : (Jvm.Cond.methodLink "NearSpellModel" (198 : Nat) ({ cls := "NearSpellModel", name := "isLetter", desc := "(I)Z" } : Jvm.MethodName)) ∈ wTs := wmem (i := 1630) (by decide +kernel) (by decide +kernel)
set_option maxRecDepth 20000 in
theorem wm1632 : (Jvm.Cond.code ({ cls := "NearSpellModel", name := "isLetter", desc := "(I)Z" } : Jvm.MethodName) prog_14_method_3_code (1 : Nat) (Option.some Jvm.ClassFile.FieldType.boolean)) ∈ wTs := wmem (i := 1632) (by decide +kernel) (by decide +kernel)
set_option maxRecDepth 20000 in
theorem wm1631 : (Jvm.Cond.static ({ cls := "NearSpellModel", name := "isLetter", desc := "(I)Z" } : Jvm.MethodName)) ∈ wTs := wmem (i := 1631) (by decide +kernel) (by decide +kernel)
set_option maxRecDepth 20000 in
theorem wm1845 : (Jvm.Cond.methodLink "NearSpellModel" (328 : Nat) ({ cls := "NearSpellModel", name := "two", desc := "(III)I" } : Jvm.MethodName)) ∈ wTs := wmem (i := 1845) (by decide +kernel) (by decide +kernel)
set_option maxRecDepth 20000 in
theorem wm1847 : (Jvm.Cond.code ({ cls := "NearSpellModel", name := "two", desc := "(III)I" } : Jvm.MethodName) prog_14_method_30_code (3 : Nat) (Option.some Jvm.ClassFile.FieldType.int)) ∈ wTs := wmem (i := 1847) (by decide +kernel) (by decide +kernel)
set_option maxRecDepth 20000 in
theorem wm1846 : (Jvm.Cond.static ({ cls := "NearSpellModel", name := "two", desc := "(III)I" } : Jvm.MethodName)) ∈ wTs := wmem (i := 1846) (by decide +kernel) (by decide +kernel)
set_option maxRecDepth 20000 in
theorem wm1838 : (Jvm.Cond.methodLink "NearSpellModel" (325 : Nat) ({ cls := "NearSpellModel", name := "asked", desc := "(II)I" } : Jvm.MethodName)) ∈ wTs := wmem (i := 1838) (by decide +kernel) (by decide +kernel)
set_option maxRecDepth 20000 in
theorem wm1841 : (Jvm.Cond.code ({ cls := "NearSpellModel", name := "asked", desc := "(II)I" } : Jvm.MethodName) prog_14_method_31_code (3 : Nat) (Option.some Jvm.ClassFile.FieldType.int)) ∈ wTs := wmem (i := 1841) (by decide +kernel) (by decide +kernel)
set_option maxRecDepth 20000 in
theorem wm1840 : (Jvm.Cond.instanceMethod ({ cls := "NearSpellModel", name := "asked", desc := "(II)I" } : Jvm.MethodName)) ∈ wTs := wmem (i := 1840) (by decide +kernel) (by decide +kernel)
set_option maxRecDepth 20000 in
theorem wm88 : (Cond.selects "NearSpellModel" ⟨"NearSpellModel", "asked", "(II)I"⟩ ⟨"NearSpellModel", "asked", "(II)I"⟩) ∈ wTs := wmem (i := 88) (by decide +kernel) (by decide +kernel)
set_option maxRecDepth 20000 in
theorem wm1633 : (Jvm.Cond.methodLink "NearSpellModel" (206 : Nat) ({ cls := "NearSpellModel", name := "isKept", desc := "(J)Z" } : Jvm.MethodName)) ∈ wTs := wmem (i := 1633) (by decide +kernel) (by decide +kernel)
set_option maxRecDepth 20000 in
theorem wm1635 : (Jvm.Cond.code ({ cls := "NearSpellModel", name := "isKept", desc := "(J)Z" } : Jvm.MethodName) prog_14_method_7_code (3 : Nat) (Option.some Jvm.ClassFile.FieldType.boolean)) ∈ wTs := wmem (i := 1635) (by decide +kernel) (by decide +kernel)
set_option maxRecDepth 20000 in
theorem wm1634 : (Jvm.Cond.static ({ cls := "NearSpellModel", name := "isKept", desc := "(J)Z" } : Jvm.MethodName)) ∈ wTs := wmem (i := 1634) (by decide +kernel) (by decide +kernel)
set_option maxRecDepth 20000 in
theorem wm1650 : (Jvm.Cond.methodLink "NearSpellModel" (210 : Nat) ({ cls := "NearSpellModel", name := "isDigit", desc := "(I)Z" } : Jvm.MethodName)) ∈ wTs := wmem (i := 1650) (by decide +kernel) (by decide +kernel)
set_option maxRecDepth 20000 in
theorem wm1652 : (Jvm.Cond.code ({ cls := "NearSpellModel", name := "isDigit", desc := "(I)Z" } : Jvm.MethodName) prog_14_method_4_code (1 : Nat) (Option.some Jvm.ClassFile.FieldType.boolean)) ∈ wTs := wmem (i := 1652) (by decide +kernel) (by decide +kernel)
set_option maxRecDepth 20000 in
theorem wm1651 : (Jvm.Cond.static ({ cls := "NearSpellModel", name := "isDigit", desc := "(I)Z" } : Jvm.MethodName)) ∈ wTs := wmem (i := 1651) (by decide +kernel) (by decide +kernel)
set_option maxRecDepth 20000 in
theorem wm1653 : (Jvm.Cond.methodLink "NearSpellModel" (216 : Nat) ({ cls := "NearSpellModel", name := "isSign", desc := "(I)Z" } : Jvm.MethodName)) ∈ wTs := wmem (i := 1653) (by decide +kernel) (by decide +kernel)
set_option maxRecDepth 20000 in
theorem wm1655 : (Jvm.Cond.code ({ cls := "NearSpellModel", name := "isSign", desc := "(I)Z" } : Jvm.MethodName) prog_14_method_8_code (1 : Nat) (Option.some Jvm.ClassFile.FieldType.boolean)) ∈ wTs := wmem (i := 1655) (by decide +kernel) (by decide +kernel)
set_option maxRecDepth 20000 in
theorem wm1654 : (Jvm.Cond.static ({ cls := "NearSpellModel", name := "isSign", desc := "(I)Z" } : Jvm.MethodName)) ∈ wTs := wmem (i := 1654) (by decide +kernel) (by decide +kernel)
set_option maxRecDepth 20000 in
theorem wm1707 : (Jvm.Cond.methodLink "NearSpellModel" (291 : Nat) ({ cls := "NearSpellModel", name := "pushE", desc := "(II)V" } : Jvm.MethodName)) ∈ wTs := wmem (i := 1707) (by decide +kernel) (by decide +kernel)
set_option maxRecDepth 20000 in
theorem wm1710 : (Jvm.Cond.code ({ cls := "NearSpellModel", name := "pushE", desc := "(II)V" } : Jvm.MethodName) prog_14_method_23_code (3 : Nat) (Option.none : Option Jvm.ClassFile.FieldType)) ∈ wTs := wmem (i := 1710) (by decide +kernel) (by decide +kernel)
set_option maxRecDepth 20000 in
theorem wm1709 : (Jvm.Cond.instanceMethod ({ cls := "NearSpellModel", name := "pushE", desc := "(II)V" } : Jvm.MethodName)) ∈ wTs := wmem (i := 1709) (by decide +kernel) (by decide +kernel)
set_option maxRecDepth 20000 in
theorem wm67 : (Cond.selects "NearSpellModel" ⟨"NearSpellModel", "pushE", "(II)V"⟩ ⟨"NearSpellModel", "pushE", "(II)V"⟩) ∈ wTs := wmem (i := 67) (by decide +kernel) (by decide +kernel)
set_option maxRecDepth 20000 in
theorem wm1723 : (Jvm.Cond.methodLink "NearSpellModel" (304 : Nat) ({ cls := "NearSpellModel", name := "emit", desc := "(II)V" } : Jvm.MethodName)) ∈ wTs := wmem (i := 1723) (by decide +kernel) (by decide +kernel)
set_option maxRecDepth 20000 in
theorem wm1726 : (Jvm.Cond.code ({ cls := "NearSpellModel", name := "emit", desc := "(II)V" } : Jvm.MethodName) prog_14_method_22_code (3 : Nat) (Option.none : Option Jvm.ClassFile.FieldType)) ∈ wTs := wmem (i := 1726) (by decide +kernel) (by decide +kernel)
set_option maxRecDepth 20000 in
theorem wm1725 : (Jvm.Cond.instanceMethod ({ cls := "NearSpellModel", name := "emit", desc := "(II)V" } : Jvm.MethodName)) ∈ wTs := wmem (i := 1725) (by decide +kernel) (by decide +kernel)
set_option maxRecDepth 20000 in
theorem wm71 : (Cond.selects "NearSpellModel" ⟨"NearSpellModel", "emit", "(II)V"⟩ ⟨"NearSpellModel", "emit", "(II)V"⟩) ∈ wTs := wmem (i := 71) (by decide +kernel) (by decide +kernel)
set_option maxRecDepth 20000 in
theorem wm1719 : (Jvm.Cond.methodLink "NearSpellModel" (300 : Nat) ({ cls := "NearSpellModel", name := "wordHere", desc := "()I" } : Jvm.MethodName)) ∈ wTs := wmem (i := 1719) (by decide +kernel) (by decide +kernel)
set_option maxRecDepth 20000 in
theorem wm1722 : (Jvm.Cond.code ({ cls := "NearSpellModel", name := "wordHere", desc := "()I" } : Jvm.MethodName) prog_14_method_25_code (1 : Nat) (Option.some Jvm.ClassFile.FieldType.int)) ∈ wTs := wmem (i := 1722) (by decide +kernel) (by decide +kernel)
set_option maxRecDepth 20000 in
theorem wm1721 : (Jvm.Cond.instanceMethod ({ cls := "NearSpellModel", name := "wordHere", desc := "()I" } : Jvm.MethodName)) ∈ wTs := wmem (i := 1721) (by decide +kernel) (by decide +kernel)
set_option maxRecDepth 20000 in
theorem wm70 : (Cond.selects "NearSpellModel" ⟨"NearSpellModel", "wordHere", "()I"⟩ ⟨"NearSpellModel", "wordHere", "()I"⟩) ∈ wTs := wmem (i := 70) (by decide +kernel) (by decide +kernel)
set_option maxRecDepth 20000 in
theorem wm1731 : (Jvm.Cond.methodLink "NearSpellModel" (307 : Nat) ({ cls := "NearSpellModel", name := "rankHere", desc := "()I" } : Jvm.MethodName)) ∈ wTs := wmem (i := 1731) (by decide +kernel) (by decide +kernel)
set_option maxRecDepth 20000 in
theorem wm1734 : (Jvm.Cond.code ({ cls := "NearSpellModel", name := "rankHere", desc := "()I" } : Jvm.MethodName) prog_14_method_27_code (1 : Nat) (Option.some Jvm.ClassFile.FieldType.int)) ∈ wTs := wmem (i := 1734) (by decide +kernel) (by decide +kernel)
set_option maxRecDepth 20000 in
theorem wm1733 : (Jvm.Cond.instanceMethod ({ cls := "NearSpellModel", name := "rankHere", desc := "()I" } : Jvm.MethodName)) ∈ wTs := wmem (i := 1733) (by decide +kernel) (by decide +kernel)
set_option maxRecDepth 20000 in
theorem wm73 : (Cond.selects "NearSpellModel" ⟨"NearSpellModel", "rankHere", "()I"⟩ ⟨"NearSpellModel", "rankHere", "()I"⟩) ∈ wTs := wmem (i := 73) (by decide +kernel) (by decide +kernel)
set_option maxRecDepth 20000 in
theorem wm1735 : (Jvm.Cond.methodLink "NearSpellModel" (310 : Nat) ({ cls := "NearSpellModel", name := "isCompared", desc := "()Z" } : Jvm.MethodName)) ∈ wTs := wmem (i := 1735) (by decide +kernel) (by decide +kernel)
set_option maxRecDepth 20000 in
theorem wm1738 : (Jvm.Cond.code ({ cls := "NearSpellModel", name := "isCompared", desc := "()Z" } : Jvm.MethodName) prog_14_method_28_code (2 : Nat) (Option.some Jvm.ClassFile.FieldType.boolean)) ∈ wTs := wmem (i := 1738) (by decide +kernel) (by decide +kernel)
set_option maxRecDepth 20000 in
theorem wm1737 : (Jvm.Cond.instanceMethod ({ cls := "NearSpellModel", name := "isCompared", desc := "()Z" } : Jvm.MethodName)) ∈ wTs := wmem (i := 1737) (by decide +kernel) (by decide +kernel)
set_option maxRecDepth 20000 in
theorem wm74 : (Cond.selects "NearSpellModel" ⟨"NearSpellModel", "isCompared", "()Z"⟩ ⟨"NearSpellModel", "isCompared", "()Z"⟩) ∈ wTs := wmem (i := 74) (by decide +kernel) (by decide +kernel)
set_option maxRecDepth 20000 in
theorem wm1727 : (Jvm.Cond.methodLink "NearSpellModel" (297 : Nat) ({ cls := "NearSpellModel", name := "behindUnit", desc := "()Z" } : Jvm.MethodName)) ∈ wTs := wmem (i := 1727) (by decide +kernel) (by decide +kernel)
set_option maxRecDepth 20000 in
theorem wm1730 : (Jvm.Cond.code ({ cls := "NearSpellModel", name := "behindUnit", desc := "()Z" } : Jvm.MethodName) prog_14_method_29_code (2 : Nat) (Option.some Jvm.ClassFile.FieldType.boolean)) ∈ wTs := wmem (i := 1730) (by decide +kernel) (by decide +kernel)
set_option maxRecDepth 20000 in
theorem wm1729 : (Jvm.Cond.instanceMethod ({ cls := "NearSpellModel", name := "behindUnit", desc := "()Z" } : Jvm.MethodName)) ∈ wTs := wmem (i := 1729) (by decide +kernel) (by decide +kernel)
set_option maxRecDepth 20000 in
theorem wm72 : (Cond.selects "NearSpellModel" ⟨"NearSpellModel", "behindUnit", "()Z"⟩ ⟨"NearSpellModel", "behindUnit", "()Z"⟩) ∈ wTs := wmem (i := 72) (by decide +kernel) (by decide +kernel)
set_option maxRecDepth 20000 in
theorem wm1711 : (Jvm.Cond.methodLink "NearSpellModel" (294 : Nat) ({ cls := "NearSpellModel", name := "unit", desc := "()Z" } : Jvm.MethodName)) ∈ wTs := wmem (i := 1711) (by decide +kernel) (by decide +kernel)
set_option maxRecDepth 20000 in
theorem wm1714 : (Jvm.Cond.code ({ cls := "NearSpellModel", name := "unit", desc := "()Z" } : Jvm.MethodName) prog_14_method_26_code (7 : Nat) (Option.some Jvm.ClassFile.FieldType.boolean)) ∈ wTs := wmem (i := 1714) (by decide +kernel) (by decide +kernel)
set_option maxRecDepth 20000 in
theorem wm1713 : (Jvm.Cond.instanceMethod ({ cls := "NearSpellModel", name := "unit", desc := "()Z" } : Jvm.MethodName)) ∈ wTs := wmem (i := 1713) (by decide +kernel) (by decide +kernel)
set_option maxRecDepth 20000 in
theorem wm68 : (Cond.selects "NearSpellModel" ⟨"NearSpellModel", "unit", "()Z"⟩ ⟨"NearSpellModel", "unit", "()Z"⟩) ∈ wTs := wmem (i := 68) (by decide +kernel) (by decide +kernel)
theorem lkX11_324 {G : rfG} (h : okG G) : wlk G "NearSpell" 324 (⟨"NearSpell$Witness", "goOn", "(I)I"⟩, prog_12_method_3_code, 2, (some .int)) 1 ∧ Cond.instanceMethod ⟨"NearSpell$Witness", "goOn", "(I)I"⟩ ∈ G.2.2.1 ∧ Cond.selects "NearSpell$Witness" ⟨"NearSpell$Witness", "goOn", "(I)I"⟩ ⟨"NearSpell$Witness", "goOn", "(I)I"⟩ ∈ G.2.2.1 ∧ ((¬ 10 = 1000 ∧ ∃ T N, G.1.2.2.1[10]? = some ("NearSpell$Witness", T, N)) ∨ (10 = 1000 ∧ "NearSpell$Witness" = "java/lang/String" ∧ ∀ s, G.2.2.2 s → ∀ n, (n = 1 ∨ n = 2) → va_O "java/lang/String" (G.2.1.2.1 n) G.1.2.2.2 s s.heap)) := ⟨⟨Or.inl (wmT h (wm1341)), wmT h (wm128), wmT h (wm1344), by decide +kernel, by decide +kernel, by decide +kernel⟩, wmT h (wm1342), wmT h (wm1343), Or.inl ⟨by decide, TX10, 10, by rw [h.2.1]; rfl⟩⟩
theorem lkX12_198 {G : rfG} (h : okG G) : wlk G "NearSpellModel" 198 (⟨"NearSpellModel", "isLetter", "(I)Z"⟩, prog_14_method_3_code, 1, (some .boolean)) 1 ∧ Cond.static ⟨"NearSpellModel", "isLetter", "(I)Z"⟩ ∈ G.2.2.1 := ⟨⟨Or.inl (wmT h (wm1630)), wmT h (wm129), wmT h (wm1632), by decide +kernel, by decide +kernel, by decide +kernel⟩, wmT h (wm1631)⟩
theorem lkX12_328 {G : rfG} (h : okG G) : wlk G "NearSpellModel" 328 (⟨"NearSpellModel", "two", "(III)I"⟩, prog_14_method_30_code, 3, (some .int)) 3 ∧ Cond.static ⟨"NearSpellModel", "two", "(III)I"⟩ ∈ G.2.2.1 := ⟨⟨Or.inl (wmT h (wm1845)), wmT h (wm129), wmT h (wm1847), by decide +kernel, by decide +kernel, by decide +kernel⟩, wmT h (wm1846)⟩
theorem lkX12_325 {G : rfG} (h : okG G) : wlk G "NearSpellModel" 325 (⟨"NearSpellModel", "asked", "(II)I"⟩, prog_14_method_31_code, 3, (some .int)) 2 ∧ Cond.instanceMethod ⟨"NearSpellModel", "asked", "(II)I"⟩ ∈ G.2.2.1 ∧ Cond.selects "NearSpellModel" ⟨"NearSpellModel", "asked", "(II)I"⟩ ⟨"NearSpellModel", "asked", "(II)I"⟩ ∈ G.2.2.1 ∧ ((¬ 12 = 1000 ∧ ∃ T N, G.1.2.2.1[12]? = some ("NearSpellModel", T, N)) ∨ (12 = 1000 ∧ "NearSpellModel" = "java/lang/String" ∧ ∀ s, G.2.2.2 s → ∀ n, (n = 1 ∨ n = 2) → va_O "java/lang/String" (G.2.1.2.1 n) G.1.2.2.2 s s.heap)) := ⟨⟨Or.inl (wmT h (wm1838)), wmT h (wm129), wmT h (wm1841), by decide +kernel, by decide +kernel, by decide +kernel⟩, wmT h (wm1840), wmT h (wm88), Or.inl ⟨by decide, TX12, 67, by rw [h.2.1]; rfl⟩⟩
theorem lkX12_206 {G : rfG} (h : okG G) : wlk G "NearSpellModel" 206 (⟨"NearSpellModel", "isKept", "(J)Z"⟩, prog_14_method_7_code, 3, (some .boolean)) 1 ∧ Cond.static ⟨"NearSpellModel", "isKept", "(J)Z"⟩ ∈ G.2.2.1 := ⟨⟨Or.inl (wmT h (wm1633)), wmT h (wm129), wmT h (wm1635), by decide +kernel, by decide +kernel, by decide +kernel⟩, wmT h (wm1634)⟩
theorem lkX12_210 {G : rfG} (h : okG G) : wlk G "NearSpellModel" 210 (⟨"NearSpellModel", "isDigit", "(I)Z"⟩, prog_14_method_4_code, 1, (some .boolean)) 1 ∧ Cond.static ⟨"NearSpellModel", "isDigit", "(I)Z"⟩ ∈ G.2.2.1 := ⟨⟨Or.inl (wmT h (wm1650)), wmT h (wm129), wmT h (wm1652), by decide +kernel, by decide +kernel, by decide +kernel⟩, wmT h (wm1651)⟩
theorem lkX12_216 {G : rfG} (h : okG G) : wlk G "NearSpellModel" 216 (⟨"NearSpellModel", "isSign", "(I)Z"⟩, prog_14_method_8_code, 1, (some .boolean)) 1 ∧ Cond.static ⟨"NearSpellModel", "isSign", "(I)Z"⟩ ∈ G.2.2.1 := ⟨⟨Or.inl (wmT h (wm1653)), wmT h (wm129), wmT h (wm1655), by decide +kernel, by decide +kernel, by decide +kernel⟩, wmT h (wm1654)⟩
theorem lkX12_291 {G : rfG} (h : okG G) : wlk G "NearSpellModel" 291 (⟨"NearSpellModel", "pushE", "(II)V"⟩, prog_14_method_23_code, 3, none) 2 ∧ Cond.instanceMethod ⟨"NearSpellModel", "pushE", "(II)V"⟩ ∈ G.2.2.1 ∧ Cond.selects "NearSpellModel" ⟨"NearSpellModel", "pushE", "(II)V"⟩ ⟨"NearSpellModel", "pushE", "(II)V"⟩ ∈ G.2.2.1 ∧ ((¬ 12 = 1000 ∧ ∃ T N, G.1.2.2.1[12]? = some ("NearSpellModel", T, N)) ∨ (12 = 1000 ∧ "NearSpellModel" = "java/lang/String" ∧ ∀ s, G.2.2.2 s → ∀ n, (n = 1 ∨ n = 2) → va_O "java/lang/String" (G.2.1.2.1 n) G.1.2.2.2 s s.heap)) := ⟨⟨Or.inl (wmT h (wm1707)), wmT h (wm129), wmT h (wm1710), by decide +kernel, by decide +kernel, by decide +kernel⟩, wmT h (wm1709), wmT h (wm67), Or.inl ⟨by decide, TX12, 67, by rw [h.2.1]; rfl⟩⟩
theorem lkX12_304 {G : rfG} (h : okG G) : wlk G "NearSpellModel" 304 (⟨"NearSpellModel", "emit", "(II)V"⟩, prog_14_method_22_code, 3, none) 2 ∧ Cond.instanceMethod ⟨"NearSpellModel", "emit", "(II)V"⟩ ∈ G.2.2.1 ∧ Cond.selects "NearSpellModel" ⟨"NearSpellModel", "emit", "(II)V"⟩ ⟨"NearSpellModel", "emit", "(II)V"⟩ ∈ G.2.2.1 ∧ ((¬ 12 = 1000 ∧ ∃ T N, G.1.2.2.1[12]? = some ("NearSpellModel", T, N)) ∨ (12 = 1000 ∧ "NearSpellModel" = "java/lang/String" ∧ ∀ s, G.2.2.2 s → ∀ n, (n = 1 ∨ n = 2) → va_O "java/lang/String" (G.2.1.2.1 n) G.1.2.2.2 s s.heap)) := ⟨⟨Or.inl (wmT h (wm1723)), wmT h (wm129), wmT h (wm1726), by decide +kernel, by decide +kernel, by decide +kernel⟩, wmT h (wm1725), wmT h (wm71), Or.inl ⟨by decide, TX12, 67, by rw [h.2.1]; rfl⟩⟩
theorem lkX12_300 {G : rfG} (h : okG G) : wlk G "NearSpellModel" 300 (⟨"NearSpellModel", "wordHere", "()I"⟩, prog_14_method_25_code, 1, (some .int)) 0 ∧ Cond.instanceMethod ⟨"NearSpellModel", "wordHere", "()I"⟩ ∈ G.2.2.1 ∧ Cond.selects "NearSpellModel" ⟨"NearSpellModel", "wordHere", "()I"⟩ ⟨"NearSpellModel", "wordHere", "()I"⟩ ∈ G.2.2.1 ∧ ((¬ 12 = 1000 ∧ ∃ T N, G.1.2.2.1[12]? = some ("NearSpellModel", T, N)) ∨ (12 = 1000 ∧ "NearSpellModel" = "java/lang/String" ∧ ∀ s, G.2.2.2 s → ∀ n, (n = 1 ∨ n = 2) → va_O "java/lang/String" (G.2.1.2.1 n) G.1.2.2.2 s s.heap)) := ⟨⟨Or.inl (wmT h (wm1719)), wmT h (wm129), wmT h (wm1722), by decide +kernel, by decide +kernel, by decide +kernel⟩, wmT h (wm1721), wmT h (wm70), Or.inl ⟨by decide, TX12, 67, by rw [h.2.1]; rfl⟩⟩
theorem lkX12_307 {G : rfG} (h : okG G) : wlk G "NearSpellModel" 307 (⟨"NearSpellModel", "rankHere", "()I"⟩, prog_14_method_27_code, 1, (some .int)) 0 ∧ Cond.instanceMethod ⟨"NearSpellModel", "rankHere", "()I"⟩ ∈ G.2.2.1 ∧ Cond.selects "NearSpellModel" ⟨"NearSpellModel", "rankHere", "()I"⟩ ⟨"NearSpellModel", "rankHere", "()I"⟩ ∈ G.2.2.1 ∧ ((¬ 12 = 1000 ∧ ∃ T N, G.1.2.2.1[12]? = some ("NearSpellModel", T, N)) ∨ (12 = 1000 ∧ "NearSpellModel" = "java/lang/String" ∧ ∀ s, G.2.2.2 s → ∀ n, (n = 1 ∨ n = 2) → va_O "java/lang/String" (G.2.1.2.1 n) G.1.2.2.2 s s.heap)) := ⟨⟨Or.inl (wmT h (wm1731)), wmT h (wm129), wmT h (wm1734), by decide +kernel, by decide +kernel, by decide +kernel⟩, wmT h (wm1733), wmT h (wm73), Or.inl ⟨by decide, TX12, 67, by rw [h.2.1]; rfl⟩⟩
theorem lkX12_310 {G : rfG} (h : okG G) : wlk G "NearSpellModel" 310 (⟨"NearSpellModel", "isCompared", "()Z"⟩, prog_14_method_28_code, 2, (some .boolean)) 0 ∧ Cond.instanceMethod ⟨"NearSpellModel", "isCompared", "()Z"⟩ ∈ G.2.2.1 ∧ Cond.selects "NearSpellModel" ⟨"NearSpellModel", "isCompared", "()Z"⟩ ⟨"NearSpellModel", "isCompared", "()Z"⟩ ∈ G.2.2.1 ∧ ((¬ 12 = 1000 ∧ ∃ T N, G.1.2.2.1[12]? = some ("NearSpellModel", T, N)) ∨ (12 = 1000 ∧ "NearSpellModel" = "java/lang/String" ∧ ∀ s, G.2.2.2 s → ∀ n, (n = 1 ∨ n = 2) → va_O "java/lang/String" (G.2.1.2.1 n) G.1.2.2.2 s s.heap)) := ⟨⟨Or.inl (wmT h (wm1735)), wmT h (wm129), wmT h (wm1738), by decide +kernel, by decide +kernel, by decide +kernel⟩, wmT h (wm1737), wmT h (wm74), Or.inl ⟨by decide, TX12, 67, by rw [h.2.1]; rfl⟩⟩
theorem lkX12_297 {G : rfG} (h : okG G) : wlk G "NearSpellModel" 297 (⟨"NearSpellModel", "behindUnit", "()Z"⟩, prog_14_method_29_code, 2, (some .boolean)) 0 ∧ Cond.instanceMethod ⟨"NearSpellModel", "behindUnit", "()Z"⟩ ∈ G.2.2.1 ∧ Cond.selects "NearSpellModel" ⟨"NearSpellModel", "behindUnit", "()Z"⟩ ⟨"NearSpellModel", "behindUnit", "()Z"⟩ ∈ G.2.2.1 ∧ ((¬ 12 = 1000 ∧ ∃ T N, G.1.2.2.1[12]? = some ("NearSpellModel", T, N)) ∨ (12 = 1000 ∧ "NearSpellModel" = "java/lang/String" ∧ ∀ s, G.2.2.2 s → ∀ n, (n = 1 ∨ n = 2) → va_O "java/lang/String" (G.2.1.2.1 n) G.1.2.2.2 s s.heap)) := ⟨⟨Or.inl (wmT h (wm1727)), wmT h (wm129), wmT h (wm1730), by decide +kernel, by decide +kernel, by decide +kernel⟩, wmT h (wm1729), wmT h (wm72), Or.inl ⟨by decide, TX12, 67, by rw [h.2.1]; rfl⟩⟩
theorem lkX12_294 {G : rfG} (h : okG G) : wlk G "NearSpellModel" 294 (⟨"NearSpellModel", "unit", "()Z"⟩, prog_14_method_26_code, 7, (some .boolean)) 0 ∧ Cond.instanceMethod ⟨"NearSpellModel", "unit", "()Z"⟩ ∈ G.2.2.1 ∧ Cond.selects "NearSpellModel" ⟨"NearSpellModel", "unit", "()Z"⟩ ⟨"NearSpellModel", "unit", "()Z"⟩ ∈ G.2.2.1 ∧ ((¬ 12 = 1000 ∧ ∃ T N, G.1.2.2.1[12]? = some ("NearSpellModel", T, N)) ∨ (12 = 1000 ∧ "NearSpellModel" = "java/lang/String" ∧ ∀ s, G.2.2.2 s → ∀ n, (n = 1 ∨ n = 2) → va_O "java/lang/String" (G.2.1.2.1 n) G.1.2.2.2 s s.heap)) := ⟨⟨Or.inl (wmT h (wm1711)), wmT h (wm129), wmT h (wm1714), by decide +kernel, by decide +kernel, by decide +kernel⟩, wmT h (wm1713), wmT h (wm68), Or.inl ⟨by decide, TX12, 67, by rw [h.2.1]; rfl⟩⟩
/-! HAND PROOFS: small ones -/
def hM_isIn : rfM := ((⟨"NearSpellModel", "isIn", "(III)Z"⟩, prog_14_method_35_code, 3, (some .boolean)), (2,100), ([.inl (((-2147483648),2147483647,1),none), .inl (((-2147483648),2147483647,1),none), .inl (((-2147483648),2147483647,1),none)],[]), [], [])
set_option maxHeartbeats 4000000 in
set_option maxRecDepth 20000 in
theorem hp_isIn {G : rfG} (hG : okG G) : h_met G hM_isIn (fun _ _ => True) (fun vs _ _ rv => ∃ a b d x : Int32, vs = [.int a, .int b, .int d] ∧ rv = some (.int x) ∧ ((x.toInt = 1 ∧ b.toInt ≤ a.toInt ∧ a.toInt ≤ d.toInt) ∨ (x.toInt = 0 ∧ ¬ (b.toInt ≤ a.toInt ∧ a.toInt ≤ d.toInt)))) := by
  refine h_metOf hG.1 (by decide +kernel) (by decide) hG.2.2.1 (wflT hG flokX12) (wcsT hG csokX12) ?_
  intro vs w0 X hv_ hr hp c
  match vs, hv_ with
  | [_, _, _], ⟨⟨a, rfl, hi_a, _⟩, ⟨b, rfl, hi_b, _⟩, ⟨d, rfl, hi_d, _⟩, _⟩ =>
  have hd : ∀ n pc i len, ddX12_isIn[n]? = some (pc, i, len) → decode (mb hM_isIn) pc = .ok (i, len) := fun n pc i len h => hdk dkX12_isIn n pc i len h
  show hW G X hM_isIn w0 0 [(0, .int a), (1, .int b), (2, .int d)] [] (hv w0)
  generalize hF0 : hv w0 = F at *
  refine h_iln c (hd 0 0 _ _ rfl) (by rfl) (hat 1 rfl ?_)
  refine h_iln c (hd 1 1 _ _ rfl) (by rfl) (hat 2 rfl ?_)
  refine h_cmp c (hd 2 2 _ _ rfl) (tgt := 14) (by decide) (fun (h2 : a.toInt < b.toInt) => ?_) (fun (h2 : ¬ (a.toInt < b.toInt)) => hat 5 rfl ?_)
  · skip
    refine h_ic c (hd 8 14 _ _ rfl) (by decide) (fun v14 e14 => hat 15 rfl ?_)
    exact h_zret c (hd 9 15 _ _ rfl) rfl (by omega) ⟨a, b, d, _, rfl, rfl, by omega⟩
  · skip
    refine h_iln c (hd 3 5 _ _ rfl) (by rfl) (hat 6 rfl ?_)
    refine h_iln c (hd 4 6 _ _ rfl) (by rfl) (hat 7 rfl ?_)
    refine h_cmp c (hd 5 7 _ _ rfl) (tgt := 14) (by decide) (fun (h7 : d.toInt < a.toInt) => ?_) (fun (h7 : ¬ (d.toInt < a.toInt)) => hat 10 rfl ?_)
    · skip
      refine h_ic c (hd 8 14 _ _ rfl) (by decide) (fun v14 e14 => hat 15 rfl ?_)
      exact h_zret c (hd 9 15 _ _ rfl) rfl (by omega) ⟨a, b, d, _, rfl, rfl, by omega⟩
    · skip
      refine h_ic c (hd 6 10 _ _ rfl) (by decide) (fun v10 e10 => hat 11 rfl ?_)
      refine h_goto c (hd 7 11 _ _ rfl) (tgt := 15) (by decide) ?_
      exact h_zret c (hd 9 15 _ _ rfl) rfl (by omega) ⟨a, b, d, _, rfl, rfl, by omega⟩
/-- later: its answer, the time afterwards -/
def latOk (t b : Int) : Bool := decide (0 ≤ b) && decide (b ≤ 1000) && decide (t + b ≤ 100000)
def latA (t b : Int) : Int := if latOk t b then t + b else -1
def latT (t b : Int) : Int := if latOk t b then t + b else t
theorem lat_no {t b : Int} (h : ¬ (0 ≤ b ∧ b ≤ 1000 ∧ t + b ≤ 100000)) : latA t b = -1 ∧ latT t b = t := by
  have : latOk t b = false := by
    cases hq : latOk t b with
    | false => rfl
    | true => simp only [latOk, Bool.and_eq_true, decide_eq_true_eq] at hq; omega
  simp [latA, latT, this]
theorem lat_yes {t b : Int} (h : 0 ≤ b ∧ b ≤ 1000 ∧ t + b ≤ 100000) : latA t b = t + b ∧ latT t b = t + b := by
  have : latOk t b = true := by simp only [latOk, Bool.and_eq_true, decide_eq_true_eq]; omega
  simp [latA, latT, this]
def ddX12_later : List (Nat × Instr × Nat) := [(0,.iload_n 1,1),(1,.iconst 0,1),(2,.sipush 1000,3),(5,.invokestatic 334,3),(8,.ifCond .eq 15,3),(11,.aload_n 0,1),(12,.getfield 483,3),(15,.iload_n 1,1),(16,.iadd,1),(17,.ldc_w 486,3),(20,.if_icmp .le 5,3),(23,.iconst (-1),1),(24,.ireturn,1),(25,.aload_n 0,1),(26,.dup,1),(27,.getfield 483,3),(30,.iload_n 1,1),(31,.iadd,1),(32,.putfield 483,3),(35,.aload_n 0,1),(36,.getfield 483,3),(39,.ireturn,1)]
set_option maxRecDepth 100000 in
theorem dkX12_later : rf_decs prog_14_method_119_code ddX12_later := rf_decs_of (by decide +kernel)
def hM_later : rfM := ((⟨"NearSpellModel", "later", "(I)I"⟩, prog_14_method_119_code, 2, (some .int)), (10,1000), ([.inr (.inl [114]), .inl (((-2147483648),2147483647,1),none)],[]), [(114,65)], [])
set_option maxHeartbeats 4000000 in
set_option maxRecDepth 20000 in
theorem hp_later {G : rfG} (hG : okG G) : h_met G hM_later (fun _ _ => True) (fun vs F F' rv => ∃ b x : Int32, vs[1]? = some (.int b) ∧ rv = some (.int x) ∧ x.toInt = latA (F 114 64).toInt b.toInt ∧ (F' 114 64).toInt = latT (F 114 64).toInt b.toInt) := by
  refine h_metOf hG.1 (by decide +kernel) (by decide) hG.2.2.1 (wflT hG flokX12) (wcsT hG csokX12) ?_
  intro vs w0 X hv_ hr hp c
  match vs, hv_ with
  | [_, _], ⟨⟨_, hj0, rfl⟩, ⟨b, rfl, hi_b, _⟩, _⟩ =>
  cases List.mem_singleton.mp hj0
  have hd : ∀ n pc i len, ddX12_later[n]? = some (pc, i, len) → decode (mb hM_later) pc = .ok (i, len) := fun n pc i len h => hdk dkX12_later n pc i len h
  show hW G X hM_later w0 0 [(0, .ref (G.2.1.1 114)), (1, .int b)] [] (hv w0)
  generalize hF0 : hv w0 = F at *
  have ht := hrg hr ly_114_64
  have ht : 0 ≤ (F 114 64).toInt ∧ (F 114 64).toInt ≤ 100000 := ht
  refine h_iln c (hd 0 0 _ _ rfl) (by rfl) (hat 1 rfl ?_)
  refine h_ic c (hd 1 1 _ _ rfl) (by decide) (fun v1 e1 => hat 2 rfl ?_)
  refine h_sp c (hd 2 2 _ _ rfl) (by decide) (fun v2 e2 => hat 5 rfl ?_)
  refine h_callSF c (M' := hM_isIn) (hp_isIn hG) (by decide +kernel) (wlkS (lkX12_334 hG) _ rfl rfl) (hd 3 5 _ _ rfl) [.int b, .int v1, .int v2] (rest := []) (by rfl) ⟨⟨_, rfl, rf_in_top _, trivial⟩, ⟨_, rfl, rf_in_top _, trivial⟩, ⟨_, rfl, rf_in_top _, trivial⟩, trivial⟩ (Nat.le_of_ble_eq_true rfl) trivial (fun rv5 F5 fr5 rr5 pp5 sm_ => hat 8 rfl ?_)
  have e_ := (sm_ rfl).symm
  subst e_
  obtain ⟨a_, b_, d_, x5, ea_, er_, hx5⟩ := pp5
  cases ea_
  subst er_
  refine h_if c (hd 4 8 _ _ rfl) (tgt := 23) (by decide) (fun (h8 : x5.toInt = 0) => ?_) (fun (h8 : ¬ (x5.toInt = 0)) => hat 11 rfl ?_)
  · skip
    refine h_ic c (hd 11 23 _ _ rfl) (by decide) (fun v23 e23 => hat 24 rfl ?_)
    have hno := lat_no (t := (F 114 64).toInt) (b := b.toInt) (by omega)
    exact h_iret c (hd 12 24 _ _ rfl) rfl ⟨b, _, rfl, rfl, by omega, by rw [show F 114 64 = F 114 64 from rfl]; omega⟩
  · skip
    refine h_aln c (hd 5 11 _ _ rfl) (by rfl) (hat 12 rfl ?_)
    refine h_getI c (hd 6 12 _ _ rfl) fgX12_483 gnX12_483_114 (x := F 114 64) (rfl) (hat 15 rfl ?_)
    refine h_iln c (hd 7 15 _ _ rfl) (by rfl) (hat 16 rfl ?_)
    refine h_add c (hd 8 16 _ _ rfl) (by omega) (fun v16 e16 => hat 17 rfl ?_)
    refine h_ldcw c (hd 9 17 _ _ rfl) (n := 100000) (by rfl) (by decide) (fun v17 e17 => hat 20 rfl ?_)
    refine h_cmp c (hd 10 20 _ _ rfl) (tgt := 25) (by decide) (fun (h20 : v16.toInt ≤ v17.toInt) => ?_) (fun (h20 : ¬ (v16.toInt ≤ v17.toInt)) => hat 23 rfl ?_)
    · skip
      refine h_aln c (hd 13 25 _ _ rfl) (by rfl) (hat 26 rfl ?_)
      refine h_dup c (hd 14 26 _ _ rfl) (by rfl) (hat 27 rfl ?_)
      refine h_getI c (hd 15 27 _ _ rfl) fgX12_483 gnX12_483_114 (x := F 114 64) (rfl) (hat 30 rfl ?_)
      refine h_iln c (hd 16 30 _ _ rfl) (by rfl) (hat 31 rfl ?_)
      refine h_add c (hd 17 31 _ _ rfl) (by omega) (fun v31 e31 => hat 32 rfl ?_)
      refine h_putI c (hd 18 32 _ _ rfl) fgX12_483 gnX12_483_114 (by decide) (by decide) rfl (rf_in1 (by omega) (by omega)) (hat 35 rfl ?_)
      refine h_aln c (hd 19 35 _ _ rfl) (by rfl) (hat 36 rfl ?_)
      refine h_getI c (hd 20 36 _ _ rfl) fgX12_483 gnX12_483_114 (x := v31) (rfl) (hat 39 rfl ?_)
      have hye := lat_yes (t := (F 114 64).toInt) (b := b.toInt) (by omega)
      exact h_iret c (hd 21 39 _ _ rfl) rfl ⟨b, _, rfl, rfl, by omega, by rw [show (hupd F 114 64 v31) 114 64 = v31 from rfl]; omega⟩
    · skip
      refine h_ic c (hd 11 23 _ _ rfl) (by decide) (fun v23 e23 => hat 24 rfl ?_)
      have hno := lat_no (t := (F 114 64).toInt) (b := b.toInt) (by omega)
      exact h_iret c (hd 12 24 _ _ rfl) rfl ⟨b, _, rfl, rfl, by omega, by rw [show F 114 64 = F 114 64 from rfl]; omega⟩
def ddX10_goOn : List (Nat × Instr × Nat) := [(0,.iload_n 1,1),(1,.ifCond .lt 21,3),(4,.iload_n 1,1),(5,.sipush 1000,3),(8,.if_icmp .gt 14,3),(11,.aload_n 0,1),(12,.getfield 35,3),(15,.iload_n 1,1),(16,.iadd,1),(17,.ldc 46,2),(19,.if_icmp .le 5,3),(22,.iconst (-1),1),(23,.ireturn,1),(24,.aload_n 0,1),(25,.dup,1),(26,.getfield 35,3),(29,.iload_n 1,1),(30,.iadd,1),(31,.putfield 35,3),(34,.aload_n 0,1),(35,.getfield 35,3),(38,.ireturn,1)]
set_option maxRecDepth 100000 in
theorem dkX10_goOn : rf_decs prog_12_method_3_code ddX10_goOn := rf_decs_of (by decide +kernel)
def hM_wgo : rfM := ((⟨"NearSpell$Witness", "goOn", "(I)I"⟩, prog_12_method_3_code, 2, (some .int)), (2,100), ([.inr (.inl [68]), .inl (((-2147483648),2147483647,1),none)],[]), [(68,10)], [])
set_option maxHeartbeats 4000000 in
set_option maxRecDepth 20000 in
theorem hp_wgo {G : rfG} (hG : okG G) : h_met G hM_wgo (fun _ _ => True) (fun vs F F' rv => ∃ b x : Int32, vs[1]? = some (.int b) ∧ rv = some (.int x) ∧ x.toInt = latA (F 68 9).toInt b.toInt ∧ (F' 68 9).toInt = latT (F 68 9).toInt b.toInt) := by
  refine h_metOf hG.1 (by decide +kernel) (by decide) hG.2.2.1 (wflT hG flokX10) (wcsT hG csokX10) ?_
  intro vs w0 X hv_ hr hp c
  match vs, hv_ with
  | [_, _], ⟨⟨_, hj0, rfl⟩, ⟨b, rfl, hi_b, _⟩, _⟩ =>
  cases List.mem_singleton.mp hj0
  have hd : ∀ n pc i len, ddX10_goOn[n]? = some (pc, i, len) → decode (mb hM_wgo) pc = .ok (i, len) := fun n pc i len h => hdk dkX10_goOn n pc i len h
  show hW G X hM_wgo w0 0 [(0, .ref (G.2.1.1 68)), (1, .int b)] [] (hv w0)
  generalize hF0 : hv w0 = F at *
  have ht : 0 ≤ (F 68 9).toInt ∧ (F 68 9).toInt ≤ 100000 := hrg hr ly_68_9
  refine h_iln c (hd 0 0 _ _ rfl) (by rfl) (hat 1 rfl ?_)
  refine h_if c (hd 1 1 _ _ rfl) (tgt := 22) (by decide) (fun (h1 : b.toInt < 0) => ?_) (fun (h1 : ¬ (b.toInt < 0)) => hat 4 rfl ?_)
  · skip
    refine h_ic c (hd 11 22 _ _ rfl) (by decide) (fun v22 e22 => hat 23 rfl ?_)
    have hno := lat_no (t := (F 68 9).toInt) (b := b.toInt) (by omega)
    exact h_iret c (hd 12 23 _ _ rfl) rfl ⟨b, _, rfl, rfl, by omega, by rw [show F 68 9 = F 68 9 from rfl]; omega⟩
  · skip
    refine h_iln c (hd 2 4 _ _ rfl) (by rfl) (hat 5 rfl ?_)
    refine h_sp c (hd 3 5 _ _ rfl) (by decide) (fun v5 e5 => hat 8 rfl ?_)
    refine h_cmp c (hd 4 8 _ _ rfl) (tgt := 22) (by decide) (fun (h8 : v5.toInt < b.toInt) => ?_) (fun (h8 : ¬ (v5.toInt < b.toInt)) => hat 11 rfl ?_)
    · skip
      refine h_ic c (hd 11 22 _ _ rfl) (by decide) (fun v22 e22 => hat 23 rfl ?_)
      have hno := lat_no (t := (F 68 9).toInt) (b := b.toInt) (by omega)
      exact h_iret c (hd 12 23 _ _ rfl) rfl ⟨b, _, rfl, rfl, by omega, by rw [show F 68 9 = F 68 9 from rfl]; omega⟩
    · skip
      refine h_aln c (hd 5 11 _ _ rfl) (by rfl) (hat 12 rfl ?_)
      refine h_getI c (hd 6 12 _ _ rfl) fgX10_35 gnX10_35_68 (x := F 68 9) (rfl) (hat 15 rfl ?_)
      refine h_iln c (hd 7 15 _ _ rfl) (by rfl) (hat 16 rfl ?_)
      refine h_add c (hd 8 16 _ _ rfl) (by omega) (fun v16 e16 => hat 17 rfl ?_)
      refine h_ldc c (hd 9 17 _ _ rfl) (n := 100000) (by rfl) (by decide) (fun v17 e17 => hat 19 rfl ?_)
      refine h_cmp c (hd 10 19 _ _ rfl) (tgt := 24) (by decide) (fun (h19 : v16.toInt ≤ v17.toInt) => ?_) (fun (h19 : ¬ (v16.toInt ≤ v17.toInt)) => hat 22 rfl ?_)
      · skip
        refine h_aln c (hd 13 24 _ _ rfl) (by rfl) (hat 25 rfl ?_)
        refine h_dup c (hd 14 25 _ _ rfl) (by rfl) (hat 26 rfl ?_)
        refine h_getI c (hd 15 26 _ _ rfl) fgX10_35 gnX10_35_68 (x := F 68 9) (rfl) (hat 29 rfl ?_)
        refine h_iln c (hd 16 29 _ _ rfl) (by rfl) (hat 30 rfl ?_)
        refine h_add c (hd 17 30 _ _ rfl) (by omega) (fun v30 e30 => hat 31 rfl ?_)
        refine h_putI c (hd 18 31 _ _ rfl) fgX10_35 gnX10_35_68 (by decide) (by decide) rfl (rf_in1 (by omega) (by omega)) (hat 34 rfl ?_)
        refine h_aln c (hd 19 34 _ _ rfl) (by rfl) (hat 35 rfl ?_)
        refine h_getI c (hd 20 35 _ _ rfl) fgX10_35 gnX10_35_68 (x := v30) (rfl) (hat 38 rfl ?_)
        have hno := lat_yes (t := (F 68 9).toInt) (b := b.toInt) (by omega)
        exact h_iret c (hd 21 38 _ _ rfl) rfl ⟨b, _, rfl, rfl, by omega, by rw [show (hupd F 68 9 v30) 68 9 = v30 from rfl]; omega⟩
      · skip
        refine h_ic c (hd 11 22 _ _ rfl) (by decide) (fun v22 e22 => hat 23 rfl ?_)
        have hno := lat_no (t := (F 68 9).toInt) (b := b.toInt) (by omega)
        exact h_iret c (hd 12 23 _ _ rfl) rfl ⟨b, _, rfl, rfl, by omega, by rw [show F 68 9 = F 68 9 from rfl]; omega⟩
def ddX11_later : List (Nat × Instr × Nat) := [(0,.aload_n 0,1),(1,.getfield 92,3),(4,.iload_n 1,1),(5,.invokevirtual 324,3),(8,.ireturn,1)]
set_option maxRecDepth 100000 in
theorem dkX11_later : rf_decs prog_1_method_43_code ddX11_later := rf_decs_of (by decide +kernel)
def hM_nlater : rfM := ((⟨"NearSpell", "later", "(I)I"⟩, prog_1_method_43_code, 2, (some .int)), (10,1000), ([.inr (.inl [70]), .inl (((-2147483648),2147483647,1),none)],[]), [(68,10)], [])
set_option maxHeartbeats 4000000 in
set_option maxRecDepth 20000 in
theorem hp_nlater {G : rfG} (hG : okG G) : h_met G hM_nlater (fun _ _ => True) (fun vs F F' rv => ∃ b x : Int32, vs[1]? = some (.int b) ∧ rv = some (.int x) ∧ x.toInt = latA (F 68 9).toInt b.toInt ∧ (F' 68 9).toInt = latT (F 68 9).toInt b.toInt) := by
  refine h_metOf hG.1 (by decide +kernel) (by decide) hG.2.2.1 (wflT hG flokX11) (wcsT hG csokX11) ?_
  intro vs w0 X hv_ hr hp c
  match vs, hv_ with
  | [_, _], ⟨⟨_, hj0, rfl⟩, ⟨b, rfl, hi_b, _⟩, _⟩ =>
  cases List.mem_singleton.mp hj0
  have hd : ∀ n pc i len, ddX11_later[n]? = some (pc, i, len) → decode (mb hM_nlater) pc = .ok (i, len) := fun n pc i len h => hdk dkX11_later n pc i len h
  show hW G X hM_nlater w0 0 [(0, .ref (G.2.1.1 70)), (1, .int b)] [] (hv w0)
  generalize hF0 : hv w0 = F at *
  refine h_aln c (hd 0 0 _ _ rfl) (by rfl) (hat 1 rfl ?_)
  refine h_getR c (hd 1 1 _ _ rfl) fgX11_92 gnX11_92_70 (hat 4 rfl ?_)
  refine h_iln c (hd 2 4 _ _ rfl) (by rfl) (hat 5 rfl ?_)
  refine h_callVF c (M' := hM_wgo) (hp_wgo hG) (by decide +kernel) (wlkV (lkX11_324 hG) _ rfl rfl) (j := 68) (by decide +kernel) (hd 3 5 _ _ rfl) [.int b] (rest := []) (by rfl) ⟨⟨68, by decide, rfl⟩, ⟨_, rfl, rf_in_top _, trivial⟩, trivial⟩ (Nat.le_of_ble_eq_true rfl) trivial (fun rv5 F5 fr5 rr5 pp5 sm_ => hat 8 rfl ?_)
  obtain ⟨b_, x5, eb_, er_, hx5, ht5⟩ := pp5
  cases eb_
  subst er_
  exact h_iret c (hd 4 8 _ _ rfl) rfl ⟨b, _, rfl, rfl, hx5, ht5⟩
def hM_isLetter : rfM := ((⟨"NearSpellModel", "isLetter", "(I)Z"⟩, prog_14_method_3_code, 1, (some .boolean)), (2,100), ([.inl (((-2147483648),2147483647,1),none)],[]), [], [])
def ddX12_isLetter : List (Nat × Instr × Nat) := [(0,.iload_n 0,1),(1,.bipush 97,2),(3,.if_icmp .lt 13,3),(6,.iload_n 0,1),(7,.bipush 122,2),(9,.if_icmp .gt 7,3),(12,.iconst 1,1),(13,.goto 4,3),(16,.iconst 0,1),(17,.ireturn,1)]
set_option maxRecDepth 100000 in
theorem dkX12_isLetter : rf_decs prog_14_method_3_code ddX12_isLetter := rf_decs_of (by decide +kernel)
set_option maxHeartbeats 4000000 in
set_option maxRecDepth 20000 in
theorem hp_isLetter {G : rfG} (hG : okG G) : h_met G hM_isLetter (fun _ _ => True) (fun vs _ _ rv => ∃ a x : Int32, vs = [.int a] ∧ rv = some (.int x) ∧ ((x.toInt = 1 ∧ 97 ≤ a.toInt ∧ a.toInt ≤ 122) ∨ (x.toInt = 0 ∧ ¬ (97 ≤ a.toInt ∧ a.toInt ≤ 122)))) := by
  refine h_metOf hG.1 (by decide +kernel) (by decide) hG.2.2.1 (wflT hG flokX12) (wcsT hG csokX12) ?_
  intro vs w0 X hv_ hr hp c
  match vs, hv_ with
  | [_], ⟨⟨a, rfl, hi_a, _⟩, _⟩ =>
  have hd : ∀ n pc i len, ddX12_isLetter[n]? = some (pc, i, len) → decode (mb hM_isLetter) pc = .ok (i, len) := fun n pc i len h => hdk dkX12_isLetter n pc i len h
  show hW G X hM_isLetter w0 0 [(0, .int a)] [] (hv w0)
  generalize hF0 : hv w0 = F at *
  refine h_iln c (hd 0 0 _ _ rfl) (by rfl) (hat 1 rfl ?_)
  refine h_bp c (hd 1 1 _ _ rfl) (by decide) (fun v1 e1 => hat 3 rfl ?_)
  refine h_cmp c (hd 2 3 _ _ rfl) (tgt := 16) (by decide) (fun (h3 : a.toInt < v1.toInt) => ?_) (fun (h3 : ¬ (a.toInt < v1.toInt)) => hat 6 rfl ?_)
  · skip
    refine h_ic c (hd 8 16 _ _ rfl) (by decide) (fun v16 e16 => hat 17 rfl ?_)
    exact h_zret c (hd 9 17 _ _ rfl) rfl (by omega) ⟨a, _, rfl, rfl, by omega⟩
  · skip
    refine h_iln c (hd 3 6 _ _ rfl) (by rfl) (hat 7 rfl ?_)
    refine h_bp c (hd 4 7 _ _ rfl) (by decide) (fun v7 e7 => hat 9 rfl ?_)
    refine h_cmp c (hd 5 9 _ _ rfl) (tgt := 16) (by decide) (fun (h9 : v7.toInt < a.toInt) => ?_) (fun (h9 : ¬ (v7.toInt < a.toInt)) => hat 12 rfl ?_)
    · skip
      refine h_ic c (hd 8 16 _ _ rfl) (by decide) (fun v16 e16 => hat 17 rfl ?_)
      exact h_zret c (hd 9 17 _ _ rfl) rfl (by omega) ⟨a, _, rfl, rfl, by omega⟩
    · skip
      refine h_ic c (hd 6 12 _ _ rfl) (by decide) (fun v12 e12 => hat 13 rfl ?_)
      refine h_goto c (hd 7 13 _ _ rfl) (tgt := 17) (by decide) ?_
      exact h_zret c (hd 9 17 _ _ rfl) rfl (by omega) ⟨a, _, rfl, rfl, by omega⟩
theorem h_b255 {a : Int32} (h : -128 ≤ a.toInt ∧ a.toInt ≤ 127) : (a &&& 255).toInt = a.toInt % 256 := by
  have hd : (List.range 256).all (fun n => decide ((Int32.ofInt ((n : Int) - 128) &&& 255).toInt = ((n : Int) - 128) % 256)) = true := by decide +kernel
  have h2 := List.all_eq_true.mp hd (a.toInt + 128).toNat (List.mem_range.mpr (by omega))
  simp only [decide_eq_true_eq] at h2
  have e : (((a.toInt + 128).toNat : Int) - 128) = a.toInt := by omega
  rw [e, Int32.ofInt_toInt] at h2
  exact h2
theorem h_255 {v : Int32} (h : v.toInt = 255) : v = 255 := Int32.toInt_inj.mp (by rw [h]; decide +kernel)
def hM_sign : rfM := ((⟨"NearSpellModel", "sign", "(I)I"⟩, prog_14_method_2_code, 2, (some .int)), (2,100), ([.inr (.inl [114]), .inl ((0,2147483647,1),none)],[]), [], [])
set_option maxHeartbeats 4000000 in
set_option maxRecDepth 20000 in
theorem hp_sign {G : rfG} (hG : okG G) : h_met G hM_sign (fun _ _ => True) (fun vs F _ rv => ∃ k x : Int32, vs[1]? = some (.int k) ∧ rv = some (.int x) ∧ x.toInt = rf_sgf (fun i => (F 72 i).toInt) (F 114 3).toInt k.toInt ∧ 0 ≤ x.toInt ∧ x.toInt ≤ 255) := by
  refine h_metOf hG.1 (by decide +kernel) (by decide) hG.2.2.1 (wflT hG flokX12) (wcsT hG csokX12) ?_
  intro vs w0 X hv_ hr hp c
  match vs, hv_ with
  | [_, _], ⟨⟨_, hj0, rfl⟩, ⟨k, rfl, hi_k, _⟩, _⟩ =>
  cases List.mem_singleton.mp hj0
  have hd : ∀ n pc i len, ddX12_sign[n]? = some (pc, i, len) → decode (mb hM_sign) pc = .ok (i, len) := fun n pc i len h => hdk dkX12_sign n pc i len h
  show hW G X hM_sign w0 0 [(0, .ref (G.2.1.1 114)), (1, .int k)] [] (hv w0)
  generalize hF0 : hv w0 = F at *
  have hk0 := hi_k.1
  have hk0 : 0 ≤ k.toInt := hk0
  have hs3 : 0 ≤ (F 114 3).toInt ∧ (F 114 3).toInt ≤ 1600 := hrg hr ly_114_3
  refine h_iln c (hd 0 0 _ _ rfl) (by rfl) (hat 1 rfl ?_)
  refine h_aln c (hd 1 1 _ _ rfl) (by rfl) (hat 2 rfl ?_)
  refine h_getI c (hd 2 2 _ _ rfl) fgX12_151 gnX12_151_114 (x := F 114 3) (rfl) (hat 5 rfl ?_)
  refine h_cmp c (hd 3 5 _ _ rfl) (tgt := 21) (by decide) (fun (h5 : (F 114 3).toInt ≤ k.toInt) => ?_) (fun (h5 : ¬ ((F 114 3).toInt ≤ k.toInt)) => hat 8 rfl ?_)
  · skip
    refine h_ic c (hd 11 21 _ _ rfl) (by decide) (fun v21 e21 => hat 22 rfl ?_)
    exact h_iret c (hd 12 22 _ _ rfl) rfl ⟨k, _, rfl, rfl, by unfold rf_sgf; rw [if_neg (by omega)]; omega, by omega, by omega⟩
  · skip
    refine h_aln c (hd 4 8 _ _ rfl) (by rfl) (hat 9 rfl ?_)
    refine h_getR c (hd 5 9 _ _ rfl) fgX12_13 gnX12_13_114 (hat 12 rfl ?_)
    refine h_iln c (hd 6 12 _ _ rfl) (by rfl) (hat 13 rfl ?_)
    refine h_bald c (hd 7 13 _ _ rfl) la_72 ⟨by omega, by omega⟩ rfl (x := F 72 k.toInt.toNat) (rfl) (hat 14 rfl ?_)
    refine h_sp c (hd 8 14 _ _ rfl) (by decide) (fun v14 e14 => hat 17 rfl ?_)
    refine h_and c (hd 9 17 _ _ rfl) (hat 18 rfl ?_)
    refine h_goto c (hd 10 18 _ _ rfl) (tgt := 22) (by decide) ?_
    have hb := hrga hr la_72 (k := k.toInt.toNat) (by omega)
    have hb : -128 ≤ (F 72 k.toInt.toNat).toInt ∧ (F 72 k.toInt.toNat).toInt ≤ 127 := hb
    cases h_255 e14
    have hx := h_b255 hb
    exact h_iret c (hd 12 22 _ _ rfl) rfl ⟨k, _, rfl, rfl, by rw [hx]; unfold rf_sgf; rw [if_pos (by omega)], by omega, by omega⟩
def ddX12_comes : List (Nat × Instr × Nat) := [(0,.iconst 0,1),(1,.istore_n 1,1),(2,.aload_n 0,1),(3,.getfield 51,3),(6,.aload_n 0,1),(7,.getfield 242,3),(10,.iaload,1),(11,.istore_n 2,1),(12,.iload_n 2,1),(13,.aload_n 0,1),(14,.getfield 54,3),(17,.aload_n 0,1),(18,.getfield 242,3),(21,.iaload,1),(22,.if_icmp .ge 108,3),(25,.aload_n 0,1),(26,.getfield 57,3),(29,.iload_n 2,1),(30,.iaload,1),(31,.istore_n 3,1),(32,.iload_n 3,1),(33,.bipush 126,2),(35,.if_icmp .ne 30,3),(38,.aload_n 0,1),(39,.getfield 69,3),(42,.iload_n 1,1),(43,.iconst 1,1),(44,.isub,1),(45,.aload_n 0,1),(46,.getfield 69,3),(49,.iload_n 1,1),(50,.iconst 1,1),(51,.isub,1),(52,.iaload,1),(53,.ifCond .ne 7,3),(56,.iconst 1,1),(57,.goto 4,3),(60,.iconst 0,1),(61,.iastore,1),(62,.goto 62,3),(65,.iload_n 3,1),(66,.invokestatic 198,3),(69,.ifCond .eq 26,3),(72,.aload_n 0,1),(73,.getfield 69,3),(76,.iload_n 1,1),(77,.aload_n 0,1),(78,.iload_n 3,1),(79,.aload_n 0,1),(80,.getfield 60,3),(83,.iload_n 2,1),(84,.iaload,1),(85,.invokevirtual 325,3),(88,.iastore,1),(89,.iinc 1 1,3),(92,.goto 32,3),(95,.iinc 1 (-1),3),(98,.aload_n 0,1),(99,.getfield 69,3),(102,.iload_n 1,1),(103,.iconst 1,1),(104,.isub,1),(105,.iload_n 3,1),(106,.aload_n 0,1),(107,.getfield 69,3),(110,.iload_n 1,1),(111,.iconst 1,1),(112,.isub,1),(113,.iaload,1),(114,.aload_n 0,1),(115,.getfield 69,3),(118,.iload_n 1,1),(119,.iaload,1),(120,.invokestatic 328,3),(123,.iastore,1),(124,.iinc 2 1,3),(127,.goto (-115),3),(130,.aload_n 0,1),(131,.getfield 69,3),(134,.iconst 0,1),(135,.iaload,1),(136,.ireturn,1)]
set_option maxRecDepth 100000 in
theorem dkX12_comes : rf_decs prog_14_method_32_code ddX12_comes := rf_decs_of (by decide +kernel)
set_option maxHeartbeats 8000000 in
set_option maxRecDepth 20000 in
theorem hp_comes {G : rfG} (hG : okG G) : rf_met G q851_M := by
  refine h_rfOf hG.1 (by decide +kernel) (by decide) hG.2.2.1 (wflT hG flokX12) (wcsT hG csokX12) (by decide +kernel) ?_
  intro vs w0 X hv_ hr hp c
  match vs, hv_ with
  | [_], ⟨⟨_, hj0, rfl⟩, _⟩ =>
  cases List.mem_singleton.mp hj0
  have hd : ∀ n pc i len, ddX12_comes[n]? = some (pc, i, len) → decode (mb q851_M) pc = .ok (i, len) := fun n pc i len h => hdk dkX12_comes n pc i len h
  show hW G X q851_M w0 0 [(0, .ref (G.2.1.1 114))] [] (hv w0)
  generalize hF0 : hv w0 = F at *
  have hJ := hk_gh (hp _ List.mem_cons_self)
  have hbk : 0 ≤ (F 114 28).toInt ∧ (F 114 28).toInt ≤ 1 := hrg hr ly_114_28
  have hJ := hgJ_at hJ (F 114 28).toInt.toNat (by omega)
  have hfr : 0 ≤ (F 83 (F 114 28).toInt.toNat).toInt ∧ (F 83 (F 114 28).toInt.toNat).toInt ≤ 1120 := hrga hr la_83 (by omega)
  have hto : 0 ≤ (F 84 (F 114 28).toInt.toNat).toInt ∧ (F 84 (F 114 28).toInt.toNat).toInt ≤ 1120 := hrga hr la_84 (by omega)
  have loop : ∀ (m : Nat) (n k : Int32) (F1 : HF), hframe [(89, 0)] F F1 → m = ((F 84 (F 114 28).toInt.toNat).toInt - k.toInt).toNat → 0 ≤ n.toInt → n.toInt ≤ 60 → 0 ≤ k.toInt → rf_runH (fun i => (F 85 i).toInt) m k.toInt.toNat n.toInt.toNat = true → hW G X q851_M w0 12 [(2, .int k), (1, .int n), (0, .ref (G.2.1.1 114))] [] F1 := by
    intro m
    induction m using Nat.strongRecOn with
    | ind m ih =>
    intro n k F1 fr1 hm hn0 hn1 hk0 hrun
    refine h_iln c (hd 8 12 _ _ rfl) (by rfl) (hat 13 rfl ?_)
    refine h_aln c (hd 9 13 _ _ rfl) (by rfl) (hat 14 rfl ?_)
    refine h_getR c (hd 10 14 _ _ rfl) fgX12_54 gnX12_54_114 (hat 17 rfl ?_)
    refine h_aln c (hd 11 17 _ _ rfl) (by rfl) (hat 18 rfl ?_)
    refine h_getI c (hd 12 18 _ _ rfl) fgX12_242 gnX12_242_114 (x := F 114 28) (fr1 114 28 (by decide) (by rfl)) (hat 21 rfl ?_)
    refine h_iald c (hd 13 21 _ _ rfl) la_84 ⟨by omega, by omega⟩ rfl (x := F 84 ((F 114 28).toInt.toNat)) (fr1 84 ((F 114 28).toInt.toNat) (by decide) (by rfl)) (hat 22 rfl ?_)
    refine h_cmp c (hd 14 22 _ _ rfl) (tgt := 130) (by decide) (fun (h22 : (F 84 ((F 114 28).toInt.toNat)).toInt ≤ k.toInt) => ?_) (fun (h22 : ¬ ((F 84 ((F 114 28).toInt.toNat)).toInt ≤ k.toInt)) => hat 25 rfl ?_)
    · skip
      refine h_aln c (hd 77 130 _ _ rfl) (by rfl) (hat 131 rfl ?_)
      refine h_getR c (hd 78 131 _ _ rfl) fgX12_69 gnX12_69_114 (hat 134 rfl ?_)
      refine h_ic c (hd 79 134 _ _ rfl) (by decide) (fun v134 e134 => hat 135 rfl ?_)
      refine h_iald c (hd 80 135 _ _ rfl) la_89 ⟨by omega, by omega⟩ (congrArg Int.toNat e134) (x := F1 89 0) (rfl) (hat 136 rfl ?_)
      exact h_iret c (hd 81 136 _ _ rfl) rfl (fun _ => ⟨_, List.mem_cons_self, ⟨_, rfl, rf_in_top _⟩, fun q hq => absurd hq List.not_mem_nil, fun q hq => absurd hq List.not_mem_nil⟩)
    · skip
      obtain ⟨m2, rfl⟩ : ∃ m2, m = m2 + 1 := ⟨m - 1, by omega⟩
      simp only [rf_runH] at hrun
      refine h_aln c (hd 15 25 _ _ rfl) (by rfl) (hat 26 rfl ?_)
      refine h_getR c (hd 16 26 _ _ rfl) fgX12_57 gnX12_57_114 (hat 29 rfl ?_)
      refine h_iln c (hd 17 29 _ _ rfl) (by rfl) (hat 30 rfl ?_)
      refine h_iald c (hd 18 30 _ _ rfl) la_85 ⟨by omega, by omega⟩ rfl (x := F 85 k.toInt.toNat) (fr1 85 k.toInt.toNat (by decide) (by rfl)) (hat 31 rfl ?_)
      refine h_isn c (hd 19 31 _ _ rfl) (by decide) (L' := [(3, .int (F 85 k.toInt.toNat)), (2, .int k), (1, .int n), (0, .ref (G.2.1.1 114))]) (by rfl) (hat 32 rfl ?_)
      refine h_iln c (hd 20 32 _ _ rfl) (by rfl) (hat 33 rfl ?_)
      refine h_bp c (hd 21 33 _ _ rfl) (by decide) (fun v33 e33 => hat 35 rfl ?_)
      refine h_cmp c (hd 22 35 _ _ rfl) (tgt := 65) (by decide) (fun (h35 : (F 85 k.toInt.toNat).toInt ≠ v33.toInt) => ?_) (fun (h35 : ¬ ((F 85 k.toInt.toNat).toInt ≠ v33.toInt)) => hat 38 rfl ?_)
      · skip
        rw [if_neg (by omega)] at hrun
        refine h_iln c (hd 40 65 _ _ rfl) (by rfl) (hat 66 rfl ?_)
        refine h_callSF c (M' := hM_isLetter) (hp_isLetter hG) (by decide +kernel) (wlkS (lkX12_198 hG) _ rfl rfl) (hd 41 66 _ _ rfl) [.int (F 85 k.toInt.toNat)] (rest := []) (by rfl) ⟨⟨_, rfl, rf_in_top _, trivial⟩, trivial⟩ (Nat.le_of_ble_eq_true rfl) trivial (fun rv66 F66 fr66 rr66 pp66 sm_ => hat 69 rfl ?_)
        have e_ := (sm_ rfl).symm
        subst e_
        obtain ⟨a_, x66, ea_, er_, hx66⟩ := pp66
        cases ea_
        subst er_
        refine h_if c (hd 42 69 _ _ rfl) (tgt := 95) (by decide) (fun (h69 : x66.toInt = 0) => ?_) (fun (h69 : ¬ (x66.toInt = 0)) => hat 72 rfl ?_)
        · skip
          rw [if_neg (by omega)] at hrun
          simp only [Bool.and_eq_true, decide_eq_true_eq] at hrun
          refine h_inc c (fun r_ => [(1, .int r_), (3, .int (F 85 k.toInt.toNat)), (2, .int k), (0, .ref (G.2.1.1 114))]) (hd 56 95 _ _ rfl) (by decide) (by decide) (by rfl) (by omega) (fun _ => by rfl) (fun v95 e95 => hat 98 rfl ?_)
          refine h_aln c (hd 57 98 _ _ rfl) (by rfl) (hat 99 rfl ?_)
          refine h_getR c (hd 58 99 _ _ rfl) fgX12_69 gnX12_69_114 (hat 102 rfl ?_)
          refine h_iln c (hd 59 102 _ _ rfl) (by rfl) (hat 103 rfl ?_)
          refine h_ic c (hd 60 103 _ _ rfl) (by decide) (fun v103 e103 => hat 104 rfl ?_)
          refine h_sub c (hd 61 104 _ _ rfl) (by omega) (fun v104 e104 => hat 105 rfl ?_)
          refine h_iln c (hd 62 105 _ _ rfl) (by rfl) (hat 106 rfl ?_)
          refine h_aln c (hd 63 106 _ _ rfl) (by rfl) (hat 107 rfl ?_)
          refine h_getR c (hd 64 107 _ _ rfl) fgX12_69 gnX12_69_114 (hat 110 rfl ?_)
          refine h_iln c (hd 65 110 _ _ rfl) (by rfl) (hat 111 rfl ?_)
          refine h_ic c (hd 66 111 _ _ rfl) (by decide) (fun v111 e111 => hat 112 rfl ?_)
          refine h_sub c (hd 67 112 _ _ rfl) (by omega) (fun v112 e112 => hat 113 rfl ?_)
          refine h_iald c (hd 68 113 _ _ rfl) la_89 ⟨by omega, by omega⟩ rfl (x := F1 89 v112.toInt.toNat) (rfl) (hat 114 rfl ?_)
          refine h_aln c (hd 69 114 _ _ rfl) (by rfl) (hat 115 rfl ?_)
          refine h_getR c (hd 70 115 _ _ rfl) fgX12_69 gnX12_69_114 (hat 118 rfl ?_)
          refine h_iln c (hd 71 118 _ _ rfl) (by rfl) (hat 119 rfl ?_)
          refine h_iald c (hd 72 119 _ _ rfl) la_89 ⟨by omega, by omega⟩ rfl (x := F1 89 v95.toInt.toNat) (rfl) (hat 120 rfl ?_)
          refine h_callS c (M' := q1206_M) (q1206_met hG) (by decide +kernel) (by decide +kernel) (wlkS (lkX12_328 hG) _ rfl rfl) (hd 73 120 _ _ rfl) [.int (F 85 k.toInt.toNat), .int (F1 89 v112.toInt.toNat), .int (F1 89 v95.toInt.toNat)] (rest := [.int v104, .ref (G.2.1.1 89)]) (by rfl) ⟨⟨_, rfl, rf_in_top _, trivial⟩, ⟨_, rfl, rf_in_top _, trivial⟩, ⟨_, rfl, rf_in_top _, trivial⟩, trivial⟩ (Nat.le_of_ble_eq_true rfl) (fun q hq => absurd hq List.not_mem_nil) (fun rv120 F120 fr120 rr120 pp120 sm_ => hat 123 rfl ?_)
          have e_ := (sm_ rfl).symm
          subst e_
          obtain ⟨k_, hk_, pp120⟩ := pp120
          rcases hm1 hk_ with rfl
          obtain ⟨x120, hrv_, hx120⟩ := hk_val pp120
          subst hrv_
          refine h_iast c (hd 74 123 _ _ rfl) la_89 ⟨by omega, by omega⟩ rfl (by decide) (by decide) (hin1 (rf_in_top _)) (hat 124 rfl ?_)
          refine h_inc c (fun r_ => [(2, .int r_), (1, .int v95), (3, .int (F 85 k.toInt.toNat)), (0, .ref (G.2.1.1 114))]) (hd 75 124 _ _ rfl) (by decide) (by decide) (by rfl) (by omega) (fun _ => by rfl) (fun v124 e124 => hat 127 rfl ?_)
          refine h_goto c (hd 76 127 _ _ rfl) (tgt := 12) (by decide) ?_
          refine h_less (L := [(2, .int v124), (1, .int v95), (0, .ref (G.2.1.1 114))]) (by simp) (ih m2 (by omega) _ _ _ (hframe_up fr1 (by rfl) _) (by omega) (by omega) (by omega) (by omega) ?_)
          have e1_ : v124.toInt.toNat = k.toInt.toNat + 1 := by omega
          rw [e1_]
          first | (have e2_ : v95.toInt.toNat = n.toInt.toNat := (by omega); rw [e2_]; exact hrun.2) | (have e2_ : v95.toInt.toNat = n.toInt.toNat + 1 := (by omega); rw [e2_]; exact hrun.2) | (have e2_ : v95.toInt.toNat = n.toInt.toNat - 1 := (by omega); rw [e2_]; exact hrun.2)
        · skip
          rw [if_pos (by omega)] at hrun
          simp only [Bool.and_eq_true, decide_eq_true_eq] at hrun
          refine h_aln c (hd 43 72 _ _ rfl) (by rfl) (hat 73 rfl ?_)
          refine h_getR c (hd 44 73 _ _ rfl) fgX12_69 gnX12_69_114 (hat 76 rfl ?_)
          refine h_iln c (hd 45 76 _ _ rfl) (by rfl) (hat 77 rfl ?_)
          refine h_aln c (hd 46 77 _ _ rfl) (by rfl) (hat 78 rfl ?_)
          refine h_iln c (hd 47 78 _ _ rfl) (by rfl) (hat 79 rfl ?_)
          refine h_aln c (hd 48 79 _ _ rfl) (by rfl) (hat 80 rfl ?_)
          refine h_getR c (hd 49 80 _ _ rfl) fgX12_60 gnX12_60_114 (hat 83 rfl ?_)
          refine h_iln c (hd 50 83 _ _ rfl) (by rfl) (hat 84 rfl ?_)
          refine h_iald c (hd 51 84 _ _ rfl) la_86 ⟨by omega, by omega⟩ rfl (x := F 86 k.toInt.toNat) (fr1 86 k.toInt.toNat (by decide) (by rfl)) (hat 85 rfl ?_)
          refine h_callV c (M' := q1208_M) (q1208_met hG) (by decide +kernel) (by decide +kernel) (wlkV (lkX12_325 hG) _ rfl rfl) (j := 114) (by decide +kernel) (hd 52 85 _ _ rfl) [.int (F 85 k.toInt.toNat), .int (F 86 k.toInt.toNat)] (rest := [.int n, .ref (G.2.1.1 89)]) (by rfl) ⟨⟨114, by decide, rfl⟩, ⟨_, rfl, rf_in_top _, trivial⟩, ⟨_, rfl, rf_in_top _, trivial⟩, trivial⟩ (Nat.le_of_ble_eq_true rfl) (fun q hq => absurd hq List.not_mem_nil) (fun rv85 F85 fr85 rr85 pp85 sm_ => hat 88 rfl ?_)
          have e_ := (sm_ rfl).symm
          subst e_
          obtain ⟨k_, hk_, pp85⟩ := pp85
          rcases hm1 hk_ with rfl
          obtain ⟨x85, hrv_, hx85⟩ := hk_val pp85
          subst hrv_
          refine h_iast c (hd 53 88 _ _ rfl) la_89 ⟨by omega, by omega⟩ rfl (by decide) (by decide) (hin1 (rf_in_top _)) (hat 89 rfl ?_)
          refine h_inc c (fun r_ => [(1, .int r_), (3, .int (F 85 k.toInt.toNat)), (2, .int k), (0, .ref (G.2.1.1 114))]) (hd 54 89 _ _ rfl) (by decide) (by decide) (by rfl) (by omega) (fun _ => by rfl) (fun v89 e89 => hat 92 rfl ?_)
          refine h_goto c (hd 55 92 _ _ rfl) (tgt := 124) (by decide) ?_
          refine h_inc c (fun r_ => [(2, .int r_), (1, .int v89), (3, .int (F 85 k.toInt.toNat)), (0, .ref (G.2.1.1 114))]) (hd 75 124 _ _ rfl) (by decide) (by decide) (by rfl) (by omega) (fun _ => by rfl) (fun v124 e124 => hat 127 rfl ?_)
          refine h_goto c (hd 76 127 _ _ rfl) (tgt := 12) (by decide) ?_
          refine h_less (L := [(2, .int v124), (1, .int v89), (0, .ref (G.2.1.1 114))]) (by simp) (ih m2 (by omega) _ _ _ (hframe_up fr1 (by rfl) _) (by omega) (by omega) (by omega) (by omega) ?_)
          have e1_ : v124.toInt.toNat = k.toInt.toNat + 1 := by omega
          rw [e1_]
          first | (have e2_ : v89.toInt.toNat = n.toInt.toNat := (by omega); rw [e2_]; exact hrun.2) | (have e2_ : v89.toInt.toNat = n.toInt.toNat + 1 := (by omega); rw [e2_]; exact hrun.2) | (have e2_ : v89.toInt.toNat = n.toInt.toNat - 1 := (by omega); rw [e2_]; exact hrun.2)
      · skip
        rw [if_pos (by omega)] at hrun
        simp only [Bool.and_eq_true, decide_eq_true_eq] at hrun
        refine h_aln c (hd 23 38 _ _ rfl) (by rfl) (hat 39 rfl ?_)
        refine h_getR c (hd 24 39 _ _ rfl) fgX12_69 gnX12_69_114 (hat 42 rfl ?_)
        refine h_iln c (hd 25 42 _ _ rfl) (by rfl) (hat 43 rfl ?_)
        refine h_ic c (hd 26 43 _ _ rfl) (by decide) (fun v43 e43 => hat 44 rfl ?_)
        refine h_sub c (hd 27 44 _ _ rfl) (by omega) (fun v44 e44 => hat 45 rfl ?_)
        refine h_aln c (hd 28 45 _ _ rfl) (by rfl) (hat 46 rfl ?_)
        refine h_getR c (hd 29 46 _ _ rfl) fgX12_69 gnX12_69_114 (hat 49 rfl ?_)
        refine h_iln c (hd 30 49 _ _ rfl) (by rfl) (hat 50 rfl ?_)
        refine h_ic c (hd 31 50 _ _ rfl) (by decide) (fun v50 e50 => hat 51 rfl ?_)
        refine h_sub c (hd 32 51 _ _ rfl) (by omega) (fun v51 e51 => hat 52 rfl ?_)
        refine h_iald c (hd 33 52 _ _ rfl) la_89 ⟨by omega, by omega⟩ rfl (x := F1 89 v51.toInt.toNat) (rfl) (hat 53 rfl ?_)
        refine h_if c (hd 34 53 _ _ rfl) (tgt := 60) (by decide) (fun (h53 : (F1 89 v51.toInt.toNat).toInt ≠ 0) => ?_) (fun (h53 : ¬ ((F1 89 v51.toInt.toNat).toInt ≠ 0)) => hat 56 rfl ?_)
        · skip
          refine h_ic c (hd 37 60 _ _ rfl) (by decide) (fun v60 e60 => hat 61 rfl ?_)
          refine h_iast c (hd 38 61 _ _ rfl) la_89 ⟨by omega, by omega⟩ rfl (by decide) (by decide) (hin1 (rf_in_top _)) (hat 62 rfl ?_)
          refine h_goto c (hd 39 62 _ _ rfl) (tgt := 124) (by decide) ?_
          refine h_inc c (fun r_ => [(2, .int r_), (3, .int (F 85 k.toInt.toNat)), (1, .int n), (0, .ref (G.2.1.1 114))]) (hd 75 124 _ _ rfl) (by decide) (by decide) (by rfl) (by omega) (fun _ => by rfl) (fun v124 e124 => hat 127 rfl ?_)
          refine h_goto c (hd 76 127 _ _ rfl) (tgt := 12) (by decide) ?_
          refine h_less (L := [(2, .int v124), (1, .int n), (0, .ref (G.2.1.1 114))]) (by simp) (ih m2 (by omega) _ _ _ (hframe_up fr1 (by rfl) _) (by omega) (by omega) (by omega) (by omega) ?_)
          have e1_ : v124.toInt.toNat = k.toInt.toNat + 1 := by omega
          rw [e1_]
          first | (have e2_ : n.toInt.toNat = n.toInt.toNat := (by omega); rw [e2_]; exact hrun.2) | (have e2_ : n.toInt.toNat = n.toInt.toNat + 1 := (by omega); rw [e2_]; exact hrun.2) | (have e2_ : n.toInt.toNat = n.toInt.toNat - 1 := (by omega); rw [e2_]; exact hrun.2)
        · skip
          refine h_ic c (hd 35 56 _ _ rfl) (by decide) (fun v56 e56 => hat 57 rfl ?_)
          refine h_goto c (hd 36 57 _ _ rfl) (tgt := 61) (by decide) ?_
          refine h_iast c (hd 38 61 _ _ rfl) la_89 ⟨by omega, by omega⟩ rfl (by decide) (by decide) (hin1 (rf_in_top _)) (hat 62 rfl ?_)
          refine h_goto c (hd 39 62 _ _ rfl) (tgt := 124) (by decide) ?_
          refine h_inc c (fun r_ => [(2, .int r_), (3, .int (F 85 k.toInt.toNat)), (1, .int n), (0, .ref (G.2.1.1 114))]) (hd 75 124 _ _ rfl) (by decide) (by decide) (by rfl) (by omega) (fun _ => by rfl) (fun v124 e124 => hat 127 rfl ?_)
          refine h_goto c (hd 76 127 _ _ rfl) (tgt := 12) (by decide) ?_
          refine h_less (L := [(2, .int v124), (1, .int n), (0, .ref (G.2.1.1 114))]) (by simp) (ih m2 (by omega) _ _ _ (hframe_up fr1 (by rfl) _) (by omega) (by omega) (by omega) (by omega) ?_)
          have e1_ : v124.toInt.toNat = k.toInt.toNat + 1 := by omega
          rw [e1_]
          first | (have e2_ : n.toInt.toNat = n.toInt.toNat := (by omega); rw [e2_]; exact hrun.2) | (have e2_ : n.toInt.toNat = n.toInt.toNat + 1 := (by omega); rw [e2_]; exact hrun.2) | (have e2_ : n.toInt.toNat = n.toInt.toNat - 1 := (by omega); rw [e2_]; exact hrun.2)
  refine h_ic c (hd 0 0 _ _ rfl) (by decide) (fun v0 e0 => hat 1 rfl ?_)
  refine h_isn c (hd 1 1 _ _ rfl) (by decide) (L' := [(1, .int v0), (0, .ref (G.2.1.1 114))]) (by rfl) (hat 2 rfl ?_)
  refine h_aln c (hd 2 2 _ _ rfl) (by rfl) (hat 3 rfl ?_)
  refine h_getR c (hd 3 3 _ _ rfl) fgX12_51 gnX12_51_114 (hat 6 rfl ?_)
  refine h_aln c (hd 4 6 _ _ rfl) (by rfl) (hat 7 rfl ?_)
  refine h_getI c (hd 5 7 _ _ rfl) fgX12_242 gnX12_242_114 (x := F 114 28) (rfl) (hat 10 rfl ?_)
  refine h_iald c (hd 6 10 _ _ rfl) la_83 ⟨by omega, by omega⟩ rfl (x := F 83 ((F 114 28).toInt.toNat)) (rfl) (hat 11 rfl ?_)
  refine h_isn c (hd 7 11 _ _ rfl) (by decide) (L' := [(2, .int (F 83 ((F 114 28).toInt.toNat))), (1, .int v0), (0, .ref (G.2.1.1 114))]) (by rfl) (hat 12 rfl ?_)
  refine h_less (L := [(2, .int (F 83 ((F 114 28).toInt.toNat))), (1, .int v0), (0, .ref (G.2.1.1 114))]) (by simp) (loop _ _ _ F (hframe_rf _ _) rfl (by omega) (by omega) (by omega) ?_)
  have e1_ : v0.toInt.toNat = 0 := by omega
  rw [e1_]
  rcases hJ with hJ | hJ
  · have e2_ : ((F 84 (F 114 28).toInt.toNat).toInt - (F 83 (F 114 28).toInt.toNat).toInt).toNat = 0 := by omega
    rw [e2_]; rfl
  · exact hJ.2.2
def ddX12_clearBank : List (Nat × Instr × Nat) := [(0,.aload_n 0,1),(1,.getfield 20,3),(4,.aload_n 0,1),(5,.getfield 233,3),(8,.iconst 0,1),(9,.iastore,1),(10,.aload_n 0,1),(11,.getfield 24,3),(14,.aload_n 0,1),(15,.getfield 233,3),(18,.iconst 0,1),(19,.iastore,1),(20,.aload_n 0,1),(21,.getfield 27,3),(24,.aload_n 0,1),(25,.getfield 233,3),(28,.iconst 4,1),(29,.iastore,1),(30,.aload_n 0,1),(31,.getfield 30,3),(34,.aload_n 0,1),(35,.getfield 233,3),(38,.iconst 2,1),(39,.iastore,1),(40,.aload_n 0,1),(41,.getfield 33,3),(44,.aload_n 0,1),(45,.getfield 233,3),(48,.bipush 13,2),(50,.iastore,1),(51,.aload_n 0,1),(52,.getfield 36,3),(55,.aload_n 0,1),(56,.getfield 233,3),(59,.iconst 0,1),(60,.iastore,1),(61,.aload_n 0,1),(62,.getfield 39,3),(65,.aload_n 0,1),(66,.getfield 233,3),(69,.iconst 0,1),(70,.iastore,1),(71,.aload_n 0,1),(72,.getfield 42,3),(75,.aload_n 0,1),(76,.getfield 233,3),(79,.iconst 0,1),(80,.iastore,1),(81,.aload_n 0,1),(82,.sipush 560,3),(85,.aload_n 0,1),(86,.getfield 233,3),(89,.imul,1),(90,.putfield 236,3),(93,.return_,1)]
set_option maxRecDepth 100000 in
theorem dkX12_clearBank : rf_decs prog_14_method_15_code ddX12_clearBank := rf_decs_of (by decide +kernel)
set_option maxHeartbeats 8000000 in
set_option maxRecDepth 20000 in
theorem hp_clear1 {G : rfG} (hG : okG G) : rf_met G q680_M := by
  refine h_rfOf hG.1 (by decide +kernel) (by decide) hG.2.2.1 (wflT hG flokX12) (wcsT hG csokX12) (by decide +kernel) ?_
  intro vs w0 X hv_ hr hp c
  match vs, hv_ with
  | [_], ⟨⟨_, hj0, rfl⟩, _⟩ =>
  cases List.mem_singleton.mp hj0
  have hd : ∀ n pc i len, ddX12_clearBank[n]? = some (pc, i, len) → decode (mb q680_M) pc = .ok (i, len) := fun n pc i len h => hdk dkX12_clearBank n pc i len h
  show hW G X q680_M w0 0 [(0, .ref (G.2.1.1 114))] [] (hv w0)
  generalize hF0 : hv w0 = F at *
  have hrb_ := hp _ (List.mem_of_getElem? (i := 0) rfl)
  have hrb : (F 114 29).toInt = 1 := by have h1 : 1 ≤ (F 114 29).toInt := hrb_.1; have h2 : (F 114 29).toInt ≤ 1 := hrb_.2.1; omega
  refine h_aln c (hd 0 0 _ _ rfl) (by rfl) (hat 1 rfl ?_)
  refine h_getR c (hd 1 1 _ _ rfl) fgX12_20 gnX12_20_114 (hat 4 rfl ?_)
  refine h_aln c (hd 2 4 _ _ rfl) (by rfl) (hat 5 rfl ?_)
  refine h_getI c (hd 3 5 _ _ rfl) fgX12_233 gnX12_233_114 (x := F 114 29) (rfl) (hat 8 rfl ?_)
  refine h_ic c (hd 4 8 _ _ rfl) (by decide) (fun v8 e8 => hat 9 rfl ?_)
  refine h_iast c (hd 5 9 _ _ rfl) la_73 ⟨by omega, by omega⟩ (congrArg Int.toNat hrb) (by decide) (by decide) (hin1 (rf_in1 (by omega) (by omega))) (hat 10 rfl ?_)
  refine h_aln c (hd 6 10 _ _ rfl) (by rfl) (hat 11 rfl ?_)
  refine h_getR c (hd 7 11 _ _ rfl) fgX12_24 gnX12_24_114 (hat 14 rfl ?_)
  refine h_aln c (hd 8 14 _ _ rfl) (by rfl) (hat 15 rfl ?_)
  refine h_getI c (hd 9 15 _ _ rfl) fgX12_233 gnX12_233_114 (x := F 114 29) (rfl) (hat 18 rfl ?_)
  refine h_ic c (hd 10 18 _ _ rfl) (by decide) (fun v18 e18 => hat 19 rfl ?_)
  refine h_iast c (hd 11 19 _ _ rfl) la_74 ⟨by omega, by omega⟩ (congrArg Int.toNat hrb) (by decide) (by decide) (hin1 (rf_in1 (by omega) (by omega))) (hat 20 rfl ?_)
  refine h_aln c (hd 12 20 _ _ rfl) (by rfl) (hat 21 rfl ?_)
  refine h_getR c (hd 13 21 _ _ rfl) fgX12_27 gnX12_27_114 (hat 24 rfl ?_)
  refine h_aln c (hd 14 24 _ _ rfl) (by rfl) (hat 25 rfl ?_)
  refine h_getI c (hd 15 25 _ _ rfl) fgX12_233 gnX12_233_114 (x := F 114 29) (rfl) (hat 28 rfl ?_)
  refine h_ic c (hd 16 28 _ _ rfl) (by decide) (fun v28 e28 => hat 29 rfl ?_)
  refine h_iast c (hd 17 29 _ _ rfl) la_75 ⟨by omega, by omega⟩ (congrArg Int.toNat hrb) (by decide) (by decide) (hin1 (rf_in1 (by omega) (by omega))) (hat 30 rfl ?_)
  refine h_aln c (hd 18 30 _ _ rfl) (by rfl) (hat 31 rfl ?_)
  refine h_getR c (hd 19 31 _ _ rfl) fgX12_30 gnX12_30_114 (hat 34 rfl ?_)
  refine h_aln c (hd 20 34 _ _ rfl) (by rfl) (hat 35 rfl ?_)
  refine h_getI c (hd 21 35 _ _ rfl) fgX12_233 gnX12_233_114 (x := F 114 29) (rfl) (hat 38 rfl ?_)
  refine h_ic c (hd 22 38 _ _ rfl) (by decide) (fun v38 e38 => hat 39 rfl ?_)
  refine h_iast c (hd 23 39 _ _ rfl) la_76 ⟨by omega, by omega⟩ (congrArg Int.toNat hrb) (by decide) (by decide) (hin1 (rf_in1 (by omega) (by omega))) (hat 40 rfl ?_)
  refine h_aln c (hd 24 40 _ _ rfl) (by rfl) (hat 41 rfl ?_)
  refine h_getR c (hd 25 41 _ _ rfl) fgX12_33 gnX12_33_114 (hat 44 rfl ?_)
  refine h_aln c (hd 26 44 _ _ rfl) (by rfl) (hat 45 rfl ?_)
  refine h_getI c (hd 27 45 _ _ rfl) fgX12_233 gnX12_233_114 (x := F 114 29) (rfl) (hat 48 rfl ?_)
  refine h_bp c (hd 28 48 _ _ rfl) (by decide) (fun v48 e48 => hat 50 rfl ?_)
  refine h_iast c (hd 29 50 _ _ rfl) la_77 ⟨by omega, by omega⟩ (congrArg Int.toNat hrb) (by decide) (by decide) (rf_in1 (by omega) (by omega)) (hat 51 rfl ?_)
  refine h_aln c (hd 30 51 _ _ rfl) (by rfl) (hat 52 rfl ?_)
  refine h_getR c (hd 31 52 _ _ rfl) fgX12_36 gnX12_36_114 (hat 55 rfl ?_)
  refine h_aln c (hd 32 55 _ _ rfl) (by rfl) (hat 56 rfl ?_)
  refine h_getI c (hd 33 56 _ _ rfl) fgX12_233 gnX12_233_114 (x := F 114 29) (rfl) (hat 59 rfl ?_)
  refine h_ic c (hd 34 59 _ _ rfl) (by decide) (fun v59 e59 => hat 60 rfl ?_)
  refine h_iast c (hd 35 60 _ _ rfl) la_78 ⟨by omega, by omega⟩ (congrArg Int.toNat hrb) (by decide) (by decide) (hin1 (rf_in1 (by omega) (by omega))) (hat 61 rfl ?_)
  refine h_aln c (hd 36 61 _ _ rfl) (by rfl) (hat 62 rfl ?_)
  refine h_getR c (hd 37 62 _ _ rfl) fgX12_39 gnX12_39_114 (hat 65 rfl ?_)
  refine h_aln c (hd 38 65 _ _ rfl) (by rfl) (hat 66 rfl ?_)
  refine h_getI c (hd 39 66 _ _ rfl) fgX12_233 gnX12_233_114 (x := F 114 29) (rfl) (hat 69 rfl ?_)
  refine h_ic c (hd 40 69 _ _ rfl) (by decide) (fun v69 e69 => hat 70 rfl ?_)
  refine h_iast c (hd 41 70 _ _ rfl) la_79 ⟨by omega, by omega⟩ (congrArg Int.toNat hrb) (by decide) (by decide) (hin1 (rf_in1 (by omega) (by omega))) (hat 71 rfl ?_)
  refine h_aln c (hd 42 71 _ _ rfl) (by rfl) (hat 72 rfl ?_)
  refine h_getR c (hd 43 72 _ _ rfl) fgX12_42 gnX12_42_114 (hat 75 rfl ?_)
  refine h_aln c (hd 44 75 _ _ rfl) (by rfl) (hat 76 rfl ?_)
  refine h_getI c (hd 45 76 _ _ rfl) fgX12_233 gnX12_233_114 (x := F 114 29) (rfl) (hat 79 rfl ?_)
  refine h_ic c (hd 46 79 _ _ rfl) (by decide) (fun v79 e79 => hat 80 rfl ?_)
  refine h_iast c (hd 47 80 _ _ rfl) la_80 ⟨by omega, by omega⟩ (congrArg Int.toNat hrb) (by decide) (by decide) (hin1 (rf_in1 (by omega) (by omega))) (hat 81 rfl ?_)
  refine h_aln c (hd 48 81 _ _ rfl) (by rfl) (hat 82 rfl ?_)
  refine h_sp c (hd 49 82 _ _ rfl) (by decide) (fun v82 e82 => hat 85 rfl ?_)
  refine h_aln c (hd 50 85 _ _ rfl) (by rfl) (hat 86 rfl ?_)
  refine h_getI c (hd 51 86 _ _ rfl) fgX12_233 gnX12_233_114 (x := F 114 29) (rfl) (hat 89 rfl ?_)
  refine h_mul c (hd 52 89 _ _ rfl) e82 (by omega) (fun v89 e89 => hat 90 rfl ?_)
  refine h_putI c (hd 53 90 _ _ rfl) fgX12_236 gnX12_236_114 (by decide) (by decide) rfl (rf_in1 (by omega) (by omega)) (hat 93 rfl ?_)
  have hg2 : hgh (hupd (hupd (hupd (hupd (hupd (hupd (hupd (hupd (hupd F 73 1 v8) 74 1 v18) 75 1 v28) 76 1 v38) 77 1 v48) 78 1 v59) 79 1 v69) 80 1 v79) 114 30 v89) 2 = true := hgC_mk (b := 1) (c := 560) (u := 0) hrb (show v89.toInt = _ by omega) (by show ((hupd (hupd (hupd (hupd (hupd (hupd (hupd (hupd (hupd F 73 1 v8) 74 1 v18) 75 1 v28) 76 1 v38) 77 1 v48) 78 1 v59) 79 1 v69) 80 1 v79) 114 30 v89) 74 (F 114 29).toInt.toNat).toInt = _; rw [hrb]; show v18.toInt = _; omega) (by omega)
  exact h_vret c (hd 54 93 _ _ rfl) rfl (fun _ => ⟨_, List.mem_cons_self, trivial, fun q hq => absurd hq List.not_mem_nil, hfs_mk ⟨⟨hcon (x := v8) (by omega), trivial⟩, ⟨hcon (x := v18) (by omega), trivial⟩, ⟨hcon (x := v28) (by omega), trivial⟩, ⟨hcon (x := v38) (by omega), trivial⟩, ⟨hcon (x := v48) (by omega), trivial⟩, ⟨hcon (x := v59) (by omega), trivial⟩, ⟨hcon (x := v69) (by omega), trivial⟩, ⟨hcon (x := v79) (by omega), trivial⟩, ⟨hcon (x := v89) (by omega), trivial⟩, ⟨hg_in hg2, trivial⟩, trivial⟩⟩)
set_option maxHeartbeats 8000000 in
set_option maxRecDepth 20000 in
theorem hp_clear0 {G : rfG} (hG : okG G) : rf_met G q757_M := by
  refine h_rfOf hG.1 (by decide +kernel) (by decide) hG.2.2.1 (wflT hG flokX12) (wcsT hG csokX12) (by decide +kernel) ?_
  intro vs w0 X hv_ hr hp c
  match vs, hv_ with
  | [_], ⟨⟨_, hj0, rfl⟩, _⟩ =>
  cases List.mem_singleton.mp hj0
  have hd : ∀ n pc i len, ddX12_clearBank[n]? = some (pc, i, len) → decode (mb q757_M) pc = .ok (i, len) := fun n pc i len h => hdk dkX12_clearBank n pc i len h
  show hW G X q757_M w0 0 [(0, .ref (G.2.1.1 114))] [] (hv w0)
  generalize hF0 : hv w0 = F at *
  have hrb_ := hp _ (List.mem_of_getElem? (i := 1) rfl)
  have hrb : (F 114 29).toInt = 0 := by have h1 : 0 ≤ (F 114 29).toInt := hrb_.1; have h2 : (F 114 29).toInt ≤ 0 := hrb_.2.1; omega
  refine h_aln c (hd 0 0 _ _ rfl) (by rfl) (hat 1 rfl ?_)
  refine h_getR c (hd 1 1 _ _ rfl) fgX12_20 gnX12_20_114 (hat 4 rfl ?_)
  refine h_aln c (hd 2 4 _ _ rfl) (by rfl) (hat 5 rfl ?_)
  refine h_getI c (hd 3 5 _ _ rfl) fgX12_233 gnX12_233_114 (x := F 114 29) (rfl) (hat 8 rfl ?_)
  refine h_ic c (hd 4 8 _ _ rfl) (by decide) (fun v8 e8 => hat 9 rfl ?_)
  refine h_iast c (hd 5 9 _ _ rfl) la_73 ⟨by omega, by omega⟩ (congrArg Int.toNat hrb) (by decide) (by decide) (hin1 (rf_in1 (by omega) (by omega))) (hat 10 rfl ?_)
  refine h_aln c (hd 6 10 _ _ rfl) (by rfl) (hat 11 rfl ?_)
  refine h_getR c (hd 7 11 _ _ rfl) fgX12_24 gnX12_24_114 (hat 14 rfl ?_)
  refine h_aln c (hd 8 14 _ _ rfl) (by rfl) (hat 15 rfl ?_)
  refine h_getI c (hd 9 15 _ _ rfl) fgX12_233 gnX12_233_114 (x := F 114 29) (rfl) (hat 18 rfl ?_)
  refine h_ic c (hd 10 18 _ _ rfl) (by decide) (fun v18 e18 => hat 19 rfl ?_)
  refine h_iast c (hd 11 19 _ _ rfl) la_74 ⟨by omega, by omega⟩ (congrArg Int.toNat hrb) (by decide) (by decide) (hin1 (rf_in1 (by omega) (by omega))) (hat 20 rfl ?_)
  refine h_aln c (hd 12 20 _ _ rfl) (by rfl) (hat 21 rfl ?_)
  refine h_getR c (hd 13 21 _ _ rfl) fgX12_27 gnX12_27_114 (hat 24 rfl ?_)
  refine h_aln c (hd 14 24 _ _ rfl) (by rfl) (hat 25 rfl ?_)
  refine h_getI c (hd 15 25 _ _ rfl) fgX12_233 gnX12_233_114 (x := F 114 29) (rfl) (hat 28 rfl ?_)
  refine h_ic c (hd 16 28 _ _ rfl) (by decide) (fun v28 e28 => hat 29 rfl ?_)
  refine h_iast c (hd 17 29 _ _ rfl) la_75 ⟨by omega, by omega⟩ (congrArg Int.toNat hrb) (by decide) (by decide) (hin1 (rf_in1 (by omega) (by omega))) (hat 30 rfl ?_)
  refine h_aln c (hd 18 30 _ _ rfl) (by rfl) (hat 31 rfl ?_)
  refine h_getR c (hd 19 31 _ _ rfl) fgX12_30 gnX12_30_114 (hat 34 rfl ?_)
  refine h_aln c (hd 20 34 _ _ rfl) (by rfl) (hat 35 rfl ?_)
  refine h_getI c (hd 21 35 _ _ rfl) fgX12_233 gnX12_233_114 (x := F 114 29) (rfl) (hat 38 rfl ?_)
  refine h_ic c (hd 22 38 _ _ rfl) (by decide) (fun v38 e38 => hat 39 rfl ?_)
  refine h_iast c (hd 23 39 _ _ rfl) la_76 ⟨by omega, by omega⟩ (congrArg Int.toNat hrb) (by decide) (by decide) (hin1 (rf_in1 (by omega) (by omega))) (hat 40 rfl ?_)
  refine h_aln c (hd 24 40 _ _ rfl) (by rfl) (hat 41 rfl ?_)
  refine h_getR c (hd 25 41 _ _ rfl) fgX12_33 gnX12_33_114 (hat 44 rfl ?_)
  refine h_aln c (hd 26 44 _ _ rfl) (by rfl) (hat 45 rfl ?_)
  refine h_getI c (hd 27 45 _ _ rfl) fgX12_233 gnX12_233_114 (x := F 114 29) (rfl) (hat 48 rfl ?_)
  refine h_bp c (hd 28 48 _ _ rfl) (by decide) (fun v48 e48 => hat 50 rfl ?_)
  refine h_iast c (hd 29 50 _ _ rfl) la_77 ⟨by omega, by omega⟩ (congrArg Int.toNat hrb) (by decide) (by decide) (rf_in1 (by omega) (by omega)) (hat 51 rfl ?_)
  refine h_aln c (hd 30 51 _ _ rfl) (by rfl) (hat 52 rfl ?_)
  refine h_getR c (hd 31 52 _ _ rfl) fgX12_36 gnX12_36_114 (hat 55 rfl ?_)
  refine h_aln c (hd 32 55 _ _ rfl) (by rfl) (hat 56 rfl ?_)
  refine h_getI c (hd 33 56 _ _ rfl) fgX12_233 gnX12_233_114 (x := F 114 29) (rfl) (hat 59 rfl ?_)
  refine h_ic c (hd 34 59 _ _ rfl) (by decide) (fun v59 e59 => hat 60 rfl ?_)
  refine h_iast c (hd 35 60 _ _ rfl) la_78 ⟨by omega, by omega⟩ (congrArg Int.toNat hrb) (by decide) (by decide) (hin1 (rf_in1 (by omega) (by omega))) (hat 61 rfl ?_)
  refine h_aln c (hd 36 61 _ _ rfl) (by rfl) (hat 62 rfl ?_)
  refine h_getR c (hd 37 62 _ _ rfl) fgX12_39 gnX12_39_114 (hat 65 rfl ?_)
  refine h_aln c (hd 38 65 _ _ rfl) (by rfl) (hat 66 rfl ?_)
  refine h_getI c (hd 39 66 _ _ rfl) fgX12_233 gnX12_233_114 (x := F 114 29) (rfl) (hat 69 rfl ?_)
  refine h_ic c (hd 40 69 _ _ rfl) (by decide) (fun v69 e69 => hat 70 rfl ?_)
  refine h_iast c (hd 41 70 _ _ rfl) la_79 ⟨by omega, by omega⟩ (congrArg Int.toNat hrb) (by decide) (by decide) (hin1 (rf_in1 (by omega) (by omega))) (hat 71 rfl ?_)
  refine h_aln c (hd 42 71 _ _ rfl) (by rfl) (hat 72 rfl ?_)
  refine h_getR c (hd 43 72 _ _ rfl) fgX12_42 gnX12_42_114 (hat 75 rfl ?_)
  refine h_aln c (hd 44 75 _ _ rfl) (by rfl) (hat 76 rfl ?_)
  refine h_getI c (hd 45 76 _ _ rfl) fgX12_233 gnX12_233_114 (x := F 114 29) (rfl) (hat 79 rfl ?_)
  refine h_ic c (hd 46 79 _ _ rfl) (by decide) (fun v79 e79 => hat 80 rfl ?_)
  refine h_iast c (hd 47 80 _ _ rfl) la_80 ⟨by omega, by omega⟩ (congrArg Int.toNat hrb) (by decide) (by decide) (hin1 (rf_in1 (by omega) (by omega))) (hat 81 rfl ?_)
  refine h_aln c (hd 48 81 _ _ rfl) (by rfl) (hat 82 rfl ?_)
  refine h_sp c (hd 49 82 _ _ rfl) (by decide) (fun v82 e82 => hat 85 rfl ?_)
  refine h_aln c (hd 50 85 _ _ rfl) (by rfl) (hat 86 rfl ?_)
  refine h_getI c (hd 51 86 _ _ rfl) fgX12_233 gnX12_233_114 (x := F 114 29) (rfl) (hat 89 rfl ?_)
  refine h_mul c (hd 52 89 _ _ rfl) e82 (by omega) (fun v89 e89 => hat 90 rfl ?_)
  refine h_putI c (hd 53 90 _ _ rfl) fgX12_236 gnX12_236_114 (by decide) (by decide) rfl (rf_in1 (by omega) (by omega)) (hat 93 rfl ?_)
  have hpk : rf_in (1,31,1) (F 77 1).toInt := hp _ (List.mem_of_getElem? (i := 0) rfl)
  have hg2 : hgh (hupd (hupd (hupd (hupd (hupd (hupd (hupd (hupd (hupd F 73 0 v8) 74 0 v18) 75 0 v28) 76 0 v38) 77 0 v48) 78 0 v59) 79 0 v69) 80 0 v79) 114 30 v89) 2 = true := hgC_mk (b := 0) (c := 0) (u := 0) hrb (show v89.toInt = _ by omega) (by show ((hupd (hupd (hupd (hupd (hupd (hupd (hupd (hupd (hupd F 73 0 v8) 74 0 v18) 75 0 v28) 76 0 v38) 77 0 v48) 78 0 v59) 79 0 v69) 80 0 v79) 114 30 v89) 74 (F 114 29).toInt.toNat).toInt = _; rw [hrb]; show v18.toInt = _; omega) (by omega)
  exact h_vret c (hd 54 93 _ _ rfl) rfl (fun _ => ⟨_, List.mem_cons_self, trivial, fun q hq => absurd hq List.not_mem_nil, hfs_mk ⟨⟨hcon (x := v8) (by omega), trivial⟩, ⟨hcon (x := v18) (by omega), trivial⟩, ⟨hcon (x := v28) (by omega), trivial⟩, ⟨hcon (x := v38) (by omega), trivial⟩, ⟨hcon (x := v48) (by omega), trivial⟩, ⟨hpk, trivial⟩, ⟨hcon (x := v59) (by omega), trivial⟩, ⟨hcon (x := v69) (by omega), trivial⟩, ⟨hcon (x := v79) (by omega), trivial⟩, ⟨hcon (x := v89) (by omega), trivial⟩, ⟨hg_in hg2, trivial⟩, trivial⟩⟩)
