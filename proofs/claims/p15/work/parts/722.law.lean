def ddL24 : List (Nat × Instr × Nat) := [(848, .aload_n 1, 1), (849, .aload_n 0, 1), (850, .iload_n 3, 1), (851, .iconst 1, 1), (852, .iadd, 1), (853, .iaload, 1), (854, .invokevirtual 114, 3), (857, .pop, 1), (858, .aload_n 2, 1), (859, .aload_n 0, 1), (860, .iload_n 3, 1), (861, .iconst 1, 1), (862, .iadd, 1), (863, .iaload, 1), (864, .invokevirtual 117, 3), (867, .pop, 1), (868, .goto 545, 3)]
set_option maxRecDepth 100000 in
theorem dkL24 : rf_decs code ddL24 := rf_decs_of (by decide +kernel)
set_option maxHeartbeats 8000000 in
set_option maxRecDepth 100000 in
theorem lw_case24 {X : rfX} {G : rfG} {b Ln : Nat} {sc : Nat → Int32} {n sl : Nat} (C : lwC X G b Ln sc n sl) {i : Int32} (h0 : 0 ≤ i.toInt) (h1 : i.toInt + 5 < (Ln : Int)) (KK : ∀ ws', rf_world G.2.1.1 G.2.1.2.1 G.2.1.2.2.1 G.2.1.2.2.2 ws' → lwInv (hv ws') → kW X n sl 1413 [(3, .int i), (2, .ref (G.2.1.1 114)), (1, .ref (G.2.1.1 70)), (0, .ref b)] [] ws') {ws : va_W} (hw : rf_world G.2.1.1 G.2.1.2.1 G.2.1.2.2.1 G.2.1.2.2.2 ws) (hI : lwInv (hv ws)) : kW X n sl 848 [(3, .int i), (2, .ref (G.2.1.1 114)), (1, .ref (G.2.1.1 70)), (0, .ref b)] [] ws := by
  have hG := C.1
  have hh := w1_ok hG
  have h2 := w2_ok hG
  have c := C.2.2.1
  have hd : ∀ n pc i len, ddL24[n]? = some (pc, i, len) → decode code pc = .ok (i, len) := fun n pc i len h => hdk dkL24 n pc i len h
  have KM : ∀ ws, rf_world G.2.1.1 G.2.1.2.1 G.2.1.2.2.1 G.2.1.2.2.2 ws → lwInv (hv ws) → kW X n sl 858 [(3, .int i), (2, .ref (G.2.1.1 114)), (1, .ref (G.2.1.1 70)), (0, .ref b)] [] ws := by
    intro ws hw hI
    have hr : hrng wLay (hv ws) := by rw [← hG.2.2.1]; exact hrng_at hw
    have r16_4 : 0 ≤ (hv ws 16 4).toInt ∧ (hv ws 16 4).toInt ≤ 40 := hrg hr ly_16_4
    have r16_5 : 0 ≤ (hv ws 16 5).toInt ∧ (hv ws 16 5).toInt ≤ 40 := hrg hr ly_16_5
    have r114_55 : 0 ≤ (hv ws 114 55).toInt ∧ (hv ws 114 55).toInt ≤ 40 := hrg hr ly_114_55
    have r114_56 : 0 ≤ (hv ws 114 56).toInt ∧ (hv ws 114 56).toInt ≤ 40 := hrg hr ly_114_56
    have r77_1 : 0 ≤ (hv ws 77 1).toInt ∧ (hv ws 77 1).toInt ≤ 31 := hrg hr ly_77_1
    have hA_ := hI.2.2.1
    have hB_ := hI.2.2.2.1
    refine k_al c (hd 8 858 _ _ rfl) (by rfl) (k_pc 859 rfl ?_)
    refine k_al c (hd 9 859 _ _ rfl) (by rfl) (k_pc 860 rfl ?_)
    refine k_il c (hd 10 860 _ _ rfl) (by rfl) (k_pc 861 rfl ?_)
    refine k_ic c (hd 11 861 _ _ rfl) (v := 1) (by decide) (k_pc 862 rfl ?_)
    refine k_addE c (hd 12 862 _ _ rfl) (k_pc 863 rfl ?_)
    refine k_sld C (lw_in h0 h1 C.2.2.2.2.1 (by decide)) (hd 13 863 _ _ rfl) (k_pc 864 rfl ?_)
    rcases hI.1 with hb_ | hb_
    · skip
      refine k_callM C (M := q1052_M) (q1052_met hG hh) (by decide +kernel) (by decide +kernel) (wlkV (lkL_117 hG) _ rfl rfl) (j := 114) (by decide +kernel) ⟨Nat.le_of_ble_eq_true rfl, Nat.le_of_ble_eq_true rfl⟩ (hd 14 864 _ _ rfl) [.int (sc (i + 1).toNatClampNeg)] (rest := []) (by rfl) ⟨⟨114, by decide, rfl⟩, ⟨_, rfl, rf_in_top _, trivial⟩, trivial⟩ (Nat.le_of_ble_eq_true rfl) hw (List.forall_mem_cons.mpr ⟨hcon (x := hv ws 114 28) (by omega), List.forall_mem_cons.mpr ⟨hg_in hI.2.1, fun _ h => absurd h List.not_mem_nil⟩⟩) (fun x1 ws1 hw1 hf1 hp1 => k_pc 867 rfl ?_)
      have hI1 := lwInv_k hI (by decide +kernel) hf1 (by rw [hf1 16 4 (by decide) (by rfl), hf1 16 5 (by decide) (by rfl)]; exact hI.2.2.1) (by rw [hf1 114 55 (by decide) (by rfl), hf1 114 56 (by decide) (by rfl)]; exact hI.2.2.2.1)
      refine k_pop c (hd 15 867 _ _ rfl) rfl (k_pc 868 rfl ?_)
      refine k_goto c (hd 16 868 _ _ rfl) (tgt := 1413) (by decide) ?_
      exact KK _ hw1 hI1
    · skip
      refine k_callM C (M := q1053_M) (q1053_met hG hh) (by decide +kernel) (by decide +kernel) (wlkV (lkL_117 hG) _ rfl rfl) (j := 114) (by decide +kernel) ⟨Nat.le_of_ble_eq_true rfl, Nat.le_of_ble_eq_true rfl⟩ (hd 14 864 _ _ rfl) [.int (sc (i + 1).toNatClampNeg)] (rest := []) (by rfl) ⟨⟨114, by decide, rfl⟩, ⟨_, rfl, rf_in_top _, trivial⟩, trivial⟩ (Nat.le_of_ble_eq_true rfl) hw (List.forall_mem_cons.mpr ⟨rf_in1 (show 1 ≤ (hv ws 77 1).toInt by omega) (show (hv ws 77 1).toInt ≤ 31 by omega), List.forall_mem_cons.mpr ⟨hcon (x := hv ws 114 28) (by omega), List.forall_mem_cons.mpr ⟨hg_in hI.2.1, fun _ h => absurd h List.not_mem_nil⟩⟩⟩) (fun x1 ws1 hw1 hf1 hp1 => k_pc 867 rfl ?_)
      have hI1 := lwInv_k hI (by decide +kernel) hf1 (by rw [hf1 16 4 (by decide) (by rfl), hf1 16 5 (by decide) (by rfl)]; exact hI.2.2.1) (by rw [hf1 114 55 (by decide) (by rfl), hf1 114 56 (by decide) (by rfl)]; exact hI.2.2.2.1)
      refine k_pop c (hd 15 867 _ _ rfl) rfl (k_pc 868 rfl ?_)
      refine k_goto c (hd 16 868 _ _ rfl) (tgt := 1413) (by decide) ?_
      exact KK _ hw1 hI1
  have hr : hrng wLay (hv ws) := by rw [← hG.2.2.1]; exact hrng_at hw
  have r16_4 : 0 ≤ (hv ws 16 4).toInt ∧ (hv ws 16 4).toInt ≤ 40 := hrg hr ly_16_4
  have r16_5 : 0 ≤ (hv ws 16 5).toInt ∧ (hv ws 16 5).toInt ≤ 40 := hrg hr ly_16_5
  have r114_55 : 0 ≤ (hv ws 114 55).toInt ∧ (hv ws 114 55).toInt ≤ 40 := hrg hr ly_114_55
  have r114_56 : 0 ≤ (hv ws 114 56).toInt ∧ (hv ws 114 56).toInt ≤ 40 := hrg hr ly_114_56
  have r77_1 : 0 ≤ (hv ws 77 1).toInt ∧ (hv ws 77 1).toInt ≤ 31 := hrg hr ly_77_1
  have hA_ := hI.2.2.1
  have hB_ := hI.2.2.2.1
  refine k_al c (hd 0 848 _ _ rfl) (by rfl) (k_pc 849 rfl ?_)
  refine k_al c (hd 1 849 _ _ rfl) (by rfl) (k_pc 850 rfl ?_)
  refine k_il c (hd 2 850 _ _ rfl) (by rfl) (k_pc 851 rfl ?_)
  refine k_ic c (hd 3 851 _ _ rfl) (v := 1) (by decide) (k_pc 852 rfl ?_)
  refine k_addE c (hd 4 852 _ _ rfl) (k_pc 853 rfl ?_)
  refine k_sld C (lw_in h0 h1 C.2.2.2.2.1 (by decide)) (hd 5 853 _ _ rfl) (k_pc 854 rfl ?_)
  refine k_callM C (M := q497_M) (q497_met hG) (by decide +kernel) (by decide +kernel) (wlkV (lkL_114 hG) _ rfl rfl) (j := 70) (by decide +kernel) ⟨Nat.le_of_ble_eq_true rfl, Nat.le_of_ble_eq_true rfl⟩ (hd 6 854 _ _ rfl) [.int (sc (i + 1).toNatClampNeg)] (rest := []) (by rfl) ⟨⟨70, by decide, rfl⟩, ⟨_, rfl, rf_in_top _, trivial⟩, trivial⟩ (Nat.le_of_ble_eq_true rfl) hw (fun _ h => absurd h List.not_mem_nil) (fun x1 ws1 hw1 hf1 hp1 => k_pc 857 rfl ?_)
  have hI1 := lwInv_k hI (by decide +kernel) hf1 (by rw [hf1 16 4 (by decide) (by rfl), hf1 16 5 (by decide) (by rfl)]; exact hI.2.2.1) (by rw [hf1 114 55 (by decide) (by rfl), hf1 114 56 (by decide) (by rfl)]; exact hI.2.2.2.1)
  refine k_pop c (hd 7 857 _ _ rfl) rfl (k_pc 858 rfl ?_)
  exact KM _ hw1 hI1
def ddL25 : List (Nat × Instr × Nat) := [(871, .aload_n 1, 1), (872, .aload_n 0, 1), (873, .iload_n 3, 1), (874, .iconst 1, 1), (875, .iadd, 1), (876, .iaload, 1), (877, .invokevirtual 118, 3), (880, .pop, 1), (881, .aload_n 2, 1), (882, .aload_n 0, 1), (883, .iload_n 3, 1), (884, .iconst 1, 1), (885, .iadd, 1), (886, .iaload, 1), (887, .invokevirtual 121, 3), (890, .pop, 1), (891, .goto 522, 3)]
set_option maxRecDepth 100000 in
theorem dkL25 : rf_decs code ddL25 := rf_decs_of (by decide +kernel)
set_option maxHeartbeats 8000000 in
set_option maxRecDepth 100000 in
theorem lw_case25 {X : rfX} {G : rfG} {b Ln : Nat} {sc : Nat → Int32} {n sl : Nat} (C : lwC X G b Ln sc n sl) {i : Int32} (h0 : 0 ≤ i.toInt) (h1 : i.toInt + 5 < (Ln : Int)) (KK : ∀ ws', rf_world G.2.1.1 G.2.1.2.1 G.2.1.2.2.1 G.2.1.2.2.2 ws' → lwInv (hv ws') → kW X n sl 1413 [(3, .int i), (2, .ref (G.2.1.1 114)), (1, .ref (G.2.1.1 70)), (0, .ref b)] [] ws') {ws : va_W} (hw : rf_world G.2.1.1 G.2.1.2.1 G.2.1.2.2.1 G.2.1.2.2.2 ws) (hI : lwInv (hv ws)) : kW X n sl 871 [(3, .int i), (2, .ref (G.2.1.1 114)), (1, .ref (G.2.1.1 70)), (0, .ref b)] [] ws := by
  have hG := C.1
  have hh := w1_ok hG
  have h2 := w2_ok hG
  have c := C.2.2.1
  have hd : ∀ n pc i len, ddL25[n]? = some (pc, i, len) → decode code pc = .ok (i, len) := fun n pc i len h => hdk dkL25 n pc i len h
  have KM : ∀ ws, rf_world G.2.1.1 G.2.1.2.1 G.2.1.2.2.1 G.2.1.2.2.2 ws → lwInv (hv ws) → kW X n sl 881 [(3, .int i), (2, .ref (G.2.1.1 114)), (1, .ref (G.2.1.1 70)), (0, .ref b)] [] ws := by
    intro ws hw hI
    have hr : hrng wLay (hv ws) := by rw [← hG.2.2.1]; exact hrng_at hw
    have r16_4 : 0 ≤ (hv ws 16 4).toInt ∧ (hv ws 16 4).toInt ≤ 40 := hrg hr ly_16_4
    have r16_5 : 0 ≤ (hv ws 16 5).toInt ∧ (hv ws 16 5).toInt ≤ 40 := hrg hr ly_16_5
    have r114_55 : 0 ≤ (hv ws 114 55).toInt ∧ (hv ws 114 55).toInt ≤ 40 := hrg hr ly_114_55
    have r114_56 : 0 ≤ (hv ws 114 56).toInt ∧ (hv ws 114 56).toInt ≤ 40 := hrg hr ly_114_56
    have r77_1 : 0 ≤ (hv ws 77 1).toInt ∧ (hv ws 77 1).toInt ≤ 31 := hrg hr ly_77_1
    have hA_ := hI.2.2.1
    have hB_ := hI.2.2.2.1
    refine k_al c (hd 8 881 _ _ rfl) (by rfl) (k_pc 882 rfl ?_)
    refine k_al c (hd 9 882 _ _ rfl) (by rfl) (k_pc 883 rfl ?_)
    refine k_il c (hd 10 883 _ _ rfl) (by rfl) (k_pc 884 rfl ?_)
    refine k_ic c (hd 11 884 _ _ rfl) (v := 1) (by decide) (k_pc 885 rfl ?_)
    refine k_addE c (hd 12 885 _ _ rfl) (k_pc 886 rfl ?_)
    refine k_sld C (lw_in h0 h1 C.2.2.2.2.1 (by decide)) (hd 13 886 _ _ rfl) (k_pc 887 rfl ?_)
    refine k_callM C (M := q1054_M) (q1054_met hG hh h2) (by decide +kernel) (by decide +kernel) (wlkV (lkL_121 hG) _ rfl rfl) (j := 114) (by decide +kernel) ⟨Nat.le_of_ble_eq_true rfl, Nat.le_of_ble_eq_true rfl⟩ (hd 14 887 _ _ rfl) [.int (sc (i + 1).toNatClampNeg)] (rest := []) (by rfl) ⟨⟨114, by decide, rfl⟩, ⟨_, rfl, rf_in_top _, trivial⟩, trivial⟩ (Nat.le_of_ble_eq_true rfl) hw (fun _ h => absurd h List.not_mem_nil) (fun x1 ws1 hw1 hf1 hp1 => k_pc 890 rfl ?_)
    have hI1 := lwInv_k hI (by decide +kernel) hf1 (by rw [hf1 16 4 (by decide) (by rfl), hf1 16 5 (by decide) (by rfl)]; exact hI.2.2.1) (by rw [hf1 114 55 (by decide) (by rfl), hf1 114 56 (by decide) (by rfl)]; exact hI.2.2.2.1)
    refine k_pop c (hd 15 890 _ _ rfl) rfl (k_pc 891 rfl ?_)
    refine k_goto c (hd 16 891 _ _ rfl) (tgt := 1413) (by decide) ?_
    exact KK _ hw1 hI1
  have hr : hrng wLay (hv ws) := by rw [← hG.2.2.1]; exact hrng_at hw
  have r16_4 : 0 ≤ (hv ws 16 4).toInt ∧ (hv ws 16 4).toInt ≤ 40 := hrg hr ly_16_4
  have r16_5 : 0 ≤ (hv ws 16 5).toInt ∧ (hv ws 16 5).toInt ≤ 40 := hrg hr ly_16_5
  have r114_55 : 0 ≤ (hv ws 114 55).toInt ∧ (hv ws 114 55).toInt ≤ 40 := hrg hr ly_114_55
  have r114_56 : 0 ≤ (hv ws 114 56).toInt ∧ (hv ws 114 56).toInt ≤ 40 := hrg hr ly_114_56
  have r77_1 : 0 ≤ (hv ws 77 1).toInt ∧ (hv ws 77 1).toInt ≤ 31 := hrg hr ly_77_1
  have hA_ := hI.2.2.1
  have hB_ := hI.2.2.2.1
  refine k_al c (hd 0 871 _ _ rfl) (by rfl) (k_pc 872 rfl ?_)
  refine k_al c (hd 1 872 _ _ rfl) (by rfl) (k_pc 873 rfl ?_)
  refine k_il c (hd 2 873 _ _ rfl) (by rfl) (k_pc 874 rfl ?_)
  refine k_ic c (hd 3 874 _ _ rfl) (v := 1) (by decide) (k_pc 875 rfl ?_)
  refine k_addE c (hd 4 875 _ _ rfl) (k_pc 876 rfl ?_)
  refine k_sld C (lw_in h0 h1 C.2.2.2.2.1 (by decide)) (hd 5 876 _ _ rfl) (k_pc 877 rfl ?_)
  refine k_callM C (M := q511_M) (q511_met hG) (by decide +kernel) (by decide +kernel) (wlkV (lkL_118 hG) _ rfl rfl) (j := 70) (by decide +kernel) ⟨Nat.le_of_ble_eq_true rfl, Nat.le_of_ble_eq_true rfl⟩ (hd 6 877 _ _ rfl) [.int (sc (i + 1).toNatClampNeg)] (rest := []) (by rfl) ⟨⟨70, by decide, rfl⟩, ⟨_, rfl, rf_in_top _, trivial⟩, trivial⟩ (Nat.le_of_ble_eq_true rfl) hw (fun _ h => absurd h List.not_mem_nil) (fun x1 ws1 hw1 hf1 hp1 => k_pc 880 rfl ?_)
  have hI1 := lwInv_k hI (by decide +kernel) hf1 (by rw [hf1 16 4 (by decide) (by rfl), hf1 16 5 (by decide) (by rfl)]; exact hI.2.2.1) (by rw [hf1 114 55 (by decide) (by rfl), hf1 114 56 (by decide) (by rfl)]; exact hI.2.2.2.1)
  refine k_pop c (hd 7 880 _ _ rfl) rfl (k_pc 881 rfl ?_)
  exact KM _ hw1 hI1
def ddL26 : List (Nat × Instr × Nat) := [(894, .aload_n 1, 1), (895, .aload_n 0, 1), (896, .iload_n 3, 1), (897, .iconst 1, 1), (898, .iadd, 1), (899, .iaload, 1), (900, .aload_n 0, 1), (901, .iload_n 3, 1), (902, .iconst 2, 1), (903, .iadd, 1), (904, .iaload, 1), (905, .invokevirtual 122, 3), (908, .pop, 1), (909, .aload_n 2, 1), (910, .aload_n 0, 1), (911, .iload_n 3, 1), (912, .iconst 1, 1), (913, .iadd, 1), (914, .iaload, 1), (915, .aload_n 0, 1), (916, .iload_n 3, 1), (917, .iconst 2, 1), (918, .iadd, 1), (919, .iaload, 1), (920, .invokevirtual 125, 3), (923, .pop, 1), (924, .goto 489, 3)]
set_option maxRecDepth 100000 in
theorem dkL26 : rf_decs code ddL26 := rf_decs_of (by decide +kernel)
set_option maxHeartbeats 8000000 in
set_option maxRecDepth 100000 in
theorem lw_case26 {X : rfX} {G : rfG} {b Ln : Nat} {sc : Nat → Int32} {n sl : Nat} (C : lwC X G b Ln sc n sl) {i : Int32} (h0 : 0 ≤ i.toInt) (h1 : i.toInt + 5 < (Ln : Int)) (KK : ∀ ws', rf_world G.2.1.1 G.2.1.2.1 G.2.1.2.2.1 G.2.1.2.2.2 ws' → lwInv (hv ws') → kW X n sl 1413 [(3, .int i), (2, .ref (G.2.1.1 114)), (1, .ref (G.2.1.1 70)), (0, .ref b)] [] ws') {ws : va_W} (hw : rf_world G.2.1.1 G.2.1.2.1 G.2.1.2.2.1 G.2.1.2.2.2 ws) (hI : lwInv (hv ws)) : kW X n sl 894 [(3, .int i), (2, .ref (G.2.1.1 114)), (1, .ref (G.2.1.1 70)), (0, .ref b)] [] ws := by
  have hG := C.1
  have hh := w1_ok hG
  have h2 := w2_ok hG
  have c := C.2.2.1
  have hd : ∀ n pc i len, ddL26[n]? = some (pc, i, len) → decode code pc = .ok (i, len) := fun n pc i len h => hdk dkL26 n pc i len h
  have KM : ∀ ws, rf_world G.2.1.1 G.2.1.2.1 G.2.1.2.2.1 G.2.1.2.2.2 ws → lwInv (hv ws) → kW X n sl 909 [(3, .int i), (2, .ref (G.2.1.1 114)), (1, .ref (G.2.1.1 70)), (0, .ref b)] [] ws := by
    intro ws hw hI
    have hr : hrng wLay (hv ws) := by rw [← hG.2.2.1]; exact hrng_at hw
    have r16_4 : 0 ≤ (hv ws 16 4).toInt ∧ (hv ws 16 4).toInt ≤ 40 := hrg hr ly_16_4
    have r16_5 : 0 ≤ (hv ws 16 5).toInt ∧ (hv ws 16 5).toInt ≤ 40 := hrg hr ly_16_5
    have r114_55 : 0 ≤ (hv ws 114 55).toInt ∧ (hv ws 114 55).toInt ≤ 40 := hrg hr ly_114_55
    have r114_56 : 0 ≤ (hv ws 114 56).toInt ∧ (hv ws 114 56).toInt ≤ 40 := hrg hr ly_114_56
    have r77_1 : 0 ≤ (hv ws 77 1).toInt ∧ (hv ws 77 1).toInt ≤ 31 := hrg hr ly_77_1
    have hA_ := hI.2.2.1
    have hB_ := hI.2.2.2.1
    refine k_al c (hd 13 909 _ _ rfl) (by rfl) (k_pc 910 rfl ?_)
    refine k_al c (hd 14 910 _ _ rfl) (by rfl) (k_pc 911 rfl ?_)
    refine k_il c (hd 15 911 _ _ rfl) (by rfl) (k_pc 912 rfl ?_)
    refine k_ic c (hd 16 912 _ _ rfl) (v := 1) (by decide) (k_pc 913 rfl ?_)
    refine k_addE c (hd 17 913 _ _ rfl) (k_pc 914 rfl ?_)
    refine k_sld C (lw_in h0 h1 C.2.2.2.2.1 (by decide)) (hd 18 914 _ _ rfl) (k_pc 915 rfl ?_)
    refine k_al c (hd 19 915 _ _ rfl) (by rfl) (k_pc 916 rfl ?_)
    refine k_il c (hd 20 916 _ _ rfl) (by rfl) (k_pc 917 rfl ?_)
    refine k_ic c (hd 21 917 _ _ rfl) (v := 2) (by decide) (k_pc 918 rfl ?_)
    refine k_addE c (hd 22 918 _ _ rfl) (k_pc 919 rfl ?_)
    refine k_sld C (lw_in h0 h1 C.2.2.2.2.1 (by decide)) (hd 23 919 _ _ rfl) (k_pc 920 rfl ?_)
    rcases hI.1 with hb_ | hb_
    · skip
      refine k_callM C (M := q1074_M) (q1074_met hG hh) (by decide +kernel) (by decide +kernel) (wlkV (lkL_125 hG) _ rfl rfl) (j := 114) (by decide +kernel) ⟨Nat.le_of_ble_eq_true rfl, Nat.le_of_ble_eq_true rfl⟩ (hd 24 920 _ _ rfl) [.int (sc (i + 1).toNatClampNeg), .int (sc (i + 2).toNatClampNeg)] (rest := []) (by rfl) ⟨⟨114, by decide, rfl⟩, ⟨_, rfl, rf_in_top _, trivial⟩, ⟨_, rfl, rf_in_top _, trivial⟩, trivial⟩ (Nat.le_of_ble_eq_true rfl) hw (List.forall_mem_cons.mpr ⟨hcon (x := hv ws 114 28) (by omega), List.forall_mem_cons.mpr ⟨hg_in hI.2.1, fun _ h => absurd h List.not_mem_nil⟩⟩) (fun x1 ws1 hw1 hf1 hp1 => k_pc 923 rfl ?_)
      have hI1 := lwInv_k hI (by decide +kernel) hf1 (by rw [hf1 16 4 (by decide) (by rfl), hf1 16 5 (by decide) (by rfl)]; exact hI.2.2.1) (by rw [hf1 114 55 (by decide) (by rfl), hf1 114 56 (by decide) (by rfl)]; exact hI.2.2.2.1)
      refine k_pop c (hd 25 923 _ _ rfl) rfl (k_pc 924 rfl ?_)
      refine k_goto c (hd 26 924 _ _ rfl) (tgt := 1413) (by decide) ?_
      exact KK _ hw1 hI1
    · skip
      refine k_callM C (M := q1075_M) (q1075_met hG hh) (by decide +kernel) (by decide +kernel) (wlkV (lkL_125 hG) _ rfl rfl) (j := 114) (by decide +kernel) ⟨Nat.le_of_ble_eq_true rfl, Nat.le_of_ble_eq_true rfl⟩ (hd 24 920 _ _ rfl) [.int (sc (i + 1).toNatClampNeg), .int (sc (i + 2).toNatClampNeg)] (rest := []) (by rfl) ⟨⟨114, by decide, rfl⟩, ⟨_, rfl, rf_in_top _, trivial⟩, ⟨_, rfl, rf_in_top _, trivial⟩, trivial⟩ (Nat.le_of_ble_eq_true rfl) hw (List.forall_mem_cons.mpr ⟨rf_in1 (show 1 ≤ (hv ws 77 1).toInt by omega) (show (hv ws 77 1).toInt ≤ 31 by omega), List.forall_mem_cons.mpr ⟨hcon (x := hv ws 114 28) (by omega), List.forall_mem_cons.mpr ⟨hg_in hI.2.1, fun _ h => absurd h List.not_mem_nil⟩⟩⟩) (fun x1 ws1 hw1 hf1 hp1 => k_pc 923 rfl ?_)
      have hI1 := lwInv_k hI (by decide +kernel) hf1 (by rw [hf1 16 4 (by decide) (by rfl), hf1 16 5 (by decide) (by rfl)]; exact hI.2.2.1) (by rw [hf1 114 55 (by decide) (by rfl), hf1 114 56 (by decide) (by rfl)]; exact hI.2.2.2.1)
      refine k_pop c (hd 25 923 _ _ rfl) rfl (k_pc 924 rfl ?_)
      refine k_goto c (hd 26 924 _ _ rfl) (tgt := 1413) (by decide) ?_
      exact KK _ hw1 hI1
  have hr : hrng wLay (hv ws) := by rw [← hG.2.2.1]; exact hrng_at hw
  have r16_4 : 0 ≤ (hv ws 16 4).toInt ∧ (hv ws 16 4).toInt ≤ 40 := hrg hr ly_16_4
  have r16_5 : 0 ≤ (hv ws 16 5).toInt ∧ (hv ws 16 5).toInt ≤ 40 := hrg hr ly_16_5
  have r114_55 : 0 ≤ (hv ws 114 55).toInt ∧ (hv ws 114 55).toInt ≤ 40 := hrg hr ly_114_55
  have r114_56 : 0 ≤ (hv ws 114 56).toInt ∧ (hv ws 114 56).toInt ≤ 40 := hrg hr ly_114_56
  have r77_1 : 0 ≤ (hv ws 77 1).toInt ∧ (hv ws 77 1).toInt ≤ 31 := hrg hr ly_77_1
  have hA_ := hI.2.2.1
  have hB_ := hI.2.2.2.1
  refine k_al c (hd 0 894 _ _ rfl) (by rfl) (k_pc 895 rfl ?_)
  refine k_al c (hd 1 895 _ _ rfl) (by rfl) (k_pc 896 rfl ?_)
  refine k_il c (hd 2 896 _ _ rfl) (by rfl) (k_pc 897 rfl ?_)
  refine k_ic c (hd 3 897 _ _ rfl) (v := 1) (by decide) (k_pc 898 rfl ?_)
  refine k_addE c (hd 4 898 _ _ rfl) (k_pc 899 rfl ?_)
  refine k_sld C (lw_in h0 h1 C.2.2.2.2.1 (by decide)) (hd 5 899 _ _ rfl) (k_pc 900 rfl ?_)
  refine k_al c (hd 6 900 _ _ rfl) (by rfl) (k_pc 901 rfl ?_)
  refine k_il c (hd 7 901 _ _ rfl) (by rfl) (k_pc 902 rfl ?_)
  refine k_ic c (hd 8 902 _ _ rfl) (v := 2) (by decide) (k_pc 903 rfl ?_)
  refine k_addE c (hd 9 903 _ _ rfl) (k_pc 904 rfl ?_)
  refine k_sld C (lw_in h0 h1 C.2.2.2.2.1 (by decide)) (hd 10 904 _ _ rfl) (k_pc 905 rfl ?_)
  refine k_callM C (M := q579_M) (q579_met hG) (by decide +kernel) (by decide +kernel) (wlkV (lkL_122 hG) _ rfl rfl) (j := 70) (by decide +kernel) ⟨Nat.le_of_ble_eq_true rfl, Nat.le_of_ble_eq_true rfl⟩ (hd 11 905 _ _ rfl) [.int (sc (i + 1).toNatClampNeg), .int (sc (i + 2).toNatClampNeg)] (rest := []) (by rfl) ⟨⟨70, by decide, rfl⟩, ⟨_, rfl, rf_in_top _, trivial⟩, ⟨_, rfl, rf_in_top _, trivial⟩, trivial⟩ (Nat.le_of_ble_eq_true rfl) hw (fun _ h => absurd h List.not_mem_nil) (fun x1 ws1 hw1 hf1 hp1 => k_pc 908 rfl ?_)
  have hI1 := lwInv_k hI (by decide +kernel) hf1 (by rw [hf1 16 4 (by decide) (by rfl), hf1 16 5 (by decide) (by rfl)]; exact hI.2.2.1) (by rw [hf1 114 55 (by decide) (by rfl), hf1 114 56 (by decide) (by rfl)]; exact hI.2.2.2.1)
  refine k_pop c (hd 12 908 _ _ rfl) rfl (k_pc 909 rfl ?_)
  exact KM _ hw1 hI1
def ddL27 : List (Nat × Instr × Nat) := [(927, .aload_n 1, 1), (928, .invokevirtual 126, 3), (931, .pop, 1), (932, .aload_n 2, 1), (933, .invokevirtual 129, 3), (936, .pop, 1), (937, .goto 476, 3)]
set_option maxRecDepth 100000 in
theorem dkL27 : rf_decs code ddL27 := rf_decs_of (by decide +kernel)
set_option maxHeartbeats 8000000 in
set_option maxRecDepth 100000 in
theorem lw_case27 {X : rfX} {G : rfG} {b Ln : Nat} {sc : Nat → Int32} {n sl : Nat} (C : lwC X G b Ln sc n sl) {i : Int32} (h0 : 0 ≤ i.toInt) (h1 : i.toInt + 5 < (Ln : Int)) (KK : ∀ ws', rf_world G.2.1.1 G.2.1.2.1 G.2.1.2.2.1 G.2.1.2.2.2 ws' → lwInv (hv ws') → kW X n sl 1413 [(3, .int i), (2, .ref (G.2.1.1 114)), (1, .ref (G.2.1.1 70)), (0, .ref b)] [] ws') {ws : va_W} (hw : rf_world G.2.1.1 G.2.1.2.1 G.2.1.2.2.1 G.2.1.2.2.2 ws) (hI : lwInv (hv ws)) : kW X n sl 927 [(3, .int i), (2, .ref (G.2.1.1 114)), (1, .ref (G.2.1.1 70)), (0, .ref b)] [] ws := by
  have hG := C.1
  have hh := w1_ok hG
  have h2 := w2_ok hG
  have c := C.2.2.1
  have hd : ∀ n pc i len, ddL27[n]? = some (pc, i, len) → decode code pc = .ok (i, len) := fun n pc i len h => hdk dkL27 n pc i len h
  have KM : ∀ ws, rf_world G.2.1.1 G.2.1.2.1 G.2.1.2.2.1 G.2.1.2.2.2 ws → lwInv (hv ws) → kW X n sl 932 [(3, .int i), (2, .ref (G.2.1.1 114)), (1, .ref (G.2.1.1 70)), (0, .ref b)] [] ws := by
    intro ws hw hI
    have hr : hrng wLay (hv ws) := by rw [← hG.2.2.1]; exact hrng_at hw
    have r16_4 : 0 ≤ (hv ws 16 4).toInt ∧ (hv ws 16 4).toInt ≤ 40 := hrg hr ly_16_4
    have r16_5 : 0 ≤ (hv ws 16 5).toInt ∧ (hv ws 16 5).toInt ≤ 40 := hrg hr ly_16_5
    have r114_55 : 0 ≤ (hv ws 114 55).toInt ∧ (hv ws 114 55).toInt ≤ 40 := hrg hr ly_114_55
    have r114_56 : 0 ≤ (hv ws 114 56).toInt ∧ (hv ws 114 56).toInt ≤ 40 := hrg hr ly_114_56
    have r77_1 : 0 ≤ (hv ws 77 1).toInt ∧ (hv ws 77 1).toInt ≤ 31 := hrg hr ly_77_1
    have hA_ := hI.2.2.1
    have hB_ := hI.2.2.2.1
    refine k_al c (hd 3 932 _ _ rfl) (by rfl) (k_pc 933 rfl ?_)
    rcases hI.1 with hb_ | hb_
    · skip
      refine k_callM C (M := q1076_M) (q1076_met hG hh) (by decide +kernel) (by decide +kernel) (wlkV (lkL_129 hG) _ rfl rfl) (j := 114) (by decide +kernel) ⟨Nat.le_of_ble_eq_true rfl, Nat.le_of_ble_eq_true rfl⟩ (hd 4 933 _ _ rfl) [] (rest := []) (by rfl) ⟨⟨114, by decide, rfl⟩, trivial⟩ (Nat.le_of_ble_eq_true rfl) hw (List.forall_mem_cons.mpr ⟨hcon (x := hv ws 114 28) (by omega), List.forall_mem_cons.mpr ⟨hg_in hI.2.1, fun _ h => absurd h List.not_mem_nil⟩⟩) (fun x1 ws1 hw1 hf1 hp1 => k_pc 936 rfl ?_)
      have hI1 := lwInv_k hI (by decide +kernel) hf1 (by rw [hf1 16 4 (by decide) (by rfl), hf1 16 5 (by decide) (by rfl)]; exact hI.2.2.1) (by rw [hf1 114 55 (by decide) (by rfl), hf1 114 56 (by decide) (by rfl)]; exact hI.2.2.2.1)
      refine k_pop c (hd 5 936 _ _ rfl) rfl (k_pc 937 rfl ?_)
      refine k_goto c (hd 6 937 _ _ rfl) (tgt := 1413) (by decide) ?_
      exact KK _ hw1 hI1
    · skip
      refine k_callM C (M := q1077_M) (q1077_met hG hh) (by decide +kernel) (by decide +kernel) (wlkV (lkL_129 hG) _ rfl rfl) (j := 114) (by decide +kernel) ⟨Nat.le_of_ble_eq_true rfl, Nat.le_of_ble_eq_true rfl⟩ (hd 4 933 _ _ rfl) [] (rest := []) (by rfl) ⟨⟨114, by decide, rfl⟩, trivial⟩ (Nat.le_of_ble_eq_true rfl) hw (List.forall_mem_cons.mpr ⟨rf_in1 (show 1 ≤ (hv ws 77 1).toInt by omega) (show (hv ws 77 1).toInt ≤ 31 by omega), List.forall_mem_cons.mpr ⟨hcon (x := hv ws 114 28) (by omega), List.forall_mem_cons.mpr ⟨hg_in hI.2.1, fun _ h => absurd h List.not_mem_nil⟩⟩⟩) (fun x1 ws1 hw1 hf1 hp1 => k_pc 936 rfl ?_)
      have hI1 := lwInv_k hI (by decide +kernel) hf1 (by rw [hf1 16 4 (by decide) (by rfl), hf1 16 5 (by decide) (by rfl)]; exact hI.2.2.1) (by rw [hf1 114 55 (by decide) (by rfl), hf1 114 56 (by decide) (by rfl)]; exact hI.2.2.2.1)
      refine k_pop c (hd 5 936 _ _ rfl) rfl (k_pc 937 rfl ?_)
      refine k_goto c (hd 6 937 _ _ rfl) (tgt := 1413) (by decide) ?_
      exact KK _ hw1 hI1
  have hr : hrng wLay (hv ws) := by rw [← hG.2.2.1]; exact hrng_at hw
  have r16_4 : 0 ≤ (hv ws 16 4).toInt ∧ (hv ws 16 4).toInt ≤ 40 := hrg hr ly_16_4
  have r16_5 : 0 ≤ (hv ws 16 5).toInt ∧ (hv ws 16 5).toInt ≤ 40 := hrg hr ly_16_5
  have r114_55 : 0 ≤ (hv ws 114 55).toInt ∧ (hv ws 114 55).toInt ≤ 40 := hrg hr ly_114_55
  have r114_56 : 0 ≤ (hv ws 114 56).toInt ∧ (hv ws 114 56).toInt ≤ 40 := hrg hr ly_114_56
  have r77_1 : 0 ≤ (hv ws 77 1).toInt ∧ (hv ws 77 1).toInt ≤ 31 := hrg hr ly_77_1
  have hA_ := hI.2.2.1
  have hB_ := hI.2.2.2.1
  refine k_al c (hd 0 927 _ _ rfl) (by rfl) (k_pc 928 rfl ?_)
  refine k_callM C (M := q587_M) (q587_met hG) (by decide +kernel) (by decide +kernel) (wlkV (lkL_126 hG) _ rfl rfl) (j := 70) (by decide +kernel) ⟨Nat.le_of_ble_eq_true rfl, Nat.le_of_ble_eq_true rfl⟩ (hd 1 928 _ _ rfl) [] (rest := []) (by rfl) ⟨⟨70, by decide, rfl⟩, trivial⟩ (Nat.le_of_ble_eq_true rfl) hw (fun _ h => absurd h List.not_mem_nil) (fun x1 ws1 hw1 hf1 hp1 => k_pc 931 rfl ?_)
  have hI1 := lwInv_k hI (by decide +kernel) hf1 (by rw [hf1 16 4 (by decide) (by rfl), hf1 16 5 (by decide) (by rfl)]; exact hI.2.2.1) (by rw [hf1 114 55 (by decide) (by rfl), hf1 114 56 (by decide) (by rfl)]; exact hI.2.2.2.1)
  refine k_pop c (hd 2 931 _ _ rfl) rfl (k_pc 932 rfl ?_)
  exact KM _ hw1 hI1
def ddL28 : List (Nat × Instr × Nat) := [(940, .aload_n 1, 1), (941, .aload_n 0, 1), (942, .iload_n 3, 1), (943, .iconst 1, 1), (944, .iadd, 1), (945, .iaload, 1), (946, .aload_n 0, 1), (947, .iload_n 3, 1), (948, .iconst 2, 1), (949, .iadd, 1), (950, .iaload, 1), (951, .aload_n 0, 1), (952, .iload_n 3, 1), (953, .iconst 3, 1), (954, .iadd, 1), (955, .iaload, 1), (956, .invokevirtual 130, 3), (959, .pop, 1), (960, .aload_n 2, 1), (961, .aload_n 0, 1), (962, .iload_n 3, 1), (963, .iconst 1, 1), (964, .iadd, 1), (965, .iaload, 1), (966, .aload_n 0, 1), (967, .iload_n 3, 1), (968, .iconst 2, 1), (969, .iadd, 1), (970, .iaload, 1), (971, .aload_n 0, 1), (972, .iload_n 3, 1), (973, .iconst 3, 1), (974, .iadd, 1), (975, .iaload, 1), (976, .invokevirtual 134, 3), (979, .pop, 1), (980, .goto 433, 3)]
set_option maxRecDepth 100000 in
theorem dkL28 : rf_decs code ddL28 := rf_decs_of (by decide +kernel)
set_option maxHeartbeats 8000000 in
set_option maxRecDepth 100000 in
theorem lw_case28 {X : rfX} {G : rfG} {b Ln : Nat} {sc : Nat → Int32} {n sl : Nat} (C : lwC X G b Ln sc n sl) {i : Int32} (h0 : 0 ≤ i.toInt) (h1 : i.toInt + 5 < (Ln : Int)) (KK : ∀ ws', rf_world G.2.1.1 G.2.1.2.1 G.2.1.2.2.1 G.2.1.2.2.2 ws' → lwInv (hv ws') → kW X n sl 1413 [(3, .int i), (2, .ref (G.2.1.1 114)), (1, .ref (G.2.1.1 70)), (0, .ref b)] [] ws') {ws : va_W} (hw : rf_world G.2.1.1 G.2.1.2.1 G.2.1.2.2.1 G.2.1.2.2.2 ws) (hI : lwInv (hv ws)) : kW X n sl 940 [(3, .int i), (2, .ref (G.2.1.1 114)), (1, .ref (G.2.1.1 70)), (0, .ref b)] [] ws := by
  have hG := C.1
  have hh := w1_ok hG
  have h2 := w2_ok hG
  have c := C.2.2.1
  have hd : ∀ n pc i len, ddL28[n]? = some (pc, i, len) → decode code pc = .ok (i, len) := fun n pc i len h => hdk dkL28 n pc i len h
  have KM : ∀ ws, rf_world G.2.1.1 G.2.1.2.1 G.2.1.2.2.1 G.2.1.2.2.2 ws → lwInv (hv ws) → kW X n sl 960 [(3, .int i), (2, .ref (G.2.1.1 114)), (1, .ref (G.2.1.1 70)), (0, .ref b)] [] ws := by
    intro ws hw hI
    have hr : hrng wLay (hv ws) := by rw [← hG.2.2.1]; exact hrng_at hw
    have r16_4 : 0 ≤ (hv ws 16 4).toInt ∧ (hv ws 16 4).toInt ≤ 40 := hrg hr ly_16_4
    have r16_5 : 0 ≤ (hv ws 16 5).toInt ∧ (hv ws 16 5).toInt ≤ 40 := hrg hr ly_16_5
    have r114_55 : 0 ≤ (hv ws 114 55).toInt ∧ (hv ws 114 55).toInt ≤ 40 := hrg hr ly_114_55
    have r114_56 : 0 ≤ (hv ws 114 56).toInt ∧ (hv ws 114 56).toInt ≤ 40 := hrg hr ly_114_56
    have r77_1 : 0 ≤ (hv ws 77 1).toInt ∧ (hv ws 77 1).toInt ≤ 31 := hrg hr ly_77_1
    have hA_ := hI.2.2.1
    have hB_ := hI.2.2.2.1
    refine k_al c (hd 18 960 _ _ rfl) (by rfl) (k_pc 961 rfl ?_)
    refine k_al c (hd 19 961 _ _ rfl) (by rfl) (k_pc 962 rfl ?_)
    refine k_il c (hd 20 962 _ _ rfl) (by rfl) (k_pc 963 rfl ?_)
    refine k_ic c (hd 21 963 _ _ rfl) (v := 1) (by decide) (k_pc 964 rfl ?_)
    refine k_addE c (hd 22 964 _ _ rfl) (k_pc 965 rfl ?_)
    refine k_sld C (lw_in h0 h1 C.2.2.2.2.1 (by decide)) (hd 23 965 _ _ rfl) (k_pc 966 rfl ?_)
    refine k_al c (hd 24 966 _ _ rfl) (by rfl) (k_pc 967 rfl ?_)
    refine k_il c (hd 25 967 _ _ rfl) (by rfl) (k_pc 968 rfl ?_)
    refine k_ic c (hd 26 968 _ _ rfl) (v := 2) (by decide) (k_pc 969 rfl ?_)
    refine k_addE c (hd 27 969 _ _ rfl) (k_pc 970 rfl ?_)
    refine k_sld C (lw_in h0 h1 C.2.2.2.2.1 (by decide)) (hd 28 970 _ _ rfl) (k_pc 971 rfl ?_)
    refine k_al c (hd 29 971 _ _ rfl) (by rfl) (k_pc 972 rfl ?_)
    refine k_il c (hd 30 972 _ _ rfl) (by rfl) (k_pc 973 rfl ?_)
    refine k_ic c (hd 31 973 _ _ rfl) (v := 3) (by decide) (k_pc 974 rfl ?_)
    refine k_addE c (hd 32 974 _ _ rfl) (k_pc 975 rfl ?_)
    refine k_sld C (lw_in h0 h1 C.2.2.2.2.1 (by decide)) (hd 33 975 _ _ rfl) (k_pc 976 rfl ?_)
    rcases hI.1 with hb_ | hb_
    · skip
      refine k_callM C (M := q1080_M) (q1080_met hG hh) (by decide +kernel) (by decide +kernel) (wlkV (lkL_134 hG) _ rfl rfl) (j := 114) (by decide +kernel) ⟨Nat.le_of_ble_eq_true rfl, Nat.le_of_ble_eq_true rfl⟩ (hd 34 976 _ _ rfl) [.int (sc (i + 1).toNatClampNeg), .int (sc (i + 2).toNatClampNeg), .int (sc (i + 3).toNatClampNeg)] (rest := []) (by rfl) ⟨⟨114, by decide, rfl⟩, ⟨_, rfl, rf_in_top _, trivial⟩, ⟨_, rfl, rf_in_top _, trivial⟩, ⟨_, rfl, rf_in_top _, trivial⟩, trivial⟩ (Nat.le_of_ble_eq_true rfl) hw (List.forall_mem_cons.mpr ⟨hcon (x := hv ws 114 28) (by omega), List.forall_mem_cons.mpr ⟨hg_in hI.2.1, fun _ h => absurd h List.not_mem_nil⟩⟩) (fun x1 ws1 hw1 hf1 hp1 => k_pc 979 rfl ?_)
      have hI1 := lwInv_k hI (by decide +kernel) hf1 (by rw [hf1 16 4 (by decide) (by rfl), hf1 16 5 (by decide) (by rfl)]; exact hI.2.2.1) (by rw [hf1 114 55 (by decide) (by rfl), hf1 114 56 (by decide) (by rfl)]; exact hI.2.2.2.1)
      refine k_pop c (hd 35 979 _ _ rfl) rfl (k_pc 980 rfl ?_)
      refine k_goto c (hd 36 980 _ _ rfl) (tgt := 1413) (by decide) ?_
      exact KK _ hw1 hI1
    · skip
      refine k_callM C (M := q1081_M) (q1081_met hG hh) (by decide +kernel) (by decide +kernel) (wlkV (lkL_134 hG) _ rfl rfl) (j := 114) (by decide +kernel) ⟨Nat.le_of_ble_eq_true rfl, Nat.le_of_ble_eq_true rfl⟩ (hd 34 976 _ _ rfl) [.int (sc (i + 1).toNatClampNeg), .int (sc (i + 2).toNatClampNeg), .int (sc (i + 3).toNatClampNeg)] (rest := []) (by rfl) ⟨⟨114, by decide, rfl⟩, ⟨_, rfl, rf_in_top _, trivial⟩, ⟨_, rfl, rf_in_top _, trivial⟩, ⟨_, rfl, rf_in_top _, trivial⟩, trivial⟩ (Nat.le_of_ble_eq_true rfl) hw (List.forall_mem_cons.mpr ⟨rf_in1 (show 1 ≤ (hv ws 77 1).toInt by omega) (show (hv ws 77 1).toInt ≤ 31 by omega), List.forall_mem_cons.mpr ⟨hcon (x := hv ws 114 28) (by omega), List.forall_mem_cons.mpr ⟨hg_in hI.2.1, fun _ h => absurd h List.not_mem_nil⟩⟩⟩) (fun x1 ws1 hw1 hf1 hp1 => k_pc 979 rfl ?_)
      have hI1 := lwInv_k hI (by decide +kernel) hf1 (by rw [hf1 16 4 (by decide) (by rfl), hf1 16 5 (by decide) (by rfl)]; exact hI.2.2.1) (by rw [hf1 114 55 (by decide) (by rfl), hf1 114 56 (by decide) (by rfl)]; exact hI.2.2.2.1)
      refine k_pop c (hd 35 979 _ _ rfl) rfl (k_pc 980 rfl ?_)
      refine k_goto c (hd 36 980 _ _ rfl) (tgt := 1413) (by decide) ?_
      exact KK _ hw1 hI1
  have hr : hrng wLay (hv ws) := by rw [← hG.2.2.1]; exact hrng_at hw
  have r16_4 : 0 ≤ (hv ws 16 4).toInt ∧ (hv ws 16 4).toInt ≤ 40 := hrg hr ly_16_4
  have r16_5 : 0 ≤ (hv ws 16 5).toInt ∧ (hv ws 16 5).toInt ≤ 40 := hrg hr ly_16_5
  have r114_55 : 0 ≤ (hv ws 114 55).toInt ∧ (hv ws 114 55).toInt ≤ 40 := hrg hr ly_114_55
  have r114_56 : 0 ≤ (hv ws 114 56).toInt ∧ (hv ws 114 56).toInt ≤ 40 := hrg hr ly_114_56
  have r77_1 : 0 ≤ (hv ws 77 1).toInt ∧ (hv ws 77 1).toInt ≤ 31 := hrg hr ly_77_1
  have hA_ := hI.2.2.1
  have hB_ := hI.2.2.2.1
  refine k_al c (hd 0 940 _ _ rfl) (by rfl) (k_pc 941 rfl ?_)
  refine k_al c (hd 1 941 _ _ rfl) (by rfl) (k_pc 942 rfl ?_)
  refine k_il c (hd 2 942 _ _ rfl) (by rfl) (k_pc 943 rfl ?_)
  refine k_ic c (hd 3 943 _ _ rfl) (v := 1) (by decide) (k_pc 944 rfl ?_)
  refine k_addE c (hd 4 944 _ _ rfl) (k_pc 945 rfl ?_)
  refine k_sld C (lw_in h0 h1 C.2.2.2.2.1 (by decide)) (hd 5 945 _ _ rfl) (k_pc 946 rfl ?_)
  refine k_al c (hd 6 946 _ _ rfl) (by rfl) (k_pc 947 rfl ?_)
  refine k_il c (hd 7 947 _ _ rfl) (by rfl) (k_pc 948 rfl ?_)
  refine k_ic c (hd 8 948 _ _ rfl) (v := 2) (by decide) (k_pc 949 rfl ?_)
  refine k_addE c (hd 9 949 _ _ rfl) (k_pc 950 rfl ?_)
  refine k_sld C (lw_in h0 h1 C.2.2.2.2.1 (by decide)) (hd 10 950 _ _ rfl) (k_pc 951 rfl ?_)
  refine k_al c (hd 11 951 _ _ rfl) (by rfl) (k_pc 952 rfl ?_)
  refine k_il c (hd 12 952 _ _ rfl) (by rfl) (k_pc 953 rfl ?_)
  refine k_ic c (hd 13 953 _ _ rfl) (v := 3) (by decide) (k_pc 954 rfl ?_)
  refine k_addE c (hd 14 954 _ _ rfl) (k_pc 955 rfl ?_)
  refine k_sld C (lw_in h0 h1 C.2.2.2.2.1 (by decide)) (hd 15 955 _ _ rfl) (k_pc 956 rfl ?_)
  refine k_callM C (M := q589_M) (q589_met hG) (by decide +kernel) (by decide +kernel) (wlkV (lkL_130 hG) _ rfl rfl) (j := 70) (by decide +kernel) ⟨Nat.le_of_ble_eq_true rfl, Nat.le_of_ble_eq_true rfl⟩ (hd 16 956 _ _ rfl) [.int (sc (i + 1).toNatClampNeg), .int (sc (i + 2).toNatClampNeg), .int (sc (i + 3).toNatClampNeg)] (rest := []) (by rfl) ⟨⟨70, by decide, rfl⟩, ⟨_, rfl, rf_in_top _, trivial⟩, ⟨_, rfl, rf_in_top _, trivial⟩, ⟨_, rfl, rf_in_top _, trivial⟩, trivial⟩ (Nat.le_of_ble_eq_true rfl) hw (fun _ h => absurd h List.not_mem_nil) (fun x1 ws1 hw1 hf1 hp1 => k_pc 959 rfl ?_)
  have hI1 := lwInv_k hI (by decide +kernel) hf1 (by rw [hf1 16 4 (by decide) (by rfl), hf1 16 5 (by decide) (by rfl)]; exact hI.2.2.1) (by rw [hf1 114 55 (by decide) (by rfl), hf1 114 56 (by decide) (by rfl)]; exact hI.2.2.2.1)
  refine k_pop c (hd 17 959 _ _ rfl) rfl (k_pc 960 rfl ?_)
  exact KM _ hw1 hI1
def ddL29 : List (Nat × Instr × Nat) := [(983, .aload_n 1, 1), (984, .aload_n 0, 1), (985, .iload_n 3, 1), (986, .iconst 1, 1), (987, .iadd, 1), (988, .iaload, 1), (989, .invokevirtual 135, 3), (992, .pop, 1), (993, .aload_n 2, 1), (994, .aload_n 0, 1), (995, .iload_n 3, 1), (996, .iconst 1, 1), (997, .iadd, 1), (998, .iaload, 1), (999, .invokevirtual 138, 3), (1002, .pop, 1), (1003, .goto 410, 3)]
set_option maxRecDepth 100000 in
theorem dkL29 : rf_decs code ddL29 := rf_decs_of (by decide +kernel)
set_option maxHeartbeats 8000000 in
set_option maxRecDepth 100000 in
theorem lw_case29 {X : rfX} {G : rfG} {b Ln : Nat} {sc : Nat → Int32} {n sl : Nat} (C : lwC X G b Ln sc n sl) {i : Int32} (h0 : 0 ≤ i.toInt) (h1 : i.toInt + 5 < (Ln : Int)) (KK : ∀ ws', rf_world G.2.1.1 G.2.1.2.1 G.2.1.2.2.1 G.2.1.2.2.2 ws' → lwInv (hv ws') → kW X n sl 1413 [(3, .int i), (2, .ref (G.2.1.1 114)), (1, .ref (G.2.1.1 70)), (0, .ref b)] [] ws') {ws : va_W} (hw : rf_world G.2.1.1 G.2.1.2.1 G.2.1.2.2.1 G.2.1.2.2.2 ws) (hI : lwInv (hv ws)) : kW X n sl 983 [(3, .int i), (2, .ref (G.2.1.1 114)), (1, .ref (G.2.1.1 70)), (0, .ref b)] [] ws := by
  have hG := C.1
  have hh := w1_ok hG
  have h2 := w2_ok hG
  have c := C.2.2.1
  have hd : ∀ n pc i len, ddL29[n]? = some (pc, i, len) → decode code pc = .ok (i, len) := fun n pc i len h => hdk dkL29 n pc i len h
  have KM : ∀ ws, rf_world G.2.1.1 G.2.1.2.1 G.2.1.2.2.1 G.2.1.2.2.2 ws → lwInv (hv ws) → kW X n sl 993 [(3, .int i), (2, .ref (G.2.1.1 114)), (1, .ref (G.2.1.1 70)), (0, .ref b)] [] ws := by
    intro ws hw hI
    have hr : hrng wLay (hv ws) := by rw [← hG.2.2.1]; exact hrng_at hw
    have r16_4 : 0 ≤ (hv ws 16 4).toInt ∧ (hv ws 16 4).toInt ≤ 40 := hrg hr ly_16_4
    have r16_5 : 0 ≤ (hv ws 16 5).toInt ∧ (hv ws 16 5).toInt ≤ 40 := hrg hr ly_16_5
    have r114_55 : 0 ≤ (hv ws 114 55).toInt ∧ (hv ws 114 55).toInt ≤ 40 := hrg hr ly_114_55
    have r114_56 : 0 ≤ (hv ws 114 56).toInt ∧ (hv ws 114 56).toInt ≤ 40 := hrg hr ly_114_56
    have r77_1 : 0 ≤ (hv ws 77 1).toInt ∧ (hv ws 77 1).toInt ≤ 31 := hrg hr ly_77_1
    have hA_ := hI.2.2.1
    have hB_ := hI.2.2.2.1
    refine k_al c (hd 8 993 _ _ rfl) (by rfl) (k_pc 994 rfl ?_)
    refine k_al c (hd 9 994 _ _ rfl) (by rfl) (k_pc 995 rfl ?_)
    refine k_il c (hd 10 995 _ _ rfl) (by rfl) (k_pc 996 rfl ?_)
    refine k_ic c (hd 11 996 _ _ rfl) (v := 1) (by decide) (k_pc 997 rfl ?_)
    refine k_addE c (hd 12 997 _ _ rfl) (k_pc 998 rfl ?_)
    refine k_sld C (lw_in h0 h1 C.2.2.2.2.1 (by decide)) (hd 13 998 _ _ rfl) (k_pc 999 rfl ?_)
    rcases hI.1 with hb_ | hb_
    · skip
      refine k_callM C (M := q1082_M) (q1082_met hG) (by decide +kernel) (by decide +kernel) (wlkV (lkL_138 hG) _ rfl rfl) (j := 114) (by decide +kernel) ⟨Nat.le_of_ble_eq_true rfl, Nat.le_of_ble_eq_true rfl⟩ (hd 14 999 _ _ rfl) [.int (sc (i + 1).toNatClampNeg)] (rest := []) (by rfl) ⟨⟨114, by decide, rfl⟩, ⟨_, rfl, rf_in_top _, trivial⟩, trivial⟩ (Nat.le_of_ble_eq_true rfl) hw (List.forall_mem_cons.mpr ⟨hcon (x := hv ws 114 28) (by omega), List.forall_mem_cons.mpr ⟨hg_in hI.2.1, fun _ h => absurd h List.not_mem_nil⟩⟩) (fun x1 ws1 hw1 hf1 hp1 => k_pc 1002 rfl ?_)
      have hI1 := lwInv_k hI (by decide +kernel) hf1 (by rw [hf1 16 4 (by decide) (by rfl), hf1 16 5 (by decide) (by rfl)]; exact hI.2.2.1) (by rw [hf1 114 55 (by decide) (by rfl), hf1 114 56 (by decide) (by rfl)]; exact hI.2.2.2.1)
      refine k_pop c (hd 15 1002 _ _ rfl) rfl (k_pc 1003 rfl ?_)
      refine k_goto c (hd 16 1003 _ _ rfl) (tgt := 1413) (by decide) ?_
      exact KK _ hw1 hI1
    · skip
      refine k_callM C (M := q1083_M) (q1083_met hG) (by decide +kernel) (by decide +kernel) (wlkV (lkL_138 hG) _ rfl rfl) (j := 114) (by decide +kernel) ⟨Nat.le_of_ble_eq_true rfl, Nat.le_of_ble_eq_true rfl⟩ (hd 14 999 _ _ rfl) [.int (sc (i + 1).toNatClampNeg)] (rest := []) (by rfl) ⟨⟨114, by decide, rfl⟩, ⟨_, rfl, rf_in_top _, trivial⟩, trivial⟩ (Nat.le_of_ble_eq_true rfl) hw (List.forall_mem_cons.mpr ⟨rf_in1 (show 1 ≤ (hv ws 77 1).toInt by omega) (show (hv ws 77 1).toInt ≤ 31 by omega), List.forall_mem_cons.mpr ⟨hcon (x := hv ws 114 28) (by omega), List.forall_mem_cons.mpr ⟨hg_in hI.2.1, fun _ h => absurd h List.not_mem_nil⟩⟩⟩) (fun x1 ws1 hw1 hf1 hp1 => k_pc 1002 rfl ?_)
      have hI1 := lwInv_k hI (by decide +kernel) hf1 (by rw [hf1 16 4 (by decide) (by rfl), hf1 16 5 (by decide) (by rfl)]; exact hI.2.2.1) (by rw [hf1 114 55 (by decide) (by rfl), hf1 114 56 (by decide) (by rfl)]; exact hI.2.2.2.1)
      refine k_pop c (hd 15 1002 _ _ rfl) rfl (k_pc 1003 rfl ?_)
      refine k_goto c (hd 16 1003 _ _ rfl) (tgt := 1413) (by decide) ?_
      exact KK _ hw1 hI1
  have hr : hrng wLay (hv ws) := by rw [← hG.2.2.1]; exact hrng_at hw
  have r16_4 : 0 ≤ (hv ws 16 4).toInt ∧ (hv ws 16 4).toInt ≤ 40 := hrg hr ly_16_4
  have r16_5 : 0 ≤ (hv ws 16 5).toInt ∧ (hv ws 16 5).toInt ≤ 40 := hrg hr ly_16_5
  have r114_55 : 0 ≤ (hv ws 114 55).toInt ∧ (hv ws 114 55).toInt ≤ 40 := hrg hr ly_114_55
  have r114_56 : 0 ≤ (hv ws 114 56).toInt ∧ (hv ws 114 56).toInt ≤ 40 := hrg hr ly_114_56
  have r77_1 : 0 ≤ (hv ws 77 1).toInt ∧ (hv ws 77 1).toInt ≤ 31 := hrg hr ly_77_1
  have hA_ := hI.2.2.1
  have hB_ := hI.2.2.2.1
  refine k_al c (hd 0 983 _ _ rfl) (by rfl) (k_pc 984 rfl ?_)
  refine k_al c (hd 1 984 _ _ rfl) (by rfl) (k_pc 985 rfl ?_)
  refine k_il c (hd 2 985 _ _ rfl) (by rfl) (k_pc 986 rfl ?_)
  refine k_ic c (hd 3 986 _ _ rfl) (v := 1) (by decide) (k_pc 987 rfl ?_)
  refine k_addE c (hd 4 987 _ _ rfl) (k_pc 988 rfl ?_)
  refine k_sld C (lw_in h0 h1 C.2.2.2.2.1 (by decide)) (hd 5 988 _ _ rfl) (k_pc 989 rfl ?_)
  refine k_callM C (M := q592_M) (q592_met hG) (by decide +kernel) (by decide +kernel) (wlkV (lkL_135 hG) _ rfl rfl) (j := 70) (by decide +kernel) ⟨Nat.le_of_ble_eq_true rfl, Nat.le_of_ble_eq_true rfl⟩ (hd 6 989 _ _ rfl) [.int (sc (i + 1).toNatClampNeg)] (rest := []) (by rfl) ⟨⟨70, by decide, rfl⟩, ⟨_, rfl, rf_in_top _, trivial⟩, trivial⟩ (Nat.le_of_ble_eq_true rfl) hw (fun _ h => absurd h List.not_mem_nil) (fun x1 ws1 hw1 hf1 hp1 => k_pc 992 rfl ?_)
  have hI1 := lwInv_k hI (by decide +kernel) hf1 (by rw [hf1 16 4 (by decide) (by rfl), hf1 16 5 (by decide) (by rfl)]; exact hI.2.2.1) (by rw [hf1 114 55 (by decide) (by rfl), hf1 114 56 (by decide) (by rfl)]; exact hI.2.2.2.1)
  refine k_pop c (hd 7 992 _ _ rfl) rfl (k_pc 993 rfl ?_)
  exact KM _ hw1 hI1
def ddL30 : List (Nat × Instr × Nat) := [(1006, .aload_n 1, 1), (1007, .aload_n 0, 1), (1008, .iload_n 3, 1), (1009, .iconst 1, 1), (1010, .iadd, 1), (1011, .iaload, 1), (1012, .invokevirtual 139, 3), (1015, .pop, 1), (1016, .aload_n 2, 1), (1017, .aload_n 0, 1), (1018, .iload_n 3, 1), (1019, .iconst 1, 1), (1020, .iadd, 1), (1021, .iaload, 1), (1022, .invokevirtual 142, 3), (1025, .pop, 1), (1026, .goto 387, 3)]
set_option maxRecDepth 100000 in
theorem dkL30 : rf_decs code ddL30 := rf_decs_of (by decide +kernel)
set_option maxHeartbeats 8000000 in
set_option maxRecDepth 100000 in
theorem lw_case30 {X : rfX} {G : rfG} {b Ln : Nat} {sc : Nat → Int32} {n sl : Nat} (C : lwC X G b Ln sc n sl) {i : Int32} (h0 : 0 ≤ i.toInt) (h1 : i.toInt + 5 < (Ln : Int)) (KK : ∀ ws', rf_world G.2.1.1 G.2.1.2.1 G.2.1.2.2.1 G.2.1.2.2.2 ws' → lwInv (hv ws') → kW X n sl 1413 [(3, .int i), (2, .ref (G.2.1.1 114)), (1, .ref (G.2.1.1 70)), (0, .ref b)] [] ws') {ws : va_W} (hw : rf_world G.2.1.1 G.2.1.2.1 G.2.1.2.2.1 G.2.1.2.2.2 ws) (hI : lwInv (hv ws)) : kW X n sl 1006 [(3, .int i), (2, .ref (G.2.1.1 114)), (1, .ref (G.2.1.1 70)), (0, .ref b)] [] ws := by
  have hG := C.1
  have hh := w1_ok hG
  have h2 := w2_ok hG
  have c := C.2.2.1
  have hd : ∀ n pc i len, ddL30[n]? = some (pc, i, len) → decode code pc = .ok (i, len) := fun n pc i len h => hdk dkL30 n pc i len h
  have KM : ∀ ws, rf_world G.2.1.1 G.2.1.2.1 G.2.1.2.2.1 G.2.1.2.2.2 ws → lwInv (hv ws) → kW X n sl 1016 [(3, .int i), (2, .ref (G.2.1.1 114)), (1, .ref (G.2.1.1 70)), (0, .ref b)] [] ws := by
    intro ws hw hI
    have hr : hrng wLay (hv ws) := by rw [← hG.2.2.1]; exact hrng_at hw
    have r16_4 : 0 ≤ (hv ws 16 4).toInt ∧ (hv ws 16 4).toInt ≤ 40 := hrg hr ly_16_4
    have r16_5 : 0 ≤ (hv ws 16 5).toInt ∧ (hv ws 16 5).toInt ≤ 40 := hrg hr ly_16_5
    have r114_55 : 0 ≤ (hv ws 114 55).toInt ∧ (hv ws 114 55).toInt ≤ 40 := hrg hr ly_114_55
    have r114_56 : 0 ≤ (hv ws 114 56).toInt ∧ (hv ws 114 56).toInt ≤ 40 := hrg hr ly_114_56
    have r77_1 : 0 ≤ (hv ws 77 1).toInt ∧ (hv ws 77 1).toInt ≤ 31 := hrg hr ly_77_1
    have hA_ := hI.2.2.1
    have hB_ := hI.2.2.2.1
    refine k_al c (hd 8 1016 _ _ rfl) (by rfl) (k_pc 1017 rfl ?_)
    refine k_al c (hd 9 1017 _ _ rfl) (by rfl) (k_pc 1018 rfl ?_)
    refine k_il c (hd 10 1018 _ _ rfl) (by rfl) (k_pc 1019 rfl ?_)
    refine k_ic c (hd 11 1019 _ _ rfl) (v := 1) (by decide) (k_pc 1020 rfl ?_)
    refine k_addE c (hd 12 1020 _ _ rfl) (k_pc 1021 rfl ?_)
    refine k_sld C (lw_in h0 h1 C.2.2.2.2.1 (by decide)) (hd 13 1021 _ _ rfl) (k_pc 1022 rfl ?_)
    rcases hI.1 with hb_ | hb_
    · skip
      refine k_callM C (M := q1086_M) (q1086_met hG hh) (by decide +kernel) (by decide +kernel) (wlkV (lkL_142 hG) _ rfl rfl) (j := 114) (by decide +kernel) ⟨Nat.le_of_ble_eq_true rfl, Nat.le_of_ble_eq_true rfl⟩ (hd 14 1022 _ _ rfl) [.int (sc (i + 1).toNatClampNeg)] (rest := []) (by rfl) ⟨⟨114, by decide, rfl⟩, ⟨_, rfl, rf_in_top _, trivial⟩, trivial⟩ (Nat.le_of_ble_eq_true rfl) hw (List.forall_mem_cons.mpr ⟨hcon (x := hv ws 114 28) (by omega), List.forall_mem_cons.mpr ⟨hg_in hI.2.1, fun _ h => absurd h List.not_mem_nil⟩⟩) (fun x1 ws1 hw1 hf1 hp1 => k_pc 1025 rfl ?_)
      have hI1 := lwInv_k hI (by decide +kernel) hf1 (by rw [hf1 16 4 (by decide) (by rfl), hf1 16 5 (by decide) (by rfl)]; exact hI.2.2.1) (by rw [hf1 114 55 (by decide) (by rfl), hf1 114 56 (by decide) (by rfl)]; exact hI.2.2.2.1)
      refine k_pop c (hd 15 1025 _ _ rfl) rfl (k_pc 1026 rfl ?_)
      refine k_goto c (hd 16 1026 _ _ rfl) (tgt := 1413) (by decide) ?_
      exact KK _ hw1 hI1
    · skip
      refine k_callM C (M := q1087_M) (q1087_met hG hh) (by decide +kernel) (by decide +kernel) (wlkV (lkL_142 hG) _ rfl rfl) (j := 114) (by decide +kernel) ⟨Nat.le_of_ble_eq_true rfl, Nat.le_of_ble_eq_true rfl⟩ (hd 14 1022 _ _ rfl) [.int (sc (i + 1).toNatClampNeg)] (rest := []) (by rfl) ⟨⟨114, by decide, rfl⟩, ⟨_, rfl, rf_in_top _, trivial⟩, trivial⟩ (Nat.le_of_ble_eq_true rfl) hw (List.forall_mem_cons.mpr ⟨rf_in1 (show 1 ≤ (hv ws 77 1).toInt by omega) (show (hv ws 77 1).toInt ≤ 31 by omega), List.forall_mem_cons.mpr ⟨hcon (x := hv ws 114 28) (by omega), List.forall_mem_cons.mpr ⟨hg_in hI.2.1, fun _ h => absurd h List.not_mem_nil⟩⟩⟩) (fun x1 ws1 hw1 hf1 hp1 => k_pc 1025 rfl ?_)
      have hI1 := lwInv_k hI (by decide +kernel) hf1 (by rw [hf1 16 4 (by decide) (by rfl), hf1 16 5 (by decide) (by rfl)]; exact hI.2.2.1) (by rw [hf1 114 55 (by decide) (by rfl), hf1 114 56 (by decide) (by rfl)]; exact hI.2.2.2.1)
      refine k_pop c (hd 15 1025 _ _ rfl) rfl (k_pc 1026 rfl ?_)
      refine k_goto c (hd 16 1026 _ _ rfl) (tgt := 1413) (by decide) ?_
      exact KK _ hw1 hI1
  have hr : hrng wLay (hv ws) := by rw [← hG.2.2.1]; exact hrng_at hw
  have r16_4 : 0 ≤ (hv ws 16 4).toInt ∧ (hv ws 16 4).toInt ≤ 40 := hrg hr ly_16_4
  have r16_5 : 0 ≤ (hv ws 16 5).toInt ∧ (hv ws 16 5).toInt ≤ 40 := hrg hr ly_16_5
  have r114_55 : 0 ≤ (hv ws 114 55).toInt ∧ (hv ws 114 55).toInt ≤ 40 := hrg hr ly_114_55
  have r114_56 : 0 ≤ (hv ws 114 56).toInt ∧ (hv ws 114 56).toInt ≤ 40 := hrg hr ly_114_56
  have r77_1 : 0 ≤ (hv ws 77 1).toInt ∧ (hv ws 77 1).toInt ≤ 31 := hrg hr ly_77_1
  have hA_ := hI.2.2.1
  have hB_ := hI.2.2.2.1
  refine k_al c (hd 0 1006 _ _ rfl) (by rfl) (k_pc 1007 rfl ?_)
  refine k_al c (hd 1 1007 _ _ rfl) (by rfl) (k_pc 1008 rfl ?_)
  refine k_il c (hd 2 1008 _ _ rfl) (by rfl) (k_pc 1009 rfl ?_)
  refine k_ic c (hd 3 1009 _ _ rfl) (v := 1) (by decide) (k_pc 1010 rfl ?_)
  refine k_addE c (hd 4 1010 _ _ rfl) (k_pc 1011 rfl ?_)
  refine k_sld C (lw_in h0 h1 C.2.2.2.2.1 (by decide)) (hd 5 1011 _ _ rfl) (k_pc 1012 rfl ?_)
  refine k_callM C (M := q594_M) (q594_met hG) (by decide +kernel) (by decide +kernel) (wlkV (lkL_139 hG) _ rfl rfl) (j := 70) (by decide +kernel) ⟨Nat.le_of_ble_eq_true rfl, Nat.le_of_ble_eq_true rfl⟩ (hd 6 1012 _ _ rfl) [.int (sc (i + 1).toNatClampNeg)] (rest := []) (by rfl) ⟨⟨70, by decide, rfl⟩, ⟨_, rfl, rf_in_top _, trivial⟩, trivial⟩ (Nat.le_of_ble_eq_true rfl) hw (fun _ h => absurd h List.not_mem_nil) (fun x1 ws1 hw1 hf1 hp1 => k_pc 1015 rfl ?_)
  have hI1 := lwInv_k hI (by decide +kernel) hf1 (by rw [hf1 16 4 (by decide) (by rfl), hf1 16 5 (by decide) (by rfl)]; exact hI.2.2.1) (by rw [hf1 114 55 (by decide) (by rfl), hf1 114 56 (by decide) (by rfl)]; exact hI.2.2.2.1)
  refine k_pop c (hd 7 1015 _ _ rfl) rfl (k_pc 1016 rfl ?_)
  exact KM _ hw1 hI1
def ddL31 : List (Nat × Instr × Nat) := [(1029, .aload_n 1, 1), (1030, .aload_n 0, 1), (1031, .iload_n 3, 1), (1032, .iconst 1, 1), (1033, .iadd, 1), (1034, .iaload, 1), (1035, .invokevirtual 143, 3), (1038, .pop, 1), (1039, .aload_n 2, 1), (1040, .aload_n 0, 1), (1041, .iload_n 3, 1), (1042, .iconst 1, 1), (1043, .iadd, 1), (1044, .iaload, 1), (1045, .invokevirtual 146, 3), (1048, .pop, 1), (1049, .goto 364, 3)]
set_option maxRecDepth 100000 in
theorem dkL31 : rf_decs code ddL31 := rf_decs_of (by decide +kernel)
set_option maxHeartbeats 8000000 in
set_option maxRecDepth 100000 in
theorem lw_case31 {X : rfX} {G : rfG} {b Ln : Nat} {sc : Nat → Int32} {n sl : Nat} (C : lwC X G b Ln sc n sl) {i : Int32} (h0 : 0 ≤ i.toInt) (h1 : i.toInt + 5 < (Ln : Int)) (KK : ∀ ws', rf_world G.2.1.1 G.2.1.2.1 G.2.1.2.2.1 G.2.1.2.2.2 ws' → lwInv (hv ws') → kW X n sl 1413 [(3, .int i), (2, .ref (G.2.1.1 114)), (1, .ref (G.2.1.1 70)), (0, .ref b)] [] ws') {ws : va_W} (hw : rf_world G.2.1.1 G.2.1.2.1 G.2.1.2.2.1 G.2.1.2.2.2 ws) (hI : lwInv (hv ws)) : kW X n sl 1029 [(3, .int i), (2, .ref (G.2.1.1 114)), (1, .ref (G.2.1.1 70)), (0, .ref b)] [] ws := by
  have hG := C.1
  have hh := w1_ok hG
  have h2 := w2_ok hG
  have c := C.2.2.1
  have hd : ∀ n pc i len, ddL31[n]? = some (pc, i, len) → decode code pc = .ok (i, len) := fun n pc i len h => hdk dkL31 n pc i len h
  have KM : ∀ ws, rf_world G.2.1.1 G.2.1.2.1 G.2.1.2.2.1 G.2.1.2.2.2 ws → lwInv (hv ws) → kW X n sl 1039 [(3, .int i), (2, .ref (G.2.1.1 114)), (1, .ref (G.2.1.1 70)), (0, .ref b)] [] ws := by
    intro ws hw hI
    have hr : hrng wLay (hv ws) := by rw [← hG.2.2.1]; exact hrng_at hw
    have r16_4 : 0 ≤ (hv ws 16 4).toInt ∧ (hv ws 16 4).toInt ≤ 40 := hrg hr ly_16_4
    have r16_5 : 0 ≤ (hv ws 16 5).toInt ∧ (hv ws 16 5).toInt ≤ 40 := hrg hr ly_16_5
    have r114_55 : 0 ≤ (hv ws 114 55).toInt ∧ (hv ws 114 55).toInt ≤ 40 := hrg hr ly_114_55
    have r114_56 : 0 ≤ (hv ws 114 56).toInt ∧ (hv ws 114 56).toInt ≤ 40 := hrg hr ly_114_56
    have r77_1 : 0 ≤ (hv ws 77 1).toInt ∧ (hv ws 77 1).toInt ≤ 31 := hrg hr ly_77_1
    have hA_ := hI.2.2.1
    have hB_ := hI.2.2.2.1
    refine k_al c (hd 8 1039 _ _ rfl) (by rfl) (k_pc 1040 rfl ?_)
    refine k_al c (hd 9 1040 _ _ rfl) (by rfl) (k_pc 1041 rfl ?_)
    refine k_il c (hd 10 1041 _ _ rfl) (by rfl) (k_pc 1042 rfl ?_)
    refine k_ic c (hd 11 1042 _ _ rfl) (v := 1) (by decide) (k_pc 1043 rfl ?_)
    refine k_addE c (hd 12 1043 _ _ rfl) (k_pc 1044 rfl ?_)
    refine k_sld C (lw_in h0 h1 C.2.2.2.2.1 (by decide)) (hd 13 1044 _ _ rfl) (k_pc 1045 rfl ?_)
    rcases hI.1 with hb_ | hb_
    · skip
      refine k_callM C (M := q1090_M) (q1090_met hG hh) (by decide +kernel) (by decide +kernel) (wlkV (lkL_146 hG) _ rfl rfl) (j := 114) (by decide +kernel) ⟨Nat.le_of_ble_eq_true rfl, Nat.le_of_ble_eq_true rfl⟩ (hd 14 1045 _ _ rfl) [.int (sc (i + 1).toNatClampNeg)] (rest := []) (by rfl) ⟨⟨114, by decide, rfl⟩, ⟨_, rfl, rf_in_top _, trivial⟩, trivial⟩ (Nat.le_of_ble_eq_true rfl) hw (List.forall_mem_cons.mpr ⟨hcon (x := hv ws 114 28) (by omega), List.forall_mem_cons.mpr ⟨hg_in hI.2.1, fun _ h => absurd h List.not_mem_nil⟩⟩) (fun x1 ws1 hw1 hf1 hp1 => k_pc 1048 rfl ?_)
      have hI1 := lwInv_k hI (by decide +kernel) hf1 (by rw [hf1 16 4 (by decide) (by rfl), hf1 16 5 (by decide) (by rfl)]; exact hI.2.2.1) (by rw [hf1 114 55 (by decide) (by rfl), hf1 114 56 (by decide) (by rfl)]; exact hI.2.2.2.1)
      refine k_pop c (hd 15 1048 _ _ rfl) rfl (k_pc 1049 rfl ?_)
      refine k_goto c (hd 16 1049 _ _ rfl) (tgt := 1413) (by decide) ?_
      exact KK _ hw1 hI1
    · skip
      refine k_callM C (M := q1092_M) (q1092_met hG hh) (by decide +kernel) (by decide +kernel) (wlkV (lkL_146 hG) _ rfl rfl) (j := 114) (by decide +kernel) ⟨Nat.le_of_ble_eq_true rfl, Nat.le_of_ble_eq_true rfl⟩ (hd 14 1045 _ _ rfl) [.int (sc (i + 1).toNatClampNeg)] (rest := []) (by rfl) ⟨⟨114, by decide, rfl⟩, ⟨_, rfl, rf_in_top _, trivial⟩, trivial⟩ (Nat.le_of_ble_eq_true rfl) hw (List.forall_mem_cons.mpr ⟨rf_in1 (show 1 ≤ (hv ws 77 1).toInt by omega) (show (hv ws 77 1).toInt ≤ 31 by omega), List.forall_mem_cons.mpr ⟨hcon (x := hv ws 114 28) (by omega), List.forall_mem_cons.mpr ⟨hg_in hI.2.1, fun _ h => absurd h List.not_mem_nil⟩⟩⟩) (fun x1 ws1 hw1 hf1 hp1 => k_pc 1048 rfl ?_)
      have hI1 := lwInv_k hI (by decide +kernel) hf1 (by rw [hf1 16 4 (by decide) (by rfl), hf1 16 5 (by decide) (by rfl)]; exact hI.2.2.1) (by rw [hf1 114 55 (by decide) (by rfl), hf1 114 56 (by decide) (by rfl)]; exact hI.2.2.2.1)
      refine k_pop c (hd 15 1048 _ _ rfl) rfl (k_pc 1049 rfl ?_)
      refine k_goto c (hd 16 1049 _ _ rfl) (tgt := 1413) (by decide) ?_
      exact KK _ hw1 hI1
  have hr : hrng wLay (hv ws) := by rw [← hG.2.2.1]; exact hrng_at hw
  have r16_4 : 0 ≤ (hv ws 16 4).toInt ∧ (hv ws 16 4).toInt ≤ 40 := hrg hr ly_16_4
  have r16_5 : 0 ≤ (hv ws 16 5).toInt ∧ (hv ws 16 5).toInt ≤ 40 := hrg hr ly_16_5
  have r114_55 : 0 ≤ (hv ws 114 55).toInt ∧ (hv ws 114 55).toInt ≤ 40 := hrg hr ly_114_55
  have r114_56 : 0 ≤ (hv ws 114 56).toInt ∧ (hv ws 114 56).toInt ≤ 40 := hrg hr ly_114_56
  have r77_1 : 0 ≤ (hv ws 77 1).toInt ∧ (hv ws 77 1).toInt ≤ 31 := hrg hr ly_77_1
  have hA_ := hI.2.2.1
  have hB_ := hI.2.2.2.1
  refine k_al c (hd 0 1029 _ _ rfl) (by rfl) (k_pc 1030 rfl ?_)
  refine k_al c (hd 1 1030 _ _ rfl) (by rfl) (k_pc 1031 rfl ?_)
  refine k_il c (hd 2 1031 _ _ rfl) (by rfl) (k_pc 1032 rfl ?_)
  refine k_ic c (hd 3 1032 _ _ rfl) (v := 1) (by decide) (k_pc 1033 rfl ?_)
  refine k_addE c (hd 4 1033 _ _ rfl) (k_pc 1034 rfl ?_)
  refine k_sld C (lw_in h0 h1 C.2.2.2.2.1 (by decide)) (hd 5 1034 _ _ rfl) (k_pc 1035 rfl ?_)
  refine k_callM C (M := q605_M) (q605_met hG) (by decide +kernel) (by decide +kernel) (wlkV (lkL_143 hG) _ rfl rfl) (j := 70) (by decide +kernel) ⟨Nat.le_of_ble_eq_true rfl, Nat.le_of_ble_eq_true rfl⟩ (hd 6 1035 _ _ rfl) [.int (sc (i + 1).toNatClampNeg)] (rest := []) (by rfl) ⟨⟨70, by decide, rfl⟩, ⟨_, rfl, rf_in_top _, trivial⟩, trivial⟩ (Nat.le_of_ble_eq_true rfl) hw (fun _ h => absurd h List.not_mem_nil) (fun x1 ws1 hw1 hf1 hp1 => k_pc 1038 rfl ?_)
  have hI1 := lwInv_k hI (by decide +kernel) hf1 (by rw [hf1 16 4 (by decide) (by rfl), hf1 16 5 (by decide) (by rfl)]; exact hI.2.2.1) (by rw [hf1 114 55 (by decide) (by rfl), hf1 114 56 (by decide) (by rfl)]; exact hI.2.2.2.1)
  refine k_pop c (hd 7 1038 _ _ rfl) rfl (k_pc 1039 rfl ?_)
  exact KM _ hw1 hI1
def ddL32 : List (Nat × Instr × Nat) := [(1052, .aload_n 1, 1), (1053, .invokevirtual 147, 3), (1056, .pop, 1), (1057, .aload_n 2, 1), (1058, .invokevirtual 150, 3), (1061, .pop, 1), (1062, .goto 351, 3)]
set_option maxRecDepth 100000 in
theorem dkL32 : rf_decs code ddL32 := rf_decs_of (by decide +kernel)
set_option maxHeartbeats 8000000 in
set_option maxRecDepth 100000 in
theorem lw_case32 {X : rfX} {G : rfG} {b Ln : Nat} {sc : Nat → Int32} {n sl : Nat} (C : lwC X G b Ln sc n sl) {i : Int32} (h0 : 0 ≤ i.toInt) (h1 : i.toInt + 5 < (Ln : Int)) (KK : ∀ ws', rf_world G.2.1.1 G.2.1.2.1 G.2.1.2.2.1 G.2.1.2.2.2 ws' → lwInv (hv ws') → kW X n sl 1413 [(3, .int i), (2, .ref (G.2.1.1 114)), (1, .ref (G.2.1.1 70)), (0, .ref b)] [] ws') {ws : va_W} (hw : rf_world G.2.1.1 G.2.1.2.1 G.2.1.2.2.1 G.2.1.2.2.2 ws) (hI : lwInv (hv ws)) : kW X n sl 1052 [(3, .int i), (2, .ref (G.2.1.1 114)), (1, .ref (G.2.1.1 70)), (0, .ref b)] [] ws := by
  have hG := C.1
  have hh := w1_ok hG
  have h2 := w2_ok hG
  have c := C.2.2.1
  have hd : ∀ n pc i len, ddL32[n]? = some (pc, i, len) → decode code pc = .ok (i, len) := fun n pc i len h => hdk dkL32 n pc i len h
  have KM : ∀ ws, rf_world G.2.1.1 G.2.1.2.1 G.2.1.2.2.1 G.2.1.2.2.2 ws → lwInv (hv ws) → kW X n sl 1057 [(3, .int i), (2, .ref (G.2.1.1 114)), (1, .ref (G.2.1.1 70)), (0, .ref b)] [] ws := by
    intro ws hw hI
    have hr : hrng wLay (hv ws) := by rw [← hG.2.2.1]; exact hrng_at hw
    have r16_4 : 0 ≤ (hv ws 16 4).toInt ∧ (hv ws 16 4).toInt ≤ 40 := hrg hr ly_16_4
    have r16_5 : 0 ≤ (hv ws 16 5).toInt ∧ (hv ws 16 5).toInt ≤ 40 := hrg hr ly_16_5
    have r114_55 : 0 ≤ (hv ws 114 55).toInt ∧ (hv ws 114 55).toInt ≤ 40 := hrg hr ly_114_55
    have r114_56 : 0 ≤ (hv ws 114 56).toInt ∧ (hv ws 114 56).toInt ≤ 40 := hrg hr ly_114_56
    have r77_1 : 0 ≤ (hv ws 77 1).toInt ∧ (hv ws 77 1).toInt ≤ 31 := hrg hr ly_77_1
    have hA_ := hI.2.2.1
    have hB_ := hI.2.2.2.1
    refine k_al c (hd 3 1057 _ _ rfl) (by rfl) (k_pc 1058 rfl ?_)
    rcases hI.1 with hb_ | hb_
    · skip
      refine k_callM C (M := q1102_M) (q1102_met hG hh) (by decide +kernel) (by decide +kernel) (wlkV (lkL_150 hG) _ rfl rfl) (j := 114) (by decide +kernel) ⟨Nat.le_of_ble_eq_true rfl, Nat.le_of_ble_eq_true rfl⟩ (hd 4 1058 _ _ rfl) [] (rest := []) (by rfl) ⟨⟨114, by decide, rfl⟩, trivial⟩ (Nat.le_of_ble_eq_true rfl) hw (List.forall_mem_cons.mpr ⟨hcon (x := hv ws 114 28) (by omega), List.forall_mem_cons.mpr ⟨hg_in hI.2.1, fun _ h => absurd h List.not_mem_nil⟩⟩) (fun x1 ws1 hw1 hf1 hp1 => k_pc 1061 rfl ?_)
      have hI1 := lwInv_k hI (by decide +kernel) hf1 (by rw [hf1 16 4 (by decide) (by rfl), hf1 16 5 (by decide) (by rfl)]; exact hI.2.2.1) (by rw [hf1 114 55 (by decide) (by rfl), hf1 114 56 (by decide) (by rfl)]; exact hI.2.2.2.1)
      refine k_pop c (hd 5 1061 _ _ rfl) rfl (k_pc 1062 rfl ?_)
      refine k_goto c (hd 6 1062 _ _ rfl) (tgt := 1413) (by decide) ?_
      exact KK _ hw1 hI1
    · skip
      refine k_callM C (M := q1112_M) (q1112_met hG hh) (by decide +kernel) (by decide +kernel) (wlkV (lkL_150 hG) _ rfl rfl) (j := 114) (by decide +kernel) ⟨Nat.le_of_ble_eq_true rfl, Nat.le_of_ble_eq_true rfl⟩ (hd 4 1058 _ _ rfl) [] (rest := []) (by rfl) ⟨⟨114, by decide, rfl⟩, trivial⟩ (Nat.le_of_ble_eq_true rfl) hw (List.forall_mem_cons.mpr ⟨rf_in1 (show 1 ≤ (hv ws 77 1).toInt by omega) (show (hv ws 77 1).toInt ≤ 31 by omega), List.forall_mem_cons.mpr ⟨hcon (x := hv ws 114 28) (by omega), List.forall_mem_cons.mpr ⟨hg_in hI.2.1, fun _ h => absurd h List.not_mem_nil⟩⟩⟩) (fun x1 ws1 hw1 hf1 hp1 => k_pc 1061 rfl ?_)
      have hI1 := lwInv_k hI (by decide +kernel) hf1 (by rw [hf1 16 4 (by decide) (by rfl), hf1 16 5 (by decide) (by rfl)]; exact hI.2.2.1) (by rw [hf1 114 55 (by decide) (by rfl), hf1 114 56 (by decide) (by rfl)]; exact hI.2.2.2.1)
      refine k_pop c (hd 5 1061 _ _ rfl) rfl (k_pc 1062 rfl ?_)
      refine k_goto c (hd 6 1062 _ _ rfl) (tgt := 1413) (by decide) ?_
      exact KK _ hw1 hI1
  have hr : hrng wLay (hv ws) := by rw [← hG.2.2.1]; exact hrng_at hw
  have r16_4 : 0 ≤ (hv ws 16 4).toInt ∧ (hv ws 16 4).toInt ≤ 40 := hrg hr ly_16_4
  have r16_5 : 0 ≤ (hv ws 16 5).toInt ∧ (hv ws 16 5).toInt ≤ 40 := hrg hr ly_16_5
  have r114_55 : 0 ≤ (hv ws 114 55).toInt ∧ (hv ws 114 55).toInt ≤ 40 := hrg hr ly_114_55
  have r114_56 : 0 ≤ (hv ws 114 56).toInt ∧ (hv ws 114 56).toInt ≤ 40 := hrg hr ly_114_56
  have r77_1 : 0 ≤ (hv ws 77 1).toInt ∧ (hv ws 77 1).toInt ≤ 31 := hrg hr ly_77_1
  have hA_ := hI.2.2.1
  have hB_ := hI.2.2.2.1
  refine k_al c (hd 0 1052 _ _ rfl) (by rfl) (k_pc 1053 rfl ?_)
  refine k_callM C (M := q607_M) (q607_met hG) (by decide +kernel) (by decide +kernel) (wlkV (lkL_147 hG) _ rfl rfl) (j := 70) (by decide +kernel) ⟨Nat.le_of_ble_eq_true rfl, Nat.le_of_ble_eq_true rfl⟩ (hd 1 1053 _ _ rfl) [] (rest := []) (by rfl) ⟨⟨70, by decide, rfl⟩, trivial⟩ (Nat.le_of_ble_eq_true rfl) hw (fun _ h => absurd h List.not_mem_nil) (fun x1 ws1 hw1 hf1 hp1 => k_pc 1056 rfl ?_)
  have hI1 := lwInv_k hI (by decide +kernel) hf1 (by rw [hf1 16 4 (by decide) (by rfl), hf1 16 5 (by decide) (by rfl)]; exact hI.2.2.1) (by rw [hf1 114 55 (by decide) (by rfl), hf1 114 56 (by decide) (by rfl)]; exact hI.2.2.2.1)
  refine k_pop c (hd 2 1056 _ _ rfl) rfl (k_pc 1057 rfl ?_)
  exact KM _ hw1 hI1
def ddL33 : List (Nat × Instr × Nat) := [(1065, .aload_n 1, 1), (1066, .invokevirtual 151, 3), (1069, .pop, 1), (1070, .aload_n 2, 1), (1071, .invokevirtual 154, 3), (1074, .pop, 1), (1075, .goto 338, 3)]
set_option maxRecDepth 100000 in
theorem dkL33 : rf_decs code ddL33 := rf_decs_of (by decide +kernel)
set_option maxHeartbeats 8000000 in
set_option maxRecDepth 100000 in
theorem lw_case33 {X : rfX} {G : rfG} {b Ln : Nat} {sc : Nat → Int32} {n sl : Nat} (C : lwC X G b Ln sc n sl) {i : Int32} (h0 : 0 ≤ i.toInt) (h1 : i.toInt + 5 < (Ln : Int)) (KK : ∀ ws', rf_world G.2.1.1 G.2.1.2.1 G.2.1.2.2.1 G.2.1.2.2.2 ws' → lwInv (hv ws') → kW X n sl 1413 [(3, .int i), (2, .ref (G.2.1.1 114)), (1, .ref (G.2.1.1 70)), (0, .ref b)] [] ws') {ws : va_W} (hw : rf_world G.2.1.1 G.2.1.2.1 G.2.1.2.2.1 G.2.1.2.2.2 ws) (hI : lwInv (hv ws)) : kW X n sl 1065 [(3, .int i), (2, .ref (G.2.1.1 114)), (1, .ref (G.2.1.1 70)), (0, .ref b)] [] ws := by
  have hG := C.1
  have hh := w1_ok hG
  have h2 := w2_ok hG
  have c := C.2.2.1
  have hd : ∀ n pc i len, ddL33[n]? = some (pc, i, len) → decode code pc = .ok (i, len) := fun n pc i len h => hdk dkL33 n pc i len h
  have KM : ∀ ws, rf_world G.2.1.1 G.2.1.2.1 G.2.1.2.2.1 G.2.1.2.2.2 ws → lwInv (hv ws) → kW X n sl 1070 [(3, .int i), (2, .ref (G.2.1.1 114)), (1, .ref (G.2.1.1 70)), (0, .ref b)] [] ws := by
    intro ws hw hI
    have hr : hrng wLay (hv ws) := by rw [← hG.2.2.1]; exact hrng_at hw
    have r16_4 : 0 ≤ (hv ws 16 4).toInt ∧ (hv ws 16 4).toInt ≤ 40 := hrg hr ly_16_4
    have r16_5 : 0 ≤ (hv ws 16 5).toInt ∧ (hv ws 16 5).toInt ≤ 40 := hrg hr ly_16_5
    have r114_55 : 0 ≤ (hv ws 114 55).toInt ∧ (hv ws 114 55).toInt ≤ 40 := hrg hr ly_114_55
    have r114_56 : 0 ≤ (hv ws 114 56).toInt ∧ (hv ws 114 56).toInt ≤ 40 := hrg hr ly_114_56
    have r77_1 : 0 ≤ (hv ws 77 1).toInt ∧ (hv ws 77 1).toInt ≤ 31 := hrg hr ly_77_1
    have hA_ := hI.2.2.1
    have hB_ := hI.2.2.2.1
    refine k_al c (hd 3 1070 _ _ rfl) (by rfl) (k_pc 1071 rfl ?_)
    rcases hI.1 with hb_ | hb_
    · skip
      refine k_callM C (M := q1113_M) (q1113_met hG) (by decide +kernel) (by decide +kernel) (wlkV (lkL_154 hG) _ rfl rfl) (j := 114) (by decide +kernel) ⟨Nat.le_of_ble_eq_true rfl, Nat.le_of_ble_eq_true rfl⟩ (hd 4 1071 _ _ rfl) [] (rest := []) (by rfl) ⟨⟨114, by decide, rfl⟩, trivial⟩ (Nat.le_of_ble_eq_true rfl) hw (List.forall_mem_cons.mpr ⟨hcon (x := hv ws 114 28) (by omega), List.forall_mem_cons.mpr ⟨hg_in hI.2.1, fun _ h => absurd h List.not_mem_nil⟩⟩) (fun x1 ws1 hw1 hf1 hp1 => k_pc 1074 rfl ?_)
      have hI1 := lwInv_k hI (by decide +kernel) hf1 (by rw [hf1 16 4 (by decide) (by rfl), hf1 16 5 (by decide) (by rfl)]; exact hI.2.2.1) (by rw [hf1 114 55 (by decide) (by rfl), hf1 114 56 (by decide) (by rfl)]; exact hI.2.2.2.1)
      refine k_pop c (hd 5 1074 _ _ rfl) rfl (k_pc 1075 rfl ?_)
      refine k_goto c (hd 6 1075 _ _ rfl) (tgt := 1413) (by decide) ?_
      exact KK _ hw1 hI1
    · skip
      refine k_callM C (M := q1114_M) (q1114_met hG) (by decide +kernel) (by decide +kernel) (wlkV (lkL_154 hG) _ rfl rfl) (j := 114) (by decide +kernel) ⟨Nat.le_of_ble_eq_true rfl, Nat.le_of_ble_eq_true rfl⟩ (hd 4 1071 _ _ rfl) [] (rest := []) (by rfl) ⟨⟨114, by decide, rfl⟩, trivial⟩ (Nat.le_of_ble_eq_true rfl) hw (List.forall_mem_cons.mpr ⟨rf_in1 (show 1 ≤ (hv ws 77 1).toInt by omega) (show (hv ws 77 1).toInt ≤ 31 by omega), List.forall_mem_cons.mpr ⟨hcon (x := hv ws 114 28) (by omega), List.forall_mem_cons.mpr ⟨hg_in hI.2.1, fun _ h => absurd h List.not_mem_nil⟩⟩⟩) (fun x1 ws1 hw1 hf1 hp1 => k_pc 1074 rfl ?_)
      have hI1 := lwInv_k hI (by decide +kernel) hf1 (by rw [hf1 16 4 (by decide) (by rfl), hf1 16 5 (by decide) (by rfl)]; exact hI.2.2.1) (by rw [hf1 114 55 (by decide) (by rfl), hf1 114 56 (by decide) (by rfl)]; exact hI.2.2.2.1)
      refine k_pop c (hd 5 1074 _ _ rfl) rfl (k_pc 1075 rfl ?_)
      refine k_goto c (hd 6 1075 _ _ rfl) (tgt := 1413) (by decide) ?_
      exact KK _ hw1 hI1
  have hr : hrng wLay (hv ws) := by rw [← hG.2.2.1]; exact hrng_at hw
  have r16_4 : 0 ≤ (hv ws 16 4).toInt ∧ (hv ws 16 4).toInt ≤ 40 := hrg hr ly_16_4
  have r16_5 : 0 ≤ (hv ws 16 5).toInt ∧ (hv ws 16 5).toInt ≤ 40 := hrg hr ly_16_5
  have r114_55 : 0 ≤ (hv ws 114 55).toInt ∧ (hv ws 114 55).toInt ≤ 40 := hrg hr ly_114_55
  have r114_56 : 0 ≤ (hv ws 114 56).toInt ∧ (hv ws 114 56).toInt ≤ 40 := hrg hr ly_114_56
  have r77_1 : 0 ≤ (hv ws 77 1).toInt ∧ (hv ws 77 1).toInt ≤ 31 := hrg hr ly_77_1
  have hA_ := hI.2.2.1
  have hB_ := hI.2.2.2.1
  refine k_al c (hd 0 1065 _ _ rfl) (by rfl) (k_pc 1066 rfl ?_)
  refine k_callM C (M := q611_M) (q611_met hG) (by decide +kernel) (by decide +kernel) (wlkV (lkL_151 hG) _ rfl rfl) (j := 70) (by decide +kernel) ⟨Nat.le_of_ble_eq_true rfl, Nat.le_of_ble_eq_true rfl⟩ (hd 1 1066 _ _ rfl) [] (rest := []) (by rfl) ⟨⟨70, by decide, rfl⟩, trivial⟩ (Nat.le_of_ble_eq_true rfl) hw (fun _ h => absurd h List.not_mem_nil) (fun x1 ws1 hw1 hf1 hp1 => k_pc 1069 rfl ?_)
  have hI1 := lwInv_k hI (by decide +kernel) hf1 (by rw [hf1 16 4 (by decide) (by rfl), hf1 16 5 (by decide) (by rfl)]; exact hI.2.2.1) (by rw [hf1 114 55 (by decide) (by rfl), hf1 114 56 (by decide) (by rfl)]; exact hI.2.2.2.1)
  refine k_pop c (hd 2 1069 _ _ rfl) rfl (k_pc 1070 rfl ?_)
  exact KM _ hw1 hI1
def ddL34 : List (Nat × Instr × Nat) := [(1078, .aload_n 1, 1), (1079, .invokevirtual 155, 3), (1082, .pop, 1), (1083, .aload_n 2, 1), (1084, .invokevirtual 158, 3), (1087, .pop, 1), (1088, .goto 325, 3)]
set_option maxRecDepth 100000 in
theorem dkL34 : rf_decs code ddL34 := rf_decs_of (by decide +kernel)
set_option maxHeartbeats 8000000 in
set_option maxRecDepth 100000 in
theorem lw_case34 {X : rfX} {G : rfG} {b Ln : Nat} {sc : Nat → Int32} {n sl : Nat} (C : lwC X G b Ln sc n sl) {i : Int32} (h0 : 0 ≤ i.toInt) (h1 : i.toInt + 5 < (Ln : Int)) (KK : ∀ ws', rf_world G.2.1.1 G.2.1.2.1 G.2.1.2.2.1 G.2.1.2.2.2 ws' → lwInv (hv ws') → kW X n sl 1413 [(3, .int i), (2, .ref (G.2.1.1 114)), (1, .ref (G.2.1.1 70)), (0, .ref b)] [] ws') {ws : va_W} (hw : rf_world G.2.1.1 G.2.1.2.1 G.2.1.2.2.1 G.2.1.2.2.2 ws) (hI : lwInv (hv ws)) : kW X n sl 1078 [(3, .int i), (2, .ref (G.2.1.1 114)), (1, .ref (G.2.1.1 70)), (0, .ref b)] [] ws := by
  have hG := C.1
  have hh := w1_ok hG
  have h2 := w2_ok hG
  have c := C.2.2.1
  have hd : ∀ n pc i len, ddL34[n]? = some (pc, i, len) → decode code pc = .ok (i, len) := fun n pc i len h => hdk dkL34 n pc i len h
  have KM : ∀ ws, rf_world G.2.1.1 G.2.1.2.1 G.2.1.2.2.1 G.2.1.2.2.2 ws → lwInv (hv ws) → kW X n sl 1083 [(3, .int i), (2, .ref (G.2.1.1 114)), (1, .ref (G.2.1.1 70)), (0, .ref b)] [] ws := by
    intro ws hw hI
    have hr : hrng wLay (hv ws) := by rw [← hG.2.2.1]; exact hrng_at hw
    have r16_4 : 0 ≤ (hv ws 16 4).toInt ∧ (hv ws 16 4).toInt ≤ 40 := hrg hr ly_16_4
    have r16_5 : 0 ≤ (hv ws 16 5).toInt ∧ (hv ws 16 5).toInt ≤ 40 := hrg hr ly_16_5
    have r114_55 : 0 ≤ (hv ws 114 55).toInt ∧ (hv ws 114 55).toInt ≤ 40 := hrg hr ly_114_55
    have r114_56 : 0 ≤ (hv ws 114 56).toInt ∧ (hv ws 114 56).toInt ≤ 40 := hrg hr ly_114_56
    have r77_1 : 0 ≤ (hv ws 77 1).toInt ∧ (hv ws 77 1).toInt ≤ 31 := hrg hr ly_77_1
    have hA_ := hI.2.2.1
    have hB_ := hI.2.2.2.1
    refine k_al c (hd 3 1083 _ _ rfl) (by rfl) (k_pc 1084 rfl ?_)
    rcases hI.1 with hb_ | hb_
    · skip
      refine k_callM C (M := q1121_M) (q1121_met hG hh) (by decide +kernel) (by decide +kernel) (wlkV (lkL_158 hG) _ rfl rfl) (j := 114) (by decide +kernel) ⟨Nat.le_of_ble_eq_true rfl, Nat.le_of_ble_eq_true rfl⟩ (hd 4 1084 _ _ rfl) [] (rest := []) (by rfl) ⟨⟨114, by decide, rfl⟩, trivial⟩ (Nat.le_of_ble_eq_true rfl) hw (List.forall_mem_cons.mpr ⟨hcon (x := hv ws 114 28) (by omega), List.forall_mem_cons.mpr ⟨hg_in hI.2.1, fun _ h => absurd h List.not_mem_nil⟩⟩) (fun x1 ws1 hw1 hf1 hp1 => k_pc 1087 rfl ?_)
      have hI1 := lwInv_k hI (by decide +kernel) hf1 (by rw [hf1 16 4 (by decide) (by rfl), hf1 16 5 (by decide) (by rfl)]; exact hI.2.2.1) (by rw [hf1 114 55 (by decide) (by rfl), hf1 114 56 (by decide) (by rfl)]; exact hI.2.2.2.1)
      refine k_pop c (hd 5 1087 _ _ rfl) rfl (k_pc 1088 rfl ?_)
      refine k_goto c (hd 6 1088 _ _ rfl) (tgt := 1413) (by decide) ?_
      exact KK _ hw1 hI1
    · skip
      refine k_callM C (M := q1122_M) (q1122_met hG hh) (by decide +kernel) (by decide +kernel) (wlkV (lkL_158 hG) _ rfl rfl) (j := 114) (by decide +kernel) ⟨Nat.le_of_ble_eq_true rfl, Nat.le_of_ble_eq_true rfl⟩ (hd 4 1084 _ _ rfl) [] (rest := []) (by rfl) ⟨⟨114, by decide, rfl⟩, trivial⟩ (Nat.le_of_ble_eq_true rfl) hw (List.forall_mem_cons.mpr ⟨rf_in1 (show 1 ≤ (hv ws 77 1).toInt by omega) (show (hv ws 77 1).toInt ≤ 31 by omega), List.forall_mem_cons.mpr ⟨hcon (x := hv ws 114 28) (by omega), List.forall_mem_cons.mpr ⟨hg_in hI.2.1, fun _ h => absurd h List.not_mem_nil⟩⟩⟩) (fun x1 ws1 hw1 hf1 hp1 => k_pc 1087 rfl ?_)
      have hI1 := lwInv_k hI (by decide +kernel) hf1 (by rw [hf1 16 4 (by decide) (by rfl), hf1 16 5 (by decide) (by rfl)]; exact hI.2.2.1) (by rw [hf1 114 55 (by decide) (by rfl), hf1 114 56 (by decide) (by rfl)]; exact hI.2.2.2.1)
      refine k_pop c (hd 5 1087 _ _ rfl) rfl (k_pc 1088 rfl ?_)
      refine k_goto c (hd 6 1088 _ _ rfl) (tgt := 1413) (by decide) ?_
      exact KK _ hw1 hI1
  have hr : hrng wLay (hv ws) := by rw [← hG.2.2.1]; exact hrng_at hw
  have r16_4 : 0 ≤ (hv ws 16 4).toInt ∧ (hv ws 16 4).toInt ≤ 40 := hrg hr ly_16_4
  have r16_5 : 0 ≤ (hv ws 16 5).toInt ∧ (hv ws 16 5).toInt ≤ 40 := hrg hr ly_16_5
  have r114_55 : 0 ≤ (hv ws 114 55).toInt ∧ (hv ws 114 55).toInt ≤ 40 := hrg hr ly_114_55
  have r114_56 : 0 ≤ (hv ws 114 56).toInt ∧ (hv ws 114 56).toInt ≤ 40 := hrg hr ly_114_56
  have r77_1 : 0 ≤ (hv ws 77 1).toInt ∧ (hv ws 77 1).toInt ≤ 31 := hrg hr ly_77_1
  have hA_ := hI.2.2.1
  have hB_ := hI.2.2.2.1
  refine k_al c (hd 0 1078 _ _ rfl) (by rfl) (k_pc 1079 rfl ?_)
  refine k_callM C (M := q627_M) (q627_met hG) (by decide +kernel) (by decide +kernel) (wlkV (lkL_155 hG) _ rfl rfl) (j := 70) (by decide +kernel) ⟨Nat.le_of_ble_eq_true rfl, Nat.le_of_ble_eq_true rfl⟩ (hd 1 1079 _ _ rfl) [] (rest := []) (by rfl) ⟨⟨70, by decide, rfl⟩, trivial⟩ (Nat.le_of_ble_eq_true rfl) hw (fun _ h => absurd h List.not_mem_nil) (fun x1 ws1 hw1 hf1 hp1 => k_pc 1082 rfl ?_)
  have hI1 := lwInv_k hI (by decide +kernel) hf1 (by rw [hf1 16 4 (by decide) (by rfl), hf1 16 5 (by decide) (by rfl)]; exact hI.2.2.1) (by rw [hf1 114 55 (by decide) (by rfl), hf1 114 56 (by decide) (by rfl)]; exact hI.2.2.2.1)
  refine k_pop c (hd 2 1082 _ _ rfl) rfl (k_pc 1083 rfl ?_)
  exact KM _ hw1 hI1
def ddL35 : List (Nat × Instr × Nat) := [(1091, .aload_n 1, 1), (1092, .invokevirtual 159, 3), (1095, .pop, 1), (1096, .aload_n 2, 1), (1097, .invokevirtual 162, 3), (1100, .pop, 1), (1101, .goto 312, 3)]
set_option maxRecDepth 100000 in
theorem dkL35 : rf_decs code ddL35 := rf_decs_of (by decide +kernel)
set_option maxHeartbeats 8000000 in
set_option maxRecDepth 100000 in
theorem lw_case35 {X : rfX} {G : rfG} {b Ln : Nat} {sc : Nat → Int32} {n sl : Nat} (C : lwC X G b Ln sc n sl) {i : Int32} (h0 : 0 ≤ i.toInt) (h1 : i.toInt + 5 < (Ln : Int)) (KK : ∀ ws', rf_world G.2.1.1 G.2.1.2.1 G.2.1.2.2.1 G.2.1.2.2.2 ws' → lwInv (hv ws') → kW X n sl 1413 [(3, .int i), (2, .ref (G.2.1.1 114)), (1, .ref (G.2.1.1 70)), (0, .ref b)] [] ws') {ws : va_W} (hw : rf_world G.2.1.1 G.2.1.2.1 G.2.1.2.2.1 G.2.1.2.2.2 ws) (hI : lwInv (hv ws)) : kW X n sl 1091 [(3, .int i), (2, .ref (G.2.1.1 114)), (1, .ref (G.2.1.1 70)), (0, .ref b)] [] ws := by
  have hG := C.1
  have hh := w1_ok hG
  have h2 := w2_ok hG
  have c := C.2.2.1
  have hd : ∀ n pc i len, ddL35[n]? = some (pc, i, len) → decode code pc = .ok (i, len) := fun n pc i len h => hdk dkL35 n pc i len h
  have KM : ∀ ws, rf_world G.2.1.1 G.2.1.2.1 G.2.1.2.2.1 G.2.1.2.2.2 ws → lwInv (hv ws) → kW X n sl 1096 [(3, .int i), (2, .ref (G.2.1.1 114)), (1, .ref (G.2.1.1 70)), (0, .ref b)] [] ws := by
    intro ws hw hI
    have hr : hrng wLay (hv ws) := by rw [← hG.2.2.1]; exact hrng_at hw
    have r16_4 : 0 ≤ (hv ws 16 4).toInt ∧ (hv ws 16 4).toInt ≤ 40 := hrg hr ly_16_4
    have r16_5 : 0 ≤ (hv ws 16 5).toInt ∧ (hv ws 16 5).toInt ≤ 40 := hrg hr ly_16_5
    have r114_55 : 0 ≤ (hv ws 114 55).toInt ∧ (hv ws 114 55).toInt ≤ 40 := hrg hr ly_114_55
    have r114_56 : 0 ≤ (hv ws 114 56).toInt ∧ (hv ws 114 56).toInt ≤ 40 := hrg hr ly_114_56
    have r77_1 : 0 ≤ (hv ws 77 1).toInt ∧ (hv ws 77 1).toInt ≤ 31 := hrg hr ly_77_1
    have hA_ := hI.2.2.1
    have hB_ := hI.2.2.2.1
    refine k_al c (hd 3 1096 _ _ rfl) (by rfl) (k_pc 1097 rfl ?_)
    rcases hI.1 with hb_ | hb_
    · skip
      refine k_callM C (M := q1137_M) (q1137_met hG) (by decide +kernel) (by decide +kernel) (wlkV (lkL_162 hG) _ rfl rfl) (j := 114) (by decide +kernel) ⟨Nat.le_of_ble_eq_true rfl, Nat.le_of_ble_eq_true rfl⟩ (hd 4 1097 _ _ rfl) [] (rest := []) (by rfl) ⟨⟨114, by decide, rfl⟩, trivial⟩ (Nat.le_of_ble_eq_true rfl) hw (List.forall_mem_cons.mpr ⟨hcon (x := hv ws 114 28) (by omega), List.forall_mem_cons.mpr ⟨hg_in hI.2.1, fun _ h => absurd h List.not_mem_nil⟩⟩) (fun x1 ws1 hw1 hf1 hp1 => k_pc 1100 rfl ?_)
      have hI1 := lwInv_k hI (by decide +kernel) hf1 (by rw [hf1 16 4 (by decide) (by rfl), hf1 16 5 (by decide) (by rfl)]; exact hI.2.2.1) (by rw [hf1 114 55 (by decide) (by rfl), hf1 114 56 (by decide) (by rfl)]; exact hI.2.2.2.1)
      refine k_pop c (hd 5 1100 _ _ rfl) rfl (k_pc 1101 rfl ?_)
      refine k_goto c (hd 6 1101 _ _ rfl) (tgt := 1413) (by decide) ?_
      exact KK _ hw1 hI1
    · skip
      refine k_callM C (M := q1138_M) (q1138_met hG) (by decide +kernel) (by decide +kernel) (wlkV (lkL_162 hG) _ rfl rfl) (j := 114) (by decide +kernel) ⟨Nat.le_of_ble_eq_true rfl, Nat.le_of_ble_eq_true rfl⟩ (hd 4 1097 _ _ rfl) [] (rest := []) (by rfl) ⟨⟨114, by decide, rfl⟩, trivial⟩ (Nat.le_of_ble_eq_true rfl) hw (List.forall_mem_cons.mpr ⟨rf_in1 (show 1 ≤ (hv ws 77 1).toInt by omega) (show (hv ws 77 1).toInt ≤ 31 by omega), List.forall_mem_cons.mpr ⟨hcon (x := hv ws 114 28) (by omega), List.forall_mem_cons.mpr ⟨hg_in hI.2.1, fun _ h => absurd h List.not_mem_nil⟩⟩⟩) (fun x1 ws1 hw1 hf1 hp1 => k_pc 1100 rfl ?_)
      have hI1 := lwInv_k hI (by decide +kernel) hf1 (by rw [hf1 16 4 (by decide) (by rfl), hf1 16 5 (by decide) (by rfl)]; exact hI.2.2.1) (by rw [hf1 114 55 (by decide) (by rfl), hf1 114 56 (by decide) (by rfl)]; exact hI.2.2.2.1)
      refine k_pop c (hd 5 1100 _ _ rfl) rfl (k_pc 1101 rfl ?_)
      refine k_goto c (hd 6 1101 _ _ rfl) (tgt := 1413) (by decide) ?_
      exact KK _ hw1 hI1
  have hr : hrng wLay (hv ws) := by rw [← hG.2.2.1]; exact hrng_at hw
  have r16_4 : 0 ≤ (hv ws 16 4).toInt ∧ (hv ws 16 4).toInt ≤ 40 := hrg hr ly_16_4
  have r16_5 : 0 ≤ (hv ws 16 5).toInt ∧ (hv ws 16 5).toInt ≤ 40 := hrg hr ly_16_5
  have r114_55 : 0 ≤ (hv ws 114 55).toInt ∧ (hv ws 114 55).toInt ≤ 40 := hrg hr ly_114_55
  have r114_56 : 0 ≤ (hv ws 114 56).toInt ∧ (hv ws 114 56).toInt ≤ 40 := hrg hr ly_114_56
  have r77_1 : 0 ≤ (hv ws 77 1).toInt ∧ (hv ws 77 1).toInt ≤ 31 := hrg hr ly_77_1
  have hA_ := hI.2.2.1
  have hB_ := hI.2.2.2.1
  refine k_al c (hd 0 1091 _ _ rfl) (by rfl) (k_pc 1092 rfl ?_)
  refine k_callM C (M := q646_M) (q646_met hG) (by decide +kernel) (by decide +kernel) (wlkV (lkL_159 hG) _ rfl rfl) (j := 70) (by decide +kernel) ⟨Nat.le_of_ble_eq_true rfl, Nat.le_of_ble_eq_true rfl⟩ (hd 1 1092 _ _ rfl) [] (rest := []) (by rfl) ⟨⟨70, by decide, rfl⟩, trivial⟩ (Nat.le_of_ble_eq_true rfl) hw (fun _ h => absurd h List.not_mem_nil) (fun x1 ws1 hw1 hf1 hp1 => k_pc 1095 rfl ?_)
  have hI1 := lwInv_k hI (by decide +kernel) hf1 (by rw [hf1 16 4 (by decide) (by rfl), hf1 16 5 (by decide) (by rfl)]; exact hI.2.2.1) (by rw [hf1 114 55 (by decide) (by rfl), hf1 114 56 (by decide) (by rfl)]; exact hI.2.2.2.1)
  refine k_pop c (hd 2 1095 _ _ rfl) rfl (k_pc 1096 rfl ?_)
  exact KM _ hw1 hI1
def ddL36 : List (Nat × Instr × Nat) := [(1104, .aload_n 1, 1), (1105, .aload_n 0, 1), (1106, .iload_n 3, 1), (1107, .iconst 1, 1), (1108, .iadd, 1), (1109, .iaload, 1), (1110, .invokevirtual 163, 3), (1113, .pop, 1), (1114, .aload_n 2, 1), (1115, .aload_n 0, 1), (1116, .iload_n 3, 1), (1117, .iconst 1, 1), (1118, .iadd, 1), (1119, .iaload, 1), (1120, .invokevirtual 166, 3), (1123, .pop, 1), (1124, .goto 289, 3)]
set_option maxRecDepth 100000 in
theorem dkL36 : rf_decs code ddL36 := rf_decs_of (by decide +kernel)
set_option maxHeartbeats 8000000 in
set_option maxRecDepth 100000 in
theorem lw_case36 {X : rfX} {G : rfG} {b Ln : Nat} {sc : Nat → Int32} {n sl : Nat} (C : lwC X G b Ln sc n sl) {i : Int32} (h0 : 0 ≤ i.toInt) (h1 : i.toInt + 5 < (Ln : Int)) (KK : ∀ ws', rf_world G.2.1.1 G.2.1.2.1 G.2.1.2.2.1 G.2.1.2.2.2 ws' → lwInv (hv ws') → kW X n sl 1413 [(3, .int i), (2, .ref (G.2.1.1 114)), (1, .ref (G.2.1.1 70)), (0, .ref b)] [] ws') {ws : va_W} (hw : rf_world G.2.1.1 G.2.1.2.1 G.2.1.2.2.1 G.2.1.2.2.2 ws) (hI : lwInv (hv ws)) : kW X n sl 1104 [(3, .int i), (2, .ref (G.2.1.1 114)), (1, .ref (G.2.1.1 70)), (0, .ref b)] [] ws := by
  have hG := C.1
  have hh := w1_ok hG
  have h2 := w2_ok hG
  have c := C.2.2.1
  have hd : ∀ n pc i len, ddL36[n]? = some (pc, i, len) → decode code pc = .ok (i, len) := fun n pc i len h => hdk dkL36 n pc i len h
  have KM : ∀ ws, rf_world G.2.1.1 G.2.1.2.1 G.2.1.2.2.1 G.2.1.2.2.2 ws → lwInv (hv ws) → kW X n sl 1114 [(3, .int i), (2, .ref (G.2.1.1 114)), (1, .ref (G.2.1.1 70)), (0, .ref b)] [] ws := by
    intro ws hw hI
    have hr : hrng wLay (hv ws) := by rw [← hG.2.2.1]; exact hrng_at hw
    have r16_4 : 0 ≤ (hv ws 16 4).toInt ∧ (hv ws 16 4).toInt ≤ 40 := hrg hr ly_16_4
    have r16_5 : 0 ≤ (hv ws 16 5).toInt ∧ (hv ws 16 5).toInt ≤ 40 := hrg hr ly_16_5
    have r114_55 : 0 ≤ (hv ws 114 55).toInt ∧ (hv ws 114 55).toInt ≤ 40 := hrg hr ly_114_55
    have r114_56 : 0 ≤ (hv ws 114 56).toInt ∧ (hv ws 114 56).toInt ≤ 40 := hrg hr ly_114_56
    have r77_1 : 0 ≤ (hv ws 77 1).toInt ∧ (hv ws 77 1).toInt ≤ 31 := hrg hr ly_77_1
    have hA_ := hI.2.2.1
    have hB_ := hI.2.2.2.1
    refine k_al c (hd 8 1114 _ _ rfl) (by rfl) (k_pc 1115 rfl ?_)
    refine k_al c (hd 9 1115 _ _ rfl) (by rfl) (k_pc 1116 rfl ?_)
    refine k_il c (hd 10 1116 _ _ rfl) (by rfl) (k_pc 1117 rfl ?_)
    refine k_ic c (hd 11 1117 _ _ rfl) (v := 1) (by decide) (k_pc 1118 rfl ?_)
    refine k_addE c (hd 12 1118 _ _ rfl) (k_pc 1119 rfl ?_)
    refine k_sld C (lw_in h0 h1 C.2.2.2.2.1 (by decide)) (hd 13 1119 _ _ rfl) (k_pc 1120 rfl ?_)
    rcases hI.1 with hb_ | hb_
    · skip
      refine k_callM C (M := q1139_M) (q1139_met hG) (by decide +kernel) (by decide +kernel) (wlkV (lkL_166 hG) _ rfl rfl) (j := 114) (by decide +kernel) ⟨Nat.le_of_ble_eq_true rfl, Nat.le_of_ble_eq_true rfl⟩ (hd 14 1120 _ _ rfl) [.int (sc (i + 1).toNatClampNeg)] (rest := []) (by rfl) ⟨⟨114, by decide, rfl⟩, ⟨_, rfl, rf_in_top _, trivial⟩, trivial⟩ (Nat.le_of_ble_eq_true rfl) hw (List.forall_mem_cons.mpr ⟨hcon (x := hv ws 114 28) (by omega), List.forall_mem_cons.mpr ⟨hg_in hI.2.1, fun _ h => absurd h List.not_mem_nil⟩⟩) (fun x1 ws1 hw1 hf1 hp1 => k_pc 1123 rfl ?_)
      have hI1 := lwInv_k hI (by decide +kernel) hf1 (by rw [hf1 16 4 (by decide) (by rfl), hf1 16 5 (by decide) (by rfl)]; exact hI.2.2.1) (by rw [hf1 114 55 (by decide) (by rfl), hf1 114 56 (by decide) (by rfl)]; exact hI.2.2.2.1)
      refine k_pop c (hd 15 1123 _ _ rfl) rfl (k_pc 1124 rfl ?_)
      refine k_goto c (hd 16 1124 _ _ rfl) (tgt := 1413) (by decide) ?_
      exact KK _ hw1 hI1
    · skip
      refine k_callM C (M := q1140_M) (q1140_met hG) (by decide +kernel) (by decide +kernel) (wlkV (lkL_166 hG) _ rfl rfl) (j := 114) (by decide +kernel) ⟨Nat.le_of_ble_eq_true rfl, Nat.le_of_ble_eq_true rfl⟩ (hd 14 1120 _ _ rfl) [.int (sc (i + 1).toNatClampNeg)] (rest := []) (by rfl) ⟨⟨114, by decide, rfl⟩, ⟨_, rfl, rf_in_top _, trivial⟩, trivial⟩ (Nat.le_of_ble_eq_true rfl) hw (List.forall_mem_cons.mpr ⟨rf_in1 (show 1 ≤ (hv ws 77 1).toInt by omega) (show (hv ws 77 1).toInt ≤ 31 by omega), List.forall_mem_cons.mpr ⟨hcon (x := hv ws 114 28) (by omega), List.forall_mem_cons.mpr ⟨hg_in hI.2.1, fun _ h => absurd h List.not_mem_nil⟩⟩⟩) (fun x1 ws1 hw1 hf1 hp1 => k_pc 1123 rfl ?_)
      have hI1 := lwInv_k hI (by decide +kernel) hf1 (by rw [hf1 16 4 (by decide) (by rfl), hf1 16 5 (by decide) (by rfl)]; exact hI.2.2.1) (by rw [hf1 114 55 (by decide) (by rfl), hf1 114 56 (by decide) (by rfl)]; exact hI.2.2.2.1)
      refine k_pop c (hd 15 1123 _ _ rfl) rfl (k_pc 1124 rfl ?_)
      refine k_goto c (hd 16 1124 _ _ rfl) (tgt := 1413) (by decide) ?_
      exact KK _ hw1 hI1
  have hr : hrng wLay (hv ws) := by rw [← hG.2.2.1]; exact hrng_at hw
  have r16_4 : 0 ≤ (hv ws 16 4).toInt ∧ (hv ws 16 4).toInt ≤ 40 := hrg hr ly_16_4
  have r16_5 : 0 ≤ (hv ws 16 5).toInt ∧ (hv ws 16 5).toInt ≤ 40 := hrg hr ly_16_5
  have r114_55 : 0 ≤ (hv ws 114 55).toInt ∧ (hv ws 114 55).toInt ≤ 40 := hrg hr ly_114_55
  have r114_56 : 0 ≤ (hv ws 114 56).toInt ∧ (hv ws 114 56).toInt ≤ 40 := hrg hr ly_114_56
  have r77_1 : 0 ≤ (hv ws 77 1).toInt ∧ (hv ws 77 1).toInt ≤ 31 := hrg hr ly_77_1
  have hA_ := hI.2.2.1
  have hB_ := hI.2.2.2.1
  refine k_al c (hd 0 1104 _ _ rfl) (by rfl) (k_pc 1105 rfl ?_)
  refine k_al c (hd 1 1105 _ _ rfl) (by rfl) (k_pc 1106 rfl ?_)
  refine k_il c (hd 2 1106 _ _ rfl) (by rfl) (k_pc 1107 rfl ?_)
  refine k_ic c (hd 3 1107 _ _ rfl) (v := 1) (by decide) (k_pc 1108 rfl ?_)
  refine k_addE c (hd 4 1108 _ _ rfl) (k_pc 1109 rfl ?_)
  refine k_sld C (lw_in h0 h1 C.2.2.2.2.1 (by decide)) (hd 5 1109 _ _ rfl) (k_pc 1110 rfl ?_)
  refine k_callM C (M := q647_M) (q647_met hG) (by decide +kernel) (by decide +kernel) (wlkV (lkL_163 hG) _ rfl rfl) (j := 70) (by decide +kernel) ⟨Nat.le_of_ble_eq_true rfl, Nat.le_of_ble_eq_true rfl⟩ (hd 6 1110 _ _ rfl) [.int (sc (i + 1).toNatClampNeg)] (rest := []) (by rfl) ⟨⟨70, by decide, rfl⟩, ⟨_, rfl, rf_in_top _, trivial⟩, trivial⟩ (Nat.le_of_ble_eq_true rfl) hw (fun _ h => absurd h List.not_mem_nil) (fun x1 ws1 hw1 hf1 hp1 => k_pc 1113 rfl ?_)
  have hI1 := lwInv_k hI (by decide +kernel) hf1 (by rw [hf1 16 4 (by decide) (by rfl), hf1 16 5 (by decide) (by rfl)]; exact hI.2.2.1) (by rw [hf1 114 55 (by decide) (by rfl), hf1 114 56 (by decide) (by rfl)]; exact hI.2.2.2.1)
  refine k_pop c (hd 7 1113 _ _ rfl) rfl (k_pc 1114 rfl ?_)
  exact KM _ hw1 hI1
def ddL37 : List (Nat × Instr × Nat) := [(1127, .aload_n 1, 1), (1128, .aload_n 0, 1), (1129, .iload_n 3, 1), (1130, .iconst 1, 1), (1131, .iadd, 1), (1132, .iaload, 1), (1133, .aload_n 0, 1), (1134, .iload_n 3, 1), (1135, .iconst 2, 1), (1136, .iadd, 1), (1137, .iaload, 1), (1138, .invokevirtual 167, 3), (1141, .pop, 1), (1142, .aload_n 2, 1), (1143, .aload_n 0, 1), (1144, .iload_n 3, 1), (1145, .iconst 1, 1), (1146, .iadd, 1), (1147, .iaload, 1), (1148, .aload_n 0, 1), (1149, .iload_n 3, 1), (1150, .iconst 2, 1), (1151, .iadd, 1), (1152, .iaload, 1), (1153, .invokevirtual 170, 3), (1156, .pop, 1), (1157, .goto 256, 3)]
set_option maxRecDepth 100000 in
theorem dkL37 : rf_decs code ddL37 := rf_decs_of (by decide +kernel)
set_option maxHeartbeats 8000000 in
set_option maxRecDepth 100000 in
theorem lw_case37 {X : rfX} {G : rfG} {b Ln : Nat} {sc : Nat → Int32} {n sl : Nat} (C : lwC X G b Ln sc n sl) {i : Int32} (h0 : 0 ≤ i.toInt) (h1 : i.toInt + 5 < (Ln : Int)) (KK : ∀ ws', rf_world G.2.1.1 G.2.1.2.1 G.2.1.2.2.1 G.2.1.2.2.2 ws' → lwInv (hv ws') → kW X n sl 1413 [(3, .int i), (2, .ref (G.2.1.1 114)), (1, .ref (G.2.1.1 70)), (0, .ref b)] [] ws') {ws : va_W} (hw : rf_world G.2.1.1 G.2.1.2.1 G.2.1.2.2.1 G.2.1.2.2.2 ws) (hI : lwInv (hv ws)) : kW X n sl 1127 [(3, .int i), (2, .ref (G.2.1.1 114)), (1, .ref (G.2.1.1 70)), (0, .ref b)] [] ws := by
  have hG := C.1
  have hh := w1_ok hG
  have h2 := w2_ok hG
  have c := C.2.2.1
  have hd : ∀ n pc i len, ddL37[n]? = some (pc, i, len) → decode code pc = .ok (i, len) := fun n pc i len h => hdk dkL37 n pc i len h
  have KM : ∀ ws, rf_world G.2.1.1 G.2.1.2.1 G.2.1.2.2.1 G.2.1.2.2.2 ws → lwInv (hv ws) → kW X n sl 1142 [(3, .int i), (2, .ref (G.2.1.1 114)), (1, .ref (G.2.1.1 70)), (0, .ref b)] [] ws := by
    intro ws hw hI
    have hr : hrng wLay (hv ws) := by rw [← hG.2.2.1]; exact hrng_at hw
    have r16_4 : 0 ≤ (hv ws 16 4).toInt ∧ (hv ws 16 4).toInt ≤ 40 := hrg hr ly_16_4
    have r16_5 : 0 ≤ (hv ws 16 5).toInt ∧ (hv ws 16 5).toInt ≤ 40 := hrg hr ly_16_5
    have r114_55 : 0 ≤ (hv ws 114 55).toInt ∧ (hv ws 114 55).toInt ≤ 40 := hrg hr ly_114_55
    have r114_56 : 0 ≤ (hv ws 114 56).toInt ∧ (hv ws 114 56).toInt ≤ 40 := hrg hr ly_114_56
    have r77_1 : 0 ≤ (hv ws 77 1).toInt ∧ (hv ws 77 1).toInt ≤ 31 := hrg hr ly_77_1
    have hA_ := hI.2.2.1
    have hB_ := hI.2.2.2.1
    refine k_al c (hd 13 1142 _ _ rfl) (by rfl) (k_pc 1143 rfl ?_)
    refine k_al c (hd 14 1143 _ _ rfl) (by rfl) (k_pc 1144 rfl ?_)
    refine k_il c (hd 15 1144 _ _ rfl) (by rfl) (k_pc 1145 rfl ?_)
    refine k_ic c (hd 16 1145 _ _ rfl) (v := 1) (by decide) (k_pc 1146 rfl ?_)
    refine k_addE c (hd 17 1146 _ _ rfl) (k_pc 1147 rfl ?_)
    refine k_sld C (lw_in h0 h1 C.2.2.2.2.1 (by decide)) (hd 18 1147 _ _ rfl) (k_pc 1148 rfl ?_)
    refine k_al c (hd 19 1148 _ _ rfl) (by rfl) (k_pc 1149 rfl ?_)
    refine k_il c (hd 20 1149 _ _ rfl) (by rfl) (k_pc 1150 rfl ?_)
    refine k_ic c (hd 21 1150 _ _ rfl) (v := 2) (by decide) (k_pc 1151 rfl ?_)
    refine k_addE c (hd 22 1151 _ _ rfl) (k_pc 1152 rfl ?_)
    refine k_sld C (lw_in h0 h1 C.2.2.2.2.1 (by decide)) (hd 23 1152 _ _ rfl) (k_pc 1153 rfl ?_)
    rcases hI.1 with hb_ | hb_
    · skip
      refine k_callM C (M := q1145_M) (q1145_met hG) (by decide +kernel) (by decide +kernel) (wlkV (lkL_170 hG) _ rfl rfl) (j := 114) (by decide +kernel) ⟨Nat.le_of_ble_eq_true rfl, Nat.le_of_ble_eq_true rfl⟩ (hd 24 1153 _ _ rfl) [.int (sc (i + 1).toNatClampNeg), .int (sc (i + 2).toNatClampNeg)] (rest := []) (by rfl) ⟨⟨114, by decide, rfl⟩, ⟨_, rfl, rf_in_top _, trivial⟩, ⟨_, rfl, rf_in_top _, trivial⟩, trivial⟩ (Nat.le_of_ble_eq_true rfl) hw (List.forall_mem_cons.mpr ⟨hcon (x := hv ws 114 28) (by omega), List.forall_mem_cons.mpr ⟨hg_in hI.2.1, fun _ h => absurd h List.not_mem_nil⟩⟩) (fun x1 ws1 hw1 hf1 hp1 => k_pc 1156 rfl ?_)
      have hI1 := lwInv_k hI (by decide +kernel) hf1 (by rw [hf1 16 4 (by decide) (by rfl), hf1 16 5 (by decide) (by rfl)]; exact hI.2.2.1) (by rw [hf1 114 55 (by decide) (by rfl), hf1 114 56 (by decide) (by rfl)]; exact hI.2.2.2.1)
      refine k_pop c (hd 25 1156 _ _ rfl) rfl (k_pc 1157 rfl ?_)
      refine k_goto c (hd 26 1157 _ _ rfl) (tgt := 1413) (by decide) ?_
      exact KK _ hw1 hI1
    · skip
      refine k_callM C (M := q1146_M) (q1146_met hG) (by decide +kernel) (by decide +kernel) (wlkV (lkL_170 hG) _ rfl rfl) (j := 114) (by decide +kernel) ⟨Nat.le_of_ble_eq_true rfl, Nat.le_of_ble_eq_true rfl⟩ (hd 24 1153 _ _ rfl) [.int (sc (i + 1).toNatClampNeg), .int (sc (i + 2).toNatClampNeg)] (rest := []) (by rfl) ⟨⟨114, by decide, rfl⟩, ⟨_, rfl, rf_in_top _, trivial⟩, ⟨_, rfl, rf_in_top _, trivial⟩, trivial⟩ (Nat.le_of_ble_eq_true rfl) hw (List.forall_mem_cons.mpr ⟨rf_in1 (show 1 ≤ (hv ws 77 1).toInt by omega) (show (hv ws 77 1).toInt ≤ 31 by omega), List.forall_mem_cons.mpr ⟨hcon (x := hv ws 114 28) (by omega), List.forall_mem_cons.mpr ⟨hg_in hI.2.1, fun _ h => absurd h List.not_mem_nil⟩⟩⟩) (fun x1 ws1 hw1 hf1 hp1 => k_pc 1156 rfl ?_)
      have hI1 := lwInv_k hI (by decide +kernel) hf1 (by rw [hf1 16 4 (by decide) (by rfl), hf1 16 5 (by decide) (by rfl)]; exact hI.2.2.1) (by rw [hf1 114 55 (by decide) (by rfl), hf1 114 56 (by decide) (by rfl)]; exact hI.2.2.2.1)
      refine k_pop c (hd 25 1156 _ _ rfl) rfl (k_pc 1157 rfl ?_)
      refine k_goto c (hd 26 1157 _ _ rfl) (tgt := 1413) (by decide) ?_
      exact KK _ hw1 hI1
  have hr : hrng wLay (hv ws) := by rw [← hG.2.2.1]; exact hrng_at hw
  have r16_4 : 0 ≤ (hv ws 16 4).toInt ∧ (hv ws 16 4).toInt ≤ 40 := hrg hr ly_16_4
  have r16_5 : 0 ≤ (hv ws 16 5).toInt ∧ (hv ws 16 5).toInt ≤ 40 := hrg hr ly_16_5
  have r114_55 : 0 ≤ (hv ws 114 55).toInt ∧ (hv ws 114 55).toInt ≤ 40 := hrg hr ly_114_55
  have r114_56 : 0 ≤ (hv ws 114 56).toInt ∧ (hv ws 114 56).toInt ≤ 40 := hrg hr ly_114_56
  have r77_1 : 0 ≤ (hv ws 77 1).toInt ∧ (hv ws 77 1).toInt ≤ 31 := hrg hr ly_77_1
  have hA_ := hI.2.2.1
  have hB_ := hI.2.2.2.1
  refine k_al c (hd 0 1127 _ _ rfl) (by rfl) (k_pc 1128 rfl ?_)
  refine k_al c (hd 1 1128 _ _ rfl) (by rfl) (k_pc 1129 rfl ?_)
  refine k_il c (hd 2 1129 _ _ rfl) (by rfl) (k_pc 1130 rfl ?_)
  refine k_ic c (hd 3 1130 _ _ rfl) (v := 1) (by decide) (k_pc 1131 rfl ?_)
  refine k_addE c (hd 4 1131 _ _ rfl) (k_pc 1132 rfl ?_)
  refine k_sld C (lw_in h0 h1 C.2.2.2.2.1 (by decide)) (hd 5 1132 _ _ rfl) (k_pc 1133 rfl ?_)
  refine k_al c (hd 6 1133 _ _ rfl) (by rfl) (k_pc 1134 rfl ?_)
  refine k_il c (hd 7 1134 _ _ rfl) (by rfl) (k_pc 1135 rfl ?_)
  refine k_ic c (hd 8 1135 _ _ rfl) (v := 2) (by decide) (k_pc 1136 rfl ?_)
  refine k_addE c (hd 9 1136 _ _ rfl) (k_pc 1137 rfl ?_)
  refine k_sld C (lw_in h0 h1 C.2.2.2.2.1 (by decide)) (hd 10 1137 _ _ rfl) (k_pc 1138 rfl ?_)
  refine k_callM C (M := q649_M) (q649_met hG) (by decide +kernel) (by decide +kernel) (wlkV (lkL_167 hG) _ rfl rfl) (j := 70) (by decide +kernel) ⟨Nat.le_of_ble_eq_true rfl, Nat.le_of_ble_eq_true rfl⟩ (hd 11 1138 _ _ rfl) [.int (sc (i + 1).toNatClampNeg), .int (sc (i + 2).toNatClampNeg)] (rest := []) (by rfl) ⟨⟨70, by decide, rfl⟩, ⟨_, rfl, rf_in_top _, trivial⟩, ⟨_, rfl, rf_in_top _, trivial⟩, trivial⟩ (Nat.le_of_ble_eq_true rfl) hw (fun _ h => absurd h List.not_mem_nil) (fun x1 ws1 hw1 hf1 hp1 => k_pc 1141 rfl ?_)
  have hI1 := lwInv_k hI (by decide +kernel) hf1 (by rw [hf1 16 4 (by decide) (by rfl), hf1 16 5 (by decide) (by rfl)]; exact hI.2.2.1) (by rw [hf1 114 55 (by decide) (by rfl), hf1 114 56 (by decide) (by rfl)]; exact hI.2.2.2.1)
  refine k_pop c (hd 12 1141 _ _ rfl) rfl (k_pc 1142 rfl ?_)
  exact KM _ hw1 hI1
def ddL38 : List (Nat × Instr × Nat) := [(1160, .aload_n 1, 1), (1161, .aload_n 0, 1), (1162, .iload_n 3, 1), (1163, .iconst 1, 1), (1164, .iadd, 1), (1165, .iaload, 1), (1166, .invokevirtual 171, 3), (1169, .pop, 1), (1170, .aload_n 2, 1), (1171, .aload_n 0, 1), (1172, .iload_n 3, 1), (1173, .iconst 1, 1), (1174, .iadd, 1), (1175, .iaload, 1), (1176, .invokevirtual 174, 3), (1179, .pop, 1), (1180, .goto 233, 3)]
set_option maxRecDepth 100000 in
theorem dkL38 : rf_decs code ddL38 := rf_decs_of (by decide +kernel)
set_option maxHeartbeats 8000000 in
set_option maxRecDepth 100000 in
theorem lw_case38 {X : rfX} {G : rfG} {b Ln : Nat} {sc : Nat → Int32} {n sl : Nat} (C : lwC X G b Ln sc n sl) {i : Int32} (h0 : 0 ≤ i.toInt) (h1 : i.toInt + 5 < (Ln : Int)) (KK : ∀ ws', rf_world G.2.1.1 G.2.1.2.1 G.2.1.2.2.1 G.2.1.2.2.2 ws' → lwInv (hv ws') → kW X n sl 1413 [(3, .int i), (2, .ref (G.2.1.1 114)), (1, .ref (G.2.1.1 70)), (0, .ref b)] [] ws') {ws : va_W} (hw : rf_world G.2.1.1 G.2.1.2.1 G.2.1.2.2.1 G.2.1.2.2.2 ws) (hI : lwInv (hv ws)) : kW X n sl 1160 [(3, .int i), (2, .ref (G.2.1.1 114)), (1, .ref (G.2.1.1 70)), (0, .ref b)] [] ws := by
  have hG := C.1
  have hh := w1_ok hG
  have h2 := w2_ok hG
  have c := C.2.2.1
  have hd : ∀ n pc i len, ddL38[n]? = some (pc, i, len) → decode code pc = .ok (i, len) := fun n pc i len h => hdk dkL38 n pc i len h
  have KM : ∀ ws, rf_world G.2.1.1 G.2.1.2.1 G.2.1.2.2.1 G.2.1.2.2.2 ws → lwInv (hv ws) → kW X n sl 1170 [(3, .int i), (2, .ref (G.2.1.1 114)), (1, .ref (G.2.1.1 70)), (0, .ref b)] [] ws := by
    intro ws hw hI
    have hr : hrng wLay (hv ws) := by rw [← hG.2.2.1]; exact hrng_at hw
    have r16_4 : 0 ≤ (hv ws 16 4).toInt ∧ (hv ws 16 4).toInt ≤ 40 := hrg hr ly_16_4
    have r16_5 : 0 ≤ (hv ws 16 5).toInt ∧ (hv ws 16 5).toInt ≤ 40 := hrg hr ly_16_5
    have r114_55 : 0 ≤ (hv ws 114 55).toInt ∧ (hv ws 114 55).toInt ≤ 40 := hrg hr ly_114_55
    have r114_56 : 0 ≤ (hv ws 114 56).toInt ∧ (hv ws 114 56).toInt ≤ 40 := hrg hr ly_114_56
    have r77_1 : 0 ≤ (hv ws 77 1).toInt ∧ (hv ws 77 1).toInt ≤ 31 := hrg hr ly_77_1
    have hA_ := hI.2.2.1
    have hB_ := hI.2.2.2.1
    refine k_al c (hd 8 1170 _ _ rfl) (by rfl) (k_pc 1171 rfl ?_)
    refine k_al c (hd 9 1171 _ _ rfl) (by rfl) (k_pc 1172 rfl ?_)
    refine k_il c (hd 10 1172 _ _ rfl) (by rfl) (k_pc 1173 rfl ?_)
    refine k_ic c (hd 11 1173 _ _ rfl) (v := 1) (by decide) (k_pc 1174 rfl ?_)
    refine k_addE c (hd 12 1174 _ _ rfl) (k_pc 1175 rfl ?_)
    refine k_sld C (lw_in h0 h1 C.2.2.2.2.1 (by decide)) (hd 13 1175 _ _ rfl) (k_pc 1176 rfl ?_)
    rcases hI.1 with hb_ | hb_
    · skip
      refine k_callM C (M := q1148_M) (q1148_met hG) (by decide +kernel) (by decide +kernel) (wlkV (lkL_174 hG) _ rfl rfl) (j := 114) (by decide +kernel) ⟨Nat.le_of_ble_eq_true rfl, Nat.le_of_ble_eq_true rfl⟩ (hd 14 1176 _ _ rfl) [.int (sc (i + 1).toNatClampNeg)] (rest := []) (by rfl) ⟨⟨114, by decide, rfl⟩, ⟨_, rfl, rf_in_top _, trivial⟩, trivial⟩ (Nat.le_of_ble_eq_true rfl) hw (List.forall_mem_cons.mpr ⟨hcon (x := hv ws 114 28) (by omega), List.forall_mem_cons.mpr ⟨hg_in hI.2.1, fun _ h => absurd h List.not_mem_nil⟩⟩) (fun x1 ws1 hw1 hf1 hp1 => k_pc 1179 rfl ?_)
      have hI1 := lwInv_k hI (by decide +kernel) hf1 (by rw [hf1 16 4 (by decide) (by rfl), hf1 16 5 (by decide) (by rfl)]; exact hI.2.2.1) (by rw [hf1 114 55 (by decide) (by rfl), hf1 114 56 (by decide) (by rfl)]; exact hI.2.2.2.1)
      refine k_pop c (hd 15 1179 _ _ rfl) rfl (k_pc 1180 rfl ?_)
      refine k_goto c (hd 16 1180 _ _ rfl) (tgt := 1413) (by decide) ?_
      exact KK _ hw1 hI1
    · skip
      refine k_callM C (M := q1149_M) (q1149_met hG) (by decide +kernel) (by decide +kernel) (wlkV (lkL_174 hG) _ rfl rfl) (j := 114) (by decide +kernel) ⟨Nat.le_of_ble_eq_true rfl, Nat.le_of_ble_eq_true rfl⟩ (hd 14 1176 _ _ rfl) [.int (sc (i + 1).toNatClampNeg)] (rest := []) (by rfl) ⟨⟨114, by decide, rfl⟩, ⟨_, rfl, rf_in_top _, trivial⟩, trivial⟩ (Nat.le_of_ble_eq_true rfl) hw (List.forall_mem_cons.mpr ⟨rf_in1 (show 1 ≤ (hv ws 77 1).toInt by omega) (show (hv ws 77 1).toInt ≤ 31 by omega), List.forall_mem_cons.mpr ⟨hcon (x := hv ws 114 28) (by omega), List.forall_mem_cons.mpr ⟨hg_in hI.2.1, fun _ h => absurd h List.not_mem_nil⟩⟩⟩) (fun x1 ws1 hw1 hf1 hp1 => k_pc 1179 rfl ?_)
      have hI1 := lwInv_k hI (by decide +kernel) hf1 (by rw [hf1 16 4 (by decide) (by rfl), hf1 16 5 (by decide) (by rfl)]; exact hI.2.2.1) (by rw [hf1 114 55 (by decide) (by rfl), hf1 114 56 (by decide) (by rfl)]; exact hI.2.2.2.1)
      refine k_pop c (hd 15 1179 _ _ rfl) rfl (k_pc 1180 rfl ?_)
      refine k_goto c (hd 16 1180 _ _ rfl) (tgt := 1413) (by decide) ?_
      exact KK _ hw1 hI1
  have hr : hrng wLay (hv ws) := by rw [← hG.2.2.1]; exact hrng_at hw
  have r16_4 : 0 ≤ (hv ws 16 4).toInt ∧ (hv ws 16 4).toInt ≤ 40 := hrg hr ly_16_4
  have r16_5 : 0 ≤ (hv ws 16 5).toInt ∧ (hv ws 16 5).toInt ≤ 40 := hrg hr ly_16_5
  have r114_55 : 0 ≤ (hv ws 114 55).toInt ∧ (hv ws 114 55).toInt ≤ 40 := hrg hr ly_114_55
  have r114_56 : 0 ≤ (hv ws 114 56).toInt ∧ (hv ws 114 56).toInt ≤ 40 := hrg hr ly_114_56
  have r77_1 : 0 ≤ (hv ws 77 1).toInt ∧ (hv ws 77 1).toInt ≤ 31 := hrg hr ly_77_1
  have hA_ := hI.2.2.1
  have hB_ := hI.2.2.2.1
  refine k_al c (hd 0 1160 _ _ rfl) (by rfl) (k_pc 1161 rfl ?_)
  refine k_al c (hd 1 1161 _ _ rfl) (by rfl) (k_pc 1162 rfl ?_)
  refine k_il c (hd 2 1162 _ _ rfl) (by rfl) (k_pc 1163 rfl ?_)
  refine k_ic c (hd 3 1163 _ _ rfl) (v := 1) (by decide) (k_pc 1164 rfl ?_)
  refine k_addE c (hd 4 1164 _ _ rfl) (k_pc 1165 rfl ?_)
  refine k_sld C (lw_in h0 h1 C.2.2.2.2.1 (by decide)) (hd 5 1165 _ _ rfl) (k_pc 1166 rfl ?_)
  refine k_callM C (M := q650_M) (q650_met hG) (by decide +kernel) (by decide +kernel) (wlkV (lkL_171 hG) _ rfl rfl) (j := 70) (by decide +kernel) ⟨Nat.le_of_ble_eq_true rfl, Nat.le_of_ble_eq_true rfl⟩ (hd 6 1166 _ _ rfl) [.int (sc (i + 1).toNatClampNeg)] (rest := []) (by rfl) ⟨⟨70, by decide, rfl⟩, ⟨_, rfl, rf_in_top _, trivial⟩, trivial⟩ (Nat.le_of_ble_eq_true rfl) hw (fun _ h => absurd h List.not_mem_nil) (fun x1 ws1 hw1 hf1 hp1 => k_pc 1169 rfl ?_)
  have hI1 := lwInv_k hI (by decide +kernel) hf1 (by rw [hf1 16 4 (by decide) (by rfl), hf1 16 5 (by decide) (by rfl)]; exact hI.2.2.1) (by rw [hf1 114 55 (by decide) (by rfl), hf1 114 56 (by decide) (by rfl)]; exact hI.2.2.2.1)
  refine k_pop c (hd 7 1169 _ _ rfl) rfl (k_pc 1170 rfl ?_)
  exact KM _ hw1 hI1
def ddL39 : List (Nat × Instr × Nat) := [(1183, .aload_n 1, 1), (1184, .aload_n 0, 1), (1185, .iload_n 3, 1), (1186, .iconst 1, 1), (1187, .iadd, 1), (1188, .iaload, 1), (1189, .aload_n 0, 1), (1190, .iload_n 3, 1), (1191, .iconst 2, 1), (1192, .iadd, 1), (1193, .iaload, 1), (1194, .aload_n 0, 1), (1195, .iload_n 3, 1), (1196, .iconst 3, 1), (1197, .iadd, 1), (1198, .iaload, 1), (1199, .ifCond .eq 7, 3), (1202, .iconst 1, 1), (1203, .goto 4, 3), (1206, .iconst 0, 1), (1207, .invokevirtual 175, 3), (1210, .pop, 1), (1211, .aload_n 2, 1), (1212, .aload_n 0, 1), (1213, .iload_n 3, 1), (1214, .iconst 1, 1), (1215, .iadd, 1), (1216, .iaload, 1), (1217, .aload_n 0, 1), (1218, .iload_n 3, 1), (1219, .iconst 2, 1), (1220, .iadd, 1), (1221, .iaload, 1), (1222, .aload_n 0, 1), (1223, .iload_n 3, 1), (1224, .iconst 3, 1), (1225, .iadd, 1), (1226, .iaload, 1), (1227, .ifCond .eq 7, 3), (1230, .iconst 1, 1), (1231, .goto 4, 3), (1234, .iconst 0, 1), (1235, .invokevirtual 179, 3), (1238, .pop, 1), (1239, .goto 174, 3)]
set_option maxRecDepth 100000 in
theorem dkL39 : rf_decs code ddL39 := rf_decs_of (by decide +kernel)
set_option maxHeartbeats 8000000 in
set_option maxRecDepth 100000 in
theorem lw_case39 {X : rfX} {G : rfG} {b Ln : Nat} {sc : Nat → Int32} {n sl : Nat} (C : lwC X G b Ln sc n sl) {i : Int32} (h0 : 0 ≤ i.toInt) (h1 : i.toInt + 5 < (Ln : Int)) (KK : ∀ ws', rf_world G.2.1.1 G.2.1.2.1 G.2.1.2.2.1 G.2.1.2.2.2 ws' → lwInv (hv ws') → kW X n sl 1413 [(3, .int i), (2, .ref (G.2.1.1 114)), (1, .ref (G.2.1.1 70)), (0, .ref b)] [] ws') {ws : va_W} (hw : rf_world G.2.1.1 G.2.1.2.1 G.2.1.2.2.1 G.2.1.2.2.2 ws) (hI : lwInv (hv ws)) : kW X n sl 1183 [(3, .int i), (2, .ref (G.2.1.1 114)), (1, .ref (G.2.1.1 70)), (0, .ref b)] [] ws := by
  have hG := C.1
  have hh := w1_ok hG
  have h2 := w2_ok hG
  have c := C.2.2.1
  have hd : ∀ n pc i len, ddL39[n]? = some (pc, i, len) → decode code pc = .ok (i, len) := fun n pc i len h => hdk dkL39 n pc i len h
  have KM : ∀ ws, rf_world G.2.1.1 G.2.1.2.1 G.2.1.2.2.1 G.2.1.2.2.2 ws → lwInv (hv ws) → kW X n sl 1211 [(3, .int i), (2, .ref (G.2.1.1 114)), (1, .ref (G.2.1.1 70)), (0, .ref b)] [] ws := by
    intro ws hw hI
    have hr : hrng wLay (hv ws) := by rw [← hG.2.2.1]; exact hrng_at hw
    have r16_4 : 0 ≤ (hv ws 16 4).toInt ∧ (hv ws 16 4).toInt ≤ 40 := hrg hr ly_16_4
    have r16_5 : 0 ≤ (hv ws 16 5).toInt ∧ (hv ws 16 5).toInt ≤ 40 := hrg hr ly_16_5
    have r114_55 : 0 ≤ (hv ws 114 55).toInt ∧ (hv ws 114 55).toInt ≤ 40 := hrg hr ly_114_55
    have r114_56 : 0 ≤ (hv ws 114 56).toInt ∧ (hv ws 114 56).toInt ≤ 40 := hrg hr ly_114_56
    have r77_1 : 0 ≤ (hv ws 77 1).toInt ∧ (hv ws 77 1).toInt ≤ 31 := hrg hr ly_77_1
    have hA_ := hI.2.2.1
    have hB_ := hI.2.2.2.1
    refine k_al c (hd 22 1211 _ _ rfl) (by rfl) (k_pc 1212 rfl ?_)
    refine k_al c (hd 23 1212 _ _ rfl) (by rfl) (k_pc 1213 rfl ?_)
    refine k_il c (hd 24 1213 _ _ rfl) (by rfl) (k_pc 1214 rfl ?_)
    refine k_ic c (hd 25 1214 _ _ rfl) (v := 1) (by decide) (k_pc 1215 rfl ?_)
    refine k_addE c (hd 26 1215 _ _ rfl) (k_pc 1216 rfl ?_)
    refine k_sld C (lw_in h0 h1 C.2.2.2.2.1 (by decide)) (hd 27 1216 _ _ rfl) (k_pc 1217 rfl ?_)
    refine k_al c (hd 28 1217 _ _ rfl) (by rfl) (k_pc 1218 rfl ?_)
    refine k_il c (hd 29 1218 _ _ rfl) (by rfl) (k_pc 1219 rfl ?_)
    refine k_ic c (hd 30 1219 _ _ rfl) (v := 2) (by decide) (k_pc 1220 rfl ?_)
    refine k_addE c (hd 31 1220 _ _ rfl) (k_pc 1221 rfl ?_)
    refine k_sld C (lw_in h0 h1 C.2.2.2.2.1 (by decide)) (hd 32 1221 _ _ rfl) (k_pc 1222 rfl ?_)
    refine k_al c (hd 33 1222 _ _ rfl) (by rfl) (k_pc 1223 rfl ?_)
    refine k_il c (hd 34 1223 _ _ rfl) (by rfl) (k_pc 1224 rfl ?_)
    refine k_ic c (hd 35 1224 _ _ rfl) (v := 3) (by decide) (k_pc 1225 rfl ?_)
    refine k_addE c (hd 36 1225 _ _ rfl) (k_pc 1226 rfl ?_)
    refine k_sld C (lw_in h0 h1 C.2.2.2.2.1 (by decide)) (hd 37 1226 _ _ rfl) (k_pc 1227 rfl ?_)
    refine k_ifeq c (hd 38 1227 _ _ rfl) (tgt := 1234) (by decide) ?_ (k_pc 1230 rfl ?_)
    · skip
      refine k_ic c (hd 41 1234 _ _ rfl) (v := 0) (by decide) (k_pc 1235 rfl ?_)
      rcases hI.1 with hb_ | hb_
      · skip
        refine k_callM C (M := q1150_M) (q1150_met hG) (by decide +kernel) (by decide +kernel) (wlkV (lkL_179 hG) _ rfl rfl) (j := 114) (by decide +kernel) ⟨Nat.le_of_ble_eq_true rfl, Nat.le_of_ble_eq_true rfl⟩ (hd 42 1235 _ _ rfl) [.int (sc (i + 1).toNatClampNeg), .int (sc (i + 2).toNatClampNeg), .int 0] (rest := []) (by rfl) ⟨⟨114, by decide, rfl⟩, ⟨_, rfl, rf_in_top _, trivial⟩, ⟨_, rfl, rf_in_top _, trivial⟩, ⟨_, rfl, rf_in1 (by decide) (by decide), trivial⟩, trivial⟩ (Nat.le_of_ble_eq_true rfl) hw (List.forall_mem_cons.mpr ⟨hcon (x := hv ws 114 28) (by omega), List.forall_mem_cons.mpr ⟨hg_in hI.2.1, fun _ h => absurd h List.not_mem_nil⟩⟩) (fun x1 ws1 hw1 hf1 hp1 => k_pc 1238 rfl ?_)
        have hI1 := lwInv_k hI (by decide +kernel) hf1 (by rw [hf1 16 4 (by decide) (by rfl), hf1 16 5 (by decide) (by rfl)]; exact hI.2.2.1) (by rw [hf1 114 55 (by decide) (by rfl), hf1 114 56 (by decide) (by rfl)]; exact hI.2.2.2.1)
        refine k_pop c (hd 43 1238 _ _ rfl) rfl (k_pc 1239 rfl ?_)
        refine k_goto c (hd 44 1239 _ _ rfl) (tgt := 1413) (by decide) ?_
        exact KK _ hw1 hI1
      · skip
        refine k_callM C (M := q1151_M) (q1151_met hG) (by decide +kernel) (by decide +kernel) (wlkV (lkL_179 hG) _ rfl rfl) (j := 114) (by decide +kernel) ⟨Nat.le_of_ble_eq_true rfl, Nat.le_of_ble_eq_true rfl⟩ (hd 42 1235 _ _ rfl) [.int (sc (i + 1).toNatClampNeg), .int (sc (i + 2).toNatClampNeg), .int 0] (rest := []) (by rfl) ⟨⟨114, by decide, rfl⟩, ⟨_, rfl, rf_in_top _, trivial⟩, ⟨_, rfl, rf_in_top _, trivial⟩, ⟨_, rfl, rf_in1 (by decide) (by decide), trivial⟩, trivial⟩ (Nat.le_of_ble_eq_true rfl) hw (List.forall_mem_cons.mpr ⟨rf_in1 (show 1 ≤ (hv ws 77 1).toInt by omega) (show (hv ws 77 1).toInt ≤ 31 by omega), List.forall_mem_cons.mpr ⟨hcon (x := hv ws 114 28) (by omega), List.forall_mem_cons.mpr ⟨hg_in hI.2.1, fun _ h => absurd h List.not_mem_nil⟩⟩⟩) (fun x1 ws1 hw1 hf1 hp1 => k_pc 1238 rfl ?_)
        have hI1 := lwInv_k hI (by decide +kernel) hf1 (by rw [hf1 16 4 (by decide) (by rfl), hf1 16 5 (by decide) (by rfl)]; exact hI.2.2.1) (by rw [hf1 114 55 (by decide) (by rfl), hf1 114 56 (by decide) (by rfl)]; exact hI.2.2.2.1)
        refine k_pop c (hd 43 1238 _ _ rfl) rfl (k_pc 1239 rfl ?_)
        refine k_goto c (hd 44 1239 _ _ rfl) (tgt := 1413) (by decide) ?_
        exact KK _ hw1 hI1
    · skip
      refine k_ic c (hd 39 1230 _ _ rfl) (v := 1) (by decide) (k_pc 1231 rfl ?_)
      refine k_goto c (hd 40 1231 _ _ rfl) (tgt := 1235) (by decide) ?_
      rcases hI.1 with hb_ | hb_
      · skip
        refine k_callM C (M := q1150_M) (q1150_met hG) (by decide +kernel) (by decide +kernel) (wlkV (lkL_179 hG) _ rfl rfl) (j := 114) (by decide +kernel) ⟨Nat.le_of_ble_eq_true rfl, Nat.le_of_ble_eq_true rfl⟩ (hd 42 1235 _ _ rfl) [.int (sc (i + 1).toNatClampNeg), .int (sc (i + 2).toNatClampNeg), .int 1] (rest := []) (by rfl) ⟨⟨114, by decide, rfl⟩, ⟨_, rfl, rf_in_top _, trivial⟩, ⟨_, rfl, rf_in_top _, trivial⟩, ⟨_, rfl, rf_in1 (by decide) (by decide), trivial⟩, trivial⟩ (Nat.le_of_ble_eq_true rfl) hw (List.forall_mem_cons.mpr ⟨hcon (x := hv ws 114 28) (by omega), List.forall_mem_cons.mpr ⟨hg_in hI.2.1, fun _ h => absurd h List.not_mem_nil⟩⟩) (fun x1 ws1 hw1 hf1 hp1 => k_pc 1238 rfl ?_)
        have hI1 := lwInv_k hI (by decide +kernel) hf1 (by rw [hf1 16 4 (by decide) (by rfl), hf1 16 5 (by decide) (by rfl)]; exact hI.2.2.1) (by rw [hf1 114 55 (by decide) (by rfl), hf1 114 56 (by decide) (by rfl)]; exact hI.2.2.2.1)
        refine k_pop c (hd 43 1238 _ _ rfl) rfl (k_pc 1239 rfl ?_)
        refine k_goto c (hd 44 1239 _ _ rfl) (tgt := 1413) (by decide) ?_
        exact KK _ hw1 hI1
      · skip
        refine k_callM C (M := q1151_M) (q1151_met hG) (by decide +kernel) (by decide +kernel) (wlkV (lkL_179 hG) _ rfl rfl) (j := 114) (by decide +kernel) ⟨Nat.le_of_ble_eq_true rfl, Nat.le_of_ble_eq_true rfl⟩ (hd 42 1235 _ _ rfl) [.int (sc (i + 1).toNatClampNeg), .int (sc (i + 2).toNatClampNeg), .int 1] (rest := []) (by rfl) ⟨⟨114, by decide, rfl⟩, ⟨_, rfl, rf_in_top _, trivial⟩, ⟨_, rfl, rf_in_top _, trivial⟩, ⟨_, rfl, rf_in1 (by decide) (by decide), trivial⟩, trivial⟩ (Nat.le_of_ble_eq_true rfl) hw (List.forall_mem_cons.mpr ⟨rf_in1 (show 1 ≤ (hv ws 77 1).toInt by omega) (show (hv ws 77 1).toInt ≤ 31 by omega), List.forall_mem_cons.mpr ⟨hcon (x := hv ws 114 28) (by omega), List.forall_mem_cons.mpr ⟨hg_in hI.2.1, fun _ h => absurd h List.not_mem_nil⟩⟩⟩) (fun x1 ws1 hw1 hf1 hp1 => k_pc 1238 rfl ?_)
        have hI1 := lwInv_k hI (by decide +kernel) hf1 (by rw [hf1 16 4 (by decide) (by rfl), hf1 16 5 (by decide) (by rfl)]; exact hI.2.2.1) (by rw [hf1 114 55 (by decide) (by rfl), hf1 114 56 (by decide) (by rfl)]; exact hI.2.2.2.1)
        refine k_pop c (hd 43 1238 _ _ rfl) rfl (k_pc 1239 rfl ?_)
        refine k_goto c (hd 44 1239 _ _ rfl) (tgt := 1413) (by decide) ?_
        exact KK _ hw1 hI1
  have hr : hrng wLay (hv ws) := by rw [← hG.2.2.1]; exact hrng_at hw
  have r16_4 : 0 ≤ (hv ws 16 4).toInt ∧ (hv ws 16 4).toInt ≤ 40 := hrg hr ly_16_4
  have r16_5 : 0 ≤ (hv ws 16 5).toInt ∧ (hv ws 16 5).toInt ≤ 40 := hrg hr ly_16_5
  have r114_55 : 0 ≤ (hv ws 114 55).toInt ∧ (hv ws 114 55).toInt ≤ 40 := hrg hr ly_114_55
  have r114_56 : 0 ≤ (hv ws 114 56).toInt ∧ (hv ws 114 56).toInt ≤ 40 := hrg hr ly_114_56
  have r77_1 : 0 ≤ (hv ws 77 1).toInt ∧ (hv ws 77 1).toInt ≤ 31 := hrg hr ly_77_1
  have hA_ := hI.2.2.1
  have hB_ := hI.2.2.2.1
  refine k_al c (hd 0 1183 _ _ rfl) (by rfl) (k_pc 1184 rfl ?_)
  refine k_al c (hd 1 1184 _ _ rfl) (by rfl) (k_pc 1185 rfl ?_)
  refine k_il c (hd 2 1185 _ _ rfl) (by rfl) (k_pc 1186 rfl ?_)
  refine k_ic c (hd 3 1186 _ _ rfl) (v := 1) (by decide) (k_pc 1187 rfl ?_)
  refine k_addE c (hd 4 1187 _ _ rfl) (k_pc 1188 rfl ?_)
  refine k_sld C (lw_in h0 h1 C.2.2.2.2.1 (by decide)) (hd 5 1188 _ _ rfl) (k_pc 1189 rfl ?_)
  refine k_al c (hd 6 1189 _ _ rfl) (by rfl) (k_pc 1190 rfl ?_)
  refine k_il c (hd 7 1190 _ _ rfl) (by rfl) (k_pc 1191 rfl ?_)
  refine k_ic c (hd 8 1191 _ _ rfl) (v := 2) (by decide) (k_pc 1192 rfl ?_)
  refine k_addE c (hd 9 1192 _ _ rfl) (k_pc 1193 rfl ?_)
  refine k_sld C (lw_in h0 h1 C.2.2.2.2.1 (by decide)) (hd 10 1193 _ _ rfl) (k_pc 1194 rfl ?_)
  refine k_al c (hd 11 1194 _ _ rfl) (by rfl) (k_pc 1195 rfl ?_)
  refine k_il c (hd 12 1195 _ _ rfl) (by rfl) (k_pc 1196 rfl ?_)
  refine k_ic c (hd 13 1196 _ _ rfl) (v := 3) (by decide) (k_pc 1197 rfl ?_)
  refine k_addE c (hd 14 1197 _ _ rfl) (k_pc 1198 rfl ?_)
  refine k_sld C (lw_in h0 h1 C.2.2.2.2.1 (by decide)) (hd 15 1198 _ _ rfl) (k_pc 1199 rfl ?_)
  refine k_ifeq c (hd 16 1199 _ _ rfl) (tgt := 1206) (by decide) ?_ (k_pc 1202 rfl ?_)
  · skip
    refine k_ic c (hd 19 1206 _ _ rfl) (v := 0) (by decide) (k_pc 1207 rfl ?_)
    refine k_callM C (M := q652_M) (q652_met hG) (by decide +kernel) (by decide +kernel) (wlkV (lkL_175 hG) _ rfl rfl) (j := 70) (by decide +kernel) ⟨Nat.le_of_ble_eq_true rfl, Nat.le_of_ble_eq_true rfl⟩ (hd 20 1207 _ _ rfl) [.int (sc (i + 1).toNatClampNeg), .int (sc (i + 2).toNatClampNeg), .int 0] (rest := []) (by rfl) ⟨⟨70, by decide, rfl⟩, ⟨_, rfl, rf_in_top _, trivial⟩, ⟨_, rfl, rf_in_top _, trivial⟩, ⟨_, rfl, rf_in1 (by decide) (by decide), trivial⟩, trivial⟩ (Nat.le_of_ble_eq_true rfl) hw (fun _ h => absurd h List.not_mem_nil) (fun x1 ws1 hw1 hf1 hp1 => k_pc 1210 rfl ?_)
    have hI1 := lwInv_k hI (by decide +kernel) hf1 (by rw [hf1 16 4 (by decide) (by rfl), hf1 16 5 (by decide) (by rfl)]; exact hI.2.2.1) (by rw [hf1 114 55 (by decide) (by rfl), hf1 114 56 (by decide) (by rfl)]; exact hI.2.2.2.1)
    refine k_pop c (hd 21 1210 _ _ rfl) rfl (k_pc 1211 rfl ?_)
    exact KM _ hw1 hI1
  · skip
    refine k_ic c (hd 17 1202 _ _ rfl) (v := 1) (by decide) (k_pc 1203 rfl ?_)
    refine k_goto c (hd 18 1203 _ _ rfl) (tgt := 1207) (by decide) ?_
    refine k_callM C (M := q652_M) (q652_met hG) (by decide +kernel) (by decide +kernel) (wlkV (lkL_175 hG) _ rfl rfl) (j := 70) (by decide +kernel) ⟨Nat.le_of_ble_eq_true rfl, Nat.le_of_ble_eq_true rfl⟩ (hd 20 1207 _ _ rfl) [.int (sc (i + 1).toNatClampNeg), .int (sc (i + 2).toNatClampNeg), .int 1] (rest := []) (by rfl) ⟨⟨70, by decide, rfl⟩, ⟨_, rfl, rf_in_top _, trivial⟩, ⟨_, rfl, rf_in_top _, trivial⟩, ⟨_, rfl, rf_in1 (by decide) (by decide), trivial⟩, trivial⟩ (Nat.le_of_ble_eq_true rfl) hw (fun _ h => absurd h List.not_mem_nil) (fun x1 ws1 hw1 hf1 hp1 => k_pc 1210 rfl ?_)
    have hI1 := lwInv_k hI (by decide +kernel) hf1 (by rw [hf1 16 4 (by decide) (by rfl), hf1 16 5 (by decide) (by rfl)]; exact hI.2.2.1) (by rw [hf1 114 55 (by decide) (by rfl), hf1 114 56 (by decide) (by rfl)]; exact hI.2.2.2.1)
    refine k_pop c (hd 21 1210 _ _ rfl) rfl (k_pc 1211 rfl ?_)
    exact KM _ hw1 hI1
def ddL40 : List (Nat × Instr × Nat) := [(1242, .aload_n 1, 1), (1243, .aload_n 0, 1), (1244, .iload_n 3, 1), (1245, .iconst 1, 1), (1246, .iadd, 1), (1247, .iaload, 1), (1248, .invokevirtual 180, 3), (1251, .pop, 1), (1252, .aload_n 2, 1), (1253, .aload_n 0, 1), (1254, .iload_n 3, 1), (1255, .iconst 1, 1), (1256, .iadd, 1), (1257, .iaload, 1), (1258, .invokevirtual 184, 3), (1261, .pop, 1), (1262, .goto 151, 3)]
set_option maxRecDepth 100000 in
theorem dkL40 : rf_decs code ddL40 := rf_decs_of (by decide +kernel)
set_option maxHeartbeats 8000000 in
set_option maxRecDepth 100000 in
theorem lw_case40 {X : rfX} {G : rfG} {b Ln : Nat} {sc : Nat → Int32} {n sl : Nat} (C : lwC X G b Ln sc n sl) {i : Int32} (h0 : 0 ≤ i.toInt) (h1 : i.toInt + 5 < (Ln : Int)) (KK : ∀ ws', rf_world G.2.1.1 G.2.1.2.1 G.2.1.2.2.1 G.2.1.2.2.2 ws' → lwInv (hv ws') → kW X n sl 1413 [(3, .int i), (2, .ref (G.2.1.1 114)), (1, .ref (G.2.1.1 70)), (0, .ref b)] [] ws') {ws : va_W} (hw : rf_world G.2.1.1 G.2.1.2.1 G.2.1.2.2.1 G.2.1.2.2.2 ws) (hI : lwInv (hv ws)) : kW X n sl 1242 [(3, .int i), (2, .ref (G.2.1.1 114)), (1, .ref (G.2.1.1 70)), (0, .ref b)] [] ws := by
  have hG := C.1
  have hh := w1_ok hG
  have h2 := w2_ok hG
  have c := C.2.2.1
  have hd : ∀ n pc i len, ddL40[n]? = some (pc, i, len) → decode code pc = .ok (i, len) := fun n pc i len h => hdk dkL40 n pc i len h
  have KM : ∀ ws, rf_world G.2.1.1 G.2.1.2.1 G.2.1.2.2.1 G.2.1.2.2.2 ws → lwInv (hv ws) → kW X n sl 1252 [(3, .int i), (2, .ref (G.2.1.1 114)), (1, .ref (G.2.1.1 70)), (0, .ref b)] [] ws := by
    intro ws hw hI
    have hr : hrng wLay (hv ws) := by rw [← hG.2.2.1]; exact hrng_at hw
    have r16_4 : 0 ≤ (hv ws 16 4).toInt ∧ (hv ws 16 4).toInt ≤ 40 := hrg hr ly_16_4
    have r16_5 : 0 ≤ (hv ws 16 5).toInt ∧ (hv ws 16 5).toInt ≤ 40 := hrg hr ly_16_5
    have r114_55 : 0 ≤ (hv ws 114 55).toInt ∧ (hv ws 114 55).toInt ≤ 40 := hrg hr ly_114_55
    have r114_56 : 0 ≤ (hv ws 114 56).toInt ∧ (hv ws 114 56).toInt ≤ 40 := hrg hr ly_114_56
    have r77_1 : 0 ≤ (hv ws 77 1).toInt ∧ (hv ws 77 1).toInt ≤ 31 := hrg hr ly_77_1
    have hA_ := hI.2.2.1
    have hB_ := hI.2.2.2.1
    refine k_al c (hd 8 1252 _ _ rfl) (by rfl) (k_pc 1253 rfl ?_)
    refine k_al c (hd 9 1253 _ _ rfl) (by rfl) (k_pc 1254 rfl ?_)
    refine k_il c (hd 10 1254 _ _ rfl) (by rfl) (k_pc 1255 rfl ?_)
    refine k_ic c (hd 11 1255 _ _ rfl) (v := 1) (by decide) (k_pc 1256 rfl ?_)
    refine k_addE c (hd 12 1256 _ _ rfl) (k_pc 1257 rfl ?_)
    refine k_sld C (lw_in h0 h1 C.2.2.2.2.1 (by decide)) (hd 13 1257 _ _ rfl) (k_pc 1258 rfl ?_)
    rcases hI.1 with hb_ | hb_
    · skip
      refine k_callM C (M := q1153_M) (q1153_met hG) (by decide +kernel) (by decide +kernel) (wlkV (lkL_184 hG) _ rfl rfl) (j := 114) (by decide +kernel) ⟨Nat.le_of_ble_eq_true rfl, Nat.le_of_ble_eq_true rfl⟩ (hd 14 1258 _ _ rfl) [.int (sc (i + 1).toNatClampNeg)] (rest := []) (by rfl) ⟨⟨114, by decide, rfl⟩, ⟨_, rfl, rf_in_top _, trivial⟩, trivial⟩ (Nat.le_of_ble_eq_true rfl) hw (List.forall_mem_cons.mpr ⟨hcon (x := hv ws 114 28) (by omega), List.forall_mem_cons.mpr ⟨hg_in hI.2.1, fun _ h => absurd h List.not_mem_nil⟩⟩) (fun x1 ws1 hw1 hf1 hp1 => k_pc 1261 rfl ?_)
      have hI1 := lwInv_k hI (by decide +kernel) hf1 (by rw [hf1 16 4 (by decide) (by rfl), hf1 16 5 (by decide) (by rfl)]; exact hI.2.2.1) (by rw [hf1 114 55 (by decide) (by rfl), hf1 114 56 (by decide) (by rfl)]; exact hI.2.2.2.1)
      refine k_pop c (hd 15 1261 _ _ rfl) rfl (k_pc 1262 rfl ?_)
      refine k_goto c (hd 16 1262 _ _ rfl) (tgt := 1413) (by decide) ?_
      exact KK _ hw1 hI1
    · skip
      refine k_callM C (M := q1154_M) (q1154_met hG) (by decide +kernel) (by decide +kernel) (wlkV (lkL_184 hG) _ rfl rfl) (j := 114) (by decide +kernel) ⟨Nat.le_of_ble_eq_true rfl, Nat.le_of_ble_eq_true rfl⟩ (hd 14 1258 _ _ rfl) [.int (sc (i + 1).toNatClampNeg)] (rest := []) (by rfl) ⟨⟨114, by decide, rfl⟩, ⟨_, rfl, rf_in_top _, trivial⟩, trivial⟩ (Nat.le_of_ble_eq_true rfl) hw (List.forall_mem_cons.mpr ⟨rf_in1 (show 1 ≤ (hv ws 77 1).toInt by omega) (show (hv ws 77 1).toInt ≤ 31 by omega), List.forall_mem_cons.mpr ⟨hcon (x := hv ws 114 28) (by omega), List.forall_mem_cons.mpr ⟨hg_in hI.2.1, fun _ h => absurd h List.not_mem_nil⟩⟩⟩) (fun x1 ws1 hw1 hf1 hp1 => k_pc 1261 rfl ?_)
      have hI1 := lwInv_k hI (by decide +kernel) hf1 (by rw [hf1 16 4 (by decide) (by rfl), hf1 16 5 (by decide) (by rfl)]; exact hI.2.2.1) (by rw [hf1 114 55 (by decide) (by rfl), hf1 114 56 (by decide) (by rfl)]; exact hI.2.2.2.1)
      refine k_pop c (hd 15 1261 _ _ rfl) rfl (k_pc 1262 rfl ?_)
      refine k_goto c (hd 16 1262 _ _ rfl) (tgt := 1413) (by decide) ?_
      exact KK _ hw1 hI1
  have hr : hrng wLay (hv ws) := by rw [← hG.2.2.1]; exact hrng_at hw
  have r16_4 : 0 ≤ (hv ws 16 4).toInt ∧ (hv ws 16 4).toInt ≤ 40 := hrg hr ly_16_4
  have r16_5 : 0 ≤ (hv ws 16 5).toInt ∧ (hv ws 16 5).toInt ≤ 40 := hrg hr ly_16_5
  have r114_55 : 0 ≤ (hv ws 114 55).toInt ∧ (hv ws 114 55).toInt ≤ 40 := hrg hr ly_114_55
  have r114_56 : 0 ≤ (hv ws 114 56).toInt ∧ (hv ws 114 56).toInt ≤ 40 := hrg hr ly_114_56
  have r77_1 : 0 ≤ (hv ws 77 1).toInt ∧ (hv ws 77 1).toInt ≤ 31 := hrg hr ly_77_1
  have hA_ := hI.2.2.1
  have hB_ := hI.2.2.2.1
  refine k_al c (hd 0 1242 _ _ rfl) (by rfl) (k_pc 1243 rfl ?_)
  refine k_al c (hd 1 1243 _ _ rfl) (by rfl) (k_pc 1244 rfl ?_)
  refine k_il c (hd 2 1244 _ _ rfl) (by rfl) (k_pc 1245 rfl ?_)
  refine k_ic c (hd 3 1245 _ _ rfl) (v := 1) (by decide) (k_pc 1246 rfl ?_)
  refine k_addE c (hd 4 1246 _ _ rfl) (k_pc 1247 rfl ?_)
  refine k_sld C (lw_in h0 h1 C.2.2.2.2.1 (by decide)) (hd 5 1247 _ _ rfl) (k_pc 1248 rfl ?_)
  refine k_callM C (M := q654_M) (q654_met hG) (by decide +kernel) (by decide +kernel) (wlkV (lkL_180 hG) _ rfl rfl) (j := 70) (by decide +kernel) ⟨Nat.le_of_ble_eq_true rfl, Nat.le_of_ble_eq_true rfl⟩ (hd 6 1248 _ _ rfl) [.int (sc (i + 1).toNatClampNeg)] (rest := []) (by rfl) ⟨⟨70, by decide, rfl⟩, ⟨_, rfl, rf_in_top _, trivial⟩, trivial⟩ (Nat.le_of_ble_eq_true rfl) hw (fun _ h => absurd h List.not_mem_nil) (fun x1 ws1 hw1 hf1 hp1 => k_pc 1251 rfl ?_)
  have hI1 := lwInv_k hI (by decide +kernel) hf1 (by rw [hf1 16 4 (by decide) (by rfl), hf1 16 5 (by decide) (by rfl)]; exact hI.2.2.1) (by rw [hf1 114 55 (by decide) (by rfl), hf1 114 56 (by decide) (by rfl)]; exact hI.2.2.2.1)
  refine k_pop c (hd 7 1251 _ _ rfl) rfl (k_pc 1252 rfl ?_)
  exact KM _ hw1 hI1
def ddL41 : List (Nat × Instr × Nat) := [(1265, .aload_n 1, 1), (1266, .aload_n 0, 1), (1267, .iload_n 3, 1), (1268, .iconst 1, 1), (1269, .iadd, 1), (1270, .iaload, 1), (1271, .invokevirtual 185, 3), (1274, .pop, 1), (1275, .aload_n 2, 1), (1276, .aload_n 0, 1), (1277, .iload_n 3, 1), (1278, .iconst 1, 1), (1279, .iadd, 1), (1280, .iaload, 1), (1281, .invokevirtual 188, 3), (1284, .pop, 1), (1285, .goto 128, 3)]
set_option maxRecDepth 100000 in
theorem dkL41 : rf_decs code ddL41 := rf_decs_of (by decide +kernel)
set_option maxHeartbeats 8000000 in
set_option maxRecDepth 100000 in
theorem lw_case41 {X : rfX} {G : rfG} {b Ln : Nat} {sc : Nat → Int32} {n sl : Nat} (C : lwC X G b Ln sc n sl) {i : Int32} (h0 : 0 ≤ i.toInt) (h1 : i.toInt + 5 < (Ln : Int)) (KK : ∀ ws', rf_world G.2.1.1 G.2.1.2.1 G.2.1.2.2.1 G.2.1.2.2.2 ws' → lwInv (hv ws') → kW X n sl 1413 [(3, .int i), (2, .ref (G.2.1.1 114)), (1, .ref (G.2.1.1 70)), (0, .ref b)] [] ws') {ws : va_W} (hw : rf_world G.2.1.1 G.2.1.2.1 G.2.1.2.2.1 G.2.1.2.2.2 ws) (hI : lwInv (hv ws)) : kW X n sl 1265 [(3, .int i), (2, .ref (G.2.1.1 114)), (1, .ref (G.2.1.1 70)), (0, .ref b)] [] ws := by
  have hG := C.1
  have hh := w1_ok hG
  have h2 := w2_ok hG
  have c := C.2.2.1
  have hd : ∀ n pc i len, ddL41[n]? = some (pc, i, len) → decode code pc = .ok (i, len) := fun n pc i len h => hdk dkL41 n pc i len h
  refine k_al c (hd 0 1265 _ _ rfl) (by rfl) (k_pc 1266 rfl ?_)
  refine k_al c (hd 1 1266 _ _ rfl) (by rfl) (k_pc 1267 rfl ?_)
  refine k_il c (hd 2 1267 _ _ rfl) (by rfl) (k_pc 1268 rfl ?_)
  refine k_ic c (hd 3 1268 _ _ rfl) (v := 1) (by decide) (k_pc 1269 rfl ?_)
  refine k_addE c (hd 4 1269 _ _ rfl) (k_pc 1270 rfl ?_)
  refine k_sld C (lw_in h0 h1 C.2.2.2.2.1 (by decide)) (hd 5 1270 _ _ rfl) (k_pc 1271 rfl ?_)
  refine k_callH C (M := hM_nlater) (hp_nlater hG) (wlkV (lkL_185 hG) _ rfl rfl) (j := 70) (by decide +kernel) ⟨Nat.le_of_ble_eq_true rfl, Nat.le_of_ble_eq_true rfl⟩ (hd 6 1271 _ _ rfl) [.int (sc (i + 1).toNatClampNeg)] (rest := []) (by rfl) ⟨⟨70, by decide, rfl⟩, ⟨_, rfl, rf_in_top _, trivial⟩, trivial⟩ (Nat.le_of_ble_eq_true rfl) hw trivial (fun rv1 ws1 hw1 hf1 hp1 => k_pc 1274 rfl ?_)
  obtain ⟨b1_, y1, eb1_, er1_, hy1, ht1⟩ := hp1
  cases eb1_; subst er1_
  refine k_pop c (hd 7 1274 _ _ rfl) rfl (k_pc 1275 rfl ?_)
  refine k_al c (hd 8 1275 _ _ rfl) (by rfl) (k_pc 1276 rfl ?_)
  refine k_al c (hd 9 1276 _ _ rfl) (by rfl) (k_pc 1277 rfl ?_)
  refine k_il c (hd 10 1277 _ _ rfl) (by rfl) (k_pc 1278 rfl ?_)
  refine k_ic c (hd 11 1278 _ _ rfl) (v := 1) (by decide) (k_pc 1279 rfl ?_)
  refine k_addE c (hd 12 1279 _ _ rfl) (k_pc 1280 rfl ?_)
  refine k_sld C (lw_in h0 h1 C.2.2.2.2.1 (by decide)) (hd 13 1280 _ _ rfl) (k_pc 1281 rfl ?_)
  refine k_callH C (M := hM_later) (hp_later hG) (wlkV (lkL_188 hG) _ rfl rfl) (j := 114) (by decide +kernel) ⟨Nat.le_of_ble_eq_true rfl, Nat.le_of_ble_eq_true rfl⟩ (hd 14 1281 _ _ rfl) [.int (sc (i + 1).toNatClampNeg)] (rest := []) (by rfl) ⟨⟨114, by decide, rfl⟩, ⟨_, rfl, rf_in_top _, trivial⟩, trivial⟩ (Nat.le_of_ble_eq_true rfl) hw1 trivial (fun rv2 ws2 hw2 hf2 hp2 => k_pc 1284 rfl ?_)
  obtain ⟨b2_, y2, eb2_, er2_, hy2, ht2⟩ := hp2
  cases eb2_; subst er2_
  have e64 : hv ws1 114 64 = hv ws 114 64 := hf1 114 64 (by decide) (by rfl)
  have e68 : hv ws2 68 9 = hv ws1 68 9 := hf2 68 9 (by decide) (by rfl)
  have eq5 := hI.2.2.2.2
  have exy : y1 = y2 := Int32.toInt_inj.mp (by rw [hy1, hy2, e64, eq5])
  have hti : hv ws2 68 9 = hv ws2 114 64 := Int32.toInt_inj.mp (by rw [e68, ht1, ht2, e64, eq5])
  have hI2 : lwInv (hv ws2) := lwInv_l hI hf1 hf2 hti
  refine k_pop c (hd 15 1284 _ _ rfl) rfl (k_pc 1285 rfl ?_)
  refine k_goto c (hd 16 1285 _ _ rfl) (tgt := 1413) (by decide) ?_
  exact KK _ hw2 hI2
def ddL42 : List (Nat × Instr × Nat) := [(1288, .aload_n 1, 1), (1289, .aload_n 0, 1), (1290, .iload_n 3, 1), (1291, .iconst 1, 1), (1292, .iadd, 1), (1293, .iaload, 1), (1294, .invokevirtual 189, 3), (1297, .pop, 1), (1298, .aload_n 2, 1), (1299, .aload_n 0, 1), (1300, .iload_n 3, 1), (1301, .iconst 1, 1), (1302, .iadd, 1), (1303, .iaload, 1), (1304, .invokevirtual 192, 3), (1307, .pop, 1), (1308, .goto 105, 3)]
set_option maxRecDepth 100000 in
theorem dkL42 : rf_decs code ddL42 := rf_decs_of (by decide +kernel)
set_option maxHeartbeats 8000000 in
set_option maxRecDepth 100000 in
theorem lw_case42 {X : rfX} {G : rfG} {b Ln : Nat} {sc : Nat → Int32} {n sl : Nat} (C : lwC X G b Ln sc n sl) {i : Int32} (h0 : 0 ≤ i.toInt) (h1 : i.toInt + 5 < (Ln : Int)) (KK : ∀ ws', rf_world G.2.1.1 G.2.1.2.1 G.2.1.2.2.1 G.2.1.2.2.2 ws' → lwInv (hv ws') → kW X n sl 1413 [(3, .int i), (2, .ref (G.2.1.1 114)), (1, .ref (G.2.1.1 70)), (0, .ref b)] [] ws') {ws : va_W} (hw : rf_world G.2.1.1 G.2.1.2.1 G.2.1.2.2.1 G.2.1.2.2.2 ws) (hI : lwInv (hv ws)) : kW X n sl 1288 [(3, .int i), (2, .ref (G.2.1.1 114)), (1, .ref (G.2.1.1 70)), (0, .ref b)] [] ws := by
  have hG := C.1
  have hh := w1_ok hG
  have h2 := w2_ok hG
  have c := C.2.2.1
  have hd : ∀ n pc i len, ddL42[n]? = some (pc, i, len) → decode code pc = .ok (i, len) := fun n pc i len h => hdk dkL42 n pc i len h
  have KM : ∀ ws, rf_world G.2.1.1 G.2.1.2.1 G.2.1.2.2.1 G.2.1.2.2.2 ws → lwInv (hv ws) → kW X n sl 1298 [(3, .int i), (2, .ref (G.2.1.1 114)), (1, .ref (G.2.1.1 70)), (0, .ref b)] [] ws := by
    intro ws hw hI
    have hr : hrng wLay (hv ws) := by rw [← hG.2.2.1]; exact hrng_at hw
    have r16_4 : 0 ≤ (hv ws 16 4).toInt ∧ (hv ws 16 4).toInt ≤ 40 := hrg hr ly_16_4
    have r16_5 : 0 ≤ (hv ws 16 5).toInt ∧ (hv ws 16 5).toInt ≤ 40 := hrg hr ly_16_5
    have r114_55 : 0 ≤ (hv ws 114 55).toInt ∧ (hv ws 114 55).toInt ≤ 40 := hrg hr ly_114_55
    have r114_56 : 0 ≤ (hv ws 114 56).toInt ∧ (hv ws 114 56).toInt ≤ 40 := hrg hr ly_114_56
    have r77_1 : 0 ≤ (hv ws 77 1).toInt ∧ (hv ws 77 1).toInt ≤ 31 := hrg hr ly_77_1
    have hA_ := hI.2.2.1
    have hB_ := hI.2.2.2.1
    refine k_al c (hd 8 1298 _ _ rfl) (by rfl) (k_pc 1299 rfl ?_)
    refine k_al c (hd 9 1299 _ _ rfl) (by rfl) (k_pc 1300 rfl ?_)
    refine k_il c (hd 10 1300 _ _ rfl) (by rfl) (k_pc 1301 rfl ?_)
    refine k_ic c (hd 11 1301 _ _ rfl) (v := 1) (by decide) (k_pc 1302 rfl ?_)
    refine k_addE c (hd 12 1302 _ _ rfl) (k_pc 1303 rfl ?_)
    refine k_sld C (lw_in h0 h1 C.2.2.2.2.1 (by decide)) (hd 13 1303 _ _ rfl) (k_pc 1304 rfl ?_)
    rcases hI.1 with hb_ | hb_
    · skip
      refine k_callM C (M := q1174_M) (q1174_met hG hh) (by decide +kernel) (by decide +kernel) (wlkV (lkL_192 hG) _ rfl rfl) (j := 114) (by decide +kernel) ⟨Nat.le_of_ble_eq_true rfl, Nat.le_of_ble_eq_true rfl⟩ (hd 14 1304 _ _ rfl) [.int (sc (i + 1).toNatClampNeg)] (rest := []) (by rfl) ⟨⟨114, by decide, rfl⟩, ⟨_, rfl, rf_in_top _, trivial⟩, trivial⟩ (Nat.le_of_ble_eq_true rfl) hw (List.forall_mem_cons.mpr ⟨hcon (x := hv ws 114 28) (by omega), List.forall_mem_cons.mpr ⟨hg_in hI.2.1, fun _ h => absurd h List.not_mem_nil⟩⟩) (fun x1 ws1 hw1 hf1 hp1 => k_pc 1307 rfl ?_)
      have hI1 := lwInv_k hI (by decide +kernel) hf1 (by rw [hf1 16 4 (by decide) (by rfl), hf1 16 5 (by decide) (by rfl)]; exact hI.2.2.1) (by rw [hf1 114 55 (by decide) (by rfl), hf1 114 56 (by decide) (by rfl)]; exact hI.2.2.2.1)
      refine k_pop c (hd 15 1307 _ _ rfl) rfl (k_pc 1308 rfl ?_)
      refine k_goto c (hd 16 1308 _ _ rfl) (tgt := 1413) (by decide) ?_
      exact KK _ hw1 hI1
    · skip
      refine k_callM C (M := q1185_M) (q1185_met hG hh) (by decide +kernel) (by decide +kernel) (wlkV (lkL_192 hG) _ rfl rfl) (j := 114) (by decide +kernel) ⟨Nat.le_of_ble_eq_true rfl, Nat.le_of_ble_eq_true rfl⟩ (hd 14 1304 _ _ rfl) [.int (sc (i + 1).toNatClampNeg)] (rest := []) (by rfl) ⟨⟨114, by decide, rfl⟩, ⟨_, rfl, rf_in_top _, trivial⟩, trivial⟩ (Nat.le_of_ble_eq_true rfl) hw (List.forall_mem_cons.mpr ⟨rf_in1 (show 1 ≤ (hv ws 77 1).toInt by omega) (show (hv ws 77 1).toInt ≤ 31 by omega), List.forall_mem_cons.mpr ⟨hcon (x := hv ws 114 28) (by omega), List.forall_mem_cons.mpr ⟨hg_in hI.2.1, fun _ h => absurd h List.not_mem_nil⟩⟩⟩) (fun x1 ws1 hw1 hf1 hp1 => k_pc 1307 rfl ?_)
      have hI1 := lwInv_k hI (by decide +kernel) hf1 (by rw [hf1 16 4 (by decide) (by rfl), hf1 16 5 (by decide) (by rfl)]; exact hI.2.2.1) (by rw [hf1 114 55 (by decide) (by rfl), hf1 114 56 (by decide) (by rfl)]; exact hI.2.2.2.1)
      refine k_pop c (hd 15 1307 _ _ rfl) rfl (k_pc 1308 rfl ?_)
      refine k_goto c (hd 16 1308 _ _ rfl) (tgt := 1413) (by decide) ?_
      exact KK _ hw1 hI1
  have hr : hrng wLay (hv ws) := by rw [← hG.2.2.1]; exact hrng_at hw
  have r16_4 : 0 ≤ (hv ws 16 4).toInt ∧ (hv ws 16 4).toInt ≤ 40 := hrg hr ly_16_4
  have r16_5 : 0 ≤ (hv ws 16 5).toInt ∧ (hv ws 16 5).toInt ≤ 40 := hrg hr ly_16_5
  have r114_55 : 0 ≤ (hv ws 114 55).toInt ∧ (hv ws 114 55).toInt ≤ 40 := hrg hr ly_114_55
  have r114_56 : 0 ≤ (hv ws 114 56).toInt ∧ (hv ws 114 56).toInt ≤ 40 := hrg hr ly_114_56
  have r77_1 : 0 ≤ (hv ws 77 1).toInt ∧ (hv ws 77 1).toInt ≤ 31 := hrg hr ly_77_1
  have hA_ := hI.2.2.1
  have hB_ := hI.2.2.2.1
  refine k_al c (hd 0 1288 _ _ rfl) (by rfl) (k_pc 1289 rfl ?_)
  refine k_al c (hd 1 1289 _ _ rfl) (by rfl) (k_pc 1290 rfl ?_)
  refine k_il c (hd 2 1290 _ _ rfl) (by rfl) (k_pc 1291 rfl ?_)
  refine k_ic c (hd 3 1291 _ _ rfl) (v := 1) (by decide) (k_pc 1292 rfl ?_)
  refine k_addE c (hd 4 1292 _ _ rfl) (k_pc 1293 rfl ?_)
  refine k_sld C (lw_in h0 h1 C.2.2.2.2.1 (by decide)) (hd 5 1293 _ _ rfl) (k_pc 1294 rfl ?_)
  refine k_callM C (M := q666_M) (q666_met hG) (by decide +kernel) (by decide +kernel) (wlkV (lkL_189 hG) _ rfl rfl) (j := 70) (by decide +kernel) ⟨Nat.le_of_ble_eq_true rfl, Nat.le_of_ble_eq_true rfl⟩ (hd 6 1294 _ _ rfl) [.int (sc (i + 1).toNatClampNeg)] (rest := []) (by rfl) ⟨⟨70, by decide, rfl⟩, ⟨_, rfl, rf_in_top _, trivial⟩, trivial⟩ (Nat.le_of_ble_eq_true rfl) hw (fun _ h => absurd h List.not_mem_nil) (fun x1 ws1 hw1 hf1 hp1 => k_pc 1297 rfl ?_)
  have hI1 := lwInv_k hI (by decide +kernel) hf1 (by rw [hf1 16 4 (by decide) (by rfl), hf1 16 5 (by decide) (by rfl)]; exact hI.2.2.1) (by rw [hf1 114 55 (by decide) (by rfl), hf1 114 56 (by decide) (by rfl)]; exact hI.2.2.2.1)
  refine k_pop c (hd 7 1297 _ _ rfl) rfl (k_pc 1298 rfl ?_)
  exact KM _ hw1 hI1
def ddL43 : List (Nat × Instr × Nat) := [(1311, .aload_n 1, 1), (1312, .aload_n 0, 1), (1313, .iload_n 3, 1), (1314, .iconst 1, 1), (1315, .iadd, 1), (1316, .iaload, 1), (1317, .aload_n 0, 1), (1318, .iload_n 3, 1), (1319, .iconst 2, 1), (1320, .iadd, 1), (1321, .iaload, 1), (1322, .invokevirtual 193, 3), (1325, .pop, 1), (1326, .aload_n 2, 1), (1327, .aload_n 0, 1), (1328, .iload_n 3, 1), (1329, .iconst 1, 1), (1330, .iadd, 1), (1331, .iaload, 1), (1332, .aload_n 0, 1), (1333, .iload_n 3, 1), (1334, .iconst 2, 1), (1335, .iadd, 1), (1336, .iaload, 1), (1337, .invokevirtual 196, 3), (1340, .pop, 1), (1341, .goto 72, 3)]
set_option maxRecDepth 100000 in
theorem dkL43 : rf_decs code ddL43 := rf_decs_of (by decide +kernel)
set_option maxHeartbeats 8000000 in
set_option maxRecDepth 100000 in
theorem lw_case43 {X : rfX} {G : rfG} {b Ln : Nat} {sc : Nat → Int32} {n sl : Nat} (C : lwC X G b Ln sc n sl) {i : Int32} (h0 : 0 ≤ i.toInt) (h1 : i.toInt + 5 < (Ln : Int)) (KK : ∀ ws', rf_world G.2.1.1 G.2.1.2.1 G.2.1.2.2.1 G.2.1.2.2.2 ws' → lwInv (hv ws') → kW X n sl 1413 [(3, .int i), (2, .ref (G.2.1.1 114)), (1, .ref (G.2.1.1 70)), (0, .ref b)] [] ws') {ws : va_W} (hw : rf_world G.2.1.1 G.2.1.2.1 G.2.1.2.2.1 G.2.1.2.2.2 ws) (hI : lwInv (hv ws)) : kW X n sl 1311 [(3, .int i), (2, .ref (G.2.1.1 114)), (1, .ref (G.2.1.1 70)), (0, .ref b)] [] ws := by
  have hG := C.1
  have hh := w1_ok hG
  have h2 := w2_ok hG
  have c := C.2.2.1
  have hd : ∀ n pc i len, ddL43[n]? = some (pc, i, len) → decode code pc = .ok (i, len) := fun n pc i len h => hdk dkL43 n pc i len h
  have KM : ∀ ws, rf_world G.2.1.1 G.2.1.2.1 G.2.1.2.2.1 G.2.1.2.2.2 ws → lwInv (hv ws) → kW X n sl 1326 [(3, .int i), (2, .ref (G.2.1.1 114)), (1, .ref (G.2.1.1 70)), (0, .ref b)] [] ws := by
    intro ws hw hI
    have hr : hrng wLay (hv ws) := by rw [← hG.2.2.1]; exact hrng_at hw
    have r16_4 : 0 ≤ (hv ws 16 4).toInt ∧ (hv ws 16 4).toInt ≤ 40 := hrg hr ly_16_4
    have r16_5 : 0 ≤ (hv ws 16 5).toInt ∧ (hv ws 16 5).toInt ≤ 40 := hrg hr ly_16_5
    have r114_55 : 0 ≤ (hv ws 114 55).toInt ∧ (hv ws 114 55).toInt ≤ 40 := hrg hr ly_114_55
    have r114_56 : 0 ≤ (hv ws 114 56).toInt ∧ (hv ws 114 56).toInt ≤ 40 := hrg hr ly_114_56
    have r77_1 : 0 ≤ (hv ws 77 1).toInt ∧ (hv ws 77 1).toInt ≤ 31 := hrg hr ly_77_1
    have hA_ := hI.2.2.1
    have hB_ := hI.2.2.2.1
    refine k_al c (hd 13 1326 _ _ rfl) (by rfl) (k_pc 1327 rfl ?_)
    refine k_al c (hd 14 1327 _ _ rfl) (by rfl) (k_pc 1328 rfl ?_)
    refine k_il c (hd 15 1328 _ _ rfl) (by rfl) (k_pc 1329 rfl ?_)
    refine k_ic c (hd 16 1329 _ _ rfl) (v := 1) (by decide) (k_pc 1330 rfl ?_)
    refine k_addE c (hd 17 1330 _ _ rfl) (k_pc 1331 rfl ?_)
    refine k_sld C (lw_in h0 h1 C.2.2.2.2.1 (by decide)) (hd 18 1331 _ _ rfl) (k_pc 1332 rfl ?_)
    refine k_al c (hd 19 1332 _ _ rfl) (by rfl) (k_pc 1333 rfl ?_)
    refine k_il c (hd 20 1333 _ _ rfl) (by rfl) (k_pc 1334 rfl ?_)
    refine k_ic c (hd 21 1334 _ _ rfl) (v := 2) (by decide) (k_pc 1335 rfl ?_)
    refine k_addE c (hd 22 1335 _ _ rfl) (k_pc 1336 rfl ?_)
    refine k_sld C (lw_in h0 h1 C.2.2.2.2.1 (by decide)) (hd 23 1336 _ _ rfl) (k_pc 1337 rfl ?_)
    rcases hI.1 with hb_ | hb_
    · skip
      refine k_callM C (M := q1192_M) (q1192_met hG hh) (by decide +kernel) (by decide +kernel) (wlkV (lkL_196 hG) _ rfl rfl) (j := 114) (by decide +kernel) ⟨Nat.le_of_ble_eq_true rfl, Nat.le_of_ble_eq_true rfl⟩ (hd 24 1337 _ _ rfl) [.int (sc (i + 1).toNatClampNeg), .int (sc (i + 2).toNatClampNeg)] (rest := []) (by rfl) ⟨⟨114, by decide, rfl⟩, ⟨_, rfl, rf_in_top _, trivial⟩, ⟨_, rfl, rf_in_top _, trivial⟩, trivial⟩ (Nat.le_of_ble_eq_true rfl) hw (List.forall_mem_cons.mpr ⟨hcon (x := hv ws 114 28) (by omega), List.forall_mem_cons.mpr ⟨hg_in hI.2.1, fun _ h => absurd h List.not_mem_nil⟩⟩) (fun x1 ws1 hw1 hf1 hp1 => k_pc 1340 rfl ?_)
      have hI1 := lwInv_k hI (by decide +kernel) hf1 (by rw [hf1 16 4 (by decide) (by rfl), hf1 16 5 (by decide) (by rfl)]; exact hI.2.2.1) (by rw [hf1 114 55 (by decide) (by rfl), hf1 114 56 (by decide) (by rfl)]; exact hI.2.2.2.1)
      refine k_pop c (hd 25 1340 _ _ rfl) rfl (k_pc 1341 rfl ?_)
      refine k_goto c (hd 26 1341 _ _ rfl) (tgt := 1413) (by decide) ?_
      exact KK _ hw1 hI1
    · skip
      refine k_callM C (M := q1199_M) (q1199_met hG hh) (by decide +kernel) (by decide +kernel) (wlkV (lkL_196 hG) _ rfl rfl) (j := 114) (by decide +kernel) ⟨Nat.le_of_ble_eq_true rfl, Nat.le_of_ble_eq_true rfl⟩ (hd 24 1337 _ _ rfl) [.int (sc (i + 1).toNatClampNeg), .int (sc (i + 2).toNatClampNeg)] (rest := []) (by rfl) ⟨⟨114, by decide, rfl⟩, ⟨_, rfl, rf_in_top _, trivial⟩, ⟨_, rfl, rf_in_top _, trivial⟩, trivial⟩ (Nat.le_of_ble_eq_true rfl) hw (List.forall_mem_cons.mpr ⟨rf_in1 (show 1 ≤ (hv ws 77 1).toInt by omega) (show (hv ws 77 1).toInt ≤ 31 by omega), List.forall_mem_cons.mpr ⟨hcon (x := hv ws 114 28) (by omega), List.forall_mem_cons.mpr ⟨hg_in hI.2.1, fun _ h => absurd h List.not_mem_nil⟩⟩⟩) (fun x1 ws1 hw1 hf1 hp1 => k_pc 1340 rfl ?_)
      have hI1 := lwInv_k hI (by decide +kernel) hf1 (by rw [hf1 16 4 (by decide) (by rfl), hf1 16 5 (by decide) (by rfl)]; exact hI.2.2.1) (by rw [hf1 114 55 (by decide) (by rfl), hf1 114 56 (by decide) (by rfl)]; exact hI.2.2.2.1)
      refine k_pop c (hd 25 1340 _ _ rfl) rfl (k_pc 1341 rfl ?_)
      refine k_goto c (hd 26 1341 _ _ rfl) (tgt := 1413) (by decide) ?_
      exact KK _ hw1 hI1
  have hr : hrng wLay (hv ws) := by rw [← hG.2.2.1]; exact hrng_at hw
  have r16_4 : 0 ≤ (hv ws 16 4).toInt ∧ (hv ws 16 4).toInt ≤ 40 := hrg hr ly_16_4
  have r16_5 : 0 ≤ (hv ws 16 5).toInt ∧ (hv ws 16 5).toInt ≤ 40 := hrg hr ly_16_5
  have r114_55 : 0 ≤ (hv ws 114 55).toInt ∧ (hv ws 114 55).toInt ≤ 40 := hrg hr ly_114_55
  have r114_56 : 0 ≤ (hv ws 114 56).toInt ∧ (hv ws 114 56).toInt ≤ 40 := hrg hr ly_114_56
  have r77_1 : 0 ≤ (hv ws 77 1).toInt ∧ (hv ws 77 1).toInt ≤ 31 := hrg hr ly_77_1
  have hA_ := hI.2.2.1
  have hB_ := hI.2.2.2.1
  refine k_al c (hd 0 1311 _ _ rfl) (by rfl) (k_pc 1312 rfl ?_)
  refine k_al c (hd 1 1312 _ _ rfl) (by rfl) (k_pc 1313 rfl ?_)
  refine k_il c (hd 2 1313 _ _ rfl) (by rfl) (k_pc 1314 rfl ?_)
  refine k_ic c (hd 3 1314 _ _ rfl) (v := 1) (by decide) (k_pc 1315 rfl ?_)
  refine k_addE c (hd 4 1315 _ _ rfl) (k_pc 1316 rfl ?_)
  refine k_sld C (lw_in h0 h1 C.2.2.2.2.1 (by decide)) (hd 5 1316 _ _ rfl) (k_pc 1317 rfl ?_)
  refine k_al c (hd 6 1317 _ _ rfl) (by rfl) (k_pc 1318 rfl ?_)
  refine k_il c (hd 7 1318 _ _ rfl) (by rfl) (k_pc 1319 rfl ?_)
  refine k_ic c (hd 8 1319 _ _ rfl) (v := 2) (by decide) (k_pc 1320 rfl ?_)
  refine k_addE c (hd 9 1320 _ _ rfl) (k_pc 1321 rfl ?_)
  refine k_sld C (lw_in h0 h1 C.2.2.2.2.1 (by decide)) (hd 10 1321 _ _ rfl) (k_pc 1322 rfl ?_)
  refine k_callM C (M := q669_M) (q669_met hG) (by decide +kernel) (by decide +kernel) (wlkV (lkL_193 hG) _ rfl rfl) (j := 70) (by decide +kernel) ⟨Nat.le_of_ble_eq_true rfl, Nat.le_of_ble_eq_true rfl⟩ (hd 11 1322 _ _ rfl) [.int (sc (i + 1).toNatClampNeg), .int (sc (i + 2).toNatClampNeg)] (rest := []) (by rfl) ⟨⟨70, by decide, rfl⟩, ⟨_, rfl, rf_in_top _, trivial⟩, ⟨_, rfl, rf_in_top _, trivial⟩, trivial⟩ (Nat.le_of_ble_eq_true rfl) hw (fun _ h => absurd h List.not_mem_nil) (fun x1 ws1 hw1 hf1 hp1 => k_pc 1325 rfl ?_)
  have hI1 := lwInv_k hI (by decide +kernel) hf1 (by rw [hf1 16 4 (by decide) (by rfl), hf1 16 5 (by decide) (by rfl)]; exact hI.2.2.1) (by rw [hf1 114 55 (by decide) (by rfl), hf1 114 56 (by decide) (by rfl)]; exact hI.2.2.2.1)
  refine k_pop c (hd 12 1325 _ _ rfl) rfl (k_pc 1326 rfl ?_)
  exact KM _ hw1 hI1
def ddL44 : List (Nat × Instr × Nat) := [(1344, .aload_n 1, 1), (1345, .aload_n 0, 1), (1346, .iload_n 3, 1), (1347, .iconst 1, 1), (1348, .iadd, 1), (1349, .iaload, 1), (1350, .invokevirtual 197, 3), (1353, .pop, 1), (1354, .aload_n 2, 1), (1355, .aload_n 0, 1), (1356, .iload_n 3, 1), (1357, .iconst 1, 1), (1358, .iadd, 1), (1359, .iaload, 1), (1360, .invokevirtual 200, 3), (1363, .pop, 1), (1364, .goto 49, 3)]
set_option maxRecDepth 100000 in
theorem dkL44 : rf_decs code ddL44 := rf_decs_of (by decide +kernel)
set_option maxHeartbeats 8000000 in
set_option maxRecDepth 100000 in
theorem lw_case44 {X : rfX} {G : rfG} {b Ln : Nat} {sc : Nat → Int32} {n sl : Nat} (C : lwC X G b Ln sc n sl) {i : Int32} (h0 : 0 ≤ i.toInt) (h1 : i.toInt + 5 < (Ln : Int)) (KK : ∀ ws', rf_world G.2.1.1 G.2.1.2.1 G.2.1.2.2.1 G.2.1.2.2.2 ws' → lwInv (hv ws') → kW X n sl 1413 [(3, .int i), (2, .ref (G.2.1.1 114)), (1, .ref (G.2.1.1 70)), (0, .ref b)] [] ws') {ws : va_W} (hw : rf_world G.2.1.1 G.2.1.2.1 G.2.1.2.2.1 G.2.1.2.2.2 ws) (hI : lwInv (hv ws)) : kW X n sl 1344 [(3, .int i), (2, .ref (G.2.1.1 114)), (1, .ref (G.2.1.1 70)), (0, .ref b)] [] ws := by
  have hG := C.1
  have hh := w1_ok hG
  have h2 := w2_ok hG
  have c := C.2.2.1
  have hd : ∀ n pc i len, ddL44[n]? = some (pc, i, len) → decode code pc = .ok (i, len) := fun n pc i len h => hdk dkL44 n pc i len h
  have KM : ∀ ws, rf_world G.2.1.1 G.2.1.2.1 G.2.1.2.2.1 G.2.1.2.2.2 ws → lwInv (hv ws) → kW X n sl 1354 [(3, .int i), (2, .ref (G.2.1.1 114)), (1, .ref (G.2.1.1 70)), (0, .ref b)] [] ws := by
    intro ws hw hI
    have hr : hrng wLay (hv ws) := by rw [← hG.2.2.1]; exact hrng_at hw
    have r16_4 : 0 ≤ (hv ws 16 4).toInt ∧ (hv ws 16 4).toInt ≤ 40 := hrg hr ly_16_4
    have r16_5 : 0 ≤ (hv ws 16 5).toInt ∧ (hv ws 16 5).toInt ≤ 40 := hrg hr ly_16_5
    have r114_55 : 0 ≤ (hv ws 114 55).toInt ∧ (hv ws 114 55).toInt ≤ 40 := hrg hr ly_114_55
    have r114_56 : 0 ≤ (hv ws 114 56).toInt ∧ (hv ws 114 56).toInt ≤ 40 := hrg hr ly_114_56
    have r77_1 : 0 ≤ (hv ws 77 1).toInt ∧ (hv ws 77 1).toInt ≤ 31 := hrg hr ly_77_1
    have hA_ := hI.2.2.1
    have hB_ := hI.2.2.2.1
    refine k_al c (hd 8 1354 _ _ rfl) (by rfl) (k_pc 1355 rfl ?_)
    refine k_al c (hd 9 1355 _ _ rfl) (by rfl) (k_pc 1356 rfl ?_)
    refine k_il c (hd 10 1356 _ _ rfl) (by rfl) (k_pc 1357 rfl ?_)
    refine k_ic c (hd 11 1357 _ _ rfl) (v := 1) (by decide) (k_pc 1358 rfl ?_)
    refine k_addE c (hd 12 1358 _ _ rfl) (k_pc 1359 rfl ?_)
    refine k_sld C (lw_in h0 h1 C.2.2.2.2.1 (by decide)) (hd 13 1359 _ _ rfl) (k_pc 1360 rfl ?_)
    rcases hI.1 with hb_ | hb_
    · skip
      refine k_callM C (M := q1200_M) (q1200_met hG) (by decide +kernel) (by decide +kernel) (wlkV (lkL_200 hG) _ rfl rfl) (j := 114) (by decide +kernel) ⟨Nat.le_of_ble_eq_true rfl, Nat.le_of_ble_eq_true rfl⟩ (hd 14 1360 _ _ rfl) [.int (sc (i + 1).toNatClampNeg)] (rest := []) (by rfl) ⟨⟨114, by decide, rfl⟩, ⟨_, rfl, rf_in_top _, trivial⟩, trivial⟩ (Nat.le_of_ble_eq_true rfl) hw (List.forall_mem_cons.mpr ⟨hcon (x := hv ws 114 28) (by omega), List.forall_mem_cons.mpr ⟨hg_in hI.2.1, fun _ h => absurd h List.not_mem_nil⟩⟩) (fun x1 ws1 hw1 hf1 hp1 => k_pc 1363 rfl ?_)
      have hI1 := lwInv_k hI (by decide +kernel) hf1 (by rw [hf1 16 4 (by decide) (by rfl), hf1 16 5 (by decide) (by rfl)]; exact hI.2.2.1) (by rw [hf1 114 55 (by decide) (by rfl), hf1 114 56 (by decide) (by rfl)]; exact hI.2.2.2.1)
      refine k_pop c (hd 15 1363 _ _ rfl) rfl (k_pc 1364 rfl ?_)
      refine k_goto c (hd 16 1364 _ _ rfl) (tgt := 1413) (by decide) ?_
      exact KK _ hw1 hI1
    · skip
      refine k_callM C (M := q1201_M) (q1201_met hG) (by decide +kernel) (by decide +kernel) (wlkV (lkL_200 hG) _ rfl rfl) (j := 114) (by decide +kernel) ⟨Nat.le_of_ble_eq_true rfl, Nat.le_of_ble_eq_true rfl⟩ (hd 14 1360 _ _ rfl) [.int (sc (i + 1).toNatClampNeg)] (rest := []) (by rfl) ⟨⟨114, by decide, rfl⟩, ⟨_, rfl, rf_in_top _, trivial⟩, trivial⟩ (Nat.le_of_ble_eq_true rfl) hw (List.forall_mem_cons.mpr ⟨rf_in1 (show 1 ≤ (hv ws 77 1).toInt by omega) (show (hv ws 77 1).toInt ≤ 31 by omega), List.forall_mem_cons.mpr ⟨hcon (x := hv ws 114 28) (by omega), List.forall_mem_cons.mpr ⟨hg_in hI.2.1, fun _ h => absurd h List.not_mem_nil⟩⟩⟩) (fun x1 ws1 hw1 hf1 hp1 => k_pc 1363 rfl ?_)
      have hI1 := lwInv_k hI (by decide +kernel) hf1 (by rw [hf1 16 4 (by decide) (by rfl), hf1 16 5 (by decide) (by rfl)]; exact hI.2.2.1) (by rw [hf1 114 55 (by decide) (by rfl), hf1 114 56 (by decide) (by rfl)]; exact hI.2.2.2.1)
      refine k_pop c (hd 15 1363 _ _ rfl) rfl (k_pc 1364 rfl ?_)
      refine k_goto c (hd 16 1364 _ _ rfl) (tgt := 1413) (by decide) ?_
      exact KK _ hw1 hI1
  have hr : hrng wLay (hv ws) := by rw [← hG.2.2.1]; exact hrng_at hw
  have r16_4 : 0 ≤ (hv ws 16 4).toInt ∧ (hv ws 16 4).toInt ≤ 40 := hrg hr ly_16_4
  have r16_5 : 0 ≤ (hv ws 16 5).toInt ∧ (hv ws 16 5).toInt ≤ 40 := hrg hr ly_16_5
  have r114_55 : 0 ≤ (hv ws 114 55).toInt ∧ (hv ws 114 55).toInt ≤ 40 := hrg hr ly_114_55
  have r114_56 : 0 ≤ (hv ws 114 56).toInt ∧ (hv ws 114 56).toInt ≤ 40 := hrg hr ly_114_56
  have r77_1 : 0 ≤ (hv ws 77 1).toInt ∧ (hv ws 77 1).toInt ≤ 31 := hrg hr ly_77_1
  have hA_ := hI.2.2.1
  have hB_ := hI.2.2.2.1
  refine k_al c (hd 0 1344 _ _ rfl) (by rfl) (k_pc 1345 rfl ?_)
  refine k_al c (hd 1 1345 _ _ rfl) (by rfl) (k_pc 1346 rfl ?_)
  refine k_il c (hd 2 1346 _ _ rfl) (by rfl) (k_pc 1347 rfl ?_)
  refine k_ic c (hd 3 1347 _ _ rfl) (v := 1) (by decide) (k_pc 1348 rfl ?_)
  refine k_addE c (hd 4 1348 _ _ rfl) (k_pc 1349 rfl ?_)
  refine k_sld C (lw_in h0 h1 C.2.2.2.2.1 (by decide)) (hd 5 1349 _ _ rfl) (k_pc 1350 rfl ?_)
  refine k_callM C (M := q671_M) (q671_met hG) (by decide +kernel) (by decide +kernel) (wlkV (lkL_197 hG) _ rfl rfl) (j := 70) (by decide +kernel) ⟨Nat.le_of_ble_eq_true rfl, Nat.le_of_ble_eq_true rfl⟩ (hd 6 1350 _ _ rfl) [.int (sc (i + 1).toNatClampNeg)] (rest := []) (by rfl) ⟨⟨70, by decide, rfl⟩, ⟨_, rfl, rf_in_top _, trivial⟩, trivial⟩ (Nat.le_of_ble_eq_true rfl) hw (fun _ h => absurd h List.not_mem_nil) (fun x1 ws1 hw1 hf1 hp1 => k_pc 1353 rfl ?_)
  have hI1 := lwInv_k hI (by decide +kernel) hf1 (by rw [hf1 16 4 (by decide) (by rfl), hf1 16 5 (by decide) (by rfl)]; exact hI.2.2.1) (by rw [hf1 114 55 (by decide) (by rfl), hf1 114 56 (by decide) (by rfl)]; exact hI.2.2.2.1)
  refine k_pop c (hd 7 1353 _ _ rfl) rfl (k_pc 1354 rfl ?_)
  exact KM _ hw1 hI1
def ddL45 : List (Nat × Instr × Nat) := [(1367, .aload_n 1, 1), (1368, .aload_n 0, 1), (1369, .iload_n 3, 1), (1370, .iconst 1, 1), (1371, .iadd, 1), (1372, .iaload, 1), (1373, .invokevirtual 201, 3), (1376, .pop, 1), (1377, .aload_n 2, 1), (1378, .aload_n 0, 1), (1379, .iload_n 3, 1), (1380, .iconst 1, 1), (1381, .iadd, 1), (1382, .iaload, 1), (1383, .invokevirtual 204, 3), (1386, .pop, 1), (1387, .goto 26, 3)]
set_option maxRecDepth 100000 in
theorem dkL45 : rf_decs code ddL45 := rf_decs_of (by decide +kernel)
set_option maxHeartbeats 8000000 in
set_option maxRecDepth 100000 in
theorem lw_case45 {X : rfX} {G : rfG} {b Ln : Nat} {sc : Nat → Int32} {n sl : Nat} (C : lwC X G b Ln sc n sl) {i : Int32} (h0 : 0 ≤ i.toInt) (h1 : i.toInt + 5 < (Ln : Int)) (KK : ∀ ws', rf_world G.2.1.1 G.2.1.2.1 G.2.1.2.2.1 G.2.1.2.2.2 ws' → lwInv (hv ws') → kW X n sl 1413 [(3, .int i), (2, .ref (G.2.1.1 114)), (1, .ref (G.2.1.1 70)), (0, .ref b)] [] ws') {ws : va_W} (hw : rf_world G.2.1.1 G.2.1.2.1 G.2.1.2.2.1 G.2.1.2.2.2 ws) (hI : lwInv (hv ws)) : kW X n sl 1367 [(3, .int i), (2, .ref (G.2.1.1 114)), (1, .ref (G.2.1.1 70)), (0, .ref b)] [] ws := by
  have hG := C.1
  have hh := w1_ok hG
  have h2 := w2_ok hG
  have c := C.2.2.1
  have hd : ∀ n pc i len, ddL45[n]? = some (pc, i, len) → decode code pc = .ok (i, len) := fun n pc i len h => hdk dkL45 n pc i len h
  have KM : ∀ ws, rf_world G.2.1.1 G.2.1.2.1 G.2.1.2.2.1 G.2.1.2.2.2 ws → lwInv (hv ws) → kW X n sl 1377 [(3, .int i), (2, .ref (G.2.1.1 114)), (1, .ref (G.2.1.1 70)), (0, .ref b)] [] ws := by
    intro ws hw hI
    have hr : hrng wLay (hv ws) := by rw [← hG.2.2.1]; exact hrng_at hw
    have r16_4 : 0 ≤ (hv ws 16 4).toInt ∧ (hv ws 16 4).toInt ≤ 40 := hrg hr ly_16_4
    have r16_5 : 0 ≤ (hv ws 16 5).toInt ∧ (hv ws 16 5).toInt ≤ 40 := hrg hr ly_16_5
    have r114_55 : 0 ≤ (hv ws 114 55).toInt ∧ (hv ws 114 55).toInt ≤ 40 := hrg hr ly_114_55
    have r114_56 : 0 ≤ (hv ws 114 56).toInt ∧ (hv ws 114 56).toInt ≤ 40 := hrg hr ly_114_56
    have r77_1 : 0 ≤ (hv ws 77 1).toInt ∧ (hv ws 77 1).toInt ≤ 31 := hrg hr ly_77_1
    have hA_ := hI.2.2.1
    have hB_ := hI.2.2.2.1
    refine k_al c (hd 8 1377 _ _ rfl) (by rfl) (k_pc 1378 rfl ?_)
    refine k_al c (hd 9 1378 _ _ rfl) (by rfl) (k_pc 1379 rfl ?_)
    refine k_il c (hd 10 1379 _ _ rfl) (by rfl) (k_pc 1380 rfl ?_)
    refine k_ic c (hd 11 1380 _ _ rfl) (v := 1) (by decide) (k_pc 1381 rfl ?_)
    refine k_addE c (hd 12 1381 _ _ rfl) (k_pc 1382 rfl ?_)
    refine k_sld C (lw_in h0 h1 C.2.2.2.2.1 (by decide)) (hd 13 1382 _ _ rfl) (k_pc 1383 rfl ?_)
    rcases hI.1 with hb_ | hb_
    · skip
      refine k_callM C (M := q1244_M) (q1244_met hG) (by decide +kernel) (by decide +kernel) (wlkV (lkL_204 hG) _ rfl rfl) (j := 114) (by decide +kernel) ⟨Nat.le_of_ble_eq_true rfl, Nat.le_of_ble_eq_true rfl⟩ (hd 14 1383 _ _ rfl) [.int (sc (i + 1).toNatClampNeg)] (rest := []) (by rfl) ⟨⟨114, by decide, rfl⟩, ⟨_, rfl, rf_in_top _, trivial⟩, trivial⟩ (Nat.le_of_ble_eq_true rfl) hw (List.forall_mem_cons.mpr ⟨hcon (x := hv ws 114 28) (by omega), List.forall_mem_cons.mpr ⟨rf_in1 (show 0 ≤ (hv ws 114 55).toInt by omega) (show (hv ws 114 55).toInt ≤ 40 by omega), List.forall_mem_cons.mpr ⟨rf_in1 (show 0 ≤ (hv ws 114 56).toInt by omega) (show (hv ws 114 56).toInt ≤ 40 by omega), List.forall_mem_cons.mpr ⟨hg_in hI.2.1, fun _ h => absurd h List.not_mem_nil⟩⟩⟩⟩) (fun x1 ws1 hw1 hf1 hp1 => k_pc 1386 rfl ?_)
      obtain ⟨k_, hk_, hkk⟩ := hp1
      rcases hm2 hk_ with rfl | rfl
      · skip
        have f0_ : 0 ≤ (hv ws1 114 55).toInt ∧ (hv ws1 114 55).toInt ≤ 40 := ⟨(hk_fact hkk 0 rfl).1.1, (hk_fact hkk 0 rfl).1.2.1⟩
        have g0_ : (hv ws 114 55).toInt + 0 ≤ (hv ws1 114 55).toInt ∧ (hv ws1 114 55).toInt ≤ (hv ws 114 55).toInt + 0 := (hk_fact hkk 0 rfl).2
        have f1_ : 0 ≤ (hv ws1 114 56).toInt ∧ (hv ws1 114 56).toInt ≤ 40 := ⟨(hk_fact hkk 1 rfl).1.1, (hk_fact hkk 1 rfl).1.2.1⟩
        have g1_ : (hv ws 114 56).toInt + 0 ≤ (hv ws1 114 56).toInt ∧ (hv ws1 114 56).toInt ≤ (hv ws 114 56).toInt + 0 := (hk_fact hkk 1 rfl).2
        have hI1 := lwInv_k hI (by decide +kernel) hf1 (by rw [hf1 16 4 (by decide) (by rfl), hf1 16 5 (by decide) (by rfl)]; exact hI.2.2.1) (by omega)
        refine k_pop c (hd 15 1386 _ _ rfl) rfl (k_pc 1387 rfl ?_)
        refine k_goto c (hd 16 1387 _ _ rfl) (tgt := 1413) (by decide) ?_
        exact KK _ hw1 hI1
      · skip
        have f0_ : 0 ≤ (hv ws1 114 55).toInt ∧ (hv ws1 114 55).toInt ≤ 0 := ⟨(hk_fact hkk 0 rfl).1.1, (hk_fact hkk 0 rfl).1.2.1⟩
        have f1_ : 0 ≤ (hv ws1 114 56).toInt ∧ (hv ws1 114 56).toInt ≤ 0 := ⟨(hk_fact hkk 1 rfl).1.1, (hk_fact hkk 1 rfl).1.2.1⟩
        have hI1 := lwInv_k hI (by decide +kernel) hf1 (by rw [hf1 16 4 (by decide) (by rfl), hf1 16 5 (by decide) (by rfl)]; exact hI.2.2.1) (by omega)
        refine k_pop c (hd 15 1386 _ _ rfl) rfl (k_pc 1387 rfl ?_)
        refine k_goto c (hd 16 1387 _ _ rfl) (tgt := 1413) (by decide) ?_
        exact KK _ hw1 hI1
    · skip
      refine k_callM C (M := q1245_M) (q1245_met hG) (by decide +kernel) (by decide +kernel) (wlkV (lkL_204 hG) _ rfl rfl) (j := 114) (by decide +kernel) ⟨Nat.le_of_ble_eq_true rfl, Nat.le_of_ble_eq_true rfl⟩ (hd 14 1383 _ _ rfl) [.int (sc (i + 1).toNatClampNeg)] (rest := []) (by rfl) ⟨⟨114, by decide, rfl⟩, ⟨_, rfl, rf_in_top _, trivial⟩, trivial⟩ (Nat.le_of_ble_eq_true rfl) hw (List.forall_mem_cons.mpr ⟨rf_in1 (show 1 ≤ (hv ws 77 1).toInt by omega) (show (hv ws 77 1).toInt ≤ 31 by omega), List.forall_mem_cons.mpr ⟨hcon (x := hv ws 114 28) (by omega), List.forall_mem_cons.mpr ⟨rf_in1 (show 0 ≤ (hv ws 114 55).toInt by omega) (show (hv ws 114 55).toInt ≤ 40 by omega), List.forall_mem_cons.mpr ⟨rf_in1 (show 0 ≤ (hv ws 114 56).toInt by omega) (show (hv ws 114 56).toInt ≤ 40 by omega), List.forall_mem_cons.mpr ⟨hg_in hI.2.1, fun _ h => absurd h List.not_mem_nil⟩⟩⟩⟩⟩) (fun x1 ws1 hw1 hf1 hp1 => k_pc 1386 rfl ?_)
      obtain ⟨k_, hk_, hkk⟩ := hp1
      rcases hm2 hk_ with rfl | rfl
      · skip
        have f0_ : 0 ≤ (hv ws1 114 55).toInt ∧ (hv ws1 114 55).toInt ≤ 40 := ⟨(hk_fact hkk 0 rfl).1.1, (hk_fact hkk 0 rfl).1.2.1⟩
        have g0_ : (hv ws 114 55).toInt + 0 ≤ (hv ws1 114 55).toInt ∧ (hv ws1 114 55).toInt ≤ (hv ws 114 55).toInt + 0 := (hk_fact hkk 0 rfl).2
        have f1_ : 0 ≤ (hv ws1 114 56).toInt ∧ (hv ws1 114 56).toInt ≤ 40 := ⟨(hk_fact hkk 1 rfl).1.1, (hk_fact hkk 1 rfl).1.2.1⟩
        have g1_ : (hv ws 114 56).toInt + 0 ≤ (hv ws1 114 56).toInt ∧ (hv ws1 114 56).toInt ≤ (hv ws 114 56).toInt + 0 := (hk_fact hkk 1 rfl).2
        have hI1 := lwInv_k hI (by decide +kernel) hf1 (by rw [hf1 16 4 (by decide) (by rfl), hf1 16 5 (by decide) (by rfl)]; exact hI.2.2.1) (by omega)
        refine k_pop c (hd 15 1386 _ _ rfl) rfl (k_pc 1387 rfl ?_)
        refine k_goto c (hd 16 1387 _ _ rfl) (tgt := 1413) (by decide) ?_
        exact KK _ hw1 hI1
      · skip
        have f0_ : 0 ≤ (hv ws1 114 55).toInt ∧ (hv ws1 114 55).toInt ≤ 0 := ⟨(hk_fact hkk 0 rfl).1.1, (hk_fact hkk 0 rfl).1.2.1⟩
        have f1_ : 0 ≤ (hv ws1 114 56).toInt ∧ (hv ws1 114 56).toInt ≤ 0 := ⟨(hk_fact hkk 1 rfl).1.1, (hk_fact hkk 1 rfl).1.2.1⟩
        have hI1 := lwInv_k hI (by decide +kernel) hf1 (by rw [hf1 16 4 (by decide) (by rfl), hf1 16 5 (by decide) (by rfl)]; exact hI.2.2.1) (by omega)
        refine k_pop c (hd 15 1386 _ _ rfl) rfl (k_pc 1387 rfl ?_)
        refine k_goto c (hd 16 1387 _ _ rfl) (tgt := 1413) (by decide) ?_
        exact KK _ hw1 hI1
  have hr : hrng wLay (hv ws) := by rw [← hG.2.2.1]; exact hrng_at hw
  have r16_4 : 0 ≤ (hv ws 16 4).toInt ∧ (hv ws 16 4).toInt ≤ 40 := hrg hr ly_16_4
  have r16_5 : 0 ≤ (hv ws 16 5).toInt ∧ (hv ws 16 5).toInt ≤ 40 := hrg hr ly_16_5
  have r114_55 : 0 ≤ (hv ws 114 55).toInt ∧ (hv ws 114 55).toInt ≤ 40 := hrg hr ly_114_55
  have r114_56 : 0 ≤ (hv ws 114 56).toInt ∧ (hv ws 114 56).toInt ≤ 40 := hrg hr ly_114_56
  have r77_1 : 0 ≤ (hv ws 77 1).toInt ∧ (hv ws 77 1).toInt ≤ 31 := hrg hr ly_77_1
  have hA_ := hI.2.2.1
  have hB_ := hI.2.2.2.1
  refine k_al c (hd 0 1367 _ _ rfl) (by rfl) (k_pc 1368 rfl ?_)
  refine k_al c (hd 1 1368 _ _ rfl) (by rfl) (k_pc 1369 rfl ?_)
  refine k_il c (hd 2 1369 _ _ rfl) (by rfl) (k_pc 1370 rfl ?_)
  refine k_ic c (hd 3 1370 _ _ rfl) (v := 1) (by decide) (k_pc 1371 rfl ?_)
  refine k_addE c (hd 4 1371 _ _ rfl) (k_pc 1372 rfl ?_)
  refine k_sld C (lw_in h0 h1 C.2.2.2.2.1 (by decide)) (hd 5 1372 _ _ rfl) (k_pc 1373 rfl ?_)
  refine k_callM C (M := q1231_M) (q1231_met hG) (by decide +kernel) (by decide +kernel) (wlkV (lkL_201 hG) _ rfl rfl) (j := 70) (by decide +kernel) ⟨Nat.le_of_ble_eq_true rfl, Nat.le_of_ble_eq_true rfl⟩ (hd 6 1373 _ _ rfl) [.int (sc (i + 1).toNatClampNeg)] (rest := []) (by rfl) ⟨⟨70, by decide, rfl⟩, ⟨_, rfl, rf_in_top _, trivial⟩, trivial⟩ (Nat.le_of_ble_eq_true rfl) hw (List.forall_mem_cons.mpr ⟨rf_in1 (show 0 ≤ (hv ws 16 4).toInt by omega) (show (hv ws 16 4).toInt ≤ 40 by omega), List.forall_mem_cons.mpr ⟨rf_in1 (show 0 ≤ (hv ws 16 5).toInt by omega) (show (hv ws 16 5).toInt ≤ 40 by omega), fun _ h => absurd h List.not_mem_nil⟩⟩) (fun x1 ws1 hw1 hf1 hp1 => k_pc 1376 rfl ?_)
  obtain ⟨k_, hk_, hkk⟩ := hp1
  rcases hm2 hk_ with rfl | rfl
  · skip
    have f0_ : 0 ≤ (hv ws1 16 4).toInt ∧ (hv ws1 16 4).toInt ≤ 40 := ⟨(hk_fact hkk 0 rfl).1.1, (hk_fact hkk 0 rfl).1.2.1⟩
    have g0_ : (hv ws 16 4).toInt + 0 ≤ (hv ws1 16 4).toInt ∧ (hv ws1 16 4).toInt ≤ (hv ws 16 4).toInt + 0 := (hk_fact hkk 0 rfl).2
    have f1_ : 0 ≤ (hv ws1 16 5).toInt ∧ (hv ws1 16 5).toInt ≤ 40 := ⟨(hk_fact hkk 1 rfl).1.1, (hk_fact hkk 1 rfl).1.2.1⟩
    have g1_ : (hv ws 16 5).toInt + 0 ≤ (hv ws1 16 5).toInt ∧ (hv ws1 16 5).toInt ≤ (hv ws 16 5).toInt + 0 := (hk_fact hkk 1 rfl).2
    have hI1 := lwInv_k hI (by decide +kernel) hf1 (by omega) (by rw [hf1 114 55 (by decide) (by rfl), hf1 114 56 (by decide) (by rfl)]; exact hI.2.2.2.1)
    refine k_pop c (hd 7 1376 _ _ rfl) rfl (k_pc 1377 rfl ?_)
    exact KM _ hw1 hI1
  · skip
    have f1_ : 0 ≤ (hv ws1 16 4).toInt ∧ (hv ws1 16 4).toInt ≤ 0 := ⟨(hk_fact hkk 1 rfl).1.1, (hk_fact hkk 1 rfl).1.2.1⟩
    have f2_ : 0 ≤ (hv ws1 16 5).toInt ∧ (hv ws1 16 5).toInt ≤ 0 := ⟨(hk_fact hkk 2 rfl).1.1, (hk_fact hkk 2 rfl).1.2.1⟩
    have hI1 := lwInv_k hI (by decide +kernel) hf1 (by omega) (by rw [hf1 114 55 (by decide) (by rfl), hf1 114 56 (by decide) (by rfl)]; exact hI.2.2.2.1)
    refine k_pop c (hd 7 1376 _ _ rfl) rfl (k_pc 1377 rfl ?_)
    exact KM _ hw1 hI1
def ddL46 : List (Nat × Instr × Nat) := [(1390, .aload_n 1, 1), (1391, .aload_n 0, 1), (1392, .iload_n 3, 1), (1393, .iconst 1, 1), (1394, .iadd, 1), (1395, .iaload, 1), (1396, .invokevirtual 205, 3), (1399, .pop, 1), (1400, .aload_n 2, 1), (1401, .aload_n 0, 1), (1402, .iload_n 3, 1), (1403, .iconst 1, 1), (1404, .iadd, 1), (1405, .iaload, 1), (1406, .invokevirtual 208, 3), (1409, .pop, 1), (1410, .goto 3, 3)]
set_option maxRecDepth 100000 in
theorem dkL46 : rf_decs code ddL46 := rf_decs_of (by decide +kernel)
set_option maxHeartbeats 8000000 in
set_option maxRecDepth 100000 in
theorem lw_case46 {X : rfX} {G : rfG} {b Ln : Nat} {sc : Nat → Int32} {n sl : Nat} (C : lwC X G b Ln sc n sl) {i : Int32} (h0 : 0 ≤ i.toInt) (h1 : i.toInt + 5 < (Ln : Int)) (KK : ∀ ws', rf_world G.2.1.1 G.2.1.2.1 G.2.1.2.2.1 G.2.1.2.2.2 ws' → lwInv (hv ws') → kW X n sl 1413 [(3, .int i), (2, .ref (G.2.1.1 114)), (1, .ref (G.2.1.1 70)), (0, .ref b)] [] ws') {ws : va_W} (hw : rf_world G.2.1.1 G.2.1.2.1 G.2.1.2.2.1 G.2.1.2.2.2 ws) (hI : lwInv (hv ws)) : kW X n sl 1390 [(3, .int i), (2, .ref (G.2.1.1 114)), (1, .ref (G.2.1.1 70)), (0, .ref b)] [] ws := by
  have hG := C.1
  have hh := w1_ok hG
  have h2 := w2_ok hG
  have c := C.2.2.1
  have hd : ∀ n pc i len, ddL46[n]? = some (pc, i, len) → decode code pc = .ok (i, len) := fun n pc i len h => hdk dkL46 n pc i len h
  have KM : ∀ ws, rf_world G.2.1.1 G.2.1.2.1 G.2.1.2.2.1 G.2.1.2.2.2 ws → lwInv (hv ws) → kW X n sl 1400 [(3, .int i), (2, .ref (G.2.1.1 114)), (1, .ref (G.2.1.1 70)), (0, .ref b)] [] ws := by
    intro ws hw hI
    have hr : hrng wLay (hv ws) := by rw [← hG.2.2.1]; exact hrng_at hw
    have r16_4 : 0 ≤ (hv ws 16 4).toInt ∧ (hv ws 16 4).toInt ≤ 40 := hrg hr ly_16_4
    have r16_5 : 0 ≤ (hv ws 16 5).toInt ∧ (hv ws 16 5).toInt ≤ 40 := hrg hr ly_16_5
    have r114_55 : 0 ≤ (hv ws 114 55).toInt ∧ (hv ws 114 55).toInt ≤ 40 := hrg hr ly_114_55
    have r114_56 : 0 ≤ (hv ws 114 56).toInt ∧ (hv ws 114 56).toInt ≤ 40 := hrg hr ly_114_56
    have r77_1 : 0 ≤ (hv ws 77 1).toInt ∧ (hv ws 77 1).toInt ≤ 31 := hrg hr ly_77_1
    have hA_ := hI.2.2.1
    have hB_ := hI.2.2.2.1
    refine k_al c (hd 8 1400 _ _ rfl) (by rfl) (k_pc 1401 rfl ?_)
    refine k_al c (hd 9 1401 _ _ rfl) (by rfl) (k_pc 1402 rfl ?_)
    refine k_il c (hd 10 1402 _ _ rfl) (by rfl) (k_pc 1403 rfl ?_)
    refine k_ic c (hd 11 1403 _ _ rfl) (v := 1) (by decide) (k_pc 1404 rfl ?_)
    refine k_addE c (hd 12 1404 _ _ rfl) (k_pc 1405 rfl ?_)
    refine k_sld C (lw_in h0 h1 C.2.2.2.2.1 (by decide)) (hd 13 1405 _ _ rfl) (k_pc 1406 rfl ?_)
    rcases hI.1 with hb_ | hb_
    · skip
      refine k_callM C (M := q1204_M) (q1204_met hG) (by decide +kernel) (by decide +kernel) (wlkV (lkL_208 hG) _ rfl rfl) (j := 114) (by decide +kernel) ⟨Nat.le_of_ble_eq_true rfl, Nat.le_of_ble_eq_true rfl⟩ (hd 14 1406 _ _ rfl) [.int (sc (i + 1).toNatClampNeg)] (rest := []) (by rfl) ⟨⟨114, by decide, rfl⟩, ⟨_, rfl, rf_in_top _, trivial⟩, trivial⟩ (Nat.le_of_ble_eq_true rfl) hw (List.forall_mem_cons.mpr ⟨hcon (x := hv ws 114 28) (by omega), List.forall_mem_cons.mpr ⟨hg_in hI.2.1, fun _ h => absurd h List.not_mem_nil⟩⟩) (fun x1 ws1 hw1 hf1 hp1 => k_pc 1409 rfl ?_)
      have hI1 := lwInv_k hI (by decide +kernel) hf1 (by rw [hf1 16 4 (by decide) (by rfl), hf1 16 5 (by decide) (by rfl)]; exact hI.2.2.1) (by rw [hf1 114 55 (by decide) (by rfl), hf1 114 56 (by decide) (by rfl)]; exact hI.2.2.2.1)
      refine k_pop c (hd 15 1409 _ _ rfl) rfl (k_pc 1410 rfl ?_)
      refine k_goto c (hd 16 1410 _ _ rfl) (tgt := 1413) (by decide) ?_
      exact KK _ hw1 hI1
    · skip
      refine k_callM C (M := q1205_M) (q1205_met hG) (by decide +kernel) (by decide +kernel) (wlkV (lkL_208 hG) _ rfl rfl) (j := 114) (by decide +kernel) ⟨Nat.le_of_ble_eq_true rfl, Nat.le_of_ble_eq_true rfl⟩ (hd 14 1406 _ _ rfl) [.int (sc (i + 1).toNatClampNeg)] (rest := []) (by rfl) ⟨⟨114, by decide, rfl⟩, ⟨_, rfl, rf_in_top _, trivial⟩, trivial⟩ (Nat.le_of_ble_eq_true rfl) hw (List.forall_mem_cons.mpr ⟨rf_in1 (show 1 ≤ (hv ws 77 1).toInt by omega) (show (hv ws 77 1).toInt ≤ 31 by omega), List.forall_mem_cons.mpr ⟨hcon (x := hv ws 114 28) (by omega), List.forall_mem_cons.mpr ⟨hg_in hI.2.1, fun _ h => absurd h List.not_mem_nil⟩⟩⟩) (fun x1 ws1 hw1 hf1 hp1 => k_pc 1409 rfl ?_)
      have hI1 := lwInv_k hI (by decide +kernel) hf1 (by rw [hf1 16 4 (by decide) (by rfl), hf1 16 5 (by decide) (by rfl)]; exact hI.2.2.1) (by rw [hf1 114 55 (by decide) (by rfl), hf1 114 56 (by decide) (by rfl)]; exact hI.2.2.2.1)
      refine k_pop c (hd 15 1409 _ _ rfl) rfl (k_pc 1410 rfl ?_)
      refine k_goto c (hd 16 1410 _ _ rfl) (tgt := 1413) (by decide) ?_
      exact KK _ hw1 hI1
  have hr : hrng wLay (hv ws) := by rw [← hG.2.2.1]; exact hrng_at hw
  have r16_4 : 0 ≤ (hv ws 16 4).toInt ∧ (hv ws 16 4).toInt ≤ 40 := hrg hr ly_16_4
  have r16_5 : 0 ≤ (hv ws 16 5).toInt ∧ (hv ws 16 5).toInt ≤ 40 := hrg hr ly_16_5
  have r114_55 : 0 ≤ (hv ws 114 55).toInt ∧ (hv ws 114 55).toInt ≤ 40 := hrg hr ly_114_55
  have r114_56 : 0 ≤ (hv ws 114 56).toInt ∧ (hv ws 114 56).toInt ≤ 40 := hrg hr ly_114_56
  have r77_1 : 0 ≤ (hv ws 77 1).toInt ∧ (hv ws 77 1).toInt ≤ 31 := hrg hr ly_77_1
  have hA_ := hI.2.2.1
  have hB_ := hI.2.2.2.1
  refine k_al c (hd 0 1390 _ _ rfl) (by rfl) (k_pc 1391 rfl ?_)
  refine k_al c (hd 1 1391 _ _ rfl) (by rfl) (k_pc 1392 rfl ?_)
  refine k_il c (hd 2 1392 _ _ rfl) (by rfl) (k_pc 1393 rfl ?_)
  refine k_ic c (hd 3 1393 _ _ rfl) (v := 1) (by decide) (k_pc 1394 rfl ?_)
  refine k_addE c (hd 4 1394 _ _ rfl) (k_pc 1395 rfl ?_)
  refine k_sld C (lw_in h0 h1 C.2.2.2.2.1 (by decide)) (hd 5 1395 _ _ rfl) (k_pc 1396 rfl ?_)
  refine k_callM C (M := q675_M) (q675_met hG) (by decide +kernel) (by decide +kernel) (wlkV (lkL_205 hG) _ rfl rfl) (j := 70) (by decide +kernel) ⟨Nat.le_of_ble_eq_true rfl, Nat.le_of_ble_eq_true rfl⟩ (hd 6 1396 _ _ rfl) [.int (sc (i + 1).toNatClampNeg)] (rest := []) (by rfl) ⟨⟨70, by decide, rfl⟩, ⟨_, rfl, rf_in_top _, trivial⟩, trivial⟩ (Nat.le_of_ble_eq_true rfl) hw (fun _ h => absurd h List.not_mem_nil) (fun x1 ws1 hw1 hf1 hp1 => k_pc 1399 rfl ?_)
  have hI1 := lwInv_k hI (by decide +kernel) hf1 (by rw [hf1 16 4 (by decide) (by rfl), hf1 16 5 (by decide) (by rfl)]; exact hI.2.2.1) (by rw [hf1 114 55 (by decide) (by rfl), hf1 114 56 (by decide) (by rfl)]; exact hI.2.2.2.1)
  refine k_pop c (hd 7 1399 _ _ rfl) rfl (k_pc 1400 rfl ?_)
  exact KM _ hw1 hI1
def ddLH : List (Nat × Instr × Nat) := [(18, .iload_n 3, 1), (19, .aload_n 0, 1), (20, .arraylength, 1), (21, .bipush 6, 2), (23, .isub, 1), (24, .if_icmp .gt 1395, 3), (27, .aload_n 0, 1), (28, .iload_n 3, 1), (29, .iaload, 1), (30, .bipush 63, 2), (32, .iand, 1), (33, .tableswitch 1380 0 46 #[203, 266, 289, 302, 325, 358, 391, 414, 437, 460, 473, 486, 499, 522, 555, 578, 601, 634, 667, 690, 723, 756, 789, 802, 815, 838, 861, 894, 907, 950, 973, 996, 1019, 1032, 1045, 1058, 1071, 1094, 1127, 1150, 1209, 1232, 1255, 1278, 1311, 1334, 1357], 203), (1413, .iinc 3 6, 3), (1416, .goto (-1398), 3)]
set_option maxRecDepth 100000 in
theorem dkLH : rf_decs code ddLH := rf_decs_of (by decide +kernel)
set_option maxHeartbeats 8000000 in
set_option maxRecDepth 100000 in
theorem lw_loop {X : rfX} {G : rfG} {b Ln : Nat} {sc : Nat → Int32} {n sl : Nat} (C : lwC X G b Ln sc n sl) (KE : ∀ (i : Int32) (ws : va_W), kW X n sl 1419 [(3, .int i), (2, .ref (G.2.1.1 114)), (1, .ref (G.2.1.1 70)), (0, .ref b)] [] ws) : ∀ (m : Nat) (i : Int32) (ws : va_W), rf_world G.2.1.1 G.2.1.2.1 G.2.1.2.2.1 G.2.1.2.2.2 ws → lwInv (hv ws) → 0 ≤ i.toInt → i.toInt ≤ 3078 → m = (4000 - i.toInt).toNat → kW X n sl 18 [(3, .int i), (2, .ref (G.2.1.1 114)), (1, .ref (G.2.1.1 70)), (0, .ref b)] [] ws := by
  have c := C.2.2.1
  have hLn := C.2.2.2.2.1
  have hd : ∀ n pc i len, ddLH[n]? = some (pc, i, len) → decode code pc = .ok (i, len) := fun n pc i len h => hdk dkLH n pc i len h
  intro m
  induction m using Nat.strongRecOn with
  | ind m ih =>
  intro i ws hw hI h0 h9 hm
  refine k_il c (hd 0 18 _ _ rfl) (by rfl) (k_pc 19 rfl ?_)
  refine k_al c (hd 1 19 _ _ rfl) (by rfl) (k_pc 20 rfl ?_)
  refine k_slen C (hd 2 20 _ _ rfl) (k_pc 21 rfl ?_)
  refine k_bp c (hd 3 21 _ _ rfl) (v := 6) (by decide) (k_pc 23 rfl ?_)
  refine k_sub c (hd 4 23 _ _ rfl) (k_pc 24 rfl ?_)
  have eL : (Int32.ofNat Ln).toInt = (Ln : Int) := nI_toInt (by omega)
  have e6 : (6 : Int32).toInt = 6 := by decide +kernel
  have eS : (Int32.ofNat Ln - 6).toInt = (Ln : Int) - 6 := by rw [h_subv (by omega), eL, e6]
  refine k_gt c (hd 5 24 _ _ rfl) (tgt := 1419) (by decide) (fun _ => KE _ _) (fun hgt => k_pc 27 rfl ?_)
  have h1 : i.toInt + 5 < (Ln : Int) := by omega
  refine k_al c (hd 6 27 _ _ rfl) (by rfl) (k_pc 28 rfl ?_)
  refine k_il c (hd 7 28 _ _ rfl) (by rfl) (k_pc 29 rfl ?_)
  refine k_sld C (vp_in_iff.mpr ⟨by omega, by omega⟩) (hd 8 29 _ _ rfl) (k_pc 30 rfl ?_)
  refine k_bp c (hd 9 30 _ _ rfl) (v := 63) (by decide) (k_pc 32 rfl ?_)
  refine k_and c (hd 10 32 _ _ rfl) (k_pc 33 rfl ?_)
  have hv63 := rf_and_r (x := sc i.toNatClampNeg) (y := 63) (by decide)
  have e63 : (63 : Int32).toInt = 63 := by decide +kernel
  generalize sc i.toNatClampNeg &&& 63 = v at hv63 ⊢
  have KK : ∀ ws', rf_world G.2.1.1 G.2.1.2.1 G.2.1.2.2.1 G.2.1.2.2.2 ws' → lwInv (hv ws') → kW X n sl 1413 [(3, .int i), (2, .ref (G.2.1.1 114)), (1, .ref (G.2.1.1 70)), (0, .ref b)] [] ws' := by
    intro ws' hw' hI'
    have ea : (i + Int32.ofInt 6).toInt = i.toInt + 6 := by
      have e66 : (Int32.ofInt 6).toInt = 6 := by decide +kernel
      rw [h_addv (by omega), e66]
    refine k_inc c (hd 12 1413 _ _ rfl) (by decide) (by rfl) rfl (L' := [(3, .int (i + Int32.ofInt 6)), (2, .ref (G.2.1.1 114)), (1, .ref (G.2.1.1 70)), (0, .ref b)]) (by rfl) (k_pc 1416 rfl ?_)
    refine k_goto c (hd 13 1416 _ _ rfl) (tgt := 18) (by decide) ?_
    exact ih _ (by omega) _ _ hw' hI' (by omega) (by omega) rfl
  have hcs : v.toInt = 0 ∨ v.toInt = 1 ∨ v.toInt = 2 ∨ v.toInt = 3 ∨ v.toInt = 4 ∨ v.toInt = 5 ∨ v.toInt = 6 ∨ v.toInt = 7 ∨ v.toInt = 8 ∨ v.toInt = 9 ∨ v.toInt = 10 ∨ v.toInt = 11 ∨ v.toInt = 12 ∨ v.toInt = 13 ∨ v.toInt = 14 ∨ v.toInt = 15 ∨ v.toInt = 16 ∨ v.toInt = 17 ∨ v.toInt = 18 ∨ v.toInt = 19 ∨ v.toInt = 20 ∨ v.toInt = 21 ∨ v.toInt = 22 ∨ v.toInt = 23 ∨ v.toInt = 24 ∨ v.toInt = 25 ∨ v.toInt = 26 ∨ v.toInt = 27 ∨ v.toInt = 28 ∨ v.toInt = 29 ∨ v.toInt = 30 ∨ v.toInt = 31 ∨ v.toInt = 32 ∨ v.toInt = 33 ∨ v.toInt = 34 ∨ v.toInt = 35 ∨ v.toInt = 36 ∨ v.toInt = 37 ∨ v.toInt = 38 ∨ v.toInt = 39 ∨ v.toInt = 40 ∨ v.toInt = 41 ∨ v.toInt = 42 ∨ v.toInt = 43 ∨ v.toInt = 44 ∨ v.toInt = 45 ∨ v.toInt = 46 ∨ 46 < v.toInt := by omega
  rcases hcs with hx | hx | hx | hx | hx | hx | hx | hx | hx | hx | hx | hx | hx | hx | hx | hx | hx | hx | hx | hx | hx | hx | hx | hx | hx | hx | hx | hx | hx | hx | hx | hx | hx | hx | hx | hx | hx | hx | hx | hx | hx | hx | hx | hx | hx | hx | hx | hx
  · exact k_tabI c (hd 11 33 _ _ rfl) 0 hx (by decide) (by decide) (off := 203) (tgt := 236) (by rfl) (by decide) (lw_case0 C h0 h1 KK hw hI)
  · exact k_tabI c (hd 11 33 _ _ rfl) 1 hx (by decide) (by decide) (off := 266) (tgt := 299) (by rfl) (by decide) (lw_case1 C h0 h1 KK hw hI)
  · exact k_tabI c (hd 11 33 _ _ rfl) 2 hx (by decide) (by decide) (off := 289) (tgt := 322) (by rfl) (by decide) (lw_case2 C h0 h1 KK hw hI)
  · exact k_tabI c (hd 11 33 _ _ rfl) 3 hx (by decide) (by decide) (off := 302) (tgt := 335) (by rfl) (by decide) (lw_case3 C h0 h1 KK hw hI)
  · exact k_tabI c (hd 11 33 _ _ rfl) 4 hx (by decide) (by decide) (off := 325) (tgt := 358) (by rfl) (by decide) (lw_case4 C h0 h1 KK hw hI)
  · exact k_tabI c (hd 11 33 _ _ rfl) 5 hx (by decide) (by decide) (off := 358) (tgt := 391) (by rfl) (by decide) (lw_case5 C h0 h1 KK hw hI)
  · exact k_tabI c (hd 11 33 _ _ rfl) 6 hx (by decide) (by decide) (off := 391) (tgt := 424) (by rfl) (by decide) (lw_case6 C h0 h1 KK hw hI)
  · exact k_tabI c (hd 11 33 _ _ rfl) 7 hx (by decide) (by decide) (off := 414) (tgt := 447) (by rfl) (by decide) (lw_case7 C h0 h1 KK hw hI)
  · exact k_tabI c (hd 11 33 _ _ rfl) 8 hx (by decide) (by decide) (off := 437) (tgt := 470) (by rfl) (by decide) (lw_case8 C h0 h1 KK hw hI)
  · exact k_tabI c (hd 11 33 _ _ rfl) 9 hx (by decide) (by decide) (off := 460) (tgt := 493) (by rfl) (by decide) (lw_case9 C h0 h1 KK hw hI)
  · exact k_tabI c (hd 11 33 _ _ rfl) 10 hx (by decide) (by decide) (off := 473) (tgt := 506) (by rfl) (by decide) (lw_case10 C h0 h1 KK hw hI)
  · exact k_tabI c (hd 11 33 _ _ rfl) 11 hx (by decide) (by decide) (off := 486) (tgt := 519) (by rfl) (by decide) (lw_case11 C h0 h1 KK hw hI)
  · exact k_tabI c (hd 11 33 _ _ rfl) 12 hx (by decide) (by decide) (off := 499) (tgt := 532) (by rfl) (by decide) (lw_case12 C h0 h1 KK hw hI)
  · exact k_tabI c (hd 11 33 _ _ rfl) 13 hx (by decide) (by decide) (off := 522) (tgt := 555) (by rfl) (by decide) (lw_case13 C h0 h1 KK hw hI)
  · exact k_tabI c (hd 11 33 _ _ rfl) 14 hx (by decide) (by decide) (off := 555) (tgt := 588) (by rfl) (by decide) (lw_case14 C h0 h1 KK hw hI)
  · exact k_tabI c (hd 11 33 _ _ rfl) 15 hx (by decide) (by decide) (off := 578) (tgt := 611) (by rfl) (by decide) (lw_case15 C h0 h1 KK hw hI)
  · exact k_tabI c (hd 11 33 _ _ rfl) 16 hx (by decide) (by decide) (off := 601) (tgt := 634) (by rfl) (by decide) (lw_case16 C h0 h1 KK hw hI)
  · exact k_tabI c (hd 11 33 _ _ rfl) 17 hx (by decide) (by decide) (off := 634) (tgt := 667) (by rfl) (by decide) (lw_case17 C h0 h1 KK hw hI)
  · exact k_tabI c (hd 11 33 _ _ rfl) 18 hx (by decide) (by decide) (off := 667) (tgt := 700) (by rfl) (by decide) (lw_case18 C h0 h1 KK hw hI)
  · exact k_tabI c (hd 11 33 _ _ rfl) 19 hx (by decide) (by decide) (off := 690) (tgt := 723) (by rfl) (by decide) (lw_case19 C h0 h1 KK hw hI)
  · exact k_tabI c (hd 11 33 _ _ rfl) 20 hx (by decide) (by decide) (off := 723) (tgt := 756) (by rfl) (by decide) (lw_case20 C h0 h1 KK hw hI)
  · exact k_tabI c (hd 11 33 _ _ rfl) 21 hx (by decide) (by decide) (off := 756) (tgt := 789) (by rfl) (by decide) (lw_case21 C h0 h1 KK hw hI)
  · exact k_tabI c (hd 11 33 _ _ rfl) 22 hx (by decide) (by decide) (off := 789) (tgt := 822) (by rfl) (by decide) (lw_case22 C h0 h1 KK hw hI)
  · exact k_tabI c (hd 11 33 _ _ rfl) 23 hx (by decide) (by decide) (off := 802) (tgt := 835) (by rfl) (by decide) (lw_case23 C h0 h1 KK hw hI)
  · exact k_tabI c (hd 11 33 _ _ rfl) 24 hx (by decide) (by decide) (off := 815) (tgt := 848) (by rfl) (by decide) (lw_case24 C h0 h1 KK hw hI)
  · exact k_tabI c (hd 11 33 _ _ rfl) 25 hx (by decide) (by decide) (off := 838) (tgt := 871) (by rfl) (by decide) (lw_case25 C h0 h1 KK hw hI)
  · exact k_tabI c (hd 11 33 _ _ rfl) 26 hx (by decide) (by decide) (off := 861) (tgt := 894) (by rfl) (by decide) (lw_case26 C h0 h1 KK hw hI)
  · exact k_tabI c (hd 11 33 _ _ rfl) 27 hx (by decide) (by decide) (off := 894) (tgt := 927) (by rfl) (by decide) (lw_case27 C h0 h1 KK hw hI)
  · exact k_tabI c (hd 11 33 _ _ rfl) 28 hx (by decide) (by decide) (off := 907) (tgt := 940) (by rfl) (by decide) (lw_case28 C h0 h1 KK hw hI)
  · exact k_tabI c (hd 11 33 _ _ rfl) 29 hx (by decide) (by decide) (off := 950) (tgt := 983) (by rfl) (by decide) (lw_case29 C h0 h1 KK hw hI)
  · exact k_tabI c (hd 11 33 _ _ rfl) 30 hx (by decide) (by decide) (off := 973) (tgt := 1006) (by rfl) (by decide) (lw_case30 C h0 h1 KK hw hI)
  · exact k_tabI c (hd 11 33 _ _ rfl) 31 hx (by decide) (by decide) (off := 996) (tgt := 1029) (by rfl) (by decide) (lw_case31 C h0 h1 KK hw hI)
  · exact k_tabI c (hd 11 33 _ _ rfl) 32 hx (by decide) (by decide) (off := 1019) (tgt := 1052) (by rfl) (by decide) (lw_case32 C h0 h1 KK hw hI)
  · exact k_tabI c (hd 11 33 _ _ rfl) 33 hx (by decide) (by decide) (off := 1032) (tgt := 1065) (by rfl) (by decide) (lw_case33 C h0 h1 KK hw hI)
  · exact k_tabI c (hd 11 33 _ _ rfl) 34 hx (by decide) (by decide) (off := 1045) (tgt := 1078) (by rfl) (by decide) (lw_case34 C h0 h1 KK hw hI)
  · exact k_tabI c (hd 11 33 _ _ rfl) 35 hx (by decide) (by decide) (off := 1058) (tgt := 1091) (by rfl) (by decide) (lw_case35 C h0 h1 KK hw hI)
  · exact k_tabI c (hd 11 33 _ _ rfl) 36 hx (by decide) (by decide) (off := 1071) (tgt := 1104) (by rfl) (by decide) (lw_case36 C h0 h1 KK hw hI)
  · exact k_tabI c (hd 11 33 _ _ rfl) 37 hx (by decide) (by decide) (off := 1094) (tgt := 1127) (by rfl) (by decide) (lw_case37 C h0 h1 KK hw hI)
  · exact k_tabI c (hd 11 33 _ _ rfl) 38 hx (by decide) (by decide) (off := 1127) (tgt := 1160) (by rfl) (by decide) (lw_case38 C h0 h1 KK hw hI)
  · exact k_tabI c (hd 11 33 _ _ rfl) 39 hx (by decide) (by decide) (off := 1150) (tgt := 1183) (by rfl) (by decide) (lw_case39 C h0 h1 KK hw hI)
  · exact k_tabI c (hd 11 33 _ _ rfl) 40 hx (by decide) (by decide) (off := 1209) (tgt := 1242) (by rfl) (by decide) (lw_case40 C h0 h1 KK hw hI)
  · exact k_tabI c (hd 11 33 _ _ rfl) 41 hx (by decide) (by decide) (off := 1232) (tgt := 1265) (by rfl) (by decide) (lw_case41 C h0 h1 KK hw hI)
  · exact k_tabI c (hd 11 33 _ _ rfl) 42 hx (by decide) (by decide) (off := 1255) (tgt := 1288) (by rfl) (by decide) (lw_case42 C h0 h1 KK hw hI)
  · exact k_tabI c (hd 11 33 _ _ rfl) 43 hx (by decide) (by decide) (off := 1278) (tgt := 1311) (by rfl) (by decide) (lw_case43 C h0 h1 KK hw hI)
  · exact k_tabI c (hd 11 33 _ _ rfl) 44 hx (by decide) (by decide) (off := 1311) (tgt := 1344) (by rfl) (by decide) (lw_case44 C h0 h1 KK hw hI)
  · exact k_tabI c (hd 11 33 _ _ rfl) 45 hx (by decide) (by decide) (off := 1334) (tgt := 1367) (by rfl) (by decide) (lw_case45 C h0 h1 KK hw hI)
  · exact k_tabI c (hd 11 33 _ _ rfl) 46 hx (by decide) (by decide) (off := 1357) (tgt := 1390) (by rfl) (by decide) (lw_case46 C h0 h1 KK hw hI)
  · exact k_tabO c (hd 11 33 _ _ rfl) (tgt := 1413) (Or.inr hx) (by decide) (KK _ hw hI)
