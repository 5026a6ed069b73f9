set_option maxRecDepth 20000 in
theorem dRing13 : (List.range 13).all (fun i => decide (dTB.getD (i % dTB.length) rf_top = ((i : Int), (i : Int), 1)) && decide (((upd (upd (upd (upd (upd (upd (upd (upd (upd (upd (upd (upd (upd (fun _ => 0) 0 0) 1 1) 2 2) 3 3) 4 4) 5 5) 6 6) 7 7) 8 8) 9 9) 10 10) 11 11) 12 12) i).toInt = (i : Int))) = true := by decide +kernel
set_option maxRecDepth 20000 in
theorem dRing : ∀ i, i < 169 → rf_in (dTB.getD (i % dTB.length) rf_top) ((upd (upd (upd (upd (upd (upd (upd (upd (upd (upd (upd (upd (upd (fun _ => 0) 0 0) 1 1) 2 2) 3 3) 4 4) 5 5) 6 6) 7 7) 8 8) 9 9) 10 10) 11 11) 12 12) i).toInt := by
  intro i hi
  by_cases h : i < 13
  · have h3 := List.all_eq_true.mp dRing13 i (List.mem_range.mpr h)
    simp only [Bool.and_eq_true, decide_eq_true_eq] at h3
    rw [h3.1, h3.2]
    exact rf_in1 (Int.le_refl _) (Int.le_refl _)
  · exact dTB_top (Nat.le_of_not_lt h) hi _
