/-! DISTANCE in the class: letters (printed by wip/p15/d15.py, d15b.py) -/
theorem dfgX7_11 : rf_flget flX7 11 = some (7,0,0) := by decide +kernel
theorem dgnX7_11_20 : rf_gone wLay 7 0 20 = some (.inr (.inl [17])) := rfl
theorem dfgX7_15 : rf_flget flX7 15 = some (7,1,0) := by decide +kernel
theorem dgnX7_15_20 : rf_gone wLay 7 1 20 = some (.inr (.inl [18])) := rfl
theorem dfgX7_18 : rf_flget flX7 18 = some (7,2,0) := by decide +kernel
theorem dgnX7_18_20 : rf_gone wLay 7 2 20 = some (.inr (.inl [19])) := rfl
theorem dfgX7_21 : rf_flget flX7 21 = some (7,3,1) := by decide +kernel
theorem dgnX7_21_20 : rf_gone wLay 7 3 20 = some (.inl ((0,12,1),none)) := rfl
theorem dfgX7_25 : rf_flget flX7 25 = some (7,4,1) := by decide +kernel
theorem dgnX7_25_20 : rf_gone wLay 7 4 20 = some (.inl ((0,12,1),none)) := rfl
theorem dfgX11_49 : rf_flget flX11 49 = some (11,7,0) := by decide +kernel
theorem dgnX11_49_70 : rf_gone wLay 11 7 70 = some (.inr (.inl [20])) := rfl
theorem dly_20_3 : rf_layr wLay 20 3 = some (0,12,1) := by decide +kernel
theorem dly_20_4 : rf_layr wLay 20 4 = some (0,12,1) := by decide +kernel
theorem dla_17 : rf_arr wLay 0 17 = some (12,[((-2147483648),2147483647,1)]) := by decide +kernel
theorem dla_18 : rf_arr wLay 0 18 = some (12,[((-2147483648),2147483647,1)]) := by decide +kernel
theorem dd_of {cc : ByteArray} {dec : List (Nat × Instr × Nat)} (h : dec.all (fun q => decide (decode cc q.1 = .ok (q.2.1, q.2.2))) = true) : rf_decs cc dec := fun q hq => by
  have := List.all_eq_true.mp h q hq
  simpa using this
theorem lenI_0 {v : Int} (h2 : v < 1) : lenI v = 0 := by
  unfold lenI
  (repeat' split) <;> omega
theorem lenI_1 {v : Int} (h1 : 1 ≤ v) (h2 : v < 27) : lenI v = 1 := by
  unfold lenI
  (repeat' split) <;> omega
theorem lenI_2 {v : Int} (h1 : 27 ≤ v) (h2 : v < 729) : lenI v = 2 := by
  unfold lenI
  (repeat' split) <;> omega
theorem lenI_3 {v : Int} (h1 : 729 ≤ v) (h2 : v < 19683) : lenI v = 3 := by
  unfold lenI
  (repeat' split) <;> omega
theorem lenI_4 {v : Int} (h1 : 19683 ≤ v) (h2 : v < 531441) : lenI v = 4 := by
  unfold lenI
  (repeat' split) <;> omega
theorem lenI_5 {v : Int} (h1 : 531441 ≤ v) (h2 : v < 14348907) : lenI v = 5 := by
  unfold lenI
  (repeat' split) <;> omega
theorem lenI_6 {v : Int} (h1 : 14348907 ≤ v) : lenI v = 6 := by
  unfold lenI
  (repeat' split) <;> omega
def dM_len : rfM := ((⟨"NearSpell", "lengthOf", "(I)I"⟩, prog_1_method_53_code, 2, (some .int)), (2,100), ([.inl ((0,387420488,1),none)],[]), [], [])
def ddDX11_lengthOf : List (Nat × Instr × Nat) := [(0,.iconst 0,1),(1,.istore_n 1,1),(2,.iload_n 1,1),(3,.bipush 6,2),(5,.if_icmp .ge 18,3),(8,.iload_n 0,1),(9,.getstatic 360,3),(12,.iload_n 1,1),(13,.iaload,1),(14,.if_icmp .lt 9,3),(17,.iinc 1 1,3),(20,.goto (-18),3),(23,.iload_n 1,1),(24,.ireturn,1)]
set_option maxRecDepth 100000 in
theorem dkDX11_lengthOf : rf_decs prog_1_method_53_code ddDX11_lengthOf := dd_of (by decide +kernel)
set_option maxHeartbeats 4000000 in
set_option maxRecDepth 20000 in
theorem dp_len {G : rfG} (hG : okG G) : h_met G dM_len (fun _ _ => True) (fun vs _ _ rv => ∃ a x : Int32, vs = [.int a] ∧ rv = some (.int x) ∧ x.toInt = (lenI a.toInt : Int)) := by
  refine h_metOf hG.1 (by decide +kernel) (by decide) hG.2.2.1 (wflT hG flokX11) (wcsT hG csokX11) ?_
  intro vs w0 X hv_ hr hp c
  match vs, hv_ with
  | [_], ⟨⟨a, rfl, hi_a, _⟩, _⟩ =>
  have hd : ∀ n pc i len, ddDX11_lengthOf[n]? = some (pc, i, len) → decode (mb dM_len) pc = .ok (i, len) := fun n pc i len h => hdk dkDX11_lengthOf n pc i len h
  show hW G X dM_len w0 0 [(0, .int a)] [] (hv w0)
  generalize hF0 : hv w0 = F at *
  have ha : 0 ≤ a.toInt ∧ a.toInt ≤ 387420488 := ⟨hi_a.1, hi_a.2.1⟩
  refine h_ic c (hd 0 0 _ _ rfl) (by decide) (fun v0 e0 => hat 1 rfl ?_)
  refine h_isn c (hd 1 1 _ _ rfl) (by decide) (L' := [(1, .int v0), (0, .int a)]) (by rfl) (hat 2 rfl ?_)
  refine h_iln c (hd 2 2 _ _ rfl) (by rfl) (hat 3 rfl ?_)
  refine h_bp c (hd 3 3 _ _ rfl) (by decide) (fun v3 e3 => hat 5 rfl ?_)
  refine h_cmp c (hd 4 5 _ _ rfl) (tgt := 23) (by decide) (fun (h5 : v3.toInt ≤ v0.toInt) => ?_) (fun (h5 : ¬ (v3.toInt ≤ v0.toInt)) => hat 8 rfl ?_)
  · exfalso; omega
  · skip
    refine h_iln c (hd 5 8 _ _ rfl) (by rfl) (hat 9 rfl ?_)
    refine h_gst c hG (wmT hG (wm804)) (hd 6 9 _ _ rfl) (hat 12 rfl ?_)
    refine h_iln c (hd 7 12 _ _ rfl) (by rfl) (hat 13 rfl ?_)
    refine h_pald c hG (k := 0) (hd 8 13 _ _ rfl) (by omega) (by decide) (fun v13 e13 => hat 14 rfl ?_)
    have e13 : v13.toInt = 1 := e13.trans (by decide +kernel)
    refine h_cmp c (hd 9 14 _ _ rfl) (tgt := 23) (by decide) (fun (h14 : a.toInt < v13.toInt) => ?_) (fun (h14 : ¬ (a.toInt < v13.toInt)) => hat 17 rfl ?_)
    · skip
      refine h_iln c (hd 12 23 _ _ rfl) (by rfl) (hat 24 rfl ?_)
      have hl_ := lenI_0 (v := a.toInt) (by omega)
      exact h_iret c (hd 13 24 _ _ rfl) rfl ⟨a, _, rfl, rfl, by rw [hl_]; omega⟩
    · skip
      refine h_inc c (fun r_ => [(1, .int r_), (0, .int a)]) (hd 10 17 _ _ rfl) (by decide) (by decide) (by rfl) (by omega) (fun _ => by rfl) (fun v17 e17 => hat 20 rfl ?_)
      have e17 : v17.toInt = 1 := by omega
      refine h_goto c (hd 11 20 _ _ rfl) (tgt := 2) (by decide) ?_
      refine h_iln c (hd 2 2 _ _ rfl) (by rfl) (hat 3 rfl ?_)
      refine h_bp c (hd 3 3 _ _ rfl) (by decide) (fun v3_1 e3_1 => hat 5 rfl ?_)
      refine h_cmp c (hd 4 5 _ _ rfl) (tgt := 23) (by decide) (fun (h5_1 : v3_1.toInt ≤ v17.toInt) => ?_) (fun (h5_1 : ¬ (v3_1.toInt ≤ v17.toInt)) => hat 8 rfl ?_)
      · exfalso; omega
      · skip
        refine h_iln c (hd 5 8 _ _ rfl) (by rfl) (hat 9 rfl ?_)
        refine h_gst c hG (wmT hG (wm804)) (hd 6 9 _ _ rfl) (hat 12 rfl ?_)
        refine h_iln c (hd 7 12 _ _ rfl) (by rfl) (hat 13 rfl ?_)
        refine h_pald c hG (k := 1) (hd 8 13 _ _ rfl) (by omega) (by decide) (fun v13_1 e13_1 => hat 14 rfl ?_)
        have e13_1 : v13_1.toInt = 27 := e13_1.trans (by decide +kernel)
        refine h_cmp c (hd 9 14 _ _ rfl) (tgt := 23) (by decide) (fun (h14_1 : a.toInt < v13_1.toInt) => ?_) (fun (h14_1 : ¬ (a.toInt < v13_1.toInt)) => hat 17 rfl ?_)
        · skip
          refine h_iln c (hd 12 23 _ _ rfl) (by rfl) (hat 24 rfl ?_)
          have hl_ := lenI_1 (v := a.toInt) (by omega) (by omega)
          exact h_iret c (hd 13 24 _ _ rfl) rfl ⟨a, _, rfl, rfl, by rw [hl_]; omega⟩
        · skip
          refine h_inc c (fun r_ => [(1, .int r_), (0, .int a)]) (hd 10 17 _ _ rfl) (by decide) (by decide) (by rfl) (by omega) (fun _ => by rfl) (fun v17_1 e17_1 => hat 20 rfl ?_)
          have e17_1 : v17_1.toInt = 2 := by omega
          refine h_goto c (hd 11 20 _ _ rfl) (tgt := 2) (by decide) ?_
          refine h_iln c (hd 2 2 _ _ rfl) (by rfl) (hat 3 rfl ?_)
          refine h_bp c (hd 3 3 _ _ rfl) (by decide) (fun v3_2 e3_2 => hat 5 rfl ?_)
          refine h_cmp c (hd 4 5 _ _ rfl) (tgt := 23) (by decide) (fun (h5_2 : v3_2.toInt ≤ v17_1.toInt) => ?_) (fun (h5_2 : ¬ (v3_2.toInt ≤ v17_1.toInt)) => hat 8 rfl ?_)
          · exfalso; omega
          · skip
            refine h_iln c (hd 5 8 _ _ rfl) (by rfl) (hat 9 rfl ?_)
            refine h_gst c hG (wmT hG (wm804)) (hd 6 9 _ _ rfl) (hat 12 rfl ?_)
            refine h_iln c (hd 7 12 _ _ rfl) (by rfl) (hat 13 rfl ?_)
            refine h_pald c hG (k := 2) (hd 8 13 _ _ rfl) (by omega) (by decide) (fun v13_2 e13_2 => hat 14 rfl ?_)
            have e13_2 : v13_2.toInt = 729 := e13_2.trans (by decide +kernel)
            refine h_cmp c (hd 9 14 _ _ rfl) (tgt := 23) (by decide) (fun (h14_2 : a.toInt < v13_2.toInt) => ?_) (fun (h14_2 : ¬ (a.toInt < v13_2.toInt)) => hat 17 rfl ?_)
            · skip
              refine h_iln c (hd 12 23 _ _ rfl) (by rfl) (hat 24 rfl ?_)
              have hl_ := lenI_2 (v := a.toInt) (by omega) (by omega)
              exact h_iret c (hd 13 24 _ _ rfl) rfl ⟨a, _, rfl, rfl, by rw [hl_]; omega⟩
            · skip
              refine h_inc c (fun r_ => [(1, .int r_), (0, .int a)]) (hd 10 17 _ _ rfl) (by decide) (by decide) (by rfl) (by omega) (fun _ => by rfl) (fun v17_2 e17_2 => hat 20 rfl ?_)
              have e17_2 : v17_2.toInt = 3 := by omega
              refine h_goto c (hd 11 20 _ _ rfl) (tgt := 2) (by decide) ?_
              refine h_iln c (hd 2 2 _ _ rfl) (by rfl) (hat 3 rfl ?_)
              refine h_bp c (hd 3 3 _ _ rfl) (by decide) (fun v3_3 e3_3 => hat 5 rfl ?_)
              refine h_cmp c (hd 4 5 _ _ rfl) (tgt := 23) (by decide) (fun (h5_3 : v3_3.toInt ≤ v17_2.toInt) => ?_) (fun (h5_3 : ¬ (v3_3.toInt ≤ v17_2.toInt)) => hat 8 rfl ?_)
              · exfalso; omega
              · skip
                refine h_iln c (hd 5 8 _ _ rfl) (by rfl) (hat 9 rfl ?_)
                refine h_gst c hG (wmT hG (wm804)) (hd 6 9 _ _ rfl) (hat 12 rfl ?_)
                refine h_iln c (hd 7 12 _ _ rfl) (by rfl) (hat 13 rfl ?_)
                refine h_pald c hG (k := 3) (hd 8 13 _ _ rfl) (by omega) (by decide) (fun v13_3 e13_3 => hat 14 rfl ?_)
                have e13_3 : v13_3.toInt = 19683 := e13_3.trans (by decide +kernel)
                refine h_cmp c (hd 9 14 _ _ rfl) (tgt := 23) (by decide) (fun (h14_3 : a.toInt < v13_3.toInt) => ?_) (fun (h14_3 : ¬ (a.toInt < v13_3.toInt)) => hat 17 rfl ?_)
                · skip
                  refine h_iln c (hd 12 23 _ _ rfl) (by rfl) (hat 24 rfl ?_)
                  have hl_ := lenI_3 (v := a.toInt) (by omega) (by omega)
                  exact h_iret c (hd 13 24 _ _ rfl) rfl ⟨a, _, rfl, rfl, by rw [hl_]; omega⟩
                · skip
                  refine h_inc c (fun r_ => [(1, .int r_), (0, .int a)]) (hd 10 17 _ _ rfl) (by decide) (by decide) (by rfl) (by omega) (fun _ => by rfl) (fun v17_3 e17_3 => hat 20 rfl ?_)
                  have e17_3 : v17_3.toInt = 4 := by omega
                  refine h_goto c (hd 11 20 _ _ rfl) (tgt := 2) (by decide) ?_
                  refine h_iln c (hd 2 2 _ _ rfl) (by rfl) (hat 3 rfl ?_)
                  refine h_bp c (hd 3 3 _ _ rfl) (by decide) (fun v3_4 e3_4 => hat 5 rfl ?_)
                  refine h_cmp c (hd 4 5 _ _ rfl) (tgt := 23) (by decide) (fun (h5_4 : v3_4.toInt ≤ v17_3.toInt) => ?_) (fun (h5_4 : ¬ (v3_4.toInt ≤ v17_3.toInt)) => hat 8 rfl ?_)
                  · exfalso; omega
                  · skip
                    refine h_iln c (hd 5 8 _ _ rfl) (by rfl) (hat 9 rfl ?_)
                    refine h_gst c hG (wmT hG (wm804)) (hd 6 9 _ _ rfl) (hat 12 rfl ?_)
                    refine h_iln c (hd 7 12 _ _ rfl) (by rfl) (hat 13 rfl ?_)
                    refine h_pald c hG (k := 4) (hd 8 13 _ _ rfl) (by omega) (by decide) (fun v13_4 e13_4 => hat 14 rfl ?_)
                    have e13_4 : v13_4.toInt = 531441 := e13_4.trans (by decide +kernel)
                    refine h_cmp c (hd 9 14 _ _ rfl) (tgt := 23) (by decide) (fun (h14_4 : a.toInt < v13_4.toInt) => ?_) (fun (h14_4 : ¬ (a.toInt < v13_4.toInt)) => hat 17 rfl ?_)
                    · skip
                      refine h_iln c (hd 12 23 _ _ rfl) (by rfl) (hat 24 rfl ?_)
                      have hl_ := lenI_4 (v := a.toInt) (by omega) (by omega)
                      exact h_iret c (hd 13 24 _ _ rfl) rfl ⟨a, _, rfl, rfl, by rw [hl_]; omega⟩
                    · skip
                      refine h_inc c (fun r_ => [(1, .int r_), (0, .int a)]) (hd 10 17 _ _ rfl) (by decide) (by decide) (by rfl) (by omega) (fun _ => by rfl) (fun v17_4 e17_4 => hat 20 rfl ?_)
                      have e17_4 : v17_4.toInt = 5 := by omega
                      refine h_goto c (hd 11 20 _ _ rfl) (tgt := 2) (by decide) ?_
                      refine h_iln c (hd 2 2 _ _ rfl) (by rfl) (hat 3 rfl ?_)
                      refine h_bp c (hd 3 3 _ _ rfl) (by decide) (fun v3_5 e3_5 => hat 5 rfl ?_)
                      refine h_cmp c (hd 4 5 _ _ rfl) (tgt := 23) (by decide) (fun (h5_5 : v3_5.toInt ≤ v17_4.toInt) => ?_) (fun (h5_5 : ¬ (v3_5.toInt ≤ v17_4.toInt)) => hat 8 rfl ?_)
                      · exfalso; omega
                      · skip
                        refine h_iln c (hd 5 8 _ _ rfl) (by rfl) (hat 9 rfl ?_)
                        refine h_gst c hG (wmT hG (wm804)) (hd 6 9 _ _ rfl) (hat 12 rfl ?_)
                        refine h_iln c (hd 7 12 _ _ rfl) (by rfl) (hat 13 rfl ?_)
                        refine h_pald c hG (k := 5) (hd 8 13 _ _ rfl) (by omega) (by decide) (fun v13_5 e13_5 => hat 14 rfl ?_)
                        have e13_5 : v13_5.toInt = 14348907 := e13_5.trans (by decide +kernel)
                        refine h_cmp c (hd 9 14 _ _ rfl) (tgt := 23) (by decide) (fun (h14_5 : a.toInt < v13_5.toInt) => ?_) (fun (h14_5 : ¬ (a.toInt < v13_5.toInt)) => hat 17 rfl ?_)
                        · skip
                          refine h_iln c (hd 12 23 _ _ rfl) (by rfl) (hat 24 rfl ?_)
                          have hl_ := lenI_5 (v := a.toInt) (by omega) (by omega)
                          exact h_iret c (hd 13 24 _ _ rfl) rfl ⟨a, _, rfl, rfl, by rw [hl_]; omega⟩
                        · skip
                          refine h_inc c (fun r_ => [(1, .int r_), (0, .int a)]) (hd 10 17 _ _ rfl) (by decide) (by decide) (by rfl) (by omega) (fun _ => by rfl) (fun v17_5 e17_5 => hat 20 rfl ?_)
                          have e17_5 : v17_5.toInt = 6 := by omega
                          refine h_goto c (hd 11 20 _ _ rfl) (tgt := 2) (by decide) ?_
                          refine h_iln c (hd 2 2 _ _ rfl) (by rfl) (hat 3 rfl ?_)
                          refine h_bp c (hd 3 3 _ _ rfl) (by decide) (fun v3_6 e3_6 => hat 5 rfl ?_)
                          refine h_cmp c (hd 4 5 _ _ rfl) (tgt := 23) (by decide) (fun (h5_6 : v3_6.toInt ≤ v17_5.toInt) => ?_) (fun (h5_6 : ¬ (v3_6.toInt ≤ v17_5.toInt)) => hat 8 rfl ?_)
                          · skip
                            refine h_iln c (hd 12 23 _ _ rfl) (by rfl) (hat 24 rfl ?_)
                            have hl_ := lenI_6 (v := a.toInt) (by omega)
                            exact h_iret c (hd 13 24 _ _ rfl) rfl ⟨a, _, rfl, rfl, by rw [hl_]; omega⟩
                          · exfalso; omega
def dM_can : rfM := ((⟨"NearSpell", "canBe", "(I)Z"⟩, prog_1_method_52_code, 3, (some .boolean)), (2,100), ([.inl (((-2147483648),2147483647,1),none)],[]), [], [])
def ddDX11_canBe : List (Nat × Instr × Nat) := [(0,.iload_n 0,1),(1,.ifCond .lt 13,3),(4,.iload_n 0,1),(5,.getstatic 360,3),(8,.bipush 6,2),(10,.iaload,1),(11,.if_icmp .lt 5,3),(14,.iconst 0,1),(15,.ireturn,1),(16,.iload_n 0,1),(17,.istore_n 1,1),(18,.iconst 0,1),(19,.istore_n 2,1),(20,.iload_n 2,1),(21,.bipush 6,2),(23,.if_icmp .ge 27,3),(26,.iload_n 1,1),(27,.ifCond .eq 23,3),(30,.iload_n 1,1),(31,.bipush 27,2),(33,.irem,1),(34,.ifCond .ne 5,3),(37,.iconst 0,1),(38,.ireturn,1),(39,.iload_n 1,1),(40,.bipush 27,2),(42,.idiv,1),(43,.istore_n 1,1),(44,.iinc 2 1,3),(47,.goto (-27),3),(50,.iconst 1,1),(51,.ireturn,1)]
set_option maxRecDepth 100000 in
theorem dkDX11_canBe : rf_decs prog_1_method_52_code ddDX11_canBe := dd_of (by decide +kernel)
set_option maxHeartbeats 4000000 in
set_option maxRecDepth 20000 in
theorem dp_can {G : rfG} (hG : okG G) : h_met G dM_can (fun _ _ => True) (fun vs _ _ rv => ∃ a x : Int32, vs = [.int a] ∧ rv = some (.int x) ∧ ((x.toInt = 1 ∧ cbI a.toInt) ∨ (x.toInt = 0 ∧ ¬ cbI a.toInt))) := by
  refine h_metOf hG.1 (by decide +kernel) (by decide) hG.2.2.1 (wflT hG flokX11) (wcsT hG csokX11) ?_
  intro vs w0 X hv_ hr hp c
  match vs, hv_ with
  | [_], ⟨⟨a, rfl, hi_a, _⟩, _⟩ =>
  have hd : ∀ n pc i len, ddDX11_canBe[n]? = some (pc, i, len) → decode (mb dM_can) pc = .ok (i, len) := fun n pc i len h => hdk dkDX11_canBe n pc i len h
  show hW G X dM_can w0 0 [(0, .int a)] [] (hv w0)
  generalize hF0 : hv w0 = F at *
  refine h_iln c (hd 0 0 _ _ rfl) (by rfl) (hat 1 rfl ?_)
  refine h_if c (hd 1 1 _ _ rfl) (tgt := 14) (by decide) (fun (h1 : a.toInt < 0) => ?_) (fun (h1 : ¬ (a.toInt < 0)) => hat 4 rfl ?_)
  · skip
    refine h_ic c (hd 7 14 _ _ rfl) (by decide) (fun v14 e14 => hat 15 rfl ?_)
    have hc_ : ¬ cbI a.toInt := by unfold cbI; omega
    exact h_zret c (hd 8 15 _ _ rfl) rfl (by omega) ⟨a, _, rfl, rfl, Or.inr ⟨by omega, hc_⟩⟩
  · skip
    refine h_iln c (hd 2 4 _ _ rfl) (by rfl) (hat 5 rfl ?_)
    refine h_gst c hG (wmT hG (wm804)) (hd 3 5 _ _ rfl) (hat 8 rfl ?_)
    refine h_bp c (hd 4 8 _ _ rfl) (by decide) (fun v8 e8 => hat 10 rfl ?_)
    refine h_pald c hG (k := 6) (hd 5 10 _ _ rfl) (by omega) (by decide) (fun v10 e10 => hat 11 rfl ?_)
    have e10 : v10.toInt = 387420489 := e10.trans (by decide +kernel)
    refine h_cmp c (hd 6 11 _ _ rfl) (tgt := 16) (by decide) (fun (h11 : a.toInt < v10.toInt) => ?_) (fun (h11 : ¬ (a.toInt < v10.toInt)) => hat 14 rfl ?_)
    · skip
      refine h_iln c (hd 9 16 _ _ rfl) (by rfl) (hat 17 rfl ?_)
      refine h_isn c (hd 10 17 _ _ rfl) (by decide) (L' := [(1, .int a), (0, .int a)]) (by rfl) (hat 18 rfl ?_)
      refine h_ic c (hd 11 18 _ _ rfl) (by decide) (fun v18 e18 => hat 19 rfl ?_)
      refine h_isn c (hd 12 19 _ _ rfl) (by decide) (L' := [(2, .int v18), (1, .int a), (0, .int a)]) (by rfl) (hat 20 rfl ?_)
      refine h_iln c (hd 13 20 _ _ rfl) (by rfl) (hat 21 rfl ?_)
      refine h_bp c (hd 14 21 _ _ rfl) (by decide) (fun v21 e21 => hat 23 rfl ?_)
      refine h_cmp c (hd 15 23 _ _ rfl) (tgt := 50) (by decide) (fun (h23 : v21.toInt ≤ v18.toInt) => ?_) (fun (h23 : ¬ (v21.toInt ≤ v18.toInt)) => hat 26 rfl ?_)
      · exfalso; omega
      · skip
        refine h_iln c (hd 16 26 _ _ rfl) (by rfl) (hat 27 rfl ?_)
        refine h_if c (hd 17 27 _ _ rfl) (tgt := 50) (by decide) (fun (h27 : a.toInt = 0) => ?_) (fun (h27 : ¬ (a.toInt = 0)) => hat 30 rfl ?_)
        · skip
          refine h_ic c (hd 30 50 _ _ rfl) (by decide) (fun v50 e50 => hat 51 rfl ?_)
          have hc_ : cbI a.toInt := by unfold cbI; omega
          exact h_zret c (hd 31 51 _ _ rfl) rfl (by omega) ⟨a, _, rfl, rfl, Or.inl ⟨by omega, hc_⟩⟩
        · skip
          refine h_iln c (hd 18 30 _ _ rfl) (by rfl) (hat 31 rfl ?_)
          refine h_bp c (hd 19 31 _ _ rfl) (by decide) (fun v31 e31 => hat 33 rfl ?_)
          refine h_rem c (hd 20 33 _ _ rfl) e31 (by decide) (by omega) (fun v33 e33 => hat 34 rfl ?_)
          refine h_if c (hd 21 34 _ _ rfl) (tgt := 39) (by decide) (fun (h34 : v33.toInt ≠ 0) => ?_) (fun (h34 : ¬ (v33.toInt ≠ 0)) => hat 37 rfl ?_)
          · skip
            refine h_iln c (hd 24 39 _ _ rfl) (by rfl) (hat 40 rfl ?_)
            refine h_bp c (hd 25 40 _ _ rfl) (by decide) (fun v40 e40 => hat 42 rfl ?_)
            refine h_div c (hd 26 42 _ _ rfl) e40 (by decide) (by omega) (fun v42 e42 => hat 43 rfl ?_)
            refine h_isn c (hd 27 43 _ _ rfl) (by decide) (L' := [(1, .int v42), (2, .int v18), (0, .int a)]) (by rfl) (hat 44 rfl ?_)
            refine h_inc c (fun r_ => [(2, .int r_), (1, .int v42), (0, .int a)]) (hd 28 44 _ _ rfl) (by decide) (by decide) (by rfl) (by omega) (fun _ => by rfl) (fun v44 e44 => hat 47 rfl ?_)
            have e44 : v44.toInt = 1 := by omega
            refine h_goto c (hd 29 47 _ _ rfl) (tgt := 20) (by decide) ?_
            refine h_iln c (hd 13 20 _ _ rfl) (by rfl) (hat 21 rfl ?_)
            refine h_bp c (hd 14 21 _ _ rfl) (by decide) (fun v21_1 e21_1 => hat 23 rfl ?_)
            refine h_cmp c (hd 15 23 _ _ rfl) (tgt := 50) (by decide) (fun (h23_1 : v21_1.toInt ≤ v44.toInt) => ?_) (fun (h23_1 : ¬ (v21_1.toInt ≤ v44.toInt)) => hat 26 rfl ?_)
            · exfalso; omega
            · skip
              refine h_iln c (hd 16 26 _ _ rfl) (by rfl) (hat 27 rfl ?_)
              refine h_if c (hd 17 27 _ _ rfl) (tgt := 50) (by decide) (fun (h27_1 : v42.toInt = 0) => ?_) (fun (h27_1 : ¬ (v42.toInt = 0)) => hat 30 rfl ?_)
              · skip
                refine h_ic c (hd 30 50 _ _ rfl) (by decide) (fun v50_1 e50_1 => hat 51 rfl ?_)
                have hc_ : cbI a.toInt := by unfold cbI; omega
                exact h_zret c (hd 31 51 _ _ rfl) rfl (by omega) ⟨a, _, rfl, rfl, Or.inl ⟨by omega, hc_⟩⟩
              · skip
                refine h_iln c (hd 18 30 _ _ rfl) (by rfl) (hat 31 rfl ?_)
                refine h_bp c (hd 19 31 _ _ rfl) (by decide) (fun v31_1 e31_1 => hat 33 rfl ?_)
                refine h_rem c (hd 20 33 _ _ rfl) e31_1 (by decide) (by omega) (fun v33_1 e33_1 => hat 34 rfl ?_)
                refine h_if c (hd 21 34 _ _ rfl) (tgt := 39) (by decide) (fun (h34_1 : v33_1.toInt ≠ 0) => ?_) (fun (h34_1 : ¬ (v33_1.toInt ≠ 0)) => hat 37 rfl ?_)
                · skip
                  refine h_iln c (hd 24 39 _ _ rfl) (by rfl) (hat 40 rfl ?_)
                  refine h_bp c (hd 25 40 _ _ rfl) (by decide) (fun v40_1 e40_1 => hat 42 rfl ?_)
                  refine h_div c (hd 26 42 _ _ rfl) e40_1 (by decide) (by omega) (fun v42_1 e42_1 => hat 43 rfl ?_)
                  refine h_isn c (hd 27 43 _ _ rfl) (by decide) (L' := [(1, .int v42_1), (2, .int v44), (0, .int a)]) (by rfl) (hat 44 rfl ?_)
                  refine h_inc c (fun r_ => [(2, .int r_), (1, .int v42_1), (0, .int a)]) (hd 28 44 _ _ rfl) (by decide) (by decide) (by rfl) (by omega) (fun _ => by rfl) (fun v44_1 e44_1 => hat 47 rfl ?_)
                  have e44_1 : v44_1.toInt = 2 := by omega
                  refine h_goto c (hd 29 47 _ _ rfl) (tgt := 20) (by decide) ?_
                  refine h_iln c (hd 13 20 _ _ rfl) (by rfl) (hat 21 rfl ?_)
                  refine h_bp c (hd 14 21 _ _ rfl) (by decide) (fun v21_2 e21_2 => hat 23 rfl ?_)
                  refine h_cmp c (hd 15 23 _ _ rfl) (tgt := 50) (by decide) (fun (h23_2 : v21_2.toInt ≤ v44_1.toInt) => ?_) (fun (h23_2 : ¬ (v21_2.toInt ≤ v44_1.toInt)) => hat 26 rfl ?_)
                  · exfalso; omega
                  · skip
                    refine h_iln c (hd 16 26 _ _ rfl) (by rfl) (hat 27 rfl ?_)
                    refine h_if c (hd 17 27 _ _ rfl) (tgt := 50) (by decide) (fun (h27_2 : v42_1.toInt = 0) => ?_) (fun (h27_2 : ¬ (v42_1.toInt = 0)) => hat 30 rfl ?_)
                    · skip
                      refine h_ic c (hd 30 50 _ _ rfl) (by decide) (fun v50_2 e50_2 => hat 51 rfl ?_)
                      have hc_ : cbI a.toInt := by unfold cbI; omega
                      exact h_zret c (hd 31 51 _ _ rfl) rfl (by omega) ⟨a, _, rfl, rfl, Or.inl ⟨by omega, hc_⟩⟩
                    · skip
                      refine h_iln c (hd 18 30 _ _ rfl) (by rfl) (hat 31 rfl ?_)
                      refine h_bp c (hd 19 31 _ _ rfl) (by decide) (fun v31_2 e31_2 => hat 33 rfl ?_)
                      refine h_rem c (hd 20 33 _ _ rfl) e31_2 (by decide) (by omega) (fun v33_2 e33_2 => hat 34 rfl ?_)
                      refine h_if c (hd 21 34 _ _ rfl) (tgt := 39) (by decide) (fun (h34_2 : v33_2.toInt ≠ 0) => ?_) (fun (h34_2 : ¬ (v33_2.toInt ≠ 0)) => hat 37 rfl ?_)
                      · skip
                        refine h_iln c (hd 24 39 _ _ rfl) (by rfl) (hat 40 rfl ?_)
                        refine h_bp c (hd 25 40 _ _ rfl) (by decide) (fun v40_2 e40_2 => hat 42 rfl ?_)
                        refine h_div c (hd 26 42 _ _ rfl) e40_2 (by decide) (by omega) (fun v42_2 e42_2 => hat 43 rfl ?_)
                        refine h_isn c (hd 27 43 _ _ rfl) (by decide) (L' := [(1, .int v42_2), (2, .int v44_1), (0, .int a)]) (by rfl) (hat 44 rfl ?_)
                        refine h_inc c (fun r_ => [(2, .int r_), (1, .int v42_2), (0, .int a)]) (hd 28 44 _ _ rfl) (by decide) (by decide) (by rfl) (by omega) (fun _ => by rfl) (fun v44_2 e44_2 => hat 47 rfl ?_)
                        have e44_2 : v44_2.toInt = 3 := by omega
                        refine h_goto c (hd 29 47 _ _ rfl) (tgt := 20) (by decide) ?_
                        refine h_iln c (hd 13 20 _ _ rfl) (by rfl) (hat 21 rfl ?_)
                        refine h_bp c (hd 14 21 _ _ rfl) (by decide) (fun v21_3 e21_3 => hat 23 rfl ?_)
                        refine h_cmp c (hd 15 23 _ _ rfl) (tgt := 50) (by decide) (fun (h23_3 : v21_3.toInt ≤ v44_2.toInt) => ?_) (fun (h23_3 : ¬ (v21_3.toInt ≤ v44_2.toInt)) => hat 26 rfl ?_)
                        · exfalso; omega
                        · skip
                          refine h_iln c (hd 16 26 _ _ rfl) (by rfl) (hat 27 rfl ?_)
                          refine h_if c (hd 17 27 _ _ rfl) (tgt := 50) (by decide) (fun (h27_3 : v42_2.toInt = 0) => ?_) (fun (h27_3 : ¬ (v42_2.toInt = 0)) => hat 30 rfl ?_)
                          · skip
                            refine h_ic c (hd 30 50 _ _ rfl) (by decide) (fun v50_3 e50_3 => hat 51 rfl ?_)
                            have hc_ : cbI a.toInt := by unfold cbI; omega
                            exact h_zret c (hd 31 51 _ _ rfl) rfl (by omega) ⟨a, _, rfl, rfl, Or.inl ⟨by omega, hc_⟩⟩
                          · skip
                            refine h_iln c (hd 18 30 _ _ rfl) (by rfl) (hat 31 rfl ?_)
                            refine h_bp c (hd 19 31 _ _ rfl) (by decide) (fun v31_3 e31_3 => hat 33 rfl ?_)
                            refine h_rem c (hd 20 33 _ _ rfl) e31_3 (by decide) (by omega) (fun v33_3 e33_3 => hat 34 rfl ?_)
                            refine h_if c (hd 21 34 _ _ rfl) (tgt := 39) (by decide) (fun (h34_3 : v33_3.toInt ≠ 0) => ?_) (fun (h34_3 : ¬ (v33_3.toInt ≠ 0)) => hat 37 rfl ?_)
                            · skip
                              refine h_iln c (hd 24 39 _ _ rfl) (by rfl) (hat 40 rfl ?_)
                              refine h_bp c (hd 25 40 _ _ rfl) (by decide) (fun v40_3 e40_3 => hat 42 rfl ?_)
                              refine h_div c (hd 26 42 _ _ rfl) e40_3 (by decide) (by omega) (fun v42_3 e42_3 => hat 43 rfl ?_)
                              refine h_isn c (hd 27 43 _ _ rfl) (by decide) (L' := [(1, .int v42_3), (2, .int v44_2), (0, .int a)]) (by rfl) (hat 44 rfl ?_)
                              refine h_inc c (fun r_ => [(2, .int r_), (1, .int v42_3), (0, .int a)]) (hd 28 44 _ _ rfl) (by decide) (by decide) (by rfl) (by omega) (fun _ => by rfl) (fun v44_3 e44_3 => hat 47 rfl ?_)
                              have e44_3 : v44_3.toInt = 4 := by omega
                              refine h_goto c (hd 29 47 _ _ rfl) (tgt := 20) (by decide) ?_
                              refine h_iln c (hd 13 20 _ _ rfl) (by rfl) (hat 21 rfl ?_)
                              refine h_bp c (hd 14 21 _ _ rfl) (by decide) (fun v21_4 e21_4 => hat 23 rfl ?_)
                              refine h_cmp c (hd 15 23 _ _ rfl) (tgt := 50) (by decide) (fun (h23_4 : v21_4.toInt ≤ v44_3.toInt) => ?_) (fun (h23_4 : ¬ (v21_4.toInt ≤ v44_3.toInt)) => hat 26 rfl ?_)
                              · exfalso; omega
                              · skip
                                refine h_iln c (hd 16 26 _ _ rfl) (by rfl) (hat 27 rfl ?_)
                                refine h_if c (hd 17 27 _ _ rfl) (tgt := 50) (by decide) (fun (h27_4 : v42_3.toInt = 0) => ?_) (fun (h27_4 : ¬ (v42_3.toInt = 0)) => hat 30 rfl ?_)
                                · skip
                                  refine h_ic c (hd 30 50 _ _ rfl) (by decide) (fun v50_4 e50_4 => hat 51 rfl ?_)
                                  have hc_ : cbI a.toInt := by unfold cbI; omega
                                  exact h_zret c (hd 31 51 _ _ rfl) rfl (by omega) ⟨a, _, rfl, rfl, Or.inl ⟨by omega, hc_⟩⟩
                                · skip
                                  refine h_iln c (hd 18 30 _ _ rfl) (by rfl) (hat 31 rfl ?_)
                                  refine h_bp c (hd 19 31 _ _ rfl) (by decide) (fun v31_4 e31_4 => hat 33 rfl ?_)
                                  refine h_rem c (hd 20 33 _ _ rfl) e31_4 (by decide) (by omega) (fun v33_4 e33_4 => hat 34 rfl ?_)
                                  refine h_if c (hd 21 34 _ _ rfl) (tgt := 39) (by decide) (fun (h34_4 : v33_4.toInt ≠ 0) => ?_) (fun (h34_4 : ¬ (v33_4.toInt ≠ 0)) => hat 37 rfl ?_)
                                  · skip
                                    refine h_iln c (hd 24 39 _ _ rfl) (by rfl) (hat 40 rfl ?_)
                                    refine h_bp c (hd 25 40 _ _ rfl) (by decide) (fun v40_4 e40_4 => hat 42 rfl ?_)
                                    refine h_div c (hd 26 42 _ _ rfl) e40_4 (by decide) (by omega) (fun v42_4 e42_4 => hat 43 rfl ?_)
                                    refine h_isn c (hd 27 43 _ _ rfl) (by decide) (L' := [(1, .int v42_4), (2, .int v44_3), (0, .int a)]) (by rfl) (hat 44 rfl ?_)
                                    refine h_inc c (fun r_ => [(2, .int r_), (1, .int v42_4), (0, .int a)]) (hd 28 44 _ _ rfl) (by decide) (by decide) (by rfl) (by omega) (fun _ => by rfl) (fun v44_4 e44_4 => hat 47 rfl ?_)
                                    have e44_4 : v44_4.toInt = 5 := by omega
                                    refine h_goto c (hd 29 47 _ _ rfl) (tgt := 20) (by decide) ?_
                                    refine h_iln c (hd 13 20 _ _ rfl) (by rfl) (hat 21 rfl ?_)
                                    refine h_bp c (hd 14 21 _ _ rfl) (by decide) (fun v21_5 e21_5 => hat 23 rfl ?_)
                                    refine h_cmp c (hd 15 23 _ _ rfl) (tgt := 50) (by decide) (fun (h23_5 : v21_5.toInt ≤ v44_4.toInt) => ?_) (fun (h23_5 : ¬ (v21_5.toInt ≤ v44_4.toInt)) => hat 26 rfl ?_)
                                    · exfalso; omega
                                    · skip
                                      refine h_iln c (hd 16 26 _ _ rfl) (by rfl) (hat 27 rfl ?_)
                                      refine h_if c (hd 17 27 _ _ rfl) (tgt := 50) (by decide) (fun (h27_5 : v42_4.toInt = 0) => ?_) (fun (h27_5 : ¬ (v42_4.toInt = 0)) => hat 30 rfl ?_)
                                      · skip
                                        refine h_ic c (hd 30 50 _ _ rfl) (by decide) (fun v50_5 e50_5 => hat 51 rfl ?_)
                                        have hc_ : cbI a.toInt := by unfold cbI; omega
                                        exact h_zret c (hd 31 51 _ _ rfl) rfl (by omega) ⟨a, _, rfl, rfl, Or.inl ⟨by omega, hc_⟩⟩
                                      · skip
                                        refine h_iln c (hd 18 30 _ _ rfl) (by rfl) (hat 31 rfl ?_)
                                        refine h_bp c (hd 19 31 _ _ rfl) (by decide) (fun v31_5 e31_5 => hat 33 rfl ?_)
                                        refine h_rem c (hd 20 33 _ _ rfl) e31_5 (by decide) (by omega) (fun v33_5 e33_5 => hat 34 rfl ?_)
                                        refine h_if c (hd 21 34 _ _ rfl) (tgt := 39) (by decide) (fun (h34_5 : v33_5.toInt ≠ 0) => ?_) (fun (h34_5 : ¬ (v33_5.toInt ≠ 0)) => hat 37 rfl ?_)
                                        · skip
                                          refine h_iln c (hd 24 39 _ _ rfl) (by rfl) (hat 40 rfl ?_)
                                          refine h_bp c (hd 25 40 _ _ rfl) (by decide) (fun v40_5 e40_5 => hat 42 rfl ?_)
                                          refine h_div c (hd 26 42 _ _ rfl) e40_5 (by decide) (by omega) (fun v42_5 e42_5 => hat 43 rfl ?_)
                                          refine h_isn c (hd 27 43 _ _ rfl) (by decide) (L' := [(1, .int v42_5), (2, .int v44_4), (0, .int a)]) (by rfl) (hat 44 rfl ?_)
                                          refine h_inc c (fun r_ => [(2, .int r_), (1, .int v42_5), (0, .int a)]) (hd 28 44 _ _ rfl) (by decide) (by decide) (by rfl) (by omega) (fun _ => by rfl) (fun v44_5 e44_5 => hat 47 rfl ?_)
                                          have e44_5 : v44_5.toInt = 6 := by omega
                                          refine h_goto c (hd 29 47 _ _ rfl) (tgt := 20) (by decide) ?_
                                          refine h_iln c (hd 13 20 _ _ rfl) (by rfl) (hat 21 rfl ?_)
                                          refine h_bp c (hd 14 21 _ _ rfl) (by decide) (fun v21_6 e21_6 => hat 23 rfl ?_)
                                          refine h_cmp c (hd 15 23 _ _ rfl) (tgt := 50) (by decide) (fun (h23_6 : v21_6.toInt ≤ v44_5.toInt) => ?_) (fun (h23_6 : ¬ (v21_6.toInt ≤ v44_5.toInt)) => hat 26 rfl ?_)
                                          · skip
                                            refine h_ic c (hd 30 50 _ _ rfl) (by decide) (fun v50_6 e50_6 => hat 51 rfl ?_)
                                            have hc_ : cbI a.toInt := by unfold cbI; omega
                                            exact h_zret c (hd 31 51 _ _ rfl) rfl (by omega) ⟨a, _, rfl, rfl, Or.inl ⟨by omega, hc_⟩⟩
                                          · exfalso; omega
                                        · skip
                                          refine h_ic c (hd 22 37 _ _ rfl) (by decide) (fun v37_5 e37_5 => hat 38 rfl ?_)
                                          have hc_ : ¬ cbI a.toInt := by unfold cbI; omega
                                          exact h_zret c (hd 23 38 _ _ rfl) rfl (by omega) ⟨a, _, rfl, rfl, Or.inr ⟨by omega, hc_⟩⟩
                                  · skip
                                    refine h_ic c (hd 22 37 _ _ rfl) (by decide) (fun v37_4 e37_4 => hat 38 rfl ?_)
                                    have hc_ : ¬ cbI a.toInt := by unfold cbI; omega
                                    exact h_zret c (hd 23 38 _ _ rfl) rfl (by omega) ⟨a, _, rfl, rfl, Or.inr ⟨by omega, hc_⟩⟩
                            · skip
                              refine h_ic c (hd 22 37 _ _ rfl) (by decide) (fun v37_3 e37_3 => hat 38 rfl ?_)
                              have hc_ : ¬ cbI a.toInt := by unfold cbI; omega
                              exact h_zret c (hd 23 38 _ _ rfl) rfl (by omega) ⟨a, _, rfl, rfl, Or.inr ⟨by omega, hc_⟩⟩
                      · skip
                        refine h_ic c (hd 22 37 _ _ rfl) (by decide) (fun v37_2 e37_2 => hat 38 rfl ?_)
                        have hc_ : ¬ cbI a.toInt := by unfold cbI; omega
                        exact h_zret c (hd 23 38 _ _ rfl) rfl (by omega) ⟨a, _, rfl, rfl, Or.inr ⟨by omega, hc_⟩⟩
                · skip
                  refine h_ic c (hd 22 37 _ _ rfl) (by decide) (fun v37_1 e37_1 => hat 38 rfl ?_)
                  have hc_ : ¬ cbI a.toInt := by unfold cbI; omega
                  exact h_zret c (hd 23 38 _ _ rfl) rfl (by omega) ⟨a, _, rfl, rfl, Or.inr ⟨by omega, hc_⟩⟩
          · skip
            refine h_ic c (hd 22 37 _ _ rfl) (by decide) (fun v37 e37 => hat 38 rfl ?_)
            have hc_ : ¬ cbI a.toInt := by unfold cbI; omega
            exact h_zret c (hd 23 38 _ _ rfl) rfl (by omega) ⟨a, _, rfl, rfl, Or.inr ⟨by omega, hc_⟩⟩
    · skip
      refine h_ic c (hd 7 14 _ _ rfl) (by decide) (fun v14 e14 => hat 15 rfl ?_)
      have hc_ : ¬ cbI a.toInt := by unfold cbI; omega
      exact h_zret c (hd 8 15 _ _ rfl) rfl (by omega) ⟨a, _, rfl, rfl, Or.inr ⟨by omega, hc_⟩⟩
def dM_put17 : rfM := ((⟨"NearSpell$Ruler", "putLetters", "(I[II)I"⟩, prog_9_method_8_code, 6, (some .int)), (4,200), ([.inl ((0,387420488,1),none), .inr (.inl [17]), .inl ((0,0,1),none)],[]), [(17,0)], [])
def ddDX7_putLetters : List (Nat × Instr × Nat) := [(0,.iload_n 2,1),(1,.iload_n 0,1),(2,.invokestatic 55,3),(5,.iadd,1),(6,.istore_n 3,1),(7,.iload_n 3,1),(8,.aload_n 1,1),(9,.arraylength,1),(10,.if_icmp .le 5,3),(13,.iload_n 2,1),(14,.ireturn,1),(15,.iload_n 0,1),(16,.istore 4,2),(18,.iload_n 3,1),(19,.iconst 1,1),(20,.isub,1),(21,.istore 5,2),(23,.iload 5,2),(25,.iload_n 2,1),(26,.if_icmp .lt 25,3),(29,.aload_n 1,1),(30,.iload 5,2),(32,.iload 4,2),(34,.bipush 27,2),(36,.irem,1),(37,.iastore,1),(38,.iload 4,2),(40,.bipush 27,2),(42,.idiv,1),(43,.istore 4,2),(45,.iinc 5 (-1),3),(48,.goto (-25),3),(51,.iload_n 3,1),(52,.ireturn,1)]
set_option maxRecDepth 100000 in
theorem dkDX7_putLetters : rf_decs prog_9_method_8_code ddDX7_putLetters := dd_of (by decide +kernel)
set_option maxHeartbeats 4000000 in
set_option maxRecDepth 20000 in
theorem dp_put17 {G : rfG} (hG : okG G) : h_met G dM_put17 (fun _ _ => True) (fun vs _ F' rv => ∃ a x : Int32, vs[0]? = some (.int a) ∧ rv = some (.int x) ∧ x.toInt = (lenI a.toInt : Int) ∧ ∀ k : Nat, k < lenI a.toInt → (F' 17 k).toInt = ltI a.toInt k) := by
  refine h_metOf hG.1 (by decide +kernel) (by decide) hG.2.2.1 (wflT hG flokX7) (wcsT hG csokX7) ?_
  intro vs w0 X hv_ hr hp c
  match vs, hv_ with
  | [_, _, _], ⟨⟨a, rfl, hi_a, _⟩, ⟨_, hj1, rfl⟩, ⟨b, rfl, hi_b, _⟩, _⟩ =>
  cases List.mem_singleton.mp hj1
  have hd : ∀ n pc i len, ddDX7_putLetters[n]? = some (pc, i, len) → decode (mb dM_put17) pc = .ok (i, len) := fun n pc i len h => hdk dkDX7_putLetters n pc i len h
  show hW G X dM_put17 w0 0 [(0, .int a), (1, .ref (G.2.1.1 17)), (2, .int b)] [] (hv w0)
  generalize hF0 : hv w0 = F at *
  have ha : 0 ≤ a.toInt ∧ a.toInt ≤ 387420488 := ⟨hi_a.1, hi_a.2.1⟩
  have hb : b.toInt = 0 := by have h1 : 0 ≤ b.toInt := hi_b.1; have h2 : b.toInt ≤ 0 := hi_b.2.1; omega
  have hl6 := lenI_le a.toInt
  refine h_iln c (hd 0 0 _ _ rfl) (by rfl) (hat 1 rfl ?_)
  refine h_iln c (hd 1 1 _ _ rfl) (by rfl) (hat 2 rfl ?_)
  refine h_callSF c (M' := dM_len) (dp_len hG) (by decide +kernel) (wlkS (lkX7_55 hG) _ rfl rfl) (hd 2 2 _ _ rfl) [.int a] (rest := [.int b]) (by rfl) ⟨⟨_, rfl, rf_in1 (by omega) (by omega), trivial⟩, trivial⟩ (Nat.le_of_ble_eq_true rfl) trivial (fun rv2 F2 fr2 rr2 pp2 sm_ => hat 5 rfl ?_)
  have e_ := (sm_ rfl).symm
  subst e_
  obtain ⟨a_, x2, ea_, er_, hx2⟩ := pp2
  cases ea_; subst er_
  refine h_add c (hd 3 5 _ _ rfl) (by omega) (fun v5 e5 => hat 6 rfl ?_)
  have hl_ : lenI a.toInt = 0 ∨ lenI a.toInt = 1 ∨ lenI a.toInt = 2 ∨ lenI a.toInt = 3 ∨ lenI a.toInt = 4 ∨ lenI a.toInt = 5 ∨ lenI a.toInt = 6 := by omega
  rcases hl_ with hl | hl | hl | hl | hl | hl | hl
  · have e5 : v5.toInt = 0 := by omega
    refine h_isn c (hd 4 6 _ _ rfl) (by decide) (L' := [(3, .int v5), (0, .int a), (1, .ref (G.2.1.1 17)), (2, .int b)]) (by rfl) (hat 7 rfl ?_)
    refine h_iln c (hd 5 7 _ _ rfl) (by rfl) (hat 8 rfl ?_)
    refine h_aln c (hd 6 8 _ _ rfl) (by rfl) (hat 9 rfl ?_)
    refine h_alen c (j := 17) (n := 12) (hd 7 9 _ _ rfl) (by rfl) (by decide) (fun v9 e9 => hat 10 rfl ?_)
    have e9 : v9.toInt = 12 := by omega
    refine h_cmp c (hd 8 10 _ _ rfl) (tgt := 15) (by decide) (fun (h10 : v5.toInt ≤ v9.toInt) => ?_) (fun (h10 : ¬ (v5.toInt ≤ v9.toInt)) => hat 13 rfl ?_)
    · skip
      refine h_iln c (hd 11 15 _ _ rfl) (by rfl) (hat 16 rfl ?_)
      refine h_is c (hd 12 16 _ _ rfl) (by decide) (L' := [(4, .int a), (3, .int v5), (0, .int a), (1, .ref (G.2.1.1 17)), (2, .int b)]) (by rfl) (hat 18 rfl ?_)
      refine h_iln c (hd 13 18 _ _ rfl) (by rfl) (hat 19 rfl ?_)
      refine h_ic c (hd 14 19 _ _ rfl) (by decide) (fun v19 e19 => hat 20 rfl ?_)
      refine h_sub c (hd 15 20 _ _ rfl) (by omega) (fun v20 e20 => hat 21 rfl ?_)
      have e20 : v20.toInt = (-1) := by omega
      refine h_is c (hd 16 21 _ _ rfl) (by decide) (L' := [(5, .int v20), (4, .int a), (3, .int v5), (0, .int a), (1, .ref (G.2.1.1 17)), (2, .int b)]) (by rfl) (hat 23 rfl ?_)
      refine h_il c (hd 17 23 _ _ rfl) (by rfl) (hat 25 rfl ?_)
      refine h_iln c (hd 18 25 _ _ rfl) (by rfl) (hat 26 rfl ?_)
      refine h_cmp c (hd 19 26 _ _ rfl) (tgt := 51) (by decide) (fun (h26 : v20.toInt < b.toInt) => ?_) (fun (h26 : ¬ (v20.toInt < b.toInt)) => hat 29 rfl ?_)
      · skip
        refine h_iln c (hd 32 51 _ _ rfl) (by rfl) (hat 52 rfl ?_)
        exact h_iret c (hd 33 52 _ _ rfl) rfl ⟨a, _, rfl, rfl, by omega, fun k hk => by
          omega⟩
      · exfalso; omega
    · exfalso; omega
  · have e5 : v5.toInt = 1 := by omega
    refine h_isn c (hd 4 6 _ _ rfl) (by decide) (L' := [(3, .int v5), (0, .int a), (1, .ref (G.2.1.1 17)), (2, .int b)]) (by rfl) (hat 7 rfl ?_)
    refine h_iln c (hd 5 7 _ _ rfl) (by rfl) (hat 8 rfl ?_)
    refine h_aln c (hd 6 8 _ _ rfl) (by rfl) (hat 9 rfl ?_)
    refine h_alen c (j := 17) (n := 12) (hd 7 9 _ _ rfl) (by rfl) (by decide) (fun v9 e9 => hat 10 rfl ?_)
    have e9 : v9.toInt = 12 := by omega
    refine h_cmp c (hd 8 10 _ _ rfl) (tgt := 15) (by decide) (fun (h10 : v5.toInt ≤ v9.toInt) => ?_) (fun (h10 : ¬ (v5.toInt ≤ v9.toInt)) => hat 13 rfl ?_)
    · skip
      refine h_iln c (hd 11 15 _ _ rfl) (by rfl) (hat 16 rfl ?_)
      refine h_is c (hd 12 16 _ _ rfl) (by decide) (L' := [(4, .int a), (3, .int v5), (0, .int a), (1, .ref (G.2.1.1 17)), (2, .int b)]) (by rfl) (hat 18 rfl ?_)
      refine h_iln c (hd 13 18 _ _ rfl) (by rfl) (hat 19 rfl ?_)
      refine h_ic c (hd 14 19 _ _ rfl) (by decide) (fun v19 e19 => hat 20 rfl ?_)
      refine h_sub c (hd 15 20 _ _ rfl) (by omega) (fun v20 e20 => hat 21 rfl ?_)
      have e20 : v20.toInt = 0 := by omega
      refine h_is c (hd 16 21 _ _ rfl) (by decide) (L' := [(5, .int v20), (4, .int a), (3, .int v5), (0, .int a), (1, .ref (G.2.1.1 17)), (2, .int b)]) (by rfl) (hat 23 rfl ?_)
      refine h_il c (hd 17 23 _ _ rfl) (by rfl) (hat 25 rfl ?_)
      refine h_iln c (hd 18 25 _ _ rfl) (by rfl) (hat 26 rfl ?_)
      refine h_cmp c (hd 19 26 _ _ rfl) (tgt := 51) (by decide) (fun (h26 : v20.toInt < b.toInt) => ?_) (fun (h26 : ¬ (v20.toInt < b.toInt)) => hat 29 rfl ?_)
      · exfalso; omega
      · skip
        refine h_aln c (hd 20 29 _ _ rfl) (by rfl) (hat 30 rfl ?_)
        refine h_il c (hd 21 30 _ _ rfl) (by rfl) (hat 32 rfl ?_)
        refine h_il c (hd 22 32 _ _ rfl) (by rfl) (hat 34 rfl ?_)
        refine h_bp c (hd 23 34 _ _ rfl) (by decide) (fun v34 e34 => hat 36 rfl ?_)
        refine h_rem c (hd 24 36 _ _ rfl) e34 (by decide) (by omega) (fun v36 e36 => hat 37 rfl ?_)
        refine h_iast c (hd 25 37 _ _ rfl) dla_17 ⟨by omega, by omega⟩ (congrArg Int.toNat e20) (by decide) (by decide) (rf_in_top _) (hat 38 rfl ?_)
        refine h_il c (hd 26 38 _ _ rfl) (by rfl) (hat 40 rfl ?_)
        refine h_bp c (hd 27 40 _ _ rfl) (by decide) (fun v40 e40 => hat 42 rfl ?_)
        refine h_div c (hd 28 42 _ _ rfl) e40 (by decide) (by omega) (fun v42 e42 => hat 43 rfl ?_)
        refine h_is c (hd 29 43 _ _ rfl) (by decide) (L' := [(4, .int v42), (5, .int v20), (3, .int v5), (0, .int a), (1, .ref (G.2.1.1 17)), (2, .int b)]) (by rfl) (hat 45 rfl ?_)
        refine h_inc c (fun r_ => [(5, .int r_), (4, .int v42), (3, .int v5), (0, .int a), (1, .ref (G.2.1.1 17)), (2, .int b)]) (hd 30 45 _ _ rfl) (by decide) (by decide) (by rfl) (by omega) (fun _ => by rfl) (fun v45 e45 => hat 48 rfl ?_)
        have e45 : v45.toInt = (-1) := by omega
        refine h_goto c (hd 31 48 _ _ rfl) (tgt := 23) (by decide) ?_
        refine h_il c (hd 17 23 _ _ rfl) (by rfl) (hat 25 rfl ?_)
        refine h_iln c (hd 18 25 _ _ rfl) (by rfl) (hat 26 rfl ?_)
        refine h_cmp c (hd 19 26 _ _ rfl) (tgt := 51) (by decide) (fun (h26_1 : v45.toInt < b.toInt) => ?_) (fun (h26_1 : ¬ (v45.toInt < b.toInt)) => hat 29 rfl ?_)
        · skip
          refine h_iln c (hd 32 51 _ _ rfl) (by rfl) (hat 52 rfl ?_)
          exact h_iret c (hd 33 52 _ _ rfl) rfl ⟨a, _, rfl, rfl, by omega, fun k hk => by
            rw [hl] at hk
            have hk_ : k = 0 := by omega
            have e_ := hk_
            · subst e_; unfold ltI; rw [hl]; show v36.toInt = a.toInt % 27; omega⟩
        · exfalso; omega
    · exfalso; omega
  · have e5 : v5.toInt = 2 := by omega
    refine h_isn c (hd 4 6 _ _ rfl) (by decide) (L' := [(3, .int v5), (0, .int a), (1, .ref (G.2.1.1 17)), (2, .int b)]) (by rfl) (hat 7 rfl ?_)
    refine h_iln c (hd 5 7 _ _ rfl) (by rfl) (hat 8 rfl ?_)
    refine h_aln c (hd 6 8 _ _ rfl) (by rfl) (hat 9 rfl ?_)
    refine h_alen c (j := 17) (n := 12) (hd 7 9 _ _ rfl) (by rfl) (by decide) (fun v9 e9 => hat 10 rfl ?_)
    have e9 : v9.toInt = 12 := by omega
    refine h_cmp c (hd 8 10 _ _ rfl) (tgt := 15) (by decide) (fun (h10 : v5.toInt ≤ v9.toInt) => ?_) (fun (h10 : ¬ (v5.toInt ≤ v9.toInt)) => hat 13 rfl ?_)
    · skip
      refine h_iln c (hd 11 15 _ _ rfl) (by rfl) (hat 16 rfl ?_)
      refine h_is c (hd 12 16 _ _ rfl) (by decide) (L' := [(4, .int a), (3, .int v5), (0, .int a), (1, .ref (G.2.1.1 17)), (2, .int b)]) (by rfl) (hat 18 rfl ?_)
      refine h_iln c (hd 13 18 _ _ rfl) (by rfl) (hat 19 rfl ?_)
      refine h_ic c (hd 14 19 _ _ rfl) (by decide) (fun v19 e19 => hat 20 rfl ?_)
      refine h_sub c (hd 15 20 _ _ rfl) (by omega) (fun v20 e20 => hat 21 rfl ?_)
      have e20 : v20.toInt = 1 := by omega
      refine h_is c (hd 16 21 _ _ rfl) (by decide) (L' := [(5, .int v20), (4, .int a), (3, .int v5), (0, .int a), (1, .ref (G.2.1.1 17)), (2, .int b)]) (by rfl) (hat 23 rfl ?_)
      refine h_il c (hd 17 23 _ _ rfl) (by rfl) (hat 25 rfl ?_)
      refine h_iln c (hd 18 25 _ _ rfl) (by rfl) (hat 26 rfl ?_)
      refine h_cmp c (hd 19 26 _ _ rfl) (tgt := 51) (by decide) (fun (h26 : v20.toInt < b.toInt) => ?_) (fun (h26 : ¬ (v20.toInt < b.toInt)) => hat 29 rfl ?_)
      · exfalso; omega
      · skip
        refine h_aln c (hd 20 29 _ _ rfl) (by rfl) (hat 30 rfl ?_)
        refine h_il c (hd 21 30 _ _ rfl) (by rfl) (hat 32 rfl ?_)
        refine h_il c (hd 22 32 _ _ rfl) (by rfl) (hat 34 rfl ?_)
        refine h_bp c (hd 23 34 _ _ rfl) (by decide) (fun v34 e34 => hat 36 rfl ?_)
        refine h_rem c (hd 24 36 _ _ rfl) e34 (by decide) (by omega) (fun v36 e36 => hat 37 rfl ?_)
        refine h_iast c (hd 25 37 _ _ rfl) dla_17 ⟨by omega, by omega⟩ (congrArg Int.toNat e20) (by decide) (by decide) (rf_in_top _) (hat 38 rfl ?_)
        refine h_il c (hd 26 38 _ _ rfl) (by rfl) (hat 40 rfl ?_)
        refine h_bp c (hd 27 40 _ _ rfl) (by decide) (fun v40 e40 => hat 42 rfl ?_)
        refine h_div c (hd 28 42 _ _ rfl) e40 (by decide) (by omega) (fun v42 e42 => hat 43 rfl ?_)
        refine h_is c (hd 29 43 _ _ rfl) (by decide) (L' := [(4, .int v42), (5, .int v20), (3, .int v5), (0, .int a), (1, .ref (G.2.1.1 17)), (2, .int b)]) (by rfl) (hat 45 rfl ?_)
        refine h_inc c (fun r_ => [(5, .int r_), (4, .int v42), (3, .int v5), (0, .int a), (1, .ref (G.2.1.1 17)), (2, .int b)]) (hd 30 45 _ _ rfl) (by decide) (by decide) (by rfl) (by omega) (fun _ => by rfl) (fun v45 e45 => hat 48 rfl ?_)
        have e45 : v45.toInt = 0 := by omega
        refine h_goto c (hd 31 48 _ _ rfl) (tgt := 23) (by decide) ?_
        refine h_il c (hd 17 23 _ _ rfl) (by rfl) (hat 25 rfl ?_)
        refine h_iln c (hd 18 25 _ _ rfl) (by rfl) (hat 26 rfl ?_)
        refine h_cmp c (hd 19 26 _ _ rfl) (tgt := 51) (by decide) (fun (h26_1 : v45.toInt < b.toInt) => ?_) (fun (h26_1 : ¬ (v45.toInt < b.toInt)) => hat 29 rfl ?_)
        · exfalso; omega
        · skip
          refine h_aln c (hd 20 29 _ _ rfl) (by rfl) (hat 30 rfl ?_)
          refine h_il c (hd 21 30 _ _ rfl) (by rfl) (hat 32 rfl ?_)
          refine h_il c (hd 22 32 _ _ rfl) (by rfl) (hat 34 rfl ?_)
          refine h_bp c (hd 23 34 _ _ rfl) (by decide) (fun v34_1 e34_1 => hat 36 rfl ?_)
          refine h_rem c (hd 24 36 _ _ rfl) e34_1 (by decide) (by omega) (fun v36_1 e36_1 => hat 37 rfl ?_)
          refine h_iast c (hd 25 37 _ _ rfl) dla_17 ⟨by omega, by omega⟩ (congrArg Int.toNat e45) (by decide) (by decide) (rf_in_top _) (hat 38 rfl ?_)
          refine h_il c (hd 26 38 _ _ rfl) (by rfl) (hat 40 rfl ?_)
          refine h_bp c (hd 27 40 _ _ rfl) (by decide) (fun v40_1 e40_1 => hat 42 rfl ?_)
          refine h_div c (hd 28 42 _ _ rfl) e40_1 (by decide) (by omega) (fun v42_1 e42_1 => hat 43 rfl ?_)
          refine h_is c (hd 29 43 _ _ rfl) (by decide) (L' := [(4, .int v42_1), (5, .int v45), (3, .int v5), (0, .int a), (1, .ref (G.2.1.1 17)), (2, .int b)]) (by rfl) (hat 45 rfl ?_)
          refine h_inc c (fun r_ => [(5, .int r_), (4, .int v42_1), (3, .int v5), (0, .int a), (1, .ref (G.2.1.1 17)), (2, .int b)]) (hd 30 45 _ _ rfl) (by decide) (by decide) (by rfl) (by omega) (fun _ => by rfl) (fun v45_1 e45_1 => hat 48 rfl ?_)
          have e45_1 : v45_1.toInt = (-1) := by omega
          refine h_goto c (hd 31 48 _ _ rfl) (tgt := 23) (by decide) ?_
          refine h_il c (hd 17 23 _ _ rfl) (by rfl) (hat 25 rfl ?_)
          refine h_iln c (hd 18 25 _ _ rfl) (by rfl) (hat 26 rfl ?_)
          refine h_cmp c (hd 19 26 _ _ rfl) (tgt := 51) (by decide) (fun (h26_2 : v45_1.toInt < b.toInt) => ?_) (fun (h26_2 : ¬ (v45_1.toInt < b.toInt)) => hat 29 rfl ?_)
          · skip
            refine h_iln c (hd 32 51 _ _ rfl) (by rfl) (hat 52 rfl ?_)
            exact h_iret c (hd 33 52 _ _ rfl) rfl ⟨a, _, rfl, rfl, by omega, fun k hk => by
              rw [hl] at hk
              have hk_ : k = 0 ∨ k = 1 := by omega
              rcases hk_ with e_ | e_
              · subst e_; unfold ltI; rw [hl]; show v36_1.toInt = a.toInt / 27 % 27; omega
              · subst e_; unfold ltI; rw [hl]; show v36.toInt = a.toInt % 27; omega⟩
          · exfalso; omega
    · exfalso; omega
  · have e5 : v5.toInt = 3 := by omega
    refine h_isn c (hd 4 6 _ _ rfl) (by decide) (L' := [(3, .int v5), (0, .int a), (1, .ref (G.2.1.1 17)), (2, .int b)]) (by rfl) (hat 7 rfl ?_)
    refine h_iln c (hd 5 7 _ _ rfl) (by rfl) (hat 8 rfl ?_)
    refine h_aln c (hd 6 8 _ _ rfl) (by rfl) (hat 9 rfl ?_)
    refine h_alen c (j := 17) (n := 12) (hd 7 9 _ _ rfl) (by rfl) (by decide) (fun v9 e9 => hat 10 rfl ?_)
    have e9 : v9.toInt = 12 := by omega
    refine h_cmp c (hd 8 10 _ _ rfl) (tgt := 15) (by decide) (fun (h10 : v5.toInt ≤ v9.toInt) => ?_) (fun (h10 : ¬ (v5.toInt ≤ v9.toInt)) => hat 13 rfl ?_)
    · skip
      refine h_iln c (hd 11 15 _ _ rfl) (by rfl) (hat 16 rfl ?_)
      refine h_is c (hd 12 16 _ _ rfl) (by decide) (L' := [(4, .int a), (3, .int v5), (0, .int a), (1, .ref (G.2.1.1 17)), (2, .int b)]) (by rfl) (hat 18 rfl ?_)
      refine h_iln c (hd 13 18 _ _ rfl) (by rfl) (hat 19 rfl ?_)
      refine h_ic c (hd 14 19 _ _ rfl) (by decide) (fun v19 e19 => hat 20 rfl ?_)
      refine h_sub c (hd 15 20 _ _ rfl) (by omega) (fun v20 e20 => hat 21 rfl ?_)
      have e20 : v20.toInt = 2 := by omega
      refine h_is c (hd 16 21 _ _ rfl) (by decide) (L' := [(5, .int v20), (4, .int a), (3, .int v5), (0, .int a), (1, .ref (G.2.1.1 17)), (2, .int b)]) (by rfl) (hat 23 rfl ?_)
      refine h_il c (hd 17 23 _ _ rfl) (by rfl) (hat 25 rfl ?_)
      refine h_iln c (hd 18 25 _ _ rfl) (by rfl) (hat 26 rfl ?_)
      refine h_cmp c (hd 19 26 _ _ rfl) (tgt := 51) (by decide) (fun (h26 : v20.toInt < b.toInt) => ?_) (fun (h26 : ¬ (v20.toInt < b.toInt)) => hat 29 rfl ?_)
      · exfalso; omega
      · skip
        refine h_aln c (hd 20 29 _ _ rfl) (by rfl) (hat 30 rfl ?_)
        refine h_il c (hd 21 30 _ _ rfl) (by rfl) (hat 32 rfl ?_)
        refine h_il c (hd 22 32 _ _ rfl) (by rfl) (hat 34 rfl ?_)
        refine h_bp c (hd 23 34 _ _ rfl) (by decide) (fun v34 e34 => hat 36 rfl ?_)
        refine h_rem c (hd 24 36 _ _ rfl) e34 (by decide) (by omega) (fun v36 e36 => hat 37 rfl ?_)
        refine h_iast c (hd 25 37 _ _ rfl) dla_17 ⟨by omega, by omega⟩ (congrArg Int.toNat e20) (by decide) (by decide) (rf_in_top _) (hat 38 rfl ?_)
        refine h_il c (hd 26 38 _ _ rfl) (by rfl) (hat 40 rfl ?_)
        refine h_bp c (hd 27 40 _ _ rfl) (by decide) (fun v40 e40 => hat 42 rfl ?_)
        refine h_div c (hd 28 42 _ _ rfl) e40 (by decide) (by omega) (fun v42 e42 => hat 43 rfl ?_)
        refine h_is c (hd 29 43 _ _ rfl) (by decide) (L' := [(4, .int v42), (5, .int v20), (3, .int v5), (0, .int a), (1, .ref (G.2.1.1 17)), (2, .int b)]) (by rfl) (hat 45 rfl ?_)
        refine h_inc c (fun r_ => [(5, .int r_), (4, .int v42), (3, .int v5), (0, .int a), (1, .ref (G.2.1.1 17)), (2, .int b)]) (hd 30 45 _ _ rfl) (by decide) (by decide) (by rfl) (by omega) (fun _ => by rfl) (fun v45 e45 => hat 48 rfl ?_)
        have e45 : v45.toInt = 1 := by omega
        refine h_goto c (hd 31 48 _ _ rfl) (tgt := 23) (by decide) ?_
        refine h_il c (hd 17 23 _ _ rfl) (by rfl) (hat 25 rfl ?_)
        refine h_iln c (hd 18 25 _ _ rfl) (by rfl) (hat 26 rfl ?_)
        refine h_cmp c (hd 19 26 _ _ rfl) (tgt := 51) (by decide) (fun (h26_1 : v45.toInt < b.toInt) => ?_) (fun (h26_1 : ¬ (v45.toInt < b.toInt)) => hat 29 rfl ?_)
        · exfalso; omega
        · skip
          refine h_aln c (hd 20 29 _ _ rfl) (by rfl) (hat 30 rfl ?_)
          refine h_il c (hd 21 30 _ _ rfl) (by rfl) (hat 32 rfl ?_)
          refine h_il c (hd 22 32 _ _ rfl) (by rfl) (hat 34 rfl ?_)
          refine h_bp c (hd 23 34 _ _ rfl) (by decide) (fun v34_1 e34_1 => hat 36 rfl ?_)
          refine h_rem c (hd 24 36 _ _ rfl) e34_1 (by decide) (by omega) (fun v36_1 e36_1 => hat 37 rfl ?_)
          refine h_iast c (hd 25 37 _ _ rfl) dla_17 ⟨by omega, by omega⟩ (congrArg Int.toNat e45) (by decide) (by decide) (rf_in_top _) (hat 38 rfl ?_)
          refine h_il c (hd 26 38 _ _ rfl) (by rfl) (hat 40 rfl ?_)
          refine h_bp c (hd 27 40 _ _ rfl) (by decide) (fun v40_1 e40_1 => hat 42 rfl ?_)
          refine h_div c (hd 28 42 _ _ rfl) e40_1 (by decide) (by omega) (fun v42_1 e42_1 => hat 43 rfl ?_)
          refine h_is c (hd 29 43 _ _ rfl) (by decide) (L' := [(4, .int v42_1), (5, .int v45), (3, .int v5), (0, .int a), (1, .ref (G.2.1.1 17)), (2, .int b)]) (by rfl) (hat 45 rfl ?_)
          refine h_inc c (fun r_ => [(5, .int r_), (4, .int v42_1), (3, .int v5), (0, .int a), (1, .ref (G.2.1.1 17)), (2, .int b)]) (hd 30 45 _ _ rfl) (by decide) (by decide) (by rfl) (by omega) (fun _ => by rfl) (fun v45_1 e45_1 => hat 48 rfl ?_)
          have e45_1 : v45_1.toInt = 0 := by omega
          refine h_goto c (hd 31 48 _ _ rfl) (tgt := 23) (by decide) ?_
          refine h_il c (hd 17 23 _ _ rfl) (by rfl) (hat 25 rfl ?_)
          refine h_iln c (hd 18 25 _ _ rfl) (by rfl) (hat 26 rfl ?_)
          refine h_cmp c (hd 19 26 _ _ rfl) (tgt := 51) (by decide) (fun (h26_2 : v45_1.toInt < b.toInt) => ?_) (fun (h26_2 : ¬ (v45_1.toInt < b.toInt)) => hat 29 rfl ?_)
          · exfalso; omega
          · skip
            refine h_aln c (hd 20 29 _ _ rfl) (by rfl) (hat 30 rfl ?_)
            refine h_il c (hd 21 30 _ _ rfl) (by rfl) (hat 32 rfl ?_)
            refine h_il c (hd 22 32 _ _ rfl) (by rfl) (hat 34 rfl ?_)
            refine h_bp c (hd 23 34 _ _ rfl) (by decide) (fun v34_2 e34_2 => hat 36 rfl ?_)
            refine h_rem c (hd 24 36 _ _ rfl) e34_2 (by decide) (by omega) (fun v36_2 e36_2 => hat 37 rfl ?_)
            refine h_iast c (hd 25 37 _ _ rfl) dla_17 ⟨by omega, by omega⟩ (congrArg Int.toNat e45_1) (by decide) (by decide) (rf_in_top _) (hat 38 rfl ?_)
            refine h_il c (hd 26 38 _ _ rfl) (by rfl) (hat 40 rfl ?_)
            refine h_bp c (hd 27 40 _ _ rfl) (by decide) (fun v40_2 e40_2 => hat 42 rfl ?_)
            refine h_div c (hd 28 42 _ _ rfl) e40_2 (by decide) (by omega) (fun v42_2 e42_2 => hat 43 rfl ?_)
            refine h_is c (hd 29 43 _ _ rfl) (by decide) (L' := [(4, .int v42_2), (5, .int v45_1), (3, .int v5), (0, .int a), (1, .ref (G.2.1.1 17)), (2, .int b)]) (by rfl) (hat 45 rfl ?_)
            refine h_inc c (fun r_ => [(5, .int r_), (4, .int v42_2), (3, .int v5), (0, .int a), (1, .ref (G.2.1.1 17)), (2, .int b)]) (hd 30 45 _ _ rfl) (by decide) (by decide) (by rfl) (by omega) (fun _ => by rfl) (fun v45_2 e45_2 => hat 48 rfl ?_)
            have e45_2 : v45_2.toInt = (-1) := by omega
            refine h_goto c (hd 31 48 _ _ rfl) (tgt := 23) (by decide) ?_
            refine h_il c (hd 17 23 _ _ rfl) (by rfl) (hat 25 rfl ?_)
            refine h_iln c (hd 18 25 _ _ rfl) (by rfl) (hat 26 rfl ?_)
            refine h_cmp c (hd 19 26 _ _ rfl) (tgt := 51) (by decide) (fun (h26_3 : v45_2.toInt < b.toInt) => ?_) (fun (h26_3 : ¬ (v45_2.toInt < b.toInt)) => hat 29 rfl ?_)
            · skip
              refine h_iln c (hd 32 51 _ _ rfl) (by rfl) (hat 52 rfl ?_)
              exact h_iret c (hd 33 52 _ _ rfl) rfl ⟨a, _, rfl, rfl, by omega, fun k hk => by
                rw [hl] at hk
                have hk_ : k = 0 ∨ k = 1 ∨ k = 2 := by omega
                rcases hk_ with e_ | e_ | e_
                · subst e_; unfold ltI; rw [hl]; show v36_2.toInt = a.toInt / 27 / 27 % 27; omega
                · subst e_; unfold ltI; rw [hl]; show v36_1.toInt = a.toInt / 27 % 27; omega
                · subst e_; unfold ltI; rw [hl]; show v36.toInt = a.toInt % 27; omega⟩
            · exfalso; omega
    · exfalso; omega
  · have e5 : v5.toInt = 4 := by omega
    refine h_isn c (hd 4 6 _ _ rfl) (by decide) (L' := [(3, .int v5), (0, .int a), (1, .ref (G.2.1.1 17)), (2, .int b)]) (by rfl) (hat 7 rfl ?_)
    refine h_iln c (hd 5 7 _ _ rfl) (by rfl) (hat 8 rfl ?_)
    refine h_aln c (hd 6 8 _ _ rfl) (by rfl) (hat 9 rfl ?_)
    refine h_alen c (j := 17) (n := 12) (hd 7 9 _ _ rfl) (by rfl) (by decide) (fun v9 e9 => hat 10 rfl ?_)
    have e9 : v9.toInt = 12 := by omega
    refine h_cmp c (hd 8 10 _ _ rfl) (tgt := 15) (by decide) (fun (h10 : v5.toInt ≤ v9.toInt) => ?_) (fun (h10 : ¬ (v5.toInt ≤ v9.toInt)) => hat 13 rfl ?_)
    · skip
      refine h_iln c (hd 11 15 _ _ rfl) (by rfl) (hat 16 rfl ?_)
      refine h_is c (hd 12 16 _ _ rfl) (by decide) (L' := [(4, .int a), (3, .int v5), (0, .int a), (1, .ref (G.2.1.1 17)), (2, .int b)]) (by rfl) (hat 18 rfl ?_)
      refine h_iln c (hd 13 18 _ _ rfl) (by rfl) (hat 19 rfl ?_)
      refine h_ic c (hd 14 19 _ _ rfl) (by decide) (fun v19 e19 => hat 20 rfl ?_)
      refine h_sub c (hd 15 20 _ _ rfl) (by omega) (fun v20 e20 => hat 21 rfl ?_)
      have e20 : v20.toInt = 3 := by omega
      refine h_is c (hd 16 21 _ _ rfl) (by decide) (L' := [(5, .int v20), (4, .int a), (3, .int v5), (0, .int a), (1, .ref (G.2.1.1 17)), (2, .int b)]) (by rfl) (hat 23 rfl ?_)
      refine h_il c (hd 17 23 _ _ rfl) (by rfl) (hat 25 rfl ?_)
      refine h_iln c (hd 18 25 _ _ rfl) (by rfl) (hat 26 rfl ?_)
      refine h_cmp c (hd 19 26 _ _ rfl) (tgt := 51) (by decide) (fun (h26 : v20.toInt < b.toInt) => ?_) (fun (h26 : ¬ (v20.toInt < b.toInt)) => hat 29 rfl ?_)
      · exfalso; omega
      · skip
        refine h_aln c (hd 20 29 _ _ rfl) (by rfl) (hat 30 rfl ?_)
        refine h_il c (hd 21 30 _ _ rfl) (by rfl) (hat 32 rfl ?_)
        refine h_il c (hd 22 32 _ _ rfl) (by rfl) (hat 34 rfl ?_)
        refine h_bp c (hd 23 34 _ _ rfl) (by decide) (fun v34 e34 => hat 36 rfl ?_)
        refine h_rem c (hd 24 36 _ _ rfl) e34 (by decide) (by omega) (fun v36 e36 => hat 37 rfl ?_)
        refine h_iast c (hd 25 37 _ _ rfl) dla_17 ⟨by omega, by omega⟩ (congrArg Int.toNat e20) (by decide) (by decide) (rf_in_top _) (hat 38 rfl ?_)
        refine h_il c (hd 26 38 _ _ rfl) (by rfl) (hat 40 rfl ?_)
        refine h_bp c (hd 27 40 _ _ rfl) (by decide) (fun v40 e40 => hat 42 rfl ?_)
        refine h_div c (hd 28 42 _ _ rfl) e40 (by decide) (by omega) (fun v42 e42 => hat 43 rfl ?_)
        refine h_is c (hd 29 43 _ _ rfl) (by decide) (L' := [(4, .int v42), (5, .int v20), (3, .int v5), (0, .int a), (1, .ref (G.2.1.1 17)), (2, .int b)]) (by rfl) (hat 45 rfl ?_)
        refine h_inc c (fun r_ => [(5, .int r_), (4, .int v42), (3, .int v5), (0, .int a), (1, .ref (G.2.1.1 17)), (2, .int b)]) (hd 30 45 _ _ rfl) (by decide) (by decide) (by rfl) (by omega) (fun _ => by rfl) (fun v45 e45 => hat 48 rfl ?_)
        have e45 : v45.toInt = 2 := by omega
        refine h_goto c (hd 31 48 _ _ rfl) (tgt := 23) (by decide) ?_
        refine h_il c (hd 17 23 _ _ rfl) (by rfl) (hat 25 rfl ?_)
        refine h_iln c (hd 18 25 _ _ rfl) (by rfl) (hat 26 rfl ?_)
        refine h_cmp c (hd 19 26 _ _ rfl) (tgt := 51) (by decide) (fun (h26_1 : v45.toInt < b.toInt) => ?_) (fun (h26_1 : ¬ (v45.toInt < b.toInt)) => hat 29 rfl ?_)
        · exfalso; omega
        · skip
          refine h_aln c (hd 20 29 _ _ rfl) (by rfl) (hat 30 rfl ?_)
          refine h_il c (hd 21 30 _ _ rfl) (by rfl) (hat 32 rfl ?_)
          refine h_il c (hd 22 32 _ _ rfl) (by rfl) (hat 34 rfl ?_)
          refine h_bp c (hd 23 34 _ _ rfl) (by decide) (fun v34_1 e34_1 => hat 36 rfl ?_)
          refine h_rem c (hd 24 36 _ _ rfl) e34_1 (by decide) (by omega) (fun v36_1 e36_1 => hat 37 rfl ?_)
          refine h_iast c (hd 25 37 _ _ rfl) dla_17 ⟨by omega, by omega⟩ (congrArg Int.toNat e45) (by decide) (by decide) (rf_in_top _) (hat 38 rfl ?_)
          refine h_il c (hd 26 38 _ _ rfl) (by rfl) (hat 40 rfl ?_)
          refine h_bp c (hd 27 40 _ _ rfl) (by decide) (fun v40_1 e40_1 => hat 42 rfl ?_)
          refine h_div c (hd 28 42 _ _ rfl) e40_1 (by decide) (by omega) (fun v42_1 e42_1 => hat 43 rfl ?_)
          refine h_is c (hd 29 43 _ _ rfl) (by decide) (L' := [(4, .int v42_1), (5, .int v45), (3, .int v5), (0, .int a), (1, .ref (G.2.1.1 17)), (2, .int b)]) (by rfl) (hat 45 rfl ?_)
          refine h_inc c (fun r_ => [(5, .int r_), (4, .int v42_1), (3, .int v5), (0, .int a), (1, .ref (G.2.1.1 17)), (2, .int b)]) (hd 30 45 _ _ rfl) (by decide) (by decide) (by rfl) (by omega) (fun _ => by rfl) (fun v45_1 e45_1 => hat 48 rfl ?_)
          have e45_1 : v45_1.toInt = 1 := by omega
          refine h_goto c (hd 31 48 _ _ rfl) (tgt := 23) (by decide) ?_
          refine h_il c (hd 17 23 _ _ rfl) (by rfl) (hat 25 rfl ?_)
          refine h_iln c (hd 18 25 _ _ rfl) (by rfl) (hat 26 rfl ?_)
          refine h_cmp c (hd 19 26 _ _ rfl) (tgt := 51) (by decide) (fun (h26_2 : v45_1.toInt < b.toInt) => ?_) (fun (h26_2 : ¬ (v45_1.toInt < b.toInt)) => hat 29 rfl ?_)
          · exfalso; omega
          · skip
            refine h_aln c (hd 20 29 _ _ rfl) (by rfl) (hat 30 rfl ?_)
            refine h_il c (hd 21 30 _ _ rfl) (by rfl) (hat 32 rfl ?_)
            refine h_il c (hd 22 32 _ _ rfl) (by rfl) (hat 34 rfl ?_)
            refine h_bp c (hd 23 34 _ _ rfl) (by decide) (fun v34_2 e34_2 => hat 36 rfl ?_)
            refine h_rem c (hd 24 36 _ _ rfl) e34_2 (by decide) (by omega) (fun v36_2 e36_2 => hat 37 rfl ?_)
            refine h_iast c (hd 25 37 _ _ rfl) dla_17 ⟨by omega, by omega⟩ (congrArg Int.toNat e45_1) (by decide) (by decide) (rf_in_top _) (hat 38 rfl ?_)
            refine h_il c (hd 26 38 _ _ rfl) (by rfl) (hat 40 rfl ?_)
            refine h_bp c (hd 27 40 _ _ rfl) (by decide) (fun v40_2 e40_2 => hat 42 rfl ?_)
            refine h_div c (hd 28 42 _ _ rfl) e40_2 (by decide) (by omega) (fun v42_2 e42_2 => hat 43 rfl ?_)
            refine h_is c (hd 29 43 _ _ rfl) (by decide) (L' := [(4, .int v42_2), (5, .int v45_1), (3, .int v5), (0, .int a), (1, .ref (G.2.1.1 17)), (2, .int b)]) (by rfl) (hat 45 rfl ?_)
            refine h_inc c (fun r_ => [(5, .int r_), (4, .int v42_2), (3, .int v5), (0, .int a), (1, .ref (G.2.1.1 17)), (2, .int b)]) (hd 30 45 _ _ rfl) (by decide) (by decide) (by rfl) (by omega) (fun _ => by rfl) (fun v45_2 e45_2 => hat 48 rfl ?_)
            have e45_2 : v45_2.toInt = 0 := by omega
            refine h_goto c (hd 31 48 _ _ rfl) (tgt := 23) (by decide) ?_
            refine h_il c (hd 17 23 _ _ rfl) (by rfl) (hat 25 rfl ?_)
            refine h_iln c (hd 18 25 _ _ rfl) (by rfl) (hat 26 rfl ?_)
            refine h_cmp c (hd 19 26 _ _ rfl) (tgt := 51) (by decide) (fun (h26_3 : v45_2.toInt < b.toInt) => ?_) (fun (h26_3 : ¬ (v45_2.toInt < b.toInt)) => hat 29 rfl ?_)
            · exfalso; omega
            · skip
              refine h_aln c (hd 20 29 _ _ rfl) (by rfl) (hat 30 rfl ?_)
              refine h_il c (hd 21 30 _ _ rfl) (by rfl) (hat 32 rfl ?_)
              refine h_il c (hd 22 32 _ _ rfl) (by rfl) (hat 34 rfl ?_)
              refine h_bp c (hd 23 34 _ _ rfl) (by decide) (fun v34_3 e34_3 => hat 36 rfl ?_)
              refine h_rem c (hd 24 36 _ _ rfl) e34_3 (by decide) (by omega) (fun v36_3 e36_3 => hat 37 rfl ?_)
              refine h_iast c (hd 25 37 _ _ rfl) dla_17 ⟨by omega, by omega⟩ (congrArg Int.toNat e45_2) (by decide) (by decide) (rf_in_top _) (hat 38 rfl ?_)
              refine h_il c (hd 26 38 _ _ rfl) (by rfl) (hat 40 rfl ?_)
              refine h_bp c (hd 27 40 _ _ rfl) (by decide) (fun v40_3 e40_3 => hat 42 rfl ?_)
              refine h_div c (hd 28 42 _ _ rfl) e40_3 (by decide) (by omega) (fun v42_3 e42_3 => hat 43 rfl ?_)
              refine h_is c (hd 29 43 _ _ rfl) (by decide) (L' := [(4, .int v42_3), (5, .int v45_2), (3, .int v5), (0, .int a), (1, .ref (G.2.1.1 17)), (2, .int b)]) (by rfl) (hat 45 rfl ?_)
              refine h_inc c (fun r_ => [(5, .int r_), (4, .int v42_3), (3, .int v5), (0, .int a), (1, .ref (G.2.1.1 17)), (2, .int b)]) (hd 30 45 _ _ rfl) (by decide) (by decide) (by rfl) (by omega) (fun _ => by rfl) (fun v45_3 e45_3 => hat 48 rfl ?_)
              have e45_3 : v45_3.toInt = (-1) := by omega
              refine h_goto c (hd 31 48 _ _ rfl) (tgt := 23) (by decide) ?_
              refine h_il c (hd 17 23 _ _ rfl) (by rfl) (hat 25 rfl ?_)
              refine h_iln c (hd 18 25 _ _ rfl) (by rfl) (hat 26 rfl ?_)
              refine h_cmp c (hd 19 26 _ _ rfl) (tgt := 51) (by decide) (fun (h26_4 : v45_3.toInt < b.toInt) => ?_) (fun (h26_4 : ¬ (v45_3.toInt < b.toInt)) => hat 29 rfl ?_)
              · skip
                refine h_iln c (hd 32 51 _ _ rfl) (by rfl) (hat 52 rfl ?_)
                exact h_iret c (hd 33 52 _ _ rfl) rfl ⟨a, _, rfl, rfl, by omega, fun k hk => by
                  rw [hl] at hk
                  have hk_ : k = 0 ∨ k = 1 ∨ k = 2 ∨ k = 3 := by omega
                  rcases hk_ with e_ | e_ | e_ | e_
                  · subst e_; unfold ltI; rw [hl]; show v36_3.toInt = a.toInt / 27 / 27 / 27 % 27; omega
                  · subst e_; unfold ltI; rw [hl]; show v36_2.toInt = a.toInt / 27 / 27 % 27; omega
                  · subst e_; unfold ltI; rw [hl]; show v36_1.toInt = a.toInt / 27 % 27; omega
                  · subst e_; unfold ltI; rw [hl]; show v36.toInt = a.toInt % 27; omega⟩
              · exfalso; omega
    · exfalso; omega
  · have e5 : v5.toInt = 5 := by omega
    refine h_isn c (hd 4 6 _ _ rfl) (by decide) (L' := [(3, .int v5), (0, .int a), (1, .ref (G.2.1.1 17)), (2, .int b)]) (by rfl) (hat 7 rfl ?_)
    refine h_iln c (hd 5 7 _ _ rfl) (by rfl) (hat 8 rfl ?_)
    refine h_aln c (hd 6 8 _ _ rfl) (by rfl) (hat 9 rfl ?_)
    refine h_alen c (j := 17) (n := 12) (hd 7 9 _ _ rfl) (by rfl) (by decide) (fun v9 e9 => hat 10 rfl ?_)
    have e9 : v9.toInt = 12 := by omega
    refine h_cmp c (hd 8 10 _ _ rfl) (tgt := 15) (by decide) (fun (h10 : v5.toInt ≤ v9.toInt) => ?_) (fun (h10 : ¬ (v5.toInt ≤ v9.toInt)) => hat 13 rfl ?_)
    · skip
      refine h_iln c (hd 11 15 _ _ rfl) (by rfl) (hat 16 rfl ?_)
      refine h_is c (hd 12 16 _ _ rfl) (by decide) (L' := [(4, .int a), (3, .int v5), (0, .int a), (1, .ref (G.2.1.1 17)), (2, .int b)]) (by rfl) (hat 18 rfl ?_)
      refine h_iln c (hd 13 18 _ _ rfl) (by rfl) (hat 19 rfl ?_)
      refine h_ic c (hd 14 19 _ _ rfl) (by decide) (fun v19 e19 => hat 20 rfl ?_)
      refine h_sub c (hd 15 20 _ _ rfl) (by omega) (fun v20 e20 => hat 21 rfl ?_)
      have e20 : v20.toInt = 4 := by omega
      refine h_is c (hd 16 21 _ _ rfl) (by decide) (L' := [(5, .int v20), (4, .int a), (3, .int v5), (0, .int a), (1, .ref (G.2.1.1 17)), (2, .int b)]) (by rfl) (hat 23 rfl ?_)
      refine h_il c (hd 17 23 _ _ rfl) (by rfl) (hat 25 rfl ?_)
      refine h_iln c (hd 18 25 _ _ rfl) (by rfl) (hat 26 rfl ?_)
      refine h_cmp c (hd 19 26 _ _ rfl) (tgt := 51) (by decide) (fun (h26 : v20.toInt < b.toInt) => ?_) (fun (h26 : ¬ (v20.toInt < b.toInt)) => hat 29 rfl ?_)
      · exfalso; omega
      · skip
        refine h_aln c (hd 20 29 _ _ rfl) (by rfl) (hat 30 rfl ?_)
        refine h_il c (hd 21 30 _ _ rfl) (by rfl) (hat 32 rfl ?_)
        refine h_il c (hd 22 32 _ _ rfl) (by rfl) (hat 34 rfl ?_)
        refine h_bp c (hd 23 34 _ _ rfl) (by decide) (fun v34 e34 => hat 36 rfl ?_)
        refine h_rem c (hd 24 36 _ _ rfl) e34 (by decide) (by omega) (fun v36 e36 => hat 37 rfl ?_)
        refine h_iast c (hd 25 37 _ _ rfl) dla_17 ⟨by omega, by omega⟩ (congrArg Int.toNat e20) (by decide) (by decide) (rf_in_top _) (hat 38 rfl ?_)
        refine h_il c (hd 26 38 _ _ rfl) (by rfl) (hat 40 rfl ?_)
        refine h_bp c (hd 27 40 _ _ rfl) (by decide) (fun v40 e40 => hat 42 rfl ?_)
        refine h_div c (hd 28 42 _ _ rfl) e40 (by decide) (by omega) (fun v42 e42 => hat 43 rfl ?_)
        refine h_is c (hd 29 43 _ _ rfl) (by decide) (L' := [(4, .int v42), (5, .int v20), (3, .int v5), (0, .int a), (1, .ref (G.2.1.1 17)), (2, .int b)]) (by rfl) (hat 45 rfl ?_)
        refine h_inc c (fun r_ => [(5, .int r_), (4, .int v42), (3, .int v5), (0, .int a), (1, .ref (G.2.1.1 17)), (2, .int b)]) (hd 30 45 _ _ rfl) (by decide) (by decide) (by rfl) (by omega) (fun _ => by rfl) (fun v45 e45 => hat 48 rfl ?_)
        have e45 : v45.toInt = 3 := by omega
        refine h_goto c (hd 31 48 _ _ rfl) (tgt := 23) (by decide) ?_
        refine h_il c (hd 17 23 _ _ rfl) (by rfl) (hat 25 rfl ?_)
        refine h_iln c (hd 18 25 _ _ rfl) (by rfl) (hat 26 rfl ?_)
        refine h_cmp c (hd 19 26 _ _ rfl) (tgt := 51) (by decide) (fun (h26_1 : v45.toInt < b.toInt) => ?_) (fun (h26_1 : ¬ (v45.toInt < b.toInt)) => hat 29 rfl ?_)
        · exfalso; omega
        · skip
          refine h_aln c (hd 20 29 _ _ rfl) (by rfl) (hat 30 rfl ?_)
          refine h_il c (hd 21 30 _ _ rfl) (by rfl) (hat 32 rfl ?_)
          refine h_il c (hd 22 32 _ _ rfl) (by rfl) (hat 34 rfl ?_)
          refine h_bp c (hd 23 34 _ _ rfl) (by decide) (fun v34_1 e34_1 => hat 36 rfl ?_)
          refine h_rem c (hd 24 36 _ _ rfl) e34_1 (by decide) (by omega) (fun v36_1 e36_1 => hat 37 rfl ?_)
          refine h_iast c (hd 25 37 _ _ rfl) dla_17 ⟨by omega, by omega⟩ (congrArg Int.toNat e45) (by decide) (by decide) (rf_in_top _) (hat 38 rfl ?_)
          refine h_il c (hd 26 38 _ _ rfl) (by rfl) (hat 40 rfl ?_)
          refine h_bp c (hd 27 40 _ _ rfl) (by decide) (fun v40_1 e40_1 => hat 42 rfl ?_)
          refine h_div c (hd 28 42 _ _ rfl) e40_1 (by decide) (by omega) (fun v42_1 e42_1 => hat 43 rfl ?_)
          refine h_is c (hd 29 43 _ _ rfl) (by decide) (L' := [(4, .int v42_1), (5, .int v45), (3, .int v5), (0, .int a), (1, .ref (G.2.1.1 17)), (2, .int b)]) (by rfl) (hat 45 rfl ?_)
          refine h_inc c (fun r_ => [(5, .int r_), (4, .int v42_1), (3, .int v5), (0, .int a), (1, .ref (G.2.1.1 17)), (2, .int b)]) (hd 30 45 _ _ rfl) (by decide) (by decide) (by rfl) (by omega) (fun _ => by rfl) (fun v45_1 e45_1 => hat 48 rfl ?_)
          have e45_1 : v45_1.toInt = 2 := by omega
          refine h_goto c (hd 31 48 _ _ rfl) (tgt := 23) (by decide) ?_
          refine h_il c (hd 17 23 _ _ rfl) (by rfl) (hat 25 rfl ?_)
          refine h_iln c (hd 18 25 _ _ rfl) (by rfl) (hat 26 rfl ?_)
          refine h_cmp c (hd 19 26 _ _ rfl) (tgt := 51) (by decide) (fun (h26_2 : v45_1.toInt < b.toInt) => ?_) (fun (h26_2 : ¬ (v45_1.toInt < b.toInt)) => hat 29 rfl ?_)
          · exfalso; omega
          · skip
            refine h_aln c (hd 20 29 _ _ rfl) (by rfl) (hat 30 rfl ?_)
            refine h_il c (hd 21 30 _ _ rfl) (by rfl) (hat 32 rfl ?_)
            refine h_il c (hd 22 32 _ _ rfl) (by rfl) (hat 34 rfl ?_)
            refine h_bp c (hd 23 34 _ _ rfl) (by decide) (fun v34_2 e34_2 => hat 36 rfl ?_)
            refine h_rem c (hd 24 36 _ _ rfl) e34_2 (by decide) (by omega) (fun v36_2 e36_2 => hat 37 rfl ?_)
            refine h_iast c (hd 25 37 _ _ rfl) dla_17 ⟨by omega, by omega⟩ (congrArg Int.toNat e45_1) (by decide) (by decide) (rf_in_top _) (hat 38 rfl ?_)
            refine h_il c (hd 26 38 _ _ rfl) (by rfl) (hat 40 rfl ?_)
            refine h_bp c (hd 27 40 _ _ rfl) (by decide) (fun v40_2 e40_2 => hat 42 rfl ?_)
            refine h_div c (hd 28 42 _ _ rfl) e40_2 (by decide) (by omega) (fun v42_2 e42_2 => hat 43 rfl ?_)
            refine h_is c (hd 29 43 _ _ rfl) (by decide) (L' := [(4, .int v42_2), (5, .int v45_1), (3, .int v5), (0, .int a), (1, .ref (G.2.1.1 17)), (2, .int b)]) (by rfl) (hat 45 rfl ?_)
            refine h_inc c (fun r_ => [(5, .int r_), (4, .int v42_2), (3, .int v5), (0, .int a), (1, .ref (G.2.1.1 17)), (2, .int b)]) (hd 30 45 _ _ rfl) (by decide) (by decide) (by rfl) (by omega) (fun _ => by rfl) (fun v45_2 e45_2 => hat 48 rfl ?_)
            have e45_2 : v45_2.toInt = 1 := by omega
            refine h_goto c (hd 31 48 _ _ rfl) (tgt := 23) (by decide) ?_
            refine h_il c (hd 17 23 _ _ rfl) (by rfl) (hat 25 rfl ?_)
            refine h_iln c (hd 18 25 _ _ rfl) (by rfl) (hat 26 rfl ?_)
            refine h_cmp c (hd 19 26 _ _ rfl) (tgt := 51) (by decide) (fun (h26_3 : v45_2.toInt < b.toInt) => ?_) (fun (h26_3 : ¬ (v45_2.toInt < b.toInt)) => hat 29 rfl ?_)
            · exfalso; omega
            · skip
              refine h_aln c (hd 20 29 _ _ rfl) (by rfl) (hat 30 rfl ?_)
              refine h_il c (hd 21 30 _ _ rfl) (by rfl) (hat 32 rfl ?_)
              refine h_il c (hd 22 32 _ _ rfl) (by rfl) (hat 34 rfl ?_)
              refine h_bp c (hd 23 34 _ _ rfl) (by decide) (fun v34_3 e34_3 => hat 36 rfl ?_)
              refine h_rem c (hd 24 36 _ _ rfl) e34_3 (by decide) (by omega) (fun v36_3 e36_3 => hat 37 rfl ?_)
              refine h_iast c (hd 25 37 _ _ rfl) dla_17 ⟨by omega, by omega⟩ (congrArg Int.toNat e45_2) (by decide) (by decide) (rf_in_top _) (hat 38 rfl ?_)
              refine h_il c (hd 26 38 _ _ rfl) (by rfl) (hat 40 rfl ?_)
              refine h_bp c (hd 27 40 _ _ rfl) (by decide) (fun v40_3 e40_3 => hat 42 rfl ?_)
              refine h_div c (hd 28 42 _ _ rfl) e40_3 (by decide) (by omega) (fun v42_3 e42_3 => hat 43 rfl ?_)
              refine h_is c (hd 29 43 _ _ rfl) (by decide) (L' := [(4, .int v42_3), (5, .int v45_2), (3, .int v5), (0, .int a), (1, .ref (G.2.1.1 17)), (2, .int b)]) (by rfl) (hat 45 rfl ?_)
              refine h_inc c (fun r_ => [(5, .int r_), (4, .int v42_3), (3, .int v5), (0, .int a), (1, .ref (G.2.1.1 17)), (2, .int b)]) (hd 30 45 _ _ rfl) (by decide) (by decide) (by rfl) (by omega) (fun _ => by rfl) (fun v45_3 e45_3 => hat 48 rfl ?_)
              have e45_3 : v45_3.toInt = 0 := by omega
              refine h_goto c (hd 31 48 _ _ rfl) (tgt := 23) (by decide) ?_
              refine h_il c (hd 17 23 _ _ rfl) (by rfl) (hat 25 rfl ?_)
              refine h_iln c (hd 18 25 _ _ rfl) (by rfl) (hat 26 rfl ?_)
              refine h_cmp c (hd 19 26 _ _ rfl) (tgt := 51) (by decide) (fun (h26_4 : v45_3.toInt < b.toInt) => ?_) (fun (h26_4 : ¬ (v45_3.toInt < b.toInt)) => hat 29 rfl ?_)
              · exfalso; omega
              · skip
                refine h_aln c (hd 20 29 _ _ rfl) (by rfl) (hat 30 rfl ?_)
                refine h_il c (hd 21 30 _ _ rfl) (by rfl) (hat 32 rfl ?_)
                refine h_il c (hd 22 32 _ _ rfl) (by rfl) (hat 34 rfl ?_)
                refine h_bp c (hd 23 34 _ _ rfl) (by decide) (fun v34_4 e34_4 => hat 36 rfl ?_)
                refine h_rem c (hd 24 36 _ _ rfl) e34_4 (by decide) (by omega) (fun v36_4 e36_4 => hat 37 rfl ?_)
                refine h_iast c (hd 25 37 _ _ rfl) dla_17 ⟨by omega, by omega⟩ (congrArg Int.toNat e45_3) (by decide) (by decide) (rf_in_top _) (hat 38 rfl ?_)
                refine h_il c (hd 26 38 _ _ rfl) (by rfl) (hat 40 rfl ?_)
                refine h_bp c (hd 27 40 _ _ rfl) (by decide) (fun v40_4 e40_4 => hat 42 rfl ?_)
                refine h_div c (hd 28 42 _ _ rfl) e40_4 (by decide) (by omega) (fun v42_4 e42_4 => hat 43 rfl ?_)
                refine h_is c (hd 29 43 _ _ rfl) (by decide) (L' := [(4, .int v42_4), (5, .int v45_3), (3, .int v5), (0, .int a), (1, .ref (G.2.1.1 17)), (2, .int b)]) (by rfl) (hat 45 rfl ?_)
                refine h_inc c (fun r_ => [(5, .int r_), (4, .int v42_4), (3, .int v5), (0, .int a), (1, .ref (G.2.1.1 17)), (2, .int b)]) (hd 30 45 _ _ rfl) (by decide) (by decide) (by rfl) (by omega) (fun _ => by rfl) (fun v45_4 e45_4 => hat 48 rfl ?_)
                have e45_4 : v45_4.toInt = (-1) := by omega
                refine h_goto c (hd 31 48 _ _ rfl) (tgt := 23) (by decide) ?_
                refine h_il c (hd 17 23 _ _ rfl) (by rfl) (hat 25 rfl ?_)
                refine h_iln c (hd 18 25 _ _ rfl) (by rfl) (hat 26 rfl ?_)
                refine h_cmp c (hd 19 26 _ _ rfl) (tgt := 51) (by decide) (fun (h26_5 : v45_4.toInt < b.toInt) => ?_) (fun (h26_5 : ¬ (v45_4.toInt < b.toInt)) => hat 29 rfl ?_)
                · skip
                  refine h_iln c (hd 32 51 _ _ rfl) (by rfl) (hat 52 rfl ?_)
                  exact h_iret c (hd 33 52 _ _ rfl) rfl ⟨a, _, rfl, rfl, by omega, fun k hk => by
                    rw [hl] at hk
                    have hk_ : k = 0 ∨ k = 1 ∨ k = 2 ∨ k = 3 ∨ k = 4 := by omega
                    rcases hk_ with e_ | e_ | e_ | e_ | e_
                    · subst e_; unfold ltI; rw [hl]; show v36_4.toInt = a.toInt / 27 / 27 / 27 / 27 % 27; omega
                    · subst e_; unfold ltI; rw [hl]; show v36_3.toInt = a.toInt / 27 / 27 / 27 % 27; omega
                    · subst e_; unfold ltI; rw [hl]; show v36_2.toInt = a.toInt / 27 / 27 % 27; omega
                    · subst e_; unfold ltI; rw [hl]; show v36_1.toInt = a.toInt / 27 % 27; omega
                    · subst e_; unfold ltI; rw [hl]; show v36.toInt = a.toInt % 27; omega⟩
                · exfalso; omega
    · exfalso; omega
  · have e5 : v5.toInt = 6 := by omega
    refine h_isn c (hd 4 6 _ _ rfl) (by decide) (L' := [(3, .int v5), (0, .int a), (1, .ref (G.2.1.1 17)), (2, .int b)]) (by rfl) (hat 7 rfl ?_)
    refine h_iln c (hd 5 7 _ _ rfl) (by rfl) (hat 8 rfl ?_)
    refine h_aln c (hd 6 8 _ _ rfl) (by rfl) (hat 9 rfl ?_)
    refine h_alen c (j := 17) (n := 12) (hd 7 9 _ _ rfl) (by rfl) (by decide) (fun v9 e9 => hat 10 rfl ?_)
    have e9 : v9.toInt = 12 := by omega
    refine h_cmp c (hd 8 10 _ _ rfl) (tgt := 15) (by decide) (fun (h10 : v5.toInt ≤ v9.toInt) => ?_) (fun (h10 : ¬ (v5.toInt ≤ v9.toInt)) => hat 13 rfl ?_)
    · skip
      refine h_iln c (hd 11 15 _ _ rfl) (by rfl) (hat 16 rfl ?_)
      refine h_is c (hd 12 16 _ _ rfl) (by decide) (L' := [(4, .int a), (3, .int v5), (0, .int a), (1, .ref (G.2.1.1 17)), (2, .int b)]) (by rfl) (hat 18 rfl ?_)
      refine h_iln c (hd 13 18 _ _ rfl) (by rfl) (hat 19 rfl ?_)
      refine h_ic c (hd 14 19 _ _ rfl) (by decide) (fun v19 e19 => hat 20 rfl ?_)
      refine h_sub c (hd 15 20 _ _ rfl) (by omega) (fun v20 e20 => hat 21 rfl ?_)
      have e20 : v20.toInt = 5 := by omega
      refine h_is c (hd 16 21 _ _ rfl) (by decide) (L' := [(5, .int v20), (4, .int a), (3, .int v5), (0, .int a), (1, .ref (G.2.1.1 17)), (2, .int b)]) (by rfl) (hat 23 rfl ?_)
      refine h_il c (hd 17 23 _ _ rfl) (by rfl) (hat 25 rfl ?_)
      refine h_iln c (hd 18 25 _ _ rfl) (by rfl) (hat 26 rfl ?_)
      refine h_cmp c (hd 19 26 _ _ rfl) (tgt := 51) (by decide) (fun (h26 : v20.toInt < b.toInt) => ?_) (fun (h26 : ¬ (v20.toInt < b.toInt)) => hat 29 rfl ?_)
      · exfalso; omega
      · skip
        refine h_aln c (hd 20 29 _ _ rfl) (by rfl) (hat 30 rfl ?_)
        refine h_il c (hd 21 30 _ _ rfl) (by rfl) (hat 32 rfl ?_)
        refine h_il c (hd 22 32 _ _ rfl) (by rfl) (hat 34 rfl ?_)
        refine h_bp c (hd 23 34 _ _ rfl) (by decide) (fun v34 e34 => hat 36 rfl ?_)
        refine h_rem c (hd 24 36 _ _ rfl) e34 (by decide) (by omega) (fun v36 e36 => hat 37 rfl ?_)
        refine h_iast c (hd 25 37 _ _ rfl) dla_17 ⟨by omega, by omega⟩ (congrArg Int.toNat e20) (by decide) (by decide) (rf_in_top _) (hat 38 rfl ?_)
        refine h_il c (hd 26 38 _ _ rfl) (by rfl) (hat 40 rfl ?_)
        refine h_bp c (hd 27 40 _ _ rfl) (by decide) (fun v40 e40 => hat 42 rfl ?_)
        refine h_div c (hd 28 42 _ _ rfl) e40 (by decide) (by omega) (fun v42 e42 => hat 43 rfl ?_)
        refine h_is c (hd 29 43 _ _ rfl) (by decide) (L' := [(4, .int v42), (5, .int v20), (3, .int v5), (0, .int a), (1, .ref (G.2.1.1 17)), (2, .int b)]) (by rfl) (hat 45 rfl ?_)
        refine h_inc c (fun r_ => [(5, .int r_), (4, .int v42), (3, .int v5), (0, .int a), (1, .ref (G.2.1.1 17)), (2, .int b)]) (hd 30 45 _ _ rfl) (by decide) (by decide) (by rfl) (by omega) (fun _ => by rfl) (fun v45 e45 => hat 48 rfl ?_)
        have e45 : v45.toInt = 4 := by omega
        refine h_goto c (hd 31 48 _ _ rfl) (tgt := 23) (by decide) ?_
        refine h_il c (hd 17 23 _ _ rfl) (by rfl) (hat 25 rfl ?_)
        refine h_iln c (hd 18 25 _ _ rfl) (by rfl) (hat 26 rfl ?_)
        refine h_cmp c (hd 19 26 _ _ rfl) (tgt := 51) (by decide) (fun (h26_1 : v45.toInt < b.toInt) => ?_) (fun (h26_1 : ¬ (v45.toInt < b.toInt)) => hat 29 rfl ?_)
        · exfalso; omega
        · skip
          refine h_aln c (hd 20 29 _ _ rfl) (by rfl) (hat 30 rfl ?_)
          refine h_il c (hd 21 30 _ _ rfl) (by rfl) (hat 32 rfl ?_)
          refine h_il c (hd 22 32 _ _ rfl) (by rfl) (hat 34 rfl ?_)
          refine h_bp c (hd 23 34 _ _ rfl) (by decide) (fun v34_1 e34_1 => hat 36 rfl ?_)
          refine h_rem c (hd 24 36 _ _ rfl) e34_1 (by decide) (by omega) (fun v36_1 e36_1 => hat 37 rfl ?_)
          refine h_iast c (hd 25 37 _ _ rfl) dla_17 ⟨by omega, by omega⟩ (congrArg Int.toNat e45) (by decide) (by decide) (rf_in_top _) (hat 38 rfl ?_)
          refine h_il c (hd 26 38 _ _ rfl) (by rfl) (hat 40 rfl ?_)
          refine h_bp c (hd 27 40 _ _ rfl) (by decide) (fun v40_1 e40_1 => hat 42 rfl ?_)
          refine h_div c (hd 28 42 _ _ rfl) e40_1 (by decide) (by omega) (fun v42_1 e42_1 => hat 43 rfl ?_)
          refine h_is c (hd 29 43 _ _ rfl) (by decide) (L' := [(4, .int v42_1), (5, .int v45), (3, .int v5), (0, .int a), (1, .ref (G.2.1.1 17)), (2, .int b)]) (by rfl) (hat 45 rfl ?_)
          refine h_inc c (fun r_ => [(5, .int r_), (4, .int v42_1), (3, .int v5), (0, .int a), (1, .ref (G.2.1.1 17)), (2, .int b)]) (hd 30 45 _ _ rfl) (by decide) (by decide) (by rfl) (by omega) (fun _ => by rfl) (fun v45_1 e45_1 => hat 48 rfl ?_)
          have e45_1 : v45_1.toInt = 3 := by omega
          refine h_goto c (hd 31 48 _ _ rfl) (tgt := 23) (by decide) ?_
          refine h_il c (hd 17 23 _ _ rfl) (by rfl) (hat 25 rfl ?_)
          refine h_iln c (hd 18 25 _ _ rfl) (by rfl) (hat 26 rfl ?_)
          refine h_cmp c (hd 19 26 _ _ rfl) (tgt := 51) (by decide) (fun (h26_2 : v45_1.toInt < b.toInt) => ?_) (fun (h26_2 : ¬ (v45_1.toInt < b.toInt)) => hat 29 rfl ?_)
          · exfalso; omega
          · skip
            refine h_aln c (hd 20 29 _ _ rfl) (by rfl) (hat 30 rfl ?_)
            refine h_il c (hd 21 30 _ _ rfl) (by rfl) (hat 32 rfl ?_)
            refine h_il c (hd 22 32 _ _ rfl) (by rfl) (hat 34 rfl ?_)
            refine h_bp c (hd 23 34 _ _ rfl) (by decide) (fun v34_2 e34_2 => hat 36 rfl ?_)
            refine h_rem c (hd 24 36 _ _ rfl) e34_2 (by decide) (by omega) (fun v36_2 e36_2 => hat 37 rfl ?_)
            refine h_iast c (hd 25 37 _ _ rfl) dla_17 ⟨by omega, by omega⟩ (congrArg Int.toNat e45_1) (by decide) (by decide) (rf_in_top _) (hat 38 rfl ?_)
            refine h_il c (hd 26 38 _ _ rfl) (by rfl) (hat 40 rfl ?_)
            refine h_bp c (hd 27 40 _ _ rfl) (by decide) (fun v40_2 e40_2 => hat 42 rfl ?_)
            refine h_div c (hd 28 42 _ _ rfl) e40_2 (by decide) (by omega) (fun v42_2 e42_2 => hat 43 rfl ?_)
            refine h_is c (hd 29 43 _ _ rfl) (by decide) (L' := [(4, .int v42_2), (5, .int v45_1), (3, .int v5), (0, .int a), (1, .ref (G.2.1.1 17)), (2, .int b)]) (by rfl) (hat 45 rfl ?_)
            refine h_inc c (fun r_ => [(5, .int r_), (4, .int v42_2), (3, .int v5), (0, .int a), (1, .ref (G.2.1.1 17)), (2, .int b)]) (hd 30 45 _ _ rfl) (by decide) (by decide) (by rfl) (by omega) (fun _ => by rfl) (fun v45_2 e45_2 => hat 48 rfl ?_)
            have e45_2 : v45_2.toInt = 2 := by omega
            refine h_goto c (hd 31 48 _ _ rfl) (tgt := 23) (by decide) ?_
            refine h_il c (hd 17 23 _ _ rfl) (by rfl) (hat 25 rfl ?_)
            refine h_iln c (hd 18 25 _ _ rfl) (by rfl) (hat 26 rfl ?_)
            refine h_cmp c (hd 19 26 _ _ rfl) (tgt := 51) (by decide) (fun (h26_3 : v45_2.toInt < b.toInt) => ?_) (fun (h26_3 : ¬ (v45_2.toInt < b.toInt)) => hat 29 rfl ?_)
            · exfalso; omega
            · skip
              refine h_aln c (hd 20 29 _ _ rfl) (by rfl) (hat 30 rfl ?_)
              refine h_il c (hd 21 30 _ _ rfl) (by rfl) (hat 32 rfl ?_)
              refine h_il c (hd 22 32 _ _ rfl) (by rfl) (hat 34 rfl ?_)
              refine h_bp c (hd 23 34 _ _ rfl) (by decide) (fun v34_3 e34_3 => hat 36 rfl ?_)
              refine h_rem c (hd 24 36 _ _ rfl) e34_3 (by decide) (by omega) (fun v36_3 e36_3 => hat 37 rfl ?_)
              refine h_iast c (hd 25 37 _ _ rfl) dla_17 ⟨by omega, by omega⟩ (congrArg Int.toNat e45_2) (by decide) (by decide) (rf_in_top _) (hat 38 rfl ?_)
              refine h_il c (hd 26 38 _ _ rfl) (by rfl) (hat 40 rfl ?_)
              refine h_bp c (hd 27 40 _ _ rfl) (by decide) (fun v40_3 e40_3 => hat 42 rfl ?_)
              refine h_div c (hd 28 42 _ _ rfl) e40_3 (by decide) (by omega) (fun v42_3 e42_3 => hat 43 rfl ?_)
              refine h_is c (hd 29 43 _ _ rfl) (by decide) (L' := [(4, .int v42_3), (5, .int v45_2), (3, .int v5), (0, .int a), (1, .ref (G.2.1.1 17)), (2, .int b)]) (by rfl) (hat 45 rfl ?_)
              refine h_inc c (fun r_ => [(5, .int r_), (4, .int v42_3), (3, .int v5), (0, .int a), (1, .ref (G.2.1.1 17)), (2, .int b)]) (hd 30 45 _ _ rfl) (by decide) (by decide) (by rfl) (by omega) (fun _ => by rfl) (fun v45_3 e45_3 => hat 48 rfl ?_)
              have e45_3 : v45_3.toInt = 1 := by omega
              refine h_goto c (hd 31 48 _ _ rfl) (tgt := 23) (by decide) ?_
              refine h_il c (hd 17 23 _ _ rfl) (by rfl) (hat 25 rfl ?_)
              refine h_iln c (hd 18 25 _ _ rfl) (by rfl) (hat 26 rfl ?_)
              refine h_cmp c (hd 19 26 _ _ rfl) (tgt := 51) (by decide) (fun (h26_4 : v45_3.toInt < b.toInt) => ?_) (fun (h26_4 : ¬ (v45_3.toInt < b.toInt)) => hat 29 rfl ?_)
              · exfalso; omega
              · skip
                refine h_aln c (hd 20 29 _ _ rfl) (by rfl) (hat 30 rfl ?_)
                refine h_il c (hd 21 30 _ _ rfl) (by rfl) (hat 32 rfl ?_)
                refine h_il c (hd 22 32 _ _ rfl) (by rfl) (hat 34 rfl ?_)
                refine h_bp c (hd 23 34 _ _ rfl) (by decide) (fun v34_4 e34_4 => hat 36 rfl ?_)
                refine h_rem c (hd 24 36 _ _ rfl) e34_4 (by decide) (by omega) (fun v36_4 e36_4 => hat 37 rfl ?_)
                refine h_iast c (hd 25 37 _ _ rfl) dla_17 ⟨by omega, by omega⟩ (congrArg Int.toNat e45_3) (by decide) (by decide) (rf_in_top _) (hat 38 rfl ?_)
                refine h_il c (hd 26 38 _ _ rfl) (by rfl) (hat 40 rfl ?_)
                refine h_bp c (hd 27 40 _ _ rfl) (by decide) (fun v40_4 e40_4 => hat 42 rfl ?_)
                refine h_div c (hd 28 42 _ _ rfl) e40_4 (by decide) (by omega) (fun v42_4 e42_4 => hat 43 rfl ?_)
                refine h_is c (hd 29 43 _ _ rfl) (by decide) (L' := [(4, .int v42_4), (5, .int v45_3), (3, .int v5), (0, .int a), (1, .ref (G.2.1.1 17)), (2, .int b)]) (by rfl) (hat 45 rfl ?_)
                refine h_inc c (fun r_ => [(5, .int r_), (4, .int v42_4), (3, .int v5), (0, .int a), (1, .ref (G.2.1.1 17)), (2, .int b)]) (hd 30 45 _ _ rfl) (by decide) (by decide) (by rfl) (by omega) (fun _ => by rfl) (fun v45_4 e45_4 => hat 48 rfl ?_)
                have e45_4 : v45_4.toInt = 0 := by omega
                refine h_goto c (hd 31 48 _ _ rfl) (tgt := 23) (by decide) ?_
                refine h_il c (hd 17 23 _ _ rfl) (by rfl) (hat 25 rfl ?_)
                refine h_iln c (hd 18 25 _ _ rfl) (by rfl) (hat 26 rfl ?_)
                refine h_cmp c (hd 19 26 _ _ rfl) (tgt := 51) (by decide) (fun (h26_5 : v45_4.toInt < b.toInt) => ?_) (fun (h26_5 : ¬ (v45_4.toInt < b.toInt)) => hat 29 rfl ?_)
                · exfalso; omega
                · skip
                  refine h_aln c (hd 20 29 _ _ rfl) (by rfl) (hat 30 rfl ?_)
                  refine h_il c (hd 21 30 _ _ rfl) (by rfl) (hat 32 rfl ?_)
                  refine h_il c (hd 22 32 _ _ rfl) (by rfl) (hat 34 rfl ?_)
                  refine h_bp c (hd 23 34 _ _ rfl) (by decide) (fun v34_5 e34_5 => hat 36 rfl ?_)
                  refine h_rem c (hd 24 36 _ _ rfl) e34_5 (by decide) (by omega) (fun v36_5 e36_5 => hat 37 rfl ?_)
                  refine h_iast c (hd 25 37 _ _ rfl) dla_17 ⟨by omega, by omega⟩ (congrArg Int.toNat e45_4) (by decide) (by decide) (rf_in_top _) (hat 38 rfl ?_)
                  refine h_il c (hd 26 38 _ _ rfl) (by rfl) (hat 40 rfl ?_)
                  refine h_bp c (hd 27 40 _ _ rfl) (by decide) (fun v40_5 e40_5 => hat 42 rfl ?_)
                  refine h_div c (hd 28 42 _ _ rfl) e40_5 (by decide) (by omega) (fun v42_5 e42_5 => hat 43 rfl ?_)
                  refine h_is c (hd 29 43 _ _ rfl) (by decide) (L' := [(4, .int v42_5), (5, .int v45_4), (3, .int v5), (0, .int a), (1, .ref (G.2.1.1 17)), (2, .int b)]) (by rfl) (hat 45 rfl ?_)
                  refine h_inc c (fun r_ => [(5, .int r_), (4, .int v42_5), (3, .int v5), (0, .int a), (1, .ref (G.2.1.1 17)), (2, .int b)]) (hd 30 45 _ _ rfl) (by decide) (by decide) (by rfl) (by omega) (fun _ => by rfl) (fun v45_5 e45_5 => hat 48 rfl ?_)
                  have e45_5 : v45_5.toInt = (-1) := by omega
                  refine h_goto c (hd 31 48 _ _ rfl) (tgt := 23) (by decide) ?_
                  refine h_il c (hd 17 23 _ _ rfl) (by rfl) (hat 25 rfl ?_)
                  refine h_iln c (hd 18 25 _ _ rfl) (by rfl) (hat 26 rfl ?_)
                  refine h_cmp c (hd 19 26 _ _ rfl) (tgt := 51) (by decide) (fun (h26_6 : v45_5.toInt < b.toInt) => ?_) (fun (h26_6 : ¬ (v45_5.toInt < b.toInt)) => hat 29 rfl ?_)
                  · skip
                    refine h_iln c (hd 32 51 _ _ rfl) (by rfl) (hat 52 rfl ?_)
                    exact h_iret c (hd 33 52 _ _ rfl) rfl ⟨a, _, rfl, rfl, by omega, fun k hk => by
                      rw [hl] at hk
                      have hk_ : k = 0 ∨ k = 1 ∨ k = 2 ∨ k = 3 ∨ k = 4 ∨ k = 5 := by omega
                      rcases hk_ with e_ | e_ | e_ | e_ | e_ | e_
                      · subst e_; unfold ltI; rw [hl]; show v36_5.toInt = a.toInt / 27 / 27 / 27 / 27 / 27 % 27; omega
                      · subst e_; unfold ltI; rw [hl]; show v36_4.toInt = a.toInt / 27 / 27 / 27 / 27 % 27; omega
                      · subst e_; unfold ltI; rw [hl]; show v36_3.toInt = a.toInt / 27 / 27 / 27 % 27; omega
                      · subst e_; unfold ltI; rw [hl]; show v36_2.toInt = a.toInt / 27 / 27 % 27; omega
                      · subst e_; unfold ltI; rw [hl]; show v36_1.toInt = a.toInt / 27 % 27; omega
                      · subst e_; unfold ltI; rw [hl]; show v36.toInt = a.toInt % 27; omega⟩
                  · exfalso; omega
    · exfalso; omega
def dM_put18 : rfM := ((⟨"NearSpell$Ruler", "putLetters", "(I[II)I"⟩, prog_9_method_8_code, 6, (some .int)), (4,200), ([.inl ((0,387420488,1),none), .inr (.inl [18]), .inl ((0,0,1),none)],[]), [(18,0)], [])
set_option maxHeartbeats 4000000 in
set_option maxRecDepth 20000 in
theorem dp_put18 {G : rfG} (hG : okG G) : h_met G dM_put18 (fun _ _ => True) (fun vs _ F' rv => ∃ a x : Int32, vs[0]? = some (.int a) ∧ rv = some (.int x) ∧ x.toInt = (lenI a.toInt : Int) ∧ ∀ k : Nat, k < lenI a.toInt → (F' 18 k).toInt = ltI a.toInt k) := by
  refine h_metOf hG.1 (by decide +kernel) (by decide) hG.2.2.1 (wflT hG flokX7) (wcsT hG csokX7) ?_
  intro vs w0 X hv_ hr hp c
  match vs, hv_ with
  | [_, _, _], ⟨⟨a, rfl, hi_a, _⟩, ⟨_, hj1, rfl⟩, ⟨b, rfl, hi_b, _⟩, _⟩ =>
  cases List.mem_singleton.mp hj1
  have hd : ∀ n pc i len, ddDX7_putLetters[n]? = some (pc, i, len) → decode (mb dM_put18) pc = .ok (i, len) := fun n pc i len h => hdk dkDX7_putLetters n pc i len h
  show hW G X dM_put18 w0 0 [(0, .int a), (1, .ref (G.2.1.1 18)), (2, .int b)] [] (hv w0)
  generalize hF0 : hv w0 = F at *
  have ha : 0 ≤ a.toInt ∧ a.toInt ≤ 387420488 := ⟨hi_a.1, hi_a.2.1⟩
  have hb : b.toInt = 0 := by have h1 : 0 ≤ b.toInt := hi_b.1; have h2 : b.toInt ≤ 0 := hi_b.2.1; omega
  have hl6 := lenI_le a.toInt
  refine h_iln c (hd 0 0 _ _ rfl) (by rfl) (hat 1 rfl ?_)
  refine h_iln c (hd 1 1 _ _ rfl) (by rfl) (hat 2 rfl ?_)
  refine h_callSF c (M' := dM_len) (dp_len hG) (by decide +kernel) (wlkS (lkX7_55 hG) _ rfl rfl) (hd 2 2 _ _ rfl) [.int a] (rest := [.int b]) (by rfl) ⟨⟨_, rfl, rf_in1 (by omega) (by omega), trivial⟩, trivial⟩ (Nat.le_of_ble_eq_true rfl) trivial (fun rv2 F2 fr2 rr2 pp2 sm_ => hat 5 rfl ?_)
  have e_ := (sm_ rfl).symm
  subst e_
  obtain ⟨a_, x2, ea_, er_, hx2⟩ := pp2
  cases ea_; subst er_
  refine h_add c (hd 3 5 _ _ rfl) (by omega) (fun v5 e5 => hat 6 rfl ?_)
  have hl_ : lenI a.toInt = 0 ∨ lenI a.toInt = 1 ∨ lenI a.toInt = 2 ∨ lenI a.toInt = 3 ∨ lenI a.toInt = 4 ∨ lenI a.toInt = 5 ∨ lenI a.toInt = 6 := by omega
  rcases hl_ with hl | hl | hl | hl | hl | hl | hl
  · have e5 : v5.toInt = 0 := by omega
    refine h_isn c (hd 4 6 _ _ rfl) (by decide) (L' := [(3, .int v5), (0, .int a), (1, .ref (G.2.1.1 18)), (2, .int b)]) (by rfl) (hat 7 rfl ?_)
    refine h_iln c (hd 5 7 _ _ rfl) (by rfl) (hat 8 rfl ?_)
    refine h_aln c (hd 6 8 _ _ rfl) (by rfl) (hat 9 rfl ?_)
    refine h_alen c (j := 18) (n := 12) (hd 7 9 _ _ rfl) (by rfl) (by decide) (fun v9 e9 => hat 10 rfl ?_)
    have e9 : v9.toInt = 12 := by omega
    refine h_cmp c (hd 8 10 _ _ rfl) (tgt := 15) (by decide) (fun (h10 : v5.toInt ≤ v9.toInt) => ?_) (fun (h10 : ¬ (v5.toInt ≤ v9.toInt)) => hat 13 rfl ?_)
    · skip
      refine h_iln c (hd 11 15 _ _ rfl) (by rfl) (hat 16 rfl ?_)
      refine h_is c (hd 12 16 _ _ rfl) (by decide) (L' := [(4, .int a), (3, .int v5), (0, .int a), (1, .ref (G.2.1.1 18)), (2, .int b)]) (by rfl) (hat 18 rfl ?_)
      refine h_iln c (hd 13 18 _ _ rfl) (by rfl) (hat 19 rfl ?_)
      refine h_ic c (hd 14 19 _ _ rfl) (by decide) (fun v19 e19 => hat 20 rfl ?_)
      refine h_sub c (hd 15 20 _ _ rfl) (by omega) (fun v20 e20 => hat 21 rfl ?_)
      have e20 : v20.toInt = (-1) := by omega
      refine h_is c (hd 16 21 _ _ rfl) (by decide) (L' := [(5, .int v20), (4, .int a), (3, .int v5), (0, .int a), (1, .ref (G.2.1.1 18)), (2, .int b)]) (by rfl) (hat 23 rfl ?_)
      refine h_il c (hd 17 23 _ _ rfl) (by rfl) (hat 25 rfl ?_)
      refine h_iln c (hd 18 25 _ _ rfl) (by rfl) (hat 26 rfl ?_)
      refine h_cmp c (hd 19 26 _ _ rfl) (tgt := 51) (by decide) (fun (h26 : v20.toInt < b.toInt) => ?_) (fun (h26 : ¬ (v20.toInt < b.toInt)) => hat 29 rfl ?_)
      · skip
        refine h_iln c (hd 32 51 _ _ rfl) (by rfl) (hat 52 rfl ?_)
        exact h_iret c (hd 33 52 _ _ rfl) rfl ⟨a, _, rfl, rfl, by omega, fun k hk => by
          omega⟩
      · exfalso; omega
    · exfalso; omega
  · have e5 : v5.toInt = 1 := by omega
    refine h_isn c (hd 4 6 _ _ rfl) (by decide) (L' := [(3, .int v5), (0, .int a), (1, .ref (G.2.1.1 18)), (2, .int b)]) (by rfl) (hat 7 rfl ?_)
    refine h_iln c (hd 5 7 _ _ rfl) (by rfl) (hat 8 rfl ?_)
    refine h_aln c (hd 6 8 _ _ rfl) (by rfl) (hat 9 rfl ?_)
    refine h_alen c (j := 18) (n := 12) (hd 7 9 _ _ rfl) (by rfl) (by decide) (fun v9 e9 => hat 10 rfl ?_)
    have e9 : v9.toInt = 12 := by omega
    refine h_cmp c (hd 8 10 _ _ rfl) (tgt := 15) (by decide) (fun (h10 : v5.toInt ≤ v9.toInt) => ?_) (fun (h10 : ¬ (v5.toInt ≤ v9.toInt)) => hat 13 rfl ?_)
    · skip
      refine h_iln c (hd 11 15 _ _ rfl) (by rfl) (hat 16 rfl ?_)
      refine h_is c (hd 12 16 _ _ rfl) (by decide) (L' := [(4, .int a), (3, .int v5), (0, .int a), (1, .ref (G.2.1.1 18)), (2, .int b)]) (by rfl) (hat 18 rfl ?_)
      refine h_iln c (hd 13 18 _ _ rfl) (by rfl) (hat 19 rfl ?_)
      refine h_ic c (hd 14 19 _ _ rfl) (by decide) (fun v19 e19 => hat 20 rfl ?_)
      refine h_sub c (hd 15 20 _ _ rfl) (by omega) (fun v20 e20 => hat 21 rfl ?_)
      have e20 : v20.toInt = 0 := by omega
      refine h_is c (hd 16 21 _ _ rfl) (by decide) (L' := [(5, .int v20), (4, .int a), (3, .int v5), (0, .int a), (1, .ref (G.2.1.1 18)), (2, .int b)]) (by rfl) (hat 23 rfl ?_)
      refine h_il c (hd 17 23 _ _ rfl) (by rfl) (hat 25 rfl ?_)
      refine h_iln c (hd 18 25 _ _ rfl) (by rfl) (hat 26 rfl ?_)
      refine h_cmp c (hd 19 26 _ _ rfl) (tgt := 51) (by decide) (fun (h26 : v20.toInt < b.toInt) => ?_) (fun (h26 : ¬ (v20.toInt < b.toInt)) => hat 29 rfl ?_)
      · exfalso; omega
      · skip
        refine h_aln c (hd 20 29 _ _ rfl) (by rfl) (hat 30 rfl ?_)
        refine h_il c (hd 21 30 _ _ rfl) (by rfl) (hat 32 rfl ?_)
        refine h_il c (hd 22 32 _ _ rfl) (by rfl) (hat 34 rfl ?_)
        refine h_bp c (hd 23 34 _ _ rfl) (by decide) (fun v34 e34 => hat 36 rfl ?_)
        refine h_rem c (hd 24 36 _ _ rfl) e34 (by decide) (by omega) (fun v36 e36 => hat 37 rfl ?_)
        refine h_iast c (hd 25 37 _ _ rfl) dla_18 ⟨by omega, by omega⟩ (congrArg Int.toNat e20) (by decide) (by decide) (rf_in_top _) (hat 38 rfl ?_)
        refine h_il c (hd 26 38 _ _ rfl) (by rfl) (hat 40 rfl ?_)
        refine h_bp c (hd 27 40 _ _ rfl) (by decide) (fun v40 e40 => hat 42 rfl ?_)
        refine h_div c (hd 28 42 _ _ rfl) e40 (by decide) (by omega) (fun v42 e42 => hat 43 rfl ?_)
        refine h_is c (hd 29 43 _ _ rfl) (by decide) (L' := [(4, .int v42), (5, .int v20), (3, .int v5), (0, .int a), (1, .ref (G.2.1.1 18)), (2, .int b)]) (by rfl) (hat 45 rfl ?_)
        refine h_inc c (fun r_ => [(5, .int r_), (4, .int v42), (3, .int v5), (0, .int a), (1, .ref (G.2.1.1 18)), (2, .int b)]) (hd 30 45 _ _ rfl) (by decide) (by decide) (by rfl) (by omega) (fun _ => by rfl) (fun v45 e45 => hat 48 rfl ?_)
        have e45 : v45.toInt = (-1) := by omega
        refine h_goto c (hd 31 48 _ _ rfl) (tgt := 23) (by decide) ?_
        refine h_il c (hd 17 23 _ _ rfl) (by rfl) (hat 25 rfl ?_)
        refine h_iln c (hd 18 25 _ _ rfl) (by rfl) (hat 26 rfl ?_)
        refine h_cmp c (hd 19 26 _ _ rfl) (tgt := 51) (by decide) (fun (h26_1 : v45.toInt < b.toInt) => ?_) (fun (h26_1 : ¬ (v45.toInt < b.toInt)) => hat 29 rfl ?_)
        · skip
          refine h_iln c (hd 32 51 _ _ rfl) (by rfl) (hat 52 rfl ?_)
          exact h_iret c (hd 33 52 _ _ rfl) rfl ⟨a, _, rfl, rfl, by omega, fun k hk => by
            rw [hl] at hk
            have hk_ : k = 0 := by omega
            have e_ := hk_
            · subst e_; unfold ltI; rw [hl]; show v36.toInt = a.toInt % 27; omega⟩
        · exfalso; omega
    · exfalso; omega
  · have e5 : v5.toInt = 2 := by omega
    refine h_isn c (hd 4 6 _ _ rfl) (by decide) (L' := [(3, .int v5), (0, .int a), (1, .ref (G.2.1.1 18)), (2, .int b)]) (by rfl) (hat 7 rfl ?_)
    refine h_iln c (hd 5 7 _ _ rfl) (by rfl) (hat 8 rfl ?_)
    refine h_aln c (hd 6 8 _ _ rfl) (by rfl) (hat 9 rfl ?_)
    refine h_alen c (j := 18) (n := 12) (hd 7 9 _ _ rfl) (by rfl) (by decide) (fun v9 e9 => hat 10 rfl ?_)
    have e9 : v9.toInt = 12 := by omega
    refine h_cmp c (hd 8 10 _ _ rfl) (tgt := 15) (by decide) (fun (h10 : v5.toInt ≤ v9.toInt) => ?_) (fun (h10 : ¬ (v5.toInt ≤ v9.toInt)) => hat 13 rfl ?_)
    · skip
      refine h_iln c (hd 11 15 _ _ rfl) (by rfl) (hat 16 rfl ?_)
      refine h_is c (hd 12 16 _ _ rfl) (by decide) (L' := [(4, .int a), (3, .int v5), (0, .int a), (1, .ref (G.2.1.1 18)), (2, .int b)]) (by rfl) (hat 18 rfl ?_)
      refine h_iln c (hd 13 18 _ _ rfl) (by rfl) (hat 19 rfl ?_)
      refine h_ic c (hd 14 19 _ _ rfl) (by decide) (fun v19 e19 => hat 20 rfl ?_)
      refine h_sub c (hd 15 20 _ _ rfl) (by omega) (fun v20 e20 => hat 21 rfl ?_)
      have e20 : v20.toInt = 1 := by omega
      refine h_is c (hd 16 21 _ _ rfl) (by decide) (L' := [(5, .int v20), (4, .int a), (3, .int v5), (0, .int a), (1, .ref (G.2.1.1 18)), (2, .int b)]) (by rfl) (hat 23 rfl ?_)
      refine h_il c (hd 17 23 _ _ rfl) (by rfl) (hat 25 rfl ?_)
      refine h_iln c (hd 18 25 _ _ rfl) (by rfl) (hat 26 rfl ?_)
      refine h_cmp c (hd 19 26 _ _ rfl) (tgt := 51) (by decide) (fun (h26 : v20.toInt < b.toInt) => ?_) (fun (h26 : ¬ (v20.toInt < b.toInt)) => hat 29 rfl ?_)
      · exfalso; omega
      · skip
        refine h_aln c (hd 20 29 _ _ rfl) (by rfl) (hat 30 rfl ?_)
        refine h_il c (hd 21 30 _ _ rfl) (by rfl) (hat 32 rfl ?_)
        refine h_il c (hd 22 32 _ _ rfl) (by rfl) (hat 34 rfl ?_)
        refine h_bp c (hd 23 34 _ _ rfl) (by decide) (fun v34 e34 => hat 36 rfl ?_)
        refine h_rem c (hd 24 36 _ _ rfl) e34 (by decide) (by omega) (fun v36 e36 => hat 37 rfl ?_)
        refine h_iast c (hd 25 37 _ _ rfl) dla_18 ⟨by omega, by omega⟩ (congrArg Int.toNat e20) (by decide) (by decide) (rf_in_top _) (hat 38 rfl ?_)
        refine h_il c (hd 26 38 _ _ rfl) (by rfl) (hat 40 rfl ?_)
        refine h_bp c (hd 27 40 _ _ rfl) (by decide) (fun v40 e40 => hat 42 rfl ?_)
        refine h_div c (hd 28 42 _ _ rfl) e40 (by decide) (by omega) (fun v42 e42 => hat 43 rfl ?_)
        refine h_is c (hd 29 43 _ _ rfl) (by decide) (L' := [(4, .int v42), (5, .int v20), (3, .int v5), (0, .int a), (1, .ref (G.2.1.1 18)), (2, .int b)]) (by rfl) (hat 45 rfl ?_)
        refine h_inc c (fun r_ => [(5, .int r_), (4, .int v42), (3, .int v5), (0, .int a), (1, .ref (G.2.1.1 18)), (2, .int b)]) (hd 30 45 _ _ rfl) (by decide) (by decide) (by rfl) (by omega) (fun _ => by rfl) (fun v45 e45 => hat 48 rfl ?_)
        have e45 : v45.toInt = 0 := by omega
        refine h_goto c (hd 31 48 _ _ rfl) (tgt := 23) (by decide) ?_
        refine h_il c (hd 17 23 _ _ rfl) (by rfl) (hat 25 rfl ?_)
        refine h_iln c (hd 18 25 _ _ rfl) (by rfl) (hat 26 rfl ?_)
        refine h_cmp c (hd 19 26 _ _ rfl) (tgt := 51) (by decide) (fun (h26_1 : v45.toInt < b.toInt) => ?_) (fun (h26_1 : ¬ (v45.toInt < b.toInt)) => hat 29 rfl ?_)
        · exfalso; omega
        · skip
          refine h_aln c (hd 20 29 _ _ rfl) (by rfl) (hat 30 rfl ?_)
          refine h_il c (hd 21 30 _ _ rfl) (by rfl) (hat 32 rfl ?_)
          refine h_il c (hd 22 32 _ _ rfl) (by rfl) (hat 34 rfl ?_)
          refine h_bp c (hd 23 34 _ _ rfl) (by decide) (fun v34_1 e34_1 => hat 36 rfl ?_)
          refine h_rem c (hd 24 36 _ _ rfl) e34_1 (by decide) (by omega) (fun v36_1 e36_1 => hat 37 rfl ?_)
          refine h_iast c (hd 25 37 _ _ rfl) dla_18 ⟨by omega, by omega⟩ (congrArg Int.toNat e45) (by decide) (by decide) (rf_in_top _) (hat 38 rfl ?_)
          refine h_il c (hd 26 38 _ _ rfl) (by rfl) (hat 40 rfl ?_)
          refine h_bp c (hd 27 40 _ _ rfl) (by decide) (fun v40_1 e40_1 => hat 42 rfl ?_)
          refine h_div c (hd 28 42 _ _ rfl) e40_1 (by decide) (by omega) (fun v42_1 e42_1 => hat 43 rfl ?_)
          refine h_is c (hd 29 43 _ _ rfl) (by decide) (L' := [(4, .int v42_1), (5, .int v45), (3, .int v5), (0, .int a), (1, .ref (G.2.1.1 18)), (2, .int b)]) (by rfl) (hat 45 rfl ?_)
          refine h_inc c (fun r_ => [(5, .int r_), (4, .int v42_1), (3, .int v5), (0, .int a), (1, .ref (G.2.1.1 18)), (2, .int b)]) (hd 30 45 _ _ rfl) (by decide) (by decide) (by rfl) (by omega) (fun _ => by rfl) (fun v45_1 e45_1 => hat 48 rfl ?_)
          have e45_1 : v45_1.toInt = (-1) := by omega
          refine h_goto c (hd 31 48 _ _ rfl) (tgt := 23) (by decide) ?_
          refine h_il c (hd 17 23 _ _ rfl) (by rfl) (hat 25 rfl ?_)
          refine h_iln c (hd 18 25 _ _ rfl) (by rfl) (hat 26 rfl ?_)
          refine h_cmp c (hd 19 26 _ _ rfl) (tgt := 51) (by decide) (fun (h26_2 : v45_1.toInt < b.toInt) => ?_) (fun (h26_2 : ¬ (v45_1.toInt < b.toInt)) => hat 29 rfl ?_)
          · skip
            refine h_iln c (hd 32 51 _ _ rfl) (by rfl) (hat 52 rfl ?_)
            exact h_iret c (hd 33 52 _ _ rfl) rfl ⟨a, _, rfl, rfl, by omega, fun k hk => by
              rw [hl] at hk
              have hk_ : k = 0 ∨ k = 1 := by omega
              rcases hk_ with e_ | e_
              · subst e_; unfold ltI; rw [hl]; show v36_1.toInt = a.toInt / 27 % 27; omega
              · subst e_; unfold ltI; rw [hl]; show v36.toInt = a.toInt % 27; omega⟩
          · exfalso; omega
    · exfalso; omega
  · have e5 : v5.toInt = 3 := by omega
    refine h_isn c (hd 4 6 _ _ rfl) (by decide) (L' := [(3, .int v5), (0, .int a), (1, .ref (G.2.1.1 18)), (2, .int b)]) (by rfl) (hat 7 rfl ?_)
    refine h_iln c (hd 5 7 _ _ rfl) (by rfl) (hat 8 rfl ?_)
    refine h_aln c (hd 6 8 _ _ rfl) (by rfl) (hat 9 rfl ?_)
    refine h_alen c (j := 18) (n := 12) (hd 7 9 _ _ rfl) (by rfl) (by decide) (fun v9 e9 => hat 10 rfl ?_)
    have e9 : v9.toInt = 12 := by omega
    refine h_cmp c (hd 8 10 _ _ rfl) (tgt := 15) (by decide) (fun (h10 : v5.toInt ≤ v9.toInt) => ?_) (fun (h10 : ¬ (v5.toInt ≤ v9.toInt)) => hat 13 rfl ?_)
    · skip
      refine h_iln c (hd 11 15 _ _ rfl) (by rfl) (hat 16 rfl ?_)
      refine h_is c (hd 12 16 _ _ rfl) (by decide) (L' := [(4, .int a), (3, .int v5), (0, .int a), (1, .ref (G.2.1.1 18)), (2, .int b)]) (by rfl) (hat 18 rfl ?_)
      refine h_iln c (hd 13 18 _ _ rfl) (by rfl) (hat 19 rfl ?_)
      refine h_ic c (hd 14 19 _ _ rfl) (by decide) (fun v19 e19 => hat 20 rfl ?_)
      refine h_sub c (hd 15 20 _ _ rfl) (by omega) (fun v20 e20 => hat 21 rfl ?_)
      have e20 : v20.toInt = 2 := by omega
      refine h_is c (hd 16 21 _ _ rfl) (by decide) (L' := [(5, .int v20), (4, .int a), (3, .int v5), (0, .int a), (1, .ref (G.2.1.1 18)), (2, .int b)]) (by rfl) (hat 23 rfl ?_)
      refine h_il c (hd 17 23 _ _ rfl) (by rfl) (hat 25 rfl ?_)
      refine h_iln c (hd 18 25 _ _ rfl) (by rfl) (hat 26 rfl ?_)
      refine h_cmp c (hd 19 26 _ _ rfl) (tgt := 51) (by decide) (fun (h26 : v20.toInt < b.toInt) => ?_) (fun (h26 : ¬ (v20.toInt < b.toInt)) => hat 29 rfl ?_)
      · exfalso; omega
      · skip
        refine h_aln c (hd 20 29 _ _ rfl) (by rfl) (hat 30 rfl ?_)
        refine h_il c (hd 21 30 _ _ rfl) (by rfl) (hat 32 rfl ?_)
        refine h_il c (hd 22 32 _ _ rfl) (by rfl) (hat 34 rfl ?_)
        refine h_bp c (hd 23 34 _ _ rfl) (by decide) (fun v34 e34 => hat 36 rfl ?_)
        refine h_rem c (hd 24 36 _ _ rfl) e34 (by decide) (by omega) (fun v36 e36 => hat 37 rfl ?_)
        refine h_iast c (hd 25 37 _ _ rfl) dla_18 ⟨by omega, by omega⟩ (congrArg Int.toNat e20) (by decide) (by decide) (rf_in_top _) (hat 38 rfl ?_)
        refine h_il c (hd 26 38 _ _ rfl) (by rfl) (hat 40 rfl ?_)
        refine h_bp c (hd 27 40 _ _ rfl) (by decide) (fun v40 e40 => hat 42 rfl ?_)
        refine h_div c (hd 28 42 _ _ rfl) e40 (by decide) (by omega) (fun v42 e42 => hat 43 rfl ?_)
        refine h_is c (hd 29 43 _ _ rfl) (by decide) (L' := [(4, .int v42), (5, .int v20), (3, .int v5), (0, .int a), (1, .ref (G.2.1.1 18)), (2, .int b)]) (by rfl) (hat 45 rfl ?_)
        refine h_inc c (fun r_ => [(5, .int r_), (4, .int v42), (3, .int v5), (0, .int a), (1, .ref (G.2.1.1 18)), (2, .int b)]) (hd 30 45 _ _ rfl) (by decide) (by decide) (by rfl) (by omega) (fun _ => by rfl) (fun v45 e45 => hat 48 rfl ?_)
        have e45 : v45.toInt = 1 := by omega
        refine h_goto c (hd 31 48 _ _ rfl) (tgt := 23) (by decide) ?_
        refine h_il c (hd 17 23 _ _ rfl) (by rfl) (hat 25 rfl ?_)
        refine h_iln c (hd 18 25 _ _ rfl) (by rfl) (hat 26 rfl ?_)
        refine h_cmp c (hd 19 26 _ _ rfl) (tgt := 51) (by decide) (fun (h26_1 : v45.toInt < b.toInt) => ?_) (fun (h26_1 : ¬ (v45.toInt < b.toInt)) => hat 29 rfl ?_)
        · exfalso; omega
        · skip
          refine h_aln c (hd 20 29 _ _ rfl) (by rfl) (hat 30 rfl ?_)
          refine h_il c (hd 21 30 _ _ rfl) (by rfl) (hat 32 rfl ?_)
          refine h_il c (hd 22 32 _ _ rfl) (by rfl) (hat 34 rfl ?_)
          refine h_bp c (hd 23 34 _ _ rfl) (by decide) (fun v34_1 e34_1 => hat 36 rfl ?_)
          refine h_rem c (hd 24 36 _ _ rfl) e34_1 (by decide) (by omega) (fun v36_1 e36_1 => hat 37 rfl ?_)
          refine h_iast c (hd 25 37 _ _ rfl) dla_18 ⟨by omega, by omega⟩ (congrArg Int.toNat e45) (by decide) (by decide) (rf_in_top _) (hat 38 rfl ?_)
          refine h_il c (hd 26 38 _ _ rfl) (by rfl) (hat 40 rfl ?_)
          refine h_bp c (hd 27 40 _ _ rfl) (by decide) (fun v40_1 e40_1 => hat 42 rfl ?_)
          refine h_div c (hd 28 42 _ _ rfl) e40_1 (by decide) (by omega) (fun v42_1 e42_1 => hat 43 rfl ?_)
          refine h_is c (hd 29 43 _ _ rfl) (by decide) (L' := [(4, .int v42_1), (5, .int v45), (3, .int v5), (0, .int a), (1, .ref (G.2.1.1 18)), (2, .int b)]) (by rfl) (hat 45 rfl ?_)
          refine h_inc c (fun r_ => [(5, .int r_), (4, .int v42_1), (3, .int v5), (0, .int a), (1, .ref (G.2.1.1 18)), (2, .int b)]) (hd 30 45 _ _ rfl) (by decide) (by decide) (by rfl) (by omega) (fun _ => by rfl) (fun v45_1 e45_1 => hat 48 rfl ?_)
          have e45_1 : v45_1.toInt = 0 := by omega
          refine h_goto c (hd 31 48 _ _ rfl) (tgt := 23) (by decide) ?_
          refine h_il c (hd 17 23 _ _ rfl) (by rfl) (hat 25 rfl ?_)
          refine h_iln c (hd 18 25 _ _ rfl) (by rfl) (hat 26 rfl ?_)
          refine h_cmp c (hd 19 26 _ _ rfl) (tgt := 51) (by decide) (fun (h26_2 : v45_1.toInt < b.toInt) => ?_) (fun (h26_2 : ¬ (v45_1.toInt < b.toInt)) => hat 29 rfl ?_)
          · exfalso; omega
          · skip
            refine h_aln c (hd 20 29 _ _ rfl) (by rfl) (hat 30 rfl ?_)
            refine h_il c (hd 21 30 _ _ rfl) (by rfl) (hat 32 rfl ?_)
            refine h_il c (hd 22 32 _ _ rfl) (by rfl) (hat 34 rfl ?_)
            refine h_bp c (hd 23 34 _ _ rfl) (by decide) (fun v34_2 e34_2 => hat 36 rfl ?_)
            refine h_rem c (hd 24 36 _ _ rfl) e34_2 (by decide) (by omega) (fun v36_2 e36_2 => hat 37 rfl ?_)
            refine h_iast c (hd 25 37 _ _ rfl) dla_18 ⟨by omega, by omega⟩ (congrArg Int.toNat e45_1) (by decide) (by decide) (rf_in_top _) (hat 38 rfl ?_)
            refine h_il c (hd 26 38 _ _ rfl) (by rfl) (hat 40 rfl ?_)
            refine h_bp c (hd 27 40 _ _ rfl) (by decide) (fun v40_2 e40_2 => hat 42 rfl ?_)
            refine h_div c (hd 28 42 _ _ rfl) e40_2 (by decide) (by omega) (fun v42_2 e42_2 => hat 43 rfl ?_)
            refine h_is c (hd 29 43 _ _ rfl) (by decide) (L' := [(4, .int v42_2), (5, .int v45_1), (3, .int v5), (0, .int a), (1, .ref (G.2.1.1 18)), (2, .int b)]) (by rfl) (hat 45 rfl ?_)
            refine h_inc c (fun r_ => [(5, .int r_), (4, .int v42_2), (3, .int v5), (0, .int a), (1, .ref (G.2.1.1 18)), (2, .int b)]) (hd 30 45 _ _ rfl) (by decide) (by decide) (by rfl) (by omega) (fun _ => by rfl) (fun v45_2 e45_2 => hat 48 rfl ?_)
            have e45_2 : v45_2.toInt = (-1) := by omega
            refine h_goto c (hd 31 48 _ _ rfl) (tgt := 23) (by decide) ?_
            refine h_il c (hd 17 23 _ _ rfl) (by rfl) (hat 25 rfl ?_)
            refine h_iln c (hd 18 25 _ _ rfl) (by rfl) (hat 26 rfl ?_)
            refine h_cmp c (hd 19 26 _ _ rfl) (tgt := 51) (by decide) (fun (h26_3 : v45_2.toInt < b.toInt) => ?_) (fun (h26_3 : ¬ (v45_2.toInt < b.toInt)) => hat 29 rfl ?_)
            · skip
              refine h_iln c (hd 32 51 _ _ rfl) (by rfl) (hat 52 rfl ?_)
              exact h_iret c (hd 33 52 _ _ rfl) rfl ⟨a, _, rfl, rfl, by omega, fun k hk => by
                rw [hl] at hk
                have hk_ : k = 0 ∨ k = 1 ∨ k = 2 := by omega
                rcases hk_ with e_ | e_ | e_
                · subst e_; unfold ltI; rw [hl]; show v36_2.toInt = a.toInt / 27 / 27 % 27; omega
                · subst e_; unfold ltI; rw [hl]; show v36_1.toInt = a.toInt / 27 % 27; omega
                · subst e_; unfold ltI; rw [hl]; show v36.toInt = a.toInt % 27; omega⟩
            · exfalso; omega
    · exfalso; omega
  · have e5 : v5.toInt = 4 := by omega
    refine h_isn c (hd 4 6 _ _ rfl) (by decide) (L' := [(3, .int v5), (0, .int a), (1, .ref (G.2.1.1 18)), (2, .int b)]) (by rfl) (hat 7 rfl ?_)
    refine h_iln c (hd 5 7 _ _ rfl) (by rfl) (hat 8 rfl ?_)
    refine h_aln c (hd 6 8 _ _ rfl) (by rfl) (hat 9 rfl ?_)
    refine h_alen c (j := 18) (n := 12) (hd 7 9 _ _ rfl) (by rfl) (by decide) (fun v9 e9 => hat 10 rfl ?_)
    have e9 : v9.toInt = 12 := by omega
    refine h_cmp c (hd 8 10 _ _ rfl) (tgt := 15) (by decide) (fun (h10 : v5.toInt ≤ v9.toInt) => ?_) (fun (h10 : ¬ (v5.toInt ≤ v9.toInt)) => hat 13 rfl ?_)
    · skip
      refine h_iln c (hd 11 15 _ _ rfl) (by rfl) (hat 16 rfl ?_)
      refine h_is c (hd 12 16 _ _ rfl) (by decide) (L' := [(4, .int a), (3, .int v5), (0, .int a), (1, .ref (G.2.1.1 18)), (2, .int b)]) (by rfl) (hat 18 rfl ?_)
      refine h_iln c (hd 13 18 _ _ rfl) (by rfl) (hat 19 rfl ?_)
      refine h_ic c (hd 14 19 _ _ rfl) (by decide) (fun v19 e19 => hat 20 rfl ?_)
      refine h_sub c (hd 15 20 _ _ rfl) (by omega) (fun v20 e20 => hat 21 rfl ?_)
      have e20 : v20.toInt = 3 := by omega
      refine h_is c (hd 16 21 _ _ rfl) (by decide) (L' := [(5, .int v20), (4, .int a), (3, .int v5), (0, .int a), (1, .ref (G.2.1.1 18)), (2, .int b)]) (by rfl) (hat 23 rfl ?_)
      refine h_il c (hd 17 23 _ _ rfl) (by rfl) (hat 25 rfl ?_)
      refine h_iln c (hd 18 25 _ _ rfl) (by rfl) (hat 26 rfl ?_)
      refine h_cmp c (hd 19 26 _ _ rfl) (tgt := 51) (by decide) (fun (h26 : v20.toInt < b.toInt) => ?_) (fun (h26 : ¬ (v20.toInt < b.toInt)) => hat 29 rfl ?_)
      · exfalso; omega
      · skip
        refine h_aln c (hd 20 29 _ _ rfl) (by rfl) (hat 30 rfl ?_)
        refine h_il c (hd 21 30 _ _ rfl) (by rfl) (hat 32 rfl ?_)
        refine h_il c (hd 22 32 _ _ rfl) (by rfl) (hat 34 rfl ?_)
        refine h_bp c (hd 23 34 _ _ rfl) (by decide) (fun v34 e34 => hat 36 rfl ?_)
        refine h_rem c (hd 24 36 _ _ rfl) e34 (by decide) (by omega) (fun v36 e36 => hat 37 rfl ?_)
        refine h_iast c (hd 25 37 _ _ rfl) dla_18 ⟨by omega, by omega⟩ (congrArg Int.toNat e20) (by decide) (by decide) (rf_in_top _) (hat 38 rfl ?_)
        refine h_il c (hd 26 38 _ _ rfl) (by rfl) (hat 40 rfl ?_)
        refine h_bp c (hd 27 40 _ _ rfl) (by decide) (fun v40 e40 => hat 42 rfl ?_)
        refine h_div c (hd 28 42 _ _ rfl) e40 (by decide) (by omega) (fun v42 e42 => hat 43 rfl ?_)
        refine h_is c (hd 29 43 _ _ rfl) (by decide) (L' := [(4, .int v42), (5, .int v20), (3, .int v5), (0, .int a), (1, .ref (G.2.1.1 18)), (2, .int b)]) (by rfl) (hat 45 rfl ?_)
        refine h_inc c (fun r_ => [(5, .int r_), (4, .int v42), (3, .int v5), (0, .int a), (1, .ref (G.2.1.1 18)), (2, .int b)]) (hd 30 45 _ _ rfl) (by decide) (by decide) (by rfl) (by omega) (fun _ => by rfl) (fun v45 e45 => hat 48 rfl ?_)
        have e45 : v45.toInt = 2 := by omega
        refine h_goto c (hd 31 48 _ _ rfl) (tgt := 23) (by decide) ?_
        refine h_il c (hd 17 23 _ _ rfl) (by rfl) (hat 25 rfl ?_)
        refine h_iln c (hd 18 25 _ _ rfl) (by rfl) (hat 26 rfl ?_)
        refine h_cmp c (hd 19 26 _ _ rfl) (tgt := 51) (by decide) (fun (h26_1 : v45.toInt < b.toInt) => ?_) (fun (h26_1 : ¬ (v45.toInt < b.toInt)) => hat 29 rfl ?_)
        · exfalso; omega
        · skip
          refine h_aln c (hd 20 29 _ _ rfl) (by rfl) (hat 30 rfl ?_)
          refine h_il c (hd 21 30 _ _ rfl) (by rfl) (hat 32 rfl ?_)
          refine h_il c (hd 22 32 _ _ rfl) (by rfl) (hat 34 rfl ?_)
          refine h_bp c (hd 23 34 _ _ rfl) (by decide) (fun v34_1 e34_1 => hat 36 rfl ?_)
          refine h_rem c (hd 24 36 _ _ rfl) e34_1 (by decide) (by omega) (fun v36_1 e36_1 => hat 37 rfl ?_)
          refine h_iast c (hd 25 37 _ _ rfl) dla_18 ⟨by omega, by omega⟩ (congrArg Int.toNat e45) (by decide) (by decide) (rf_in_top _) (hat 38 rfl ?_)
          refine h_il c (hd 26 38 _ _ rfl) (by rfl) (hat 40 rfl ?_)
          refine h_bp c (hd 27 40 _ _ rfl) (by decide) (fun v40_1 e40_1 => hat 42 rfl ?_)
          refine h_div c (hd 28 42 _ _ rfl) e40_1 (by decide) (by omega) (fun v42_1 e42_1 => hat 43 rfl ?_)
          refine h_is c (hd 29 43 _ _ rfl) (by decide) (L' := [(4, .int v42_1), (5, .int v45), (3, .int v5), (0, .int a), (1, .ref (G.2.1.1 18)), (2, .int b)]) (by rfl) (hat 45 rfl ?_)
          refine h_inc c (fun r_ => [(5, .int r_), (4, .int v42_1), (3, .int v5), (0, .int a), (1, .ref (G.2.1.1 18)), (2, .int b)]) (hd 30 45 _ _ rfl) (by decide) (by decide) (by rfl) (by omega) (fun _ => by rfl) (fun v45_1 e45_1 => hat 48 rfl ?_)
          have e45_1 : v45_1.toInt = 1 := by omega
          refine h_goto c (hd 31 48 _ _ rfl) (tgt := 23) (by decide) ?_
          refine h_il c (hd 17 23 _ _ rfl) (by rfl) (hat 25 rfl ?_)
          refine h_iln c (hd 18 25 _ _ rfl) (by rfl) (hat 26 rfl ?_)
          refine h_cmp c (hd 19 26 _ _ rfl) (tgt := 51) (by decide) (fun (h26_2 : v45_1.toInt < b.toInt) => ?_) (fun (h26_2 : ¬ (v45_1.toInt < b.toInt)) => hat 29 rfl ?_)
          · exfalso; omega
          · skip
            refine h_aln c (hd 20 29 _ _ rfl) (by rfl) (hat 30 rfl ?_)
            refine h_il c (hd 21 30 _ _ rfl) (by rfl) (hat 32 rfl ?_)
            refine h_il c (hd 22 32 _ _ rfl) (by rfl) (hat 34 rfl ?_)
            refine h_bp c (hd 23 34 _ _ rfl) (by decide) (fun v34_2 e34_2 => hat 36 rfl ?_)
            refine h_rem c (hd 24 36 _ _ rfl) e34_2 (by decide) (by omega) (fun v36_2 e36_2 => hat 37 rfl ?_)
            refine h_iast c (hd 25 37 _ _ rfl) dla_18 ⟨by omega, by omega⟩ (congrArg Int.toNat e45_1) (by decide) (by decide) (rf_in_top _) (hat 38 rfl ?_)
            refine h_il c (hd 26 38 _ _ rfl) (by rfl) (hat 40 rfl ?_)
            refine h_bp c (hd 27 40 _ _ rfl) (by decide) (fun v40_2 e40_2 => hat 42 rfl ?_)
            refine h_div c (hd 28 42 _ _ rfl) e40_2 (by decide) (by omega) (fun v42_2 e42_2 => hat 43 rfl ?_)
            refine h_is c (hd 29 43 _ _ rfl) (by decide) (L' := [(4, .int v42_2), (5, .int v45_1), (3, .int v5), (0, .int a), (1, .ref (G.2.1.1 18)), (2, .int b)]) (by rfl) (hat 45 rfl ?_)
            refine h_inc c (fun r_ => [(5, .int r_), (4, .int v42_2), (3, .int v5), (0, .int a), (1, .ref (G.2.1.1 18)), (2, .int b)]) (hd 30 45 _ _ rfl) (by decide) (by decide) (by rfl) (by omega) (fun _ => by rfl) (fun v45_2 e45_2 => hat 48 rfl ?_)
            have e45_2 : v45_2.toInt = 0 := by omega
            refine h_goto c (hd 31 48 _ _ rfl) (tgt := 23) (by decide) ?_
            refine h_il c (hd 17 23 _ _ rfl) (by rfl) (hat 25 rfl ?_)
            refine h_iln c (hd 18 25 _ _ rfl) (by rfl) (hat 26 rfl ?_)
            refine h_cmp c (hd 19 26 _ _ rfl) (tgt := 51) (by decide) (fun (h26_3 : v45_2.toInt < b.toInt) => ?_) (fun (h26_3 : ¬ (v45_2.toInt < b.toInt)) => hat 29 rfl ?_)
            · exfalso; omega
            · skip
              refine h_aln c (hd 20 29 _ _ rfl) (by rfl) (hat 30 rfl ?_)
              refine h_il c (hd 21 30 _ _ rfl) (by rfl) (hat 32 rfl ?_)
              refine h_il c (hd 22 32 _ _ rfl) (by rfl) (hat 34 rfl ?_)
              refine h_bp c (hd 23 34 _ _ rfl) (by decide) (fun v34_3 e34_3 => hat 36 rfl ?_)
              refine h_rem c (hd 24 36 _ _ rfl) e34_3 (by decide) (by omega) (fun v36_3 e36_3 => hat 37 rfl ?_)
              refine h_iast c (hd 25 37 _ _ rfl) dla_18 ⟨by omega, by omega⟩ (congrArg Int.toNat e45_2) (by decide) (by decide) (rf_in_top _) (hat 38 rfl ?_)
              refine h_il c (hd 26 38 _ _ rfl) (by rfl) (hat 40 rfl ?_)
              refine h_bp c (hd 27 40 _ _ rfl) (by decide) (fun v40_3 e40_3 => hat 42 rfl ?_)
              refine h_div c (hd 28 42 _ _ rfl) e40_3 (by decide) (by omega) (fun v42_3 e42_3 => hat 43 rfl ?_)
              refine h_is c (hd 29 43 _ _ rfl) (by decide) (L' := [(4, .int v42_3), (5, .int v45_2), (3, .int v5), (0, .int a), (1, .ref (G.2.1.1 18)), (2, .int b)]) (by rfl) (hat 45 rfl ?_)
              refine h_inc c (fun r_ => [(5, .int r_), (4, .int v42_3), (3, .int v5), (0, .int a), (1, .ref (G.2.1.1 18)), (2, .int b)]) (hd 30 45 _ _ rfl) (by decide) (by decide) (by rfl) (by omega) (fun _ => by rfl) (fun v45_3 e45_3 => hat 48 rfl ?_)
              have e45_3 : v45_3.toInt = (-1) := by omega
              refine h_goto c (hd 31 48 _ _ rfl) (tgt := 23) (by decide) ?_
              refine h_il c (hd 17 23 _ _ rfl) (by rfl) (hat 25 rfl ?_)
              refine h_iln c (hd 18 25 _ _ rfl) (by rfl) (hat 26 rfl ?_)
              refine h_cmp c (hd 19 26 _ _ rfl) (tgt := 51) (by decide) (fun (h26_4 : v45_3.toInt < b.toInt) => ?_) (fun (h26_4 : ¬ (v45_3.toInt < b.toInt)) => hat 29 rfl ?_)
              · skip
                refine h_iln c (hd 32 51 _ _ rfl) (by rfl) (hat 52 rfl ?_)
                exact h_iret c (hd 33 52 _ _ rfl) rfl ⟨a, _, rfl, rfl, by omega, fun k hk => by
                  rw [hl] at hk
                  have hk_ : k = 0 ∨ k = 1 ∨ k = 2 ∨ k = 3 := by omega
                  rcases hk_ with e_ | e_ | e_ | e_
                  · subst e_; unfold ltI; rw [hl]; show v36_3.toInt = a.toInt / 27 / 27 / 27 % 27; omega
                  · subst e_; unfold ltI; rw [hl]; show v36_2.toInt = a.toInt / 27 / 27 % 27; omega
                  · subst e_; unfold ltI; rw [hl]; show v36_1.toInt = a.toInt / 27 % 27; omega
                  · subst e_; unfold ltI; rw [hl]; show v36.toInt = a.toInt % 27; omega⟩
              · exfalso; omega
    · exfalso; omega
  · have e5 : v5.toInt = 5 := by omega
    refine h_isn c (hd 4 6 _ _ rfl) (by decide) (L' := [(3, .int v5), (0, .int a), (1, .ref (G.2.1.1 18)), (2, .int b)]) (by rfl) (hat 7 rfl ?_)
    refine h_iln c (hd 5 7 _ _ rfl) (by rfl) (hat 8 rfl ?_)
    refine h_aln c (hd 6 8 _ _ rfl) (by rfl) (hat 9 rfl ?_)
    refine h_alen c (j := 18) (n := 12) (hd 7 9 _ _ rfl) (by rfl) (by decide) (fun v9 e9 => hat 10 rfl ?_)
    have e9 : v9.toInt = 12 := by omega
    refine h_cmp c (hd 8 10 _ _ rfl) (tgt := 15) (by decide) (fun (h10 : v5.toInt ≤ v9.toInt) => ?_) (fun (h10 : ¬ (v5.toInt ≤ v9.toInt)) => hat 13 rfl ?_)
    · skip
      refine h_iln c (hd 11 15 _ _ rfl) (by rfl) (hat 16 rfl ?_)
      refine h_is c (hd 12 16 _ _ rfl) (by decide) (L' := [(4, .int a), (3, .int v5), (0, .int a), (1, .ref (G.2.1.1 18)), (2, .int b)]) (by rfl) (hat 18 rfl ?_)
      refine h_iln c (hd 13 18 _ _ rfl) (by rfl) (hat 19 rfl ?_)
      refine h_ic c (hd 14 19 _ _ rfl) (by decide) (fun v19 e19 => hat 20 rfl ?_)
      refine h_sub c (hd 15 20 _ _ rfl) (by omega) (fun v20 e20 => hat 21 rfl ?_)
      have e20 : v20.toInt = 4 := by omega
      refine h_is c (hd 16 21 _ _ rfl) (by decide) (L' := [(5, .int v20), (4, .int a), (3, .int v5), (0, .int a), (1, .ref (G.2.1.1 18)), (2, .int b)]) (by rfl) (hat 23 rfl ?_)
      refine h_il c (hd 17 23 _ _ rfl) (by rfl) (hat 25 rfl ?_)
      refine h_iln c (hd 18 25 _ _ rfl) (by rfl) (hat 26 rfl ?_)
      refine h_cmp c (hd 19 26 _ _ rfl) (tgt := 51) (by decide) (fun (h26 : v20.toInt < b.toInt) => ?_) (fun (h26 : ¬ (v20.toInt < b.toInt)) => hat 29 rfl ?_)
      · exfalso; omega
      · skip
        refine h_aln c (hd 20 29 _ _ rfl) (by rfl) (hat 30 rfl ?_)
        refine h_il c (hd 21 30 _ _ rfl) (by rfl) (hat 32 rfl ?_)
        refine h_il c (hd 22 32 _ _ rfl) (by rfl) (hat 34 rfl ?_)
        refine h_bp c (hd 23 34 _ _ rfl) (by decide) (fun v34 e34 => hat 36 rfl ?_)
        refine h_rem c (hd 24 36 _ _ rfl) e34 (by decide) (by omega) (fun v36 e36 => hat 37 rfl ?_)
        refine h_iast c (hd 25 37 _ _ rfl) dla_18 ⟨by omega, by omega⟩ (congrArg Int.toNat e20) (by decide) (by decide) (rf_in_top _) (hat 38 rfl ?_)
        refine h_il c (hd 26 38 _ _ rfl) (by rfl) (hat 40 rfl ?_)
        refine h_bp c (hd 27 40 _ _ rfl) (by decide) (fun v40 e40 => hat 42 rfl ?_)
        refine h_div c (hd 28 42 _ _ rfl) e40 (by decide) (by omega) (fun v42 e42 => hat 43 rfl ?_)
        refine h_is c (hd 29 43 _ _ rfl) (by decide) (L' := [(4, .int v42), (5, .int v20), (3, .int v5), (0, .int a), (1, .ref (G.2.1.1 18)), (2, .int b)]) (by rfl) (hat 45 rfl ?_)
        refine h_inc c (fun r_ => [(5, .int r_), (4, .int v42), (3, .int v5), (0, .int a), (1, .ref (G.2.1.1 18)), (2, .int b)]) (hd 30 45 _ _ rfl) (by decide) (by decide) (by rfl) (by omega) (fun _ => by rfl) (fun v45 e45 => hat 48 rfl ?_)
        have e45 : v45.toInt = 3 := by omega
        refine h_goto c (hd 31 48 _ _ rfl) (tgt := 23) (by decide) ?_
        refine h_il c (hd 17 23 _ _ rfl) (by rfl) (hat 25 rfl ?_)
        refine h_iln c (hd 18 25 _ _ rfl) (by rfl) (hat 26 rfl ?_)
        refine h_cmp c (hd 19 26 _ _ rfl) (tgt := 51) (by decide) (fun (h26_1 : v45.toInt < b.toInt) => ?_) (fun (h26_1 : ¬ (v45.toInt < b.toInt)) => hat 29 rfl ?_)
        · exfalso; omega
        · skip
          refine h_aln c (hd 20 29 _ _ rfl) (by rfl) (hat 30 rfl ?_)
          refine h_il c (hd 21 30 _ _ rfl) (by rfl) (hat 32 rfl ?_)
          refine h_il c (hd 22 32 _ _ rfl) (by rfl) (hat 34 rfl ?_)
          refine h_bp c (hd 23 34 _ _ rfl) (by decide) (fun v34_1 e34_1 => hat 36 rfl ?_)
          refine h_rem c (hd 24 36 _ _ rfl) e34_1 (by decide) (by omega) (fun v36_1 e36_1 => hat 37 rfl ?_)
          refine h_iast c (hd 25 37 _ _ rfl) dla_18 ⟨by omega, by omega⟩ (congrArg Int.toNat e45) (by decide) (by decide) (rf_in_top _) (hat 38 rfl ?_)
          refine h_il c (hd 26 38 _ _ rfl) (by rfl) (hat 40 rfl ?_)
          refine h_bp c (hd 27 40 _ _ rfl) (by decide) (fun v40_1 e40_1 => hat 42 rfl ?_)
          refine h_div c (hd 28 42 _ _ rfl) e40_1 (by decide) (by omega) (fun v42_1 e42_1 => hat 43 rfl ?_)
          refine h_is c (hd 29 43 _ _ rfl) (by decide) (L' := [(4, .int v42_1), (5, .int v45), (3, .int v5), (0, .int a), (1, .ref (G.2.1.1 18)), (2, .int b)]) (by rfl) (hat 45 rfl ?_)
          refine h_inc c (fun r_ => [(5, .int r_), (4, .int v42_1), (3, .int v5), (0, .int a), (1, .ref (G.2.1.1 18)), (2, .int b)]) (hd 30 45 _ _ rfl) (by decide) (by decide) (by rfl) (by omega) (fun _ => by rfl) (fun v45_1 e45_1 => hat 48 rfl ?_)
          have e45_1 : v45_1.toInt = 2 := by omega
          refine h_goto c (hd 31 48 _ _ rfl) (tgt := 23) (by decide) ?_
          refine h_il c (hd 17 23 _ _ rfl) (by rfl) (hat 25 rfl ?_)
          refine h_iln c (hd 18 25 _ _ rfl) (by rfl) (hat 26 rfl ?_)
          refine h_cmp c (hd 19 26 _ _ rfl) (tgt := 51) (by decide) (fun (h26_2 : v45_1.toInt < b.toInt) => ?_) (fun (h26_2 : ¬ (v45_1.toInt < b.toInt)) => hat 29 rfl ?_)
          · exfalso; omega
          · skip
            refine h_aln c (hd 20 29 _ _ rfl) (by rfl) (hat 30 rfl ?_)
            refine h_il c (hd 21 30 _ _ rfl) (by rfl) (hat 32 rfl ?_)
            refine h_il c (hd 22 32 _ _ rfl) (by rfl) (hat 34 rfl ?_)
            refine h_bp c (hd 23 34 _ _ rfl) (by decide) (fun v34_2 e34_2 => hat 36 rfl ?_)
            refine h_rem c (hd 24 36 _ _ rfl) e34_2 (by decide) (by omega) (fun v36_2 e36_2 => hat 37 rfl ?_)
            refine h_iast c (hd 25 37 _ _ rfl) dla_18 ⟨by omega, by omega⟩ (congrArg Int.toNat e45_1) (by decide) (by decide) (rf_in_top _) (hat 38 rfl ?_)
            refine h_il c (hd 26 38 _ _ rfl) (by rfl) (hat 40 rfl ?_)
            refine h_bp c (hd 27 40 _ _ rfl) (by decide) (fun v40_2 e40_2 => hat 42 rfl ?_)
            refine h_div c (hd 28 42 _ _ rfl) e40_2 (by decide) (by omega) (fun v42_2 e42_2 => hat 43 rfl ?_)
            refine h_is c (hd 29 43 _ _ rfl) (by decide) (L' := [(4, .int v42_2), (5, .int v45_1), (3, .int v5), (0, .int a), (1, .ref (G.2.1.1 18)), (2, .int b)]) (by rfl) (hat 45 rfl ?_)
            refine h_inc c (fun r_ => [(5, .int r_), (4, .int v42_2), (3, .int v5), (0, .int a), (1, .ref (G.2.1.1 18)), (2, .int b)]) (hd 30 45 _ _ rfl) (by decide) (by decide) (by rfl) (by omega) (fun _ => by rfl) (fun v45_2 e45_2 => hat 48 rfl ?_)
            have e45_2 : v45_2.toInt = 1 := by omega
            refine h_goto c (hd 31 48 _ _ rfl) (tgt := 23) (by decide) ?_
            refine h_il c (hd 17 23 _ _ rfl) (by rfl) (hat 25 rfl ?_)
            refine h_iln c (hd 18 25 _ _ rfl) (by rfl) (hat 26 rfl ?_)
            refine h_cmp c (hd 19 26 _ _ rfl) (tgt := 51) (by decide) (fun (h26_3 : v45_2.toInt < b.toInt) => ?_) (fun (h26_3 : ¬ (v45_2.toInt < b.toInt)) => hat 29 rfl ?_)
            · exfalso; omega
            · skip
              refine h_aln c (hd 20 29 _ _ rfl) (by rfl) (hat 30 rfl ?_)
              refine h_il c (hd 21 30 _ _ rfl) (by rfl) (hat 32 rfl ?_)
              refine h_il c (hd 22 32 _ _ rfl) (by rfl) (hat 34 rfl ?_)
              refine h_bp c (hd 23 34 _ _ rfl) (by decide) (fun v34_3 e34_3 => hat 36 rfl ?_)
              refine h_rem c (hd 24 36 _ _ rfl) e34_3 (by decide) (by omega) (fun v36_3 e36_3 => hat 37 rfl ?_)
              refine h_iast c (hd 25 37 _ _ rfl) dla_18 ⟨by omega, by omega⟩ (congrArg Int.toNat e45_2) (by decide) (by decide) (rf_in_top _) (hat 38 rfl ?_)
              refine h_il c (hd 26 38 _ _ rfl) (by rfl) (hat 40 rfl ?_)
              refine h_bp c (hd 27 40 _ _ rfl) (by decide) (fun v40_3 e40_3 => hat 42 rfl ?_)
              refine h_div c (hd 28 42 _ _ rfl) e40_3 (by decide) (by omega) (fun v42_3 e42_3 => hat 43 rfl ?_)
              refine h_is c (hd 29 43 _ _ rfl) (by decide) (L' := [(4, .int v42_3), (5, .int v45_2), (3, .int v5), (0, .int a), (1, .ref (G.2.1.1 18)), (2, .int b)]) (by rfl) (hat 45 rfl ?_)
              refine h_inc c (fun r_ => [(5, .int r_), (4, .int v42_3), (3, .int v5), (0, .int a), (1, .ref (G.2.1.1 18)), (2, .int b)]) (hd 30 45 _ _ rfl) (by decide) (by decide) (by rfl) (by omega) (fun _ => by rfl) (fun v45_3 e45_3 => hat 48 rfl ?_)
              have e45_3 : v45_3.toInt = 0 := by omega
              refine h_goto c (hd 31 48 _ _ rfl) (tgt := 23) (by decide) ?_
              refine h_il c (hd 17 23 _ _ rfl) (by rfl) (hat 25 rfl ?_)
              refine h_iln c (hd 18 25 _ _ rfl) (by rfl) (hat 26 rfl ?_)
              refine h_cmp c (hd 19 26 _ _ rfl) (tgt := 51) (by decide) (fun (h26_4 : v45_3.toInt < b.toInt) => ?_) (fun (h26_4 : ¬ (v45_3.toInt < b.toInt)) => hat 29 rfl ?_)
              · exfalso; omega
              · skip
                refine h_aln c (hd 20 29 _ _ rfl) (by rfl) (hat 30 rfl ?_)
                refine h_il c (hd 21 30 _ _ rfl) (by rfl) (hat 32 rfl ?_)
                refine h_il c (hd 22 32 _ _ rfl) (by rfl) (hat 34 rfl ?_)
                refine h_bp c (hd 23 34 _ _ rfl) (by decide) (fun v34_4 e34_4 => hat 36 rfl ?_)
                refine h_rem c (hd 24 36 _ _ rfl) e34_4 (by decide) (by omega) (fun v36_4 e36_4 => hat 37 rfl ?_)
                refine h_iast c (hd 25 37 _ _ rfl) dla_18 ⟨by omega, by omega⟩ (congrArg Int.toNat e45_3) (by decide) (by decide) (rf_in_top _) (hat 38 rfl ?_)
                refine h_il c (hd 26 38 _ _ rfl) (by rfl) (hat 40 rfl ?_)
                refine h_bp c (hd 27 40 _ _ rfl) (by decide) (fun v40_4 e40_4 => hat 42 rfl ?_)
                refine h_div c (hd 28 42 _ _ rfl) e40_4 (by decide) (by omega) (fun v42_4 e42_4 => hat 43 rfl ?_)
                refine h_is c (hd 29 43 _ _ rfl) (by decide) (L' := [(4, .int v42_4), (5, .int v45_3), (3, .int v5), (0, .int a), (1, .ref (G.2.1.1 18)), (2, .int b)]) (by rfl) (hat 45 rfl ?_)
                refine h_inc c (fun r_ => [(5, .int r_), (4, .int v42_4), (3, .int v5), (0, .int a), (1, .ref (G.2.1.1 18)), (2, .int b)]) (hd 30 45 _ _ rfl) (by decide) (by decide) (by rfl) (by omega) (fun _ => by rfl) (fun v45_4 e45_4 => hat 48 rfl ?_)
                have e45_4 : v45_4.toInt = (-1) := by omega
                refine h_goto c (hd 31 48 _ _ rfl) (tgt := 23) (by decide) ?_
                refine h_il c (hd 17 23 _ _ rfl) (by rfl) (hat 25 rfl ?_)
                refine h_iln c (hd 18 25 _ _ rfl) (by rfl) (hat 26 rfl ?_)
                refine h_cmp c (hd 19 26 _ _ rfl) (tgt := 51) (by decide) (fun (h26_5 : v45_4.toInt < b.toInt) => ?_) (fun (h26_5 : ¬ (v45_4.toInt < b.toInt)) => hat 29 rfl ?_)
                · skip
                  refine h_iln c (hd 32 51 _ _ rfl) (by rfl) (hat 52 rfl ?_)
                  exact h_iret c (hd 33 52 _ _ rfl) rfl ⟨a, _, rfl, rfl, by omega, fun k hk => by
                    rw [hl] at hk
                    have hk_ : k = 0 ∨ k = 1 ∨ k = 2 ∨ k = 3 ∨ k = 4 := by omega
                    rcases hk_ with e_ | e_ | e_ | e_ | e_
                    · subst e_; unfold ltI; rw [hl]; show v36_4.toInt = a.toInt / 27 / 27 / 27 / 27 % 27; omega
                    · subst e_; unfold ltI; rw [hl]; show v36_3.toInt = a.toInt / 27 / 27 / 27 % 27; omega
                    · subst e_; unfold ltI; rw [hl]; show v36_2.toInt = a.toInt / 27 / 27 % 27; omega
                    · subst e_; unfold ltI; rw [hl]; show v36_1.toInt = a.toInt / 27 % 27; omega
                    · subst e_; unfold ltI; rw [hl]; show v36.toInt = a.toInt % 27; omega⟩
                · exfalso; omega
    · exfalso; omega
  · have e5 : v5.toInt = 6 := by omega
    refine h_isn c (hd 4 6 _ _ rfl) (by decide) (L' := [(3, .int v5), (0, .int a), (1, .ref (G.2.1.1 18)), (2, .int b)]) (by rfl) (hat 7 rfl ?_)
    refine h_iln c (hd 5 7 _ _ rfl) (by rfl) (hat 8 rfl ?_)
    refine h_aln c (hd 6 8 _ _ rfl) (by rfl) (hat 9 rfl ?_)
    refine h_alen c (j := 18) (n := 12) (hd 7 9 _ _ rfl) (by rfl) (by decide) (fun v9 e9 => hat 10 rfl ?_)
    have e9 : v9.toInt = 12 := by omega
    refine h_cmp c (hd 8 10 _ _ rfl) (tgt := 15) (by decide) (fun (h10 : v5.toInt ≤ v9.toInt) => ?_) (fun (h10 : ¬ (v5.toInt ≤ v9.toInt)) => hat 13 rfl ?_)
    · skip
      refine h_iln c (hd 11 15 _ _ rfl) (by rfl) (hat 16 rfl ?_)
      refine h_is c (hd 12 16 _ _ rfl) (by decide) (L' := [(4, .int a), (3, .int v5), (0, .int a), (1, .ref (G.2.1.1 18)), (2, .int b)]) (by rfl) (hat 18 rfl ?_)
      refine h_iln c (hd 13 18 _ _ rfl) (by rfl) (hat 19 rfl ?_)
      refine h_ic c (hd 14 19 _ _ rfl) (by decide) (fun v19 e19 => hat 20 rfl ?_)
      refine h_sub c (hd 15 20 _ _ rfl) (by omega) (fun v20 e20 => hat 21 rfl ?_)
      have e20 : v20.toInt = 5 := by omega
      refine h_is c (hd 16 21 _ _ rfl) (by decide) (L' := [(5, .int v20), (4, .int a), (3, .int v5), (0, .int a), (1, .ref (G.2.1.1 18)), (2, .int b)]) (by rfl) (hat 23 rfl ?_)
      refine h_il c (hd 17 23 _ _ rfl) (by rfl) (hat 25 rfl ?_)
      refine h_iln c (hd 18 25 _ _ rfl) (by rfl) (hat 26 rfl ?_)
      refine h_cmp c (hd 19 26 _ _ rfl) (tgt := 51) (by decide) (fun (h26 : v20.toInt < b.toInt) => ?_) (fun (h26 : ¬ (v20.toInt < b.toInt)) => hat 29 rfl ?_)
      · exfalso; omega
      · skip
        refine h_aln c (hd 20 29 _ _ rfl) (by rfl) (hat 30 rfl ?_)
        refine h_il c (hd 21 30 _ _ rfl) (by rfl) (hat 32 rfl ?_)
        refine h_il c (hd 22 32 _ _ rfl) (by rfl) (hat 34 rfl ?_)
        refine h_bp c (hd 23 34 _ _ rfl) (by decide) (fun v34 e34 => hat 36 rfl ?_)
        refine h_rem c (hd 24 36 _ _ rfl) e34 (by decide) (by omega) (fun v36 e36 => hat 37 rfl ?_)
        refine h_iast c (hd 25 37 _ _ rfl) dla_18 ⟨by omega, by omega⟩ (congrArg Int.toNat e20) (by decide) (by decide) (rf_in_top _) (hat 38 rfl ?_)
        refine h_il c (hd 26 38 _ _ rfl) (by rfl) (hat 40 rfl ?_)
        refine h_bp c (hd 27 40 _ _ rfl) (by decide) (fun v40 e40 => hat 42 rfl ?_)
        refine h_div c (hd 28 42 _ _ rfl) e40 (by decide) (by omega) (fun v42 e42 => hat 43 rfl ?_)
        refine h_is c (hd 29 43 _ _ rfl) (by decide) (L' := [(4, .int v42), (5, .int v20), (3, .int v5), (0, .int a), (1, .ref (G.2.1.1 18)), (2, .int b)]) (by rfl) (hat 45 rfl ?_)
        refine h_inc c (fun r_ => [(5, .int r_), (4, .int v42), (3, .int v5), (0, .int a), (1, .ref (G.2.1.1 18)), (2, .int b)]) (hd 30 45 _ _ rfl) (by decide) (by decide) (by rfl) (by omega) (fun _ => by rfl) (fun v45 e45 => hat 48 rfl ?_)
        have e45 : v45.toInt = 4 := by omega
        refine h_goto c (hd 31 48 _ _ rfl) (tgt := 23) (by decide) ?_
        refine h_il c (hd 17 23 _ _ rfl) (by rfl) (hat 25 rfl ?_)
        refine h_iln c (hd 18 25 _ _ rfl) (by rfl) (hat 26 rfl ?_)
        refine h_cmp c (hd 19 26 _ _ rfl) (tgt := 51) (by decide) (fun (h26_1 : v45.toInt < b.toInt) => ?_) (fun (h26_1 : ¬ (v45.toInt < b.toInt)) => hat 29 rfl ?_)
        · exfalso; omega
        · skip
          refine h_aln c (hd 20 29 _ _ rfl) (by rfl) (hat 30 rfl ?_)
          refine h_il c (hd 21 30 _ _ rfl) (by rfl) (hat 32 rfl ?_)
          refine h_il c (hd 22 32 _ _ rfl) (by rfl) (hat 34 rfl ?_)
          refine h_bp c (hd 23 34 _ _ rfl) (by decide) (fun v34_1 e34_1 => hat 36 rfl ?_)
          refine h_rem c (hd 24 36 _ _ rfl) e34_1 (by decide) (by omega) (fun v36_1 e36_1 => hat 37 rfl ?_)
          refine h_iast c (hd 25 37 _ _ rfl) dla_18 ⟨by omega, by omega⟩ (congrArg Int.toNat e45) (by decide) (by decide) (rf_in_top _) (hat 38 rfl ?_)
          refine h_il c (hd 26 38 _ _ rfl) (by rfl) (hat 40 rfl ?_)
          refine h_bp c (hd 27 40 _ _ rfl) (by decide) (fun v40_1 e40_1 => hat 42 rfl ?_)
          refine h_div c (hd 28 42 _ _ rfl) e40_1 (by decide) (by omega) (fun v42_1 e42_1 => hat 43 rfl ?_)
          refine h_is c (hd 29 43 _ _ rfl) (by decide) (L' := [(4, .int v42_1), (5, .int v45), (3, .int v5), (0, .int a), (1, .ref (G.2.1.1 18)), (2, .int b)]) (by rfl) (hat 45 rfl ?_)
          refine h_inc c (fun r_ => [(5, .int r_), (4, .int v42_1), (3, .int v5), (0, .int a), (1, .ref (G.2.1.1 18)), (2, .int b)]) (hd 30 45 _ _ rfl) (by decide) (by decide) (by rfl) (by omega) (fun _ => by rfl) (fun v45_1 e45_1 => hat 48 rfl ?_)
          have e45_1 : v45_1.toInt = 3 := by omega
          refine h_goto c (hd 31 48 _ _ rfl) (tgt := 23) (by decide) ?_
          refine h_il c (hd 17 23 _ _ rfl) (by rfl) (hat 25 rfl ?_)
          refine h_iln c (hd 18 25 _ _ rfl) (by rfl) (hat 26 rfl ?_)
          refine h_cmp c (hd 19 26 _ _ rfl) (tgt := 51) (by decide) (fun (h26_2 : v45_1.toInt < b.toInt) => ?_) (fun (h26_2 : ¬ (v45_1.toInt < b.toInt)) => hat 29 rfl ?_)
          · exfalso; omega
          · skip
            refine h_aln c (hd 20 29 _ _ rfl) (by rfl) (hat 30 rfl ?_)
            refine h_il c (hd 21 30 _ _ rfl) (by rfl) (hat 32 rfl ?_)
            refine h_il c (hd 22 32 _ _ rfl) (by rfl) (hat 34 rfl ?_)
            refine h_bp c (hd 23 34 _ _ rfl) (by decide) (fun v34_2 e34_2 => hat 36 rfl ?_)
            refine h_rem c (hd 24 36 _ _ rfl) e34_2 (by decide) (by omega) (fun v36_2 e36_2 => hat 37 rfl ?_)
            refine h_iast c (hd 25 37 _ _ rfl) dla_18 ⟨by omega, by omega⟩ (congrArg Int.toNat e45_1) (by decide) (by decide) (rf_in_top _) (hat 38 rfl ?_)
            refine h_il c (hd 26 38 _ _ rfl) (by rfl) (hat 40 rfl ?_)
            refine h_bp c (hd 27 40 _ _ rfl) (by decide) (fun v40_2 e40_2 => hat 42 rfl ?_)
            refine h_div c (hd 28 42 _ _ rfl) e40_2 (by decide) (by omega) (fun v42_2 e42_2 => hat 43 rfl ?_)
            refine h_is c (hd 29 43 _ _ rfl) (by decide) (L' := [(4, .int v42_2), (5, .int v45_1), (3, .int v5), (0, .int a), (1, .ref (G.2.1.1 18)), (2, .int b)]) (by rfl) (hat 45 rfl ?_)
            refine h_inc c (fun r_ => [(5, .int r_), (4, .int v42_2), (3, .int v5), (0, .int a), (1, .ref (G.2.1.1 18)), (2, .int b)]) (hd 30 45 _ _ rfl) (by decide) (by decide) (by rfl) (by omega) (fun _ => by rfl) (fun v45_2 e45_2 => hat 48 rfl ?_)
            have e45_2 : v45_2.toInt = 2 := by omega
            refine h_goto c (hd 31 48 _ _ rfl) (tgt := 23) (by decide) ?_
            refine h_il c (hd 17 23 _ _ rfl) (by rfl) (hat 25 rfl ?_)
            refine h_iln c (hd 18 25 _ _ rfl) (by rfl) (hat 26 rfl ?_)
            refine h_cmp c (hd 19 26 _ _ rfl) (tgt := 51) (by decide) (fun (h26_3 : v45_2.toInt < b.toInt) => ?_) (fun (h26_3 : ¬ (v45_2.toInt < b.toInt)) => hat 29 rfl ?_)
            · exfalso; omega
            · skip
              refine h_aln c (hd 20 29 _ _ rfl) (by rfl) (hat 30 rfl ?_)
              refine h_il c (hd 21 30 _ _ rfl) (by rfl) (hat 32 rfl ?_)
              refine h_il c (hd 22 32 _ _ rfl) (by rfl) (hat 34 rfl ?_)
              refine h_bp c (hd 23 34 _ _ rfl) (by decide) (fun v34_3 e34_3 => hat 36 rfl ?_)
              refine h_rem c (hd 24 36 _ _ rfl) e34_3 (by decide) (by omega) (fun v36_3 e36_3 => hat 37 rfl ?_)
              refine h_iast c (hd 25 37 _ _ rfl) dla_18 ⟨by omega, by omega⟩ (congrArg Int.toNat e45_2) (by decide) (by decide) (rf_in_top _) (hat 38 rfl ?_)
              refine h_il c (hd 26 38 _ _ rfl) (by rfl) (hat 40 rfl ?_)
              refine h_bp c (hd 27 40 _ _ rfl) (by decide) (fun v40_3 e40_3 => hat 42 rfl ?_)
              refine h_div c (hd 28 42 _ _ rfl) e40_3 (by decide) (by omega) (fun v42_3 e42_3 => hat 43 rfl ?_)
              refine h_is c (hd 29 43 _ _ rfl) (by decide) (L' := [(4, .int v42_3), (5, .int v45_2), (3, .int v5), (0, .int a), (1, .ref (G.2.1.1 18)), (2, .int b)]) (by rfl) (hat 45 rfl ?_)
              refine h_inc c (fun r_ => [(5, .int r_), (4, .int v42_3), (3, .int v5), (0, .int a), (1, .ref (G.2.1.1 18)), (2, .int b)]) (hd 30 45 _ _ rfl) (by decide) (by decide) (by rfl) (by omega) (fun _ => by rfl) (fun v45_3 e45_3 => hat 48 rfl ?_)
              have e45_3 : v45_3.toInt = 1 := by omega
              refine h_goto c (hd 31 48 _ _ rfl) (tgt := 23) (by decide) ?_
              refine h_il c (hd 17 23 _ _ rfl) (by rfl) (hat 25 rfl ?_)
              refine h_iln c (hd 18 25 _ _ rfl) (by rfl) (hat 26 rfl ?_)
              refine h_cmp c (hd 19 26 _ _ rfl) (tgt := 51) (by decide) (fun (h26_4 : v45_3.toInt < b.toInt) => ?_) (fun (h26_4 : ¬ (v45_3.toInt < b.toInt)) => hat 29 rfl ?_)
              · exfalso; omega
              · skip
                refine h_aln c (hd 20 29 _ _ rfl) (by rfl) (hat 30 rfl ?_)
                refine h_il c (hd 21 30 _ _ rfl) (by rfl) (hat 32 rfl ?_)
                refine h_il c (hd 22 32 _ _ rfl) (by rfl) (hat 34 rfl ?_)
                refine h_bp c (hd 23 34 _ _ rfl) (by decide) (fun v34_4 e34_4 => hat 36 rfl ?_)
                refine h_rem c (hd 24 36 _ _ rfl) e34_4 (by decide) (by omega) (fun v36_4 e36_4 => hat 37 rfl ?_)
                refine h_iast c (hd 25 37 _ _ rfl) dla_18 ⟨by omega, by omega⟩ (congrArg Int.toNat e45_3) (by decide) (by decide) (rf_in_top _) (hat 38 rfl ?_)
                refine h_il c (hd 26 38 _ _ rfl) (by rfl) (hat 40 rfl ?_)
                refine h_bp c (hd 27 40 _ _ rfl) (by decide) (fun v40_4 e40_4 => hat 42 rfl ?_)
                refine h_div c (hd 28 42 _ _ rfl) e40_4 (by decide) (by omega) (fun v42_4 e42_4 => hat 43 rfl ?_)
                refine h_is c (hd 29 43 _ _ rfl) (by decide) (L' := [(4, .int v42_4), (5, .int v45_3), (3, .int v5), (0, .int a), (1, .ref (G.2.1.1 18)), (2, .int b)]) (by rfl) (hat 45 rfl ?_)
                refine h_inc c (fun r_ => [(5, .int r_), (4, .int v42_4), (3, .int v5), (0, .int a), (1, .ref (G.2.1.1 18)), (2, .int b)]) (hd 30 45 _ _ rfl) (by decide) (by decide) (by rfl) (by omega) (fun _ => by rfl) (fun v45_4 e45_4 => hat 48 rfl ?_)
                have e45_4 : v45_4.toInt = 0 := by omega
                refine h_goto c (hd 31 48 _ _ rfl) (tgt := 23) (by decide) ?_
                refine h_il c (hd 17 23 _ _ rfl) (by rfl) (hat 25 rfl ?_)
                refine h_iln c (hd 18 25 _ _ rfl) (by rfl) (hat 26 rfl ?_)
                refine h_cmp c (hd 19 26 _ _ rfl) (tgt := 51) (by decide) (fun (h26_5 : v45_4.toInt < b.toInt) => ?_) (fun (h26_5 : ¬ (v45_4.toInt < b.toInt)) => hat 29 rfl ?_)
                · exfalso; omega
                · skip
                  refine h_aln c (hd 20 29 _ _ rfl) (by rfl) (hat 30 rfl ?_)
                  refine h_il c (hd 21 30 _ _ rfl) (by rfl) (hat 32 rfl ?_)
                  refine h_il c (hd 22 32 _ _ rfl) (by rfl) (hat 34 rfl ?_)
                  refine h_bp c (hd 23 34 _ _ rfl) (by decide) (fun v34_5 e34_5 => hat 36 rfl ?_)
                  refine h_rem c (hd 24 36 _ _ rfl) e34_5 (by decide) (by omega) (fun v36_5 e36_5 => hat 37 rfl ?_)
                  refine h_iast c (hd 25 37 _ _ rfl) dla_18 ⟨by omega, by omega⟩ (congrArg Int.toNat e45_4) (by decide) (by decide) (rf_in_top _) (hat 38 rfl ?_)
                  refine h_il c (hd 26 38 _ _ rfl) (by rfl) (hat 40 rfl ?_)
                  refine h_bp c (hd 27 40 _ _ rfl) (by decide) (fun v40_5 e40_5 => hat 42 rfl ?_)
                  refine h_div c (hd 28 42 _ _ rfl) e40_5 (by decide) (by omega) (fun v42_5 e42_5 => hat 43 rfl ?_)
                  refine h_is c (hd 29 43 _ _ rfl) (by decide) (L' := [(4, .int v42_5), (5, .int v45_4), (3, .int v5), (0, .int a), (1, .ref (G.2.1.1 18)), (2, .int b)]) (by rfl) (hat 45 rfl ?_)
                  refine h_inc c (fun r_ => [(5, .int r_), (4, .int v42_5), (3, .int v5), (0, .int a), (1, .ref (G.2.1.1 18)), (2, .int b)]) (hd 30 45 _ _ rfl) (by decide) (by decide) (by rfl) (by omega) (fun _ => by rfl) (fun v45_5 e45_5 => hat 48 rfl ?_)
                  have e45_5 : v45_5.toInt = (-1) := by omega
                  refine h_goto c (hd 31 48 _ _ rfl) (tgt := 23) (by decide) ?_
                  refine h_il c (hd 17 23 _ _ rfl) (by rfl) (hat 25 rfl ?_)
                  refine h_iln c (hd 18 25 _ _ rfl) (by rfl) (hat 26 rfl ?_)
                  refine h_cmp c (hd 19 26 _ _ rfl) (tgt := 51) (by decide) (fun (h26_6 : v45_5.toInt < b.toInt) => ?_) (fun (h26_6 : ¬ (v45_5.toInt < b.toInt)) => hat 29 rfl ?_)
                  · skip
                    refine h_iln c (hd 32 51 _ _ rfl) (by rfl) (hat 52 rfl ?_)
                    exact h_iret c (hd 33 52 _ _ rfl) rfl ⟨a, _, rfl, rfl, by omega, fun k hk => by
                      rw [hl] at hk
                      have hk_ : k = 0 ∨ k = 1 ∨ k = 2 ∨ k = 3 ∨ k = 4 ∨ k = 5 := by omega
                      rcases hk_ with e_ | e_ | e_ | e_ | e_ | e_
                      · subst e_; unfold ltI; rw [hl]; show v36_5.toInt = a.toInt / 27 / 27 / 27 / 27 / 27 % 27; omega
                      · subst e_; unfold ltI; rw [hl]; show v36_4.toInt = a.toInt / 27 / 27 / 27 / 27 % 27; omega
                      · subst e_; unfold ltI; rw [hl]; show v36_3.toInt = a.toInt / 27 / 27 / 27 % 27; omega
                      · subst e_; unfold ltI; rw [hl]; show v36_2.toInt = a.toInt / 27 / 27 % 27; omega
                      · subst e_; unfold ltI; rw [hl]; show v36_1.toInt = a.toInt / 27 % 27; omega
                      · subst e_; unfold ltI; rw [hl]; show v36.toInt = a.toInt % 27; omega⟩
                  · exfalso; omega
    · exfalso; omega
