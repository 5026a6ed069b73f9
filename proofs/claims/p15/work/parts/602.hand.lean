def hM_emit : rfM := ((⟨"NearSpellModel", "emit", "(II)V"⟩, prog_14_method_22_code, 3, none), (2,100), ([.inr (.inl [114]), .inl (((-2147483648),2147483647,1),none), .inl (((-2147483648),2147483647,1),none)],[]), [(85,0),(86,0),(114,31),(998,1),(998,3)], [])
def ddX12_emit : List (Nat × Instr × Nat) := [(0,.aload_n 0,1),(1,.getfield 57,3),(4,.aload_n 0,1),(5,.getfield 236,3),(8,.iload_n 1,1),(9,.iastore,1),(10,.aload_n 0,1),(11,.getfield 60,3),(14,.aload_n 0,1),(15,.getfield 236,3),(18,.iload_n 2,1),(19,.iastore,1),(20,.aload_n 0,1),(21,.dup,1),(22,.getfield 236,3),(25,.iconst 1,1),(26,.iadd,1),(27,.putfield 236,3),(30,.return_,1)]
set_option maxRecDepth 100000 in
theorem dkX12_emit : rf_decs prog_14_method_22_code ddX12_emit := rf_decs_of (by decide +kernel)
set_option maxHeartbeats 4000000 in
set_option maxRecDepth 20000 in
theorem hp_emit {G : rfG} (hG : okG G) : h_met G hM_emit (fun _ F => (F 114 30).toInt < 1120) (fun vs F F' rv => ∃ a b : Int32, vs[1]? = some (.int a) ∧ vs[2]? = some (.int b) ∧ rv = none ∧ (F' 114 30).toInt = (F 114 30).toInt + 1 ∧ ∀ i, F' 85 i = if i = (F 114 30).toInt.toNat then a else F 85 i) := by
  refine h_metOf hG.1 (by decide +kernel) (by decide) hG.2.2.1 (wflT hG flokX12) (wcsT hG csokX12) ?_
  intro vs w0 X hv_ hr hp c
  match vs, hv_ with
  | [_, _, _], ⟨⟨_, hj0, rfl⟩, ⟨a, rfl, hi_a, _⟩, ⟨b, rfl, hi_b, _⟩, _⟩ =>
  cases List.mem_singleton.mp hj0
  have hd : ∀ n pc i len, ddX12_emit[n]? = some (pc, i, len) → decode (mb hM_emit) pc = .ok (i, len) := fun n pc i len h => hdk dkX12_emit n pc i len h
  show hW G X hM_emit w0 0 [(0, .ref (G.2.1.1 114)), (1, .int a), (2, .int b)] [] (hv w0)
  generalize hF0 : hv w0 = F at *
  have hc0 : 0 ≤ (F 114 30).toInt ∧ (F 114 30).toInt ≤ 1120 := hrg hr ly_114_30
  refine h_aln c (hd 0 0 _ _ rfl) (by rfl) (hat 1 rfl ?_)
  refine h_getR c (hd 1 1 _ _ rfl) fgX12_57 gnX12_57_114 (hat 4 rfl ?_)
  refine h_aln c (hd 2 4 _ _ rfl) (by rfl) (hat 5 rfl ?_)
  refine h_getI c (hd 3 5 _ _ rfl) fgX12_236 gnX12_236_114 (x := F 114 30) (rfl) (hat 8 rfl ?_)
  refine h_iln c (hd 4 8 _ _ rfl) (by rfl) (hat 9 rfl ?_)
  refine h_iast c (hd 5 9 _ _ rfl) la_85 ⟨by omega, by omega⟩ rfl (by decide) (by decide) (hin1 (rf_in_top _)) (hat 10 rfl ?_)
  refine h_aln c (hd 6 10 _ _ rfl) (by rfl) (hat 11 rfl ?_)
  refine h_getR c (hd 7 11 _ _ rfl) fgX12_60 gnX12_60_114 (hat 14 rfl ?_)
  refine h_aln c (hd 8 14 _ _ rfl) (by rfl) (hat 15 rfl ?_)
  refine h_getI c (hd 9 15 _ _ rfl) fgX12_236 gnX12_236_114 (x := F 114 30) (rfl) (hat 18 rfl ?_)
  refine h_iln c (hd 10 18 _ _ rfl) (by rfl) (hat 19 rfl ?_)
  refine h_iast c (hd 11 19 _ _ rfl) la_86 ⟨by omega, by omega⟩ rfl (by decide) (by decide) (hin1 (rf_in_top _)) (hat 20 rfl ?_)
  refine h_aln c (hd 12 20 _ _ rfl) (by rfl) (hat 21 rfl ?_)
  refine h_dup c (hd 13 21 _ _ rfl) (by rfl) (hat 22 rfl ?_)
  refine h_getI c (hd 14 22 _ _ rfl) fgX12_236 gnX12_236_114 (x := F 114 30) (rfl) (hat 25 rfl ?_)
  refine h_ic c (hd 15 25 _ _ rfl) (by decide) (fun v25 e25 => hat 26 rfl ?_)
  refine h_add c (hd 16 26 _ _ rfl) (by omega) (fun v26 e26 => hat 27 rfl ?_)
  refine h_putI c (hd 17 27 _ _ rfl) fgX12_236 gnX12_236_114 (by decide) (by decide) rfl (rf_in1 (by omega) (by omega)) (hat 30 rfl ?_)
  exact h_vret c (hd 18 30 _ _ rfl) rfl ⟨a, b, rfl, rfl, rfl, show v26.toInt = _ by omega, fun i => rfl⟩
def hM_pushE : rfM := ((⟨"NearSpellModel", "pushE", "(II)V"⟩, prog_14_method_23_code, 3, none), (2,100), ([.inr (.inl [114]), .inl ((0,8,1),none), .inl (((-2147483648),2147483647,1),none)],[]), [(87,0),(88,0),(114,33)], [])
def ddX12_pushE : List (Nat × Instr × Nat) := [(0,.aload_n 0,1),(1,.getfield 63,3),(4,.aload_n 0,1),(5,.getfield 285,3),(8,.iload_n 1,1),(9,.iastore,1),(10,.aload_n 0,1),(11,.getfield 66,3),(14,.aload_n 0,1),(15,.getfield 285,3),(18,.iload_n 2,1),(19,.iastore,1),(20,.aload_n 0,1),(21,.dup,1),(22,.getfield 285,3),(25,.iconst 1,1),(26,.iadd,1),(27,.putfield 285,3),(30,.return_,1)]
set_option maxRecDepth 100000 in
theorem dkX12_pushE : rf_decs prog_14_method_23_code ddX12_pushE := rf_decs_of (by decide +kernel)
set_option maxHeartbeats 4000000 in
set_option maxRecDepth 20000 in
theorem hp_pushE {G : rfG} (hG : okG G) : h_met G hM_pushE (fun _ F => (F 114 32).toInt < 90) (fun vs F F' rv => ∃ a b : Int32, vs[1]? = some (.int a) ∧ vs[2]? = some (.int b) ∧ rv = none ∧ (F' 114 32).toInt = (F 114 32).toInt + 1 ∧ (∀ i, F' 87 i = if i = (F 114 32).toInt.toNat then a else F 87 i) ∧ ∀ i, F' 88 i = if i = (F 114 32).toInt.toNat then b else F 88 i) := by
  refine h_metOf hG.1 (by decide +kernel) (by decide) hG.2.2.1 (wflT hG flokX12) (wcsT hG csokX12) ?_
  intro vs w0 X hv_ hr hp c
  match vs, hv_ with
  | [_, _, _], ⟨⟨_, hj0, rfl⟩, ⟨a, rfl, hi_a, _⟩, ⟨b, rfl, hi_b, _⟩, _⟩ =>
  cases List.mem_singleton.mp hj0
  have hd : ∀ n pc i len, ddX12_pushE[n]? = some (pc, i, len) → decode (mb hM_pushE) pc = .ok (i, len) := fun n pc i len h => hdk dkX12_pushE n pc i len h
  show hW G X hM_pushE w0 0 [(0, .ref (G.2.1.1 114)), (1, .int a), (2, .int b)] [] (hv w0)
  generalize hF0 : hv w0 = F at *
  have hc0 : 0 ≤ (F 114 32).toInt ∧ (F 114 32).toInt ≤ 90 := hrg hr ly_114_32
  have ha : 0 ≤ a.toInt ∧ a.toInt ≤ 8 := ⟨hi_a.1, hi_a.2.1⟩
  refine h_aln c (hd 0 0 _ _ rfl) (by rfl) (hat 1 rfl ?_)
  refine h_getR c (hd 1 1 _ _ rfl) fgX12_63 gnX12_63_114 (hat 4 rfl ?_)
  refine h_aln c (hd 2 4 _ _ rfl) (by rfl) (hat 5 rfl ?_)
  refine h_getI c (hd 3 5 _ _ rfl) fgX12_285 gnX12_285_114 (x := F 114 32) (rfl) (hat 8 rfl ?_)
  refine h_iln c (hd 4 8 _ _ rfl) (by rfl) (hat 9 rfl ?_)
  refine h_iast c (hd 5 9 _ _ rfl) la_87 ⟨by omega, by omega⟩ rfl (by decide) (by decide) (hin1 (rf_in1 (by omega) (by omega))) (hat 10 rfl ?_)
  refine h_aln c (hd 6 10 _ _ rfl) (by rfl) (hat 11 rfl ?_)
  refine h_getR c (hd 7 11 _ _ rfl) fgX12_66 gnX12_66_114 (hat 14 rfl ?_)
  refine h_aln c (hd 8 14 _ _ rfl) (by rfl) (hat 15 rfl ?_)
  refine h_getI c (hd 9 15 _ _ rfl) fgX12_285 gnX12_285_114 (x := F 114 32) (rfl) (hat 18 rfl ?_)
  refine h_iln c (hd 10 18 _ _ rfl) (by rfl) (hat 19 rfl ?_)
  refine h_iast c (hd 11 19 _ _ rfl) la_88 ⟨by omega, by omega⟩ rfl (by decide) (by decide) (hin1 (rf_in_top _)) (hat 20 rfl ?_)
  refine h_aln c (hd 12 20 _ _ rfl) (by rfl) (hat 21 rfl ?_)
  refine h_dup c (hd 13 21 _ _ rfl) (by rfl) (hat 22 rfl ?_)
  refine h_getI c (hd 14 22 _ _ rfl) fgX12_285 gnX12_285_114 (x := F 114 32) (rfl) (hat 25 rfl ?_)
  refine h_ic c (hd 15 25 _ _ rfl) (by decide) (fun v25 e25 => hat 26 rfl ?_)
  refine h_add c (hd 16 26 _ _ rfl) (by omega) (fun v26 e26 => hat 27 rfl ?_)
  refine h_putI c (hd 17 27 _ _ rfl) fgX12_285 gnX12_285_114 (by decide) (by decide) rfl (rf_in1 (by omega) (by omega)) (hat 30 rfl ?_)
  exact h_vret c (hd 18 30 _ _ rfl) rfl ⟨a, b, rfl, rfl, rfl, show v26.toInt = _ by omega, fun i => rfl, fun i => rfl⟩
def hM_isSH : rfM := ((⟨"NearSpellModel", "isSignHere", "(I)Z"⟩, prog_14_method_10_code, 2, (some .boolean)), (5,250), ([.inr (.inl [114]), .inl (((-2147483648),2147483647,1),none)],[]), [], [])
set_option maxHeartbeats 4000000 in
set_option maxRecDepth 20000 in
theorem hp_isSH {G : rfG} (hG : okG G) : h_met G hM_isSH (fun _ _ => True) (fun vs F _ rv => ∃ a x : Int32, vs[1]? = some (.int a) ∧ rv = some (.int x) ∧ ((x.toInt = 1 ∧ (F 114 8).toInt = 5 ∧ rf_sgf (fun k => (F 72 k).toInt) (F 114 3).toInt (F 114 6).toInt = a.toInt) ∨ x.toInt = 0)) := by
  refine h_metOf hG.1 (by decide +kernel) (by decide) hG.2.2.1 (wflT hG flokX12) (wcsT hG csokX12) ?_
  intro vs w0 X hv_ hr hp c
  match vs, hv_ with
  | [_, _], ⟨⟨_, hj0, rfl⟩, ⟨a, rfl, hi_a, _⟩, _⟩ =>
  cases List.mem_singleton.mp hj0
  have hd : ∀ n pc i len, ddX12_isSignHere[n]? = some (pc, i, len) → decode (mb hM_isSH) pc = .ok (i, len) := fun n pc i len h => hdk dkX12_isSignHere n pc i len h
  show hW G X hM_isSH w0 0 [(0, .ref (G.2.1.1 114)), (1, .int a)] [] (hv w0)
  generalize hF0 : hv w0 = F at *
  have hat0 : 0 ≤ (F 114 6).toInt ∧ (F 114 6).toInt ≤ 1600 := hrg hr ly_114_6
  refine h_aln c (hd 0 0 _ _ rfl) (by rfl) (hat 1 rfl ?_)
  refine h_getI c (hd 1 1 _ _ rfl) fgX12_195 gnX12_195_114 (x := F 114 8) (rfl) (hat 4 rfl ?_)
  refine h_ic c (hd 2 4 _ _ rfl) (by decide) (fun v4 e4 => hat 5 rfl ?_)
  refine h_cmp c (hd 3 5 _ _ rfl) (tgt := 24) (by decide) (fun (h5 : (F 114 8).toInt ≠ v4.toInt) => ?_) (fun (h5 : ¬ ((F 114 8).toInt ≠ v4.toInt)) => hat 8 rfl ?_)
  · skip
    refine h_ic c (hd 12 24 _ _ rfl) (by decide) (fun v24 e24 => hat 25 rfl ?_)
    exact h_zret c (hd 13 25 _ _ rfl) rfl (by omega) ⟨a, _, rfl, rfl, by first | (exact Or.inr (by omega)) | (exact Or.inl ⟨by omega, by omega, by omega⟩)⟩
  · skip
    refine h_aln c (hd 4 8 _ _ rfl) (by rfl) (hat 9 rfl ?_)
    refine h_aln c (hd 5 9 _ _ rfl) (by rfl) (hat 10 rfl ?_)
    refine h_getI c (hd 6 10 _ _ rfl) fgX12_188 gnX12_188_114 (x := F 114 6) (rfl) (hat 13 rfl ?_)
    refine h_callVF c (M' := hM_sign) (hp_sign hG) (by decide +kernel) (wlkV (lkX12_191 hG) _ rfl rfl) (j := 114) (by decide +kernel) (hd 7 13 _ _ rfl) [.int (F 114 6)] (rest := []) (by rfl) ⟨⟨114, by decide, rfl⟩, ⟨_, rfl, rf_in1 (by omega) (by omega), trivial⟩, trivial⟩ (Nat.le_of_ble_eq_true rfl) trivial (fun rv13 F13 fr13 rr13 pp13 sm_ => hat 16 rfl ?_)
    have e_ := (sm_ rfl).symm
    subst e_
    obtain ⟨k_, x13, ek_, er_, hx13, gx13⟩ := pp13
    cases ek_
    subst er_
    refine h_iln c (hd 8 16 _ _ rfl) (by rfl) (hat 17 rfl ?_)
    refine h_cmp c (hd 9 17 _ _ rfl) (tgt := 24) (by decide) (fun (h17 : x13.toInt ≠ a.toInt) => ?_) (fun (h17 : ¬ (x13.toInt ≠ a.toInt)) => hat 20 rfl ?_)
    · skip
      refine h_ic c (hd 12 24 _ _ rfl) (by decide) (fun v24 e24 => hat 25 rfl ?_)
      exact h_zret c (hd 13 25 _ _ rfl) rfl (by omega) ⟨a, _, rfl, rfl, by first | (exact Or.inr (by omega)) | (exact Or.inl ⟨by omega, by omega, by omega⟩)⟩
    · skip
      refine h_ic c (hd 10 20 _ _ rfl) (by decide) (fun v20 e20 => hat 21 rfl ?_)
      refine h_goto c (hd 11 21 _ _ rfl) (tgt := 25) (by decide) ?_
      exact h_zret c (hd 13 25 _ _ rfl) rfl (by omega) ⟨a, _, rfl, rfl, by first | (exact Or.inr (by omega)) | (exact Or.inl ⟨by omega, by omega, by omega⟩)⟩
def hM_rank : rfM := ((⟨"NearSpellModel", "rankHere", "()I"⟩, prog_14_method_27_code, 1, (some .int)), (8,400), ([.inr (.inl [114])],[]), [], [])
def ddX12_rankHere : List (Nat × Instr × Nat) := [(0,.aload_n 0,1),(1,.ldc2_w 181,3),(4,.invokevirtual 248,3),(7,.ifCond .eq 5,3),(10,.iconst 2,1),(11,.ireturn,1),(12,.aload_n 0,1),(13,.ldc2_w 179,3),(16,.invokevirtual 248,3),(19,.ifCond .eq 5,3),(22,.iconst 1,1),(23,.ireturn,1),(24,.aload_n 0,1),(25,.bipush 60,2),(27,.invokevirtual 272,3),(30,.ifCond .ne 21,3),(33,.aload_n 0,1),(34,.bipush 62,2),(36,.invokevirtual 272,3),(39,.ifCond .ne 12,3),(42,.aload_n 0,1),(43,.bipush 61,2),(45,.invokevirtual 272,3),(48,.ifCond .eq 5,3),(51,.iconst 4,1),(52,.ireturn,1),(53,.aload_n 0,1),(54,.bipush 43,2),(56,.invokevirtual 272,3),(59,.ifCond .ne 12,3),(62,.aload_n 0,1),(63,.bipush 45,2),(65,.invokevirtual 272,3),(68,.ifCond .eq 5,3),(71,.iconst 5,1),(72,.ireturn,1),(73,.aload_n 0,1),(74,.bipush 42,2),(76,.invokevirtual 272,3),(79,.ifCond .ne 21,3),(82,.aload_n 0,1),(83,.bipush 47,2),(85,.invokevirtual 272,3),(88,.ifCond .ne 12,3),(91,.aload_n 0,1),(92,.bipush 37,2),(94,.invokevirtual 272,3),(97,.ifCond .eq 8,3),(100,.bipush 6,2),(102,.goto 4,3),(105,.iconst 0,1),(106,.ireturn,1)]
set_option maxRecDepth 100000 in
theorem dkX12_rankHere : rf_decs prog_14_method_27_code ddX12_rankHere := rf_decs_of (by decide +kernel)
set_option maxHeartbeats 4000000 in
set_option maxRecDepth 20000 in
theorem hp_rank {G : rfG} (hG : okG G) : h_met G hM_rank (fun _ _ => True) (fun _ F _ rv => ∃ x : Int32, rv = some (.int x) ∧ (x.toInt = 0 ∨ ((x.toInt = 1 ∨ x.toInt = 2) ∧ (F 114 8).toInt = 3) ∨ (4 ≤ x.toInt ∧ x.toInt ≤ 6 ∧ (F 114 8).toInt = 5 ∧ 37 ≤ rf_sgf (fun k => (F 72 k).toInt) (F 114 3).toInt (F 114 6).toInt ∧ rf_sgf (fun k => (F 72 k).toInt) (F 114 3).toInt (F 114 6).toInt ≤ 62))) := by
  refine h_metOf hG.1 (by decide +kernel) (by decide) hG.2.2.1 (wflT hG flokX12) (wcsT hG csokX12) ?_
  intro vs w0 X hv_ hr hp c
  match vs, hv_ with
  | [_], ⟨⟨_, hj0, rfl⟩, _⟩ =>
  cases List.mem_singleton.mp hj0
  have hd : ∀ n pc i len, ddX12_rankHere[n]? = some (pc, i, len) → decode (mb hM_rank) pc = .ok (i, len) := fun n pc i len h => hdk dkX12_rankHere n pc i len h
  show hW G X hM_rank w0 0 [(0, .ref (G.2.1.1 114))] [] (hv w0)
  generalize hF0 : hv w0 = F at *
  refine h_aln c (hd 0 0 _ _ rfl) (by rfl) (hat 1 rfl ?_)
  refine h_ldc2 c (wlcT hG lcokX12) (hd 1 1 _ _ rfl) (n := 6385252) (by rfl) (fun y1 => hat 4 rfl ?_)
  refine h_callV c (M' := q1212_M) (q1212_met hG) (by decide +kernel) (by decide +kernel) (wlkV (lkX12_248 hG) _ rfl rfl) (j := 114) (by decide +kernel) (hd 2 4 _ _ rfl) [.long y1] (rest := []) (by rfl) ⟨⟨114, by decide, rfl⟩, ⟨_, rfl⟩, trivial⟩ (Nat.le_of_ble_eq_true rfl) (fun q hq => absurd hq List.not_mem_nil) (fun rv4 F4 fr4 rr4 pp4 sm_ => hat 7 rfl ?_)
  have e_ := (sm_ rfl).symm
  subst e_
  obtain ⟨k_, hk_, pp4⟩ := pp4
  rcases hm2 hk_ with rfl | rfl
  · skip
    obtain ⟨x4, hrv_, hx4⟩ := hk_val pp4
    subst hrv_
    have hx4 : 1 ≤ x4.toInt ∧ x4.toInt ≤ 1 := ⟨hx4.1, hx4.2.1⟩
    have gf4_0 : 3 ≤ (F 114 8).toInt ∧ (F 114 8).toInt ≤ 3 := ⟨(hk_fact pp4 0 rfl).1.1, (hk_fact pp4 0 rfl).1.2.1⟩
    refine h_if c (hd 3 7 _ _ rfl) (tgt := 12) (by decide) (fun (h7 : x4.toInt = 0) => ?_) (fun (h7 : ¬ (x4.toInt = 0)) => hat 10 rfl ?_)
    · skip
      refine h_aln c (hd 6 12 _ _ rfl) (by rfl) (hat 13 rfl ?_)
      refine h_ldc2 c (wlcT hG lcokX12) (hd 7 13 _ _ rfl) (n := 28530) (by rfl) (fun y13 => hat 16 rfl ?_)
      refine h_callV c (M' := q1212_M) (q1212_met hG) (by decide +kernel) (by decide +kernel) (wlkV (lkX12_248 hG) _ rfl rfl) (j := 114) (by decide +kernel) (hd 8 16 _ _ rfl) [.long y13] (rest := []) (by rfl) ⟨⟨114, by decide, rfl⟩, ⟨_, rfl⟩, trivial⟩ (Nat.le_of_ble_eq_true rfl) (fun q hq => absurd hq List.not_mem_nil) (fun rv16 F16 fr16 rr16 pp16 sm_ => hat 19 rfl ?_)
      have e_ := (sm_ rfl).symm
      subst e_
      obtain ⟨k_, hk_, pp16⟩ := pp16
      rcases hm2 hk_ with rfl | rfl
      · skip
        obtain ⟨x16, hrv_, hx16⟩ := hk_val pp16
        subst hrv_
        have hx16 : 1 ≤ x16.toInt ∧ x16.toInt ≤ 1 := ⟨hx16.1, hx16.2.1⟩
        have gf16_0 : 3 ≤ (F 114 8).toInt ∧ (F 114 8).toInt ≤ 3 := ⟨(hk_fact pp16 0 rfl).1.1, (hk_fact pp16 0 rfl).1.2.1⟩
        refine h_if c (hd 9 19 _ _ rfl) (tgt := 24) (by decide) (fun (h19 : x16.toInt = 0) => ?_) (fun (h19 : ¬ (x16.toInt = 0)) => hat 22 rfl ?_)
        · skip
          refine h_aln c (hd 12 24 _ _ rfl) (by rfl) (hat 25 rfl ?_)
          refine h_bp c (hd 13 25 _ _ rfl) (by decide) (fun v25 e25 => hat 27 rfl ?_)
          refine h_callVF c (M' := hM_isSH) (hp_isSH hG) (by decide +kernel) (wlkV (lkX12_272 hG) _ rfl rfl) (j := 114) (by decide +kernel) (hd 14 27 _ _ rfl) [.int v25] (rest := []) (by rfl) ⟨⟨114, by decide, rfl⟩, ⟨_, rfl, rf_in_top _, trivial⟩, trivial⟩ (Nat.le_of_ble_eq_true rfl) trivial (fun rv27 F27 fr27 rr27 pp27 sm_ => hat 30 rfl ?_)
          have e_ := (sm_ rfl).symm
          subst e_
          obtain ⟨a_, x27, ea_, er_, hx27⟩ := pp27
          cases ea_
          subst er_
          refine h_if c (hd 15 30 _ _ rfl) (tgt := 51) (by decide) (fun (h30 : x27.toInt ≠ 0) => ?_) (fun (h30 : ¬ (x27.toInt ≠ 0)) => hat 33 rfl ?_)
          · skip
            refine h_ic c (hd 24 51 _ _ rfl) (by decide) (fun v51 e51 => hat 52 rfl ?_)
            exact h_iret c (hd 25 52 _ _ rfl) rfl ⟨_, rfl, by omega⟩
          · skip
            refine h_aln c (hd 16 33 _ _ rfl) (by rfl) (hat 34 rfl ?_)
            refine h_bp c (hd 17 34 _ _ rfl) (by decide) (fun v34 e34 => hat 36 rfl ?_)
            refine h_callVF c (M' := hM_isSH) (hp_isSH hG) (by decide +kernel) (wlkV (lkX12_272 hG) _ rfl rfl) (j := 114) (by decide +kernel) (hd 18 36 _ _ rfl) [.int v34] (rest := []) (by rfl) ⟨⟨114, by decide, rfl⟩, ⟨_, rfl, rf_in_top _, trivial⟩, trivial⟩ (Nat.le_of_ble_eq_true rfl) trivial (fun rv36 F36 fr36 rr36 pp36 sm_ => hat 39 rfl ?_)
            have e_ := (sm_ rfl).symm
            subst e_
            obtain ⟨a_, x36, ea_, er_, hx36⟩ := pp36
            cases ea_
            subst er_
            refine h_if c (hd 19 39 _ _ rfl) (tgt := 51) (by decide) (fun (h39 : x36.toInt ≠ 0) => ?_) (fun (h39 : ¬ (x36.toInt ≠ 0)) => hat 42 rfl ?_)
            · skip
              refine h_ic c (hd 24 51 _ _ rfl) (by decide) (fun v51 e51 => hat 52 rfl ?_)
              exact h_iret c (hd 25 52 _ _ rfl) rfl ⟨_, rfl, by omega⟩
            · skip
              refine h_aln c (hd 20 42 _ _ rfl) (by rfl) (hat 43 rfl ?_)
              refine h_bp c (hd 21 43 _ _ rfl) (by decide) (fun v43 e43 => hat 45 rfl ?_)
              refine h_callVF c (M' := hM_isSH) (hp_isSH hG) (by decide +kernel) (wlkV (lkX12_272 hG) _ rfl rfl) (j := 114) (by decide +kernel) (hd 22 45 _ _ rfl) [.int v43] (rest := []) (by rfl) ⟨⟨114, by decide, rfl⟩, ⟨_, rfl, rf_in_top _, trivial⟩, trivial⟩ (Nat.le_of_ble_eq_true rfl) trivial (fun rv45 F45 fr45 rr45 pp45 sm_ => hat 48 rfl ?_)
              have e_ := (sm_ rfl).symm
              subst e_
              obtain ⟨a_, x45, ea_, er_, hx45⟩ := pp45
              cases ea_
              subst er_
              refine h_if c (hd 23 48 _ _ rfl) (tgt := 53) (by decide) (fun (h48 : x45.toInt = 0) => ?_) (fun (h48 : ¬ (x45.toInt = 0)) => hat 51 rfl ?_)
              · skip
                refine h_aln c (hd 26 53 _ _ rfl) (by rfl) (hat 54 rfl ?_)
                refine h_bp c (hd 27 54 _ _ rfl) (by decide) (fun v54 e54 => hat 56 rfl ?_)
                refine h_callVF c (M' := hM_isSH) (hp_isSH hG) (by decide +kernel) (wlkV (lkX12_272 hG) _ rfl rfl) (j := 114) (by decide +kernel) (hd 28 56 _ _ rfl) [.int v54] (rest := []) (by rfl) ⟨⟨114, by decide, rfl⟩, ⟨_, rfl, rf_in_top _, trivial⟩, trivial⟩ (Nat.le_of_ble_eq_true rfl) trivial (fun rv56 F56 fr56 rr56 pp56 sm_ => hat 59 rfl ?_)
                have e_ := (sm_ rfl).symm
                subst e_
                obtain ⟨a_, x56, ea_, er_, hx56⟩ := pp56
                cases ea_
                subst er_
                refine h_if c (hd 29 59 _ _ rfl) (tgt := 71) (by decide) (fun (h59 : x56.toInt ≠ 0) => ?_) (fun (h59 : ¬ (x56.toInt ≠ 0)) => hat 62 rfl ?_)
                · skip
                  refine h_ic c (hd 34 71 _ _ rfl) (by decide) (fun v71 e71 => hat 72 rfl ?_)
                  exact h_iret c (hd 35 72 _ _ rfl) rfl ⟨_, rfl, by omega⟩
                · skip
                  refine h_aln c (hd 30 62 _ _ rfl) (by rfl) (hat 63 rfl ?_)
                  refine h_bp c (hd 31 63 _ _ rfl) (by decide) (fun v63 e63 => hat 65 rfl ?_)
                  refine h_callVF c (M' := hM_isSH) (hp_isSH hG) (by decide +kernel) (wlkV (lkX12_272 hG) _ rfl rfl) (j := 114) (by decide +kernel) (hd 32 65 _ _ rfl) [.int v63] (rest := []) (by rfl) ⟨⟨114, by decide, rfl⟩, ⟨_, rfl, rf_in_top _, trivial⟩, trivial⟩ (Nat.le_of_ble_eq_true rfl) trivial (fun rv65 F65 fr65 rr65 pp65 sm_ => hat 68 rfl ?_)
                  have e_ := (sm_ rfl).symm
                  subst e_
                  obtain ⟨a_, x65, ea_, er_, hx65⟩ := pp65
                  cases ea_
                  subst er_
                  refine h_if c (hd 33 68 _ _ rfl) (tgt := 73) (by decide) (fun (h68 : x65.toInt = 0) => ?_) (fun (h68 : ¬ (x65.toInt = 0)) => hat 71 rfl ?_)
                  · skip
                    refine h_aln c (hd 36 73 _ _ rfl) (by rfl) (hat 74 rfl ?_)
                    refine h_bp c (hd 37 74 _ _ rfl) (by decide) (fun v74 e74 => hat 76 rfl ?_)
                    refine h_callVF c (M' := hM_isSH) (hp_isSH hG) (by decide +kernel) (wlkV (lkX12_272 hG) _ rfl rfl) (j := 114) (by decide +kernel) (hd 38 76 _ _ rfl) [.int v74] (rest := []) (by rfl) ⟨⟨114, by decide, rfl⟩, ⟨_, rfl, rf_in_top _, trivial⟩, trivial⟩ (Nat.le_of_ble_eq_true rfl) trivial (fun rv76 F76 fr76 rr76 pp76 sm_ => hat 79 rfl ?_)
                    have e_ := (sm_ rfl).symm
                    subst e_
                    obtain ⟨a_, x76, ea_, er_, hx76⟩ := pp76
                    cases ea_
                    subst er_
                    refine h_if c (hd 39 79 _ _ rfl) (tgt := 100) (by decide) (fun (h79 : x76.toInt ≠ 0) => ?_) (fun (h79 : ¬ (x76.toInt ≠ 0)) => hat 82 rfl ?_)
                    · skip
                      refine h_bp c (hd 48 100 _ _ rfl) (by decide) (fun v100 e100 => hat 102 rfl ?_)
                      refine h_goto c (hd 49 102 _ _ rfl) (tgt := 106) (by decide) ?_
                      exact h_iret c (hd 51 106 _ _ rfl) rfl ⟨_, rfl, by omega⟩
                    · skip
                      refine h_aln c (hd 40 82 _ _ rfl) (by rfl) (hat 83 rfl ?_)
                      refine h_bp c (hd 41 83 _ _ rfl) (by decide) (fun v83 e83 => hat 85 rfl ?_)
                      refine h_callVF c (M' := hM_isSH) (hp_isSH hG) (by decide +kernel) (wlkV (lkX12_272 hG) _ rfl rfl) (j := 114) (by decide +kernel) (hd 42 85 _ _ rfl) [.int v83] (rest := []) (by rfl) ⟨⟨114, by decide, rfl⟩, ⟨_, rfl, rf_in_top _, trivial⟩, trivial⟩ (Nat.le_of_ble_eq_true rfl) trivial (fun rv85 F85 fr85 rr85 pp85 sm_ => hat 88 rfl ?_)
                      have e_ := (sm_ rfl).symm
                      subst e_
                      obtain ⟨a_, x85, ea_, er_, hx85⟩ := pp85
                      cases ea_
                      subst er_
                      refine h_if c (hd 43 88 _ _ rfl) (tgt := 100) (by decide) (fun (h88 : x85.toInt ≠ 0) => ?_) (fun (h88 : ¬ (x85.toInt ≠ 0)) => hat 91 rfl ?_)
                      · skip
                        refine h_bp c (hd 48 100 _ _ rfl) (by decide) (fun v100 e100 => hat 102 rfl ?_)
                        refine h_goto c (hd 49 102 _ _ rfl) (tgt := 106) (by decide) ?_
                        exact h_iret c (hd 51 106 _ _ rfl) rfl ⟨_, rfl, by omega⟩
                      · skip
                        refine h_aln c (hd 44 91 _ _ rfl) (by rfl) (hat 92 rfl ?_)
                        refine h_bp c (hd 45 92 _ _ rfl) (by decide) (fun v92 e92 => hat 94 rfl ?_)
                        refine h_callVF c (M' := hM_isSH) (hp_isSH hG) (by decide +kernel) (wlkV (lkX12_272 hG) _ rfl rfl) (j := 114) (by decide +kernel) (hd 46 94 _ _ rfl) [.int v92] (rest := []) (by rfl) ⟨⟨114, by decide, rfl⟩, ⟨_, rfl, rf_in_top _, trivial⟩, trivial⟩ (Nat.le_of_ble_eq_true rfl) trivial (fun rv94 F94 fr94 rr94 pp94 sm_ => hat 97 rfl ?_)
                        have e_ := (sm_ rfl).symm
                        subst e_
                        obtain ⟨a_, x94, ea_, er_, hx94⟩ := pp94
                        cases ea_
                        subst er_
                        refine h_if c (hd 47 97 _ _ rfl) (tgt := 105) (by decide) (fun (h97 : x94.toInt = 0) => ?_) (fun (h97 : ¬ (x94.toInt = 0)) => hat 100 rfl ?_)
                        · skip
                          refine h_ic c (hd 50 105 _ _ rfl) (by decide) (fun v105 e105 => hat 106 rfl ?_)
                          exact h_iret c (hd 51 106 _ _ rfl) rfl ⟨_, rfl, by omega⟩
                        · skip
                          refine h_bp c (hd 48 100 _ _ rfl) (by decide) (fun v100 e100 => hat 102 rfl ?_)
                          refine h_goto c (hd 49 102 _ _ rfl) (tgt := 106) (by decide) ?_
                          exact h_iret c (hd 51 106 _ _ rfl) rfl ⟨_, rfl, by omega⟩
                  · skip
                    refine h_ic c (hd 34 71 _ _ rfl) (by decide) (fun v71 e71 => hat 72 rfl ?_)
                    exact h_iret c (hd 35 72 _ _ rfl) rfl ⟨_, rfl, by omega⟩
              · skip
                refine h_ic c (hd 24 51 _ _ rfl) (by decide) (fun v51 e51 => hat 52 rfl ?_)
                exact h_iret c (hd 25 52 _ _ rfl) rfl ⟨_, rfl, by omega⟩
        · skip
          refine h_ic c (hd 10 22 _ _ rfl) (by decide) (fun v22 e22 => hat 23 rfl ?_)
          exact h_iret c (hd 11 23 _ _ rfl) rfl ⟨_, rfl, by omega⟩
      · skip
        obtain ⟨x16, hrv_, hx16⟩ := hk_val pp16
        subst hrv_
        have hx16 : 0 ≤ x16.toInt ∧ x16.toInt ≤ 0 := ⟨hx16.1, hx16.2.1⟩
        refine h_if c (hd 9 19 _ _ rfl) (tgt := 24) (by decide) (fun (h19 : x16.toInt = 0) => ?_) (fun (h19 : ¬ (x16.toInt = 0)) => hat 22 rfl ?_)
        · skip
          refine h_aln c (hd 12 24 _ _ rfl) (by rfl) (hat 25 rfl ?_)
          refine h_bp c (hd 13 25 _ _ rfl) (by decide) (fun v25 e25 => hat 27 rfl ?_)
          refine h_callVF c (M' := hM_isSH) (hp_isSH hG) (by decide +kernel) (wlkV (lkX12_272 hG) _ rfl rfl) (j := 114) (by decide +kernel) (hd 14 27 _ _ rfl) [.int v25] (rest := []) (by rfl) ⟨⟨114, by decide, rfl⟩, ⟨_, rfl, rf_in_top _, trivial⟩, trivial⟩ (Nat.le_of_ble_eq_true rfl) trivial (fun rv27 F27 fr27 rr27 pp27 sm_ => hat 30 rfl ?_)
          have e_ := (sm_ rfl).symm
          subst e_
          obtain ⟨a_, x27, ea_, er_, hx27⟩ := pp27
          cases ea_
          subst er_
          refine h_if c (hd 15 30 _ _ rfl) (tgt := 51) (by decide) (fun (h30 : x27.toInt ≠ 0) => ?_) (fun (h30 : ¬ (x27.toInt ≠ 0)) => hat 33 rfl ?_)
          · skip
            refine h_ic c (hd 24 51 _ _ rfl) (by decide) (fun v51 e51 => hat 52 rfl ?_)
            exact h_iret c (hd 25 52 _ _ rfl) rfl ⟨_, rfl, by omega⟩
          · skip
            refine h_aln c (hd 16 33 _ _ rfl) (by rfl) (hat 34 rfl ?_)
            refine h_bp c (hd 17 34 _ _ rfl) (by decide) (fun v34 e34 => hat 36 rfl ?_)
            refine h_callVF c (M' := hM_isSH) (hp_isSH hG) (by decide +kernel) (wlkV (lkX12_272 hG) _ rfl rfl) (j := 114) (by decide +kernel) (hd 18 36 _ _ rfl) [.int v34] (rest := []) (by rfl) ⟨⟨114, by decide, rfl⟩, ⟨_, rfl, rf_in_top _, trivial⟩, trivial⟩ (Nat.le_of_ble_eq_true rfl) trivial (fun rv36 F36 fr36 rr36 pp36 sm_ => hat 39 rfl ?_)
            have e_ := (sm_ rfl).symm
            subst e_
            obtain ⟨a_, x36, ea_, er_, hx36⟩ := pp36
            cases ea_
            subst er_
            refine h_if c (hd 19 39 _ _ rfl) (tgt := 51) (by decide) (fun (h39 : x36.toInt ≠ 0) => ?_) (fun (h39 : ¬ (x36.toInt ≠ 0)) => hat 42 rfl ?_)
            · skip
              refine h_ic c (hd 24 51 _ _ rfl) (by decide) (fun v51 e51 => hat 52 rfl ?_)
              exact h_iret c (hd 25 52 _ _ rfl) rfl ⟨_, rfl, by omega⟩
            · skip
              refine h_aln c (hd 20 42 _ _ rfl) (by rfl) (hat 43 rfl ?_)
              refine h_bp c (hd 21 43 _ _ rfl) (by decide) (fun v43 e43 => hat 45 rfl ?_)
              refine h_callVF c (M' := hM_isSH) (hp_isSH hG) (by decide +kernel) (wlkV (lkX12_272 hG) _ rfl rfl) (j := 114) (by decide +kernel) (hd 22 45 _ _ rfl) [.int v43] (rest := []) (by rfl) ⟨⟨114, by decide, rfl⟩, ⟨_, rfl, rf_in_top _, trivial⟩, trivial⟩ (Nat.le_of_ble_eq_true rfl) trivial (fun rv45 F45 fr45 rr45 pp45 sm_ => hat 48 rfl ?_)
              have e_ := (sm_ rfl).symm
              subst e_
              obtain ⟨a_, x45, ea_, er_, hx45⟩ := pp45
              cases ea_
              subst er_
              refine h_if c (hd 23 48 _ _ rfl) (tgt := 53) (by decide) (fun (h48 : x45.toInt = 0) => ?_) (fun (h48 : ¬ (x45.toInt = 0)) => hat 51 rfl ?_)
              · skip
                refine h_aln c (hd 26 53 _ _ rfl) (by rfl) (hat 54 rfl ?_)
                refine h_bp c (hd 27 54 _ _ rfl) (by decide) (fun v54 e54 => hat 56 rfl ?_)
                refine h_callVF c (M' := hM_isSH) (hp_isSH hG) (by decide +kernel) (wlkV (lkX12_272 hG) _ rfl rfl) (j := 114) (by decide +kernel) (hd 28 56 _ _ rfl) [.int v54] (rest := []) (by rfl) ⟨⟨114, by decide, rfl⟩, ⟨_, rfl, rf_in_top _, trivial⟩, trivial⟩ (Nat.le_of_ble_eq_true rfl) trivial (fun rv56 F56 fr56 rr56 pp56 sm_ => hat 59 rfl ?_)
                have e_ := (sm_ rfl).symm
                subst e_
                obtain ⟨a_, x56, ea_, er_, hx56⟩ := pp56
                cases ea_
                subst er_
                refine h_if c (hd 29 59 _ _ rfl) (tgt := 71) (by decide) (fun (h59 : x56.toInt ≠ 0) => ?_) (fun (h59 : ¬ (x56.toInt ≠ 0)) => hat 62 rfl ?_)
                · skip
                  refine h_ic c (hd 34 71 _ _ rfl) (by decide) (fun v71 e71 => hat 72 rfl ?_)
                  exact h_iret c (hd 35 72 _ _ rfl) rfl ⟨_, rfl, by omega⟩
                · skip
                  refine h_aln c (hd 30 62 _ _ rfl) (by rfl) (hat 63 rfl ?_)
                  refine h_bp c (hd 31 63 _ _ rfl) (by decide) (fun v63 e63 => hat 65 rfl ?_)
                  refine h_callVF c (M' := hM_isSH) (hp_isSH hG) (by decide +kernel) (wlkV (lkX12_272 hG) _ rfl rfl) (j := 114) (by decide +kernel) (hd 32 65 _ _ rfl) [.int v63] (rest := []) (by rfl) ⟨⟨114, by decide, rfl⟩, ⟨_, rfl, rf_in_top _, trivial⟩, trivial⟩ (Nat.le_of_ble_eq_true rfl) trivial (fun rv65 F65 fr65 rr65 pp65 sm_ => hat 68 rfl ?_)
                  have e_ := (sm_ rfl).symm
                  subst e_
                  obtain ⟨a_, x65, ea_, er_, hx65⟩ := pp65
                  cases ea_
                  subst er_
                  refine h_if c (hd 33 68 _ _ rfl) (tgt := 73) (by decide) (fun (h68 : x65.toInt = 0) => ?_) (fun (h68 : ¬ (x65.toInt = 0)) => hat 71 rfl ?_)
                  · skip
                    refine h_aln c (hd 36 73 _ _ rfl) (by rfl) (hat 74 rfl ?_)
                    refine h_bp c (hd 37 74 _ _ rfl) (by decide) (fun v74 e74 => hat 76 rfl ?_)
                    refine h_callVF c (M' := hM_isSH) (hp_isSH hG) (by decide +kernel) (wlkV (lkX12_272 hG) _ rfl rfl) (j := 114) (by decide +kernel) (hd 38 76 _ _ rfl) [.int v74] (rest := []) (by rfl) ⟨⟨114, by decide, rfl⟩, ⟨_, rfl, rf_in_top _, trivial⟩, trivial⟩ (Nat.le_of_ble_eq_true rfl) trivial (fun rv76 F76 fr76 rr76 pp76 sm_ => hat 79 rfl ?_)
                    have e_ := (sm_ rfl).symm
                    subst e_
                    obtain ⟨a_, x76, ea_, er_, hx76⟩ := pp76
                    cases ea_
                    subst er_
                    refine h_if c (hd 39 79 _ _ rfl) (tgt := 100) (by decide) (fun (h79 : x76.toInt ≠ 0) => ?_) (fun (h79 : ¬ (x76.toInt ≠ 0)) => hat 82 rfl ?_)
                    · skip
                      refine h_bp c (hd 48 100 _ _ rfl) (by decide) (fun v100 e100 => hat 102 rfl ?_)
                      refine h_goto c (hd 49 102 _ _ rfl) (tgt := 106) (by decide) ?_
                      exact h_iret c (hd 51 106 _ _ rfl) rfl ⟨_, rfl, by omega⟩
                    · skip
                      refine h_aln c (hd 40 82 _ _ rfl) (by rfl) (hat 83 rfl ?_)
                      refine h_bp c (hd 41 83 _ _ rfl) (by decide) (fun v83 e83 => hat 85 rfl ?_)
                      refine h_callVF c (M' := hM_isSH) (hp_isSH hG) (by decide +kernel) (wlkV (lkX12_272 hG) _ rfl rfl) (j := 114) (by decide +kernel) (hd 42 85 _ _ rfl) [.int v83] (rest := []) (by rfl) ⟨⟨114, by decide, rfl⟩, ⟨_, rfl, rf_in_top _, trivial⟩, trivial⟩ (Nat.le_of_ble_eq_true rfl) trivial (fun rv85 F85 fr85 rr85 pp85 sm_ => hat 88 rfl ?_)
                      have e_ := (sm_ rfl).symm
                      subst e_
                      obtain ⟨a_, x85, ea_, er_, hx85⟩ := pp85
                      cases ea_
                      subst er_
                      refine h_if c (hd 43 88 _ _ rfl) (tgt := 100) (by decide) (fun (h88 : x85.toInt ≠ 0) => ?_) (fun (h88 : ¬ (x85.toInt ≠ 0)) => hat 91 rfl ?_)
                      · skip
                        refine h_bp c (hd 48 100 _ _ rfl) (by decide) (fun v100 e100 => hat 102 rfl ?_)
                        refine h_goto c (hd 49 102 _ _ rfl) (tgt := 106) (by decide) ?_
                        exact h_iret c (hd 51 106 _ _ rfl) rfl ⟨_, rfl, by omega⟩
                      · skip
                        refine h_aln c (hd 44 91 _ _ rfl) (by rfl) (hat 92 rfl ?_)
                        refine h_bp c (hd 45 92 _ _ rfl) (by decide) (fun v92 e92 => hat 94 rfl ?_)
                        refine h_callVF c (M' := hM_isSH) (hp_isSH hG) (by decide +kernel) (wlkV (lkX12_272 hG) _ rfl rfl) (j := 114) (by decide +kernel) (hd 46 94 _ _ rfl) [.int v92] (rest := []) (by rfl) ⟨⟨114, by decide, rfl⟩, ⟨_, rfl, rf_in_top _, trivial⟩, trivial⟩ (Nat.le_of_ble_eq_true rfl) trivial (fun rv94 F94 fr94 rr94 pp94 sm_ => hat 97 rfl ?_)
                        have e_ := (sm_ rfl).symm
                        subst e_
                        obtain ⟨a_, x94, ea_, er_, hx94⟩ := pp94
                        cases ea_
                        subst er_
                        refine h_if c (hd 47 97 _ _ rfl) (tgt := 105) (by decide) (fun (h97 : x94.toInt = 0) => ?_) (fun (h97 : ¬ (x94.toInt = 0)) => hat 100 rfl ?_)
                        · skip
                          refine h_ic c (hd 50 105 _ _ rfl) (by decide) (fun v105 e105 => hat 106 rfl ?_)
                          exact h_iret c (hd 51 106 _ _ rfl) rfl ⟨_, rfl, by omega⟩
                        · skip
                          refine h_bp c (hd 48 100 _ _ rfl) (by decide) (fun v100 e100 => hat 102 rfl ?_)
                          refine h_goto c (hd 49 102 _ _ rfl) (tgt := 106) (by decide) ?_
                          exact h_iret c (hd 51 106 _ _ rfl) rfl ⟨_, rfl, by omega⟩
                  · skip
                    refine h_ic c (hd 34 71 _ _ rfl) (by decide) (fun v71 e71 => hat 72 rfl ?_)
                    exact h_iret c (hd 35 72 _ _ rfl) rfl ⟨_, rfl, by omega⟩
              · skip
                refine h_ic c (hd 24 51 _ _ rfl) (by decide) (fun v51 e51 => hat 52 rfl ?_)
                exact h_iret c (hd 25 52 _ _ rfl) rfl ⟨_, rfl, by omega⟩
        · skip
          refine h_ic c (hd 10 22 _ _ rfl) (by decide) (fun v22 e22 => hat 23 rfl ?_)
          exact h_iret c (hd 11 23 _ _ rfl) rfl ⟨_, rfl, by omega⟩
    · skip
      refine h_ic c (hd 4 10 _ _ rfl) (by decide) (fun v10 e10 => hat 11 rfl ?_)
      exact h_iret c (hd 5 11 _ _ rfl) rfl ⟨_, rfl, by omega⟩
  · skip
    obtain ⟨x4, hrv_, hx4⟩ := hk_val pp4
    subst hrv_
    have hx4 : 0 ≤ x4.toInt ∧ x4.toInt ≤ 0 := ⟨hx4.1, hx4.2.1⟩
    refine h_if c (hd 3 7 _ _ rfl) (tgt := 12) (by decide) (fun (h7 : x4.toInt = 0) => ?_) (fun (h7 : ¬ (x4.toInt = 0)) => hat 10 rfl ?_)
    · skip
      refine h_aln c (hd 6 12 _ _ rfl) (by rfl) (hat 13 rfl ?_)
      refine h_ldc2 c (wlcT hG lcokX12) (hd 7 13 _ _ rfl) (n := 28530) (by rfl) (fun y13 => hat 16 rfl ?_)
      refine h_callV c (M' := q1212_M) (q1212_met hG) (by decide +kernel) (by decide +kernel) (wlkV (lkX12_248 hG) _ rfl rfl) (j := 114) (by decide +kernel) (hd 8 16 _ _ rfl) [.long y13] (rest := []) (by rfl) ⟨⟨114, by decide, rfl⟩, ⟨_, rfl⟩, trivial⟩ (Nat.le_of_ble_eq_true rfl) (fun q hq => absurd hq List.not_mem_nil) (fun rv16 F16 fr16 rr16 pp16 sm_ => hat 19 rfl ?_)
      have e_ := (sm_ rfl).symm
      subst e_
      obtain ⟨k_, hk_, pp16⟩ := pp16
      rcases hm2 hk_ with rfl | rfl
      · skip
        obtain ⟨x16, hrv_, hx16⟩ := hk_val pp16
        subst hrv_
        have hx16 : 1 ≤ x16.toInt ∧ x16.toInt ≤ 1 := ⟨hx16.1, hx16.2.1⟩
        have gf16_0 : 3 ≤ (F 114 8).toInt ∧ (F 114 8).toInt ≤ 3 := ⟨(hk_fact pp16 0 rfl).1.1, (hk_fact pp16 0 rfl).1.2.1⟩
        refine h_if c (hd 9 19 _ _ rfl) (tgt := 24) (by decide) (fun (h19 : x16.toInt = 0) => ?_) (fun (h19 : ¬ (x16.toInt = 0)) => hat 22 rfl ?_)
        · skip
          refine h_aln c (hd 12 24 _ _ rfl) (by rfl) (hat 25 rfl ?_)
          refine h_bp c (hd 13 25 _ _ rfl) (by decide) (fun v25 e25 => hat 27 rfl ?_)
          refine h_callVF c (M' := hM_isSH) (hp_isSH hG) (by decide +kernel) (wlkV (lkX12_272 hG) _ rfl rfl) (j := 114) (by decide +kernel) (hd 14 27 _ _ rfl) [.int v25] (rest := []) (by rfl) ⟨⟨114, by decide, rfl⟩, ⟨_, rfl, rf_in_top _, trivial⟩, trivial⟩ (Nat.le_of_ble_eq_true rfl) trivial (fun rv27 F27 fr27 rr27 pp27 sm_ => hat 30 rfl ?_)
          have e_ := (sm_ rfl).symm
          subst e_
          obtain ⟨a_, x27, ea_, er_, hx27⟩ := pp27
          cases ea_
          subst er_
          refine h_if c (hd 15 30 _ _ rfl) (tgt := 51) (by decide) (fun (h30 : x27.toInt ≠ 0) => ?_) (fun (h30 : ¬ (x27.toInt ≠ 0)) => hat 33 rfl ?_)
          · skip
            refine h_ic c (hd 24 51 _ _ rfl) (by decide) (fun v51 e51 => hat 52 rfl ?_)
            exact h_iret c (hd 25 52 _ _ rfl) rfl ⟨_, rfl, by omega⟩
          · skip
            refine h_aln c (hd 16 33 _ _ rfl) (by rfl) (hat 34 rfl ?_)
            refine h_bp c (hd 17 34 _ _ rfl) (by decide) (fun v34 e34 => hat 36 rfl ?_)
            refine h_callVF c (M' := hM_isSH) (hp_isSH hG) (by decide +kernel) (wlkV (lkX12_272 hG) _ rfl rfl) (j := 114) (by decide +kernel) (hd 18 36 _ _ rfl) [.int v34] (rest := []) (by rfl) ⟨⟨114, by decide, rfl⟩, ⟨_, rfl, rf_in_top _, trivial⟩, trivial⟩ (Nat.le_of_ble_eq_true rfl) trivial (fun rv36 F36 fr36 rr36 pp36 sm_ => hat 39 rfl ?_)
            have e_ := (sm_ rfl).symm
            subst e_
            obtain ⟨a_, x36, ea_, er_, hx36⟩ := pp36
            cases ea_
            subst er_
            refine h_if c (hd 19 39 _ _ rfl) (tgt := 51) (by decide) (fun (h39 : x36.toInt ≠ 0) => ?_) (fun (h39 : ¬ (x36.toInt ≠ 0)) => hat 42 rfl ?_)
            · skip
              refine h_ic c (hd 24 51 _ _ rfl) (by decide) (fun v51 e51 => hat 52 rfl ?_)
              exact h_iret c (hd 25 52 _ _ rfl) rfl ⟨_, rfl, by omega⟩
            · skip
              refine h_aln c (hd 20 42 _ _ rfl) (by rfl) (hat 43 rfl ?_)
              refine h_bp c (hd 21 43 _ _ rfl) (by decide) (fun v43 e43 => hat 45 rfl ?_)
              refine h_callVF c (M' := hM_isSH) (hp_isSH hG) (by decide +kernel) (wlkV (lkX12_272 hG) _ rfl rfl) (j := 114) (by decide +kernel) (hd 22 45 _ _ rfl) [.int v43] (rest := []) (by rfl) ⟨⟨114, by decide, rfl⟩, ⟨_, rfl, rf_in_top _, trivial⟩, trivial⟩ (Nat.le_of_ble_eq_true rfl) trivial (fun rv45 F45 fr45 rr45 pp45 sm_ => hat 48 rfl ?_)
              have e_ := (sm_ rfl).symm
              subst e_
              obtain ⟨a_, x45, ea_, er_, hx45⟩ := pp45
              cases ea_
              subst er_
              refine h_if c (hd 23 48 _ _ rfl) (tgt := 53) (by decide) (fun (h48 : x45.toInt = 0) => ?_) (fun (h48 : ¬ (x45.toInt = 0)) => hat 51 rfl ?_)
              · skip
                refine h_aln c (hd 26 53 _ _ rfl) (by rfl) (hat 54 rfl ?_)
                refine h_bp c (hd 27 54 _ _ rfl) (by decide) (fun v54 e54 => hat 56 rfl ?_)
                refine h_callVF c (M' := hM_isSH) (hp_isSH hG) (by decide +kernel) (wlkV (lkX12_272 hG) _ rfl rfl) (j := 114) (by decide +kernel) (hd 28 56 _ _ rfl) [.int v54] (rest := []) (by rfl) ⟨⟨114, by decide, rfl⟩, ⟨_, rfl, rf_in_top _, trivial⟩, trivial⟩ (Nat.le_of_ble_eq_true rfl) trivial (fun rv56 F56 fr56 rr56 pp56 sm_ => hat 59 rfl ?_)
                have e_ := (sm_ rfl).symm
                subst e_
                obtain ⟨a_, x56, ea_, er_, hx56⟩ := pp56
                cases ea_
                subst er_
                refine h_if c (hd 29 59 _ _ rfl) (tgt := 71) (by decide) (fun (h59 : x56.toInt ≠ 0) => ?_) (fun (h59 : ¬ (x56.toInt ≠ 0)) => hat 62 rfl ?_)
                · skip
                  refine h_ic c (hd 34 71 _ _ rfl) (by decide) (fun v71 e71 => hat 72 rfl ?_)
                  exact h_iret c (hd 35 72 _ _ rfl) rfl ⟨_, rfl, by omega⟩
                · skip
                  refine h_aln c (hd 30 62 _ _ rfl) (by rfl) (hat 63 rfl ?_)
                  refine h_bp c (hd 31 63 _ _ rfl) (by decide) (fun v63 e63 => hat 65 rfl ?_)
                  refine h_callVF c (M' := hM_isSH) (hp_isSH hG) (by decide +kernel) (wlkV (lkX12_272 hG) _ rfl rfl) (j := 114) (by decide +kernel) (hd 32 65 _ _ rfl) [.int v63] (rest := []) (by rfl) ⟨⟨114, by decide, rfl⟩, ⟨_, rfl, rf_in_top _, trivial⟩, trivial⟩ (Nat.le_of_ble_eq_true rfl) trivial (fun rv65 F65 fr65 rr65 pp65 sm_ => hat 68 rfl ?_)
                  have e_ := (sm_ rfl).symm
                  subst e_
                  obtain ⟨a_, x65, ea_, er_, hx65⟩ := pp65
                  cases ea_
                  subst er_
                  refine h_if c (hd 33 68 _ _ rfl) (tgt := 73) (by decide) (fun (h68 : x65.toInt = 0) => ?_) (fun (h68 : ¬ (x65.toInt = 0)) => hat 71 rfl ?_)
                  · skip
                    refine h_aln c (hd 36 73 _ _ rfl) (by rfl) (hat 74 rfl ?_)
                    refine h_bp c (hd 37 74 _ _ rfl) (by decide) (fun v74 e74 => hat 76 rfl ?_)
                    refine h_callVF c (M' := hM_isSH) (hp_isSH hG) (by decide +kernel) (wlkV (lkX12_272 hG) _ rfl rfl) (j := 114) (by decide +kernel) (hd 38 76 _ _ rfl) [.int v74] (rest := []) (by rfl) ⟨⟨114, by decide, rfl⟩, ⟨_, rfl, rf_in_top _, trivial⟩, trivial⟩ (Nat.le_of_ble_eq_true rfl) trivial (fun rv76 F76 fr76 rr76 pp76 sm_ => hat 79 rfl ?_)
                    have e_ := (sm_ rfl).symm
                    subst e_
                    obtain ⟨a_, x76, ea_, er_, hx76⟩ := pp76
                    cases ea_
                    subst er_
                    refine h_if c (hd 39 79 _ _ rfl) (tgt := 100) (by decide) (fun (h79 : x76.toInt ≠ 0) => ?_) (fun (h79 : ¬ (x76.toInt ≠ 0)) => hat 82 rfl ?_)
                    · skip
                      refine h_bp c (hd 48 100 _ _ rfl) (by decide) (fun v100 e100 => hat 102 rfl ?_)
                      refine h_goto c (hd 49 102 _ _ rfl) (tgt := 106) (by decide) ?_
                      exact h_iret c (hd 51 106 _ _ rfl) rfl ⟨_, rfl, by omega⟩
                    · skip
                      refine h_aln c (hd 40 82 _ _ rfl) (by rfl) (hat 83 rfl ?_)
                      refine h_bp c (hd 41 83 _ _ rfl) (by decide) (fun v83 e83 => hat 85 rfl ?_)
                      refine h_callVF c (M' := hM_isSH) (hp_isSH hG) (by decide +kernel) (wlkV (lkX12_272 hG) _ rfl rfl) (j := 114) (by decide +kernel) (hd 42 85 _ _ rfl) [.int v83] (rest := []) (by rfl) ⟨⟨114, by decide, rfl⟩, ⟨_, rfl, rf_in_top _, trivial⟩, trivial⟩ (Nat.le_of_ble_eq_true rfl) trivial (fun rv85 F85 fr85 rr85 pp85 sm_ => hat 88 rfl ?_)
                      have e_ := (sm_ rfl).symm
                      subst e_
                      obtain ⟨a_, x85, ea_, er_, hx85⟩ := pp85
                      cases ea_
                      subst er_
                      refine h_if c (hd 43 88 _ _ rfl) (tgt := 100) (by decide) (fun (h88 : x85.toInt ≠ 0) => ?_) (fun (h88 : ¬ (x85.toInt ≠ 0)) => hat 91 rfl ?_)
                      · skip
                        refine h_bp c (hd 48 100 _ _ rfl) (by decide) (fun v100 e100 => hat 102 rfl ?_)
                        refine h_goto c (hd 49 102 _ _ rfl) (tgt := 106) (by decide) ?_
                        exact h_iret c (hd 51 106 _ _ rfl) rfl ⟨_, rfl, by omega⟩
                      · skip
                        refine h_aln c (hd 44 91 _ _ rfl) (by rfl) (hat 92 rfl ?_)
                        refine h_bp c (hd 45 92 _ _ rfl) (by decide) (fun v92 e92 => hat 94 rfl ?_)
                        refine h_callVF c (M' := hM_isSH) (hp_isSH hG) (by decide +kernel) (wlkV (lkX12_272 hG) _ rfl rfl) (j := 114) (by decide +kernel) (hd 46 94 _ _ rfl) [.int v92] (rest := []) (by rfl) ⟨⟨114, by decide, rfl⟩, ⟨_, rfl, rf_in_top _, trivial⟩, trivial⟩ (Nat.le_of_ble_eq_true rfl) trivial (fun rv94 F94 fr94 rr94 pp94 sm_ => hat 97 rfl ?_)
                        have e_ := (sm_ rfl).symm
                        subst e_
                        obtain ⟨a_, x94, ea_, er_, hx94⟩ := pp94
                        cases ea_
                        subst er_
                        refine h_if c (hd 47 97 _ _ rfl) (tgt := 105) (by decide) (fun (h97 : x94.toInt = 0) => ?_) (fun (h97 : ¬ (x94.toInt = 0)) => hat 100 rfl ?_)
                        · skip
                          refine h_ic c (hd 50 105 _ _ rfl) (by decide) (fun v105 e105 => hat 106 rfl ?_)
                          exact h_iret c (hd 51 106 _ _ rfl) rfl ⟨_, rfl, by omega⟩
                        · skip
                          refine h_bp c (hd 48 100 _ _ rfl) (by decide) (fun v100 e100 => hat 102 rfl ?_)
                          refine h_goto c (hd 49 102 _ _ rfl) (tgt := 106) (by decide) ?_
                          exact h_iret c (hd 51 106 _ _ rfl) rfl ⟨_, rfl, by omega⟩
                  · skip
                    refine h_ic c (hd 34 71 _ _ rfl) (by decide) (fun v71 e71 => hat 72 rfl ?_)
                    exact h_iret c (hd 35 72 _ _ rfl) rfl ⟨_, rfl, by omega⟩
              · skip
                refine h_ic c (hd 24 51 _ _ rfl) (by decide) (fun v51 e51 => hat 52 rfl ?_)
                exact h_iret c (hd 25 52 _ _ rfl) rfl ⟨_, rfl, by omega⟩
        · skip
          refine h_ic c (hd 10 22 _ _ rfl) (by decide) (fun v22 e22 => hat 23 rfl ?_)
          exact h_iret c (hd 11 23 _ _ rfl) rfl ⟨_, rfl, by omega⟩
      · skip
        obtain ⟨x16, hrv_, hx16⟩ := hk_val pp16
        subst hrv_
        have hx16 : 0 ≤ x16.toInt ∧ x16.toInt ≤ 0 := ⟨hx16.1, hx16.2.1⟩
        refine h_if c (hd 9 19 _ _ rfl) (tgt := 24) (by decide) (fun (h19 : x16.toInt = 0) => ?_) (fun (h19 : ¬ (x16.toInt = 0)) => hat 22 rfl ?_)
        · skip
          refine h_aln c (hd 12 24 _ _ rfl) (by rfl) (hat 25 rfl ?_)
          refine h_bp c (hd 13 25 _ _ rfl) (by decide) (fun v25 e25 => hat 27 rfl ?_)
          refine h_callVF c (M' := hM_isSH) (hp_isSH hG) (by decide +kernel) (wlkV (lkX12_272 hG) _ rfl rfl) (j := 114) (by decide +kernel) (hd 14 27 _ _ rfl) [.int v25] (rest := []) (by rfl) ⟨⟨114, by decide, rfl⟩, ⟨_, rfl, rf_in_top _, trivial⟩, trivial⟩ (Nat.le_of_ble_eq_true rfl) trivial (fun rv27 F27 fr27 rr27 pp27 sm_ => hat 30 rfl ?_)
          have e_ := (sm_ rfl).symm
          subst e_
          obtain ⟨a_, x27, ea_, er_, hx27⟩ := pp27
          cases ea_
          subst er_
          refine h_if c (hd 15 30 _ _ rfl) (tgt := 51) (by decide) (fun (h30 : x27.toInt ≠ 0) => ?_) (fun (h30 : ¬ (x27.toInt ≠ 0)) => hat 33 rfl ?_)
          · skip
            refine h_ic c (hd 24 51 _ _ rfl) (by decide) (fun v51 e51 => hat 52 rfl ?_)
            exact h_iret c (hd 25 52 _ _ rfl) rfl ⟨_, rfl, by omega⟩
          · skip
            refine h_aln c (hd 16 33 _ _ rfl) (by rfl) (hat 34 rfl ?_)
            refine h_bp c (hd 17 34 _ _ rfl) (by decide) (fun v34 e34 => hat 36 rfl ?_)
            refine h_callVF c (M' := hM_isSH) (hp_isSH hG) (by decide +kernel) (wlkV (lkX12_272 hG) _ rfl rfl) (j := 114) (by decide +kernel) (hd 18 36 _ _ rfl) [.int v34] (rest := []) (by rfl) ⟨⟨114, by decide, rfl⟩, ⟨_, rfl, rf_in_top _, trivial⟩, trivial⟩ (Nat.le_of_ble_eq_true rfl) trivial (fun rv36 F36 fr36 rr36 pp36 sm_ => hat 39 rfl ?_)
            have e_ := (sm_ rfl).symm
            subst e_
            obtain ⟨a_, x36, ea_, er_, hx36⟩ := pp36
            cases ea_
            subst er_
            refine h_if c (hd 19 39 _ _ rfl) (tgt := 51) (by decide) (fun (h39 : x36.toInt ≠ 0) => ?_) (fun (h39 : ¬ (x36.toInt ≠ 0)) => hat 42 rfl ?_)
            · skip
              refine h_ic c (hd 24 51 _ _ rfl) (by decide) (fun v51 e51 => hat 52 rfl ?_)
              exact h_iret c (hd 25 52 _ _ rfl) rfl ⟨_, rfl, by omega⟩
            · skip
              refine h_aln c (hd 20 42 _ _ rfl) (by rfl) (hat 43 rfl ?_)
              refine h_bp c (hd 21 43 _ _ rfl) (by decide) (fun v43 e43 => hat 45 rfl ?_)
              refine h_callVF c (M' := hM_isSH) (hp_isSH hG) (by decide +kernel) (wlkV (lkX12_272 hG) _ rfl rfl) (j := 114) (by decide +kernel) (hd 22 45 _ _ rfl) [.int v43] (rest := []) (by rfl) ⟨⟨114, by decide, rfl⟩, ⟨_, rfl, rf_in_top _, trivial⟩, trivial⟩ (Nat.le_of_ble_eq_true rfl) trivial (fun rv45 F45 fr45 rr45 pp45 sm_ => hat 48 rfl ?_)
              have e_ := (sm_ rfl).symm
              subst e_
              obtain ⟨a_, x45, ea_, er_, hx45⟩ := pp45
              cases ea_
              subst er_
              refine h_if c (hd 23 48 _ _ rfl) (tgt := 53) (by decide) (fun (h48 : x45.toInt = 0) => ?_) (fun (h48 : ¬ (x45.toInt = 0)) => hat 51 rfl ?_)
              · skip
                refine h_aln c (hd 26 53 _ _ rfl) (by rfl) (hat 54 rfl ?_)
                refine h_bp c (hd 27 54 _ _ rfl) (by decide) (fun v54 e54 => hat 56 rfl ?_)
                refine h_callVF c (M' := hM_isSH) (hp_isSH hG) (by decide +kernel) (wlkV (lkX12_272 hG) _ rfl rfl) (j := 114) (by decide +kernel) (hd 28 56 _ _ rfl) [.int v54] (rest := []) (by rfl) ⟨⟨114, by decide, rfl⟩, ⟨_, rfl, rf_in_top _, trivial⟩, trivial⟩ (Nat.le_of_ble_eq_true rfl) trivial (fun rv56 F56 fr56 rr56 pp56 sm_ => hat 59 rfl ?_)
                have e_ := (sm_ rfl).symm
                subst e_
                obtain ⟨a_, x56, ea_, er_, hx56⟩ := pp56
                cases ea_
                subst er_
                refine h_if c (hd 29 59 _ _ rfl) (tgt := 71) (by decide) (fun (h59 : x56.toInt ≠ 0) => ?_) (fun (h59 : ¬ (x56.toInt ≠ 0)) => hat 62 rfl ?_)
                · skip
                  refine h_ic c (hd 34 71 _ _ rfl) (by decide) (fun v71 e71 => hat 72 rfl ?_)
                  exact h_iret c (hd 35 72 _ _ rfl) rfl ⟨_, rfl, by omega⟩
                · skip
                  refine h_aln c (hd 30 62 _ _ rfl) (by rfl) (hat 63 rfl ?_)
                  refine h_bp c (hd 31 63 _ _ rfl) (by decide) (fun v63 e63 => hat 65 rfl ?_)
                  refine h_callVF c (M' := hM_isSH) (hp_isSH hG) (by decide +kernel) (wlkV (lkX12_272 hG) _ rfl rfl) (j := 114) (by decide +kernel) (hd 32 65 _ _ rfl) [.int v63] (rest := []) (by rfl) ⟨⟨114, by decide, rfl⟩, ⟨_, rfl, rf_in_top _, trivial⟩, trivial⟩ (Nat.le_of_ble_eq_true rfl) trivial (fun rv65 F65 fr65 rr65 pp65 sm_ => hat 68 rfl ?_)
                  have e_ := (sm_ rfl).symm
                  subst e_
                  obtain ⟨a_, x65, ea_, er_, hx65⟩ := pp65
                  cases ea_
                  subst er_
                  refine h_if c (hd 33 68 _ _ rfl) (tgt := 73) (by decide) (fun (h68 : x65.toInt = 0) => ?_) (fun (h68 : ¬ (x65.toInt = 0)) => hat 71 rfl ?_)
                  · skip
                    refine h_aln c (hd 36 73 _ _ rfl) (by rfl) (hat 74 rfl ?_)
                    refine h_bp c (hd 37 74 _ _ rfl) (by decide) (fun v74 e74 => hat 76 rfl ?_)
                    refine h_callVF c (M' := hM_isSH) (hp_isSH hG) (by decide +kernel) (wlkV (lkX12_272 hG) _ rfl rfl) (j := 114) (by decide +kernel) (hd 38 76 _ _ rfl) [.int v74] (rest := []) (by rfl) ⟨⟨114, by decide, rfl⟩, ⟨_, rfl, rf_in_top _, trivial⟩, trivial⟩ (Nat.le_of_ble_eq_true rfl) trivial (fun rv76 F76 fr76 rr76 pp76 sm_ => hat 79 rfl ?_)
                    have e_ := (sm_ rfl).symm
                    subst e_
                    obtain ⟨a_, x76, ea_, er_, hx76⟩ := pp76
                    cases ea_
                    subst er_
                    refine h_if c (hd 39 79 _ _ rfl) (tgt := 100) (by decide) (fun (h79 : x76.toInt ≠ 0) => ?_) (fun (h79 : ¬ (x76.toInt ≠ 0)) => hat 82 rfl ?_)
                    · skip
                      refine h_bp c (hd 48 100 _ _ rfl) (by decide) (fun v100 e100 => hat 102 rfl ?_)
                      refine h_goto c (hd 49 102 _ _ rfl) (tgt := 106) (by decide) ?_
                      exact h_iret c (hd 51 106 _ _ rfl) rfl ⟨_, rfl, by omega⟩
                    · skip
                      refine h_aln c (hd 40 82 _ _ rfl) (by rfl) (hat 83 rfl ?_)
                      refine h_bp c (hd 41 83 _ _ rfl) (by decide) (fun v83 e83 => hat 85 rfl ?_)
                      refine h_callVF c (M' := hM_isSH) (hp_isSH hG) (by decide +kernel) (wlkV (lkX12_272 hG) _ rfl rfl) (j := 114) (by decide +kernel) (hd 42 85 _ _ rfl) [.int v83] (rest := []) (by rfl) ⟨⟨114, by decide, rfl⟩, ⟨_, rfl, rf_in_top _, trivial⟩, trivial⟩ (Nat.le_of_ble_eq_true rfl) trivial (fun rv85 F85 fr85 rr85 pp85 sm_ => hat 88 rfl ?_)
                      have e_ := (sm_ rfl).symm
                      subst e_
                      obtain ⟨a_, x85, ea_, er_, hx85⟩ := pp85
                      cases ea_
                      subst er_
                      refine h_if c (hd 43 88 _ _ rfl) (tgt := 100) (by decide) (fun (h88 : x85.toInt ≠ 0) => ?_) (fun (h88 : ¬ (x85.toInt ≠ 0)) => hat 91 rfl ?_)
                      · skip
                        refine h_bp c (hd 48 100 _ _ rfl) (by decide) (fun v100 e100 => hat 102 rfl ?_)
                        refine h_goto c (hd 49 102 _ _ rfl) (tgt := 106) (by decide) ?_
                        exact h_iret c (hd 51 106 _ _ rfl) rfl ⟨_, rfl, by omega⟩
                      · skip
                        refine h_aln c (hd 44 91 _ _ rfl) (by rfl) (hat 92 rfl ?_)
                        refine h_bp c (hd 45 92 _ _ rfl) (by decide) (fun v92 e92 => hat 94 rfl ?_)
                        refine h_callVF c (M' := hM_isSH) (hp_isSH hG) (by decide +kernel) (wlkV (lkX12_272 hG) _ rfl rfl) (j := 114) (by decide +kernel) (hd 46 94 _ _ rfl) [.int v92] (rest := []) (by rfl) ⟨⟨114, by decide, rfl⟩, ⟨_, rfl, rf_in_top _, trivial⟩, trivial⟩ (Nat.le_of_ble_eq_true rfl) trivial (fun rv94 F94 fr94 rr94 pp94 sm_ => hat 97 rfl ?_)
                        have e_ := (sm_ rfl).symm
                        subst e_
                        obtain ⟨a_, x94, ea_, er_, hx94⟩ := pp94
                        cases ea_
                        subst er_
                        refine h_if c (hd 47 97 _ _ rfl) (tgt := 105) (by decide) (fun (h97 : x94.toInt = 0) => ?_) (fun (h97 : ¬ (x94.toInt = 0)) => hat 100 rfl ?_)
                        · skip
                          refine h_ic c (hd 50 105 _ _ rfl) (by decide) (fun v105 e105 => hat 106 rfl ?_)
                          exact h_iret c (hd 51 106 _ _ rfl) rfl ⟨_, rfl, by omega⟩
                        · skip
                          refine h_bp c (hd 48 100 _ _ rfl) (by decide) (fun v100 e100 => hat 102 rfl ?_)
                          refine h_goto c (hd 49 102 _ _ rfl) (tgt := 106) (by decide) ?_
                          exact h_iret c (hd 51 106 _ _ rfl) rfl ⟨_, rfl, by omega⟩
                  · skip
                    refine h_ic c (hd 34 71 _ _ rfl) (by decide) (fun v71 e71 => hat 72 rfl ?_)
                    exact h_iret c (hd 35 72 _ _ rfl) rfl ⟨_, rfl, by omega⟩
              · skip
                refine h_ic c (hd 24 51 _ _ rfl) (by decide) (fun v51 e51 => hat 52 rfl ?_)
                exact h_iret c (hd 25 52 _ _ rfl) rfl ⟨_, rfl, by omega⟩
        · skip
          refine h_ic c (hd 10 22 _ _ rfl) (by decide) (fun v22 e22 => hat 23 rfl ?_)
          exact h_iret c (hd 11 23 _ _ rfl) rfl ⟨_, rfl, by omega⟩
    · skip
      refine h_ic c (hd 4 10 _ _ rfl) (by decide) (fun v10 e10 => hat 11 rfl ?_)
      exact h_iret c (hd 5 11 _ _ rfl) rfl ⟨_, rfl, by omega⟩
def hM_isCp : rfM := ((⟨"NearSpellModel", "isCompared", "()Z"⟩, prog_14_method_28_code, 2, (some .boolean)), (2,100), ([.inr (.inl [114])],[]), [], [])
def ddX12_isCompared : List (Nat × Instr × Nat) := [(0,.aload_n 0,1),(1,.getfield 285,3),(4,.iconst 1,1),(5,.isub,1),(6,.istore_n 1,1),(7,.aload_n 0,1),(8,.getfield 63,3),(11,.iload_n 1,1),(12,.iaload,1),(13,.iconst 5,1),(14,.if_icmp .eq 14,3),(17,.aload_n 0,1),(18,.getfield 63,3),(21,.iload_n 1,1),(22,.iaload,1),(23,.bipush 6,2),(25,.if_icmp .ne 9,3),(28,.iinc 1 (-1),3),(31,.goto (-24),3),(34,.aload_n 0,1),(35,.getfield 63,3),(38,.iload_n 1,1),(39,.iaload,1),(40,.iconst 4,1),(41,.if_icmp .ne 7,3),(44,.iconst 1,1),(45,.goto 4,3),(48,.iconst 0,1),(49,.ireturn,1)]
set_option maxRecDepth 100000 in
theorem dkX12_isCompared : rf_decs prog_14_method_28_code ddX12_isCompared := rf_decs_of (by decide +kernel)
set_option maxHeartbeats 4000000 in
set_option maxRecDepth 20000 in
theorem hp_isCp {G : rfG} (hG : okG G) : h_met G hM_isCp (fun _ F => 1 ≤ (F 114 32).toInt ∧ (F 87 0).toInt = 8) (fun _ _ _ rv => ∃ x : Int32, rv = some (.int x) ∧ 0 ≤ x.toInt ∧ x.toInt ≤ 1) := by
  refine h_metOf hG.1 (by decide +kernel) (by decide) hG.2.2.1 (wflT hG flokX12) (wcsT hG csokX12) ?_
  intro vs w0 X hv_ hr hp c
  match vs, hv_ with
  | [_], ⟨⟨_, hj0, rfl⟩, _⟩ =>
  cases List.mem_singleton.mp hj0
  have hd : ∀ n pc i len, ddX12_isCompared[n]? = some (pc, i, len) → decode (mb hM_isCp) pc = .ok (i, len) := fun n pc i len h => hdk dkX12_isCompared n pc i len h
  show hW G X hM_isCp w0 0 [(0, .ref (G.2.1.1 114))] [] (hv w0)
  generalize hF0 : hv w0 = F at *
  have hc0 : 0 ≤ (F 114 32).toInt ∧ (F 114 32).toInt ≤ 90 := hrg hr ly_114_32
  have loop : ∀ (m : Nat) (k : Int32), m = k.toInt.toNat → 0 ≤ k.toInt → k.toInt < 90 → hW G X hM_isCp w0 7 [(1, .int k), (0, .ref (G.2.1.1 114))] [] F := by
    intro m
    induction m using Nat.strongRecOn with
    | ind m ih =>
    intro k hm hk0 hk1
    refine h_aln c (hd 5 7 _ _ rfl) (by rfl) (hat 8 rfl ?_)
    refine h_getR c (hd 6 8 _ _ rfl) fgX12_63 gnX12_63_114 (hat 11 rfl ?_)
    refine h_iln c (hd 7 11 _ _ rfl) (by rfl) (hat 12 rfl ?_)
    refine h_iald c (hd 8 12 _ _ rfl) la_87 ⟨by omega, by omega⟩ rfl (x := F 87 k.toInt.toNat) (rfl) (hat 13 rfl ?_)
    refine h_ic c (hd 9 13 _ _ rfl) (by decide) (fun v13 e13 => hat 14 rfl ?_)
    refine h_cmp c (hd 10 14 _ _ rfl) (tgt := 28) (by decide) (fun (h14 : (F 87 k.toInt.toNat).toInt = v13.toInt) => ?_) (fun (h14 : ¬ ((F 87 k.toInt.toNat).toInt = v13.toInt)) => hat 17 rfl ?_)
    · skip
      have hk2 : k.toInt ≠ 0 := fun e_ => by have e2_ : k.toInt.toNat = 0 := (by omega); have e3_ : (F 87 k.toInt.toNat).toInt = (F 87 0).toInt := (by rw [e2_]); omega
      refine h_inc c (fun r_ => [(1, .int r_), (0, .ref (G.2.1.1 114))]) (hd 17 28 _ _ rfl) (by decide) (by decide) (by rfl) (by omega) (fun _ => by rfl) (fun v28 e28 => hat 31 rfl ?_)
      refine h_goto c (hd 18 31 _ _ rfl) (tgt := 7) (by decide) ?_
      exact ih _ (by omega) _ rfl (by omega) (by omega)
    · skip
      refine h_aln c (hd 11 17 _ _ rfl) (by rfl) (hat 18 rfl ?_)
      refine h_getR c (hd 12 18 _ _ rfl) fgX12_63 gnX12_63_114 (hat 21 rfl ?_)
      refine h_iln c (hd 13 21 _ _ rfl) (by rfl) (hat 22 rfl ?_)
      refine h_iald c (hd 14 22 _ _ rfl) la_87 ⟨by omega, by omega⟩ rfl (x := F 87 k.toInt.toNat) (rfl) (hat 23 rfl ?_)
      refine h_bp c (hd 15 23 _ _ rfl) (by decide) (fun v23 e23 => hat 25 rfl ?_)
      refine h_cmp c (hd 16 25 _ _ rfl) (tgt := 34) (by decide) (fun (h25 : (F 87 k.toInt.toNat).toInt ≠ v23.toInt) => ?_) (fun (h25 : ¬ ((F 87 k.toInt.toNat).toInt ≠ v23.toInt)) => hat 28 rfl ?_)
      · skip
        refine h_aln c (hd 19 34 _ _ rfl) (by rfl) (hat 35 rfl ?_)
        refine h_getR c (hd 20 35 _ _ rfl) fgX12_63 gnX12_63_114 (hat 38 rfl ?_)
        refine h_iln c (hd 21 38 _ _ rfl) (by rfl) (hat 39 rfl ?_)
        refine h_iald c (hd 22 39 _ _ rfl) la_87 ⟨by omega, by omega⟩ rfl (x := F 87 k.toInt.toNat) (rfl) (hat 40 rfl ?_)
        refine h_ic c (hd 23 40 _ _ rfl) (by decide) (fun v40 e40 => hat 41 rfl ?_)
        refine h_cmp c (hd 24 41 _ _ rfl) (tgt := 48) (by decide) (fun (h41 : (F 87 k.toInt.toNat).toInt ≠ v40.toInt) => ?_) (fun (h41 : ¬ ((F 87 k.toInt.toNat).toInt ≠ v40.toInt)) => hat 44 rfl ?_)
        · skip
          refine h_ic c (hd 27 48 _ _ rfl) (by decide) (fun v48 e48 => hat 49 rfl ?_)
          exact h_zret c (hd 28 49 _ _ rfl) rfl (by omega) ⟨_, rfl, by omega, by omega⟩
        · skip
          refine h_ic c (hd 25 44 _ _ rfl) (by decide) (fun v44 e44 => hat 45 rfl ?_)
          refine h_goto c (hd 26 45 _ _ rfl) (tgt := 49) (by decide) ?_
          exact h_zret c (hd 28 49 _ _ rfl) rfl (by omega) ⟨_, rfl, by omega, by omega⟩
      · skip
        have hk2 : k.toInt ≠ 0 := fun e_ => by have e2_ : k.toInt.toNat = 0 := (by omega); have e3_ : (F 87 k.toInt.toNat).toInt = (F 87 0).toInt := (by rw [e2_]); omega
        refine h_inc c (fun r_ => [(1, .int r_), (0, .ref (G.2.1.1 114))]) (hd 17 28 _ _ rfl) (by decide) (by decide) (by rfl) (by omega) (fun _ => by rfl) (fun v28 e28 => hat 31 rfl ?_)
        refine h_goto c (hd 18 31 _ _ rfl) (tgt := 7) (by decide) ?_
        exact ih _ (by omega) _ rfl (by omega) (by omega)
  refine h_aln c (hd 0 0 _ _ rfl) (by rfl) (hat 1 rfl ?_)
  refine h_getI c (hd 1 1 _ _ rfl) fgX12_285 gnX12_285_114 (x := F 114 32) (rfl) (hat 4 rfl ?_)
  refine h_ic c (hd 2 4 _ _ rfl) (by decide) (fun v4 e4 => hat 5 rfl ?_)
  refine h_sub c (hd 3 5 _ _ rfl) (by omega) (fun v5 e5 => hat 6 rfl ?_)
  refine h_isn c (hd 4 6 _ _ rfl) (by decide) (L' := [(1, .int v5), (0, .ref (G.2.1.1 114))]) (by rfl) (hat 7 rfl ?_)
  exact loop _ _ rfl (by omega) (by omega)
