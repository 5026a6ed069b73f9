def hM_beh : rfM := ((⟨"NearSpellModel", "behindUnit", "()Z"⟩, prog_14_method_29_code, 2, (some .boolean)), (9,600), ([.inr (.inl [114])],[]), [(74,0),(85,0),(86,0),(87,0),(88,0),(114,5),(114,6),(114,7),(114,8),(114,9),(114,10),(114,11),(114,31),(114,32),(114,33),(114,34),(998,1),(998,2),(998,3)], [])
def ddX12_behindUnit : List (Nat × Instr × Nat) := [(0,.aload_n 0,1),(1,.invokevirtual 307,3),(4,.istore_n 1,1),(5,.iload_n 1,1),(6,.iconst 4,1),(7,.if_icmp .ne 16,3),(10,.aload_n 0,1),(11,.invokevirtual 310,3),(14,.ifCond .eq 9,3),(17,.aload_n 0,1),(18,.invokevirtual 230,3),(21,.iconst 1,1),(22,.ireturn,1),(23,.aload_n 0,1),(24,.getfield 63,3),(27,.aload_n 0,1),(28,.getfield 285,3),(31,.iconst 1,1),(32,.isub,1),(33,.iaload,1),(34,.bipush 6,2),(36,.if_icmp .gt 68,3),(39,.aload_n 0,1),(40,.getfield 63,3),(43,.aload_n 0,1),(44,.getfield 285,3),(47,.iconst 1,1),(48,.isub,1),(49,.iaload,1),(50,.iload_n 1,1),(51,.if_icmp .lt 53,3),(54,.aload_n 0,1),(55,.dup,1),(56,.getfield 285,3),(59,.iconst 1,1),(60,.isub,1),(61,.putfield 285,3),(64,.aload_n 0,1),(65,.getfield 63,3),(68,.aload_n 0,1),(69,.getfield 285,3),(72,.iaload,1),(73,.iconst 3,1),(74,.if_icmp .ne 13,3),(77,.aload_n 0,1),(78,.dup,1),(79,.getfield 288,3),(82,.iconst 1,1),(83,.isub,1),(84,.putfield 288,3),(87,.aload_n 0,1),(88,.aload_n 0,1),(89,.getfield 66,3),(92,.aload_n 0,1),(93,.getfield 285,3),(96,.iaload,1),(97,.iconst 0,1),(98,.invokevirtual 304,3),(101,.goto (-78),3),(104,.iload_n 1,1),(105,.ifCond .le 42,3),(108,.aload_n 0,1),(109,.iload_n 1,1),(110,.iload_n 1,1),(111,.iconst 2,1),(112,.if_icmp .ne 8,3),(115,.bipush 38,2),(117,.goto 21,3),(120,.iload_n 1,1),(121,.iconst 1,1),(122,.if_icmp .ne 8,3),(125,.bipush 124,2),(127,.goto 11,3),(130,.aload_n 0,1),(131,.aload_n 0,1),(132,.getfield 188,3),(135,.invokevirtual 191,3),(138,.invokevirtual 291,3),(141,.aload_n 0,1),(142,.invokevirtual 227,3),(145,.iconst 1,1),(146,.ireturn,1),(147,.aload_n 0,1),(148,.dup,1),(149,.getfield 285,3),(152,.iconst 1,1),(153,.isub,1),(154,.putfield 285,3),(157,.aload_n 0,1),(158,.getfield 63,3),(161,.aload_n 0,1),(162,.getfield 285,3),(165,.iaload,1),(166,.bipush 7,2),(168,.if_icmp .ne 23,3),(171,.aload_n 0,1),(172,.dup,1),(173,.getfield 288,3),(176,.iconst 1,1),(177,.isub,1),(178,.putfield 288,3),(181,.aload_n 0,1),(182,.aload_n 0,1),(183,.bipush 41,2),(185,.invokevirtual 272,3),(188,.invokevirtual 275,3),(191,.iconst 0,1),(192,.ireturn,1)]
set_option maxRecDepth 100000 in
theorem dkX12_behindUnit : rf_decs prog_14_method_29_code ddX12_behindUnit := rf_decs_of (by decide +kernel)
set_option maxHeartbeats 4000000 in
set_option maxRecDepth 20000 in
theorem hp_beh {G : rfG} (hG : okG G) (hh : w1OK G) (rb z U0 : Int) : h_met G hM_beh (fun _ F => RI rb z U0 false F ∧ (F 114 4).toInt = 0 ∧ (F 114 7).toInt ≤ 1600 ∧ (0 ≤ rb ∧ rb ≤ 1 ∧ 560 * rb ≤ z ∧ z ≤ 560 * rb + 9 * U0 ∧ 0 ≤ U0)) (fun _ F F' rv => ∃ x : Int32, rv = some (.int x) ∧ 0 ≤ x.toInt ∧ x.toInt ≤ 1 ∧ (F' 114 7).toInt ≤ 1600 ∧ (∀ i : Nat, (i < z.toNat ∨ 560 * (rb + 1) ≤ (i : Int)) → F' 85 i = F 85 i) ∧ ((1 ≤ (F' 114 4).toInt ∧ RW rb z U0 F') ∨ ((F' 114 4).toInt = 0 ∧ x.toInt = 0 ∧ (F' 114 32).toInt = 0 ∧ RW rb z U0 F' ∧ (F' 114 30).toInt ≤ z + 9 * ((F' 74 rb.toNat).toInt - U0) ∧ F' 114 7 = F 114 7 ∧ F' 114 8 = F 114 8) ∨ ((F' 114 4).toInt = 0 ∧ RI rb z U0 (decide (x.toInt = 1)) F' ∧ ((x.toInt = 0 ∧ (F' 114 32).toInt < (F 114 32).toInt ∧ F' 114 7 = F 114 7 ∧ F' 114 8 = F 114 8) ∨ ((F 114 8).toInt ≠ 0 ∧ ((F' 114 8).toInt = 0 ∨ (F 114 7).toInt + 1 ≤ (F' 114 7).toInt)))))) := by
  refine h_metOf hG.1 (by decide +kernel) (by decide) hG.2.2.1 (wflT hG flokX12) (wcsT hG csokX12) ?_
  intro vs w0 X hv_ hr hp c
  match vs, hv_ with
  | [_], ⟨⟨_, hj0, rfl⟩, _⟩ =>
  cases List.mem_singleton.mp hj0
  have hd : ∀ n pc i len, ddX12_behindUnit[n]? = some (pc, i, len) → decode (mb hM_beh) pc = .ok (i, len) := fun n pc i len h => hdk dkX12_behindUnit n pc i len h
  show hW G X hM_beh w0 0 [(0, .ref (G.2.1.1 114))] [] (hv w0)
  generalize hF0 : hv w0 = F at *
  obtain ⟨hRI, hft, hen, hgl⟩ := hp
  have hRI0 := hRI
  obtain ⟨h29, hz1, hp1, hU, hu0, hu1, hwi, -⟩ := hRI0
  have htop := RI_top hRI
  have hU60 : 0 ≤ (F 74 rb.toNat).toInt ∧ (F 74 rb.toNat).toInt ≤ 60 := hrga hr la_74 (by omega)
  have hen0 : 0 ≤ (F 114 7).toInt ∧ (F 114 7).toInt ≤ 1601 := hrg hr ly_114_7
  have hat0 : 0 ≤ (F 114 6).toInt ∧ (F 114 6).toInt ≤ 1600 := hrg hr ly_114_6
  have hRWF := RI_RW hRI
  have K141 : ∀ (w1 : Int32) (F1 : HF), hframe [(85, 0), (86, 0), (114, 31), (114, 32), (114, 33), (998, 1), (998, 3), (87, 0), (88, 0)] F F1 → RI rb z U0 true F1 → (∀ i : Nat, (i < z.toNat ∨ 560 * (rb + 1) ≤ (i : Int)) → F1 85 i = F 85 i) → (F 114 8).toInt ≠ 0 → hW G X hM_beh w0 141 [(1, .int w1), (0, .ref (G.2.1.1 114))] [] F1 := by
    intro w1 F1 fr1 hR1 hcd htk
    refine h_aln c (hd 78 141 _ _ rfl) (by rfl) (hat 142 rfl ?_)
    refine h_callV c (M' := q681_M) (hp_goOn hG) (by decide +kernel) (by decide +kernel) (wlkV (lkX12_227 hG) _ rfl rfl) (j := 114) (by decide +kernel) (hd 79 142 _ _ rfl) [] (rest := []) (by rfl) ⟨⟨114, by decide, rfl⟩, trivial⟩ (Nat.le_of_ble_eq_true rfl) (fun q hq => by cases hm1 hq; exact rf_in1 (show 0 ≤ (F1 114 7).toInt by rw [show F1 114 7 = F 114 7 from fr1 114 7 (by decide) (by rfl)]; omega) (show (F1 114 7).toInt ≤ 1600 by rw [show F1 114 7 = F 114 7 from fr1 114 7 (by decide) (by rfl)]; omega)) (fun rv142 F142 fr142 rr142 pp142 sm_ => hat 145 rfl ?_)
    obtain ⟨k_, hk_, pp142⟩ := pp142
    rcases hm3 hk_ with rfl | rfl | rfl
    · skip
      match rv142, pp142 with
      | none, pp142 =>
      skip
      have gf142_0 : 0 ≤ (F142 114 7).toInt ∧ (F142 114 7).toInt ≤ 1600 := ⟨(hk_fact pp142 0 rfl).1.1, (hk_fact pp142 0 rfl).1.2.1⟩
      have gf142_1 : 0 ≤ (F142 114 8).toInt ∧ (F142 114 8).toInt ≤ 0 := ⟨(hk_fact pp142 1 rfl).1.1, (hk_fact pp142 1 rfl).1.2.1⟩
      have gf142_2 : hgh F142 1 = true := hk_gh (hk_fact pp142 2 rfl).1
      refine h_ic c (hd 80 145 _ _ rfl) (by decide) (fun v145 e145 => hat 146 rfl ?_)
      have hRI2 : RI rb z U0 true F142 := RI_same hR1 ⟨fr142 114 29 (by decide) (by rfl), fr142 114 30 (by decide) (by rfl), fr142 114 31 (by decide) (by rfl), fr142 114 32 (by decide) (by rfl), fr142 114 33 (by decide) (by rfl), fr142 74 rb.toNat (by decide) (by rfl), fun i_ => fr142 85 i_ (by decide) (by rfl), fun i_ => fr142 87 i_ (by decide) (by rfl), fun i_ => fr142 88 i_ (by decide) (by rfl)⟩
      have hdb : decide (v145.toInt = 1) = true := by simp; omega
      exact h_zret c (hd 81 146 _ _ rfl) rfl (by omega) ⟨_, rfl, by omega, by omega, by omega, (fun i_ hi_ => (fr142 85 i_ (by decide) (by rfl)).trans (hcd i_ hi_)), Or.inr (Or.inr ⟨by rw [show F142 114 4 = F1 114 4 from fr142 114 4 (by decide) (by rfl), show F1 114 4 = F 114 4 from fr1 114 4 (by decide) (by rfl)]; exact hft, by rw [hdb]; exact hRI2, Or.inr ⟨htk, (Or.inl (by omega))⟩⟩)⟩
    · skip
      match rv142, pp142 with
      | none, pp142 =>
      skip
      have gf142_0 : 1 ≤ (F142 114 7).toInt ∧ (F142 114 7).toInt ≤ 1600 := ⟨(hk_fact pp142 0 rfl).1.1, (hk_fact pp142 0 rfl).1.2.1⟩
      have gr142_0 : (F1 114 7).toInt + 1 ≤ (F142 114 7).toInt ∧ (F142 114 7).toInt ≤ (F1 114 7).toInt + 4294967296 := (hk_fact pp142 0 rfl).2
      have gf142_1 : 5 ≤ (F142 114 8).toInt ∧ (F142 114 8).toInt ≤ 5 := ⟨(hk_fact pp142 1 rfl).1.1, (hk_fact pp142 1 rfl).1.2.1⟩
      have gf142_2 : hgh F142 1 = true := hk_gh (hk_fact pp142 2 rfl).1
      refine h_ic c (hd 80 145 _ _ rfl) (by decide) (fun v145 e145 => hat 146 rfl ?_)
      have hRI2 : RI rb z U0 true F142 := RI_same hR1 ⟨fr142 114 29 (by decide) (by rfl), fr142 114 30 (by decide) (by rfl), fr142 114 31 (by decide) (by rfl), fr142 114 32 (by decide) (by rfl), fr142 114 33 (by decide) (by rfl), fr142 74 rb.toNat (by decide) (by rfl), fun i_ => fr142 85 i_ (by decide) (by rfl), fun i_ => fr142 87 i_ (by decide) (by rfl), fun i_ => fr142 88 i_ (by decide) (by rfl)⟩
      have hdb : decide (v145.toInt = 1) = true := by simp; omega
      exact h_zret c (hd 81 146 _ _ rfl) rfl (by omega) ⟨_, rfl, by omega, by omega, by omega, (fun i_ hi_ => (fr142 85 i_ (by decide) (by rfl)).trans (hcd i_ hi_)), Or.inr (Or.inr ⟨by rw [show F142 114 4 = F1 114 4 from fr142 114 4 (by decide) (by rfl), show F1 114 4 = F 114 4 from fr1 114 4 (by decide) (by rfl)]; exact hft, by rw [hdb]; exact hRI2, Or.inr ⟨htk, (Or.inr (by rw [show F1 114 7 = F 114 7 from fr1 114 7 (by decide) (by rfl)] at gr142_0; omega))⟩⟩)⟩
    · skip
      match rv142, pp142 with
      | none, pp142 =>
      skip
      have gf142_0 : 1 ≤ (F142 114 7).toInt ∧ (F142 114 7).toInt ≤ 1600 := ⟨(hk_fact pp142 0 rfl).1.1, (hk_fact pp142 0 rfl).1.2.1⟩
      have gr142_0 : (F1 114 7).toInt + 1 ≤ (F142 114 7).toInt ∧ (F142 114 7).toInt ≤ (F1 114 7).toInt + 4294967296 := (hk_fact pp142 0 rfl).2
      have gf142_1 : 1 ≤ (F142 114 8).toInt ∧ (F142 114 8).toInt ≤ 4 := ⟨(hk_fact pp142 1 rfl).1.1, (hk_fact pp142 1 rfl).1.2.1⟩
      have gf142_2 : hgh F142 1 = true := hk_gh (hk_fact pp142 2 rfl).1
      refine h_ic c (hd 80 145 _ _ rfl) (by decide) (fun v145 e145 => hat 146 rfl ?_)
      have hRI2 : RI rb z U0 true F142 := RI_same hR1 ⟨fr142 114 29 (by decide) (by rfl), fr142 114 30 (by decide) (by rfl), fr142 114 31 (by decide) (by rfl), fr142 114 32 (by decide) (by rfl), fr142 114 33 (by decide) (by rfl), fr142 74 rb.toNat (by decide) (by rfl), fun i_ => fr142 85 i_ (by decide) (by rfl), fun i_ => fr142 87 i_ (by decide) (by rfl), fun i_ => fr142 88 i_ (by decide) (by rfl)⟩
      have hdb : decide (v145.toInt = 1) = true := by simp; omega
      exact h_zret c (hd 81 146 _ _ rfl) rfl (by omega) ⟨_, rfl, by omega, by omega, by omega, (fun i_ hi_ => (fr142 85 i_ (by decide) (by rfl)).trans (hcd i_ hi_)), Or.inr (Or.inr ⟨by rw [show F142 114 4 = F1 114 4 from fr142 114 4 (by decide) (by rfl), show F1 114 4 = F 114 4 from fr1 114 4 (by decide) (by rfl)]; exact hft, by rw [hdb]; exact hRI2, Or.inr ⟨htk, (Or.inr (by rw [show F1 114 7 = F 114 7 from fr1 114 7 (by decide) (by rfl)] at gr142_0; omega))⟩⟩)⟩
  have K104 : ∀ (w1 : Int32) (F1 : HF), hframe [(85, 0), (86, 0), (114, 31), (114, 32), (114, 33), (998, 1), (998, 3)] F F1 → RI rb z U0 false F1 → (∀ i : Nat, (i < z.toNat ∨ 560 * (rb + 1) ≤ (i : Int)) → F1 85 i = F 85 i) → (w1.toInt = 0 ∨ ((w1.toInt = 1 ∨ w1.toInt = 2) ∧ (F 114 8).toInt = 3) ∨ (4 ≤ w1.toInt ∧ w1.toInt ≤ 6 ∧ (F 114 8).toInt = 5 ∧ 37 ≤ rf_sgf (fun k => (F 72 k).toInt) (F 114 3).toInt (F 114 6).toInt ∧ rf_sgf (fun k => (F 72 k).toInt) (F 114 3).toInt (F 114 6).toInt ≤ 62)) → (w1.toInt ≤ 0 → 6 < (F1 87 ((F1 114 32).toInt.toNat - 1)).toInt) → hW G X hM_beh w0 104 [(1, .int w1), (0, .ref (G.2.1.1 114))] [] F1 := by
    intro w1 F1 fr1 hR1 hcd hrk hex
    have hR0 := hR1
    obtain ⟨k29, kz, kp1, kU, ku0, ku1, kwi, -⟩ := hR0
    have ktop := RI_top hR1
    refine h_know c (fun rr ff => ?_)
    have kwi0 : 0 ≤ (F1 114 31).toInt ∧ (F1 114 31).toInt ≤ 8 := hrg rr ly_114_31
    refine h_iln c (hd 59 104 _ _ rfl) (by rfl) (hat 105 rfl ?_)
    refine h_if c (hd 60 105 _ _ rfl) (tgt := 147) (by decide) (fun (h105 : w1.toInt ≤ 0) => ?_) (fun (h105 : ¬ (w1.toInt ≤ 0)) => hat 108 rfl ?_)
    · skip
      have hex := hex (by omega)
      have kbr : ∀ h_ : (F1 87 ((F1 114 32).toInt.toNat - 1)).toInt = 7, 1 ≤ (F1 114 31).toInt := fun h_ => by
            obtain ⟨-, -, -, -, -, -, -, nb_, nn_, nk_, hp_, hq_, -⟩ := hR1
            have h2_ := hp_.2.2.2.2.1
            rw [show (F1 114 32).toInt.toNat = ((F1 114 32).toInt.toNat - 1) + 1 by omega, hcnt_s] at h2_
            try simp only at h2_
            rw [h_] at h2_
            have h3_ : nk_ = hcnt qK (fun i => (F1 87 i).toInt) ((F1 114 32).toInt.toNat - 1) + 1 := h2_
            omega
      refine h_aln c (hd 82 147 _ _ rfl) (by rfl) (hat 148 rfl ?_)
      refine h_dup c (hd 83 148 _ _ rfl) (by rfl) (hat 149 rfl ?_)
      refine h_getI c (hd 84 149 _ _ rfl) fgX12_285 gnX12_285_114 (x := F1 114 32) (rfl) (hat 152 rfl ?_)
      refine h_ic c (hd 85 152 _ _ rfl) (by decide) (fun v152 e152 => hat 153 rfl ?_)
      refine h_sub c (hd 86 153 _ _ rfl) (by omega) (fun v153 e153 => hat 154 rfl ?_)
      refine h_putI c (hd 87 154 _ _ rfl) fgX12_285 gnX12_285_114 (by decide) (by decide) rfl (rf_in1 (by omega) (by omega)) (hat 157 rfl ?_)
      have ek_ : v153.toInt.toNat = (F1 114 32).toInt.toNat - 1 := by omega
      rw [← ek_] at hex kbr
      refine h_aln c (hd 88 157 _ _ rfl) (by rfl) (hat 158 rfl ?_)
      refine h_getR c (hd 89 158 _ _ rfl) fgX12_63 gnX12_63_114 (hat 161 rfl ?_)
      refine h_aln c (hd 90 161 _ _ rfl) (by rfl) (hat 162 rfl ?_)
      refine h_getI c (hd 91 162 _ _ rfl) fgX12_285 gnX12_285_114 (x := v153) (rfl) (hat 165 rfl ?_)
      refine h_iald c (hd 92 165 _ _ rfl) la_87 ⟨by omega, by omega⟩ rfl (x := F1 87 v153.toInt.toNat) (rfl) (hat 166 rfl ?_)
      refine h_bp c (hd 93 166 _ _ rfl) (by decide) (fun v166 e166 => hat 168 rfl ?_)
      refine h_cmp c (hd 94 168 _ _ rfl) (tgt := 191) (by decide) (fun (h168 : (F1 87 v153.toInt.toNat).toInt ≠ v166.toInt) => ?_) (fun (h168 : ¬ ((F1 87 v153.toInt.toNat).toInt ≠ v166.toInt)) => hat 171 rfl ?_)
      · skip
        refine h_ic c (hd 106 191 _ _ rfl) (by decide) (fun v191 e191 => hat 192 rfl ?_)
        have hk_ : (F1 114 32).toInt = 1 := by
            rcases Int.lt_or_le 1 (F1 114 32).toInt with g_ | g_
            · exfalso
              obtain ⟨-, -, -, -, -, -, -, nb_, nn_, nk_, hp_, -⟩ := hR1
              have := hp_.2.1 v153.toInt.toNat (by omega) (by omega)
              try simp only at this
              omega
            · omega
        have hRW1 := RI_RW hR1
        have hfin : (F1 114 30).toInt ≤ z + 9 * ((F1 74 rb.toNat).toInt - U0) := by
            obtain ⟨-, -, -, q4, -, -, -, nb_, nn_, nk_, -, -, -, q_⟩ := hR1
            simp only [Bool.false_eq_true, if_false] at q_
            omega
        exact h_zret c (hd 107 192 _ _ rfl) rfl (by omega) ⟨_, rfl, by omega, by omega, by rw [show (hupd F1 114 32 v153) 114 7 = F 114 7 from (fr1 114 7 (by decide) (by rfl))]; exact hen, hcd, Or.inr (Or.inl ⟨by rw [show (hupd F1 114 32 v153) 114 4 = F 114 4 from (fr1 114 4 (by decide) (by rfl))]; exact hft, by omega, show v153.toInt = 0 by omega, RW_same hRW1 rfl rfl rfl (fun i_ => rfl), by rw [show (hupd F1 114 32 v153) 114 30 = F1 114 30 from rfl, show (hupd F1 114 32 v153) 74 rb.toNat = F1 74 rb.toNat from rfl]; exact hfin, (fr1 114 7 (by decide) (by rfl)), (fr1 114 8 (by decide) (by rfl))⟩)⟩
      · skip
        have kb_ := kbr (by omega)
        refine h_aln c (hd 95 171 _ _ rfl) (by rfl) (hat 172 rfl ?_)
        refine h_dup c (hd 96 172 _ _ rfl) (by rfl) (hat 173 rfl ?_)
        refine h_getI c (hd 97 173 _ _ rfl) fgX12_288 gnX12_288_114 (x := F1 114 31) (rfl) (hat 176 rfl ?_)
        refine h_ic c (hd 98 176 _ _ rfl) (by decide) (fun v176 e176 => hat 177 rfl ?_)
        refine h_sub c (hd 99 177 _ _ rfl) (by omega) (fun v177 e177 => hat 178 rfl ?_)
        refine h_putI c (hd 100 178 _ _ rfl) fgX12_288 gnX12_288_114 (by decide) (by decide) rfl (rf_in1 (by omega) (by omega)) (hat 181 rfl ?_)
        refine h_aln c (hd 101 181 _ _ rfl) (by rfl) (hat 182 rfl ?_)
        refine h_aln c (hd 102 182 _ _ rfl) (by rfl) (hat 183 rfl ?_)
        refine h_bp c (hd 103 183 _ _ rfl) (by decide) (fun v183 e183 => hat 185 rfl ?_)
        refine h_callVF c (M' := hM_isSH) (hp_isSH hG) (by decide +kernel) (wlkV (lkX12_272 hG) _ rfl rfl) (j := 114) (by decide +kernel) (hd 104 185 _ _ rfl) [.int v183] (rest := [.ref (G.2.1.1 114)]) (by rfl) ⟨⟨114, by decide, rfl⟩, ⟨_, rfl, rf_in_top _, trivial⟩, trivial⟩ (Nat.le_of_ble_eq_true rfl) trivial (fun rv185 F185 fr185 rr185 pp185 sm_ => hat 188 rfl ?_)
        have e_ := (sm_ rfl).symm
        subst e_
        obtain ⟨a_, x185, ea_, er_, hx185⟩ := pp185
        cases ea_
        subst er_
        rw [show (hupd (hupd F1 114 32 v153) 114 31 v177) 114 8 = F 114 8 from fr1 114 8 (by decide) (by rfl)] at hx185
        have hx185 : x185.toInt = 1 ∧ (F 114 8).toInt = 5 ∨ x185.toInt = 0 := by rcases hx185 with h_ | h_; exact Or.inl ⟨h_.1, h_.2.1⟩; exact Or.inr h_
        refine h_callV c (M' := q1219_M) (q1219_met hG hh) (by decide +kernel) (by decide +kernel) (wlkV (lkX12_275 hG) _ rfl rfl) (j := 114) (by decide +kernel) (hd 105 188 _ _ rfl) [.int x185] (rest := []) (by rfl) ⟨⟨114, by decide, rfl⟩, ⟨_, rfl, rf_in1 (by omega) (by omega), trivial⟩, trivial⟩ (Nat.le_of_ble_eq_true rfl) (fun q hq => by cases hm1 hq; exact rf_in1 (show 0 ≤ (F1 114 7).toInt by rw [show F1 114 7 = F 114 7 from fr1 114 7 (by decide) (by rfl)]; omega) (show (F1 114 7).toInt ≤ 1600 by rw [show F1 114 7 = F 114 7 from fr1 114 7 (by decide) (by rfl)]; omega)) (fun rv188 F188 fr188 rr188 pp188 sm_ => hat 191 rfl ?_)
        obtain ⟨k_, hk_, pp188⟩ := pp188
        rcases hm4 hk_ with rfl | rfl | rfl | rfl
        · skip
          match rv188, pp188 with
          | none, pp188 =>
          skip
          have gf188_0 : 1 ≤ (F188 114 4).toInt ∧ (F188 114 4).toInt ≤ 4 := ⟨(hk_fact pp188 0 rfl).1.1, (hk_fact pp188 0 rfl).1.2.1⟩
          have gf188_1 : 0 ≤ (F188 114 7).toInt ∧ (F188 114 7).toInt ≤ 1600 := ⟨(hk_fact pp188 1 rfl).1.1, (hk_fact pp188 1 rfl).1.2.1⟩
          have gr188_1 : ((hupd (hupd F1 114 32 v153) 114 31 v177) 114 7).toInt + 0 ≤ (F188 114 7).toInt ∧ (F188 114 7).toInt ≤ ((hupd (hupd F1 114 32 v153) 114 31 v177) 114 7).toInt + 0 := (hk_fact pp188 1 rfl).2
          refine h_ic c (hd 106 191 _ _ rfl) (by decide) (fun v191 e191 => hat 192 rfl ?_)
          have hR2 : 2 ≤ (F1 114 32).toInt ∧ RI rb z U0 false (hupd (hupd F1 114 32 v153) 114 31 v177) := RI_close hR1 (by have e_ : (F1 114 32).toInt.toNat - 1 = v153.toInt.toNat := (by omega); rw [e_]; omega) rfl rfl (show v177.toInt = _ by omega) (show v153.toInt = _ by omega) rfl rfl (fun i_ => rfl) (fun i_ => rfl) (fun i_ => rfl)
          have hR4 : RI rb z U0 false F188 := RI_same hR2.2 ⟨fr188 114 29 (by decide) (by rfl), fr188 114 30 (by decide) (by rfl), fr188 114 31 (by decide) (by rfl), fr188 114 32 (by decide) (by rfl), fr188 114 33 (by decide) (by rfl), fr188 74 rb.toNat (by decide) (by rfl), fun i_ => fr188 85 i_ (by decide) (by rfl), fun i_ => fr188 87 i_ (by decide) (by rfl), fun i_ => fr188 88 i_ (by decide) (by rfl)⟩
          have hdb : decide (v191.toInt = 1) = false := by simp; omega
          exact h_zret c (hd 107 192 _ _ rfl) rfl (by omega) ⟨_, rfl, by omega, by omega, by omega, (fun i_ hi_ => (fr188 85 i_ (by decide) (by rfl)).trans (hcd i_ hi_)), Or.inl ⟨by omega, RI_RW hR4⟩⟩
        · skip
          match rv188, pp188 with
          | none, pp188 =>
          skip
          have ga188_0 : 1 ≤ x185.toInt ∧ x185.toInt ≤ 1 := hk_arg pp188 0 rfl rfl
          have gf188_0 : 0 ≤ (F188 114 4).toInt ∧ (F188 114 4).toInt ≤ 0 := ⟨(hk_fact pp188 0 rfl).1.1, (hk_fact pp188 0 rfl).1.2.1⟩
          have gf188_1 : 0 ≤ (F188 114 7).toInt ∧ (F188 114 7).toInt ≤ 1600 := ⟨(hk_fact pp188 1 rfl).1.1, (hk_fact pp188 1 rfl).1.2.1⟩
          have gf188_2 : 0 ≤ (F188 114 8).toInt ∧ (F188 114 8).toInt ≤ 0 := ⟨(hk_fact pp188 2 rfl).1.1, (hk_fact pp188 2 rfl).1.2.1⟩
          have gf188_3 : hgh F188 1 = true := hk_gh (hk_fact pp188 3 rfl).1
          refine h_ic c (hd 106 191 _ _ rfl) (by decide) (fun v191 e191 => hat 192 rfl ?_)
          have hR2 : 2 ≤ (F1 114 32).toInt ∧ RI rb z U0 false (hupd (hupd F1 114 32 v153) 114 31 v177) := RI_close hR1 (by have e_ : (F1 114 32).toInt.toNat - 1 = v153.toInt.toNat := (by omega); rw [e_]; omega) rfl rfl (show v177.toInt = _ by omega) (show v153.toInt = _ by omega) rfl rfl (fun i_ => rfl) (fun i_ => rfl) (fun i_ => rfl)
          have hR4 : RI rb z U0 false F188 := RI_same hR2.2 ⟨fr188 114 29 (by decide) (by rfl), fr188 114 30 (by decide) (by rfl), fr188 114 31 (by decide) (by rfl), fr188 114 32 (by decide) (by rfl), fr188 114 33 (by decide) (by rfl), fr188 74 rb.toNat (by decide) (by rfl), fun i_ => fr188 85 i_ (by decide) (by rfl), fun i_ => fr188 87 i_ (by decide) (by rfl), fun i_ => fr188 88 i_ (by decide) (by rfl)⟩
          have hdb : decide (v191.toInt = 1) = false := by simp; omega
          exact h_zret c (hd 107 192 _ _ rfl) rfl (by omega) ⟨_, rfl, by omega, by omega, by omega, (fun i_ hi_ => (fr188 85 i_ (by decide) (by rfl)).trans (hcd i_ hi_)), Or.inr (Or.inr ⟨by omega, by rw [hdb]; exact hR4, Or.inr ⟨by omega, (Or.inl (by omega))⟩⟩)⟩
        · skip
          match rv188, pp188 with
          | none, pp188 =>
          skip
          have ga188_0 : 1 ≤ x185.toInt ∧ x185.toInt ≤ 1 := hk_arg pp188 0 rfl rfl
          have gf188_0 : 0 ≤ (F188 114 4).toInt ∧ (F188 114 4).toInt ≤ 0 := ⟨(hk_fact pp188 0 rfl).1.1, (hk_fact pp188 0 rfl).1.2.1⟩
          have gf188_1 : 1 ≤ (F188 114 7).toInt ∧ (F188 114 7).toInt ≤ 1600 := ⟨(hk_fact pp188 1 rfl).1.1, (hk_fact pp188 1 rfl).1.2.1⟩
          have gr188_1 : ((hupd (hupd F1 114 32 v153) 114 31 v177) 114 7).toInt + 1 ≤ (F188 114 7).toInt ∧ (F188 114 7).toInt ≤ ((hupd (hupd F1 114 32 v153) 114 31 v177) 114 7).toInt + 4294967296 := (hk_fact pp188 1 rfl).2
          have gf188_2 : 1 ≤ (F188 114 8).toInt ∧ (F188 114 8).toInt ≤ 4 := ⟨(hk_fact pp188 2 rfl).1.1, (hk_fact pp188 2 rfl).1.2.1⟩
          have gf188_3 : hgh F188 1 = true := hk_gh (hk_fact pp188 3 rfl).1
          refine h_ic c (hd 106 191 _ _ rfl) (by decide) (fun v191 e191 => hat 192 rfl ?_)
          have hR2 : 2 ≤ (F1 114 32).toInt ∧ RI rb z U0 false (hupd (hupd F1 114 32 v153) 114 31 v177) := RI_close hR1 (by have e_ : (F1 114 32).toInt.toNat - 1 = v153.toInt.toNat := (by omega); rw [e_]; omega) rfl rfl (show v177.toInt = _ by omega) (show v153.toInt = _ by omega) rfl rfl (fun i_ => rfl) (fun i_ => rfl) (fun i_ => rfl)
          have hR4 : RI rb z U0 false F188 := RI_same hR2.2 ⟨fr188 114 29 (by decide) (by rfl), fr188 114 30 (by decide) (by rfl), fr188 114 31 (by decide) (by rfl), fr188 114 32 (by decide) (by rfl), fr188 114 33 (by decide) (by rfl), fr188 74 rb.toNat (by decide) (by rfl), fun i_ => fr188 85 i_ (by decide) (by rfl), fun i_ => fr188 87 i_ (by decide) (by rfl), fun i_ => fr188 88 i_ (by decide) (by rfl)⟩
          have hdb : decide (v191.toInt = 1) = false := by simp; omega
          exact h_zret c (hd 107 192 _ _ rfl) rfl (by omega) ⟨_, rfl, by omega, by omega, by omega, (fun i_ hi_ => (fr188 85 i_ (by decide) (by rfl)).trans (hcd i_ hi_)), Or.inr (Or.inr ⟨by omega, by rw [hdb]; exact hR4, Or.inr ⟨by omega, (Or.inr (by rw [show (hupd (hupd F1 114 32 v153) 114 31 v177) 114 7 = F 114 7 from (fr1 114 7 (by decide) (by rfl))] at gr188_1; omega))⟩⟩)⟩
        · skip
          match rv188, pp188 with
          | none, pp188 =>
          skip
          have ga188_0 : 1 ≤ x185.toInt ∧ x185.toInt ≤ 1 := hk_arg pp188 0 rfl rfl
          have gf188_0 : 0 ≤ (F188 114 4).toInt ∧ (F188 114 4).toInt ≤ 0 := ⟨(hk_fact pp188 0 rfl).1.1, (hk_fact pp188 0 rfl).1.2.1⟩
          have gf188_1 : 1 ≤ (F188 114 7).toInt ∧ (F188 114 7).toInt ≤ 1600 := ⟨(hk_fact pp188 1 rfl).1.1, (hk_fact pp188 1 rfl).1.2.1⟩
          have gr188_1 : ((hupd (hupd F1 114 32 v153) 114 31 v177) 114 7).toInt + 1 ≤ (F188 114 7).toInt ∧ (F188 114 7).toInt ≤ ((hupd (hupd F1 114 32 v153) 114 31 v177) 114 7).toInt + 4294967296 := (hk_fact pp188 1 rfl).2
          have gf188_2 : 5 ≤ (F188 114 8).toInt ∧ (F188 114 8).toInt ≤ 5 := ⟨(hk_fact pp188 2 rfl).1.1, (hk_fact pp188 2 rfl).1.2.1⟩
          have gf188_3 : hgh F188 1 = true := hk_gh (hk_fact pp188 3 rfl).1
          refine h_ic c (hd 106 191 _ _ rfl) (by decide) (fun v191 e191 => hat 192 rfl ?_)
          have hR2 : 2 ≤ (F1 114 32).toInt ∧ RI rb z U0 false (hupd (hupd F1 114 32 v153) 114 31 v177) := RI_close hR1 (by have e_ : (F1 114 32).toInt.toNat - 1 = v153.toInt.toNat := (by omega); rw [e_]; omega) rfl rfl (show v177.toInt = _ by omega) (show v153.toInt = _ by omega) rfl rfl (fun i_ => rfl) (fun i_ => rfl) (fun i_ => rfl)
          have hR4 : RI rb z U0 false F188 := RI_same hR2.2 ⟨fr188 114 29 (by decide) (by rfl), fr188 114 30 (by decide) (by rfl), fr188 114 31 (by decide) (by rfl), fr188 114 32 (by decide) (by rfl), fr188 114 33 (by decide) (by rfl), fr188 74 rb.toNat (by decide) (by rfl), fun i_ => fr188 85 i_ (by decide) (by rfl), fun i_ => fr188 87 i_ (by decide) (by rfl), fun i_ => fr188 88 i_ (by decide) (by rfl)⟩
          have hdb : decide (v191.toInt = 1) = false := by simp; omega
          exact h_zret c (hd 107 192 _ _ rfl) rfl (by omega) ⟨_, rfl, by omega, by omega, by omega, (fun i_ hi_ => (fr188 85 i_ (by decide) (by rfl)).trans (hcd i_ hi_)), Or.inr (Or.inr ⟨by omega, by rw [hdb]; exact hR4, Or.inr ⟨by omega, (Or.inr (by rw [show (hupd (hupd F1 114 32 v153) 114 31 v177) 114 7 = F 114 7 from (fr1 114 7 (by decide) (by rfl))] at gr188_1; omega))⟩⟩)⟩
    · skip
      refine h_aln c (hd 61 108 _ _ rfl) (by rfl) (hat 109 rfl ?_)
      refine h_iln c (hd 62 109 _ _ rfl) (by rfl) (hat 110 rfl ?_)
      refine h_iln c (hd 63 110 _ _ rfl) (by rfl) (hat 111 rfl ?_)
      refine h_ic c (hd 64 111 _ _ rfl) (by decide) (fun v111 e111 => hat 112 rfl ?_)
      refine h_cmp c (hd 65 112 _ _ rfl) (tgt := 120) (by decide) (fun (h112 : w1.toInt ≠ v111.toInt) => ?_) (fun (h112 : ¬ (w1.toInt ≠ v111.toInt)) => hat 115 rfl ?_)
      · skip
        refine h_iln c (hd 68 120 _ _ rfl) (by rfl) (hat 121 rfl ?_)
        refine h_ic c (hd 69 121 _ _ rfl) (by decide) (fun v121 e121 => hat 122 rfl ?_)
        refine h_cmp c (hd 70 122 _ _ rfl) (tgt := 130) (by decide) (fun (h122 : w1.toInt ≠ v121.toInt) => ?_) (fun (h122 : ¬ (w1.toInt ≠ v121.toInt)) => hat 125 rfl ?_)
        · skip
          refine h_aln c (hd 73 130 _ _ rfl) (by rfl) (hat 131 rfl ?_)
          refine h_aln c (hd 74 131 _ _ rfl) (by rfl) (hat 132 rfl ?_)
          refine h_getI c (hd 75 132 _ _ rfl) fgX12_188 gnX12_188_114 (x := F 114 6) (fr1 114 6 (by decide) (by rfl)) (hat 135 rfl ?_)
          refine h_callVF c (M' := hM_sign) (hp_sign hG) (by decide +kernel) (wlkV (lkX12_191 hG) _ rfl rfl) (j := 114) (by decide +kernel) (hd 76 135 _ _ rfl) [.int (F 114 6)] (rest := [.int w1, .ref (G.2.1.1 114)]) (by rfl) ⟨⟨114, by decide, rfl⟩, ⟨_, rfl, rf_in1 (by omega) (by omega), trivial⟩, trivial⟩ (Nat.le_of_ble_eq_true rfl) trivial (fun rv135 F135 fr135 rr135 pp135 sm_ => hat 138 rfl ?_)
          have e_ := (sm_ rfl).symm
          subst e_
          obtain ⟨k_, x135, ek_, er_, hx135, gx135⟩ := pp135
          cases ek_
          subst er_
          rw [show (fun i => (F1 72 i).toInt) = (fun i => (F 72 i).toInt) from funext fun q_ => congrArg Int32.toInt (fr1 72 q_ (by decide) (by rfl)), show F1 114 3 = F 114 3 from fr1 114 3 (by decide) (by rfl)] at hx135
          refine h_callVF c (M' := hM_pushE) (hp_pushE hG) (by decide +kernel) (wlkV (lkX12_291 hG) _ rfl rfl) (j := 114) (by decide +kernel) (hd 77 138 _ _ rfl) [.int w1, .int x135] (rest := []) (by rfl) ⟨⟨114, by decide, rfl⟩, ⟨_, rfl, rf_in1 (by omega) (by omega), trivial⟩, ⟨_, rfl, rf_in_top _, trivial⟩, trivial⟩ (Nat.le_of_ble_eq_true rfl) (show (F1 114 32).toInt < 90 from (by rw [show F1 114 32 = F1 114 32 from rfl]; omega)) (fun rv138 F138 fr138 rr138 pp138 sm_ => hat 141 rfl ?_)
          obtain ⟨a_, b_, ea_, eb_, er_, hc138, hw138, hg138⟩ := pp138
          cases ea_; cases eb_; subst er_
          have hR2 : RI rb z U0 true F138 := RI_bin hR1 w1.toInt x135.toInt (qB_iff.mpr (by omega)) (by omega) (fr138 114 29 (by decide) (by rfl)) (fr138 114 30 (by decide) (by rfl)) (fr138 114 31 (by decide) (by rfl)) (by rw [hc138, show F1 114 32 = F1 114 32 from rfl]) (fr138 114 33 (by decide) (by rfl)) (fr138 74 rb.toNat (by decide) (by rfl)) (fun i_ => fr138 85 i_ (by decide) (by rfl)) (fun i_ => by rw [hw138, show F1 114 32 = F1 114 32 from rfl, show F1 87 i_ = F1 87 i_ from rfl]; split <;> rfl) (fun i_ => by rw [hg138, show F1 114 32 = F1 114 32 from rfl, show F1 88 i_ = F1 88 i_ from rfl]; split <;> rfl)
          exact K141 w1 _ (hframe_tr (hframe_tr (hframe_rf [(85, 0), (86, 0), (114, 31), (114, 32), (114, 33), (998, 1), (998, 3), (87, 0), (88, 0)] F) fr1 (by decide)) fr138 (by decide)) hR2 (fun i_ hi_ => (fr138 85 i_ (by decide) (by rfl)).trans (hcd i_ hi_)) (by omega)
        · skip
          refine h_bp c (hd 71 125 _ _ rfl) (by decide) (fun v125 e125 => hat 127 rfl ?_)
          refine h_goto c (hd 72 127 _ _ rfl) (tgt := 138) (by decide) ?_
          refine h_callVF c (M' := hM_pushE) (hp_pushE hG) (by decide +kernel) (wlkV (lkX12_291 hG) _ rfl rfl) (j := 114) (by decide +kernel) (hd 77 138 _ _ rfl) [.int w1, .int v125] (rest := []) (by rfl) ⟨⟨114, by decide, rfl⟩, ⟨_, rfl, rf_in1 (by omega) (by omega), trivial⟩, ⟨_, rfl, rf_in_top _, trivial⟩, trivial⟩ (Nat.le_of_ble_eq_true rfl) (show (F1 114 32).toInt < 90 from (by rw [show F1 114 32 = F1 114 32 from rfl]; omega)) (fun rv138 F138 fr138 rr138 pp138 sm_ => hat 141 rfl ?_)
          obtain ⟨a_, b_, ea_, eb_, er_, hc138, hw138, hg138⟩ := pp138
          cases ea_; cases eb_; subst er_
          have hR2 : RI rb z U0 true F138 := RI_bin hR1 w1.toInt v125.toInt (qB_iff.mpr (by omega)) (by omega) (fr138 114 29 (by decide) (by rfl)) (fr138 114 30 (by decide) (by rfl)) (fr138 114 31 (by decide) (by rfl)) (by rw [hc138, show F1 114 32 = F1 114 32 from rfl]) (fr138 114 33 (by decide) (by rfl)) (fr138 74 rb.toNat (by decide) (by rfl)) (fun i_ => fr138 85 i_ (by decide) (by rfl)) (fun i_ => by rw [hw138, show F1 114 32 = F1 114 32 from rfl, show F1 87 i_ = F1 87 i_ from rfl]; split <;> rfl) (fun i_ => by rw [hg138, show F1 114 32 = F1 114 32 from rfl, show F1 88 i_ = F1 88 i_ from rfl]; split <;> rfl)
          exact K141 w1 _ (hframe_tr (hframe_tr (hframe_rf [(85, 0), (86, 0), (114, 31), (114, 32), (114, 33), (998, 1), (998, 3), (87, 0), (88, 0)] F) fr1 (by decide)) fr138 (by decide)) hR2 (fun i_ hi_ => (fr138 85 i_ (by decide) (by rfl)).trans (hcd i_ hi_)) (by omega)
      · skip
        refine h_bp c (hd 66 115 _ _ rfl) (by decide) (fun v115 e115 => hat 117 rfl ?_)
        refine h_goto c (hd 67 117 _ _ rfl) (tgt := 138) (by decide) ?_
        refine h_callVF c (M' := hM_pushE) (hp_pushE hG) (by decide +kernel) (wlkV (lkX12_291 hG) _ rfl rfl) (j := 114) (by decide +kernel) (hd 77 138 _ _ rfl) [.int w1, .int v115] (rest := []) (by rfl) ⟨⟨114, by decide, rfl⟩, ⟨_, rfl, rf_in1 (by omega) (by omega), trivial⟩, ⟨_, rfl, rf_in_top _, trivial⟩, trivial⟩ (Nat.le_of_ble_eq_true rfl) (show (F1 114 32).toInt < 90 from (by rw [show F1 114 32 = F1 114 32 from rfl]; omega)) (fun rv138 F138 fr138 rr138 pp138 sm_ => hat 141 rfl ?_)
        obtain ⟨a_, b_, ea_, eb_, er_, hc138, hw138, hg138⟩ := pp138
        cases ea_; cases eb_; subst er_
        have hR2 : RI rb z U0 true F138 := RI_bin hR1 w1.toInt v115.toInt (qB_iff.mpr (by omega)) (by omega) (fr138 114 29 (by decide) (by rfl)) (fr138 114 30 (by decide) (by rfl)) (fr138 114 31 (by decide) (by rfl)) (by rw [hc138, show F1 114 32 = F1 114 32 from rfl]) (fr138 114 33 (by decide) (by rfl)) (fr138 74 rb.toNat (by decide) (by rfl)) (fun i_ => fr138 85 i_ (by decide) (by rfl)) (fun i_ => by rw [hw138, show F1 114 32 = F1 114 32 from rfl, show F1 87 i_ = F1 87 i_ from rfl]; split <;> rfl) (fun i_ => by rw [hg138, show F1 114 32 = F1 114 32 from rfl, show F1 88 i_ = F1 88 i_ from rfl]; split <;> rfl)
        exact K141 w1 _ (hframe_tr (hframe_tr (hframe_rf [(85, 0), (86, 0), (114, 31), (114, 32), (114, 33), (998, 1), (998, 3), (87, 0), (88, 0)] F) fr1 (by decide)) fr138 (by decide)) hR2 (fun i_ hi_ => (fr138 85 i_ (by decide) (by rfl)).trans (hcd i_ hi_)) (by omega)
  have K23 : ∀ (m : Nat) (F1 : HF), hframe [(85, 0), (86, 0), (114, 31), (114, 32), (114, 33), (998, 1), (998, 3)] F F1 → RI rb z U0 false F1 → (∀ i : Nat, (i < z.toNat ∨ 560 * (rb + 1) ≤ (i : Int)) → F1 85 i = F 85 i) → m = (F1 114 32).toInt.toNat → ∀ w1 : Int32, (w1.toInt = 0 ∨ ((w1.toInt = 1 ∨ w1.toInt = 2) ∧ (F 114 8).toInt = 3) ∨ (4 ≤ w1.toInt ∧ w1.toInt ≤ 6 ∧ (F 114 8).toInt = 5 ∧ 37 ≤ rf_sgf (fun k => (F 72 k).toInt) (F 114 3).toInt (F 114 6).toInt ∧ rf_sgf (fun k => (F 72 k).toInt) (F 114 3).toInt (F 114 6).toInt ≤ 62)) → hW G X hM_beh w0 23 [(1, .int w1), (0, .ref (G.2.1.1 114))] [] F1 := by
    intro m
    induction m using Nat.strongRecOn with
    | ind m ih =>
    intro F1 fr1 hR1 hcd hm w1 hrk
    have hR0 := hR1
    obtain ⟨k29, kz, kp1, kU, ku0, ku1, kwi, -⟩ := hR0
    have ktop := RI_top hR1
    refine h_know c (fun rr ff => ?_)
    have kwi0 : 0 ≤ (F1 114 31).toInt ∧ (F1 114 31).toInt ≤ 8 := hrg rr ly_114_31
    have kW := (RI_RW hR1).2.2.1
    have kU60 : 0 ≤ (F1 74 rb.toNat).toInt ∧ (F1 74 rb.toNat).toInt ≤ 60 := hrga rr la_74 (by omega)
    refine h_aln c (hd 13 23 _ _ rfl) (by rfl) (hat 24 rfl ?_)
    refine h_getR c (hd 14 24 _ _ rfl) fgX12_63 gnX12_63_114 (hat 27 rfl ?_)
    refine h_aln c (hd 15 27 _ _ rfl) (by rfl) (hat 28 rfl ?_)
    refine h_getI c (hd 16 28 _ _ rfl) fgX12_285 gnX12_285_114 (x := F1 114 32) (rfl) (hat 31 rfl ?_)
    refine h_ic c (hd 17 31 _ _ rfl) (by decide) (fun v31 e31 => hat 32 rfl ?_)
    refine h_sub c (hd 18 32 _ _ rfl) (by omega) (fun v32 e32 => hat 33 rfl ?_)
    refine h_iald c (hd 19 33 _ _ rfl) la_87 ⟨by omega, by omega⟩ rfl (x := F1 87 v32.toInt.toNat) (rfl) (hat 34 rfl ?_)
    refine h_bp c (hd 20 34 _ _ rfl) (by decide) (fun v34 e34 => hat 36 rfl ?_)
    refine h_cmp c (hd 21 36 _ _ rfl) (tgt := 104) (by decide) (fun (h36 : v34.toInt < (F1 87 v32.toInt.toNat).toInt) => ?_) (fun (h36 : ¬ (v34.toInt < (F1 87 v32.toInt.toNat).toInt)) => hat 39 rfl ?_)
    · skip
      exact K104 w1 _ fr1 hR1 hcd hrk (fun h_ => by have e9_ : F1 87 ((F1 114 32).toInt.toNat - 1) = F1 87 v32.toInt.toNat := congrArg (F1 87) (by omega); rw [e9_]; omega)
    · skip
      refine h_aln c (hd 22 39 _ _ rfl) (by rfl) (hat 40 rfl ?_)
      refine h_getR c (hd 23 40 _ _ rfl) fgX12_63 gnX12_63_114 (hat 43 rfl ?_)
      refine h_aln c (hd 24 43 _ _ rfl) (by rfl) (hat 44 rfl ?_)
      refine h_getI c (hd 25 44 _ _ rfl) fgX12_285 gnX12_285_114 (x := F1 114 32) (rfl) (hat 47 rfl ?_)
      refine h_ic c (hd 26 47 _ _ rfl) (by decide) (fun v47 e47 => hat 48 rfl ?_)
      refine h_sub c (hd 27 48 _ _ rfl) (by omega) (fun v48 e48 => hat 49 rfl ?_)
      refine h_iald c (hd 28 49 _ _ rfl) la_87 ⟨by omega, by omega⟩ rfl (x := F1 87 v48.toInt.toNat) (rfl) (hat 50 rfl ?_)
      refine h_iln c (hd 29 50 _ _ rfl) (by rfl) (hat 51 rfl ?_)
      refine h_cmp c (hd 30 51 _ _ rfl) (tgt := 104) (by decide) (fun (h51 : (F1 87 v48.toInt.toNat).toInt < w1.toInt) => ?_) (fun (h51 : ¬ ((F1 87 v48.toInt.toNat).toInt < w1.toInt)) => hat 54 rfl ?_)
      · skip
        exact K104 w1 _ fr1 hR1 hcd hrk (fun h_ => by have k1_ := ktop.2.2.2 v48.toInt.toNat (by omega); omega)
      · skip
        have k2_ : 2 ≤ (F1 114 32).toInt := by
            rcases Int.lt_or_le (F1 114 32).toInt 2 with g_ | g_
            · exfalso
              have e_ : F1 87 v32.toInt.toNat = F1 87 0 := congrArg (F1 87) (by omega)
              rw [e_] at h36
              have k9_ := ktop.2.2.1
              omega
            · exact g_
        have ek2_ : v48.toInt.toNat = v32.toInt.toNat := by omega
        refine h_aln c (hd 31 54 _ _ rfl) (by rfl) (hat 55 rfl ?_)
        refine h_dup c (hd 32 55 _ _ rfl) (by rfl) (hat 56 rfl ?_)
        refine h_getI c (hd 33 56 _ _ rfl) fgX12_285 gnX12_285_114 (x := F1 114 32) (rfl) (hat 59 rfl ?_)
        refine h_ic c (hd 34 59 _ _ rfl) (by decide) (fun v59 e59 => hat 60 rfl ?_)
        refine h_sub c (hd 35 60 _ _ rfl) (by omega) (fun v60 e60 => hat 61 rfl ?_)
        refine h_putI c (hd 36 61 _ _ rfl) fgX12_285 gnX12_285_114 (by decide) (by decide) rfl (rf_in1 (by omega) (by omega)) (hat 64 rfl ?_)
        refine h_aln c (hd 37 64 _ _ rfl) (by rfl) (hat 65 rfl ?_)
        refine h_getR c (hd 38 65 _ _ rfl) fgX12_63 gnX12_63_114 (hat 68 rfl ?_)
        refine h_aln c (hd 39 68 _ _ rfl) (by rfl) (hat 69 rfl ?_)
        refine h_getI c (hd 40 69 _ _ rfl) fgX12_285 gnX12_285_114 (x := v60) (rfl) (hat 72 rfl ?_)
        refine h_iald c (hd 41 72 _ _ rfl) la_87 ⟨by omega, by omega⟩ rfl (x := F1 87 v60.toInt.toNat) (rfl) (hat 73 rfl ?_)
        refine h_ic c (hd 42 73 _ _ rfl) (by decide) (fun v73 e73 => hat 74 rfl ?_)
        refine h_cmp c (hd 43 74 _ _ rfl) (tgt := 87) (by decide) (fun (h74 : (F1 87 v60.toInt.toNat).toInt ≠ v73.toInt) => ?_) (fun (h74 : ¬ ((F1 87 v60.toInt.toNat).toInt ≠ v73.toInt)) => hat 77 rfl ?_)
        · skip
          refine h_aln c (hd 50 87 _ _ rfl) (by rfl) (hat 88 rfl ?_)
          refine h_aln c (hd 51 88 _ _ rfl) (by rfl) (hat 89 rfl ?_)
          refine h_getR c (hd 52 89 _ _ rfl) fgX12_66 gnX12_66_114 (hat 92 rfl ?_)
          refine h_aln c (hd 53 92 _ _ rfl) (by rfl) (hat 93 rfl ?_)
          refine h_getI c (hd 54 93 _ _ rfl) fgX12_285 gnX12_285_114 (x := v60) (rfl) (hat 96 rfl ?_)
          refine h_iald c (hd 55 96 _ _ rfl) la_88 ⟨by omega, by omega⟩ rfl (x := F1 88 v60.toInt.toNat) (rfl) (hat 97 rfl ?_)
          refine h_ic c (hd 56 97 _ _ rfl) (by decide) (fun v97 e97 => hat 98 rfl ?_)
          refine h_callVF c (M' := hM_emit) (hp_emit hG) (by decide +kernel) (wlkV (lkX12_304 hG) _ rfl rfl) (j := 114) (by decide +kernel) (hd 57 98 _ _ rfl) [.int (F1 88 v60.toInt.toNat), .int v97] (rest := []) (by rfl) ⟨⟨114, by decide, rfl⟩, ⟨_, rfl, rf_in_top _, trivial⟩, ⟨_, rfl, rf_in_top _, trivial⟩, trivial⟩ (Nat.le_of_ble_eq_true rfl) (show (_ : Int32).toInt < 1120 from (by show (F1 114 30).toInt < 1120; omega)) (fun rv98 F98 fr98 rr98 pp98 sm_ => hat 101 rfl ?_)
          obtain ⟨a_, b_, ea_, eb_, er_, hc98, hcd98⟩ := pp98
          cases ea_; cases eb_; subst er_
          refine h_goto c (hd 58 101 _ _ rfl) (tgt := 23) (by decide) ?_
          have ek_ : (F1 114 32).toInt.toNat - 1 = v60.toInt.toNat := by omega
          have e60_ : F1 87 v60.toInt.toNat = F1 87 v32.toInt.toNat := congrArg (F1 87) (by omega)
          have ecd_ : ∀ i_ : Nat, F98 85 i_ = if i_ = (F1 114 30).toInt.toNat then F1 88 v60.toInt.toNat else F1 85 i_ := hcd98
          have hR2 := RI_pop (F' := F98) (by omega) hR1 (by rw [ek_, e60_]; omega) (fr98 114 29 (by decide) (by rfl)) hc98 (by rw [ek_, if_neg (by omega), show F98 114 31 = F1 114 31 from fr98 114 31 (by decide) (by rfl)]; omega) (by rw [show F98 114 32 = v60 from fr98 114 32 (by decide) (by rfl)]; omega) (fr98 114 33 (by decide) (by rfl)) (fr98 74 rb.toNat (by decide) (by rfl)) (fun i_ => by rw [ecd_, ek_]; split <;> rfl) (fun i_ => fr98 87 i_ (by decide) (by rfl)) (fun i_ => fr98 88 i_ (by decide) (by rfl))
          exact ih _ (by rw [show F98 114 32 = v60 from fr98 114 32 (by decide) (by rfl)]; omega) _ (hframe_tr (hframe_up fr1 (by rfl) _) fr98 (by decide)) hR2.2 (fun i_ hi_ => by rw [ecd_, if_neg (by omega)]; exact hcd i_ hi_) rfl w1 hrk
        · skip
          have kbr : 1 ≤ (F1 114 31).toInt := by
            obtain ⟨-, -, -, -, -, -, -, nb_, nn_, nk_, hp_, hq_, -⟩ := hR1
            have h2_ := hp_.2.2.2.1
            rw [show (F1 114 32).toInt.toNat = v60.toInt.toNat + 1 by omega, hcnt_s] at h2_
            try simp only at h2_
            rw [show (F1 87 v60.toInt.toNat).toInt = 3 by omega] at h2_
            have h3_ : nn_ = hcnt qN (fun i => (F1 87 i).toInt) v60.toInt.toNat + 1 := h2_
            omega
          refine h_aln c (hd 44 77 _ _ rfl) (by rfl) (hat 78 rfl ?_)
          refine h_dup c (hd 45 78 _ _ rfl) (by rfl) (hat 79 rfl ?_)
          refine h_getI c (hd 46 79 _ _ rfl) fgX12_288 gnX12_288_114 (x := F1 114 31) (rfl) (hat 82 rfl ?_)
          refine h_ic c (hd 47 82 _ _ rfl) (by decide) (fun v82 e82 => hat 83 rfl ?_)
          refine h_sub c (hd 48 83 _ _ rfl) (by omega) (fun v83 e83 => hat 84 rfl ?_)
          refine h_putI c (hd 49 84 _ _ rfl) fgX12_288 gnX12_288_114 (by decide) (by decide) rfl (rf_in1 (by omega) (by omega)) (hat 87 rfl ?_)
          refine h_aln c (hd 50 87 _ _ rfl) (by rfl) (hat 88 rfl ?_)
          refine h_aln c (hd 51 88 _ _ rfl) (by rfl) (hat 89 rfl ?_)
          refine h_getR c (hd 52 89 _ _ rfl) fgX12_66 gnX12_66_114 (hat 92 rfl ?_)
          refine h_aln c (hd 53 92 _ _ rfl) (by rfl) (hat 93 rfl ?_)
          refine h_getI c (hd 54 93 _ _ rfl) fgX12_285 gnX12_285_114 (x := v60) (rfl) (hat 96 rfl ?_)
          refine h_iald c (hd 55 96 _ _ rfl) la_88 ⟨by omega, by omega⟩ rfl (x := F1 88 v60.toInt.toNat) (rfl) (hat 97 rfl ?_)
          refine h_ic c (hd 56 97 _ _ rfl) (by decide) (fun v97 e97 => hat 98 rfl ?_)
          refine h_callVF c (M' := hM_emit) (hp_emit hG) (by decide +kernel) (wlkV (lkX12_304 hG) _ rfl rfl) (j := 114) (by decide +kernel) (hd 57 98 _ _ rfl) [.int (F1 88 v60.toInt.toNat), .int v97] (rest := []) (by rfl) ⟨⟨114, by decide, rfl⟩, ⟨_, rfl, rf_in_top _, trivial⟩, ⟨_, rfl, rf_in_top _, trivial⟩, trivial⟩ (Nat.le_of_ble_eq_true rfl) (show (_ : Int32).toInt < 1120 from (by show (F1 114 30).toInt < 1120; omega)) (fun rv98 F98 fr98 rr98 pp98 sm_ => hat 101 rfl ?_)
          obtain ⟨a_, b_, ea_, eb_, er_, hc98, hcd98⟩ := pp98
          cases ea_; cases eb_; subst er_
          refine h_goto c (hd 58 101 _ _ rfl) (tgt := 23) (by decide) ?_
          have ek_ : (F1 114 32).toInt.toNat - 1 = v60.toInt.toNat := by omega
          have e60_ : F1 87 v60.toInt.toNat = F1 87 v32.toInt.toNat := congrArg (F1 87) (by omega)
          have ecd_ : ∀ i_ : Nat, F98 85 i_ = if i_ = (F1 114 30).toInt.toNat then F1 88 v60.toInt.toNat else F1 85 i_ := hcd98
          have hR2 := RI_pop (F' := F98) (by omega) hR1 (by rw [ek_, e60_]; omega) (fr98 114 29 (by decide) (by rfl)) hc98 (by rw [ek_, if_pos (by omega), show F98 114 31 = v83 from fr98 114 31 (by decide) (by rfl)]; omega) (by rw [show F98 114 32 = v60 from fr98 114 32 (by decide) (by rfl)]; omega) (fr98 114 33 (by decide) (by rfl)) (fr98 74 rb.toNat (by decide) (by rfl)) (fun i_ => by rw [ecd_, ek_]; split <;> rfl) (fun i_ => fr98 87 i_ (by decide) (by rfl)) (fun i_ => fr98 88 i_ (by decide) (by rfl))
          exact ih _ (by rw [show F98 114 32 = v60 from fr98 114 32 (by decide) (by rfl)]; omega) _ (hframe_tr (hframe_up (hframe_up fr1 (by rfl) _) (by rfl) _) fr98 (by decide)) hR2.2 (fun i_ hi_ => by rw [ecd_, if_neg (by omega)]; exact hcd i_ hi_) rfl w1 hrk
  refine h_aln c (hd 0 0 _ _ rfl) (by rfl) (hat 1 rfl ?_)
  refine h_callVF c (M' := hM_rank) (hp_rank hG) (by decide +kernel) (wlkV (lkX12_307 hG) _ rfl rfl) (j := 114) (by decide +kernel) (hd 1 1 _ _ rfl) [] (rest := []) (by rfl) ⟨⟨114, by decide, rfl⟩, trivial⟩ (Nat.le_of_ble_eq_true rfl) trivial (fun rv1 F1 fr1 rr1 pp1 sm_ => hat 4 rfl ?_)
  have e_ := (sm_ rfl).symm
  subst e_
  obtain ⟨x1, er_, hx1⟩ := pp1
  subst er_
  refine h_isn c (hd 2 4 _ _ rfl) (by decide) (L' := [(1, .int x1), (0, .ref (G.2.1.1 114))]) (by rfl) (hat 5 rfl ?_)
  refine h_iln c (hd 3 5 _ _ rfl) (by rfl) (hat 6 rfl ?_)
  refine h_ic c (hd 4 6 _ _ rfl) (by decide) (fun v6 e6 => hat 7 rfl ?_)
  refine h_cmp c (hd 5 7 _ _ rfl) (tgt := 23) (by decide) (fun (h7 : x1.toInt ≠ v6.toInt) => ?_) (fun (h7 : ¬ (x1.toInt ≠ v6.toInt)) => hat 10 rfl ?_)
  · skip
    exact K23 _ _ (hframe_tr (hframe_rf [(85, 0), (86, 0), (114, 31), (114, 32), (114, 33), (998, 1), (998, 3)] F) (hframe_rf [] F) (by decide)) (RI_same hRI ⟨rfl, rfl, rfl, rfl, rfl, rfl, (fun i_ => rfl), (fun i_ => rfl), (fun i_ => rfl)⟩) (fun i_ _ => (fun i_ => rfl) i_) rfl _ hx1
  · skip
    refine h_aln c (hd 6 10 _ _ rfl) (by rfl) (hat 11 rfl ?_)
    refine h_callVF c (M' := hM_isCp) (hp_isCp hG) (by decide +kernel) (wlkV (lkX12_310 hG) _ rfl rfl) (j := 114) (by decide +kernel) (hd 7 11 _ _ rfl) [] (rest := []) (by rfl) ⟨⟨114, by decide, rfl⟩, trivial⟩ (Nat.le_of_ble_eq_true rfl) ⟨htop.1, htop.2.2.1⟩ (fun rv11 F11 fr11 rr11 pp11 sm_ => hat 14 rfl ?_)
    have e_ := (sm_ rfl).symm
    subst e_
    obtain ⟨x11, er_, hx11⟩ := pp11
    subst er_
    refine h_if c (hd 8 14 _ _ rfl) (tgt := 23) (by decide) (fun (h14 : x11.toInt = 0) => ?_) (fun (h14 : ¬ (x11.toInt = 0)) => hat 17 rfl ?_)
    · skip
      exact K23 _ _ (hframe_tr (hframe_rf [(85, 0), (86, 0), (114, 31), (114, 32), (114, 33), (998, 1), (998, 3)] F) (hframe_rf [] F) (by decide)) (RI_same hRI ⟨rfl, rfl, rfl, rfl, rfl, rfl, (fun i_ => rfl), (fun i_ => rfl), (fun i_ => rfl)⟩) (fun i_ _ => (fun i_ => rfl) i_) rfl _ hx1
    · skip
      refine h_aln c (hd 9 17 _ _ rfl) (by rfl) (hat 18 rfl ?_)
      refine h_callV c (M' := q1217_M) (q1217_met hG) (by decide +kernel) (by decide +kernel) (wlkV (lkX12_230 hG) _ rfl rfl) (j := 114) (by decide +kernel) (hd 10 18 _ _ rfl) [] (rest := []) (by rfl) ⟨⟨114, by decide, rfl⟩, trivial⟩ (Nat.le_of_ble_eq_true rfl) (fun q hq => absurd hq List.not_mem_nil) (fun rv18 F18 fr18 rr18 pp18 sm_ => hat 21 rfl ?_)
      obtain ⟨k_, hk_, pp18⟩ := pp18
      rcases hm1 hk_ with rfl
      match rv18, pp18 with
      | none, pp18 =>
      skip
      have gf18_0 : 1 ≤ (F18 114 4).toInt ∧ (F18 114 4).toInt ≤ 4 := ⟨(hk_fact pp18 0 rfl).1.1, (hk_fact pp18 0 rfl).1.2.1⟩
      refine h_ic c (hd 11 21 _ _ rfl) (by decide) (fun v21 e21 => hat 22 rfl ?_)
      exact h_zret c (hd 12 22 _ _ rfl) rfl (by omega) ⟨_, rfl, by omega, by omega, by rw [show F18 114 7 = F 114 7 from (fr18 114 7 (by decide) (by rfl))]; exact hen, (fun i_ _ => (fun i_ => fr18 85 i_ (by decide) (by rfl)) i_), Or.inl ⟨by omega, RW_same hRWF (fr18 114 29 (by decide) (by rfl)) (fr18 114 30 (by decide) (by rfl)) (fr18 74 rb.toNat (by decide) (by rfl)) (fun i_ => fr18 85 i_ (by decide) (by rfl))⟩⟩
def hM_e : rfM := ((⟨"NearSpellModel", "e", "()V"⟩, prog_14_method_24_code, 2, none), (12,800), ([.inr (.inl [114])],[]), [(74,0),(85,0),(86,0),(87,0),(88,0),(114,5),(114,6),(114,7),(114,8),(114,9),(114,10),(114,11),(114,31),(114,32),(114,33),(114,34),(998,1),(998,2),(998,3)], [])
def ddX12_e : List (Nat × Instr × Nat) := [(0,.aload_n 0,1),(1,.iconst 0,1),(2,.putfield 285,3),(5,.aload_n 0,1),(6,.iconst 0,1),(7,.putfield 288,3),(10,.aload_n 0,1),(11,.bipush 8,2),(13,.iconst 0,1),(14,.invokevirtual 291,3),(17,.iconst 1,1),(18,.istore_n 1,1),(19,.aload_n 0,1),(20,.invokevirtual 223,3),(23,.ifCond .eq 29,3),(26,.aload_n 0,1),(27,.getfield 285,3),(30,.ifCond .le 22,3),(33,.iload_n 1,1),(34,.ifCond .eq 10,3),(37,.aload_n 0,1),(38,.invokevirtual 294,3),(41,.goto 7,3),(44,.aload_n 0,1),(45,.invokevirtual 297,3),(48,.istore_n 1,1),(49,.goto (-30),3),(52,.return_,1)]
set_option maxRecDepth 100000 in
theorem dkX12_e : rf_decs prog_14_method_24_code ddX12_e := rf_decs_of (by decide +kernel)
set_option maxHeartbeats 4000000 in
set_option maxRecDepth 20000 in
theorem hp_e {G : rfG} (hG : okG G) (hh : w1OK G) (rb z U0 : Int) : h_met G hM_e (fun _ F => (F 114 29).toInt = rb ∧ (F 114 30).toInt = z ∧ (F 74 rb.toNat).toInt = U0 ∧ (F 114 33).toInt = 0 ∧ (F 114 7).toInt ≤ 1600 ∧ (0 ≤ rb ∧ rb ≤ 1 ∧ 560 * rb ≤ z ∧ z ≤ 560 * rb + 9 * U0 ∧ 0 ≤ U0)) (fun _ F F' rv => rv = none ∧ (F' 114 7).toInt ≤ 1600 ∧ (∀ i : Nat, (i < z.toNat ∨ 560 * (rb + 1) ≤ (i : Int)) → F' 85 i = F 85 i) ∧ RW rb z U0 F' ∧ (1 ≤ (F' 114 4).toInt ∨ ((F' 114 4).toInt = 0 ∧ (F 114 4).toInt = 0 ∧ (F' 114 30).toInt ≤ z + 9 * ((F' 74 rb.toNat).toInt - U0) ∧ (F 114 8).toInt ≠ 0 ∧ ((F' 114 8).toInt = 0 ∨ (F 114 7).toInt + 1 ≤ (F' 114 7).toInt)))) := by
  refine h_metOf hG.1 (by decide +kernel) (by decide) hG.2.2.1 (wflT hG flokX12) (wcsT hG csokX12) ?_
  intro vs w0 X hv_ hr hp c
  match vs, hv_ with
  | [_], ⟨⟨_, hj0, rfl⟩, _⟩ =>
  cases List.mem_singleton.mp hj0
  have hd : ∀ n pc i len, ddX12_e[n]? = some (pc, i, len) → decode (mb hM_e) pc = .ok (i, len) := fun n pc i len h => hdk dkX12_e n pc i len h
  show hW G X hM_e w0 0 [(0, .ref (G.2.1.1 114))] [] (hv w0)
  generalize hF0 : hv w0 = F at *
  obtain ⟨h29, h30, h74, h33, hen, hgl⟩ := hp
  have hft0 : 0 ≤ (F 114 4).toInt ∧ (F 114 4).toInt ≤ 4 := hrg hr ly_114_4
  have hen0 : 0 ≤ (F 114 7).toInt ∧ (F 114 7).toInt ≤ 1601 := hrg hr ly_114_7
  have htk0 : 0 ≤ (F 114 8).toInt ∧ (F 114 8).toInt ≤ 5 := hrg hr ly_114_8
  have fault : ∀ (w1 : Int32) (F1 : HF), hframe [(74, 0), (85, 0), (86, 0), (87, 0), (88, 0), (114, 5), (114, 6), (114, 7), (114, 8), (114, 9), (114, 10), (114, 11), (114, 31), (114, 32), (114, 33), (114, 34), (998, 1), (998, 2), (998, 3)] F F1 → (F1 114 7).toInt ≤ 1600 → (∀ i : Nat, (i < z.toNat ∨ 560 * (rb + 1) ≤ (i : Int)) → F1 85 i = F 85 i) → 1 ≤ (F1 114 4).toInt → RW rb z U0 F1 → hW G X hM_e w0 19 [(1, .int w1), (0, .ref (G.2.1.1 114))] [] F1 := by
    intro w1 F1 fr1 hen1 hcd hf1 hW1
    refine h_aln c (hd 12 19 _ _ rfl) (by rfl) (hat 20 rfl ?_)
    refine h_callV c (M' := q1214_M) (q1214_met hG) (by decide +kernel) (by decide +kernel) (wlkV (lkX12_223 hG) _ rfl rfl) (j := 114) (by decide +kernel) (hd 13 20 _ _ rfl) [] (rest := []) (by rfl) ⟨⟨114, by decide, rfl⟩, trivial⟩ (Nat.le_of_ble_eq_true rfl) (fun q hq => absurd hq List.not_mem_nil) (fun rv20 F20 fr20 rr20 pp20 sm_ => hat 23 rfl ?_)
    have e_ := (sm_ rfl).symm
    subst e_
    obtain ⟨k_, hk_, pp20⟩ := pp20
    rcases hm2 hk_ with rfl | rfl
    · skip
      obtain ⟨x20, hrv_, hx20⟩ := hk_val pp20
      subst hrv_
      have hx20 : 1 ≤ x20.toInt ∧ x20.toInt ≤ 1 := ⟨hx20.1, hx20.2.1⟩
      have gf20_0 : 0 ≤ (F1 114 4).toInt ∧ (F1 114 4).toInt ≤ 0 := ⟨(hk_fact pp20 0 rfl).1.1, (hk_fact pp20 0 rfl).1.2.1⟩
      refine h_if c (hd 14 23 _ _ rfl) (tgt := 52) (by decide) (fun (h23 : x20.toInt = 0) => ?_) (fun (h23 : ¬ (x20.toInt = 0)) => hat 26 rfl ?_)
      · skip
        exact h_vret c (hd 27 52 _ _ rfl) rfl ⟨rfl, by rw [show F1 114 7 = F1 114 7 from rfl]; exact hen1, fun i_ hi_ => ((fun i_ => rfl) i_).trans (hcd i_ hi_), RW_same hW1 rfl rfl rfl (fun i_ => rfl), Or.inl (by rw [show F1 114 4 = F1 114 4 from rfl]; exact hf1)⟩
      · skip
        exfalso
        omega
    · skip
      obtain ⟨x20, hrv_, hx20⟩ := hk_val pp20
      subst hrv_
      have hx20 : 0 ≤ x20.toInt ∧ x20.toInt ≤ 0 := ⟨hx20.1, hx20.2.1⟩
      have gf20_0 : 1 ≤ (F1 114 4).toInt ∧ (F1 114 4).toInt ≤ 4 := ⟨(hk_fact pp20 0 rfl).1.1, (hk_fact pp20 0 rfl).1.2.1⟩
      refine h_if c (hd 14 23 _ _ rfl) (tgt := 52) (by decide) (fun (h23 : x20.toInt = 0) => ?_) (fun (h23 : ¬ (x20.toInt = 0)) => hat 26 rfl ?_)
      · skip
        exact h_vret c (hd 27 52 _ _ rfl) rfl ⟨rfl, by rw [show F1 114 7 = F1 114 7 from rfl]; exact hen1, fun i_ hi_ => ((fun i_ => rfl) i_).trans (hcd i_ hi_), RW_same hW1 rfl rfl rfl (fun i_ => rfl), Or.inl (by rw [show F1 114 4 = F1 114 4 from rfl]; exact hf1)⟩
      · skip
        exfalso
        omega
  have loop : ∀ (m : Nat) (w1 : Int32) (F1 : HF), hframe [(74, 0), (85, 0), (86, 0), (87, 0), (88, 0), (114, 5), (114, 6), (114, 7), (114, 8), (114, 9), (114, 10), (114, 11), (114, 31), (114, 32), (114, 33), (114, 34), (998, 1), (998, 2), (998, 3)] F F1 → (F1 114 7).toInt ≤ 1600 → (∀ i : Nat, (i < z.toNat ∨ 560 * (rb + 1) ≤ (i : Int)) → F1 85 i = F 85 i) → (0 ≤ w1.toInt ∧ w1.toInt ≤ 1) → ((1 ≤ (F1 114 4).toInt ∧ RW rb z U0 F1) ∨ ((F1 114 4).toInt = 0 ∧ (F 114 4).toInt = 0 ∧ (((F1 114 32).toInt = 0 ∧ RW rb z U0 F1 ∧ (F1 114 30).toInt ≤ z + 9 * ((F1 74 rb.toNat).toInt - U0) ∧ (F 114 8).toInt ≠ 0 ∧ ((F1 114 8).toInt = 0 ∨ (F 114 7).toInt + 1 ≤ (F1 114 7).toInt)) ∨ (RI rb z U0 (decide (w1.toInt = 1)) F1 ∧ ((w1.toInt = 1 ∧ F1 114 7 = F 114 7 ∧ F1 114 8 = F 114 8) ∨ ((F 114 8).toInt ≠ 0 ∧ ((F1 114 8).toInt = 0 ∨ (F 114 7).toInt + 1 ≤ (F1 114 7).toInt))))))) → m = ((if (F1 114 8).toInt = 0 then 0 else 1601 - (F1 114 7).toInt) * 200 + (F1 114 32).toInt + (if w1.toInt = 1 then 100 else 0)).toNat → hW G X hM_e w0 19 [(1, .int w1), (0, .ref (G.2.1.1 114))] [] F1 := by
    intro m
    induction m using Nat.strongRecOn with
    | ind m ih =>
    intro w1 F1 fr1 hen1 hcd hw01 hst hm
    refine h_know c (fun rr ff => ?_)
    have r7 : 0 ≤ (F1 114 7).toInt ∧ (F1 114 7).toInt ≤ 1601 := hrg rr ly_114_7
    have r32 : 0 ≤ (F1 114 32).toInt ∧ (F1 114 32).toInt ≤ 90 := hrg rr ly_114_32
    refine h_aln c (hd 12 19 _ _ rfl) (by rfl) (hat 20 rfl ?_)
    refine h_callV c (M' := q1214_M) (q1214_met hG) (by decide +kernel) (by decide +kernel) (wlkV (lkX12_223 hG) _ rfl rfl) (j := 114) (by decide +kernel) (hd 13 20 _ _ rfl) [] (rest := []) (by rfl) ⟨⟨114, by decide, rfl⟩, trivial⟩ (Nat.le_of_ble_eq_true rfl) (fun q hq => absurd hq List.not_mem_nil) (fun rv20 F20 fr20 rr20 pp20 sm_ => hat 23 rfl ?_)
    have e_ := (sm_ rfl).symm
    subst e_
    obtain ⟨k_, hk_, pp20⟩ := pp20
    rcases hm2 hk_ with rfl | rfl
    · skip
      obtain ⟨x20, hrv_, hx20⟩ := hk_val pp20
      subst hrv_
      have hx20 : 1 ≤ x20.toInt ∧ x20.toInt ≤ 1 := ⟨hx20.1, hx20.2.1⟩
      have gf20_0 : 0 ≤ (F1 114 4).toInt ∧ (F1 114 4).toInt ≤ 0 := ⟨(hk_fact pp20 0 rfl).1.1, (hk_fact pp20 0 rfl).1.2.1⟩
      refine h_if c (hd 14 23 _ _ rfl) (tgt := 52) (by decide) (fun (h23 : x20.toInt = 0) => ?_) (fun (h23 : ¬ (x20.toInt = 0)) => hat 26 rfl ?_)
      · skip
        have e4_ : F1 114 4 = F1 114 4 := rfl
        have e7_ : F1 114 7 = F1 114 7 := rfl
        have e8_ : F1 114 8 = F1 114 8 := rfl
        have e30_ : F1 114 30 = F1 114 30 := rfl
        have e74_ : F1 74 rb.toNat = F1 74 rb.toNat := rfl
        refine h_vret c (hd 27 52 _ _ rfl) rfl ⟨rfl, by rw [e7_]; exact hen1, fun i_ hi_ => ((fun i_ => rfl) i_).trans (hcd i_ hi_), ?_, ?_⟩
        · refine RW_same ?_ rfl rfl rfl (fun i_ => rfl)
          rcases hst with h_ | ⟨-, -, h_ | h_⟩
          · exact h_.2
          · exact h_.2.1
          · exact RI_RW h_.1
        · rw [e4_, e7_, e8_, e30_, e74_]
          rcases hst with h_ | ⟨h1_, h2_, h_ | h_⟩
          · exact Or.inl h_.1
          · exact Or.inr ⟨h1_, h2_, h_.2.2.1, h_.2.2.2.1, h_.2.2.2.2⟩
          · exfalso
            first | omega | (have k_ := (RI_top h_.1).1; omega)
      · skip
        refine h_aln c (hd 15 26 _ _ rfl) (by rfl) (hat 27 rfl ?_)
        refine h_getI c (hd 16 27 _ _ rfl) fgX12_285 gnX12_285_114 (x := F1 114 32) (rfl) (hat 30 rfl ?_)
        refine h_if c (hd 17 30 _ _ rfl) (tgt := 52) (by decide) (fun (h30 : (F1 114 32).toInt ≤ 0) => ?_) (fun (h30 : ¬ ((F1 114 32).toInt ≤ 0)) => hat 33 rfl ?_)
        · skip
          have e4_ : F1 114 4 = F1 114 4 := rfl
          have e7_ : F1 114 7 = F1 114 7 := rfl
          have e8_ : F1 114 8 = F1 114 8 := rfl
          have e30_ : F1 114 30 = F1 114 30 := rfl
          have e74_ : F1 74 rb.toNat = F1 74 rb.toNat := rfl
          refine h_vret c (hd 27 52 _ _ rfl) rfl ⟨rfl, by rw [e7_]; exact hen1, fun i_ hi_ => ((fun i_ => rfl) i_).trans (hcd i_ hi_), ?_, ?_⟩
          · refine RW_same ?_ rfl rfl rfl (fun i_ => rfl)
            rcases hst with h_ | ⟨-, -, h_ | h_⟩
            · exact h_.2
            · exact h_.2.1
            · exact RI_RW h_.1
          · rw [e4_, e7_, e8_, e30_, e74_]
            rcases hst with h_ | ⟨h1_, h2_, h_ | h_⟩
            · exact Or.inl h_.1
            · exact Or.inr ⟨h1_, h2_, h_.2.2.1, h_.2.2.2.1, h_.2.2.2.2⟩
            · exfalso
              first | omega | (have k_ := (RI_top h_.1).1; omega)
        · skip
          have hst2 : (F1 114 4).toInt = 0 ∧ (F 114 4).toInt = 0 ∧ RI rb z U0 (decide (w1.toInt = 1)) F1 ∧ ((w1.toInt = 1 ∧ F1 114 7 = F 114 7 ∧ F1 114 8 = F 114 8) ∨ ((F 114 8).toInt ≠ 0 ∧ ((F1 114 8).toInt = 0 ∨ (F 114 7).toInt + 1 ≤ (F1 114 7).toInt))) := by
            rcases hst with h_ | ⟨h1_, h2_, h_ | h_⟩
            · omega
            · omega
            · exact ⟨h1_, h2_, h_.1, h_.2⟩
          obtain ⟨hf1, hf0, hR1, hpr⟩ := hst2
          refine h_iln c (hd 18 33 _ _ rfl) (by rfl) (hat 34 rfl ?_)
          refine h_if c (hd 19 34 _ _ rfl) (tgt := 44) (by decide) (fun (h34 : w1.toInt = 0) => ?_) (fun (h34 : ¬ (w1.toInt = 0)) => hat 37 rfl ?_)
          · skip
            have hw1 : ¬ w1.toInt = 1 := by omega
            refine h_aln c (hd 23 44 _ _ rfl) (by rfl) (hat 45 rfl ?_)
            refine h_callVF c (M' := hM_beh) (hp_beh hG hh rb z U0) (by decide +kernel) (wlkV (lkX12_297 hG) _ rfl rfl) (j := 114) (by decide +kernel) (hd 24 45 _ _ rfl) [] (rest := []) (by rfl) ⟨⟨114, by decide, rfl⟩, trivial⟩ (Nat.le_of_ble_eq_true rfl) ⟨by have hdb : decide (w1.toInt = 1) = false := (by simp; omega); rw [hdb] at hR1; exact hR1, hf1, hen1, hgl⟩ (fun rv45 F45 fr45 rr45 pp45 sm_ => hat 48 rfl ?_)
            obtain ⟨x45, er_, hx45, hy45, hen45, hcd45, hx_45⟩ := pp45
            subst er_
            refine h_isn c (hd 25 48 _ _ rfl) (by decide) (L' := [(1, .int x45), (0, .ref (G.2.1.1 114))]) (by rfl) (hat 49 rfl ?_)
            refine h_goto c (hd 26 49 _ _ rfl) (tgt := 19) (by decide) ?_
            have r7_ : 0 ≤ (F45 114 7).toInt ∧ (F45 114 7).toInt ≤ 1601 := hrg rr45 ly_114_7
            have r8_ : 0 ≤ (F45 114 8).toInt ∧ (F45 114 8).toInt ≤ 5 := hrg rr45 ly_114_8
            have r32_ : 0 ≤ (F45 114 32).toInt ∧ (F45 114 32).toInt ≤ 90 := hrg rr45 ly_114_32
            have k_ := RI_top hR1
            rcases hx_45 with h_ | ⟨a_, b_, p_, w_, f_, t7_, t8_⟩ | ⟨a_, c_, d_⟩
            · exact h_less (L := [(1, .int x45), (0, .ref (G.2.1.1 114))]) (by simp) (fault _ _ (hframe_tr fr1 fr45 (by decide)) hen45 (fun i_ hi_ => (hcd45 i_ hi_).trans (hcd i_ hi_)) h_.1 h_.2)
            · refine h_less (L := [(1, .int x45), (0, .ref (G.2.1.1 114))]) (by simp) (ih _ ?_ _ _ (hframe_tr fr1 fr45 (by decide)) hen45 (fun i_ hi_ => (hcd45 i_ hi_).trans (hcd i_ hi_)) (by omega) ?_ rfl)
              · rw [hm, t8_, t7_, p_, if_neg hw1, if_neg (show ¬ x45.toInt = 1 by omega)]; split <;> omega
              · exact Or.inr ⟨a_, hf0, Or.inl ⟨p_, w_, f_, (by rcases hpr with q_ | q_; exact absurd q_.1 hw1; exact q_.1), (by rw [t7_, t8_]; rcases hpr with q_ | q_; exact absurd q_.1 hw1; exact q_.2)⟩⟩
            · refine h_less (L := [(1, .int x45), (0, .ref (G.2.1.1 114))]) (by simp) (ih _ ?_ _ _ (hframe_tr fr1 fr45 (by decide)) hen45 (fun i_ hi_ => (hcd45 i_ hi_).trans (hcd i_ hi_)) (by omega) ?_ rfl)
              · have k2_ := (RI_top c_).2.1
                rcases d_ with ⟨d1_, d2_, t7_, t8_⟩ | ⟨d1_, d2_⟩
                · rw [hm, t8_, t7_, if_neg hw1, if_neg (show ¬ x45.toInt = 1 by omega)]; split <;> omega
                · rw [hm, if_neg hw1, if_neg d1_]; have t_ : (if x45.toInt = 1 then (100 : Int) else 0) ≤ 100 := (by split <;> omega); have t2_ : 0 ≤ (if x45.toInt = 1 then (100 : Int) else 0) := (by split <;> omega); split <;> omega
              · refine Or.inr ⟨a_, hf0, Or.inr ⟨c_, Or.inr ?_⟩⟩
                rcases hpr with q_ | q_
                · exact absurd q_.1 hw1
                · rcases d_ with ⟨d1_, d2_, t7_, t8_⟩ | ⟨d1_, d2_⟩
                  · rw [t7_, t8_]; exact q_
                  · exact ⟨q_.1, by omega⟩
          · skip
            have hw1 : w1.toInt = 1 := by omega
            refine h_aln c (hd 20 37 _ _ rfl) (by rfl) (hat 38 rfl ?_)
            refine h_callVF c (M' := hM_unit) (hp_unit hG rb z U0) (by decide +kernel) (wlkV (lkX12_294 hG) _ rfl rfl) (j := 114) (by decide +kernel) (hd 21 38 _ _ rfl) [] (rest := []) (by rfl) ⟨⟨114, by decide, rfl⟩, trivial⟩ (Nat.le_of_ble_eq_true rfl) ⟨by have hdb : decide (w1.toInt = 1) = true := (by simp; omega); rw [hdb] at hR1; exact hR1, hf1, hen1, hgl⟩ (fun rv38 F38 fr38 rr38 pp38 sm_ => hat 41 rfl ?_)
            obtain ⟨x38, er_, hx38, hy38, hen38, hcd38, hx_38⟩ := pp38
            subst er_
            refine h_goto c (hd 22 41 _ _ rfl) (tgt := 48) (by decide) ?_
            refine h_isn c (hd 25 48 _ _ rfl) (by decide) (L' := [(1, .int x38), (0, .ref (G.2.1.1 114))]) (by rfl) (hat 49 rfl ?_)
            refine h_goto c (hd 26 49 _ _ rfl) (tgt := 19) (by decide) ?_
            have r7_ : 0 ≤ (F38 114 7).toInt ∧ (F38 114 7).toInt ≤ 1601 := hrg rr38 ly_114_7
            have r8_ : 0 ≤ (F38 114 8).toInt ∧ (F38 114 8).toInt ≤ 5 := hrg rr38 ly_114_8
            have r32_ : 0 ≤ (F38 114 32).toInt ∧ (F38 114 32).toInt ≤ 90 := hrg rr38 ly_114_32
            have k_ := RI_top hR1
            rcases hx_38 with h_ | ⟨a_, b_, c_, d_⟩
            · exact h_less (L := [(1, .int x38), (0, .ref (G.2.1.1 114))]) (by simp) (fault _ _ (hframe_tr fr1 fr38 (by decide)) hen38 (fun i_ hi_ => (hcd38 i_ hi_).trans (hcd i_ hi_)) h_.1 h_.2)
            · refine h_less (L := [(1, .int x38), (0, .ref (G.2.1.1 114))]) (by simp) (ih _ ?_ _ _ (hframe_tr fr1 fr38 (by decide)) hen38 (fun i_ hi_ => (hcd38 i_ hi_).trans (hcd i_ hi_)) (by omega) ?_ rfl)
              · rw [hm, if_pos hw1, if_neg b_]; have t_ : (if x38.toInt = 1 then (100 : Int) else 0) ≤ 100 := (by split <;> omega); have t2_ : 0 ≤ (if x38.toInt = 1 then (100 : Int) else 0) := (by split <;> omega); have k2_ := (RI_top c_).2.1; split <;> omega
              · refine Or.inr ⟨a_, hf0, Or.inr ⟨c_, Or.inr ?_⟩⟩
                rcases hpr with q_ | q_
                · rw [← q_.2.1, ← q_.2.2]; exact ⟨b_, d_⟩
                · exact ⟨q_.1, by omega⟩
    · skip
      obtain ⟨x20, hrv_, hx20⟩ := hk_val pp20
      subst hrv_
      have hx20 : 0 ≤ x20.toInt ∧ x20.toInt ≤ 0 := ⟨hx20.1, hx20.2.1⟩
      have gf20_0 : 1 ≤ (F1 114 4).toInt ∧ (F1 114 4).toInt ≤ 4 := ⟨(hk_fact pp20 0 rfl).1.1, (hk_fact pp20 0 rfl).1.2.1⟩
      refine h_if c (hd 14 23 _ _ rfl) (tgt := 52) (by decide) (fun (h23 : x20.toInt = 0) => ?_) (fun (h23 : ¬ (x20.toInt = 0)) => hat 26 rfl ?_)
      · skip
        have e4_ : F1 114 4 = F1 114 4 := rfl
        have e7_ : F1 114 7 = F1 114 7 := rfl
        have e8_ : F1 114 8 = F1 114 8 := rfl
        have e30_ : F1 114 30 = F1 114 30 := rfl
        have e74_ : F1 74 rb.toNat = F1 74 rb.toNat := rfl
        refine h_vret c (hd 27 52 _ _ rfl) rfl ⟨rfl, by rw [e7_]; exact hen1, fun i_ hi_ => ((fun i_ => rfl) i_).trans (hcd i_ hi_), ?_, ?_⟩
        · refine RW_same ?_ rfl rfl rfl (fun i_ => rfl)
          rcases hst with h_ | ⟨-, -, h_ | h_⟩
          · exact h_.2
          · exact h_.2.1
          · exact RI_RW h_.1
        · rw [e4_, e7_, e8_, e30_, e74_]
          rcases hst with h_ | ⟨h1_, h2_, h_ | h_⟩
          · exact Or.inl h_.1
          · exact Or.inr ⟨h1_, h2_, h_.2.2.1, h_.2.2.2.1, h_.2.2.2.2⟩
          · exfalso
            first | omega | (have k_ := (RI_top h_.1).1; omega)
      · skip
        refine h_aln c (hd 15 26 _ _ rfl) (by rfl) (hat 27 rfl ?_)
        refine h_getI c (hd 16 27 _ _ rfl) fgX12_285 gnX12_285_114 (x := F1 114 32) (rfl) (hat 30 rfl ?_)
        refine h_if c (hd 17 30 _ _ rfl) (tgt := 52) (by decide) (fun (h30 : (F1 114 32).toInt ≤ 0) => ?_) (fun (h30 : ¬ ((F1 114 32).toInt ≤ 0)) => hat 33 rfl ?_)
        · skip
          have e4_ : F1 114 4 = F1 114 4 := rfl
          have e7_ : F1 114 7 = F1 114 7 := rfl
          have e8_ : F1 114 8 = F1 114 8 := rfl
          have e30_ : F1 114 30 = F1 114 30 := rfl
          have e74_ : F1 74 rb.toNat = F1 74 rb.toNat := rfl
          refine h_vret c (hd 27 52 _ _ rfl) rfl ⟨rfl, by rw [e7_]; exact hen1, fun i_ hi_ => ((fun i_ => rfl) i_).trans (hcd i_ hi_), ?_, ?_⟩
          · refine RW_same ?_ rfl rfl rfl (fun i_ => rfl)
            rcases hst with h_ | ⟨-, -, h_ | h_⟩
            · exact h_.2
            · exact h_.2.1
            · exact RI_RW h_.1
          · rw [e4_, e7_, e8_, e30_, e74_]
            rcases hst with h_ | ⟨h1_, h2_, h_ | h_⟩
            · exact Or.inl h_.1
            · exact Or.inr ⟨h1_, h2_, h_.2.2.1, h_.2.2.2.1, h_.2.2.2.2⟩
            · exfalso
              first | omega | (have k_ := (RI_top h_.1).1; omega)
        · skip
          have hst2 : (F1 114 4).toInt = 0 ∧ (F 114 4).toInt = 0 ∧ RI rb z U0 (decide (w1.toInt = 1)) F1 ∧ ((w1.toInt = 1 ∧ F1 114 7 = F 114 7 ∧ F1 114 8 = F 114 8) ∨ ((F 114 8).toInt ≠ 0 ∧ ((F1 114 8).toInt = 0 ∨ (F 114 7).toInt + 1 ≤ (F1 114 7).toInt))) := by
            rcases hst with h_ | ⟨h1_, h2_, h_ | h_⟩
            · omega
            · omega
            · exact ⟨h1_, h2_, h_.1, h_.2⟩
          obtain ⟨hf1, hf0, hR1, hpr⟩ := hst2
          refine h_iln c (hd 18 33 _ _ rfl) (by rfl) (hat 34 rfl ?_)
          refine h_if c (hd 19 34 _ _ rfl) (tgt := 44) (by decide) (fun (h34 : w1.toInt = 0) => ?_) (fun (h34 : ¬ (w1.toInt = 0)) => hat 37 rfl ?_)
          · skip
            have hw1 : ¬ w1.toInt = 1 := by omega
            refine h_aln c (hd 23 44 _ _ rfl) (by rfl) (hat 45 rfl ?_)
            refine h_callVF c (M' := hM_beh) (hp_beh hG hh rb z U0) (by decide +kernel) (wlkV (lkX12_297 hG) _ rfl rfl) (j := 114) (by decide +kernel) (hd 24 45 _ _ rfl) [] (rest := []) (by rfl) ⟨⟨114, by decide, rfl⟩, trivial⟩ (Nat.le_of_ble_eq_true rfl) ⟨by have hdb : decide (w1.toInt = 1) = false := (by simp; omega); rw [hdb] at hR1; exact hR1, hf1, hen1, hgl⟩ (fun rv45 F45 fr45 rr45 pp45 sm_ => hat 48 rfl ?_)
            obtain ⟨x45, er_, hx45, hy45, hen45, hcd45, hx_45⟩ := pp45
            subst er_
            refine h_isn c (hd 25 48 _ _ rfl) (by decide) (L' := [(1, .int x45), (0, .ref (G.2.1.1 114))]) (by rfl) (hat 49 rfl ?_)
            refine h_goto c (hd 26 49 _ _ rfl) (tgt := 19) (by decide) ?_
            have r7_ : 0 ≤ (F45 114 7).toInt ∧ (F45 114 7).toInt ≤ 1601 := hrg rr45 ly_114_7
            have r8_ : 0 ≤ (F45 114 8).toInt ∧ (F45 114 8).toInt ≤ 5 := hrg rr45 ly_114_8
            have r32_ : 0 ≤ (F45 114 32).toInt ∧ (F45 114 32).toInt ≤ 90 := hrg rr45 ly_114_32
            have k_ := RI_top hR1
            rcases hx_45 with h_ | ⟨a_, b_, p_, w_, f_, t7_, t8_⟩ | ⟨a_, c_, d_⟩
            · exact h_less (L := [(1, .int x45), (0, .ref (G.2.1.1 114))]) (by simp) (fault _ _ (hframe_tr fr1 fr45 (by decide)) hen45 (fun i_ hi_ => (hcd45 i_ hi_).trans (hcd i_ hi_)) h_.1 h_.2)
            · refine h_less (L := [(1, .int x45), (0, .ref (G.2.1.1 114))]) (by simp) (ih _ ?_ _ _ (hframe_tr fr1 fr45 (by decide)) hen45 (fun i_ hi_ => (hcd45 i_ hi_).trans (hcd i_ hi_)) (by omega) ?_ rfl)
              · rw [hm, t8_, t7_, p_, if_neg hw1, if_neg (show ¬ x45.toInt = 1 by omega)]; split <;> omega
              · exact Or.inr ⟨a_, hf0, Or.inl ⟨p_, w_, f_, (by rcases hpr with q_ | q_; exact absurd q_.1 hw1; exact q_.1), (by rw [t7_, t8_]; rcases hpr with q_ | q_; exact absurd q_.1 hw1; exact q_.2)⟩⟩
            · refine h_less (L := [(1, .int x45), (0, .ref (G.2.1.1 114))]) (by simp) (ih _ ?_ _ _ (hframe_tr fr1 fr45 (by decide)) hen45 (fun i_ hi_ => (hcd45 i_ hi_).trans (hcd i_ hi_)) (by omega) ?_ rfl)
              · have k2_ := (RI_top c_).2.1
                rcases d_ with ⟨d1_, d2_, t7_, t8_⟩ | ⟨d1_, d2_⟩
                · rw [hm, t8_, t7_, if_neg hw1, if_neg (show ¬ x45.toInt = 1 by omega)]; split <;> omega
                · rw [hm, if_neg hw1, if_neg d1_]; have t_ : (if x45.toInt = 1 then (100 : Int) else 0) ≤ 100 := (by split <;> omega); have t2_ : 0 ≤ (if x45.toInt = 1 then (100 : Int) else 0) := (by split <;> omega); split <;> omega
              · refine Or.inr ⟨a_, hf0, Or.inr ⟨c_, Or.inr ?_⟩⟩
                rcases hpr with q_ | q_
                · exact absurd q_.1 hw1
                · rcases d_ with ⟨d1_, d2_, t7_, t8_⟩ | ⟨d1_, d2_⟩
                  · rw [t7_, t8_]; exact q_
                  · exact ⟨q_.1, by omega⟩
          · skip
            have hw1 : w1.toInt = 1 := by omega
            refine h_aln c (hd 20 37 _ _ rfl) (by rfl) (hat 38 rfl ?_)
            refine h_callVF c (M' := hM_unit) (hp_unit hG rb z U0) (by decide +kernel) (wlkV (lkX12_294 hG) _ rfl rfl) (j := 114) (by decide +kernel) (hd 21 38 _ _ rfl) [] (rest := []) (by rfl) ⟨⟨114, by decide, rfl⟩, trivial⟩ (Nat.le_of_ble_eq_true rfl) ⟨by have hdb : decide (w1.toInt = 1) = true := (by simp; omega); rw [hdb] at hR1; exact hR1, hf1, hen1, hgl⟩ (fun rv38 F38 fr38 rr38 pp38 sm_ => hat 41 rfl ?_)
            obtain ⟨x38, er_, hx38, hy38, hen38, hcd38, hx_38⟩ := pp38
            subst er_
            refine h_goto c (hd 22 41 _ _ rfl) (tgt := 48) (by decide) ?_
            refine h_isn c (hd 25 48 _ _ rfl) (by decide) (L' := [(1, .int x38), (0, .ref (G.2.1.1 114))]) (by rfl) (hat 49 rfl ?_)
            refine h_goto c (hd 26 49 _ _ rfl) (tgt := 19) (by decide) ?_
            have r7_ : 0 ≤ (F38 114 7).toInt ∧ (F38 114 7).toInt ≤ 1601 := hrg rr38 ly_114_7
            have r8_ : 0 ≤ (F38 114 8).toInt ∧ (F38 114 8).toInt ≤ 5 := hrg rr38 ly_114_8
            have r32_ : 0 ≤ (F38 114 32).toInt ∧ (F38 114 32).toInt ≤ 90 := hrg rr38 ly_114_32
            have k_ := RI_top hR1
            rcases hx_38 with h_ | ⟨a_, b_, c_, d_⟩
            · exact h_less (L := [(1, .int x38), (0, .ref (G.2.1.1 114))]) (by simp) (fault _ _ (hframe_tr fr1 fr38 (by decide)) hen38 (fun i_ hi_ => (hcd38 i_ hi_).trans (hcd i_ hi_)) h_.1 h_.2)
            · refine h_less (L := [(1, .int x38), (0, .ref (G.2.1.1 114))]) (by simp) (ih _ ?_ _ _ (hframe_tr fr1 fr38 (by decide)) hen38 (fun i_ hi_ => (hcd38 i_ hi_).trans (hcd i_ hi_)) (by omega) ?_ rfl)
              · rw [hm, if_pos hw1, if_neg b_]; have t_ : (if x38.toInt = 1 then (100 : Int) else 0) ≤ 100 := (by split <;> omega); have t2_ : 0 ≤ (if x38.toInt = 1 then (100 : Int) else 0) := (by split <;> omega); have k2_ := (RI_top c_).2.1; split <;> omega
              · refine Or.inr ⟨a_, hf0, Or.inr ⟨c_, Or.inr ?_⟩⟩
                rcases hpr with q_ | q_
                · rw [← q_.2.1, ← q_.2.2]; exact ⟨b_, d_⟩
                · exact ⟨q_.1, by omega⟩
  refine h_aln c (hd 0 0 _ _ rfl) (by rfl) (hat 1 rfl ?_)
  refine h_ic c (hd 1 1 _ _ rfl) (by decide) (fun v1 e1 => hat 2 rfl ?_)
  refine h_putI c (hd 2 2 _ _ rfl) fgX12_285 gnX12_285_114 (by decide) (by decide) rfl (rf_in1 (by omega) (by omega)) (hat 5 rfl ?_)
  refine h_aln c (hd 3 5 _ _ rfl) (by rfl) (hat 6 rfl ?_)
  refine h_ic c (hd 4 6 _ _ rfl) (by decide) (fun v6 e6 => hat 7 rfl ?_)
  refine h_putI c (hd 5 7 _ _ rfl) fgX12_288 gnX12_288_114 (by decide) (by decide) rfl (rf_in1 (by omega) (by omega)) (hat 10 rfl ?_)
  refine h_aln c (hd 6 10 _ _ rfl) (by rfl) (hat 11 rfl ?_)
  refine h_bp c (hd 7 11 _ _ rfl) (by decide) (fun v11 e11 => hat 13 rfl ?_)
  refine h_ic c (hd 8 13 _ _ rfl) (by decide) (fun v13 e13 => hat 14 rfl ?_)
  refine h_callVF c (M' := hM_pushE) (hp_pushE hG) (by decide +kernel) (wlkV (lkX12_291 hG) _ rfl rfl) (j := 114) (by decide +kernel) (hd 9 14 _ _ rfl) [.int v11, .int v13] (rest := []) (by rfl) ⟨⟨114, by decide, rfl⟩, ⟨_, rfl, rf_in1 (by omega) (by omega), trivial⟩, ⟨_, rfl, rf_in_top _, trivial⟩, trivial⟩ (Nat.le_of_ble_eq_true rfl) (show (_ : Int32).toInt < 90 from (by show (v1 : Int32).toInt < 90; omega)) (fun rv14 F14 fr14 rr14 pp14 sm_ => hat 17 rfl ?_)
  obtain ⟨a_, b_, ea_, eb_, er_, hc14, hw14, hg14⟩ := pp14
  cases ea_; cases eb_; subst er_
  refine h_ic c (hd 10 17 _ _ rfl) (by decide) (fun v17 e17 => hat 18 rfl ?_)
  refine h_isn c (hd 11 18 _ _ rfl) (by decide) (L' := [(1, .int v17), (0, .ref (G.2.1.1 114))]) (by rfl) (hat 19 rfl ?_)
  have hRI : RI rb z U0 true F14 := RI_start (by rw [show F14 114 29 = F 114 29 from (fr14 114 29 (by decide) (by rfl))]; exact h29) (by rw [show F14 114 30 = F 114 30 from (fr14 114 30 (by decide) (by rfl))]; exact h30) (by rw [hc14]; show v1.toInt + 1 = 1; omega) (by rw [show F14 74 rb.toNat = F 74 rb.toNat from (fr14 74 rb.toNat (by decide) (by rfl))]; exact h74) (by rw [show F14 114 33 = F 114 33 from (fr14 114 33 (by decide) (by rfl))]; exact h33) (by rw [show F14 114 31 = v6 from fr14 114 31 (by decide) (by rfl)]; omega) (by rw [hw14, if_pos (by show 0 = v1.toInt.toNat; omega)]; omega)
  have hdb : decide (v17.toInt = 1) = true := by simp; omega
  refine loop _ _ _ (hframe_tr (hframe_up (hframe_up (hframe_rf [(74, 0), (85, 0), (86, 0), (87, 0), (88, 0), (114, 5), (114, 6), (114, 7), (114, 8), (114, 9), (114, 10), (114, 11), (114, 31), (114, 32), (114, 33), (114, 34), (998, 1), (998, 2), (998, 3)] F) (by rfl) _) (by rfl) _) fr14 (by decide)) (by rw [show F14 114 7 = F 114 7 from (fr14 114 7 (by decide) (by rfl))]; exact hen) (fun i_ _ => (fun i_ => fr14 85 i_ (by decide) (by rfl)) i_) (by omega) ?_ rfl
  have e4_ : F14 114 4 = F 114 4 := (fr14 114 4 (by decide) (by rfl))
  rcases Int.lt_or_le 0 (F 114 4).toInt with g_ | g_
  · exact Or.inl ⟨by rw [e4_]; omega, RI_RW hRI⟩
  · exact Or.inr ⟨by rw [e4_]; omega, by omega, Or.inr ⟨by rw [hdb]; exact hRI, Or.inl ⟨by omega, (fr14 114 7 (by decide) (by rfl)), (fr14 114 8 (by decide) (by rfl))⟩⟩⟩
theorem fgX12_108 : rf_flget flX12 108 = some (12,51,0) := by decide +kernel
theorem gnX12_108_114 : rf_gone wLay 12 51 114 = some (.inr (.inl [102])) := rfl
theorem fgX12_347 : rf_flget flX12 347 = some (12,48,1) := by decide +kernel
theorem gnX12_347_114 : rf_gone wLay 12 48 114 = some (.inl ((0,64,1),none)) := rfl
theorem fgX12_384 : rf_flget flX12 384 = some (12,44,1) := by decide +kernel
theorem gnX12_384_114 : rf_gone wLay 12 44 114 = some (.inl ((0,12,1),none)) := rfl
theorem fgX12_387 : rf_flget flX12 387 = some (12,45,1) := by decide +kernel
theorem gnX12_387_114 : rf_gone wLay 12 45 114 = some (.inl ((0,12,1),none)) := rfl
theorem fgX12_45 : rf_flget flX12 45 = some (12,19,0) := by decide +kernel
theorem gnX12_45_114 : rf_gone wLay 12 19 114 = some (.inr (.inl [81])) := rfl
theorem fgX12_48 : rf_flget flX12 48 = some (12,20,0) := by decide +kernel
theorem gnX12_48_114 : rf_gone wLay 12 20 114 = some (.inr (.inl [82])) := rfl
theorem fgX12_72 : rf_flget flX12 72 = some (12,35,0) := by decide +kernel
theorem gnX12_72_114 : rf_gone wLay 12 35 114 = some (.inr (.inl [90])) := rfl
theorem fgX12_84 : rf_flget flX12 84 = some (12,40,0) := by decide +kernel
theorem gnX12_84_114 : rf_gone wLay 12 40 114 = some (.inr (.inl [94])) := rfl
theorem fgX12_87 : rf_flget flX12 87 = some (12,41,0) := by decide +kernel
theorem gnX12_87_114 : rf_gone wLay 12 41 114 = some (.inr (.inl [95])) := rfl
theorem fgX12_90 : rf_flget flX12 90 = some (12,42,0) := by decide +kernel
theorem gnX12_90_114 : rf_gone wLay 12 42 114 = some (.inr (.inl [96])) := rfl
theorem fgX12_93 : rf_flget flX12 93 = some (12,43,0) := by decide +kernel
theorem gnX12_93_114 : rf_gone wLay 12 43 114 = some (.inr (.inl [97])) := rfl
theorem fgX12_96 : rf_flget flX12 96 = some (12,46,0) := by decide +kernel
theorem gnX12_96_114 : rf_gone wLay 12 46 114 = some (.inr (.inl [98])) := rfl
theorem fgX12_99 : rf_flget flX12 99 = some (12,47,0) := by decide +kernel
theorem gnX12_99_114 : rf_gone wLay 12 47 114 = some (.inr (.inl [99])) := rfl
theorem ly_114_29 : rf_layr wLay 114 29 = some (0,1,1) := by decide +kernel
theorem ly_114_44 : rf_layr wLay 114 44 = some (0,12,1) := by decide +kernel
theorem ly_114_45 : rf_layr wLay 114 45 = some (0,12,1) := by decide +kernel
theorem la_81 : rf_arr wLay 0 81 = some (20,[(0,387420488,1)]) := by decide +kernel
theorem la_82 : rf_arr wLay 0 82 = some (20,[((-2147483648),2147483647,1)]) := by decide +kernel
theorem la_90 : rf_arr wLay 0 90 = some (37,[((-1),387420488,1),((-1),387420488,1),((-1),387420488,1),((-1),387420488,1),((-1),387420488,1),((-1),387420488,1),((-1),387420488,1),((-1),387420488,1),((-1),387420488,1),((-1),387420488,1),((-1),387420488,1),((-1),387420488,1),((-1),387420488,1),((-1),387420488,1),((-2147483648),2147483647,1),((-2147483648),2147483647,1),((-2147483648),2147483647,1),((-2147483648),2147483647,1),((-2147483648),2147483647,1),((-2147483648),2147483647,1),((-2147483648),2147483647,1),((-2147483648),2147483647,1),((-2147483648),2147483647,1),((-2147483648),2147483647,1),((-2147483648),2147483647,1),((-2147483648),2147483647,1),((-2147483648),2147483647,1),((-2147483648),2147483647,1),(0,14,1),(0,6,1),(0,387420488,1),(0,387420488,1),(0,387420488,1),(0,387420488,1),(0,387420488,1),(0,387420488,1),((-2147483648),2147483647,1)]) := by decide +kernel
theorem la_94 : rf_arr wLay 0 94 = some (12,[((-2147483648),2147483647,1)]) := by decide +kernel
theorem la_95 : rf_arr wLay 0 95 = some (12,[((-2147483648),2147483647,1)]) := by decide +kernel
theorem la_96 : rf_arr wLay 0 96 = some (13,[((-2147483648),2147483647,1)]) := by decide +kernel
theorem la_97 : rf_arr wLay 0 97 = some (13,[((-2147483648),2147483647,1)]) := by decide +kernel
theorem la_98 : rf_arr wLay 0 98 = some (14,[((-2147483648),2147483647,1)]) := by decide +kernel
theorem la_99 : rf_arr wLay 0 99 = some (64,[((-2147483648),2147483647,1)]) := by decide +kernel
theorem la_102 : rf_arr wLay 0 102 = some (14,[((-2147483648),2147483647,1)]) := by decide +kernel
set_option maxRecDepth 20000 in
theorem wm1703 : (Jvm.Cond.methodLink "NearSpellModel" (282 : Nat) ({ cls := "NearSpellModel", name := "e", desc := "()V" } : Jvm.MethodName)) ∈ wTs := wmem (i := 1703) (by decide +kernel) (by decide +kernel)
set_option maxRecDepth 20000 in
theorem wm1706 : (Jvm.Cond.code ({ cls := "NearSpellModel", name := "e", desc := "()V" } : Jvm.MethodName) prog_14_method_24_code (2 : Nat) (Option.none : Option Jvm.ClassFile.FieldType)) ∈ wTs := wmem (i := 1706) (by decide +kernel) (by decide +kernel)
set_option maxRecDepth 20000 in
theorem wm1705 : (Jvm.Cond.instanceMethod ({ cls := "NearSpellModel", name := "e", desc := "()V" } : Jvm.MethodName)) ∈ wTs := wmem (i := 1705) (by decide +kernel) (by decide +kernel)
set_option maxRecDepth 20000 in
theorem wm66 : (Cond.selects "NearSpellModel" ⟨"NearSpellModel", "e", "()V"⟩ ⟨"NearSpellModel", "e", "()V"⟩) ∈ wTs := wmem (i := 66) (by decide +kernel) (by decide +kernel)
set_option maxRecDepth 20000 in
theorem wm1806 : (Jvm.Cond.methodLink "NearSpellModel" (393 : Nat) ({ cls := "NearSpellModel", name := "goAlong", desc := "()V" } : Jvm.MethodName)) ∈ wTs := wmem (i := 1806) (by decide +kernel) (by decide +kernel)
set_option maxRecDepth 20000 in
theorem wm1809 : (Jvm.Cond.code ({ cls := "NearSpellModel", name := "goAlong", desc := "()V" } : Jvm.MethodName) prog_14_method_58_code (3 : Nat) (Option.none : Option Jvm.ClassFile.FieldType)) ∈ wTs := wmem (i := 1809) (by decide +kernel) (by decide +kernel)
set_option maxRecDepth 20000 in
theorem wm1808 : (Jvm.Cond.instanceMethod ({ cls := "NearSpellModel", name := "goAlong", desc := "()V" } : Jvm.MethodName)) ∈ wTs := wmem (i := 1808) (by decide +kernel) (by decide +kernel)
set_option maxRecDepth 20000 in
theorem wm83 : (Cond.selects "NearSpellModel" ⟨"NearSpellModel", "goAlong", "()V"⟩ ⟨"NearSpellModel", "goAlong", "()V"⟩) ∈ wTs := wmem (i := 83) (by decide +kernel) (by decide +kernel)
set_option maxRecDepth 20000 in
theorem wm1814 : (Jvm.Cond.methodLink "NearSpellModel" (390 : Nat) ({ cls := "NearSpellModel", name := "swapsAt", desc := "(I)I" } : Jvm.MethodName)) ∈ wTs := wmem (i := 1814) (by decide +kernel) (by decide +kernel)
set_option maxRecDepth 20000 in
theorem wm1817 : (Jvm.Cond.code ({ cls := "NearSpellModel", name := "swapsAt", desc := "(I)I" } : Jvm.MethodName) prog_14_method_59_code (4 : Nat) (Option.some Jvm.ClassFile.FieldType.int)) ∈ wTs := wmem (i := 1817) (by decide +kernel) (by decide +kernel)
set_option maxRecDepth 20000 in
theorem wm1816 : (Jvm.Cond.instanceMethod ({ cls := "NearSpellModel", name := "swapsAt", desc := "(I)I" } : Jvm.MethodName)) ∈ wTs := wmem (i := 1816) (by decide +kernel) (by decide +kernel)
set_option maxRecDepth 20000 in
theorem wm85 : (Cond.selects "NearSpellModel" ⟨"NearSpellModel", "swapsAt", "(I)I"⟩ ⟨"NearSpellModel", "swapsAt", "(I)I"⟩) ∈ wTs := wmem (i := 85) (by decide +kernel) (by decide +kernel)
set_option maxRecDepth 20000 in
theorem wm1810 : (Jvm.Cond.methodLink "NearSpellModel" (396 : Nat) ({ cls := "NearSpellModel", name := "goStep", desc := "()V" } : Jvm.MethodName)) ∈ wTs := wmem (i := 1810) (by decide +kernel) (by decide +kernel)
set_option maxRecDepth 20000 in
theorem wm1813 : (Jvm.Cond.code ({ cls := "NearSpellModel", name := "goStep", desc := "()V" } : Jvm.MethodName) prog_14_method_60_code (3 : Nat) (Option.none : Option Jvm.ClassFile.FieldType)) ∈ wTs := wmem (i := 1813) (by decide +kernel) (by decide +kernel)
set_option maxRecDepth 20000 in
theorem wm1812 : (Jvm.Cond.instanceMethod ({ cls := "NearSpellModel", name := "goStep", desc := "()V" } : Jvm.MethodName)) ∈ wTs := wmem (i := 1812) (by decide +kernel) (by decide +kernel)
set_option maxRecDepth 20000 in
theorem wm84 : (Cond.selects "NearSpellModel" ⟨"NearSpellModel", "goStep", "()V"⟩ ⟨"NearSpellModel", "goStep", "()V"⟩) ∈ wTs := wmem (i := 84) (by decide +kernel) (by decide +kernel)
set_option maxRecDepth 20000 in
theorem wm1952 : (Jvm.Cond.methodLink "NearSpellModel" (453 : Nat) ({ cls := "NearSpellModel", name := "firstOf", desc := "(I)I" } : Jvm.MethodName)) ∈ wTs := wmem (i := 1952) (by decide +kernel) (by decide +kernel)
set_option maxRecDepth 20000 in
theorem wm1954 : (Jvm.Cond.code ({ cls := "NearSpellModel", name := "firstOf", desc := "(I)I" } : Jvm.MethodName) prog_14_method_48_code (2 : Nat) (Option.some Jvm.ClassFile.FieldType.int)) ∈ wTs := wmem (i := 1954) (by decide +kernel) (by decide +kernel)
set_option maxRecDepth 20000 in
theorem wm1953 : (Jvm.Cond.static ({ cls := "NearSpellModel", name := "firstOf", desc := "(I)I" } : Jvm.MethodName)) ∈ wTs := wmem (i := 1953) (by decide +kernel) (by decide +kernel)
theorem lkX12_282 {G : rfG} (h : okG G) : wlk G "NearSpellModel" 282 (⟨"NearSpellModel", "e", "()V"⟩, prog_14_method_24_code, 2, none) 0 ∧ Cond.instanceMethod ⟨"NearSpellModel", "e", "()V"⟩ ∈ G.2.2.1 ∧ Cond.selects "NearSpellModel" ⟨"NearSpellModel", "e", "()V"⟩ ⟨"NearSpellModel", "e", "()V"⟩ ∈ G.2.2.1 ∧ ((¬ 12 = 1000 ∧ ∃ T N, G.1.2.2.1[12]? = some ("NearSpellModel", T, N)) ∨ (12 = 1000 ∧ "NearSpellModel" = "java/lang/String" ∧ ∀ s, G.2.2.2 s → ∀ n, (n = 1 ∨ n = 2) → va_O "java/lang/String" (G.2.1.2.1 n) G.1.2.2.2 s s.heap)) := ⟨⟨Or.inl (wmT h (wm1703)), wmT h (wm129), wmT h (wm1706), by decide +kernel, by decide +kernel, by decide +kernel⟩, wmT h (wm1705), wmT h (wm66), Or.inl ⟨by decide, TX12, 67, by rw [h.2.1]; rfl⟩⟩
theorem lkX12_393 {G : rfG} (h : okG G) : wlk G "NearSpellModel" 393 (⟨"NearSpellModel", "goAlong", "()V"⟩, prog_14_method_58_code, 3, none) 0 ∧ Cond.instanceMethod ⟨"NearSpellModel", "goAlong", "()V"⟩ ∈ G.2.2.1 ∧ Cond.selects "NearSpellModel" ⟨"NearSpellModel", "goAlong", "()V"⟩ ⟨"NearSpellModel", "goAlong", "()V"⟩ ∈ G.2.2.1 ∧ ((¬ 12 = 1000 ∧ ∃ T N, G.1.2.2.1[12]? = some ("NearSpellModel", T, N)) ∨ (12 = 1000 ∧ "NearSpellModel" = "java/lang/String" ∧ ∀ s, G.2.2.2 s → ∀ n, (n = 1 ∨ n = 2) → va_O "java/lang/String" (G.2.1.2.1 n) G.1.2.2.2 s s.heap)) := ⟨⟨Or.inl (wmT h (wm1806)), wmT h (wm129), wmT h (wm1809), by decide +kernel, by decide +kernel, by decide +kernel⟩, wmT h (wm1808), wmT h (wm83), Or.inl ⟨by decide, TX12, 67, by rw [h.2.1]; rfl⟩⟩
theorem lkX12_390 {G : rfG} (h : okG G) : wlk G "NearSpellModel" 390 (⟨"NearSpellModel", "swapsAt", "(I)I"⟩, prog_14_method_59_code, 4, (some .int)) 1 ∧ Cond.instanceMethod ⟨"NearSpellModel", "swapsAt", "(I)I"⟩ ∈ G.2.2.1 ∧ Cond.selects "NearSpellModel" ⟨"NearSpellModel", "swapsAt", "(I)I"⟩ ⟨"NearSpellModel", "swapsAt", "(I)I"⟩ ∈ G.2.2.1 ∧ ((¬ 12 = 1000 ∧ ∃ T N, G.1.2.2.1[12]? = some ("NearSpellModel", T, N)) ∨ (12 = 1000 ∧ "NearSpellModel" = "java/lang/String" ∧ ∀ s, G.2.2.2 s → ∀ n, (n = 1 ∨ n = 2) → va_O "java/lang/String" (G.2.1.2.1 n) G.1.2.2.2 s s.heap)) := ⟨⟨Or.inl (wmT h (wm1814)), wmT h (wm129), wmT h (wm1817), by decide +kernel, by decide +kernel, by decide +kernel⟩, wmT h (wm1816), wmT h (wm85), Or.inl ⟨by decide, TX12, 67, by rw [h.2.1]; rfl⟩⟩
theorem lkX12_396 {G : rfG} (h : okG G) : wlk G "NearSpellModel" 396 (⟨"NearSpellModel", "goStep", "()V"⟩, prog_14_method_60_code, 3, none) 0 ∧ Cond.instanceMethod ⟨"NearSpellModel", "goStep", "()V"⟩ ∈ G.2.2.1 ∧ Cond.selects "NearSpellModel" ⟨"NearSpellModel", "goStep", "()V"⟩ ⟨"NearSpellModel", "goStep", "()V"⟩ ∈ G.2.2.1 ∧ ((¬ 12 = 1000 ∧ ∃ T N, G.1.2.2.1[12]? = some ("NearSpellModel", T, N)) ∨ (12 = 1000 ∧ "NearSpellModel" = "java/lang/String" ∧ ∀ s, G.2.2.2 s → ∀ n, (n = 1 ∨ n = 2) → va_O "java/lang/String" (G.2.1.2.1 n) G.1.2.2.2 s s.heap)) := ⟨⟨Or.inl (wmT h (wm1810)), wmT h (wm129), wmT h (wm1813), by decide +kernel, by decide +kernel, by decide +kernel⟩, wmT h (wm1812), wmT h (wm84), Or.inl ⟨by decide, TX12, 67, by rw [h.2.1]; rfl⟩⟩
theorem lkX12_453 {G : rfG} (h : okG G) : wlk G "NearSpellModel" 453 (⟨"NearSpellModel", "firstOf", "(I)I"⟩, prog_14_method_48_code, 2, (some .int)) 1 ∧ Cond.static ⟨"NearSpellModel", "firstOf", "(I)I"⟩ ∈ G.2.2.1 := ⟨⟨Or.inl (wmT h (wm1952)), wmT h (wm129), wmT h (wm1954), by decide +kernel, by decide +kernel, by decide +kernel⟩, wmT h (wm1953)⟩
/-! BY HAND: longs that are known, and the checker from the middle of a method on -/
section RfHand3
variable {X : rfX} {G : rfG} {M : rfM} {w0 : va_W} {Lay : List rfL} {fl : rfFl} {cs : List (Nat × Int)} {Q : Option Value → HF → Prop} {L : List (Nat × Value)} {st : List Value} {F : HF} {pc : Nat}
/-- the same method, as long as nothing is written -/
def hpin (M : rfM) : rfM := (M.1, M.2.1, M.2.2.1, [], M.2.2.2.2)
theorem hC_pin (c : hC G X M w0 Lay fl cs Q) : hC G X (hpin M) w0 Lay fl cs Q := by
  obtain ⟨h1, h2, h3, h4, h5, h6, h7, h8, h9, h10, Φ, h11, h12⟩ := c
  exact ⟨h1, ⟨h2.1, h2.2.1, h2.2.2.1, h2.2.2.2.1, h2.2.2.2.2.1, h2.2.2.2.2.2.1, h2.2.2.2.2.2.2.1, h2.2.2.2.2.2.2.2.1, h2.2.2.2.2.2.2.2.2⟩, h3, h4, h5, h6, h7, h8, h9, h10, Φ, h11, fun ws rv a b d => h12 ws rv a (fun j k _ => b j k rfl) d⟩
theorem hW_pin (K : hW G X M w0 pc L st F) : hW G X (hpin M) w0 pc L st F := fun ws hw hs hF => K ws hw (fun j k _ => hs j k rfl) hF
def h_metY (G : rfG) (M : rfM) (Y : va_W → Prop) (Pre : List Value → HF → Prop) (Post : List Value → HF → HF → Option Value → Prop) : Prop := ∀ (ws : va_W) (vs : List Value), rf_all (rf_av G.2.1.1 G.2.1.2.1 [] []) (mA M) vs → rf_world G.2.1.1 G.2.1.2.1 G.2.1.2.2.1 G.2.1.2.2.2 ws → Y ws → Pre vs (hv ws) →
  Met G.1.1 (my M) (rf_ws G M) (mroom M) (va_Pc vs (rf_pre G ws)) (h_Qc G (fun ws' rv => rf_world G.2.1.1 G.2.1.2.1 G.2.1.2.2.1 G.2.1.2.2.2 ws' ∧ rf_same (mM M) ws ws' ∧ Post vs (hv ws) (hv ws') rv)) 0 0 G.1.2.2.2
theorem h_metOfY (hG : rf_Gok G) (hy : plainName (my M).cls = true) (hwd : rf_words (mA M) ≤ mL M) (hLay : G.2.1.2.2.2 = Lay) (hfl : rf_flok (my M).cls G.2.2.1 G.1.2.2.1 fl) (hcs : rf_csok (my M).cls G.2.2.1 cs) {Y : va_W → Prop} {Pre : List Value → HF → Prop} {Post : List Value → HF → HF → Option Value → Prop}
    (H : ∀ (vs : List Value) (ws : va_W) (X : rfX), rf_all (rf_av G.2.1.1 G.2.1.2.1 [] []) (mA M) vs → hrng Lay (hv ws) → Y ws ∧ Pre vs (hv ws) → hC G X M ws Lay fl cs (fun rv F' => Post vs (hv ws) F' rv) → hW G X M ws 0 (lv_args 0 vs) [] (hv ws)) : h_metY G M Y Pre Post := fun ws vs hv' hw hY hp =>
  h_mth hG hy hwd hLay hfl hcs hv' hw (Q := fun rv F' => Post vs (hv ws) F' rv) (fun ws' rv h1 h2 h3 => ⟨h1, h2, h3⟩) (fun X hc => H vs ws X hv' (by rw [← hLay]; exact hrng_at hw) ⟨hY, hp⟩ hc)
theorem h_callVFY (c : hC G X M w0 Lay fl cs Q) {M' : rfM} {Y : va_W → Prop} {Pre : List Value → HF → Prop} {Post : List Value → HF → HF → Option Value → Prop} (hM : h_metY G M' Y Pre Post) (hY : ∀ ws, rf_world G.2.1.1 G.2.1.2.1 G.2.1.2.2.1 G.2.1.2.2.2 ws → rf_same (mM M) w0 ws → Y ws) (hc : hcan Lay M M' = true) {i ci j : Nat} (hl : rf_linkV G (my M).cls i ci M') (hj : hcls Lay j ci = true) (hd : decode (mb M) pc = .ok (.invokevirtual i, 3)) (vs : List Value) {sv rest : List Value} (hsv : sv = vs.reverse ++ .ref (G.2.1.1 j) :: rest) (hv' : rf_all (rf_av G.2.1.1 G.2.1.2.1 [] []) (mA M') (.ref (G.2.1.1 j) :: vs)) (hcat : (rest.map fun v => v.category).sum ≤ 8) (hp : Pre (.ref (G.2.1.1 j) :: vs) F)
    (K : ∀ (rv : Option Value) (F' : HF), hframe (mM M') F F' → hrng Lay F' → Post (.ref (G.2.1.1 j) :: vs) F F' rv → (mM M' = [] → F' = F) → hW G X M w0 (pc + 3) L (rv.toList ++ rest) F') : hW G X M w0 pc L sv F := by
  intro ws hw hs hF
  subst hF; subst hsv
  have hLay := c.2.2.2.2.2.1
  simp only [hcan, Bool.and_eq_true, decide_eq_true_eq] at hc
  obtain ⟨h9, fs, hfs⟩ := hcls_at hj
  have hm := hM ws (.ref (G.2.1.1 j) :: vs) hv' hw (hY ws hw hs) hp
  have hlen : vs.length = (mA M').length - 1 := by have := rf_all_len _ _ hv'; simp at this; omega
  refine h_runV c.1 c.2.1 c.2.2.1 (M := M') hl hd (by rw [c.2.2.2.2.1.1, c.2.2.2.2.1.2]; exact ⟨hc.1.2, hc.2⟩) (h_recv c hl hfs h9 hw) hm hlen hcat (fun rv ws' ⟨h1, h2, h3⟩ => ?_)
  exact K rv (hv ws') (hframe_at (h_rest c hw h1) h2) (by rw [← hLay]; exact hrng_at h1) h3 (hv_same0 (h_rest c hw h1) h2) ws' h1 (h_sub2 hc.1.1 hs h2) rfl
theorem h_pinraw {ws : va_W} (hl : ws.length = w0.length) (hs : rf_same [] w0 ws) {j k : Nat} {v : Value} (h : rf_raw w0 j k = some v) : rf_raw ws j k = some v := by
  have h2 := hs j k rfl
  cases hj : w0[j]? with
  | none => simp [rf_raw, hj] at h
  | some q =>
    obtain ⟨q', hq'⟩ : ∃ q', ws[j]? = some q' := ⟨_, List.getElem?_eq_getElem (by rw [hl]; exact (List.getElem?_eq_some_iff.mp hj).1)⟩
    rw [rf_raw_fld hq', rf_raw_fld hj] at h2
    rw [h2]
    exact h
theorem h_pinY (c : hC G X M w0 Lay fl cs Q) (hm : mM M = []) {j k : Nat} {v : Value} (h : rf_raw w0 j k = some v) : ∀ ws, rf_world G.2.1.1 G.2.1.2.1 G.2.1.2.2.1 G.2.1.2.2.2 ws → rf_same (mM M) w0 ws → rf_raw ws j k = some v := fun ws hw hs => by
  rw [hm] at hs
  exact h_pinraw (by rw [hw.1, c.2.2.2.2.2.1, c.2.2.2.2.2.2.2.2.2.1]) hs h
theorem h_getY (c : hC G X M w0 Lay fl cs Q) (hm : mM M = []) {i ci k wr j : Nat} {b : rfA} {y : Int64} (hy : rf_raw w0 j k = some (.long y)) (hd : decode (mb M) pc = .ok (.getfield i, 3)) (hg : rf_flget fl i = some (ci, k, wr)) (hl : rf_gone Lay ci k j = some b) (K : hW G X M w0 (pc + 3) L (.long y :: st) F) : hW G X M w0 pc L (.ref (G.2.1.1 j) :: st) F :=
  h_get0 c hd hg hl fun ws w hw hs hF hr _ => by
    have e := h_pinY c hm hy ws hw hs
    rw [hr] at e
    cases e
    exact K ws hw hs hF
theorem h_lsn (c : hC G X M w0 Lay fl cs Q) {n : Fin 4} {x : Int64} {L' : List (Nat × Value)} (hd : decode (mb M) pc = .ok (.lstore_n n, 1)) (hn : n.val + 1 < mL M) (hL : (n.val, .long x) :: L.filter (rf_fil2 n.val) = L') (K : hW G X M w0 (pc + 1) L' st F) : hW G X M w0 pc L (.long x :: st) F := fun ws hw hs hF ls H locs hl hP hD hS => by
  subst hL
  exact lv_lstore_n c.2.2.1.1 c.2.2.1.2.1 hd rfl hl (by rw [c.2.2.2.1]; exact hn) rfl (fun ls' hl' => K ws hw hs hF ls' H locs hl' hP hD hS)
theorem h_lln (c : hC G X M w0 Lay fl cs Q) {n : Fin 4} {x : Int64} (hd : decode (mb M) pc = .ok (.lload_n n, 1)) (hg : rf_get L n = some (.long x)) (K : hW G X M w0 (pc + 1) L (.long x :: st) F) : hW G X M w0 pc L st F := fun ws hw hs hF ls H locs hl hP hD hS =>
  lv_lload_n c.2.2.1.1 c.2.2.1.2.1 hd rfl (rf_at hl (rf_get_mem hg)) (K ws hw hs hF ls H locs hl hP hD hS)
theorem h_lcz (x y : Int64) : (lg_cmp x y).toInt = 0 ↔ x = y := by
  unfold lg_cmp
  have e1 : (1 : Int32).toInt = 1 := by decide +kernel
  have e0 : (0 : Int32).toInt = 0 := by decide +kernel
  have em : (-1 : Int32).toInt = -1 := by decide +kernel
  split
  · next h =>
    rw [e1]
    refine ⟨fun h => absurd h (by omega), fun e => ?_⟩
    subst e
    rw [gt_iff_lt, Int64.lt_iff_toInt_lt] at h
    omega
  · split
    · next h => rw [e0]; exact ⟨fun _ => h, fun _ => rfl⟩
    · next h => rw [em]; exact ⟨fun h => absurd h (by omega), fun e => absurd e h⟩
theorem h_lcmp (c : hC G X M w0 Lay fl cs Q) {x y : Int64} (hd : decode (mb M) pc = .ok (.lcmp, 1)) (K : ∀ r : Int32, (r.toInt = 0 ↔ x = y) → hW G X M w0 (pc + 1) L (.int r :: st) F) : hW G X M w0 pc L (.long y :: .long x :: st) F := fun ws hw hs hF ls H locs hl hP hD hS =>
  W.lcmp c.2.2.1.1 c.2.2.1.2.1 hd (K _ (h_lcz x y) ws hw hs hF ls H locs hl hP hD hS)
theorem h_ldc2v {lc : List (Nat × Int)} {i : Nat} {n : Int} (c : hC G X M w0 Lay fl cs Q) (hlc : rf_lcok (my M).cls G.2.2.1 lc) (hd : decode (mb M) pc = .ok (.ldc2_w i, 3)) (hc : lc.find? (fun q => q.1 == i) = some (i, n)) (K : hW G X M w0 (pc + 3) L (.long (Int64.ofInt n) :: st) F) : hW G X M w0 pc L st F := fun ws hw hs hF ls H locs hl hP hD hS =>
  lv_ldc2 c.2.2.1.1 c.2.2.1.2.1 c.2.2.1.2.2.2.1 (c.2.2.1.2.2.2.2.1 _ (hlc _ (rf_find1 hc))) hd (K ws hw hs hF ls H locs hl hP hD hS)
/-- from a node of the checker on -/
theorem h_anchor (c : hC G X M w0 Lay fl cs Q) {vs : List Value} (hQ : xQ X = MQ (xb X) (rf_Qc G M vs w0) (xa X) (xs X) 0 0 G.1.2.2.2) (hv' : rf_all (rf_av G.2.1.1 G.2.1.2.1 [] []) (mA M) vs) {P : rfP} (hP : rf_pok G (my M).cls P) {dec : List (Nat × Instr × Nat)} (hdec : rf_decs (mb M) dec) {U : rfU} {cd : rfQ} {vars : List rfV} {aps : List Nat} {fuel : Nat} {N : List rfB} (hN : N.all (rf_anc P U Lay M dec cd vars aps fuel N) = true) (hkp : rf_kp M = []) (hll : Lay.length ≤ 998) (i : Nat) {n : rfB} (hn : N[i]? = some n) (hnd : rf_nd L) (hsk : n.2.1.2.2.all (fun q => hsok Lay q.1) = true) (hL : ∀ ws, ∀ q ∈ n.2.1.1, ∃ v, (q.1, v) ∈ L ∧ rf_av G.2.1.1 G.2.1.2.1 L ws q.2 v) (hst : ∀ ws, rf_all (rf_av G.2.1.1 G.2.1.2.1 L ws) n.2.1.2.1 st) (hF : hfs (hv w0) F n.2.1.2.2) : hW G X M w0 n.1 L st F := by
  intro ws hw hs hF'
  have hLay := c.2.2.2.2.2.1
  have hw2 := hw
  rw [hLay] at hw2
  have hst' : rf_st (hE G M w0) n.2.1 (L, st, ws) := by
    refine ⟨⟨hnd, hL ws, hst ws, fun q hq => ?_⟩, hw, hs⟩
    obtain ⟨r1, r2⟩ := hfs_mk hF q hq
    rw [← hF'] at r1 r2
    obtain ⟨x, e1, e2⟩ := hs_fld hw2 hll (List.all_eq_true.mp hsk q hq)
    rw [← e2] at r1 r2
    refine ⟨x, e1, r1, ?_⟩
    match hq2 : q.2.2, r2 with
    | none, _ => trivial
    | some (g, a, b), r2 =>
      have e3 := hslot_at (ws := w0) (by rw [c.2.2.2.2.2.2.2.2.2.1]; exact hll) g.1 g.2
      simp only at r2 ⊢
      show rf_num (rf_fld w0 g.1 g.2) + a ≤ _ ∧ _ ≤ rf_num (rf_fld w0 g.1 g.2) + b
      rw [e3]
      exact r2
  exact rf_anchors c.1 c.2.1 c.2.2.1 hP hQ c.2.2.2.2.2.2.2.2.1.1 c.2.2.2.2.2.2.2.2.1.2 rfl c.2.2.2.1 c.2.2.2.2.1.1 c.2.2.2.2.1.2 hv' hdec (fun n hn => by
    show rf_anc P U G.2.1.2.2.2 M dec cd vars aps fuel N n = true
    rw [hLay]
    exact List.all_eq_true.mp hN n hn) _ n (List.mem_of_getElem? hn) (L, st, ws) hst' (fun i hi => by rw [hkp] at hi; cases hi) (Nat.lt_succ_self _)
theorem h_mthX (hG : rf_Gok G) (hy : plainName (my M).cls = true) (hwd : rf_words (mA M) ≤ mL M) (hLay : G.2.1.2.2.2 = Lay) (hfl : rf_flok (my M).cls G.2.2.1 G.1.2.2.1 fl) (hcs : rf_csok (my M).cls G.2.2.1 cs) {ws : va_W} {vs : List Value} (hv' : rf_all (rf_av G.2.1.1 G.2.1.2.1 [] []) (mA M) vs) (hw : rf_world G.2.1.1 G.2.1.2.1 G.2.1.2.2.1 G.2.1.2.2.2 ws) {Φ : va_W → Option Value → Prop} (hΦ : ∀ ws' rv, rf_world G.2.1.1 G.2.1.2.1 G.2.1.2.2.1 G.2.1.2.2.2 ws' → rf_same (mM M) ws ws' → Q rv (hv ws') → Φ ws' rv)
    (H : ∀ X, hC G X M ws Lay fl cs Q → xQ X = MQ (xb X) (h_Qc G Φ) (xa X) (xs X) 0 0 G.1.2.2.2 → hW G X (hpin M) ws 0 (lv_args 0 vs) [] (hv ws)) : Met G.1.1 (my M) (rf_ws G M) (mroom M) (va_Pc vs (rf_pre G ws)) (h_Qc G Φ) 0 0 G.1.2.2.2 := by
  refine Met.ofW (cc := mb M) (maxL := mL M) (ret := mr M) hy rfl ?_
  intro p e s m args below meth c s₁ B hml hpc
  obtain ⟨rfl, hP0, hK, hD, hSF⟩ := hpc
  have hts0 := atoms_spec (ws := rf_ws G M) B.pre
  have hts : ∀ w ∈ G.2.2.1, w.before vs.toArray s = true := fun w hw => hts0 w (List.mem_cons_of_mem _ hw)
  have hown : s.vm.findClass (my M).cls = some m.cls := findClass_of_methodNamed B.named
  let X : rfX := (p, G.1.1, e, (headSpec (rf_ws G M) (mroom M)).room, s, m, vs.toArray, below, meth, c, MQ below (h_Qc G Φ) vs.toArray s 0 0 G.1.2.2.2, mL M, G.1.2.1, G.1.2.2.1, G.1.2.2.2)
  have hX : rf_in_G X (hE G M ws) G := ⟨rfl, rfl, rfl, rfl, rfl, rfl, rfl, rfl, hSF⟩
  have F : rfFx X (mb M) (my M).cls G.2.2.1 G.2.1.2.2.1 := ⟨B.exec, B.bytes, hml, hown, hts, hK⟩
  have hl := lv_entry vs (n := mL M) (by rw [rf_sl_len _ _ hv']; exact hwd)
  rw [lg_entry_eq]
  have hc : hC G X M ws Lay fl cs Q := ⟨hG, hX, F, rfl, ⟨rfl, rfl⟩, hLay, hfl, hcs, ⟨B.returns, B.notSynchronized⟩, by rw [hw.1, hLay], Φ, rfl, hΦ⟩
  exact H X hc rfl ws hw (fun _ _ _ => rfl) rfl _ s.heap [] hl hP0 hD va_S.rf
theorem h_rfOfX (hG : rf_Gok G) (hy : plainName (my M).cls = true) (hwd : rf_words (mA M) ≤ mL M) (hLay : G.2.1.2.2.2 = Lay) (hfl : rf_flok (my M).cls G.2.2.1 G.1.2.2.1 fl) (hcs : rf_csok (my M).cls G.2.2.1 cs) (hf : hfits Lay M = true)
    (H : ∀ (vs : List Value) (ws : va_W) (X : rfX), rf_all (rf_av G.2.1.1 G.2.1.2.1 [] []) (mA M) vs → hrng Lay (hv ws) → (hpre M (hv ws) ∧ rf_world G.2.1.1 G.2.1.2.1 G.2.1.2.2.1 Lay ws ∧ xQ X = MQ (xb X) (rf_Qc G M vs ws) (xa X) (xs X) 0 0 G.1.2.2.2) → hC G X M ws Lay fl cs (fun rv F' => hrng Lay F' → hpost M vs (hv ws) F' rv) → hW G X (hpin M) ws 0 (lv_args 0 vs) [] (hv ws)) : rf_met G M := fun ws vs hv' hw hp => by
  have hf' := hf
  simp only [hfits, Bool.and_eq_true, decide_eq_true_eq] at hf'
  refine h_mthX hG hy hwd hLay hfl hcs hv' hw (Φ := fun ws' rv => rf_post G M vs ws ws' rv) (Q := fun rv F' => hrng Lay F' → hpost M vs (hv ws) F' rv) (fun ws' rv h1 h2 h3 => ?_) (fun X hc hq => H vs ws X hv' (by rw [← hLay]; exact hrng_at hw) ⟨fun q hq => ?_, by rw [← hLay]; exact hw, hq⟩ hc)
  · obtain ⟨k, hk, hkk⟩ := h3 (by rw [← hLay]; exact hrng_at h1)
    exact ⟨h1, h2, k, hk, hkok_to hLay hf'.2 hw h1 (List.all_eq_true.mp hf'.1.1.2 k hk) (List.all_eq_true.mp hf'.1.2 k hk) hkk⟩
  · obtain ⟨x, e1, e2⟩ := hp q hq
    have hl : ws.length ≤ 998 := by rw [hw.1, hLay]; exact hf'.2
    have := hslot_at hl q.1.1 q.1.2
    rw [e1] at this
    have e3 : x.toInt = hslot (hv ws) q.1 := this
    rw [← e3]
    exact e2
theorem h_longAt {ad sp : Nat → Nat} {tys : List (ClassId × FieldType)} {ws : va_W} (hw : rf_world ad sp tys Lay ws) {ci k j : Nat} (h : rf_gone Lay ci k j = some (.inr (.inr 0))) : ∃ y : Int64, rf_raw ws j k = some (.long y) := by
  obtain ⟨fs, vs, v, h1, h2, h3, h4, h5, h6⟩ := rf_gone_at hw h
  obtain ⟨y, rfl⟩ := h6
  exact ⟨y, by simp [rf_raw, h3, rf_cellv, h5]⟩
theorem hgh0_same {F F' : HF} (e1 : ∀ k, F' 85 k = F 85 k) (e2 : ∀ k, F' 83 k = F 83 k) (e3 : ∀ k, F' 84 k = F 84 k) (h : hgh F 0 = true) : hgh F' 0 = true := by
  simp only [hgh, e1, e2, e3] at h ⊢
  exact h
theorem hgh2_same {F F' : HF} (e1 : ∀ k, F' 74 k = F 74 k) (e2 : F' 114 30 = F 114 30) (e3 : F' 114 29 = F 114 29) (h : hgh F 2 = true) : hgh F' 2 = true := by
  simp only [hgh, e1, e2, e3] at h ⊢
  exact h
theorem hgJ_rule {F F' : HF} {rb z U0 c1 : Int} (h : hgh F 0 = true) (hgl : 0 ≤ rb ∧ rb ≤ 1 ∧ 560 * rb ≤ z ∧ z ≤ 560 * rb + 9 * U0 ∧ 0 ≤ U0) (e83 : ∀ b : Nat, (F' 83 b).toInt = if b = rb.toNat then z else (F 83 b).toInt) (e84 : ∀ b : Nat, (F' 84 b).toInt = if b = rb.toNat then c1 else (F 84 b).toInt) (hcd : ∀ i : Nat, (i < z.toNat ∨ 560 * (rb + 1) ≤ (i : Int)) → F' 85 i = F 85 i) (hc : c1 ≤ 560 * rb + 560) (hh : ∃ h, rf_hgt (fun i => (F' 85 i).toInt) (c1 - z).toNat z.toNat 0 = some h) : hgh F' 0 = true := by
  refine List.all_eq_true.mpr (fun b hb => ?_)
  have hb := List.mem_range.mp hb
  have e1 := e83 b
  have e2 := e84 b
  simp only [Bool.or_eq_true, Bool.and_eq_true, decide_eq_true_eq]
  by_cases hbr : b = rb.toNat
  · rw [if_pos hbr] at e1 e2
    rw [e1, e2]
    obtain ⟨h0, hh⟩ := hh
    exact Or.inr ⟨⟨by omega, by omega⟩, hgt_run _ _ _ _ hh⟩
  · rw [if_neg hbr] at e1 e2
    rw [e1, e2]
    rcases hgJ_at h b hb with q | ⟨q1, q2, q3⟩
    · exact Or.inl q
    · refine Or.inr ⟨⟨q1, q2⟩, ?_⟩
      rw [runH_cong (c := fun k => (F 85 k).toInt) _ _ _ (fun i a1 a2 => by (try simp only); rw [hcd i (by omega)])]
      exact q3
theorem h_or63 {x v : Int32} (hx : 0 ≤ x.toInt ∧ x.toInt ≤ 63) (hv : v.toInt = 1) : rf_in (0, 63, 1) (x ||| v).toInt := by
  have h := rf_or_in (r := (0, 63, 1)) (t := (1, 1, 0)) (rf_in1 hx.1 hx.2) (hcon hv)
  exact rf_in1 (Int.le_trans (by decide +kernel) h.1) (Int.le_trans h.2.1 (by decide +kernel))
theorem hgrel {F F' : HF} {g : Nat} (h : hgh F g = true) (h' : hgh F' g = true) : hslot F (998, g) + 0 ≤ hslot F' (998, g) ∧ hslot F' (998, g) ≤ hslot F (998, g) + 0 := by
  simp [hslot, h, h']
theorem rf_nd2 (v w : Value) : rf_nd [(1, v), (0, w)] := by
  intro i a b h1 h2
  rcases hm2 h1 with e1 | e1 <;> rcases hm2 h2 with e2 | e2 <;> cases e1 <;> cases e2 <;> rfl
end RfHand3
def ddX12_readRule : List (Nat × Instr × Nat) := [(0,.aload_n 0,1),(1,.getfield 42,3),(4,.aload_n 0,1),(5,.getfield 233,3),(8,.dup2,1),(9,.iaload,1),(10,.iconst 1,1),(11,.ior,1),(12,.iastore,1),(13,.aload_n 0,1),(14,.iconst 0,1),(15,.putfield 279,3),(18,.aload_n 0,1),(19,.getfield 51,3),(22,.aload_n 0,1),(23,.getfield 233,3),(26,.aload_n 0,1),(27,.getfield 236,3),(30,.iastore,1),(31,.aload_n 0,1),(32,.invokevirtual 282,3),(35,.aload_n 0,1),(36,.getfield 54,3),(39,.aload_n 0,1),(40,.getfield 233,3),(43,.aload_n 0,1),(44,.getfield 236,3),(47,.iastore,1),(48,.return_,1)]
set_option maxRecDepth 100000 in
theorem dkX12_readRule : rf_decs prog_14_method_21_code ddX12_readRule := rf_decs_of (by decide +kernel)
set_option maxHeartbeats 8000000 in
set_option maxRecDepth 20000 in
theorem hp_rule710 {G : rfG} (hG : okG G) (hh : w1OK G) : rf_met G q710_M := by
  refine h_rfOf hG.1 (by decide +kernel) (by decide) hG.2.2.1 (wflT hG flokX12) (wcsT hG csokX12) (by decide +kernel) ?_
  intro vs w0 X hv_ hr hp c
  match vs, hv_ with
  | [_], ⟨⟨_, hj0, rfl⟩, _⟩ =>
  cases List.mem_singleton.mp hj0
  have hd : ∀ n pc i len, ddX12_readRule[n]? = some (pc, i, len) → decode (mb q710_M) pc = .ok (i, len) := fun n pc i len h => hdk dkX12_readRule n pc i len h
  show hW G X q710_M w0 0 [(0, .ref (G.2.1.1 114))] [] (hv w0)
  generalize hF0 : hv w0 = F at *
  obtain ⟨rb, h29⟩ : ∃ rb, (F 114 29).toInt = rb := ⟨_, rfl⟩
  obtain ⟨z, h30⟩ : ∃ z, (F 114 30).toInt = z := ⟨_, rfl⟩
  obtain ⟨U0, hU0⟩ : ∃ U0, (F 74 rb.toNat).toInt = U0 := ⟨_, rfl⟩
  have hrb01 : 0 ≤ (F 114 29).toInt ∧ (F 114 29).toInt ≤ 1 := hrg hr ly_114_29
  have hen : 0 ≤ (F 114 7).toInt ∧ (F 114 7).toInt ≤ 1600 := ⟨(hp _ (List.mem_of_getElem? (i := 0) rfl)).1, (hp _ (List.mem_of_getElem? (i := 0) rfl)).2.1⟩
  have hJ : hgh F 0 = true := hk_gh (hp _ (List.mem_of_getElem? (i := 1) rfl))
  have hC2 := hgC_at (hk_gh (hp _ (List.mem_of_getElem? (i := 2) rfl)))
  rw [h29, h30, hU0] at hC2
  have hto := hrga hr la_80 (k := rb.toNat) (by omega)
  have hto : 0 ≤ (F 80 rb.toNat).toInt ∧ (F 80 rb.toNat).toInt ≤ 63 := hto
  have hUr := hrga hr la_74 (k := rb.toNat) (by omega)
  have hUr : 0 ≤ (F 74 rb.toNat).toInt ∧ (F 74 rb.toNat).toInt ≤ 60 := hUr
  have hcr : 0 ≤ (F 114 30).toInt ∧ (F 114 30).toInt ≤ 1120 := hrg hr ly_114_30
  have htr : 0 ≤ (F 114 8).toInt ∧ (F 114 8).toInt ≤ 5 := hrg hr ly_114_8
  have hgl : 0 ≤ rb ∧ rb ≤ 1 ∧ 560 * rb ≤ z ∧ z ≤ 560 * rb + 9 * U0 ∧ 0 ≤ U0 := by omega
  refine h_aln c (hd 0 0 _ _ rfl) (by rfl) (hat 1 rfl ?_)
  refine h_getR c (hd 1 1 _ _ rfl) fgX12_42 gnX12_42_114 (hat 4 rfl ?_)
  refine h_aln c (hd 2 4 _ _ rfl) (by rfl) (hat 5 rfl ?_)
  refine h_getI c (hd 3 5 _ _ rfl) fgX12_233 gnX12_233_114 (x := F 114 29) (rfl) (hat 8 rfl ?_)
  refine h_dup2 c (hd 4 8 _ _ rfl) (by rfl) (by rfl) (hat 9 rfl ?_)
  refine h_iald c (hd 5 9 _ _ rfl) la_80 ⟨by omega, by omega⟩ (congrArg Int.toNat h29) (x := F 80 rb.toNat) (rfl) (hat 10 rfl ?_)
  refine h_ic c (hd 6 10 _ _ rfl) (by decide) (fun v10 e10 => hat 11 rfl ?_)
  refine h_or c (hd 7 11 _ _ rfl) (hat 12 rfl ?_)
  refine h_iast c (hd 8 12 _ _ rfl) la_80 ⟨by omega, by omega⟩ (congrArg Int.toNat h29) (by decide) (by decide) (hin1 (h_or63 hto e10)) (hat 13 rfl ?_)
  refine h_aln c (hd 9 13 _ _ rfl) (by rfl) (hat 14 rfl ?_)
  refine h_ic c (hd 10 14 _ _ rfl) (by decide) (fun v14 e14 => hat 15 rfl ?_)
  refine h_putI c (hd 11 15 _ _ rfl) fgX12_279 gnX12_279_114 (by decide) (by decide) rfl (rf_in1 (by omega) (by omega)) (hat 18 rfl ?_)
  refine h_aln c (hd 12 18 _ _ rfl) (by rfl) (hat 19 rfl ?_)
  refine h_getR c (hd 13 19 _ _ rfl) fgX12_51 gnX12_51_114 (hat 22 rfl ?_)
  refine h_aln c (hd 14 22 _ _ rfl) (by rfl) (hat 23 rfl ?_)
  refine h_getI c (hd 15 23 _ _ rfl) fgX12_233 gnX12_233_114 (x := F 114 29) (rfl) (hat 26 rfl ?_)
  refine h_aln c (hd 16 26 _ _ rfl) (by rfl) (hat 27 rfl ?_)
  refine h_getI c (hd 17 27 _ _ rfl) fgX12_236 gnX12_236_114 (x := F 114 30) (rfl) (hat 30 rfl ?_)
  refine h_iast c (hd 18 30 _ _ rfl) la_83 ⟨by omega, by omega⟩ (congrArg Int.toNat h29) (by decide) (by decide) (hin1 (rf_in1 (by omega) (by omega))) (hat 31 rfl ?_)
  refine h_aln c (hd 19 31 _ _ rfl) (by rfl) (hat 32 rfl ?_)
  refine h_callVF c (M' := hM_e) (hp_e hG hh rb z U0) (by decide +kernel) (wlkV (lkX12_282 hG) _ rfl rfl) (j := 114) (by decide +kernel) (hd 20 32 _ _ rfl) [] (rest := []) (by rfl) ⟨⟨114, by decide, rfl⟩, trivial⟩ (Nat.le_of_ble_eq_true rfl) ⟨h29, h30, hU0, show (v14 : Int32).toInt = 0 from e14, hen.2, hgl⟩ (fun rv32 F32 fr32 rr32 pp32 sm_ => hat 35 rfl ?_)
  obtain ⟨er_, hen32, hcd32, hW32, hx32⟩ := pp32
  subst er_
  refine h_aln c (hd 21 35 _ _ rfl) (by rfl) (hat 36 rfl ?_)
  refine h_getR c (hd 22 36 _ _ rfl) fgX12_54 gnX12_54_114 (hat 39 rfl ?_)
  refine h_aln c (hd 23 39 _ _ rfl) (by rfl) (hat 40 rfl ?_)
  refine h_getI c (hd 24 40 _ _ rfl) fgX12_233 gnX12_233_114 (x := F 114 29) (fr32 114 29 (by decide) (by rfl)) (hat 43 rfl ?_)
  refine h_aln c (hd 25 43 _ _ rfl) (by rfl) (hat 44 rfl ?_)
  refine h_getI c (hd 26 44 _ _ rfl) fgX12_236 gnX12_236_114 (x := F32 114 30) (rfl) (hat 47 rfl ?_)
  have hco : 0 ≤ (F32 114 30).toInt ∧ (F32 114 30).toInt ≤ 1120 := hrg rr32 ly_114_30
  refine h_iast c (hd 27 47 _ _ rfl) la_84 ⟨by omega, by omega⟩ (congrArg Int.toNat h29) (by decide) (by decide) (hin1 (rf_in1 (by omega) (by omega))) (hat 48 rfl ?_)
  have hU2 : 0 ≤ (F32 74 rb.toNat).toInt ∧ (F32 74 rb.toNat).toInt ≤ 60 := hrga rr32 la_74 (by omega)
  have k4 : 0 ≤ (F32 114 4).toInt ∧ (F32 114 4).toInt ≤ 4 := hrg rr32 ly_114_4
  have k7 : 0 ≤ (F32 114 7).toInt ∧ (F32 114 7).toInt ≤ 1601 := hrg rr32 ly_114_7
  have k8 : 0 ≤ (F32 114 8).toInt ∧ (F32 114 8).toInt ≤ 5 := hrg rr32 ly_114_8
  have w2 := hW32.2.1
  have w3 := hW32.2.2.1
  have f83 : ∀ b_ : Nat, ((hupd F32 84 rb.toNat (F32 114 30)) 83 b_).toInt = if b_ = rb.toNat then z else (F 83 b_).toInt := fun b_ => by
    have e_ : (hupd F32 84 rb.toNat (F32 114 30)) 83 b_ = if b_ = rb.toNat then F 114 30 else F 83 b_ := fr32 83 b_ (by decide) (by rfl)
    rw [e_]
    split
    · exact h30
    · rfl
  have f84 : ∀ b_ : Nat, ((hupd F32 84 rb.toNat (F32 114 30)) 84 b_).toInt = if b_ = rb.toNat then (F32 114 30).toInt else (F 84 b_).toInt := fun b_ => by
    have e2_ : F32 84 b_ = F 84 b_ := fr32 84 b_ (by decide) (by rfl)
    have e_ : (hupd F32 84 rb.toNat (F32 114 30)) 84 b_ = if b_ = rb.toNat then F32 114 30 else F32 84 b_ := rfl
    rw [e_, e2_]
    split <;> rfl
  have hg0 : hgh (hupd F32 84 rb.toNat (F32 114 30)) 0 = true := hgJ_rule (F := F) hJ hgl f83 f84 (fun i_ hi_ => hcd32 i_ hi_) (by omega) hW32.2.2.2
  rcases hx32 with q_ | ⟨q4, q40, qf, q8, qp⟩
  · exact h_vret c (hd 28 48 _ _ rfl) rfl (fun _ => ⟨_, List.mem_of_getElem? (i := 0) rfl, trivial, fun q hq => absurd hq List.not_mem_nil, hfs_mk ⟨⟨rf_in1 (show 0 ≤ (F32 114 7).toInt by omega) (show (F32 114 7).toInt ≤ 1600 by omega), trivial⟩, ⟨rf_in1 (show 1 ≤ (F32 114 4).toInt by omega) (show (F32 114 4).toInt ≤ 4 by omega), trivial⟩, ⟨hg_in hg0, trivial⟩, trivial⟩⟩)
  · have hg2 : hgh (hupd F32 84 rb.toNat (F32 114 30)) 2 = true := hgC_mk (b := rb) (c := (F32 114 30).toInt) (u := (F32 74 rb.toNat).toInt) hW32.1 rfl (by show (F32 74 (F32 114 29).toInt.toNat).toInt = _; rw [hW32.1]) (by omega)
    have qp2 : (F32 114 8).toInt = 0 ∨ (F 114 7).toInt + 1 ≤ (F32 114 7).toInt := qp
    by_cases t0 : (F32 114 8).toInt = 0
    · exact h_vret c (hd 28 48 _ _ rfl) rfl (fun _ => ⟨_, List.mem_of_getElem? (i := 3) rfl, trivial, fun q hq => absurd hq List.not_mem_nil, hfs_mk ⟨⟨rf_in1 (show 0 ≤ (F32 114 7).toInt by omega) (show (F32 114 7).toInt ≤ 1600 by omega), trivial⟩, ⟨rf_in1 (show 0 ≤ (F32 114 4).toInt by omega) (show (F32 114 4).toInt ≤ 0 by omega), trivial⟩, ⟨rf_in1 (show 0 ≤ (F32 114 8).toInt by omega) (show (F32 114 8).toInt ≤ 0 by omega), trivial⟩, ⟨hg_in hg0, trivial⟩, ⟨hg_in hg2, trivial⟩, trivial⟩⟩)
    · by_cases t5 : (F32 114 8).toInt = 5
      · exact h_vret c (hd 28 48 _ _ rfl) rfl (fun _ => ⟨_, List.mem_of_getElem? (i := 2) rfl, trivial, fun q hq => absurd hq List.not_mem_nil, hfs_mk ⟨⟨rf_in1 (show 0 ≤ (F32 114 7).toInt by omega) (show (F32 114 7).toInt ≤ 1600 by omega), ⟨show (F 114 7).toInt + 1 ≤ (F32 114 7).toInt by omega, show (F32 114 7).toInt ≤ (F 114 7).toInt + 4294967296 by omega⟩⟩, ⟨rf_in1 (show 0 ≤ (F32 114 4).toInt by omega) (show (F32 114 4).toInt ≤ 0 by omega), trivial⟩, ⟨rf_in1 (show 5 ≤ (F32 114 8).toInt by omega) (show (F32 114 8).toInt ≤ 5 by omega), trivial⟩, ⟨hg_in hg0, trivial⟩, ⟨hg_in hg2, trivial⟩, trivial⟩⟩)
      · exact h_vret c (hd 28 48 _ _ rfl) rfl (fun _ => ⟨_, List.mem_of_getElem? (i := 1) rfl, trivial, fun q hq => absurd hq List.not_mem_nil, hfs_mk ⟨⟨rf_in1 (show 0 ≤ (F32 114 7).toInt by omega) (show (F32 114 7).toInt ≤ 1600 by omega), ⟨show (F 114 7).toInt + 0 ≤ (F32 114 7).toInt by omega, show (F32 114 7).toInt ≤ (F 114 7).toInt + 4294967296 by omega⟩⟩, ⟨rf_in1 (show 0 ≤ (F32 114 4).toInt by omega) (show (F32 114 4).toInt ≤ 0 by omega), trivial⟩, ⟨rf_in1 (show 1 ≤ (F32 114 8).toInt by omega) (show (F32 114 8).toInt ≤ 4 by omega), trivial⟩, ⟨hg_in hg0, trivial⟩, ⟨hg_in hg2, trivial⟩, trivial⟩⟩)
set_option maxHeartbeats 8000000 in
set_option maxRecDepth 20000 in
theorem hp_rule711 {G : rfG} (hG : okG G) (hh : w1OK G) : rf_met G q711_M := by
  refine h_rfOf hG.1 (by decide +kernel) (by decide) hG.2.2.1 (wflT hG flokX12) (wcsT hG csokX12) (by decide +kernel) ?_
  intro vs w0 X hv_ hr hp c
  match vs, hv_ with
  | [_], ⟨⟨_, hj0, rfl⟩, _⟩ =>
  cases List.mem_singleton.mp hj0
  have hd : ∀ n pc i len, ddX12_readRule[n]? = some (pc, i, len) → decode (mb q711_M) pc = .ok (i, len) := fun n pc i len h => hdk dkX12_readRule n pc i len h
  show hW G X q711_M w0 0 [(0, .ref (G.2.1.1 114))] [] (hv w0)
  generalize hF0 : hv w0 = F at *
  obtain ⟨rb, h29⟩ : ∃ rb, (F 114 29).toInt = rb := ⟨_, rfl⟩
  obtain ⟨z, h30⟩ : ∃ z, (F 114 30).toInt = z := ⟨_, rfl⟩
  obtain ⟨U0, hU0⟩ : ∃ U0, (F 74 rb.toNat).toInt = U0 := ⟨_, rfl⟩
  have hrb01 : 0 ≤ (F 114 29).toInt ∧ (F 114 29).toInt ≤ 1 := hrg hr ly_114_29
  have hen : 0 ≤ (F 114 7).toInt ∧ (F 114 7).toInt ≤ 1600 := ⟨(hp _ (List.mem_of_getElem? (i := 0) rfl)).1, (hp _ (List.mem_of_getElem? (i := 0) rfl)).2.1⟩
  have htk : (F 114 8).toInt ≤ 0 := (hp _ (List.mem_of_getElem? (i := 1) rfl)).2.1
  have hJ : hgh F 0 = true := hk_gh (hp _ (List.mem_of_getElem? (i := 2) rfl))
  have hC2 := hgC_at (hk_gh (hp _ (List.mem_of_getElem? (i := 3) rfl)))
  rw [h29, h30, hU0] at hC2
  have hto := hrga hr la_80 (k := rb.toNat) (by omega)
  have hto : 0 ≤ (F 80 rb.toNat).toInt ∧ (F 80 rb.toNat).toInt ≤ 63 := hto
  have hUr := hrga hr la_74 (k := rb.toNat) (by omega)
  have hUr : 0 ≤ (F 74 rb.toNat).toInt ∧ (F 74 rb.toNat).toInt ≤ 60 := hUr
  have hcr : 0 ≤ (F 114 30).toInt ∧ (F 114 30).toInt ≤ 1120 := hrg hr ly_114_30
  have htr : 0 ≤ (F 114 8).toInt ∧ (F 114 8).toInt ≤ 5 := hrg hr ly_114_8
  have hgl : 0 ≤ rb ∧ rb ≤ 1 ∧ 560 * rb ≤ z ∧ z ≤ 560 * rb + 9 * U0 ∧ 0 ≤ U0 := by omega
  refine h_aln c (hd 0 0 _ _ rfl) (by rfl) (hat 1 rfl ?_)
  refine h_getR c (hd 1 1 _ _ rfl) fgX12_42 gnX12_42_114 (hat 4 rfl ?_)
  refine h_aln c (hd 2 4 _ _ rfl) (by rfl) (hat 5 rfl ?_)
  refine h_getI c (hd 3 5 _ _ rfl) fgX12_233 gnX12_233_114 (x := F 114 29) (rfl) (hat 8 rfl ?_)
  refine h_dup2 c (hd 4 8 _ _ rfl) (by rfl) (by rfl) (hat 9 rfl ?_)
  refine h_iald c (hd 5 9 _ _ rfl) la_80 ⟨by omega, by omega⟩ (congrArg Int.toNat h29) (x := F 80 rb.toNat) (rfl) (hat 10 rfl ?_)
  refine h_ic c (hd 6 10 _ _ rfl) (by decide) (fun v10 e10 => hat 11 rfl ?_)
  refine h_or c (hd 7 11 _ _ rfl) (hat 12 rfl ?_)
  refine h_iast c (hd 8 12 _ _ rfl) la_80 ⟨by omega, by omega⟩ (congrArg Int.toNat h29) (by decide) (by decide) (hin1 (h_or63 hto e10)) (hat 13 rfl ?_)
  refine h_aln c (hd 9 13 _ _ rfl) (by rfl) (hat 14 rfl ?_)
  refine h_ic c (hd 10 14 _ _ rfl) (by decide) (fun v14 e14 => hat 15 rfl ?_)
  refine h_putI c (hd 11 15 _ _ rfl) fgX12_279 gnX12_279_114 (by decide) (by decide) rfl (rf_in1 (by omega) (by omega)) (hat 18 rfl ?_)
  refine h_aln c (hd 12 18 _ _ rfl) (by rfl) (hat 19 rfl ?_)
  refine h_getR c (hd 13 19 _ _ rfl) fgX12_51 gnX12_51_114 (hat 22 rfl ?_)
  refine h_aln c (hd 14 22 _ _ rfl) (by rfl) (hat 23 rfl ?_)
  refine h_getI c (hd 15 23 _ _ rfl) fgX12_233 gnX12_233_114 (x := F 114 29) (rfl) (hat 26 rfl ?_)
  refine h_aln c (hd 16 26 _ _ rfl) (by rfl) (hat 27 rfl ?_)
  refine h_getI c (hd 17 27 _ _ rfl) fgX12_236 gnX12_236_114 (x := F 114 30) (rfl) (hat 30 rfl ?_)
  refine h_iast c (hd 18 30 _ _ rfl) la_83 ⟨by omega, by omega⟩ (congrArg Int.toNat h29) (by decide) (by decide) (hin1 (rf_in1 (by omega) (by omega))) (hat 31 rfl ?_)
  refine h_aln c (hd 19 31 _ _ rfl) (by rfl) (hat 32 rfl ?_)
  refine h_callVF c (M' := hM_e) (hp_e hG hh rb z U0) (by decide +kernel) (wlkV (lkX12_282 hG) _ rfl rfl) (j := 114) (by decide +kernel) (hd 20 32 _ _ rfl) [] (rest := []) (by rfl) ⟨⟨114, by decide, rfl⟩, trivial⟩ (Nat.le_of_ble_eq_true rfl) ⟨h29, h30, hU0, show (v14 : Int32).toInt = 0 from e14, hen.2, hgl⟩ (fun rv32 F32 fr32 rr32 pp32 sm_ => hat 35 rfl ?_)
  obtain ⟨er_, hen32, hcd32, hW32, hx32⟩ := pp32
  subst er_
  refine h_aln c (hd 21 35 _ _ rfl) (by rfl) (hat 36 rfl ?_)
  refine h_getR c (hd 22 36 _ _ rfl) fgX12_54 gnX12_54_114 (hat 39 rfl ?_)
  refine h_aln c (hd 23 39 _ _ rfl) (by rfl) (hat 40 rfl ?_)
  refine h_getI c (hd 24 40 _ _ rfl) fgX12_233 gnX12_233_114 (x := F 114 29) (fr32 114 29 (by decide) (by rfl)) (hat 43 rfl ?_)
  refine h_aln c (hd 25 43 _ _ rfl) (by rfl) (hat 44 rfl ?_)
  refine h_getI c (hd 26 44 _ _ rfl) fgX12_236 gnX12_236_114 (x := F32 114 30) (rfl) (hat 47 rfl ?_)
  have hco : 0 ≤ (F32 114 30).toInt ∧ (F32 114 30).toInt ≤ 1120 := hrg rr32 ly_114_30
  refine h_iast c (hd 27 47 _ _ rfl) la_84 ⟨by omega, by omega⟩ (congrArg Int.toNat h29) (by decide) (by decide) (hin1 (rf_in1 (by omega) (by omega))) (hat 48 rfl ?_)
  have hU2 : 0 ≤ (F32 74 rb.toNat).toInt ∧ (F32 74 rb.toNat).toInt ≤ 60 := hrga rr32 la_74 (by omega)
  have k4 : 0 ≤ (F32 114 4).toInt ∧ (F32 114 4).toInt ≤ 4 := hrg rr32 ly_114_4
  have k7 : 0 ≤ (F32 114 7).toInt ∧ (F32 114 7).toInt ≤ 1601 := hrg rr32 ly_114_7
  have k8 : 0 ≤ (F32 114 8).toInt ∧ (F32 114 8).toInt ≤ 5 := hrg rr32 ly_114_8
  have w2 := hW32.2.1
  have w3 := hW32.2.2.1
  have f83 : ∀ b_ : Nat, ((hupd F32 84 rb.toNat (F32 114 30)) 83 b_).toInt = if b_ = rb.toNat then z else (F 83 b_).toInt := fun b_ => by
    have e_ : (hupd F32 84 rb.toNat (F32 114 30)) 83 b_ = if b_ = rb.toNat then F 114 30 else F 83 b_ := fr32 83 b_ (by decide) (by rfl)
    rw [e_]
    split
    · exact h30
    · rfl
  have f84 : ∀ b_ : Nat, ((hupd F32 84 rb.toNat (F32 114 30)) 84 b_).toInt = if b_ = rb.toNat then (F32 114 30).toInt else (F 84 b_).toInt := fun b_ => by
    have e2_ : F32 84 b_ = F 84 b_ := fr32 84 b_ (by decide) (by rfl)
    have e_ : (hupd F32 84 rb.toNat (F32 114 30)) 84 b_ = if b_ = rb.toNat then F32 114 30 else F32 84 b_ := rfl
    rw [e_, e2_]
    split <;> rfl
  have hg0 : hgh (hupd F32 84 rb.toNat (F32 114 30)) 0 = true := hgJ_rule (F := F) hJ hgl f83 f84 (fun i_ hi_ => hcd32 i_ hi_) (by omega) hW32.2.2.2
  rcases hx32 with q_ | ⟨q4, q40, qf, q8, qp⟩
  · exact h_vret c (hd 28 48 _ _ rfl) rfl (fun _ => ⟨_, List.mem_of_getElem? (i := 0) rfl, trivial, fun q hq => absurd hq List.not_mem_nil, hfs_mk ⟨⟨rf_in1 (show 0 ≤ (F32 114 7).toInt by omega) (show (F32 114 7).toInt ≤ 1600 by omega), trivial⟩, ⟨rf_in1 (show 1 ≤ (F32 114 4).toInt by omega) (show (F32 114 4).toInt ≤ 4 by omega), trivial⟩, ⟨hg_in hg0, trivial⟩, trivial⟩⟩)
  · exfalso
    have a_ : (F 114 4).toInt = 0 := q40
    have b_ : (F 114 8).toInt ≠ 0 := q8
    omega
set_option maxHeartbeats 8000000 in
set_option maxRecDepth 20000 in
theorem hp_rule712 {G : rfG} (hG : okG G) (hh : w1OK G) : rf_met G q712_M := by
  refine h_rfOf hG.1 (by decide +kernel) (by decide) hG.2.2.1 (wflT hG flokX12) (wcsT hG csokX12) (by decide +kernel) ?_
  intro vs w0 X hv_ hr hp c
  match vs, hv_ with
  | [_], ⟨⟨_, hj0, rfl⟩, _⟩ =>
  cases List.mem_singleton.mp hj0
  have hd : ∀ n pc i len, ddX12_readRule[n]? = some (pc, i, len) → decode (mb q712_M) pc = .ok (i, len) := fun n pc i len h => hdk dkX12_readRule n pc i len h
  show hW G X q712_M w0 0 [(0, .ref (G.2.1.1 114))] [] (hv w0)
  generalize hF0 : hv w0 = F at *
  obtain ⟨rb, h29⟩ : ∃ rb, (F 114 29).toInt = rb := ⟨_, rfl⟩
  obtain ⟨z, h30⟩ : ∃ z, (F 114 30).toInt = z := ⟨_, rfl⟩
  obtain ⟨U0, hU0⟩ : ∃ U0, (F 74 rb.toNat).toInt = U0 := ⟨_, rfl⟩
  have hrb01 : 0 ≤ (F 114 29).toInt ∧ (F 114 29).toInt ≤ 1 := hrg hr ly_114_29
  have hft : 1 ≤ (F 114 4).toInt := (hp _ (List.mem_of_getElem? (i := 0) rfl)).1
  have hen : 0 ≤ (F 114 7).toInt ∧ (F 114 7).toInt ≤ 1600 := ⟨(hp _ (List.mem_of_getElem? (i := 1) rfl)).1, (hp _ (List.mem_of_getElem? (i := 1) rfl)).2.1⟩
  have hJ : hgh F 0 = true := hk_gh (hp _ (List.mem_of_getElem? (i := 2) rfl))
  have hC2 := hgC_at (hk_gh (hp _ (List.mem_of_getElem? (i := 3) rfl)))
  rw [h29, h30, hU0] at hC2
  have hto := hrga hr la_80 (k := rb.toNat) (by omega)
  have hto : 0 ≤ (F 80 rb.toNat).toInt ∧ (F 80 rb.toNat).toInt ≤ 63 := hto
  have hUr := hrga hr la_74 (k := rb.toNat) (by omega)
  have hUr : 0 ≤ (F 74 rb.toNat).toInt ∧ (F 74 rb.toNat).toInt ≤ 60 := hUr
  have hcr : 0 ≤ (F 114 30).toInt ∧ (F 114 30).toInt ≤ 1120 := hrg hr ly_114_30
  have htr : 0 ≤ (F 114 8).toInt ∧ (F 114 8).toInt ≤ 5 := hrg hr ly_114_8
  have hgl : 0 ≤ rb ∧ rb ≤ 1 ∧ 560 * rb ≤ z ∧ z ≤ 560 * rb + 9 * U0 ∧ 0 ≤ U0 := by omega
  refine h_aln c (hd 0 0 _ _ rfl) (by rfl) (hat 1 rfl ?_)
  refine h_getR c (hd 1 1 _ _ rfl) fgX12_42 gnX12_42_114 (hat 4 rfl ?_)
  refine h_aln c (hd 2 4 _ _ rfl) (by rfl) (hat 5 rfl ?_)
  refine h_getI c (hd 3 5 _ _ rfl) fgX12_233 gnX12_233_114 (x := F 114 29) (rfl) (hat 8 rfl ?_)
  refine h_dup2 c (hd 4 8 _ _ rfl) (by rfl) (by rfl) (hat 9 rfl ?_)
  refine h_iald c (hd 5 9 _ _ rfl) la_80 ⟨by omega, by omega⟩ (congrArg Int.toNat h29) (x := F 80 rb.toNat) (rfl) (hat 10 rfl ?_)
  refine h_ic c (hd 6 10 _ _ rfl) (by decide) (fun v10 e10 => hat 11 rfl ?_)
  refine h_or c (hd 7 11 _ _ rfl) (hat 12 rfl ?_)
  refine h_iast c (hd 8 12 _ _ rfl) la_80 ⟨by omega, by omega⟩ (congrArg Int.toNat h29) (by decide) (by decide) (hin1 (h_or63 hto e10)) (hat 13 rfl ?_)
  refine h_aln c (hd 9 13 _ _ rfl) (by rfl) (hat 14 rfl ?_)
  refine h_ic c (hd 10 14 _ _ rfl) (by decide) (fun v14 e14 => hat 15 rfl ?_)
  refine h_putI c (hd 11 15 _ _ rfl) fgX12_279 gnX12_279_114 (by decide) (by decide) rfl (rf_in1 (by omega) (by omega)) (hat 18 rfl ?_)
  refine h_aln c (hd 12 18 _ _ rfl) (by rfl) (hat 19 rfl ?_)
  refine h_getR c (hd 13 19 _ _ rfl) fgX12_51 gnX12_51_114 (hat 22 rfl ?_)
  refine h_aln c (hd 14 22 _ _ rfl) (by rfl) (hat 23 rfl ?_)
  refine h_getI c (hd 15 23 _ _ rfl) fgX12_233 gnX12_233_114 (x := F 114 29) (rfl) (hat 26 rfl ?_)
  refine h_aln c (hd 16 26 _ _ rfl) (by rfl) (hat 27 rfl ?_)
  refine h_getI c (hd 17 27 _ _ rfl) fgX12_236 gnX12_236_114 (x := F 114 30) (rfl) (hat 30 rfl ?_)
  refine h_iast c (hd 18 30 _ _ rfl) la_83 ⟨by omega, by omega⟩ (congrArg Int.toNat h29) (by decide) (by decide) (hin1 (rf_in1 (by omega) (by omega))) (hat 31 rfl ?_)
  refine h_aln c (hd 19 31 _ _ rfl) (by rfl) (hat 32 rfl ?_)
  refine h_callVF c (M' := hM_e) (hp_e hG hh rb z U0) (by decide +kernel) (wlkV (lkX12_282 hG) _ rfl rfl) (j := 114) (by decide +kernel) (hd 20 32 _ _ rfl) [] (rest := []) (by rfl) ⟨⟨114, by decide, rfl⟩, trivial⟩ (Nat.le_of_ble_eq_true rfl) ⟨h29, h30, hU0, show (v14 : Int32).toInt = 0 from e14, hen.2, hgl⟩ (fun rv32 F32 fr32 rr32 pp32 sm_ => hat 35 rfl ?_)
  obtain ⟨er_, hen32, hcd32, hW32, hx32⟩ := pp32
  subst er_
  refine h_aln c (hd 21 35 _ _ rfl) (by rfl) (hat 36 rfl ?_)
  refine h_getR c (hd 22 36 _ _ rfl) fgX12_54 gnX12_54_114 (hat 39 rfl ?_)
  refine h_aln c (hd 23 39 _ _ rfl) (by rfl) (hat 40 rfl ?_)
  refine h_getI c (hd 24 40 _ _ rfl) fgX12_233 gnX12_233_114 (x := F 114 29) (fr32 114 29 (by decide) (by rfl)) (hat 43 rfl ?_)
  refine h_aln c (hd 25 43 _ _ rfl) (by rfl) (hat 44 rfl ?_)
  refine h_getI c (hd 26 44 _ _ rfl) fgX12_236 gnX12_236_114 (x := F32 114 30) (rfl) (hat 47 rfl ?_)
  have hco : 0 ≤ (F32 114 30).toInt ∧ (F32 114 30).toInt ≤ 1120 := hrg rr32 ly_114_30
  refine h_iast c (hd 27 47 _ _ rfl) la_84 ⟨by omega, by omega⟩ (congrArg Int.toNat h29) (by decide) (by decide) (hin1 (rf_in1 (by omega) (by omega))) (hat 48 rfl ?_)
  have hU2 : 0 ≤ (F32 74 rb.toNat).toInt ∧ (F32 74 rb.toNat).toInt ≤ 60 := hrga rr32 la_74 (by omega)
  have k4 : 0 ≤ (F32 114 4).toInt ∧ (F32 114 4).toInt ≤ 4 := hrg rr32 ly_114_4
  have k7 : 0 ≤ (F32 114 7).toInt ∧ (F32 114 7).toInt ≤ 1601 := hrg rr32 ly_114_7
  have k8 : 0 ≤ (F32 114 8).toInt ∧ (F32 114 8).toInt ≤ 5 := hrg rr32 ly_114_8
  have w2 := hW32.2.1
  have w3 := hW32.2.2.1
  have f83 : ∀ b_ : Nat, ((hupd F32 84 rb.toNat (F32 114 30)) 83 b_).toInt = if b_ = rb.toNat then z else (F 83 b_).toInt := fun b_ => by
    have e_ : (hupd F32 84 rb.toNat (F32 114 30)) 83 b_ = if b_ = rb.toNat then F 114 30 else F 83 b_ := fr32 83 b_ (by decide) (by rfl)
    rw [e_]
    split
    · exact h30
    · rfl
  have f84 : ∀ b_ : Nat, ((hupd F32 84 rb.toNat (F32 114 30)) 84 b_).toInt = if b_ = rb.toNat then (F32 114 30).toInt else (F 84 b_).toInt := fun b_ => by
    have e2_ : F32 84 b_ = F 84 b_ := fr32 84 b_ (by decide) (by rfl)
    have e_ : (hupd F32 84 rb.toNat (F32 114 30)) 84 b_ = if b_ = rb.toNat then F32 114 30 else F32 84 b_ := rfl
    rw [e_, e2_]
    split <;> rfl
  have hg0 : hgh (hupd F32 84 rb.toNat (F32 114 30)) 0 = true := hgJ_rule (F := F) hJ hgl f83 f84 (fun i_ hi_ => hcd32 i_ hi_) (by omega) hW32.2.2.2
  rcases hx32 with q_ | ⟨q4, q40, qf, q8, qp⟩
  · exact h_vret c (hd 28 48 _ _ rfl) rfl (fun _ => ⟨_, List.mem_of_getElem? (i := 0) rfl, trivial, fun q hq => absurd hq List.not_mem_nil, hfs_mk ⟨⟨rf_in1 (show 0 ≤ (F32 114 7).toInt by omega) (show (F32 114 7).toInt ≤ 1600 by omega), trivial⟩, ⟨rf_in1 (show 1 ≤ (F32 114 4).toInt by omega) (show (F32 114 4).toInt ≤ 4 by omega), trivial⟩, ⟨hg_in hg0, trivial⟩, trivial⟩⟩)
  · exfalso
    have a_ : (F 114 4).toInt = 0 := q40
    have b_ : (F 114 8).toInt ≠ 0 := q8
    omega
theorem h_p27 (n : Nat) {a s : Int} (h : a ≤ 27 ^ n - 1) (hs : s ≤ 122) : 27 * a + s - 96 ≤ 27 ^ (n + 1) - 1 := by
  rw [Int.pow_succ]
  generalize (27 : Int) ^ n = P at *
  omega
theorem h_p27b {n : Nat} (h : n ≤ 6) : (27 : Int) ^ n ≤ 387420489 := by
  have : n = 0 ∨ n = 1 ∨ n = 2 ∨ n = 3 ∨ n = 4 ∨ n = 5 ∨ n = 6 := by omega
  rcases this with e | e | e | e | e | e | e <;> subst e <;> decide
theorem h_p27c {n : Nat} (h : n ≤ 5) : (27 : Int) ^ n ≤ 14348907 := by
  have : n = 0 ∨ n = 1 ∨ n = 2 ∨ n = 3 ∨ n = 4 ∨ n = 5 := by omega
  rcases this with e | e | e | e | e | e <;> subst e <;> decide
def hM_word : rfM := ((⟨"NearSpellModel", "readWord", "()V"⟩, prog_14_method_20_code, 3, none), (16,1200), ([.inr (.inl [114])],[]), [(73,0),(81,0),(82,0),(114,5),(114,6),(114,7),(114,8),(114,9),(114,10),(114,11),(998,2)], [])
def ddX12_readWord : List (Nat × Instr × Nat) := [(0,.iconst 0,1),(1,.istore_n 1,1),(2,.aload_n 0,1),(3,.getfield 195,3),(6,.iconst 2,1),(7,.if_icmp .ne 26,3),(10,.aload_n 0,1),(11,.getfield 185,3),(14,.aload_n 0,1),(15,.getfield 188,3),(18,.isub,1),(19,.bipush 6,2),(21,.if_icmp .le 12,3),(24,.aload_n 0,1),(25,.iconst 4,1),(26,.aload_n 0,1),(27,.getfield 188,3),(30,.invokevirtual 219,3),(33,.aload_n 0,1),(34,.getfield 188,3),(37,.istore_n 2,1),(38,.aload_n 0,1),(39,.invokevirtual 223,3),(42,.ifCond .eq 39,3),(45,.aload_n 0,1),(46,.getfield 195,3),(49,.iconst 2,1),(50,.if_icmp .ne 31,3),(53,.iload_n 2,1),(54,.aload_n 0,1),(55,.getfield 185,3),(58,.if_icmp .ge 23,3),(61,.bipush 27,2),(63,.iload_n 1,1),(64,.imul,1),(65,.aload_n 0,1),(66,.iload_n 2,1),(67,.invokevirtual 191,3),(70,.iadd,1),(71,.bipush 96,2),(73,.isub,1),(74,.istore_n 1,1),(75,.iinc 2 1,3),(78,.goto (-40),3),(81,.iconst 0,1),(82,.istore_n 2,1),(83,.iload_n 2,1),(84,.aload_n 0,1),(85,.getfield 20,3),(88,.aload_n 0,1),(89,.getfield 233,3),(92,.iaload,1),(93,.if_icmp .ge 40,3),(96,.iload_n 1,1),(97,.ifCond .le 30,3),(100,.aload_n 0,1),(101,.getfield 45,3),(104,.bipush 10,2),(106,.aload_n 0,1),(107,.getfield 233,3),(110,.imul,1),(111,.iload_n 2,1),(112,.iadd,1),(113,.iaload,1),(114,.iload_n 1,1),(115,.if_icmp .ne 12,3),(118,.aload_n 0,1),(119,.iconst 3,1),(120,.aload_n 0,1),(121,.getfield 188,3),(124,.invokevirtual 219,3),(127,.iinc 2 1,3),(130,.goto (-47),3),(133,.aload_n 0,1),(134,.aload_n 0,1),(135,.getfield 195,3),(138,.iconst 2,1),(139,.if_icmp .ne 7,3),(142,.iconst 1,1),(143,.goto 4,3),(146,.iconst 0,1),(147,.invokevirtual 275,3),(150,.aload_n 0,1),(151,.getfield 45,3),(154,.bipush 10,2),(156,.aload_n 0,1),(157,.getfield 233,3),(160,.imul,1),(161,.aload_n 0,1),(162,.getfield 20,3),(165,.aload_n 0,1),(166,.getfield 233,3),(169,.iaload,1),(170,.iadd,1),(171,.iload_n 1,1),(172,.iastore,1),(173,.aload_n 0,1),(174,.getfield 48,3),(177,.bipush 10,2),(179,.aload_n 0,1),(180,.getfield 233,3),(183,.imul,1),(184,.aload_n 0,1),(185,.getfield 20,3),(188,.aload_n 0,1),(189,.getfield 233,3),(192,.iaload,1),(193,.iadd,1),(194,.aload_n 0,1),(195,.iconst 0,1),(196,.sipush 999,3),(199,.invokevirtual 255,3),(202,.iastore,1),(203,.aload_n 0,1),(204,.getfield 20,3),(207,.aload_n 0,1),(208,.getfield 233,3),(211,.dup2,1),(212,.iaload,1),(213,.iconst 1,1),(214,.iadd,1),(215,.iastore,1),(216,.return_,1)]
set_option maxRecDepth 100000 in
theorem dkX12_readWord : rf_decs prog_14_method_20_code ddX12_readWord := rf_decs_of (by decide +kernel)
set_option maxHeartbeats 4000000 in
set_option maxRecDepth 20000 in
theorem hp_word {G : rfG} (hG : okG G) (hh : w1OK G) : h_met G hM_word (fun _ F => (F 114 4).toInt = 0 ∧ (F 114 7).toInt ≤ 1600 ∧ hgh F 1 = true ∧ (F 73 (F 114 29).toInt.toNat).toInt ≤ 9) (fun _ F F' rv => rv = none ∧ (F' 114 7).toInt ≤ 1600 ∧ (1 ≤ (F' 114 4).toInt ∨ ((F' 114 4).toInt = 0 ∧ (F 114 8).toInt = 2 ∧ ((F' 114 8).toInt = 0 ∨ (F 114 7).toInt + 1 ≤ (F' 114 7).toInt)))) := by
  refine h_metOf hG.1 (by decide +kernel) (by decide) hG.2.2.1 (wflT hG flokX12) (wcsT hG csokX12) ?_
  intro vs w0 X hv_ hr hp c
  match vs, hv_ with
  | [_], ⟨⟨_, hj0, rfl⟩, _⟩ =>
  cases List.mem_singleton.mp hj0
  have hd : ∀ n pc i len, ddX12_readWord[n]? = some (pc, i, len) → decode (mb hM_word) pc = .ok (i, len) := fun n pc i len h => hdk dkX12_readWord n pc i len h
  show hW G X hM_word w0 0 [(0, .ref (G.2.1.1 114))] [] (hv w0)
  generalize hF0 : hv w0 = F at *
  obtain ⟨hft, hen, hgl1, hwd9⟩ := hp
  obtain ⟨rb, h29⟩ : ∃ rb, (F 114 29).toInt = rb := ⟨_, rfl⟩
  rw [h29] at hwd9
  have hrb : 0 ≤ (F 114 29).toInt ∧ (F 114 29).toInt ≤ 1 := hrg hr ly_114_29
  have hen0 : 0 ≤ (F 114 7).toInt ∧ (F 114 7).toInt ≤ 1601 := hrg hr ly_114_7
  have hat0 : 0 ≤ (F 114 6).toInt ∧ (F 114 6).toInt ≤ 1600 := hrg hr ly_114_6
  have hw0 : 0 ≤ (F 73 rb.toNat).toInt ∧ (F 73 rb.toNat).toInt ≤ 10 := hrga hr la_73 (by omega)
  have htk0 : 0 ≤ (F 114 8).toInt ∧ (F 114 8).toInt ≤ 5 := hrg hr ly_114_8
  have K150a : ∀ (w1 w2 : Int32) (F1 : HF), hframe [(114, 5), (114, 6), (114, 7), (114, 8), (114, 9), (114, 10), (114, 11), (998, 2)] F F1 → (0 ≤ w1.toInt ∧ w1.toInt ≤ 387420488) → (F1 114 7).toInt ≤ 1600 → 1 ≤ (F1 114 4).toInt → hW G X hM_word w0 150 [(2, .int w2), (1, .int w1), (0, .ref (G.2.1.1 114))] [] F1 := by
    intro w1 w2 F1 fr1 hits hen1 hf1
    refine h_know c (fun rr ff => ?_)
    have r4 : 0 ≤ (F1 114 4).toInt ∧ (F1 114 4).toInt ≤ 4 := hrg rr ly_114_4
    have r7 : 0 ≤ (F1 114 7).toInt ∧ (F1 114 7).toInt ≤ 1601 := hrg rr ly_114_7
    have r8 : 0 ≤ (F1 114 8).toInt ∧ (F1 114 8).toInt ≤ 5 := hrg rr ly_114_8
    refine h_aln c (hd 82 150 _ _ rfl) (by rfl) (hat 151 rfl ?_)
    refine h_getR c (hd 83 151 _ _ rfl) fgX12_45 gnX12_45_114 (hat 154 rfl ?_)
    refine h_bp c (hd 84 154 _ _ rfl) (by decide) (fun v154 e154 => hat 156 rfl ?_)
    refine h_aln c (hd 85 156 _ _ rfl) (by rfl) (hat 157 rfl ?_)
    refine h_getI c (hd 86 157 _ _ rfl) fgX12_233 gnX12_233_114 (x := F 114 29) (fr1 114 29 (by decide) (by rfl)) (hat 160 rfl ?_)
    refine h_mul c (hd 87 160 _ _ rfl) e154 (by omega) (fun v160 e160 => hat 161 rfl ?_)
    refine h_aln c (hd 88 161 _ _ rfl) (by rfl) (hat 162 rfl ?_)
    refine h_getR c (hd 89 162 _ _ rfl) fgX12_20 gnX12_20_114 (hat 165 rfl ?_)
    refine h_aln c (hd 90 165 _ _ rfl) (by rfl) (hat 166 rfl ?_)
    refine h_getI c (hd 91 166 _ _ rfl) fgX12_233 gnX12_233_114 (x := F 114 29) (fr1 114 29 (by decide) (by rfl)) (hat 169 rfl ?_)
    refine h_iald c (hd 92 169 _ _ rfl) la_73 ⟨by omega, by omega⟩ (congrArg Int.toNat h29) (x := F 73 rb.toNat) (fr1 73 rb.toNat (by decide) (by rfl)) (hat 170 rfl ?_)
    refine h_add c (hd 93 170 _ _ rfl) (by omega) (fun v170 e170 => hat 171 rfl ?_)
    refine h_iln c (hd 94 171 _ _ rfl) (by rfl) (hat 172 rfl ?_)
    refine h_iast c (hd 95 172 _ _ rfl) la_81 ⟨by omega, by omega⟩ rfl (by decide) (by decide) (hin1 (rf_in1 (by omega) (by omega))) (hat 173 rfl ?_)
    refine h_aln c (hd 96 173 _ _ rfl) (by rfl) (hat 174 rfl ?_)
    refine h_getR c (hd 97 174 _ _ rfl) fgX12_48 gnX12_48_114 (hat 177 rfl ?_)
    refine h_bp c (hd 98 177 _ _ rfl) (by decide) (fun v177 e177 => hat 179 rfl ?_)
    refine h_aln c (hd 99 179 _ _ rfl) (by rfl) (hat 180 rfl ?_)
    refine h_getI c (hd 100 180 _ _ rfl) fgX12_233 gnX12_233_114 (x := F 114 29) (fr1 114 29 (by decide) (by rfl)) (hat 183 rfl ?_)
    refine h_mul c (hd 101 183 _ _ rfl) e177 (by omega) (fun v183 e183 => hat 184 rfl ?_)
    refine h_aln c (hd 102 184 _ _ rfl) (by rfl) (hat 185 rfl ?_)
    refine h_getR c (hd 103 185 _ _ rfl) fgX12_20 gnX12_20_114 (hat 188 rfl ?_)
    refine h_aln c (hd 104 188 _ _ rfl) (by rfl) (hat 189 rfl ?_)
    refine h_getI c (hd 105 189 _ _ rfl) fgX12_233 gnX12_233_114 (x := F 114 29) (fr1 114 29 (by decide) (by rfl)) (hat 192 rfl ?_)
    refine h_iald c (hd 106 192 _ _ rfl) la_73 ⟨by omega, by omega⟩ (congrArg Int.toNat h29) (x := F 73 rb.toNat) (fr1 73 rb.toNat (by decide) (by rfl)) (hat 193 rfl ?_)
    refine h_add c (hd 107 193 _ _ rfl) (by omega) (fun v193 e193 => hat 194 rfl ?_)
    refine h_aln c (hd 108 194 _ _ rfl) (by rfl) (hat 195 rfl ?_)
    refine h_ic c (hd 109 195 _ _ rfl) (by decide) (fun v195 e195 => hat 196 rfl ?_)
    refine h_sp c (hd 110 196 _ _ rfl) (by decide) (fun v196 e196 => hat 199 rfl ?_)
    refine h_callV c (M' := q737_M) (q737_met hG) (by decide +kernel) (by decide +kernel) (wlkV (lkX12_255 hG) _ rfl rfl) (j := 114) (by decide +kernel) (hd 111 199 _ _ rfl) [.int v195, .int v196] (rest := [.int v193, .ref (G.2.1.1 82)]) (by rfl) ⟨⟨114, by decide, rfl⟩, ⟨_, rfl, hcon (by omega), trivial⟩, ⟨_, rfl, hcon (by omega), trivial⟩, trivial⟩ (Nat.le_of_ble_eq_true rfl) (List.forall_mem_cons.mpr ⟨rf_in1 (show 1 ≤ (F1 114 4).toInt by omega) (show (F1 114 4).toInt ≤ 4 by omega), List.forall_mem_cons.mpr ⟨rf_in1 (show 0 ≤ (F1 114 7).toInt by omega) (show (F1 114 7).toInt ≤ 1600 by omega), fun _ h => absurd h List.not_mem_nil⟩⟩) (fun rv199 F199 fr199 rr199 pp199 sm_ => hat 202 rfl ?_)
    have e_ := (sm_ rfl).symm
    subst e_
    obtain ⟨k_, hk_, pp199⟩ := pp199
    rcases hm1 hk_ with rfl
    obtain ⟨x199, hrv_, hx199⟩ := hk_val pp199
    subst hrv_
    have hx199 : 0 ≤ x199.toInt ∧ x199.toInt ≤ 0 := ⟨hx199.1, hx199.2.1⟩
    refine h_iast c (hd 112 202 _ _ rfl) la_82 ⟨by omega, by omega⟩ rfl (by decide) (by decide) (hin1 (rf_in_top _)) (hat 203 rfl ?_)
    refine h_aln c (hd 113 203 _ _ rfl) (by rfl) (hat 204 rfl ?_)
    refine h_getR c (hd 114 204 _ _ rfl) fgX12_20 gnX12_20_114 (hat 207 rfl ?_)
    refine h_aln c (hd 115 207 _ _ rfl) (by rfl) (hat 208 rfl ?_)
    refine h_getI c (hd 116 208 _ _ rfl) fgX12_233 gnX12_233_114 (x := F 114 29) (fr1 114 29 (by decide) (by rfl)) (hat 211 rfl ?_)
    refine h_dup2 c (hd 117 211 _ _ rfl) (by rfl) (by rfl) (hat 212 rfl ?_)
    refine h_iald c (hd 118 212 _ _ rfl) la_73 ⟨by omega, by omega⟩ (congrArg Int.toNat h29) (x := F 73 rb.toNat) (fr1 73 rb.toNat (by decide) (by rfl)) (hat 213 rfl ?_)
    refine h_ic c (hd 119 213 _ _ rfl) (by decide) (fun v213 e213 => hat 214 rfl ?_)
    refine h_add c (hd 120 214 _ _ rfl) (by omega) (fun v214 e214 => hat 215 rfl ?_)
    refine h_iast c (hd 121 215 _ _ rfl) la_73 ⟨by omega, by omega⟩ (congrArg Int.toNat h29) (by decide) (by decide) (hin1 (rf_in1 (by omega) (by omega))) (hat 216 rfl ?_)
    have z4 : (hupd (hupd (hupd F1 81 v170.toInt.toNat w1) 82 v193.toInt.toNat x199) 73 rb.toNat v214) 114 4 = F1 114 4 := rfl
    have z7 : (hupd (hupd (hupd F1 81 v170.toInt.toNat w1) 82 v193.toInt.toNat x199) 73 rb.toNat v214) 114 7 = F1 114 7 := rfl
    have z8 : (hupd (hupd (hupd F1 81 v170.toInt.toNat w1) 82 v193.toInt.toNat x199) 73 rb.toNat v214) 114 8 = F1 114 8 := rfl
    exact h_vret c (hd 122 216 _ _ rfl) rfl ⟨rfl, by rw [z7]; omega, by rw [z4, z7, z8]; omega⟩
  have K150b : ∀ (w1 w2 : Int32) (F1 : HF), hframe [(114, 5), (114, 6), (114, 7), (114, 8), (114, 9), (114, 10), (114, 11), (998, 2)] F F1 → (0 ≤ w1.toInt ∧ w1.toInt ≤ 387420488) → (F1 114 7).toInt ≤ 1600 → (F1 114 4).toInt = 0 → (F1 114 8).toInt = 0 → hW G X hM_word w0 150 [(2, .int w2), (1, .int w1), (0, .ref (G.2.1.1 114))] [] F1 := by
    intro w1 w2 F1 fr1 hits hen1 hf1 ht1
    refine h_know c (fun rr ff => ?_)
    have r4 : 0 ≤ (F1 114 4).toInt ∧ (F1 114 4).toInt ≤ 4 := hrg rr ly_114_4
    have r7 : 0 ≤ (F1 114 7).toInt ∧ (F1 114 7).toInt ≤ 1601 := hrg rr ly_114_7
    have r8 : 0 ≤ (F1 114 8).toInt ∧ (F1 114 8).toInt ≤ 5 := hrg rr ly_114_8
    refine h_aln c (hd 82 150 _ _ rfl) (by rfl) (hat 151 rfl ?_)
    refine h_getR c (hd 83 151 _ _ rfl) fgX12_45 gnX12_45_114 (hat 154 rfl ?_)
    refine h_bp c (hd 84 154 _ _ rfl) (by decide) (fun v154 e154 => hat 156 rfl ?_)
    refine h_aln c (hd 85 156 _ _ rfl) (by rfl) (hat 157 rfl ?_)
    refine h_getI c (hd 86 157 _ _ rfl) fgX12_233 gnX12_233_114 (x := F 114 29) (fr1 114 29 (by decide) (by rfl)) (hat 160 rfl ?_)
    refine h_mul c (hd 87 160 _ _ rfl) e154 (by omega) (fun v160 e160 => hat 161 rfl ?_)
    refine h_aln c (hd 88 161 _ _ rfl) (by rfl) (hat 162 rfl ?_)
    refine h_getR c (hd 89 162 _ _ rfl) fgX12_20 gnX12_20_114 (hat 165 rfl ?_)
    refine h_aln c (hd 90 165 _ _ rfl) (by rfl) (hat 166 rfl ?_)
    refine h_getI c (hd 91 166 _ _ rfl) fgX12_233 gnX12_233_114 (x := F 114 29) (fr1 114 29 (by decide) (by rfl)) (hat 169 rfl ?_)
    refine h_iald c (hd 92 169 _ _ rfl) la_73 ⟨by omega, by omega⟩ (congrArg Int.toNat h29) (x := F 73 rb.toNat) (fr1 73 rb.toNat (by decide) (by rfl)) (hat 170 rfl ?_)
    refine h_add c (hd 93 170 _ _ rfl) (by omega) (fun v170 e170 => hat 171 rfl ?_)
    refine h_iln c (hd 94 171 _ _ rfl) (by rfl) (hat 172 rfl ?_)
    refine h_iast c (hd 95 172 _ _ rfl) la_81 ⟨by omega, by omega⟩ rfl (by decide) (by decide) (hin1 (rf_in1 (by omega) (by omega))) (hat 173 rfl ?_)
    refine h_aln c (hd 96 173 _ _ rfl) (by rfl) (hat 174 rfl ?_)
    refine h_getR c (hd 97 174 _ _ rfl) fgX12_48 gnX12_48_114 (hat 177 rfl ?_)
    refine h_bp c (hd 98 177 _ _ rfl) (by decide) (fun v177 e177 => hat 179 rfl ?_)
    refine h_aln c (hd 99 179 _ _ rfl) (by rfl) (hat 180 rfl ?_)
    refine h_getI c (hd 100 180 _ _ rfl) fgX12_233 gnX12_233_114 (x := F 114 29) (fr1 114 29 (by decide) (by rfl)) (hat 183 rfl ?_)
    refine h_mul c (hd 101 183 _ _ rfl) e177 (by omega) (fun v183 e183 => hat 184 rfl ?_)
    refine h_aln c (hd 102 184 _ _ rfl) (by rfl) (hat 185 rfl ?_)
    refine h_getR c (hd 103 185 _ _ rfl) fgX12_20 gnX12_20_114 (hat 188 rfl ?_)
    refine h_aln c (hd 104 188 _ _ rfl) (by rfl) (hat 189 rfl ?_)
    refine h_getI c (hd 105 189 _ _ rfl) fgX12_233 gnX12_233_114 (x := F 114 29) (fr1 114 29 (by decide) (by rfl)) (hat 192 rfl ?_)
    refine h_iald c (hd 106 192 _ _ rfl) la_73 ⟨by omega, by omega⟩ (congrArg Int.toNat h29) (x := F 73 rb.toNat) (fr1 73 rb.toNat (by decide) (by rfl)) (hat 193 rfl ?_)
    refine h_add c (hd 107 193 _ _ rfl) (by omega) (fun v193 e193 => hat 194 rfl ?_)
    refine h_aln c (hd 108 194 _ _ rfl) (by rfl) (hat 195 rfl ?_)
    refine h_ic c (hd 109 195 _ _ rfl) (by decide) (fun v195 e195 => hat 196 rfl ?_)
    refine h_sp c (hd 110 196 _ _ rfl) (by decide) (fun v196 e196 => hat 199 rfl ?_)
    refine h_callV c (M' := q735_M) (q735_met hG) (by decide +kernel) (by decide +kernel) (wlkV (lkX12_255 hG) _ rfl rfl) (j := 114) (by decide +kernel) (hd 111 199 _ _ rfl) [.int v195, .int v196] (rest := [.int v193, .ref (G.2.1.1 82)]) (by rfl) ⟨⟨114, by decide, rfl⟩, ⟨_, rfl, hcon (by omega), trivial⟩, ⟨_, rfl, hcon (by omega), trivial⟩, trivial⟩ (Nat.le_of_ble_eq_true rfl) (List.forall_mem_cons.mpr ⟨rf_in1 (show 0 ≤ (F1 114 4).toInt by omega) (show (F1 114 4).toInt ≤ 0 by omega), List.forall_mem_cons.mpr ⟨rf_in1 (show 0 ≤ (F1 114 7).toInt by omega) (show (F1 114 7).toInt ≤ 1600 by omega), List.forall_mem_cons.mpr ⟨rf_in1 (show 0 ≤ (F1 114 8).toInt by omega) (show (F1 114 8).toInt ≤ 0 by omega), fun _ h => absurd h List.not_mem_nil⟩⟩⟩) (fun rv199 F199 fr199 rr199 pp199 sm_ => hat 202 rfl ?_)
    obtain ⟨k_, hk_, pp199⟩ := pp199
    rcases hm1 hk_ with rfl
    obtain ⟨x199, hrv_, hx199⟩ := hk_val pp199
    subst hrv_
    have hx199 : 0 ≤ x199.toInt ∧ x199.toInt ≤ 0 := ⟨hx199.1, hx199.2.1⟩
    have gf199_0 : 2 ≤ (F199 114 4).toInt ∧ (F199 114 4).toInt ≤ 2 := ⟨(hk_fact pp199 0 rfl).1.1, (hk_fact pp199 0 rfl).1.2.1⟩
    have gf199_1 : 0 ≤ (F199 114 5).toInt ∧ (F199 114 5).toInt ≤ 1600 := ⟨(hk_fact pp199 1 rfl).1.1, (hk_fact pp199 1 rfl).1.2.1⟩
    refine h_iast c (hd 112 202 _ _ rfl) la_82 ⟨by omega, by omega⟩ rfl (by decide) (by decide) (hin1 (rf_in_top _)) (hat 203 rfl ?_)
    refine h_aln c (hd 113 203 _ _ rfl) (by rfl) (hat 204 rfl ?_)
    refine h_getR c (hd 114 204 _ _ rfl) fgX12_20 gnX12_20_114 (hat 207 rfl ?_)
    refine h_aln c (hd 115 207 _ _ rfl) (by rfl) (hat 208 rfl ?_)
    refine h_getI c (hd 116 208 _ _ rfl) fgX12_233 gnX12_233_114 (x := F 114 29) ((fr199 114 29 (by decide) (by rfl)).trans (fr1 114 29 (by decide) (by rfl))) (hat 211 rfl ?_)
    refine h_dup2 c (hd 117 211 _ _ rfl) (by rfl) (by rfl) (hat 212 rfl ?_)
    refine h_iald c (hd 118 212 _ _ rfl) la_73 ⟨by omega, by omega⟩ (congrArg Int.toNat h29) (x := F 73 rb.toNat) ((fr199 73 rb.toNat (by decide) (by rfl)).trans (fr1 73 rb.toNat (by decide) (by rfl))) (hat 213 rfl ?_)
    refine h_ic c (hd 119 213 _ _ rfl) (by decide) (fun v213 e213 => hat 214 rfl ?_)
    refine h_add c (hd 120 214 _ _ rfl) (by omega) (fun v214 e214 => hat 215 rfl ?_)
    refine h_iast c (hd 121 215 _ _ rfl) la_73 ⟨by omega, by omega⟩ (congrArg Int.toNat h29) (by decide) (by decide) (hin1 (rf_in1 (by omega) (by omega))) (hat 216 rfl ?_)
    have z4 : (hupd (hupd F199 82 v193.toInt.toNat x199) 73 rb.toNat v214) 114 4 = F199 114 4 := rfl
    have z7 : (hupd (hupd F199 82 v193.toInt.toNat x199) 73 rb.toNat v214) 114 7 = F1 114 7 := fr199 114 7 (by decide) (by rfl)
    have z8 : (hupd (hupd F199 82 v193.toInt.toNat x199) 73 rb.toNat v214) 114 8 = F1 114 8 := fr199 114 8 (by decide) (by rfl)
    exact h_vret c (hd 122 216 _ _ rfl) rfl ⟨rfl, by rw [z7]; omega, by rw [z4, z7, z8]; omega⟩
  have K150c : ∀ (w1 w2 : Int32) (F1 : HF), hframe [(114, 5), (114, 6), (114, 7), (114, 8), (114, 9), (114, 10), (114, 11), (998, 2)] F F1 → (0 ≤ w1.toInt ∧ w1.toInt ≤ 387420488) → (F1 114 7).toInt ≤ 1600 → (F1 114 4).toInt = 0 → 1 ≤ (F1 114 8).toInt → (F 114 8).toInt = 2 → (F 114 7).toInt + 1 ≤ (F1 114 7).toInt → hW G X hM_word w0 150 [(2, .int w2), (1, .int w1), (0, .ref (G.2.1.1 114))] [] F1 := by
    intro w1 w2 F1 fr1 hits hen1 hf1 ht1 ht0 hpr
    refine h_know c (fun rr ff => ?_)
    have r4 : 0 ≤ (F1 114 4).toInt ∧ (F1 114 4).toInt ≤ 4 := hrg rr ly_114_4
    have r7 : 0 ≤ (F1 114 7).toInt ∧ (F1 114 7).toInt ≤ 1601 := hrg rr ly_114_7
    have r8 : 0 ≤ (F1 114 8).toInt ∧ (F1 114 8).toInt ≤ 5 := hrg rr ly_114_8
    refine h_aln c (hd 82 150 _ _ rfl) (by rfl) (hat 151 rfl ?_)
    refine h_getR c (hd 83 151 _ _ rfl) fgX12_45 gnX12_45_114 (hat 154 rfl ?_)
    refine h_bp c (hd 84 154 _ _ rfl) (by decide) (fun v154 e154 => hat 156 rfl ?_)
    refine h_aln c (hd 85 156 _ _ rfl) (by rfl) (hat 157 rfl ?_)
    refine h_getI c (hd 86 157 _ _ rfl) fgX12_233 gnX12_233_114 (x := F 114 29) (fr1 114 29 (by decide) (by rfl)) (hat 160 rfl ?_)
    refine h_mul c (hd 87 160 _ _ rfl) e154 (by omega) (fun v160 e160 => hat 161 rfl ?_)
    refine h_aln c (hd 88 161 _ _ rfl) (by rfl) (hat 162 rfl ?_)
    refine h_getR c (hd 89 162 _ _ rfl) fgX12_20 gnX12_20_114 (hat 165 rfl ?_)
    refine h_aln c (hd 90 165 _ _ rfl) (by rfl) (hat 166 rfl ?_)
    refine h_getI c (hd 91 166 _ _ rfl) fgX12_233 gnX12_233_114 (x := F 114 29) (fr1 114 29 (by decide) (by rfl)) (hat 169 rfl ?_)
    refine h_iald c (hd 92 169 _ _ rfl) la_73 ⟨by omega, by omega⟩ (congrArg Int.toNat h29) (x := F 73 rb.toNat) (fr1 73 rb.toNat (by decide) (by rfl)) (hat 170 rfl ?_)
    refine h_add c (hd 93 170 _ _ rfl) (by omega) (fun v170 e170 => hat 171 rfl ?_)
    refine h_iln c (hd 94 171 _ _ rfl) (by rfl) (hat 172 rfl ?_)
    refine h_iast c (hd 95 172 _ _ rfl) la_81 ⟨by omega, by omega⟩ rfl (by decide) (by decide) (hin1 (rf_in1 (by omega) (by omega))) (hat 173 rfl ?_)
    refine h_aln c (hd 96 173 _ _ rfl) (by rfl) (hat 174 rfl ?_)
    refine h_getR c (hd 97 174 _ _ rfl) fgX12_48 gnX12_48_114 (hat 177 rfl ?_)
    refine h_bp c (hd 98 177 _ _ rfl) (by decide) (fun v177 e177 => hat 179 rfl ?_)
    refine h_aln c (hd 99 179 _ _ rfl) (by rfl) (hat 180 rfl ?_)
    refine h_getI c (hd 100 180 _ _ rfl) fgX12_233 gnX12_233_114 (x := F 114 29) (fr1 114 29 (by decide) (by rfl)) (hat 183 rfl ?_)
    refine h_mul c (hd 101 183 _ _ rfl) e177 (by omega) (fun v183 e183 => hat 184 rfl ?_)
    refine h_aln c (hd 102 184 _ _ rfl) (by rfl) (hat 185 rfl ?_)
    refine h_getR c (hd 103 185 _ _ rfl) fgX12_20 gnX12_20_114 (hat 188 rfl ?_)
    refine h_aln c (hd 104 188 _ _ rfl) (by rfl) (hat 189 rfl ?_)
    refine h_getI c (hd 105 189 _ _ rfl) fgX12_233 gnX12_233_114 (x := F 114 29) (fr1 114 29 (by decide) (by rfl)) (hat 192 rfl ?_)
    refine h_iald c (hd 106 192 _ _ rfl) la_73 ⟨by omega, by omega⟩ (congrArg Int.toNat h29) (x := F 73 rb.toNat) (fr1 73 rb.toNat (by decide) (by rfl)) (hat 193 rfl ?_)
    refine h_add c (hd 107 193 _ _ rfl) (by omega) (fun v193 e193 => hat 194 rfl ?_)
    refine h_aln c (hd 108 194 _ _ rfl) (by rfl) (hat 195 rfl ?_)
    refine h_ic c (hd 109 195 _ _ rfl) (by decide) (fun v195 e195 => hat 196 rfl ?_)
    refine h_sp c (hd 110 196 _ _ rfl) (by decide) (fun v196 e196 => hat 199 rfl ?_)
    refine h_callV c (M' := q733_M) (q733_met hG hh) (by decide +kernel) (by decide +kernel) (wlkV (lkX12_255 hG) _ rfl rfl) (j := 114) (by decide +kernel) (hd 111 199 _ _ rfl) [.int v195, .int v196] (rest := [.int v193, .ref (G.2.1.1 82)]) (by rfl) ⟨⟨114, by decide, rfl⟩, ⟨_, rfl, hcon (by omega), trivial⟩, ⟨_, rfl, hcon (by omega), trivial⟩, trivial⟩ (Nat.le_of_ble_eq_true rfl) (List.forall_mem_cons.mpr ⟨rf_in1 (show 0 ≤ (F1 114 4).toInt by omega) (show (F1 114 4).toInt ≤ 0 by omega), List.forall_mem_cons.mpr ⟨rf_in1 (show 0 ≤ (F1 114 7).toInt by omega) (show (F1 114 7).toInt ≤ 1600 by omega), List.forall_mem_cons.mpr ⟨rf_in1 (show 1 ≤ (F1 114 8).toInt by omega) (show (F1 114 8).toInt ≤ 5 by omega), fun _ h => absurd h List.not_mem_nil⟩⟩⟩) (fun rv199 F199 fr199 rr199 pp199 sm_ => hat 202 rfl ?_)
    obtain ⟨k_, hk_, pp199⟩ := pp199
    rcases hm5 hk_ with rfl | rfl | rfl | rfl | rfl
    · skip
      obtain ⟨x199, hrv_, hx199⟩ := hk_val pp199
      subst hrv_
      have hx199 : 0 ≤ x199.toInt ∧ x199.toInt ≤ 999 := ⟨hx199.1, hx199.2.1⟩
      have gf199_0 : 0 ≤ (F199 114 4).toInt ∧ (F199 114 4).toInt ≤ 0 := ⟨(hk_fact pp199 0 rfl).1.1, (hk_fact pp199 0 rfl).1.2.1⟩
      have gr199_0 : ((hupd F1 81 v170.toInt.toNat w1) 114 4).toInt + 0 ≤ (F199 114 4).toInt ∧ (F199 114 4).toInt ≤ ((hupd F1 81 v170.toInt.toNat w1) 114 4).toInt + 0 := (hk_fact pp199 0 rfl).2
      have gf199_1 : 1 ≤ (F199 114 7).toInt ∧ (F199 114 7).toInt ≤ 1600 := ⟨(hk_fact pp199 1 rfl).1.1, (hk_fact pp199 1 rfl).1.2.1⟩
      have gr199_1 : ((hupd F1 81 v170.toInt.toNat w1) 114 7).toInt + 1 ≤ (F199 114 7).toInt ∧ (F199 114 7).toInt ≤ ((hupd F1 81 v170.toInt.toNat w1) 114 7).toInt + 4294967296 := (hk_fact pp199 1 rfl).2
      have gf199_2 : 5 ≤ (F199 114 8).toInt ∧ (F199 114 8).toInt ≤ 5 := ⟨(hk_fact pp199 2 rfl).1.1, (hk_fact pp199 2 rfl).1.2.1⟩
      have gf199_3 : hgh F199 1 = true := hk_gh (hk_fact pp199 3 rfl).1
      have gx0_ : (F1 114 4).toInt + 0 ≤ (F199 114 4).toInt ∧ (F199 114 4).toInt ≤ (F1 114 4).toInt + 0 := gr199_0
      have gx1_ : (F1 114 7).toInt + 1 ≤ (F199 114 7).toInt ∧ (F199 114 7).toInt ≤ (F1 114 7).toInt + 4294967296 := gr199_1
      refine h_iast c (hd 112 202 _ _ rfl) la_82 ⟨by omega, by omega⟩ rfl (by decide) (by decide) (hin1 (rf_in_top _)) (hat 203 rfl ?_)
      refine h_aln c (hd 113 203 _ _ rfl) (by rfl) (hat 204 rfl ?_)
      refine h_getR c (hd 114 204 _ _ rfl) fgX12_20 gnX12_20_114 (hat 207 rfl ?_)
      refine h_aln c (hd 115 207 _ _ rfl) (by rfl) (hat 208 rfl ?_)
      refine h_getI c (hd 116 208 _ _ rfl) fgX12_233 gnX12_233_114 (x := F 114 29) ((fr199 114 29 (by decide) (by rfl)).trans (fr1 114 29 (by decide) (by rfl))) (hat 211 rfl ?_)
      refine h_dup2 c (hd 117 211 _ _ rfl) (by rfl) (by rfl) (hat 212 rfl ?_)
      refine h_iald c (hd 118 212 _ _ rfl) la_73 ⟨by omega, by omega⟩ (congrArg Int.toNat h29) (x := F 73 rb.toNat) ((fr199 73 rb.toNat (by decide) (by rfl)).trans (fr1 73 rb.toNat (by decide) (by rfl))) (hat 213 rfl ?_)
      refine h_ic c (hd 119 213 _ _ rfl) (by decide) (fun v213 e213 => hat 214 rfl ?_)
      refine h_add c (hd 120 214 _ _ rfl) (by omega) (fun v214 e214 => hat 215 rfl ?_)
      refine h_iast c (hd 121 215 _ _ rfl) la_73 ⟨by omega, by omega⟩ (congrArg Int.toNat h29) (by decide) (by decide) (hin1 (rf_in1 (by omega) (by omega))) (hat 216 rfl ?_)
      have z4 : (hupd (hupd F199 82 v193.toInt.toNat x199) 73 rb.toNat v214) 114 4 = F199 114 4 := rfl
      have z7 : (hupd (hupd F199 82 v193.toInt.toNat x199) 73 rb.toNat v214) 114 7 = F199 114 7 := rfl
      have z8 : (hupd (hupd F199 82 v193.toInt.toNat x199) 73 rb.toNat v214) 114 8 = F199 114 8 := rfl
      exact h_vret c (hd 122 216 _ _ rfl) rfl ⟨rfl, by rw [z7]; omega, by rw [z4, z7, z8]; omega⟩
    · skip
      obtain ⟨x199, hrv_, hx199⟩ := hk_val pp199
      subst hrv_
      have hx199 : 0 ≤ x199.toInt ∧ x199.toInt ≤ 999 := ⟨hx199.1, hx199.2.1⟩
      have gf199_0 : 0 ≤ (F199 114 4).toInt ∧ (F199 114 4).toInt ≤ 0 := ⟨(hk_fact pp199 0 rfl).1.1, (hk_fact pp199 0 rfl).1.2.1⟩
      have gr199_0 : ((hupd F1 81 v170.toInt.toNat w1) 114 4).toInt + 0 ≤ (F199 114 4).toInt ∧ (F199 114 4).toInt ≤ ((hupd F1 81 v170.toInt.toNat w1) 114 4).toInt + 0 := (hk_fact pp199 0 rfl).2
      have gf199_1 : 0 ≤ (F199 114 7).toInt ∧ (F199 114 7).toInt ≤ 1600 := ⟨(hk_fact pp199 1 rfl).1.1, (hk_fact pp199 1 rfl).1.2.1⟩
      have gf199_2 : 0 ≤ (F199 114 8).toInt ∧ (F199 114 8).toInt ≤ 0 := ⟨(hk_fact pp199 2 rfl).1.1, (hk_fact pp199 2 rfl).1.2.1⟩
      have gf199_3 : hgh F199 1 = true := hk_gh (hk_fact pp199 3 rfl).1
      have gx0_ : (F1 114 4).toInt + 0 ≤ (F199 114 4).toInt ∧ (F199 114 4).toInt ≤ (F1 114 4).toInt + 0 := gr199_0
      refine h_iast c (hd 112 202 _ _ rfl) la_82 ⟨by omega, by omega⟩ rfl (by decide) (by decide) (hin1 (rf_in_top _)) (hat 203 rfl ?_)
      refine h_aln c (hd 113 203 _ _ rfl) (by rfl) (hat 204 rfl ?_)
      refine h_getR c (hd 114 204 _ _ rfl) fgX12_20 gnX12_20_114 (hat 207 rfl ?_)
      refine h_aln c (hd 115 207 _ _ rfl) (by rfl) (hat 208 rfl ?_)
      refine h_getI c (hd 116 208 _ _ rfl) fgX12_233 gnX12_233_114 (x := F 114 29) ((fr199 114 29 (by decide) (by rfl)).trans (fr1 114 29 (by decide) (by rfl))) (hat 211 rfl ?_)
      refine h_dup2 c (hd 117 211 _ _ rfl) (by rfl) (by rfl) (hat 212 rfl ?_)
      refine h_iald c (hd 118 212 _ _ rfl) la_73 ⟨by omega, by omega⟩ (congrArg Int.toNat h29) (x := F 73 rb.toNat) ((fr199 73 rb.toNat (by decide) (by rfl)).trans (fr1 73 rb.toNat (by decide) (by rfl))) (hat 213 rfl ?_)
      refine h_ic c (hd 119 213 _ _ rfl) (by decide) (fun v213 e213 => hat 214 rfl ?_)
      refine h_add c (hd 120 214 _ _ rfl) (by omega) (fun v214 e214 => hat 215 rfl ?_)
      refine h_iast c (hd 121 215 _ _ rfl) la_73 ⟨by omega, by omega⟩ (congrArg Int.toNat h29) (by decide) (by decide) (hin1 (rf_in1 (by omega) (by omega))) (hat 216 rfl ?_)
      have z4 : (hupd (hupd F199 82 v193.toInt.toNat x199) 73 rb.toNat v214) 114 4 = F199 114 4 := rfl
      have z7 : (hupd (hupd F199 82 v193.toInt.toNat x199) 73 rb.toNat v214) 114 7 = F199 114 7 := rfl
      have z8 : (hupd (hupd F199 82 v193.toInt.toNat x199) 73 rb.toNat v214) 114 8 = F199 114 8 := rfl
      exact h_vret c (hd 122 216 _ _ rfl) rfl ⟨rfl, by rw [z7]; omega, by rw [z4, z7, z8]; omega⟩
    · skip
      obtain ⟨x199, hrv_, hx199⟩ := hk_val pp199
      subst hrv_
      have hx199 : 0 ≤ x199.toInt ∧ x199.toInt ≤ 999 := ⟨hx199.1, hx199.2.1⟩
      have gf199_0 : 0 ≤ (F199 114 4).toInt ∧ (F199 114 4).toInt ≤ 0 := ⟨(hk_fact pp199 0 rfl).1.1, (hk_fact pp199 0 rfl).1.2.1⟩
      have gr199_0 : ((hupd F1 81 v170.toInt.toNat w1) 114 4).toInt + 0 ≤ (F199 114 4).toInt ∧ (F199 114 4).toInt ≤ ((hupd F1 81 v170.toInt.toNat w1) 114 4).toInt + 0 := (hk_fact pp199 0 rfl).2
      have gf199_1 : 1 ≤ (F199 114 7).toInt ∧ (F199 114 7).toInt ≤ 1600 := ⟨(hk_fact pp199 1 rfl).1.1, (hk_fact pp199 1 rfl).1.2.1⟩
      have gr199_1 : ((hupd F1 81 v170.toInt.toNat w1) 114 7).toInt + 1 ≤ (F199 114 7).toInt ∧ (F199 114 7).toInt ≤ ((hupd F1 81 v170.toInt.toNat w1) 114 7).toInt + 4294967296 := (hk_fact pp199 1 rfl).2
      have gf199_2 : 1 ≤ (F199 114 8).toInt ∧ (F199 114 8).toInt ≤ 4 := ⟨(hk_fact pp199 2 rfl).1.1, (hk_fact pp199 2 rfl).1.2.1⟩
      have gf199_3 : hgh F199 1 = true := hk_gh (hk_fact pp199 3 rfl).1
      have gx0_ : (F1 114 4).toInt + 0 ≤ (F199 114 4).toInt ∧ (F199 114 4).toInt ≤ (F1 114 4).toInt + 0 := gr199_0
      have gx1_ : (F1 114 7).toInt + 1 ≤ (F199 114 7).toInt ∧ (F199 114 7).toInt ≤ (F1 114 7).toInt + 4294967296 := gr199_1
      refine h_iast c (hd 112 202 _ _ rfl) la_82 ⟨by omega, by omega⟩ rfl (by decide) (by decide) (hin1 (rf_in_top _)) (hat 203 rfl ?_)
      refine h_aln c (hd 113 203 _ _ rfl) (by rfl) (hat 204 rfl ?_)
      refine h_getR c (hd 114 204 _ _ rfl) fgX12_20 gnX12_20_114 (hat 207 rfl ?_)
      refine h_aln c (hd 115 207 _ _ rfl) (by rfl) (hat 208 rfl ?_)
      refine h_getI c (hd 116 208 _ _ rfl) fgX12_233 gnX12_233_114 (x := F 114 29) ((fr199 114 29 (by decide) (by rfl)).trans (fr1 114 29 (by decide) (by rfl))) (hat 211 rfl ?_)
      refine h_dup2 c (hd 117 211 _ _ rfl) (by rfl) (by rfl) (hat 212 rfl ?_)
      refine h_iald c (hd 118 212 _ _ rfl) la_73 ⟨by omega, by omega⟩ (congrArg Int.toNat h29) (x := F 73 rb.toNat) ((fr199 73 rb.toNat (by decide) (by rfl)).trans (fr1 73 rb.toNat (by decide) (by rfl))) (hat 213 rfl ?_)
      refine h_ic c (hd 119 213 _ _ rfl) (by decide) (fun v213 e213 => hat 214 rfl ?_)
      refine h_add c (hd 120 214 _ _ rfl) (by omega) (fun v214 e214 => hat 215 rfl ?_)
      refine h_iast c (hd 121 215 _ _ rfl) la_73 ⟨by omega, by omega⟩ (congrArg Int.toNat h29) (by decide) (by decide) (hin1 (rf_in1 (by omega) (by omega))) (hat 216 rfl ?_)
      have z4 : (hupd (hupd F199 82 v193.toInt.toNat x199) 73 rb.toNat v214) 114 4 = F199 114 4 := rfl
      have z7 : (hupd (hupd F199 82 v193.toInt.toNat x199) 73 rb.toNat v214) 114 7 = F199 114 7 := rfl
      have z8 : (hupd (hupd F199 82 v193.toInt.toNat x199) 73 rb.toNat v214) 114 8 = F199 114 8 := rfl
      exact h_vret c (hd 122 216 _ _ rfl) rfl ⟨rfl, by rw [z7]; omega, by rw [z4, z7, z8]; omega⟩
    · skip
      obtain ⟨x199, hrv_, hx199⟩ := hk_val pp199
      subst hrv_
      have hx199 : 0 ≤ x199.toInt ∧ x199.toInt ≤ 0 := ⟨hx199.1, hx199.2.1⟩
      have gf199_0 : 1 ≤ (F199 114 4).toInt ∧ (F199 114 4).toInt ≤ 2 := ⟨(hk_fact pp199 0 rfl).1.1, (hk_fact pp199 0 rfl).1.2.1⟩
      have gf199_1 : 0 ≤ (F199 114 5).toInt ∧ (F199 114 5).toInt ≤ 1600 := ⟨(hk_fact pp199 1 rfl).1.1, (hk_fact pp199 1 rfl).1.2.1⟩
      have gf199_2 : 0 ≤ (F199 114 7).toInt ∧ (F199 114 7).toInt ≤ 1600 := ⟨(hk_fact pp199 2 rfl).1.1, (hk_fact pp199 2 rfl).1.2.1⟩
      have gr199_2 : ((hupd F1 81 v170.toInt.toNat w1) 114 7).toInt + 0 ≤ (F199 114 7).toInt ∧ (F199 114 7).toInt ≤ ((hupd F1 81 v170.toInt.toNat w1) 114 7).toInt + 0 := (hk_fact pp199 2 rfl).2
      have gf199_3 : 1 ≤ (F199 114 8).toInt ∧ (F199 114 8).toInt ≤ 5 := ⟨(hk_fact pp199 3 rfl).1.1, (hk_fact pp199 3 rfl).1.2.1⟩
      have gr199_3 : ((hupd F1 81 v170.toInt.toNat w1) 114 8).toInt + 0 ≤ (F199 114 8).toInt ∧ (F199 114 8).toInt ≤ ((hupd F1 81 v170.toInt.toNat w1) 114 8).toInt + 0 := (hk_fact pp199 3 rfl).2
      have gx2_ : (F1 114 7).toInt + 0 ≤ (F199 114 7).toInt ∧ (F199 114 7).toInt ≤ (F1 114 7).toInt + 0 := gr199_2
      have gx3_ : (F1 114 8).toInt + 0 ≤ (F199 114 8).toInt ∧ (F199 114 8).toInt ≤ (F1 114 8).toInt + 0 := gr199_3
      refine h_iast c (hd 112 202 _ _ rfl) la_82 ⟨by omega, by omega⟩ rfl (by decide) (by decide) (hin1 (rf_in_top _)) (hat 203 rfl ?_)
      refine h_aln c (hd 113 203 _ _ rfl) (by rfl) (hat 204 rfl ?_)
      refine h_getR c (hd 114 204 _ _ rfl) fgX12_20 gnX12_20_114 (hat 207 rfl ?_)
      refine h_aln c (hd 115 207 _ _ rfl) (by rfl) (hat 208 rfl ?_)
      refine h_getI c (hd 116 208 _ _ rfl) fgX12_233 gnX12_233_114 (x := F 114 29) ((fr199 114 29 (by decide) (by rfl)).trans (fr1 114 29 (by decide) (by rfl))) (hat 211 rfl ?_)
      refine h_dup2 c (hd 117 211 _ _ rfl) (by rfl) (by rfl) (hat 212 rfl ?_)
      refine h_iald c (hd 118 212 _ _ rfl) la_73 ⟨by omega, by omega⟩ (congrArg Int.toNat h29) (x := F 73 rb.toNat) ((fr199 73 rb.toNat (by decide) (by rfl)).trans (fr1 73 rb.toNat (by decide) (by rfl))) (hat 213 rfl ?_)
      refine h_ic c (hd 119 213 _ _ rfl) (by decide) (fun v213 e213 => hat 214 rfl ?_)
      refine h_add c (hd 120 214 _ _ rfl) (by omega) (fun v214 e214 => hat 215 rfl ?_)
      refine h_iast c (hd 121 215 _ _ rfl) la_73 ⟨by omega, by omega⟩ (congrArg Int.toNat h29) (by decide) (by decide) (hin1 (rf_in1 (by omega) (by omega))) (hat 216 rfl ?_)
      have z4 : (hupd (hupd F199 82 v193.toInt.toNat x199) 73 rb.toNat v214) 114 4 = F199 114 4 := rfl
      have z7 : (hupd (hupd F199 82 v193.toInt.toNat x199) 73 rb.toNat v214) 114 7 = F199 114 7 := rfl
      have z8 : (hupd (hupd F199 82 v193.toInt.toNat x199) 73 rb.toNat v214) 114 8 = F199 114 8 := rfl
      exact h_vret c (hd 122 216 _ _ rfl) rfl ⟨rfl, by rw [z7]; omega, by rw [z4, z7, z8]; omega⟩
    · skip
      obtain ⟨x199, hrv_, hx199⟩ := hk_val pp199
      subst hrv_
      have hx199 : 0 ≤ x199.toInt ∧ x199.toInt ≤ 0 := ⟨hx199.1, hx199.2.1⟩
      have gf199_0 : 4 ≤ (F199 114 4).toInt ∧ (F199 114 4).toInt ≤ 4 := ⟨(hk_fact pp199 0 rfl).1.1, (hk_fact pp199 0 rfl).1.2.1⟩
      have gf199_1 : 0 ≤ (F199 114 5).toInt ∧ (F199 114 5).toInt ≤ 1600 := ⟨(hk_fact pp199 1 rfl).1.1, (hk_fact pp199 1 rfl).1.2.1⟩
      have gf199_2 : 0 ≤ (F199 114 7).toInt ∧ (F199 114 7).toInt ≤ 1600 := ⟨(hk_fact pp199 2 rfl).1.1, (hk_fact pp199 2 rfl).1.2.1⟩
      have gr199_2 : ((hupd F1 81 v170.toInt.toNat w1) 114 7).toInt + 0 ≤ (F199 114 7).toInt ∧ (F199 114 7).toInt ≤ ((hupd F1 81 v170.toInt.toNat w1) 114 7).toInt + 0 := (hk_fact pp199 2 rfl).2
      have gf199_3 : 4 ≤ (F199 114 8).toInt ∧ (F199 114 8).toInt ≤ 4 := ⟨(hk_fact pp199 3 rfl).1.1, (hk_fact pp199 3 rfl).1.2.1⟩
      have gr199_3 : ((hupd F1 81 v170.toInt.toNat w1) 114 8).toInt + 0 ≤ (F199 114 8).toInt ∧ (F199 114 8).toInt ≤ ((hupd F1 81 v170.toInt.toNat w1) 114 8).toInt + 0 := (hk_fact pp199 3 rfl).2
      have gx2_ : (F1 114 7).toInt + 0 ≤ (F199 114 7).toInt ∧ (F199 114 7).toInt ≤ (F1 114 7).toInt + 0 := gr199_2
      have gx3_ : (F1 114 8).toInt + 0 ≤ (F199 114 8).toInt ∧ (F199 114 8).toInt ≤ (F1 114 8).toInt + 0 := gr199_3
      refine h_iast c (hd 112 202 _ _ rfl) la_82 ⟨by omega, by omega⟩ rfl (by decide) (by decide) (hin1 (rf_in_top _)) (hat 203 rfl ?_)
      refine h_aln c (hd 113 203 _ _ rfl) (by rfl) (hat 204 rfl ?_)
      refine h_getR c (hd 114 204 _ _ rfl) fgX12_20 gnX12_20_114 (hat 207 rfl ?_)
      refine h_aln c (hd 115 207 _ _ rfl) (by rfl) (hat 208 rfl ?_)
      refine h_getI c (hd 116 208 _ _ rfl) fgX12_233 gnX12_233_114 (x := F 114 29) ((fr199 114 29 (by decide) (by rfl)).trans (fr1 114 29 (by decide) (by rfl))) (hat 211 rfl ?_)
      refine h_dup2 c (hd 117 211 _ _ rfl) (by rfl) (by rfl) (hat 212 rfl ?_)
      refine h_iald c (hd 118 212 _ _ rfl) la_73 ⟨by omega, by omega⟩ (congrArg Int.toNat h29) (x := F 73 rb.toNat) ((fr199 73 rb.toNat (by decide) (by rfl)).trans (fr1 73 rb.toNat (by decide) (by rfl))) (hat 213 rfl ?_)
      refine h_ic c (hd 119 213 _ _ rfl) (by decide) (fun v213 e213 => hat 214 rfl ?_)
      refine h_add c (hd 120 214 _ _ rfl) (by omega) (fun v214 e214 => hat 215 rfl ?_)
      refine h_iast c (hd 121 215 _ _ rfl) la_73 ⟨by omega, by omega⟩ (congrArg Int.toNat h29) (by decide) (by decide) (hin1 (rf_in1 (by omega) (by omega))) (hat 216 rfl ?_)
      have z4 : (hupd (hupd F199 82 v193.toInt.toNat x199) 73 rb.toNat v214) 114 4 = F199 114 4 := rfl
      have z7 : (hupd (hupd F199 82 v193.toInt.toNat x199) 73 rb.toNat v214) 114 7 = F199 114 7 := rfl
      have z8 : (hupd (hupd F199 82 v193.toInt.toNat x199) 73 rb.toNat v214) 114 8 = F199 114 8 := rfl
      exact h_vret c (hd 122 216 _ _ rfl) rfl ⟨rfl, by rw [z7]; omega, by rw [z4, z7, z8]; omega⟩
  have K133 : ∀ (w1 w2 : Int32) (F1 : HF), hframe [(114, 5), (114, 6)] F F1 → (0 ≤ w1.toInt ∧ w1.toInt ≤ 387420488) → hW G X hM_word w0 133 [(2, .int w2), (1, .int w1), (0, .ref (G.2.1.1 114))] [] F1 := by
    intro w1 w2 F1 fr1 hits
    refine h_aln c (hd 73 133 _ _ rfl) (by rfl) (hat 134 rfl ?_)
    refine h_aln c (hd 74 134 _ _ rfl) (by rfl) (hat 135 rfl ?_)
    refine h_getI c (hd 75 135 _ _ rfl) fgX12_195 gnX12_195_114 (x := F 114 8) (fr1 114 8 (by decide) (by rfl)) (hat 138 rfl ?_)
    refine h_ic c (hd 76 138 _ _ rfl) (by decide) (fun v138 e138 => hat 139 rfl ?_)
    refine h_cmp c (hd 77 139 _ _ rfl) (tgt := 146) (by decide) (fun (h139 : (F 114 8).toInt ≠ v138.toInt) => ?_) (fun (h139 : ¬ ((F 114 8).toInt ≠ v138.toInt)) => hat 142 rfl ?_)
    · skip
      refine h_ic c (hd 80 146 _ _ rfl) (by decide) (fun v146 e146 => hat 147 rfl ?_)
      refine h_callV c (M' := q1219_M) (q1219_met hG hh) (by decide +kernel) (by decide +kernel) (wlkV (lkX12_275 hG) _ rfl rfl) (j := 114) (by decide +kernel) (hd 81 147 _ _ rfl) [.int v146] (rest := []) (by rfl) ⟨⟨114, by decide, rfl⟩, ⟨_, rfl, rf_in1 (by omega) (by omega), trivial⟩, trivial⟩ (Nat.le_of_ble_eq_true rfl) (fun q hq => by cases hm1 hq; exact rf_in1 (show 0 ≤ (F1 114 7).toInt by rw [show F1 114 7 = F 114 7 from fr1 114 7 (by decide) (by rfl)]; omega) (show (F1 114 7).toInt ≤ 1600 by rw [show F1 114 7 = F 114 7 from fr1 114 7 (by decide) (by rfl)]; omega)) (fun rv147 F147 fr147 rr147 pp147 sm_ => hat 150 rfl ?_)
      obtain ⟨k_, hk_, pp147⟩ := pp147
      rcases hm4 hk_ with rfl | rfl | rfl | rfl
      · skip
        match rv147, pp147 with
        | none, pp147 =>
        skip
        have gf147_0 : 1 ≤ (F147 114 4).toInt ∧ (F147 114 4).toInt ≤ 4 := ⟨(hk_fact pp147 0 rfl).1.1, (hk_fact pp147 0 rfl).1.2.1⟩
        have gf147_1 : 0 ≤ (F147 114 7).toInt ∧ (F147 114 7).toInt ≤ 1600 := ⟨(hk_fact pp147 1 rfl).1.1, (hk_fact pp147 1 rfl).1.2.1⟩
        have gr147_1 : (F1 114 7).toInt + 0 ≤ (F147 114 7).toInt ∧ (F147 114 7).toInt ≤ (F1 114 7).toInt + 0 := (hk_fact pp147 1 rfl).2
        exact K150a _ _ _ (hframe_tr (hframe_tr (hframe_rf [(114, 5), (114, 6), (114, 7), (114, 8), (114, 9), (114, 10), (114, 11), (998, 2)] F) fr1 (by decide)) fr147 (by decide)) hits (by omega) (by omega)
      · skip
        match rv147, pp147 with
        | none, pp147 =>
        skip
        have ga147_0 : 1 ≤ v146.toInt ∧ v146.toInt ≤ 1 := hk_arg pp147 0 rfl rfl
        have gf147_0 : 0 ≤ (F147 114 4).toInt ∧ (F147 114 4).toInt ≤ 0 := ⟨(hk_fact pp147 0 rfl).1.1, (hk_fact pp147 0 rfl).1.2.1⟩
        have gf147_1 : 0 ≤ (F147 114 7).toInt ∧ (F147 114 7).toInt ≤ 1600 := ⟨(hk_fact pp147 1 rfl).1.1, (hk_fact pp147 1 rfl).1.2.1⟩
        have gf147_2 : 0 ≤ (F147 114 8).toInt ∧ (F147 114 8).toInt ≤ 0 := ⟨(hk_fact pp147 2 rfl).1.1, (hk_fact pp147 2 rfl).1.2.1⟩
        have gf147_3 : hgh F147 1 = true := hk_gh (hk_fact pp147 3 rfl).1
        exfalso
        omega
      · skip
        match rv147, pp147 with
        | none, pp147 =>
        skip
        have ga147_0 : 1 ≤ v146.toInt ∧ v146.toInt ≤ 1 := hk_arg pp147 0 rfl rfl
        have gf147_0 : 0 ≤ (F147 114 4).toInt ∧ (F147 114 4).toInt ≤ 0 := ⟨(hk_fact pp147 0 rfl).1.1, (hk_fact pp147 0 rfl).1.2.1⟩
        have gf147_1 : 1 ≤ (F147 114 7).toInt ∧ (F147 114 7).toInt ≤ 1600 := ⟨(hk_fact pp147 1 rfl).1.1, (hk_fact pp147 1 rfl).1.2.1⟩
        have gr147_1 : (F1 114 7).toInt + 1 ≤ (F147 114 7).toInt ∧ (F147 114 7).toInt ≤ (F1 114 7).toInt + 4294967296 := (hk_fact pp147 1 rfl).2
        have gf147_2 : 1 ≤ (F147 114 8).toInt ∧ (F147 114 8).toInt ≤ 4 := ⟨(hk_fact pp147 2 rfl).1.1, (hk_fact pp147 2 rfl).1.2.1⟩
        have gf147_3 : hgh F147 1 = true := hk_gh (hk_fact pp147 3 rfl).1
        exfalso
        omega
      · skip
        match rv147, pp147 with
        | none, pp147 =>
        skip
        have ga147_0 : 1 ≤ v146.toInt ∧ v146.toInt ≤ 1 := hk_arg pp147 0 rfl rfl
        have gf147_0 : 0 ≤ (F147 114 4).toInt ∧ (F147 114 4).toInt ≤ 0 := ⟨(hk_fact pp147 0 rfl).1.1, (hk_fact pp147 0 rfl).1.2.1⟩
        have gf147_1 : 1 ≤ (F147 114 7).toInt ∧ (F147 114 7).toInt ≤ 1600 := ⟨(hk_fact pp147 1 rfl).1.1, (hk_fact pp147 1 rfl).1.2.1⟩
        have gr147_1 : (F1 114 7).toInt + 1 ≤ (F147 114 7).toInt ∧ (F147 114 7).toInt ≤ (F1 114 7).toInt + 4294967296 := (hk_fact pp147 1 rfl).2
        have gf147_2 : 5 ≤ (F147 114 8).toInt ∧ (F147 114 8).toInt ≤ 5 := ⟨(hk_fact pp147 2 rfl).1.1, (hk_fact pp147 2 rfl).1.2.1⟩
        have gf147_3 : hgh F147 1 = true := hk_gh (hk_fact pp147 3 rfl).1
        exfalso
        omega
    · skip
      refine h_ic c (hd 78 142 _ _ rfl) (by decide) (fun v142 e142 => hat 143 rfl ?_)
      refine h_goto c (hd 79 143 _ _ rfl) (tgt := 147) (by decide) ?_
      refine h_callV c (M' := q1219_M) (q1219_met hG hh) (by decide +kernel) (by decide +kernel) (wlkV (lkX12_275 hG) _ rfl rfl) (j := 114) (by decide +kernel) (hd 81 147 _ _ rfl) [.int v142] (rest := []) (by rfl) ⟨⟨114, by decide, rfl⟩, ⟨_, rfl, rf_in1 (by omega) (by omega), trivial⟩, trivial⟩ (Nat.le_of_ble_eq_true rfl) (fun q hq => by cases hm1 hq; exact rf_in1 (show 0 ≤ (F1 114 7).toInt by rw [show F1 114 7 = F 114 7 from fr1 114 7 (by decide) (by rfl)]; omega) (show (F1 114 7).toInt ≤ 1600 by rw [show F1 114 7 = F 114 7 from fr1 114 7 (by decide) (by rfl)]; omega)) (fun rv147 F147 fr147 rr147 pp147 sm_ => hat 150 rfl ?_)
      obtain ⟨k_, hk_, pp147⟩ := pp147
      rcases hm4 hk_ with rfl | rfl | rfl | rfl
      · skip
        match rv147, pp147 with
        | none, pp147 =>
        skip
        have gf147_0 : 1 ≤ (F147 114 4).toInt ∧ (F147 114 4).toInt ≤ 4 := ⟨(hk_fact pp147 0 rfl).1.1, (hk_fact pp147 0 rfl).1.2.1⟩
        have gf147_1 : 0 ≤ (F147 114 7).toInt ∧ (F147 114 7).toInt ≤ 1600 := ⟨(hk_fact pp147 1 rfl).1.1, (hk_fact pp147 1 rfl).1.2.1⟩
        have gr147_1 : (F1 114 7).toInt + 0 ≤ (F147 114 7).toInt ∧ (F147 114 7).toInt ≤ (F1 114 7).toInt + 0 := (hk_fact pp147 1 rfl).2
        exact K150a _ _ _ (hframe_tr (hframe_tr (hframe_rf [(114, 5), (114, 6), (114, 7), (114, 8), (114, 9), (114, 10), (114, 11), (998, 2)] F) fr1 (by decide)) fr147 (by decide)) hits (by omega) (by omega)
      · skip
        match rv147, pp147 with
        | none, pp147 =>
        skip
        have ga147_0 : 1 ≤ v142.toInt ∧ v142.toInt ≤ 1 := hk_arg pp147 0 rfl rfl
        have gf147_0 : 0 ≤ (F147 114 4).toInt ∧ (F147 114 4).toInt ≤ 0 := ⟨(hk_fact pp147 0 rfl).1.1, (hk_fact pp147 0 rfl).1.2.1⟩
        have gf147_1 : 0 ≤ (F147 114 7).toInt ∧ (F147 114 7).toInt ≤ 1600 := ⟨(hk_fact pp147 1 rfl).1.1, (hk_fact pp147 1 rfl).1.2.1⟩
        have gf147_2 : 0 ≤ (F147 114 8).toInt ∧ (F147 114 8).toInt ≤ 0 := ⟨(hk_fact pp147 2 rfl).1.1, (hk_fact pp147 2 rfl).1.2.1⟩
        have gf147_3 : hgh F147 1 = true := hk_gh (hk_fact pp147 3 rfl).1
        exact K150b _ _ _ (hframe_tr (hframe_tr (hframe_rf [(114, 5), (114, 6), (114, 7), (114, 8), (114, 9), (114, 10), (114, 11), (998, 2)] F) fr1 (by decide)) fr147 (by decide)) hits (by omega) (by omega) (by omega)
      · skip
        match rv147, pp147 with
        | none, pp147 =>
        skip
        have ga147_0 : 1 ≤ v142.toInt ∧ v142.toInt ≤ 1 := hk_arg pp147 0 rfl rfl
        have gf147_0 : 0 ≤ (F147 114 4).toInt ∧ (F147 114 4).toInt ≤ 0 := ⟨(hk_fact pp147 0 rfl).1.1, (hk_fact pp147 0 rfl).1.2.1⟩
        have gf147_1 : 1 ≤ (F147 114 7).toInt ∧ (F147 114 7).toInt ≤ 1600 := ⟨(hk_fact pp147 1 rfl).1.1, (hk_fact pp147 1 rfl).1.2.1⟩
        have gr147_1 : (F1 114 7).toInt + 1 ≤ (F147 114 7).toInt ∧ (F147 114 7).toInt ≤ (F1 114 7).toInt + 4294967296 := (hk_fact pp147 1 rfl).2
        have gf147_2 : 1 ≤ (F147 114 8).toInt ∧ (F147 114 8).toInt ≤ 4 := ⟨(hk_fact pp147 2 rfl).1.1, (hk_fact pp147 2 rfl).1.2.1⟩
        have gf147_3 : hgh F147 1 = true := hk_gh (hk_fact pp147 3 rfl).1
        exact K150c _ _ _ (hframe_tr (hframe_tr (hframe_rf [(114, 5), (114, 6), (114, 7), (114, 8), (114, 9), (114, 10), (114, 11), (998, 2)] F) fr1 (by decide)) fr147 (by decide)) hits (by omega) (by omega) (by omega) (by omega) (by rw [show F1 114 7 = F 114 7 from fr1 114 7 (by decide) (by rfl)] at gr147_1; omega)
      · skip
        match rv147, pp147 with
        | none, pp147 =>
        skip
        have ga147_0 : 1 ≤ v142.toInt ∧ v142.toInt ≤ 1 := hk_arg pp147 0 rfl rfl
        have gf147_0 : 0 ≤ (F147 114 4).toInt ∧ (F147 114 4).toInt ≤ 0 := ⟨(hk_fact pp147 0 rfl).1.1, (hk_fact pp147 0 rfl).1.2.1⟩
        have gf147_1 : 1 ≤ (F147 114 7).toInt ∧ (F147 114 7).toInt ≤ 1600 := ⟨(hk_fact pp147 1 rfl).1.1, (hk_fact pp147 1 rfl).1.2.1⟩
        have gr147_1 : (F1 114 7).toInt + 1 ≤ (F147 114 7).toInt ∧ (F147 114 7).toInt ≤ (F1 114 7).toInt + 4294967296 := (hk_fact pp147 1 rfl).2
        have gf147_2 : 5 ≤ (F147 114 8).toInt ∧ (F147 114 8).toInt ≤ 5 := ⟨(hk_fact pp147 2 rfl).1.1, (hk_fact pp147 2 rfl).1.2.1⟩
        have gf147_3 : hgh F147 1 = true := hk_gh (hk_fact pp147 3 rfl).1
        exact K150c _ _ _ (hframe_tr (hframe_tr (hframe_rf [(114, 5), (114, 6), (114, 7), (114, 8), (114, 9), (114, 10), (114, 11), (998, 2)] F) fr1 (by decide)) fr147 (by decide)) hits (by omega) (by omega) (by omega) (by omega) (by rw [show F1 114 7 = F 114 7 from fr1 114 7 (by decide) (by rfl)] at gr147_1; omega)
  have K83 : ∀ (w1 : Int32), (0 ≤ w1.toInt ∧ w1.toInt ≤ 387420488) → ∀ (m : Nat) (w2 : Int32) (F1 : HF), hframe [(114, 5), (114, 6)] F F1 → 0 ≤ w2.toInt → w2.toInt ≤ 9 → m = ((F 73 rb.toNat).toInt - w2.toInt).toNat → hW G X hM_word w0 83 [(2, .int w2), (1, .int w1), (0, .ref (G.2.1.1 114))] [] F1 := by
    intro w1 hits m
    induction m using Nat.strongRecOn with
    | ind m ih =>
    intro w2 F1 fr1 h20 h29_ hm
    refine h_iln c (hd 46 83 _ _ rfl) (by rfl) (hat 84 rfl ?_)
    refine h_aln c (hd 47 84 _ _ rfl) (by rfl) (hat 85 rfl ?_)
    refine h_getR c (hd 48 85 _ _ rfl) fgX12_20 gnX12_20_114 (hat 88 rfl ?_)
    refine h_aln c (hd 49 88 _ _ rfl) (by rfl) (hat 89 rfl ?_)
    refine h_getI c (hd 50 89 _ _ rfl) fgX12_233 gnX12_233_114 (x := F 114 29) (fr1 114 29 (by decide) (by rfl)) (hat 92 rfl ?_)
    refine h_iald c (hd 51 92 _ _ rfl) la_73 ⟨by omega, by omega⟩ (congrArg Int.toNat h29) (x := F 73 rb.toNat) (fr1 73 rb.toNat (by decide) (by rfl)) (hat 93 rfl ?_)
    refine h_cmp c (hd 52 93 _ _ rfl) (tgt := 133) (by decide) (fun (h93 : (F 73 rb.toNat).toInt ≤ w2.toInt) => ?_) (fun (h93 : ¬ ((F 73 rb.toNat).toInt ≤ w2.toInt)) => hat 96 rfl ?_)
    · skip
      exact h_less (L := [(2, .int w2), (1, .int w1), (0, .ref (G.2.1.1 114))]) (by simp) (K133 _ _ _ fr1 hits)
    · skip
      refine h_iln c (hd 53 96 _ _ rfl) (by rfl) (hat 97 rfl ?_)
      refine h_if c (hd 54 97 _ _ rfl) (tgt := 127) (by decide) (fun (h97 : w1.toInt ≤ 0) => ?_) (fun (h97 : ¬ (w1.toInt ≤ 0)) => hat 100 rfl ?_)
      · skip
        refine h_inc c (fun r_ => [(2, .int r_), (1, .int w1), (0, .ref (G.2.1.1 114))]) (hd 71 127 _ _ rfl) (by decide) (by decide) (by rfl) (by omega) (fun _ => by rfl) (fun v127 e127 => hat 130 rfl ?_)
        refine h_goto c (hd 72 130 _ _ rfl) (tgt := 83) (by decide) ?_
        exact h_less (L := [(2, .int v127), (1, .int w1), (0, .ref (G.2.1.1 114))]) (by simp) (ih ((F 73 rb.toNat).toInt - v127.toInt).toNat (by omega) _ _ fr1 (by omega) (by omega) rfl)
      · skip
        refine h_aln c (hd 55 100 _ _ rfl) (by rfl) (hat 101 rfl ?_)
        refine h_getR c (hd 56 101 _ _ rfl) fgX12_45 gnX12_45_114 (hat 104 rfl ?_)
        refine h_bp c (hd 57 104 _ _ rfl) (by decide) (fun v104 e104 => hat 106 rfl ?_)
        refine h_aln c (hd 58 106 _ _ rfl) (by rfl) (hat 107 rfl ?_)
        refine h_getI c (hd 59 107 _ _ rfl) fgX12_233 gnX12_233_114 (x := F 114 29) (fr1 114 29 (by decide) (by rfl)) (hat 110 rfl ?_)
        refine h_mul c (hd 60 110 _ _ rfl) e104 (by omega) (fun v110 e110 => hat 111 rfl ?_)
        refine h_iln c (hd 61 111 _ _ rfl) (by rfl) (hat 112 rfl ?_)
        refine h_add c (hd 62 112 _ _ rfl) (by omega) (fun v112 e112 => hat 113 rfl ?_)
        refine h_iald c (hd 63 113 _ _ rfl) la_81 ⟨by omega, by omega⟩ rfl (x := F 81 v112.toInt.toNat) (fr1 81 v112.toInt.toNat (by decide) (by rfl)) (hat 114 rfl ?_)
        refine h_iln c (hd 64 114 _ _ rfl) (by rfl) (hat 115 rfl ?_)
        refine h_cmp c (hd 65 115 _ _ rfl) (tgt := 127) (by decide) (fun (h115 : (F 81 v112.toInt.toNat).toInt ≠ w1.toInt) => ?_) (fun (h115 : ¬ ((F 81 v112.toInt.toNat).toInt ≠ w1.toInt)) => hat 118 rfl ?_)
        · skip
          refine h_inc c (fun r_ => [(2, .int r_), (1, .int w1), (0, .ref (G.2.1.1 114))]) (hd 71 127 _ _ rfl) (by decide) (by decide) (by rfl) (by omega) (fun _ => by rfl) (fun v127 e127 => hat 130 rfl ?_)
          refine h_goto c (hd 72 130 _ _ rfl) (tgt := 83) (by decide) ?_
          exact h_less (L := [(2, .int v127), (1, .int w1), (0, .ref (G.2.1.1 114))]) (by simp) (ih ((F 73 rb.toNat).toInt - v127.toInt).toNat (by omega) _ _ fr1 (by omega) (by omega) rfl)
        · skip
          refine h_aln c (hd 66 118 _ _ rfl) (by rfl) (hat 119 rfl ?_)
          refine h_ic c (hd 67 119 _ _ rfl) (by decide) (fun v119 e119 => hat 120 rfl ?_)
          refine h_aln c (hd 68 120 _ _ rfl) (by rfl) (hat 121 rfl ?_)
          refine h_getI c (hd 69 121 _ _ rfl) fgX12_188 gnX12_188_114 (x := F 114 6) (fr1 114 6 (by decide) (by rfl)) (hat 124 rfl ?_)
          refine h_callV c (M' := q1222_M) (q1222_met hG) (by decide +kernel) (by decide +kernel) (wlkV (lkX12_219 hG) _ rfl rfl) (j := 114) (by decide +kernel) (hd 70 124 _ _ rfl) [.int v119, .int (F 114 6)] (rest := []) (by rfl) ⟨⟨114, by decide, rfl⟩, ⟨_, rfl, hcon (by omega), trivial⟩, ⟨_, rfl, rf_in1 (by omega) (by omega), trivial⟩, trivial⟩ (Nat.le_of_ble_eq_true rfl) (fun q hq => absurd hq List.not_mem_nil) (fun rv124 F124 fr124 rr124 pp124 sm_ => hat 127 rfl ?_)
          obtain ⟨k_, hk_, pp124⟩ := pp124
          rcases hm1 hk_ with rfl
          match rv124, pp124 with
          | none, pp124 =>
          skip
          have gf124_0 : 1 ≤ (F124 114 4).toInt ∧ (F124 114 4).toInt ≤ 4 := ⟨(hk_fact pp124 0 rfl).1.1, (hk_fact pp124 0 rfl).1.2.1⟩
          refine h_inc c (fun r_ => [(2, .int r_), (1, .int w1), (0, .ref (G.2.1.1 114))]) (hd 71 127 _ _ rfl) (by decide) (by decide) (by rfl) (by omega) (fun _ => by rfl) (fun v127 e127 => hat 130 rfl ?_)
          refine h_goto c (hd 72 130 _ _ rfl) (tgt := 83) (by decide) ?_
          exact h_less (L := [(2, .int v127), (1, .int w1), (0, .ref (G.2.1.1 114))]) (by simp) (ih ((F 73 rb.toNat).toInt - v127.toInt).toNat (by omega) _ _ (hframe_tr fr1 fr124 (by decide)) (by omega) (by omega) rfl)
  have K81 : ∀ (w1 w2 : Int32) (F1 : HF), hframe [(114, 5), (114, 6)] F F1 → (0 ≤ w1.toInt ∧ w1.toInt ≤ 387420488) → hW G X hM_word w0 81 [(2, .int w2), (1, .int w1), (0, .ref (G.2.1.1 114))] [] F1 := by
    intro w1 w2 F1 fr1 hits
    refine h_ic c (hd 44 81 _ _ rfl) (by decide) (fun v81 e81 => hat 82 rfl ?_)
    refine h_isn c (hd 45 82 _ _ rfl) (by decide) (L' := [(2, .int v81), (1, .int w1), (0, .ref (G.2.1.1 114))]) (by rfl) (hat 83 rfl ?_)
    exact K83 w1 hits _ _ _ fr1 (by omega) (by omega) rfl
  have K38 : ∀ (m : Nat) (w1 w2 : Int32) (F1 : HF), hframe [(114, 5), (114, 6)] F F1 → (0 ≤ w1.toInt ∧ w1.toInt ≤ 387420488) → ((1 ≤ (F1 114 4).toInt ∨ (F 114 8).toInt ≠ 2 ∨ (F 114 7).toInt ≤ w2.toInt) ∨ ((F 114 8).toInt = 2 ∧ (F 114 7).toInt - (F 114 6).toInt ≤ 6 ∧ (F 114 6).toInt ≤ w2.toInt ∧ w1.toInt ≤ 27 ^ (w2.toInt - (F 114 6).toInt).toNat - 1)) → m = ((F 114 7).toInt - w2.toInt).toNat → 0 ≤ w2.toInt → hW G X hM_word w0 38 [(2, .int w2), (1, .int w1), (0, .ref (G.2.1.1 114))] [] F1 := by
    intro m
    induction m using Nat.strongRecOn with
    | ind m ih =>
    intro w1 w2 F1 fr1 hits hcn hm hk0
    refine h_aln c (hd 21 38 _ _ rfl) (by rfl) (hat 39 rfl ?_)
    refine h_callV c (M' := q1214_M) (q1214_met hG) (by decide +kernel) (by decide +kernel) (wlkV (lkX12_223 hG) _ rfl rfl) (j := 114) (by decide +kernel) (hd 22 39 _ _ rfl) [] (rest := []) (by rfl) ⟨⟨114, by decide, rfl⟩, trivial⟩ (Nat.le_of_ble_eq_true rfl) (fun q hq => absurd hq List.not_mem_nil) (fun rv39 F39 fr39 rr39 pp39 sm_ => hat 42 rfl ?_)
    have e_ := (sm_ rfl).symm
    subst e_
    obtain ⟨k_, hk_, pp39⟩ := pp39
    rcases hm2 hk_ with rfl | rfl
    · skip
      obtain ⟨x39, hrv_, hx39⟩ := hk_val pp39
      subst hrv_
      have hx39 : 1 ≤ x39.toInt ∧ x39.toInt ≤ 1 := ⟨hx39.1, hx39.2.1⟩
      have gf39_0 : 0 ≤ (F1 114 4).toInt ∧ (F1 114 4).toInt ≤ 0 := ⟨(hk_fact pp39 0 rfl).1.1, (hk_fact pp39 0 rfl).1.2.1⟩
      refine h_if c (hd 23 42 _ _ rfl) (tgt := 81) (by decide) (fun (h42 : x39.toInt = 0) => ?_) (fun (h42 : ¬ (x39.toInt = 0)) => hat 45 rfl ?_)
      · skip
        exact K81 _ _ _ fr1 hits
      · skip
        refine h_aln c (hd 24 45 _ _ rfl) (by rfl) (hat 46 rfl ?_)
        refine h_getI c (hd 25 46 _ _ rfl) fgX12_195 gnX12_195_114 (x := F 114 8) (fr1 114 8 (by decide) (by rfl)) (hat 49 rfl ?_)
        refine h_ic c (hd 26 49 _ _ rfl) (by decide) (fun v49 e49 => hat 50 rfl ?_)
        refine h_cmp c (hd 27 50 _ _ rfl) (tgt := 81) (by decide) (fun (h50 : (F 114 8).toInt ≠ v49.toInt) => ?_) (fun (h50 : ¬ ((F 114 8).toInt ≠ v49.toInt)) => hat 53 rfl ?_)
        · skip
          exact K81 _ _ _ fr1 hits
        · skip
          refine h_iln c (hd 28 53 _ _ rfl) (by rfl) (hat 54 rfl ?_)
          refine h_aln c (hd 29 54 _ _ rfl) (by rfl) (hat 55 rfl ?_)
          refine h_getI c (hd 30 55 _ _ rfl) fgX12_185 gnX12_185_114 (x := F 114 7) (fr1 114 7 (by decide) (by rfl)) (hat 58 rfl ?_)
          refine h_cmp c (hd 31 58 _ _ rfl) (tgt := 81) (by decide) (fun (h58 : (F 114 7).toInt ≤ w2.toInt) => ?_) (fun (h58 : ¬ ((F 114 7).toInt ≤ w2.toInt)) => hat 61 rfl ?_)
          · skip
            exact K81 _ _ _ fr1 hits
          · skip
            have hlst : (F 114 8).toInt = 2 ∧ (F 114 7).toInt - (F 114 6).toInt ≤ 6 ∧ (F 114 6).toInt ≤ w2.toInt ∧ w1.toInt ≤ 27 ^ (w2.toInt - (F 114 6).toInt).toNat - 1 := by
              rcases hcn with h_ | h_
              · omega
              · exact h_
            have hlet := hgL_at hgl1 hlst.1 w2.toInt hlst.2.2.1 (by omega)
            have hpw := h_p27c (n := (w2.toInt - (F 114 6).toInt).toNat) (by omega)
            refine h_bp c (hd 32 61 _ _ rfl) (by decide) (fun v61 e61 => hat 63 rfl ?_)
            refine h_iln c (hd 33 63 _ _ rfl) (by rfl) (hat 64 rfl ?_)
            refine h_mul c (hd 34 64 _ _ rfl) e61 (by omega) (fun v64 e64 => hat 65 rfl ?_)
            refine h_aln c (hd 35 65 _ _ rfl) (by rfl) (hat 66 rfl ?_)
            refine h_iln c (hd 36 66 _ _ rfl) (by rfl) (hat 67 rfl ?_)
            refine h_callVF c (M' := hM_sign) (hp_sign hG) (by decide +kernel) (wlkV (lkX12_191 hG) _ rfl rfl) (j := 114) (by decide +kernel) (hd 37 67 _ _ rfl) [.int w2] (rest := [.int v64]) (by rfl) ⟨⟨114, by decide, rfl⟩, ⟨_, rfl, rf_in1 (by omega) (by omega), trivial⟩, trivial⟩ (Nat.le_of_ble_eq_true rfl) trivial (fun rv67 F67 fr67 rr67 pp67 sm_ => hat 70 rfl ?_)
            have e_ := (sm_ rfl).symm
            subst e_
            obtain ⟨k_, x67, ek_, er_, hx67, gx67⟩ := pp67
            cases ek_
            subst er_
            rw [show (fun i => (F1 72 i).toInt) = (fun i => (F 72 i).toInt) from funext fun q_ => congrArg Int32.toInt (fr1 72 q_ (by decide) (by rfl)), show F1 114 3 = F 114 3 from fr1 114 3 (by decide) (by rfl)] at hx67
            refine h_add c (hd 38 70 _ _ rfl) (by omega) (fun v70 e70 => hat 71 rfl ?_)
            rw [← hx67] at hlet
            refine h_bp c (hd 39 71 _ _ rfl) (by decide) (fun v71 e71 => hat 73 rfl ?_)
            refine h_sub c (hd 40 73 _ _ rfl) (by omega) (fun v73 e73 => hat 74 rfl ?_)
            refine h_isn c (hd 41 74 _ _ rfl) (by decide) (L' := [(1, .int v73), (2, .int w2), (0, .ref (G.2.1.1 114))]) (by rfl) (hat 75 rfl ?_)
            refine h_inc c (fun r_ => [(2, .int r_), (1, .int v73), (0, .ref (G.2.1.1 114))]) (hd 42 75 _ _ rfl) (by decide) (by decide) (by rfl) (by omega) (fun _ => by rfl) (fun v75 e75 => hat 78 rfl ?_)
            refine h_goto c (hd 43 78 _ _ rfl) (tgt := 38) (by decide) ?_
            have ek_ : (v75.toInt - (F 114 6).toInt).toNat = (w2.toInt - (F 114 6).toInt).toNat + 1 := by omega
            have hst_ := h_p27 (w2.toInt - (F 114 6).toInt).toNat hlst.2.2.2 hlet.2
            have hb_ := h_p27b (n := (w2.toInt - (F 114 6).toInt).toNat + 1) (by omega)
            exact h_less (L := [(2, .int v75), (1, .int v73), (0, .ref (G.2.1.1 114))]) (by simp) (ih ((F 114 7).toInt - v75.toInt).toNat (by omega) _ _ _ fr1 (by omega) (Or.inr ⟨hlst.1, hlst.2.1, by omega, by rw [ek_]; omega⟩) rfl (by omega))
    · skip
      obtain ⟨x39, hrv_, hx39⟩ := hk_val pp39
      subst hrv_
      have hx39 : 0 ≤ x39.toInt ∧ x39.toInt ≤ 0 := ⟨hx39.1, hx39.2.1⟩
      have gf39_0 : 1 ≤ (F1 114 4).toInt ∧ (F1 114 4).toInt ≤ 4 := ⟨(hk_fact pp39 0 rfl).1.1, (hk_fact pp39 0 rfl).1.2.1⟩
      refine h_if c (hd 23 42 _ _ rfl) (tgt := 81) (by decide) (fun (h42 : x39.toInt = 0) => ?_) (fun (h42 : ¬ (x39.toInt = 0)) => hat 45 rfl ?_)
      · skip
        exact K81 _ _ _ fr1 hits
      · skip
        refine h_aln c (hd 24 45 _ _ rfl) (by rfl) (hat 46 rfl ?_)
        refine h_getI c (hd 25 46 _ _ rfl) fgX12_195 gnX12_195_114 (x := F 114 8) (fr1 114 8 (by decide) (by rfl)) (hat 49 rfl ?_)
        refine h_ic c (hd 26 49 _ _ rfl) (by decide) (fun v49 e49 => hat 50 rfl ?_)
        refine h_cmp c (hd 27 50 _ _ rfl) (tgt := 81) (by decide) (fun (h50 : (F 114 8).toInt ≠ v49.toInt) => ?_) (fun (h50 : ¬ ((F 114 8).toInt ≠ v49.toInt)) => hat 53 rfl ?_)
        · skip
          exact K81 _ _ _ fr1 hits
        · skip
          refine h_iln c (hd 28 53 _ _ rfl) (by rfl) (hat 54 rfl ?_)
          refine h_aln c (hd 29 54 _ _ rfl) (by rfl) (hat 55 rfl ?_)
          refine h_getI c (hd 30 55 _ _ rfl) fgX12_185 gnX12_185_114 (x := F 114 7) (fr1 114 7 (by decide) (by rfl)) (hat 58 rfl ?_)
          refine h_cmp c (hd 31 58 _ _ rfl) (tgt := 81) (by decide) (fun (h58 : (F 114 7).toInt ≤ w2.toInt) => ?_) (fun (h58 : ¬ ((F 114 7).toInt ≤ w2.toInt)) => hat 61 rfl ?_)
          · skip
            exact K81 _ _ _ fr1 hits
          · skip
            have hlst : (F 114 8).toInt = 2 ∧ (F 114 7).toInt - (F 114 6).toInt ≤ 6 ∧ (F 114 6).toInt ≤ w2.toInt ∧ w1.toInt ≤ 27 ^ (w2.toInt - (F 114 6).toInt).toNat - 1 := by
              rcases hcn with h_ | h_
              · omega
              · exact h_
            have hlet := hgL_at hgl1 hlst.1 w2.toInt hlst.2.2.1 (by omega)
            have hpw := h_p27c (n := (w2.toInt - (F 114 6).toInt).toNat) (by omega)
            refine h_bp c (hd 32 61 _ _ rfl) (by decide) (fun v61 e61 => hat 63 rfl ?_)
            refine h_iln c (hd 33 63 _ _ rfl) (by rfl) (hat 64 rfl ?_)
            refine h_mul c (hd 34 64 _ _ rfl) e61 (by omega) (fun v64 e64 => hat 65 rfl ?_)
            refine h_aln c (hd 35 65 _ _ rfl) (by rfl) (hat 66 rfl ?_)
            refine h_iln c (hd 36 66 _ _ rfl) (by rfl) (hat 67 rfl ?_)
            refine h_callVF c (M' := hM_sign) (hp_sign hG) (by decide +kernel) (wlkV (lkX12_191 hG) _ rfl rfl) (j := 114) (by decide +kernel) (hd 37 67 _ _ rfl) [.int w2] (rest := [.int v64]) (by rfl) ⟨⟨114, by decide, rfl⟩, ⟨_, rfl, rf_in1 (by omega) (by omega), trivial⟩, trivial⟩ (Nat.le_of_ble_eq_true rfl) trivial (fun rv67 F67 fr67 rr67 pp67 sm_ => hat 70 rfl ?_)
            have e_ := (sm_ rfl).symm
            subst e_
            obtain ⟨k_, x67, ek_, er_, hx67, gx67⟩ := pp67
            cases ek_
            subst er_
            rw [show (fun i => (F1 72 i).toInt) = (fun i => (F 72 i).toInt) from funext fun q_ => congrArg Int32.toInt (fr1 72 q_ (by decide) (by rfl)), show F1 114 3 = F 114 3 from fr1 114 3 (by decide) (by rfl)] at hx67
            refine h_add c (hd 38 70 _ _ rfl) (by omega) (fun v70 e70 => hat 71 rfl ?_)
            rw [← hx67] at hlet
            refine h_bp c (hd 39 71 _ _ rfl) (by decide) (fun v71 e71 => hat 73 rfl ?_)
            refine h_sub c (hd 40 73 _ _ rfl) (by omega) (fun v73 e73 => hat 74 rfl ?_)
            refine h_isn c (hd 41 74 _ _ rfl) (by decide) (L' := [(1, .int v73), (2, .int w2), (0, .ref (G.2.1.1 114))]) (by rfl) (hat 75 rfl ?_)
            refine h_inc c (fun r_ => [(2, .int r_), (1, .int v73), (0, .ref (G.2.1.1 114))]) (hd 42 75 _ _ rfl) (by decide) (by decide) (by rfl) (by omega) (fun _ => by rfl) (fun v75 e75 => hat 78 rfl ?_)
            refine h_goto c (hd 43 78 _ _ rfl) (tgt := 38) (by decide) ?_
            have ek_ : (v75.toInt - (F 114 6).toInt).toNat = (w2.toInt - (F 114 6).toInt).toNat + 1 := by omega
            have hst_ := h_p27 (w2.toInt - (F 114 6).toInt).toNat hlst.2.2.2 hlet.2
            have hb_ := h_p27b (n := (w2.toInt - (F 114 6).toInt).toNat + 1) (by omega)
            exact h_less (L := [(2, .int v75), (1, .int v73), (0, .ref (G.2.1.1 114))]) (by simp) (ih ((F 114 7).toInt - v75.toInt).toNat (by omega) _ _ _ fr1 (by omega) (Or.inr ⟨hlst.1, hlst.2.1, by omega, by rw [ek_]; omega⟩) rfl (by omega))
  refine h_ic c (hd 0 0 _ _ rfl) (by decide) (fun v0 e0 => hat 1 rfl ?_)
  refine h_isn c (hd 1 1 _ _ rfl) (by decide) (L' := [(1, .int v0), (0, .ref (G.2.1.1 114))]) (by rfl) (hat 2 rfl ?_)
  refine h_aln c (hd 2 2 _ _ rfl) (by rfl) (hat 3 rfl ?_)
  refine h_getI c (hd 3 3 _ _ rfl) fgX12_195 gnX12_195_114 (x := F 114 8) (rfl) (hat 6 rfl ?_)
  refine h_ic c (hd 4 6 _ _ rfl) (by decide) (fun v6 e6 => hat 7 rfl ?_)
  refine h_cmp c (hd 5 7 _ _ rfl) (tgt := 33) (by decide) (fun (h7 : (F 114 8).toInt ≠ v6.toInt) => ?_) (fun (h7 : ¬ ((F 114 8).toInt ≠ v6.toInt)) => hat 10 rfl ?_)
  · skip
    refine h_aln c (hd 18 33 _ _ rfl) (by rfl) (hat 34 rfl ?_)
    refine h_getI c (hd 19 34 _ _ rfl) fgX12_188 gnX12_188_114 (x := F 114 6) (rfl) (hat 37 rfl ?_)
    refine h_isn c (hd 20 37 _ _ rfl) (by decide) (L' := [(2, .int (F 114 6)), (1, .int v0), (0, .ref (G.2.1.1 114))]) (by rfl) (hat 38 rfl ?_)
    exact h_less (L := [(2, .int (F 114 6)), (1, .int v0), (0, .ref (G.2.1.1 114))]) (by simp) (K38 _ _ _ _ (hframe_rf [(114, 5), (114, 6)] F) (by omega) (by first | exact Or.inl (Or.inr (Or.inl (by omega))) | exact Or.inr ⟨by omega, by omega, Int.le_refl _, by rw [show ((F 114 6).toInt - (F 114 6).toInt).toNat = 0 by omega]; show _ ≤ (1 : Int) - 1; omega⟩) rfl (by omega))
  · skip
    refine h_aln c (hd 6 10 _ _ rfl) (by rfl) (hat 11 rfl ?_)
    refine h_getI c (hd 7 11 _ _ rfl) fgX12_185 gnX12_185_114 (x := F 114 7) (rfl) (hat 14 rfl ?_)
    refine h_aln c (hd 8 14 _ _ rfl) (by rfl) (hat 15 rfl ?_)
    refine h_getI c (hd 9 15 _ _ rfl) fgX12_188 gnX12_188_114 (x := F 114 6) (rfl) (hat 18 rfl ?_)
    refine h_sub c (hd 10 18 _ _ rfl) (by omega) (fun v18 e18 => hat 19 rfl ?_)
    refine h_bp c (hd 11 19 _ _ rfl) (by decide) (fun v19 e19 => hat 21 rfl ?_)
    refine h_cmp c (hd 12 21 _ _ rfl) (tgt := 33) (by decide) (fun (h21 : v18.toInt ≤ v19.toInt) => ?_) (fun (h21 : ¬ (v18.toInt ≤ v19.toInt)) => hat 24 rfl ?_)
    · skip
      refine h_aln c (hd 18 33 _ _ rfl) (by rfl) (hat 34 rfl ?_)
      refine h_getI c (hd 19 34 _ _ rfl) fgX12_188 gnX12_188_114 (x := F 114 6) (rfl) (hat 37 rfl ?_)
      refine h_isn c (hd 20 37 _ _ rfl) (by decide) (L' := [(2, .int (F 114 6)), (1, .int v0), (0, .ref (G.2.1.1 114))]) (by rfl) (hat 38 rfl ?_)
      exact h_less (L := [(2, .int (F 114 6)), (1, .int v0), (0, .ref (G.2.1.1 114))]) (by simp) (K38 _ _ _ _ (hframe_rf [(114, 5), (114, 6)] F) (by omega) (by first | exact Or.inl (Or.inr (Or.inl (by omega))) | exact Or.inr ⟨by omega, by omega, Int.le_refl _, by rw [show ((F 114 6).toInt - (F 114 6).toInt).toNat = 0 by omega]; show _ ≤ (1 : Int) - 1; omega⟩) rfl (by omega))
    · skip
      refine h_aln c (hd 13 24 _ _ rfl) (by rfl) (hat 25 rfl ?_)
      refine h_ic c (hd 14 25 _ _ rfl) (by decide) (fun v25 e25 => hat 26 rfl ?_)
      refine h_aln c (hd 15 26 _ _ rfl) (by rfl) (hat 27 rfl ?_)
      refine h_getI c (hd 16 27 _ _ rfl) fgX12_188 gnX12_188_114 (x := F 114 6) (rfl) (hat 30 rfl ?_)
      refine h_callV c (M' := q1221_M) (q1221_met hG) (by decide +kernel) (by decide +kernel) (wlkV (lkX12_219 hG) _ rfl rfl) (j := 114) (by decide +kernel) (hd 17 30 _ _ rfl) [.int v25, .int (F 114 6)] (rest := []) (by rfl) ⟨⟨114, by decide, rfl⟩, ⟨_, rfl, hcon (by omega), trivial⟩, ⟨_, rfl, rf_in1 (by omega) (by omega), trivial⟩, trivial⟩ (Nat.le_of_ble_eq_true rfl) (fun q hq => absurd hq List.not_mem_nil) (fun rv30 F30 fr30 rr30 pp30 sm_ => hat 33 rfl ?_)
      obtain ⟨k_, hk_, pp30⟩ := pp30
      rcases hm1 hk_ with rfl
      match rv30, pp30 with
      | none, pp30 =>
      skip
      have gf30_0 : 1 ≤ (F30 114 4).toInt ∧ (F30 114 4).toInt ≤ 4 := ⟨(hk_fact pp30 0 rfl).1.1, (hk_fact pp30 0 rfl).1.2.1⟩
      refine h_aln c (hd 18 33 _ _ rfl) (by rfl) (hat 34 rfl ?_)
      refine h_getI c (hd 19 34 _ _ rfl) fgX12_188 gnX12_188_114 (x := F 114 6) (fr30 114 6 (by decide) (by rfl)) (hat 37 rfl ?_)
      refine h_isn c (hd 20 37 _ _ rfl) (by decide) (L' := [(2, .int (F 114 6)), (1, .int v0), (0, .ref (G.2.1.1 114))]) (by rfl) (hat 38 rfl ?_)
      exact h_less (L := [(2, .int (F 114 6)), (1, .int v0), (0, .ref (G.2.1.1 114))]) (by simp) (K38 _ _ _ _ (hframe_tr (hframe_rf [(114, 5), (114, 6)] F) fr30 (by decide)) (by omega) (Or.inl (Or.inl (by omega))) rfl (by omega))
def hM_isWord : rfM := ((⟨"NearSpellModel", "isWord", "(J)Z"⟩, prog_14_method_11_code, 3, (some .boolean)), (2,100), ([.inr (.inl [114]), .inr (.inr 0)],[]), [], [])
set_option maxHeartbeats 4000000 in
set_option maxRecDepth 20000 in
theorem hp_isWord {G : rfG} (hG : okG G) (y : Int64) : h_metY G hM_isWord (fun ws => rf_raw ws 114 10 = some (.long y)) (fun _ _ => True) (fun vs F _ rv => ∃ (u : Int64) (x : Int32), vs[1]? = some (.long u) ∧ rv = some (.int x) ∧ ((x.toInt = 1 ∧ (F 114 8).toInt = 3 ∧ y = u) ∨ (x.toInt = 0 ∧ ¬ ((F 114 8).toInt = 3 ∧ y = u)))) := by
  refine h_metOfY hG.1 (by decide +kernel) (by decide) hG.2.2.1 (wflT hG flokX12) (wcsT hG csokX12) ?_
  intro vs w0 X hv_ hr hp c
  match vs, hv_ with
  | [_, _], ⟨⟨_, hj0, rfl⟩, ⟨u, rfl⟩, _⟩ =>
  cases List.mem_singleton.mp hj0
  have hd : ∀ n pc i len, ddX12_isWord[n]? = some (pc, i, len) → decode (mb hM_isWord) pc = .ok (i, len) := fun n pc i len h => hdk dkX12_isWord n pc i len h
  show hW G X hM_isWord w0 0 [(0, .ref (G.2.1.1 114)), (1, .long u)] [] (hv w0)
  generalize hF0 : hv w0 = F at *
  obtain ⟨hy, hp⟩ := hp
  refine h_aln c (hd 0 0 _ _ rfl) (by rfl) (hat 1 rfl ?_)
  refine h_getI c (hd 1 1 _ _ rfl) fgX12_195 gnX12_195_114 (x := F 114 8) (rfl) (hat 4 rfl ?_)
  refine h_ic c (hd 2 4 _ _ rfl) (by decide) (fun v4 e4 => hat 5 rfl ?_)
  refine h_cmp c (hd 3 5 _ _ rfl) (tgt := 21) (by decide) (fun (h5 : (F 114 8).toInt ≠ v4.toInt) => ?_) (fun (h5 : ¬ ((F 114 8).toInt ≠ v4.toInt)) => hat 8 rfl ?_)
  · skip
    refine h_ic c (hd 11 21 _ _ rfl) (by decide) (fun v21 e21 => hat 22 rfl ?_)
    exact h_zret c (hd 12 22 _ _ rfl) rfl (by omega) ⟨u, _, rfl, rfl, Or.inr ⟨by omega, fun q_ => by omega⟩⟩
  · skip
    refine h_aln c (hd 4 8 _ _ rfl) (by rfl) (hat 9 rfl ?_)
    refine h_getY c rfl hy (hd 5 9 _ _ rfl) fgX12_202 gnX12_202_114 (hat 12 rfl ?_)
    refine h_lln c (hd 6 12 _ _ rfl) (by rfl) (hat 13 rfl ?_)
    refine h_lcmp c (hd 7 13 _ _ rfl) (fun v13 e13 => hat 14 rfl ?_)
    refine h_if c (hd 8 14 _ _ rfl) (tgt := 21) (by decide) (fun (h14 : v13.toInt ≠ 0) => ?_) (fun (h14 : ¬ (v13.toInt ≠ 0)) => hat 17 rfl ?_)
    · skip
      refine h_ic c (hd 11 21 _ _ rfl) (by decide) (fun v21 e21 => hat 22 rfl ?_)
      exact h_zret c (hd 12 22 _ _ rfl) rfl (by omega) ⟨u, _, rfl, rfl, Or.inr ⟨by omega, fun q_ => h14 (e13.mpr q_.2)⟩⟩
    · skip
      refine h_ic c (hd 9 17 _ _ rfl) (by decide) (fun v17 e17 => hat 18 rfl ?_)
      refine h_goto c (hd 10 18 _ _ rfl) (tgt := 22) (by decide) ?_
      exact h_zret c (hd 12 22 _ _ rfl) rfl (by omega) ⟨u, _, rfl, rfl, Or.inl ⟨by omega, by omega, e13.mp (by omega)⟩⟩
def hM_isFull : rfM := ((⟨"NearSpellModel", "isFull", "()Z"⟩, prog_14_method_17_code, 1, (some .boolean)), (5,300), ([.inr (.inl [114])],[]), [], [])
set_option maxHeartbeats 4000000 in
set_option maxRecDepth 20000 in
theorem hp_isFull {G : rfG} (hG : okG G) (y : Int64) : h_metY G hM_isFull (fun ws => rf_raw ws 114 10 = some (.long y)) (fun _ F => (F 114 8).toInt = 3) (fun _ F _ rv => ∃ x : Int32, rv = some (.int x) ∧ 0 ≤ x.toInt ∧ x.toInt ≤ 1 ∧ (x.toInt = 0 → y = (Int64.ofInt 2003792484) → (F 73 (F 114 29).toInt.toNat).toInt ≠ 10)) := by
  refine h_metOfY hG.1 (by decide +kernel) (by decide) hG.2.2.1 (wflT hG flokX12) (wcsT hG csokX12) ?_
  intro vs w0 X hv_ hr hp c
  match vs, hv_ with
  | [_], ⟨⟨_, hj0, rfl⟩, _⟩ =>
  cases List.mem_singleton.mp hj0
  have hd : ∀ n pc i len, ddX12_isFull[n]? = some (pc, i, len) → decode (mb hM_isFull) pc = .ok (i, len) := fun n pc i len h => hdk dkX12_isFull n pc i len h
  show hW G X hM_isFull w0 0 [(0, .ref (G.2.1.1 114))] [] (hv w0)
  generalize hF0 : hv w0 = F at *
  obtain ⟨hy, hp⟩ := hp
  have hrb : 0 ≤ (F 114 29).toInt ∧ (F 114 29).toInt ≤ 1 := hrg hr ly_114_29
  have R150 : y ≠ (Int64.ofInt 2003792484) → hW G X hM_isFull w0 150 [(0, .ref (G.2.1.1 114))] [] F := by
    intro hyn
    refine h_aln c (hd 75 150 _ _ rfl) (by rfl) (hat 151 rfl ?_)
    refine h_ldc2v c (wlcT hG lcokX12) (hd 76 151 _ _ rfl) (n := 1685217655) (by rfl) (hat 154 rfl ?_)
    refine h_callV c (M' := q1212_M) (q1212_met hG) (by decide +kernel) (by decide +kernel) (wlkV (lkX12_248 hG) _ rfl rfl) (j := 114) (by decide +kernel) (hd 77 154 _ _ rfl) [.long (Int64.ofInt 1685217655)] (rest := []) (by rfl) ⟨⟨114, by decide, rfl⟩, ⟨_, rfl⟩, trivial⟩ (Nat.le_of_ble_eq_true rfl) (fun q hq => absurd hq List.not_mem_nil) (fun rv154 F154 fr154 rr154 pp154 sm_ => hat 157 rfl ?_)
    have e_ := (sm_ rfl).symm
    subst e_
    obtain ⟨k_, hk_, pp154⟩ := pp154
    rcases hm2 hk_ with rfl | rfl
    · skip
      obtain ⟨x154, hrv_, hx154⟩ := hk_val pp154
      subst hrv_
      have hx154 : 1 ≤ x154.toInt ∧ x154.toInt ≤ 1 := ⟨hx154.1, hx154.2.1⟩
      have gf154_0 : 3 ≤ (F 114 8).toInt ∧ (F 114 8).toInt ≤ 3 := ⟨(hk_fact pp154 0 rfl).1.1, (hk_fact pp154 0 rfl).1.2.1⟩
      refine h_if c (hd 78 157 _ _ rfl) (tgt := 176) (by decide) (fun (h157 : x154.toInt = 0) => ?_) (fun (h157 : ¬ (x154.toInt = 0)) => hat 160 rfl ?_)
      · skip
        refine h_ic c (hd 87 176 _ _ rfl) (by decide) (fun v176 e176 => hat 177 rfl ?_)
        refine h_goto c (hd 88 177 _ _ rfl) (tgt := 181) (by decide) ?_
        exact h_zret c (hd 90 181 _ _ rfl) rfl (by omega) ⟨_, rfl, by omega, by omega, (fun a_ b_ => absurd b_ hyn)⟩
      · skip
        refine h_aln c (hd 79 160 _ _ rfl) (by rfl) (hat 161 rfl ?_)
        refine h_getR c (hd 80 161 _ _ rfl) fgX12_42 gnX12_42_114 (hat 164 rfl ?_)
        refine h_aln c (hd 81 164 _ _ rfl) (by rfl) (hat 165 rfl ?_)
        refine h_getI c (hd 82 165 _ _ rfl) fgX12_233 gnX12_233_114 (x := F 114 29) (rfl) (hat 168 rfl ?_)
        refine h_iald c (hd 83 168 _ _ rfl) la_80 ⟨by omega, by omega⟩ rfl (x := F 80 ((F 114 29).toInt.toNat)) (rfl) (hat 169 rfl ?_)
        refine h_ic c (hd 84 169 _ _ rfl) (by decide) (fun v169 e169 => hat 170 rfl ?_)
        refine h_callS c (M' := q684_M) (q684_met hG) (by decide +kernel) (by decide +kernel) (wlkS (lkX12_251 hG) _ rfl rfl) (hd 85 170 _ _ rfl) [.int (F 80 ((F 114 29).toInt.toNat)), .int v169] (rest := []) (by rfl) ⟨⟨_, rfl, rf_in_top _, trivial⟩, ⟨_, rfl, rf_in_top _, trivial⟩, trivial⟩ (Nat.le_of_ble_eq_true rfl) (fun q hq => absurd hq List.not_mem_nil) (fun rv170 F170 fr170 rr170 pp170 sm_ => hat 173 rfl ?_)
        have e_ := (sm_ rfl).symm
        subst e_
        obtain ⟨k_, hk_, pp170⟩ := pp170
        rcases hm2 hk_ with rfl | rfl
        · skip
          obtain ⟨x170, hrv_, hx170⟩ := hk_val pp170
          subst hrv_
          have hx170 : 1 ≤ x170.toInt ∧ x170.toInt ≤ 1 := ⟨hx170.1, hx170.2.1⟩
          refine h_if c (hd 86 173 _ _ rfl) (tgt := 180) (by decide) (fun (h173 : x170.toInt = 0) => ?_) (fun (h173 : ¬ (x170.toInt = 0)) => hat 176 rfl ?_)
          · skip
            refine h_ic c (hd 89 180 _ _ rfl) (by decide) (fun v180 e180 => hat 181 rfl ?_)
            exact h_zret c (hd 90 181 _ _ rfl) rfl (by omega) ⟨_, rfl, by omega, by omega, (fun a_ b_ => absurd b_ hyn)⟩
          · skip
            refine h_ic c (hd 87 176 _ _ rfl) (by decide) (fun v176 e176 => hat 177 rfl ?_)
            refine h_goto c (hd 88 177 _ _ rfl) (tgt := 181) (by decide) ?_
            exact h_zret c (hd 90 181 _ _ rfl) rfl (by omega) ⟨_, rfl, by omega, by omega, (fun a_ b_ => absurd b_ hyn)⟩
        · skip
          obtain ⟨x170, hrv_, hx170⟩ := hk_val pp170
          subst hrv_
          have hx170 : 0 ≤ x170.toInt ∧ x170.toInt ≤ 0 := ⟨hx170.1, hx170.2.1⟩
          refine h_if c (hd 86 173 _ _ rfl) (tgt := 180) (by decide) (fun (h173 : x170.toInt = 0) => ?_) (fun (h173 : ¬ (x170.toInt = 0)) => hat 176 rfl ?_)
          · skip
            refine h_ic c (hd 89 180 _ _ rfl) (by decide) (fun v180 e180 => hat 181 rfl ?_)
            exact h_zret c (hd 90 181 _ _ rfl) rfl (by omega) ⟨_, rfl, by omega, by omega, (fun a_ b_ => absurd b_ hyn)⟩
          · skip
            refine h_ic c (hd 87 176 _ _ rfl) (by decide) (fun v176 e176 => hat 177 rfl ?_)
            refine h_goto c (hd 88 177 _ _ rfl) (tgt := 181) (by decide) ?_
            exact h_zret c (hd 90 181 _ _ rfl) rfl (by omega) ⟨_, rfl, by omega, by omega, (fun a_ b_ => absurd b_ hyn)⟩
    · skip
      obtain ⟨x154, hrv_, hx154⟩ := hk_val pp154
      subst hrv_
      have hx154 : 0 ≤ x154.toInt ∧ x154.toInt ≤ 0 := ⟨hx154.1, hx154.2.1⟩
      refine h_if c (hd 78 157 _ _ rfl) (tgt := 176) (by decide) (fun (h157 : x154.toInt = 0) => ?_) (fun (h157 : ¬ (x154.toInt = 0)) => hat 160 rfl ?_)
      · skip
        refine h_ic c (hd 87 176 _ _ rfl) (by decide) (fun v176 e176 => hat 177 rfl ?_)
        refine h_goto c (hd 88 177 _ _ rfl) (tgt := 181) (by decide) ?_
        exact h_zret c (hd 90 181 _ _ rfl) rfl (by omega) ⟨_, rfl, by omega, by omega, (fun a_ b_ => absurd b_ hyn)⟩
      · skip
        refine h_aln c (hd 79 160 _ _ rfl) (by rfl) (hat 161 rfl ?_)
        refine h_getR c (hd 80 161 _ _ rfl) fgX12_42 gnX12_42_114 (hat 164 rfl ?_)
        refine h_aln c (hd 81 164 _ _ rfl) (by rfl) (hat 165 rfl ?_)
        refine h_getI c (hd 82 165 _ _ rfl) fgX12_233 gnX12_233_114 (x := F 114 29) (rfl) (hat 168 rfl ?_)
        refine h_iald c (hd 83 168 _ _ rfl) la_80 ⟨by omega, by omega⟩ rfl (x := F 80 ((F 114 29).toInt.toNat)) (rfl) (hat 169 rfl ?_)
        refine h_ic c (hd 84 169 _ _ rfl) (by decide) (fun v169 e169 => hat 170 rfl ?_)
        refine h_callS c (M' := q684_M) (q684_met hG) (by decide +kernel) (by decide +kernel) (wlkS (lkX12_251 hG) _ rfl rfl) (hd 85 170 _ _ rfl) [.int (F 80 ((F 114 29).toInt.toNat)), .int v169] (rest := []) (by rfl) ⟨⟨_, rfl, rf_in_top _, trivial⟩, ⟨_, rfl, rf_in_top _, trivial⟩, trivial⟩ (Nat.le_of_ble_eq_true rfl) (fun q hq => absurd hq List.not_mem_nil) (fun rv170 F170 fr170 rr170 pp170 sm_ => hat 173 rfl ?_)
        have e_ := (sm_ rfl).symm
        subst e_
        obtain ⟨k_, hk_, pp170⟩ := pp170
        rcases hm2 hk_ with rfl | rfl
        · skip
          obtain ⟨x170, hrv_, hx170⟩ := hk_val pp170
          subst hrv_
          have hx170 : 1 ≤ x170.toInt ∧ x170.toInt ≤ 1 := ⟨hx170.1, hx170.2.1⟩
          refine h_if c (hd 86 173 _ _ rfl) (tgt := 180) (by decide) (fun (h173 : x170.toInt = 0) => ?_) (fun (h173 : ¬ (x170.toInt = 0)) => hat 176 rfl ?_)
          · skip
            refine h_ic c (hd 89 180 _ _ rfl) (by decide) (fun v180 e180 => hat 181 rfl ?_)
            exact h_zret c (hd 90 181 _ _ rfl) rfl (by omega) ⟨_, rfl, by omega, by omega, (fun a_ b_ => absurd b_ hyn)⟩
          · skip
            refine h_ic c (hd 87 176 _ _ rfl) (by decide) (fun v176 e176 => hat 177 rfl ?_)
            refine h_goto c (hd 88 177 _ _ rfl) (tgt := 181) (by decide) ?_
            exact h_zret c (hd 90 181 _ _ rfl) rfl (by omega) ⟨_, rfl, by omega, by omega, (fun a_ b_ => absurd b_ hyn)⟩
        · skip
          obtain ⟨x170, hrv_, hx170⟩ := hk_val pp170
          subst hrv_
          have hx170 : 0 ≤ x170.toInt ∧ x170.toInt ≤ 0 := ⟨hx170.1, hx170.2.1⟩
          refine h_if c (hd 86 173 _ _ rfl) (tgt := 180) (by decide) (fun (h173 : x170.toInt = 0) => ?_) (fun (h173 : ¬ (x170.toInt = 0)) => hat 176 rfl ?_)
          · skip
            refine h_ic c (hd 89 180 _ _ rfl) (by decide) (fun v180 e180 => hat 181 rfl ?_)
            exact h_zret c (hd 90 181 _ _ rfl) rfl (by omega) ⟨_, rfl, by omega, by omega, (fun a_ b_ => absurd b_ hyn)⟩
          · skip
            refine h_ic c (hd 87 176 _ _ rfl) (by decide) (fun v176 e176 => hat 177 rfl ?_)
            refine h_goto c (hd 88 177 _ _ rfl) (tgt := 181) (by decide) ?_
            exact h_zret c (hd 90 181 _ _ rfl) rfl (by omega) ⟨_, rfl, by omega, by omega, (fun a_ b_ => absurd b_ hyn)⟩
  have R126 : y ≠ (Int64.ofInt 2003792484) → hW G X hM_isFull w0 126 [(0, .ref (G.2.1.1 114))] [] F := by
    intro hyn
    refine h_aln c (hd 63 126 _ _ rfl) (by rfl) (hat 127 rfl ?_)
    refine h_ldc2v c (wlcT hG lcokX12) (hd 64 127 _ _ rfl) (n := 495740088435) (by rfl) (hat 130 rfl ?_)
    refine h_callV c (M' := q1212_M) (q1212_met hG) (by decide +kernel) (by decide +kernel) (wlkV (lkX12_248 hG) _ rfl rfl) (j := 114) (by decide +kernel) (hd 65 130 _ _ rfl) [.long (Int64.ofInt 495740088435)] (rest := []) (by rfl) ⟨⟨114, by decide, rfl⟩, ⟨_, rfl⟩, trivial⟩ (Nat.le_of_ble_eq_true rfl) (fun q hq => absurd hq List.not_mem_nil) (fun rv130 F130 fr130 rr130 pp130 sm_ => hat 133 rfl ?_)
    have e_ := (sm_ rfl).symm
    subst e_
    obtain ⟨k_, hk_, pp130⟩ := pp130
    rcases hm2 hk_ with rfl | rfl
    · skip
      obtain ⟨x130, hrv_, hx130⟩ := hk_val pp130
      subst hrv_
      have hx130 : 1 ≤ x130.toInt ∧ x130.toInt ≤ 1 := ⟨hx130.1, hx130.2.1⟩
      have gf130_0 : 3 ≤ (F 114 8).toInt ∧ (F 114 8).toInt ≤ 3 := ⟨(hk_fact pp130 0 rfl).1.1, (hk_fact pp130 0 rfl).1.2.1⟩
      refine h_if c (hd 66 133 _ _ rfl) (tgt := 150) (by decide) (fun (h133 : x130.toInt = 0) => ?_) (fun (h133 : ¬ (x130.toInt = 0)) => hat 136 rfl ?_)
      · skip
        exact R150 hyn
      · skip
        refine h_aln c (hd 67 136 _ _ rfl) (by rfl) (hat 137 rfl ?_)
        refine h_getR c (hd 68 137 _ _ rfl) fgX12_42 gnX12_42_114 (hat 140 rfl ?_)
        refine h_aln c (hd 69 140 _ _ rfl) (by rfl) (hat 141 rfl ?_)
        refine h_getI c (hd 70 141 _ _ rfl) fgX12_233 gnX12_233_114 (x := F 114 29) (rfl) (hat 144 rfl ?_)
        refine h_iald c (hd 71 144 _ _ rfl) la_80 ⟨by omega, by omega⟩ rfl (x := F 80 ((F 114 29).toInt.toNat)) (rfl) (hat 145 rfl ?_)
        refine h_ic c (hd 72 145 _ _ rfl) (by decide) (fun v145 e145 => hat 146 rfl ?_)
        refine h_callS c (M' := q684_M) (q684_met hG) (by decide +kernel) (by decide +kernel) (wlkS (lkX12_251 hG) _ rfl rfl) (hd 73 146 _ _ rfl) [.int (F 80 ((F 114 29).toInt.toNat)), .int v145] (rest := []) (by rfl) ⟨⟨_, rfl, rf_in_top _, trivial⟩, ⟨_, rfl, rf_in_top _, trivial⟩, trivial⟩ (Nat.le_of_ble_eq_true rfl) (fun q hq => absurd hq List.not_mem_nil) (fun rv146 F146 fr146 rr146 pp146 sm_ => hat 149 rfl ?_)
        have e_ := (sm_ rfl).symm
        subst e_
        obtain ⟨k_, hk_, pp146⟩ := pp146
        rcases hm2 hk_ with rfl | rfl
        · skip
          obtain ⟨x146, hrv_, hx146⟩ := hk_val pp146
          subst hrv_
          have hx146 : 1 ≤ x146.toInt ∧ x146.toInt ≤ 1 := ⟨hx146.1, hx146.2.1⟩
          exact h_zret c (hd 74 149 _ _ rfl) rfl (by omega) ⟨_, rfl, by omega, by omega, (fun a_ b_ => absurd b_ hyn)⟩
        · skip
          obtain ⟨x146, hrv_, hx146⟩ := hk_val pp146
          subst hrv_
          have hx146 : 0 ≤ x146.toInt ∧ x146.toInt ≤ 0 := ⟨hx146.1, hx146.2.1⟩
          exact h_zret c (hd 74 149 _ _ rfl) rfl (by omega) ⟨_, rfl, by omega, by omega, (fun a_ b_ => absurd b_ hyn)⟩
    · skip
      obtain ⟨x130, hrv_, hx130⟩ := hk_val pp130
      subst hrv_
      have hx130 : 0 ≤ x130.toInt ∧ x130.toInt ≤ 0 := ⟨hx130.1, hx130.2.1⟩
      refine h_if c (hd 66 133 _ _ rfl) (tgt := 150) (by decide) (fun (h133 : x130.toInt = 0) => ?_) (fun (h133 : ¬ (x130.toInt = 0)) => hat 136 rfl ?_)
      · skip
        exact R150 hyn
      · skip
        refine h_aln c (hd 67 136 _ _ rfl) (by rfl) (hat 137 rfl ?_)
        refine h_getR c (hd 68 137 _ _ rfl) fgX12_42 gnX12_42_114 (hat 140 rfl ?_)
        refine h_aln c (hd 69 140 _ _ rfl) (by rfl) (hat 141 rfl ?_)
        refine h_getI c (hd 70 141 _ _ rfl) fgX12_233 gnX12_233_114 (x := F 114 29) (rfl) (hat 144 rfl ?_)
        refine h_iald c (hd 71 144 _ _ rfl) la_80 ⟨by omega, by omega⟩ rfl (x := F 80 ((F 114 29).toInt.toNat)) (rfl) (hat 145 rfl ?_)
        refine h_ic c (hd 72 145 _ _ rfl) (by decide) (fun v145 e145 => hat 146 rfl ?_)
        refine h_callS c (M' := q684_M) (q684_met hG) (by decide +kernel) (by decide +kernel) (wlkS (lkX12_251 hG) _ rfl rfl) (hd 73 146 _ _ rfl) [.int (F 80 ((F 114 29).toInt.toNat)), .int v145] (rest := []) (by rfl) ⟨⟨_, rfl, rf_in_top _, trivial⟩, ⟨_, rfl, rf_in_top _, trivial⟩, trivial⟩ (Nat.le_of_ble_eq_true rfl) (fun q hq => absurd hq List.not_mem_nil) (fun rv146 F146 fr146 rr146 pp146 sm_ => hat 149 rfl ?_)
        have e_ := (sm_ rfl).symm
        subst e_
        obtain ⟨k_, hk_, pp146⟩ := pp146
        rcases hm2 hk_ with rfl | rfl
        · skip
          obtain ⟨x146, hrv_, hx146⟩ := hk_val pp146
          subst hrv_
          have hx146 : 1 ≤ x146.toInt ∧ x146.toInt ≤ 1 := ⟨hx146.1, hx146.2.1⟩
          exact h_zret c (hd 74 149 _ _ rfl) rfl (by omega) ⟨_, rfl, by omega, by omega, (fun a_ b_ => absurd b_ hyn)⟩
        · skip
          obtain ⟨x146, hrv_, hx146⟩ := hk_val pp146
          subst hrv_
          have hx146 : 0 ≤ x146.toInt ∧ x146.toInt ≤ 0 := ⟨hx146.1, hx146.2.1⟩
          exact h_zret c (hd 74 149 _ _ rfl) rfl (by omega) ⟨_, rfl, by omega, by omega, (fun a_ b_ => absurd b_ hyn)⟩
  have R102 : y ≠ (Int64.ofInt 2003792484) → hW G X hM_isFull w0 102 [(0, .ref (G.2.1.1 114))] [] F := by
    intro hyn
    refine h_aln c (hd 51 102 _ _ rfl) (by rfl) (hat 103 rfl ?_)
    refine h_ldc2v c (wlcT hG lcokX12) (hd 52 103 _ _ rfl) (n := 27713617581667443) (by rfl) (hat 106 rfl ?_)
    refine h_callV c (M' := q1212_M) (q1212_met hG) (by decide +kernel) (by decide +kernel) (wlkV (lkX12_248 hG) _ rfl rfl) (j := 114) (by decide +kernel) (hd 53 106 _ _ rfl) [.long (Int64.ofInt 27713617581667443)] (rest := []) (by rfl) ⟨⟨114, by decide, rfl⟩, ⟨_, rfl⟩, trivial⟩ (Nat.le_of_ble_eq_true rfl) (fun q hq => absurd hq List.not_mem_nil) (fun rv106 F106 fr106 rr106 pp106 sm_ => hat 109 rfl ?_)
    have e_ := (sm_ rfl).symm
    subst e_
    obtain ⟨k_, hk_, pp106⟩ := pp106
    rcases hm2 hk_ with rfl | rfl
    · skip
      obtain ⟨x106, hrv_, hx106⟩ := hk_val pp106
      subst hrv_
      have hx106 : 1 ≤ x106.toInt ∧ x106.toInt ≤ 1 := ⟨hx106.1, hx106.2.1⟩
      have gf106_0 : 3 ≤ (F 114 8).toInt ∧ (F 114 8).toInt ≤ 3 := ⟨(hk_fact pp106 0 rfl).1.1, (hk_fact pp106 0 rfl).1.2.1⟩
      refine h_if c (hd 54 109 _ _ rfl) (tgt := 126) (by decide) (fun (h109 : x106.toInt = 0) => ?_) (fun (h109 : ¬ (x106.toInt = 0)) => hat 112 rfl ?_)
      · skip
        exact R126 hyn
      · skip
        refine h_aln c (hd 55 112 _ _ rfl) (by rfl) (hat 113 rfl ?_)
        refine h_getR c (hd 56 113 _ _ rfl) fgX12_42 gnX12_42_114 (hat 116 rfl ?_)
        refine h_aln c (hd 57 116 _ _ rfl) (by rfl) (hat 117 rfl ?_)
        refine h_getI c (hd 58 117 _ _ rfl) fgX12_233 gnX12_233_114 (x := F 114 29) (rfl) (hat 120 rfl ?_)
        refine h_iald c (hd 59 120 _ _ rfl) la_80 ⟨by omega, by omega⟩ rfl (x := F 80 ((F 114 29).toInt.toNat)) (rfl) (hat 121 rfl ?_)
        refine h_ic c (hd 60 121 _ _ rfl) (by decide) (fun v121 e121 => hat 122 rfl ?_)
        refine h_callS c (M' := q684_M) (q684_met hG) (by decide +kernel) (by decide +kernel) (wlkS (lkX12_251 hG) _ rfl rfl) (hd 61 122 _ _ rfl) [.int (F 80 ((F 114 29).toInt.toNat)), .int v121] (rest := []) (by rfl) ⟨⟨_, rfl, rf_in_top _, trivial⟩, ⟨_, rfl, rf_in_top _, trivial⟩, trivial⟩ (Nat.le_of_ble_eq_true rfl) (fun q hq => absurd hq List.not_mem_nil) (fun rv122 F122 fr122 rr122 pp122 sm_ => hat 125 rfl ?_)
        have e_ := (sm_ rfl).symm
        subst e_
        obtain ⟨k_, hk_, pp122⟩ := pp122
        rcases hm2 hk_ with rfl | rfl
        · skip
          obtain ⟨x122, hrv_, hx122⟩ := hk_val pp122
          subst hrv_
          have hx122 : 1 ≤ x122.toInt ∧ x122.toInt ≤ 1 := ⟨hx122.1, hx122.2.1⟩
          exact h_zret c (hd 62 125 _ _ rfl) rfl (by omega) ⟨_, rfl, by omega, by omega, (fun a_ b_ => absurd b_ hyn)⟩
        · skip
          obtain ⟨x122, hrv_, hx122⟩ := hk_val pp122
          subst hrv_
          have hx122 : 0 ≤ x122.toInt ∧ x122.toInt ≤ 0 := ⟨hx122.1, hx122.2.1⟩
          exact h_zret c (hd 62 125 _ _ rfl) rfl (by omega) ⟨_, rfl, by omega, by omega, (fun a_ b_ => absurd b_ hyn)⟩
    · skip
      obtain ⟨x106, hrv_, hx106⟩ := hk_val pp106
      subst hrv_
      have hx106 : 0 ≤ x106.toInt ∧ x106.toInt ≤ 0 := ⟨hx106.1, hx106.2.1⟩
      refine h_if c (hd 54 109 _ _ rfl) (tgt := 126) (by decide) (fun (h109 : x106.toInt = 0) => ?_) (fun (h109 : ¬ (x106.toInt = 0)) => hat 112 rfl ?_)
      · skip
        exact R126 hyn
      · skip
        refine h_aln c (hd 55 112 _ _ rfl) (by rfl) (hat 113 rfl ?_)
        refine h_getR c (hd 56 113 _ _ rfl) fgX12_42 gnX12_42_114 (hat 116 rfl ?_)
        refine h_aln c (hd 57 116 _ _ rfl) (by rfl) (hat 117 rfl ?_)
        refine h_getI c (hd 58 117 _ _ rfl) fgX12_233 gnX12_233_114 (x := F 114 29) (rfl) (hat 120 rfl ?_)
        refine h_iald c (hd 59 120 _ _ rfl) la_80 ⟨by omega, by omega⟩ rfl (x := F 80 ((F 114 29).toInt.toNat)) (rfl) (hat 121 rfl ?_)
        refine h_ic c (hd 60 121 _ _ rfl) (by decide) (fun v121 e121 => hat 122 rfl ?_)
        refine h_callS c (M' := q684_M) (q684_met hG) (by decide +kernel) (by decide +kernel) (wlkS (lkX12_251 hG) _ rfl rfl) (hd 61 122 _ _ rfl) [.int (F 80 ((F 114 29).toInt.toNat)), .int v121] (rest := []) (by rfl) ⟨⟨_, rfl, rf_in_top _, trivial⟩, ⟨_, rfl, rf_in_top _, trivial⟩, trivial⟩ (Nat.le_of_ble_eq_true rfl) (fun q hq => absurd hq List.not_mem_nil) (fun rv122 F122 fr122 rr122 pp122 sm_ => hat 125 rfl ?_)
        have e_ := (sm_ rfl).symm
        subst e_
        obtain ⟨k_, hk_, pp122⟩ := pp122
        rcases hm2 hk_ with rfl | rfl
        · skip
          obtain ⟨x122, hrv_, hx122⟩ := hk_val pp122
          subst hrv_
          have hx122 : 1 ≤ x122.toInt ∧ x122.toInt ≤ 1 := ⟨hx122.1, hx122.2.1⟩
          exact h_zret c (hd 62 125 _ _ rfl) rfl (by omega) ⟨_, rfl, by omega, by omega, (fun a_ b_ => absurd b_ hyn)⟩
        · skip
          obtain ⟨x122, hrv_, hx122⟩ := hk_val pp122
          subst hrv_
          have hx122 : 0 ≤ x122.toInt ∧ x122.toInt ≤ 0 := ⟨hx122.1, hx122.2.1⟩
          exact h_zret c (hd 62 125 _ _ rfl) rfl (by omega) ⟨_, rfl, by omega, by omega, (fun a_ b_ => absurd b_ hyn)⟩
  have R78 : y ≠ (Int64.ofInt 2003792484) → hW G X hM_isFull w0 78 [(0, .ref (G.2.1.1 114))] [] F := by
    intro hyn
    refine h_aln c (hd 39 78 _ _ rfl) (by rfl) (hat 79 rfl ?_)
    refine h_ldc2v c (wlcT hG lcokX12) (hd 40 79 _ _ rfl) (n := 1751217000) (by rfl) (hat 82 rfl ?_)
    refine h_callV c (M' := q1212_M) (q1212_met hG) (by decide +kernel) (by decide +kernel) (wlkV (lkX12_248 hG) _ rfl rfl) (j := 114) (by decide +kernel) (hd 41 82 _ _ rfl) [.long (Int64.ofInt 1751217000)] (rest := []) (by rfl) ⟨⟨114, by decide, rfl⟩, ⟨_, rfl⟩, trivial⟩ (Nat.le_of_ble_eq_true rfl) (fun q hq => absurd hq List.not_mem_nil) (fun rv82 F82 fr82 rr82 pp82 sm_ => hat 85 rfl ?_)
    have e_ := (sm_ rfl).symm
    subst e_
    obtain ⟨k_, hk_, pp82⟩ := pp82
    rcases hm2 hk_ with rfl | rfl
    · skip
      obtain ⟨x82, hrv_, hx82⟩ := hk_val pp82
      subst hrv_
      have hx82 : 1 ≤ x82.toInt ∧ x82.toInt ≤ 1 := ⟨hx82.1, hx82.2.1⟩
      have gf82_0 : 3 ≤ (F 114 8).toInt ∧ (F 114 8).toInt ≤ 3 := ⟨(hk_fact pp82 0 rfl).1.1, (hk_fact pp82 0 rfl).1.2.1⟩
      refine h_if c (hd 42 85 _ _ rfl) (tgt := 102) (by decide) (fun (h85 : x82.toInt = 0) => ?_) (fun (h85 : ¬ (x82.toInt = 0)) => hat 88 rfl ?_)
      · skip
        exact R102 hyn
      · skip
        refine h_aln c (hd 43 88 _ _ rfl) (by rfl) (hat 89 rfl ?_)
        refine h_getR c (hd 44 89 _ _ rfl) fgX12_42 gnX12_42_114 (hat 92 rfl ?_)
        refine h_aln c (hd 45 92 _ _ rfl) (by rfl) (hat 93 rfl ?_)
        refine h_getI c (hd 46 93 _ _ rfl) fgX12_233 gnX12_233_114 (x := F 114 29) (rfl) (hat 96 rfl ?_)
        refine h_iald c (hd 47 96 _ _ rfl) la_80 ⟨by omega, by omega⟩ rfl (x := F 80 ((F 114 29).toInt.toNat)) (rfl) (hat 97 rfl ?_)
        refine h_ic c (hd 48 97 _ _ rfl) (by decide) (fun v97 e97 => hat 98 rfl ?_)
        refine h_callS c (M' := q684_M) (q684_met hG) (by decide +kernel) (by decide +kernel) (wlkS (lkX12_251 hG) _ rfl rfl) (hd 49 98 _ _ rfl) [.int (F 80 ((F 114 29).toInt.toNat)), .int v97] (rest := []) (by rfl) ⟨⟨_, rfl, rf_in_top _, trivial⟩, ⟨_, rfl, rf_in_top _, trivial⟩, trivial⟩ (Nat.le_of_ble_eq_true rfl) (fun q hq => absurd hq List.not_mem_nil) (fun rv98 F98 fr98 rr98 pp98 sm_ => hat 101 rfl ?_)
        have e_ := (sm_ rfl).symm
        subst e_
        obtain ⟨k_, hk_, pp98⟩ := pp98
        rcases hm2 hk_ with rfl | rfl
        · skip
          obtain ⟨x98, hrv_, hx98⟩ := hk_val pp98
          subst hrv_
          have hx98 : 1 ≤ x98.toInt ∧ x98.toInt ≤ 1 := ⟨hx98.1, hx98.2.1⟩
          exact h_zret c (hd 50 101 _ _ rfl) rfl (by omega) ⟨_, rfl, by omega, by omega, (fun a_ b_ => absurd b_ hyn)⟩
        · skip
          obtain ⟨x98, hrv_, hx98⟩ := hk_val pp98
          subst hrv_
          have hx98 : 0 ≤ x98.toInt ∧ x98.toInt ≤ 0 := ⟨hx98.1, hx98.2.1⟩
          exact h_zret c (hd 50 101 _ _ rfl) rfl (by omega) ⟨_, rfl, by omega, by omega, (fun a_ b_ => absurd b_ hyn)⟩
    · skip
      obtain ⟨x82, hrv_, hx82⟩ := hk_val pp82
      subst hrv_
      have hx82 : 0 ≤ x82.toInt ∧ x82.toInt ≤ 0 := ⟨hx82.1, hx82.2.1⟩
      refine h_if c (hd 42 85 _ _ rfl) (tgt := 102) (by decide) (fun (h85 : x82.toInt = 0) => ?_) (fun (h85 : ¬ (x82.toInt = 0)) => hat 88 rfl ?_)
      · skip
        exact R102 hyn
      · skip
        refine h_aln c (hd 43 88 _ _ rfl) (by rfl) (hat 89 rfl ?_)
        refine h_getR c (hd 44 89 _ _ rfl) fgX12_42 gnX12_42_114 (hat 92 rfl ?_)
        refine h_aln c (hd 45 92 _ _ rfl) (by rfl) (hat 93 rfl ?_)
        refine h_getI c (hd 46 93 _ _ rfl) fgX12_233 gnX12_233_114 (x := F 114 29) (rfl) (hat 96 rfl ?_)
        refine h_iald c (hd 47 96 _ _ rfl) la_80 ⟨by omega, by omega⟩ rfl (x := F 80 ((F 114 29).toInt.toNat)) (rfl) (hat 97 rfl ?_)
        refine h_ic c (hd 48 97 _ _ rfl) (by decide) (fun v97 e97 => hat 98 rfl ?_)
        refine h_callS c (M' := q684_M) (q684_met hG) (by decide +kernel) (by decide +kernel) (wlkS (lkX12_251 hG) _ rfl rfl) (hd 49 98 _ _ rfl) [.int (F 80 ((F 114 29).toInt.toNat)), .int v97] (rest := []) (by rfl) ⟨⟨_, rfl, rf_in_top _, trivial⟩, ⟨_, rfl, rf_in_top _, trivial⟩, trivial⟩ (Nat.le_of_ble_eq_true rfl) (fun q hq => absurd hq List.not_mem_nil) (fun rv98 F98 fr98 rr98 pp98 sm_ => hat 101 rfl ?_)
        have e_ := (sm_ rfl).symm
        subst e_
        obtain ⟨k_, hk_, pp98⟩ := pp98
        rcases hm2 hk_ with rfl | rfl
        · skip
          obtain ⟨x98, hrv_, hx98⟩ := hk_val pp98
          subst hrv_
          have hx98 : 1 ≤ x98.toInt ∧ x98.toInt ≤ 1 := ⟨hx98.1, hx98.2.1⟩
          exact h_zret c (hd 50 101 _ _ rfl) rfl (by omega) ⟨_, rfl, by omega, by omega, (fun a_ b_ => absurd b_ hyn)⟩
        · skip
          obtain ⟨x98, hrv_, hx98⟩ := hk_val pp98
          subst hrv_
          have hx98 : 0 ≤ x98.toInt ∧ x98.toInt ≤ 0 := ⟨hx98.1, hx98.2.1⟩
          exact h_zret c (hd 50 101 _ _ rfl) rfl (by omega) ⟨_, rfl, by omega, by omega, (fun a_ b_ => absurd b_ hyn)⟩
  have R54 : y ≠ (Int64.ofInt 2003792484) → hW G X hM_isFull w0 54 [(0, .ref (G.2.1.1 114))] [] F := by
    intro hyn
    refine h_aln c (hd 27 54 _ _ rfl) (by rfl) (hat 55 rfl ?_)
    refine h_ldc2v c (wlcT hG lcokX12) (hd 28 55 _ _ rfl) (n := 111542220583539) (by rfl) (hat 58 rfl ?_)
    refine h_callV c (M' := q1212_M) (q1212_met hG) (by decide +kernel) (by decide +kernel) (wlkV (lkX12_248 hG) _ rfl rfl) (j := 114) (by decide +kernel) (hd 29 58 _ _ rfl) [.long (Int64.ofInt 111542220583539)] (rest := []) (by rfl) ⟨⟨114, by decide, rfl⟩, ⟨_, rfl⟩, trivial⟩ (Nat.le_of_ble_eq_true rfl) (fun q hq => absurd hq List.not_mem_nil) (fun rv58 F58 fr58 rr58 pp58 sm_ => hat 61 rfl ?_)
    have e_ := (sm_ rfl).symm
    subst e_
    obtain ⟨k_, hk_, pp58⟩ := pp58
    rcases hm2 hk_ with rfl | rfl
    · skip
      obtain ⟨x58, hrv_, hx58⟩ := hk_val pp58
      subst hrv_
      have hx58 : 1 ≤ x58.toInt ∧ x58.toInt ≤ 1 := ⟨hx58.1, hx58.2.1⟩
      have gf58_0 : 3 ≤ (F 114 8).toInt ∧ (F 114 8).toInt ≤ 3 := ⟨(hk_fact pp58 0 rfl).1.1, (hk_fact pp58 0 rfl).1.2.1⟩
      refine h_if c (hd 30 61 _ _ rfl) (tgt := 78) (by decide) (fun (h61 : x58.toInt = 0) => ?_) (fun (h61 : ¬ (x58.toInt = 0)) => hat 64 rfl ?_)
      · skip
        exact R78 hyn
      · skip
        refine h_aln c (hd 31 64 _ _ rfl) (by rfl) (hat 65 rfl ?_)
        refine h_getR c (hd 32 65 _ _ rfl) fgX12_42 gnX12_42_114 (hat 68 rfl ?_)
        refine h_aln c (hd 33 68 _ _ rfl) (by rfl) (hat 69 rfl ?_)
        refine h_getI c (hd 34 69 _ _ rfl) fgX12_233 gnX12_233_114 (x := F 114 29) (rfl) (hat 72 rfl ?_)
        refine h_iald c (hd 35 72 _ _ rfl) la_80 ⟨by omega, by omega⟩ rfl (x := F 80 ((F 114 29).toInt.toNat)) (rfl) (hat 73 rfl ?_)
        refine h_ic c (hd 36 73 _ _ rfl) (by decide) (fun v73 e73 => hat 74 rfl ?_)
        refine h_callS c (M' := q684_M) (q684_met hG) (by decide +kernel) (by decide +kernel) (wlkS (lkX12_251 hG) _ rfl rfl) (hd 37 74 _ _ rfl) [.int (F 80 ((F 114 29).toInt.toNat)), .int v73] (rest := []) (by rfl) ⟨⟨_, rfl, rf_in_top _, trivial⟩, ⟨_, rfl, rf_in_top _, trivial⟩, trivial⟩ (Nat.le_of_ble_eq_true rfl) (fun q hq => absurd hq List.not_mem_nil) (fun rv74 F74 fr74 rr74 pp74 sm_ => hat 77 rfl ?_)
        have e_ := (sm_ rfl).symm
        subst e_
        obtain ⟨k_, hk_, pp74⟩ := pp74
        rcases hm2 hk_ with rfl | rfl
        · skip
          obtain ⟨x74, hrv_, hx74⟩ := hk_val pp74
          subst hrv_
          have hx74 : 1 ≤ x74.toInt ∧ x74.toInt ≤ 1 := ⟨hx74.1, hx74.2.1⟩
          exact h_zret c (hd 38 77 _ _ rfl) rfl (by omega) ⟨_, rfl, by omega, by omega, (fun a_ b_ => absurd b_ hyn)⟩
        · skip
          obtain ⟨x74, hrv_, hx74⟩ := hk_val pp74
          subst hrv_
          have hx74 : 0 ≤ x74.toInt ∧ x74.toInt ≤ 0 := ⟨hx74.1, hx74.2.1⟩
          exact h_zret c (hd 38 77 _ _ rfl) rfl (by omega) ⟨_, rfl, by omega, by omega, (fun a_ b_ => absurd b_ hyn)⟩
    · skip
      obtain ⟨x58, hrv_, hx58⟩ := hk_val pp58
      subst hrv_
      have hx58 : 0 ≤ x58.toInt ∧ x58.toInt ≤ 0 := ⟨hx58.1, hx58.2.1⟩
      refine h_if c (hd 30 61 _ _ rfl) (tgt := 78) (by decide) (fun (h61 : x58.toInt = 0) => ?_) (fun (h61 : ¬ (x58.toInt = 0)) => hat 64 rfl ?_)
      · skip
        exact R78 hyn
      · skip
        refine h_aln c (hd 31 64 _ _ rfl) (by rfl) (hat 65 rfl ?_)
        refine h_getR c (hd 32 65 _ _ rfl) fgX12_42 gnX12_42_114 (hat 68 rfl ?_)
        refine h_aln c (hd 33 68 _ _ rfl) (by rfl) (hat 69 rfl ?_)
        refine h_getI c (hd 34 69 _ _ rfl) fgX12_233 gnX12_233_114 (x := F 114 29) (rfl) (hat 72 rfl ?_)
        refine h_iald c (hd 35 72 _ _ rfl) la_80 ⟨by omega, by omega⟩ rfl (x := F 80 ((F 114 29).toInt.toNat)) (rfl) (hat 73 rfl ?_)
        refine h_ic c (hd 36 73 _ _ rfl) (by decide) (fun v73 e73 => hat 74 rfl ?_)
        refine h_callS c (M' := q684_M) (q684_met hG) (by decide +kernel) (by decide +kernel) (wlkS (lkX12_251 hG) _ rfl rfl) (hd 37 74 _ _ rfl) [.int (F 80 ((F 114 29).toInt.toNat)), .int v73] (rest := []) (by rfl) ⟨⟨_, rfl, rf_in_top _, trivial⟩, ⟨_, rfl, rf_in_top _, trivial⟩, trivial⟩ (Nat.le_of_ble_eq_true rfl) (fun q hq => absurd hq List.not_mem_nil) (fun rv74 F74 fr74 rr74 pp74 sm_ => hat 77 rfl ?_)
        have e_ := (sm_ rfl).symm
        subst e_
        obtain ⟨k_, hk_, pp74⟩ := pp74
        rcases hm2 hk_ with rfl | rfl
        · skip
          obtain ⟨x74, hrv_, hx74⟩ := hk_val pp74
          subst hrv_
          have hx74 : 1 ≤ x74.toInt ∧ x74.toInt ≤ 1 := ⟨hx74.1, hx74.2.1⟩
          exact h_zret c (hd 38 77 _ _ rfl) rfl (by omega) ⟨_, rfl, by omega, by omega, (fun a_ b_ => absurd b_ hyn)⟩
        · skip
          obtain ⟨x74, hrv_, hx74⟩ := hk_val pp74
          subst hrv_
          have hx74 : 0 ≤ x74.toInt ∧ x74.toInt ≤ 0 := ⟨hx74.1, hx74.2.1⟩
          exact h_zret c (hd 38 77 _ _ rfl) rfl (by omega) ⟨_, rfl, by omega, by omega, (fun a_ b_ => absurd b_ hyn)⟩
  have R30 : y ≠ (Int64.ofInt 2003792484) → hW G X hM_isFull w0 30 [(0, .ref (G.2.1.1 114))] [] F := by
    intro hyn
    refine h_aln c (hd 15 30 _ _ rfl) (by rfl) (hat 31 rfl ?_)
    refine h_ldc2v c (wlcT hG lcokX12) (hd 16 31 _ _ rfl) (n := 123636629793144) (by rfl) (hat 34 rfl ?_)
    refine h_callV c (M' := q1212_M) (q1212_met hG) (by decide +kernel) (by decide +kernel) (wlkV (lkX12_248 hG) _ rfl rfl) (j := 114) (by decide +kernel) (hd 17 34 _ _ rfl) [.long (Int64.ofInt 123636629793144)] (rest := []) (by rfl) ⟨⟨114, by decide, rfl⟩, ⟨_, rfl⟩, trivial⟩ (Nat.le_of_ble_eq_true rfl) (fun q hq => absurd hq List.not_mem_nil) (fun rv34 F34 fr34 rr34 pp34 sm_ => hat 37 rfl ?_)
    have e_ := (sm_ rfl).symm
    subst e_
    obtain ⟨k_, hk_, pp34⟩ := pp34
    rcases hm2 hk_ with rfl | rfl
    · skip
      obtain ⟨x34, hrv_, hx34⟩ := hk_val pp34
      subst hrv_
      have hx34 : 1 ≤ x34.toInt ∧ x34.toInt ≤ 1 := ⟨hx34.1, hx34.2.1⟩
      have gf34_0 : 3 ≤ (F 114 8).toInt ∧ (F 114 8).toInt ≤ 3 := ⟨(hk_fact pp34 0 rfl).1.1, (hk_fact pp34 0 rfl).1.2.1⟩
      refine h_if c (hd 18 37 _ _ rfl) (tgt := 54) (by decide) (fun (h37 : x34.toInt = 0) => ?_) (fun (h37 : ¬ (x34.toInt = 0)) => hat 40 rfl ?_)
      · skip
        exact R54 hyn
      · skip
        refine h_aln c (hd 19 40 _ _ rfl) (by rfl) (hat 41 rfl ?_)
        refine h_getR c (hd 20 41 _ _ rfl) fgX12_42 gnX12_42_114 (hat 44 rfl ?_)
        refine h_aln c (hd 21 44 _ _ rfl) (by rfl) (hat 45 rfl ?_)
        refine h_getI c (hd 22 45 _ _ rfl) fgX12_233 gnX12_233_114 (x := F 114 29) (rfl) (hat 48 rfl ?_)
        refine h_iald c (hd 23 48 _ _ rfl) la_80 ⟨by omega, by omega⟩ rfl (x := F 80 ((F 114 29).toInt.toNat)) (rfl) (hat 49 rfl ?_)
        refine h_ic c (hd 24 49 _ _ rfl) (by decide) (fun v49 e49 => hat 50 rfl ?_)
        refine h_callS c (M' := q684_M) (q684_met hG) (by decide +kernel) (by decide +kernel) (wlkS (lkX12_251 hG) _ rfl rfl) (hd 25 50 _ _ rfl) [.int (F 80 ((F 114 29).toInt.toNat)), .int v49] (rest := []) (by rfl) ⟨⟨_, rfl, rf_in_top _, trivial⟩, ⟨_, rfl, rf_in_top _, trivial⟩, trivial⟩ (Nat.le_of_ble_eq_true rfl) (fun q hq => absurd hq List.not_mem_nil) (fun rv50 F50 fr50 rr50 pp50 sm_ => hat 53 rfl ?_)
        have e_ := (sm_ rfl).symm
        subst e_
        obtain ⟨k_, hk_, pp50⟩ := pp50
        rcases hm2 hk_ with rfl | rfl
        · skip
          obtain ⟨x50, hrv_, hx50⟩ := hk_val pp50
          subst hrv_
          have hx50 : 1 ≤ x50.toInt ∧ x50.toInt ≤ 1 := ⟨hx50.1, hx50.2.1⟩
          exact h_zret c (hd 26 53 _ _ rfl) rfl (by omega) ⟨_, rfl, by omega, by omega, (fun a_ b_ => absurd b_ hyn)⟩
        · skip
          obtain ⟨x50, hrv_, hx50⟩ := hk_val pp50
          subst hrv_
          have hx50 : 0 ≤ x50.toInt ∧ x50.toInt ≤ 0 := ⟨hx50.1, hx50.2.1⟩
          exact h_zret c (hd 26 53 _ _ rfl) rfl (by omega) ⟨_, rfl, by omega, by omega, (fun a_ b_ => absurd b_ hyn)⟩
    · skip
      obtain ⟨x34, hrv_, hx34⟩ := hk_val pp34
      subst hrv_
      have hx34 : 0 ≤ x34.toInt ∧ x34.toInt ≤ 0 := ⟨hx34.1, hx34.2.1⟩
      refine h_if c (hd 18 37 _ _ rfl) (tgt := 54) (by decide) (fun (h37 : x34.toInt = 0) => ?_) (fun (h37 : ¬ (x34.toInt = 0)) => hat 40 rfl ?_)
      · skip
        exact R54 hyn
      · skip
        refine h_aln c (hd 19 40 _ _ rfl) (by rfl) (hat 41 rfl ?_)
        refine h_getR c (hd 20 41 _ _ rfl) fgX12_42 gnX12_42_114 (hat 44 rfl ?_)
        refine h_aln c (hd 21 44 _ _ rfl) (by rfl) (hat 45 rfl ?_)
        refine h_getI c (hd 22 45 _ _ rfl) fgX12_233 gnX12_233_114 (x := F 114 29) (rfl) (hat 48 rfl ?_)
        refine h_iald c (hd 23 48 _ _ rfl) la_80 ⟨by omega, by omega⟩ rfl (x := F 80 ((F 114 29).toInt.toNat)) (rfl) (hat 49 rfl ?_)
        refine h_ic c (hd 24 49 _ _ rfl) (by decide) (fun v49 e49 => hat 50 rfl ?_)
        refine h_callS c (M' := q684_M) (q684_met hG) (by decide +kernel) (by decide +kernel) (wlkS (lkX12_251 hG) _ rfl rfl) (hd 25 50 _ _ rfl) [.int (F 80 ((F 114 29).toInt.toNat)), .int v49] (rest := []) (by rfl) ⟨⟨_, rfl, rf_in_top _, trivial⟩, ⟨_, rfl, rf_in_top _, trivial⟩, trivial⟩ (Nat.le_of_ble_eq_true rfl) (fun q hq => absurd hq List.not_mem_nil) (fun rv50 F50 fr50 rr50 pp50 sm_ => hat 53 rfl ?_)
        have e_ := (sm_ rfl).symm
        subst e_
        obtain ⟨k_, hk_, pp50⟩ := pp50
        rcases hm2 hk_ with rfl | rfl
        · skip
          obtain ⟨x50, hrv_, hx50⟩ := hk_val pp50
          subst hrv_
          have hx50 : 1 ≤ x50.toInt ∧ x50.toInt ≤ 1 := ⟨hx50.1, hx50.2.1⟩
          exact h_zret c (hd 26 53 _ _ rfl) rfl (by omega) ⟨_, rfl, by omega, by omega, (fun a_ b_ => absurd b_ hyn)⟩
        · skip
          obtain ⟨x50, hrv_, hx50⟩ := hk_val pp50
          subst hrv_
          have hx50 : 0 ≤ x50.toInt ∧ x50.toInt ≤ 0 := ⟨hx50.1, hx50.2.1⟩
          exact h_zret c (hd 26 53 _ _ rfl) rfl (by omega) ⟨_, rfl, by omega, by omega, (fun a_ b_ => absurd b_ hyn)⟩
  refine h_aln c (hd 0 0 _ _ rfl) (by rfl) (hat 1 rfl ?_)
  refine h_ldc2v c (wlcT hG lcokX12) (hd 1 1 _ _ rfl) (n := 2003792484) (by rfl) (hat 4 rfl ?_)
  refine h_callVFY c (M' := hM_isWord) (hp_isWord hG y) (h_pinY c rfl hy) (by decide +kernel) (wlkV (lkX12_248 hG) _ rfl rfl) (j := 114) (by decide +kernel) (hd 2 4 _ _ rfl) [.long (Int64.ofInt 2003792484)] (rest := []) (by rfl) ⟨⟨114, by decide, rfl⟩, ⟨_, rfl⟩, trivial⟩ (Nat.le_of_ble_eq_true rfl) trivial (fun rv4 F4 fr4 rr4 pp4 sm_ => hat 7 rfl ?_)
  have e_ := (sm_ rfl).symm
  subst e_
  obtain ⟨u_, x4, eu_, er_, hx4⟩ := pp4
  cases eu_; subst er_
  refine h_if c (hd 3 7 _ _ rfl) (tgt := 30) (by decide) (fun (h7 : x4.toInt = 0) => ?_) (fun (h7 : ¬ (x4.toInt = 0)) => hat 10 rfl ?_)
  · skip
    exact R30 (fun b_ => by rcases hx4 with h_ | h_; exact absurd h_.1 (by omega); exact h_.2 ⟨hp, b_⟩)
  · skip
    refine h_aln c (hd 4 10 _ _ rfl) (by rfl) (hat 11 rfl ?_)
    refine h_getR c (hd 5 11 _ _ rfl) fgX12_20 gnX12_20_114 (hat 14 rfl ?_)
    refine h_aln c (hd 6 14 _ _ rfl) (by rfl) (hat 15 rfl ?_)
    refine h_getI c (hd 7 15 _ _ rfl) fgX12_233 gnX12_233_114 (x := F 114 29) (rfl) (hat 18 rfl ?_)
    refine h_iald c (hd 8 18 _ _ rfl) la_73 ⟨by omega, by omega⟩ rfl (x := F 73 ((F 114 29).toInt.toNat)) (rfl) (hat 19 rfl ?_)
    refine h_bp c (hd 9 19 _ _ rfl) (by decide) (fun v19 e19 => hat 21 rfl ?_)
    refine h_cmp c (hd 10 21 _ _ rfl) (tgt := 28) (by decide) (fun (h21 : (F 73 ((F 114 29).toInt.toNat)).toInt ≠ v19.toInt) => ?_) (fun (h21 : ¬ ((F 73 ((F 114 29).toInt.toNat)).toInt ≠ v19.toInt)) => hat 24 rfl ?_)
    · skip
      refine h_ic c (hd 13 28 _ _ rfl) (by decide) (fun v28 e28 => hat 29 rfl ?_)
      exact h_zret c (hd 14 29 _ _ rfl) rfl (by omega) ⟨_, rfl, by omega, by omega, (fun a_ b_ => by omega)⟩
    · skip
      refine h_ic c (hd 11 24 _ _ rfl) (by decide) (fun v24 e24 => hat 25 rfl ?_)
      refine h_goto c (hd 12 25 _ _ rfl) (tgt := 29) (by decide) ?_
      exact h_zret c (hd 14 29 _ _ rfl) rfl (by omega) ⟨_, rfl, by omega, by omega, (fun a_ b_ => by omega)⟩
set_option maxHeartbeats 8000000 in
set_option maxRecDepth 20000 in
theorem hp_line1 {G : rfG} (hG : okG G) (hh : w1OK G) : rf_met G q754_M := by
  refine h_rfOfX hG.1 (by decide +kernel) (by decide) hG.2.2.1 (wflT hG flokX12) (wcsT hG csokX12) (by decide +kernel) ?_
  intro vs w0 X hv_ hr hp c
  match vs, hv_ with
  | [_], ⟨⟨_, hj0, rfl⟩, _⟩ =>
  cases List.mem_singleton.mp hj0
  have hd : ∀ n pc i len, ddX12_readLine[n]? = some (pc, i, len) → decode (mb q754_M) pc = .ok (i, len) := fun n pc i len h => hdk dkX12_readLine n pc i len h
  show hW G X (hpin q754_M) w0 0 [(0, .ref (G.2.1.1 114))] [] (hv w0)
  generalize hF0 : hv w0 = F at *
  obtain ⟨hp, hw_, hQ⟩ := hp
  obtain ⟨y, hy⟩ := h_longAt hw_ gnX12_202_114
  have h77 : 1 ≤ (F 77 1).toInt ∧ (F 77 1).toInt ≤ 31 := ⟨(hp _ (List.mem_of_getElem? (i := 0) rfl)).1, (hp _ (List.mem_of_getElem? (i := 0) rfl)).2.1⟩
  have hf0 : (F 114 4).toInt = 0 := by have a_ : 0 ≤ (F 114 4).toInt := (hp _ (List.mem_of_getElem? (i := 1) rfl)).1; have b_ : (F 114 4).toInt ≤ 0 := (hp _ (List.mem_of_getElem? (i := 1) rfl)).2.1; omega
  have hen : 0 ≤ (F 114 7).toInt ∧ (F 114 7).toInt ≤ 1600 := ⟨(hp _ (List.mem_of_getElem? (i := 2) rfl)).1, (hp _ (List.mem_of_getElem? (i := 2) rfl)).2.1⟩
  have h29 : (F 114 29).toInt = 1 := by have a_ : 1 ≤ (F 114 29).toInt := (hp _ (List.mem_of_getElem? (i := 4) rfl)).1; have b_ : (F 114 29).toInt ≤ 1 := (hp _ (List.mem_of_getElem? (i := 4) rfl)).2.1; omega
  have hJ : hgh F 0 = true := hk_gh (hp _ (List.mem_of_getElem? (i := 5) rfl))
  have hL1 : hgh F 1 = true := hk_gh (hp _ (List.mem_of_getElem? (i := 6) rfl))
  have hC2 : hgh F 2 = true := hk_gh (hp _ (List.mem_of_getElem? (i := 7) rfl))
  have hw10 : 0 ≤ (F 73 (F 114 29).toInt.toNat).toInt ∧ (F 73 (F 114 29).toInt.toNat).toInt ≤ 10 := hrga hr la_73 (by omega)
  have K48 : ∀ (F1 : HF), hframe [(73, 0), (81, 0), (82, 0), (114, 5), (114, 6), (114, 7), (114, 8), (114, 9), (114, 10), (114, 11), (998, 2)] F F1 → (F1 114 7).toInt ≤ 1600 → (1 ≤ (F1 114 4).toInt ∨ ((F1 114 4).toInt = 0 ∧ ((F1 114 8).toInt = 0 ∨ (F 114 7).toInt + 1 ≤ (F1 114 7).toInt))) → hW G X q754_M w0 48 [(1, .long y), (0, .ref (G.2.1.1 114))] [] F1 := by
    intro F1 fr1 hen1 hst
    refine h_know c (fun rr ff => ?_)
    have r4 : 0 ≤ (F1 114 4).toInt ∧ (F1 114 4).toInt ≤ 4 := hrg rr ly_114_4
    have r7 : 0 ≤ (F1 114 7).toInt ∧ (F1 114 7).toInt ≤ 1601 := hrg rr ly_114_7
    have r8 : 0 ≤ (F1 114 8).toInt ∧ (F1 114 8).toInt ≤ 5 := hrg rr ly_114_8
    have e77 : F1 77 1 = F 77 1 := fr1 77 1 (by decide) (by rfl)
    have e29 : F1 114 29 = F 114 29 := fr1 114 29 (by decide) (by rfl)
    have g0 : hgh F1 0 = true := hgh0_same (fun k => fr1 85 k (by decide) (by rfl)) (fun k => fr1 83 k (by decide) (by rfl)) (fun k => fr1 84 k (by decide) (by rfl)) hJ
    have g2 : hgh F1 2 = true := hgh2_same (fun k => fr1 74 k (by decide) (by rfl)) (fr1 114 30 (by decide) (by rfl)) e29 hC2
    have hvs : rf_all (rf_av G.2.1.1 G.2.1.2.1 [] []) (mA q754_M) [.ref (G.2.1.1 114)] := ⟨⟨114, by decide, rfl⟩, trivial⟩
    rcases hst with q_ | ⟨q4, qp⟩
    · exact h_anchor (n := (48,([(0,.inr (.inl [114])),(1,.inr (.inr 0))],[],[((77,1),(1,31,1),some ((77,1),0,0)),((114,4),(1,4,1),none),((114,7),(0,1600,1),none),((114,29),(1,1,0),some ((114,29),0,0)),((998,0),(1,1,0),some ((998,0),0,0)),((998,2),(1,1,0),some ((998,2),0,0))]),(241,[]),0)) c hQ hvs (q754_pok hG hh (hp_rule710 hG hh) (hp_rule711 hG hh) (hp_rule712 hG hh)) dkX12_readLine q754_ok (by decide +kernel) (by decide +kernel) 3 (by rfl) (rf_nd2 _ _) (by decide +kernel) (fun ws q hq => by rcases hm2 hq with rfl | rfl; exact ⟨_, List.mem_cons_of_mem _ List.mem_cons_self, 114, by decide, rfl⟩; exact ⟨_, List.mem_cons_self, y, rfl⟩) (fun _ => trivial) (by rw [hF0]; exact ⟨⟨rf_in1 (show 1 ≤ (F1 77 1).toInt by rw [e77]; omega) (show (F1 77 1).toInt ≤ 31 by rw [e77]; omega), show (F 77 1).toInt + 0 ≤ (F1 77 1).toInt by rw [e77]; omega, show (F1 77 1).toInt ≤ (F 77 1).toInt + 0 by rw [e77]; omega⟩, ⟨rf_in1 (show 1 ≤ (F1 114 4).toInt by omega) (show (F1 114 4).toInt ≤ 4 by omega), trivial⟩, ⟨rf_in1 (show 0 ≤ (F1 114 7).toInt by omega) (show (F1 114 7).toInt ≤ 1600 by omega), trivial⟩, ⟨hcon (x := (F1 114 29)) (by rw [e29]; omega), show (F 114 29).toInt + 0 ≤ (F1 114 29).toInt by rw [e29]; omega, show (F1 114 29).toInt ≤ (F 114 29).toInt + 0 by rw [e29]; omega⟩, ⟨hg_in g0, hgrel hJ g0⟩, ⟨hg_in g2, hgrel hC2 g2⟩, trivial⟩)
    · by_cases t0 : (F1 114 8).toInt = 0
      · exact h_anchor (n := (48,([(0,.inr (.inl [114])),(1,.inr (.inr 0))],[],[((77,1),(1,31,1),some ((77,1),0,0)),((114,4),(0,0,1),none),((114,7),(0,1600,1),none),((114,8),(0,0,1),none),((114,29),(1,1,0),some ((114,29),0,0)),((998,0),(1,1,0),some ((998,0),0,0)),((998,2),(1,1,0),some ((998,2),0,0))]),(207,[]),0)) c hQ hvs (q754_pok hG hh (hp_rule710 hG hh) (hp_rule711 hG hh) (hp_rule712 hG hh)) dkX12_readLine q754_ok (by decide +kernel) (by decide +kernel) 1 (by rfl) (rf_nd2 _ _) (by decide +kernel) (fun ws q hq => by rcases hm2 hq with rfl | rfl; exact ⟨_, List.mem_cons_of_mem _ List.mem_cons_self, 114, by decide, rfl⟩; exact ⟨_, List.mem_cons_self, y, rfl⟩) (fun _ => trivial) (by rw [hF0]; exact ⟨⟨rf_in1 (show 1 ≤ (F1 77 1).toInt by rw [e77]; omega) (show (F1 77 1).toInt ≤ 31 by rw [e77]; omega), show (F 77 1).toInt + 0 ≤ (F1 77 1).toInt by rw [e77]; omega, show (F1 77 1).toInt ≤ (F 77 1).toInt + 0 by rw [e77]; omega⟩, ⟨rf_in1 (show 0 ≤ (F1 114 4).toInt by omega) (show (F1 114 4).toInt ≤ 0 by omega), trivial⟩, ⟨rf_in1 (show 0 ≤ (F1 114 7).toInt by omega) (show (F1 114 7).toInt ≤ 1600 by omega), trivial⟩, ⟨rf_in1 (show 0 ≤ (F1 114 8).toInt by omega) (show (F1 114 8).toInt ≤ 0 by omega), trivial⟩, ⟨hcon (x := (F1 114 29)) (by rw [e29]; omega), show (F 114 29).toInt + 0 ≤ (F1 114 29).toInt by rw [e29]; omega, show (F1 114 29).toInt ≤ (F 114 29).toInt + 0 by rw [e29]; omega⟩, ⟨hg_in g0, hgrel hJ g0⟩, ⟨hg_in g2, hgrel hC2 g2⟩, trivial⟩)
      · by_cases t5 : (F1 114 8).toInt = 5
        · exact h_anchor (n := (48,([(0,.inr (.inl [114])),(1,.inr (.inr 0))],[],[((77,1),(1,31,1),some ((77,1),0,0)),((114,4),(0,0,1),none),((114,7),(1,1600,1),some ((114,7),1,4294967296)),((114,8),(5,5,1),none),((114,29),(1,1,0),some ((114,29),0,0)),((998,0),(1,1,0),some ((998,0),0,0)),((998,2),(1,1,0),some ((998,2),0,0))]),(528,[]),0)) c hQ hvs (q754_pok hG hh (hp_rule710 hG hh) (hp_rule711 hG hh) (hp_rule712 hG hh)) dkX12_readLine q754_ok (by decide +kernel) (by decide +kernel) 0 (by rfl) (rf_nd2 _ _) (by decide +kernel) (fun ws q hq => by rcases hm2 hq with rfl | rfl; exact ⟨_, List.mem_cons_of_mem _ List.mem_cons_self, 114, by decide, rfl⟩; exact ⟨_, List.mem_cons_self, y, rfl⟩) (fun _ => trivial) (by rw [hF0]; exact ⟨⟨rf_in1 (show 1 ≤ (F1 77 1).toInt by rw [e77]; omega) (show (F1 77 1).toInt ≤ 31 by rw [e77]; omega), show (F 77 1).toInt + 0 ≤ (F1 77 1).toInt by rw [e77]; omega, show (F1 77 1).toInt ≤ (F 77 1).toInt + 0 by rw [e77]; omega⟩, ⟨rf_in1 (show 0 ≤ (F1 114 4).toInt by omega) (show (F1 114 4).toInt ≤ 0 by omega), trivial⟩, ⟨rf_in1 (show 1 ≤ (F1 114 7).toInt by omega) (show (F1 114 7).toInt ≤ 1600 by omega), show (F 114 7).toInt + 1 ≤ (F1 114 7).toInt by omega, show (F1 114 7).toInt ≤ (F 114 7).toInt + 4294967296 by omega⟩, ⟨rf_in1 (show 5 ≤ (F1 114 8).toInt by omega) (show (F1 114 8).toInt ≤ 5 by omega), trivial⟩, ⟨hcon (x := (F1 114 29)) (by rw [e29]; omega), show (F 114 29).toInt + 0 ≤ (F1 114 29).toInt by rw [e29]; omega, show (F1 114 29).toInt ≤ (F 114 29).toInt + 0 by rw [e29]; omega⟩, ⟨hg_in g0, hgrel hJ g0⟩, ⟨hg_in g2, hgrel hC2 g2⟩, trivial⟩)
        · exact h_anchor (n := (48,([(0,.inr (.inl [114])),(1,.inr (.inr 0))],[],[((77,1),(1,31,1),some ((77,1),0,0)),((114,4),(0,0,1),none),((114,7),(1,1600,1),some ((114,7),1,4294967296)),((114,8),(1,4,1),none),((114,29),(1,1,0),some ((114,29),0,0)),((998,0),(1,1,0),some ((998,0),0,0)),((998,2),(1,1,0),some ((998,2),0,0))]),(555,[]),0)) c hQ hvs (q754_pok hG hh (hp_rule710 hG hh) (hp_rule711 hG hh) (hp_rule712 hG hh)) dkX12_readLine q754_ok (by decide +kernel) (by decide +kernel) 2 (by rfl) (rf_nd2 _ _) (by decide +kernel) (fun ws q hq => by rcases hm2 hq with rfl | rfl; exact ⟨_, List.mem_cons_of_mem _ List.mem_cons_self, 114, by decide, rfl⟩; exact ⟨_, List.mem_cons_self, y, rfl⟩) (fun _ => trivial) (by rw [hF0]; exact ⟨⟨rf_in1 (show 1 ≤ (F1 77 1).toInt by rw [e77]; omega) (show (F1 77 1).toInt ≤ 31 by rw [e77]; omega), show (F 77 1).toInt + 0 ≤ (F1 77 1).toInt by rw [e77]; omega, show (F1 77 1).toInt ≤ (F 77 1).toInt + 0 by rw [e77]; omega⟩, ⟨rf_in1 (show 0 ≤ (F1 114 4).toInt by omega) (show (F1 114 4).toInt ≤ 0 by omega), trivial⟩, ⟨rf_in1 (show 1 ≤ (F1 114 7).toInt by omega) (show (F1 114 7).toInt ≤ 1600 by omega), show (F 114 7).toInt + 1 ≤ (F1 114 7).toInt by omega, show (F1 114 7).toInt ≤ (F 114 7).toInt + 4294967296 by omega⟩, ⟨rf_in1 (show 1 ≤ (F1 114 8).toInt by omega) (show (F1 114 8).toInt ≤ 4 by omega), trivial⟩, ⟨hcon (x := (F1 114 29)) (by rw [e29]; omega), show (F 114 29).toInt + 0 ≤ (F1 114 29).toInt by rw [e29]; omega, show (F1 114 29).toInt ≤ (F 114 29).toInt + 0 by rw [e29]; omega⟩, ⟨hg_in g0, hgrel hJ g0⟩, ⟨hg_in g2, hgrel hC2 g2⟩, trivial⟩)
  have K32 : (y = (Int64.ofInt 2003792484) → (F 73 (F 114 29).toInt.toNat).toInt ≠ 10) → hW G X q754_M w0 32 [(1, .long y), (0, .ref (G.2.1.1 114))] [] F := by
    intro hwd
    refine h_aln c (hd 16 32 _ _ rfl) (by rfl) (hat 33 rfl ?_)
    refine h_callV c (M' := q681_M) (hp_goOn hG) (by decide +kernel) (by decide +kernel) (wlkV (lkX12_227 hG) _ rfl rfl) (j := 114) (by decide +kernel) (hd 17 33 _ _ rfl) [] (rest := []) (by rfl) ⟨⟨114, by decide, rfl⟩, trivial⟩ (Nat.le_of_ble_eq_true rfl) (fun q hq => by cases hm1 hq; exact rf_in1 (show 0 ≤ (F 114 7).toInt by omega) (show (F 114 7).toInt ≤ 1600 by omega)) (fun rv33 F33 fr33 rr33 pp33 sm_ => hat 36 rfl ?_)
    obtain ⟨k_, hk_, pp33⟩ := pp33
    rcases hm3 hk_ with rfl | rfl | rfl
    · skip
      match rv33, pp33 with
      | none, pp33 =>
      skip
      have gf33_0 : 0 ≤ (F33 114 7).toInt ∧ (F33 114 7).toInt ≤ 1600 := ⟨(hk_fact pp33 0 rfl).1.1, (hk_fact pp33 0 rfl).1.2.1⟩
      have gf33_1 : 0 ≤ (F33 114 8).toInt ∧ (F33 114 8).toInt ≤ 0 := ⟨(hk_fact pp33 1 rfl).1.1, (hk_fact pp33 1 rfl).1.2.1⟩
      have gf33_2 : hgh F33 1 = true := hk_gh (hk_fact pp33 2 rfl).1
      refine h_lln c (hd 18 36 _ _ rfl) (by rfl) (hat 37 rfl ?_)
      refine h_ldc2v c (wlcT hG lcokX12) (hd 19 37 _ _ rfl) (n := 2003792484) (by rfl) (hat 40 rfl ?_)
      refine h_lcmp c (hd 20 40 _ _ rfl) (fun v40 e40 => hat 41 rfl ?_)
      refine h_if c (hd 21 41 _ _ rfl) (tgt := 48) (by decide) (fun (h41 : v40.toInt ≠ 0) => ?_) (fun (h41 : ¬ (v40.toInt ≠ 0)) => hat 44 rfl ?_)
      · skip
        have e4_ : F33 114 4 = F 114 4 := fr33 114 4 (by decide) (by rfl)
        exact K48 _ (hframe_tr (hframe_rf [(73, 0), (81, 0), (82, 0), (114, 5), (114, 6), (114, 7), (114, 8), (114, 9), (114, 10), (114, 11), (998, 2)] F) fr33 (by decide)) (by omega) (Or.inr ⟨by rw [e4_]; exact hf0, by omega⟩)
      · skip
        refine h_aln c (hd 22 44 _ _ rfl) (by rfl) (hat 45 rfl ?_)
        refine h_callVF c (M' := hM_word) (hp_word hG hh) (by decide +kernel) (wlkV (lkX12_262 hG) _ rfl rfl) (j := 114) (by decide +kernel) (hd 23 45 _ _ rfl) [] (rest := []) (by rfl) ⟨⟨114, by decide, rfl⟩, trivial⟩ (Nat.le_of_ble_eq_true rfl) ⟨by rw [show F33 114 4 = F 114 4 from fr33 114 4 (by decide) (by rfl)]; exact hf0, by omega, gf33_2, by rw [show F33 114 29 = F 114 29 from fr33 114 29 (by decide) (by rfl), show F33 73 (F 114 29).toInt.toNat = F 73 (F 114 29).toInt.toNat from fr33 73 _ (by decide) (by rfl)]; have k_ := hwd (e40.mp (by omega)); omega⟩ (fun rv45 F45 fr45 rr45 pp45 sm_ => hat 48 rfl ?_)
        obtain ⟨er_, hen45, hx45⟩ := pp45
        subst er_
        have e4_ : F33 114 4 = F 114 4 := fr33 114 4 (by decide) (by rfl)
        exact K48 _ (hframe_tr (hframe_tr (hframe_rf [(73, 0), (81, 0), (82, 0), (114, 5), (114, 6), (114, 7), (114, 8), (114, 9), (114, 10), (114, 11), (998, 2)] F) fr33 (by decide)) fr45 (by decide)) hen45 (by rcases hx45 with h_ | h_; exact Or.inl h_; exact Or.inr ⟨h_.1, by omega⟩)
    · skip
      match rv33, pp33 with
      | none, pp33 =>
      skip
      have gf33_0 : 1 ≤ (F33 114 7).toInt ∧ (F33 114 7).toInt ≤ 1600 := ⟨(hk_fact pp33 0 rfl).1.1, (hk_fact pp33 0 rfl).1.2.1⟩
      have gr33_0 : (F 114 7).toInt + 1 ≤ (F33 114 7).toInt ∧ (F33 114 7).toInt ≤ (F 114 7).toInt + 4294967296 := (hk_fact pp33 0 rfl).2
      have gf33_1 : 5 ≤ (F33 114 8).toInt ∧ (F33 114 8).toInt ≤ 5 := ⟨(hk_fact pp33 1 rfl).1.1, (hk_fact pp33 1 rfl).1.2.1⟩
      have gf33_2 : hgh F33 1 = true := hk_gh (hk_fact pp33 2 rfl).1
      refine h_lln c (hd 18 36 _ _ rfl) (by rfl) (hat 37 rfl ?_)
      refine h_ldc2v c (wlcT hG lcokX12) (hd 19 37 _ _ rfl) (n := 2003792484) (by rfl) (hat 40 rfl ?_)
      refine h_lcmp c (hd 20 40 _ _ rfl) (fun v40 e40 => hat 41 rfl ?_)
      refine h_if c (hd 21 41 _ _ rfl) (tgt := 48) (by decide) (fun (h41 : v40.toInt ≠ 0) => ?_) (fun (h41 : ¬ (v40.toInt ≠ 0)) => hat 44 rfl ?_)
      · skip
        have e4_ : F33 114 4 = F 114 4 := fr33 114 4 (by decide) (by rfl)
        exact K48 _ (hframe_tr (hframe_rf [(73, 0), (81, 0), (82, 0), (114, 5), (114, 6), (114, 7), (114, 8), (114, 9), (114, 10), (114, 11), (998, 2)] F) fr33 (by decide)) (by omega) (Or.inr ⟨by rw [e4_]; exact hf0, by omega⟩)
      · skip
        refine h_aln c (hd 22 44 _ _ rfl) (by rfl) (hat 45 rfl ?_)
        refine h_callVF c (M' := hM_word) (hp_word hG hh) (by decide +kernel) (wlkV (lkX12_262 hG) _ rfl rfl) (j := 114) (by decide +kernel) (hd 23 45 _ _ rfl) [] (rest := []) (by rfl) ⟨⟨114, by decide, rfl⟩, trivial⟩ (Nat.le_of_ble_eq_true rfl) ⟨by rw [show F33 114 4 = F 114 4 from fr33 114 4 (by decide) (by rfl)]; exact hf0, by omega, gf33_2, by rw [show F33 114 29 = F 114 29 from fr33 114 29 (by decide) (by rfl), show F33 73 (F 114 29).toInt.toNat = F 73 (F 114 29).toInt.toNat from fr33 73 _ (by decide) (by rfl)]; have k_ := hwd (e40.mp (by omega)); omega⟩ (fun rv45 F45 fr45 rr45 pp45 sm_ => hat 48 rfl ?_)
        obtain ⟨er_, hen45, hx45⟩ := pp45
        subst er_
        have e4_ : F33 114 4 = F 114 4 := fr33 114 4 (by decide) (by rfl)
        exact K48 _ (hframe_tr (hframe_tr (hframe_rf [(73, 0), (81, 0), (82, 0), (114, 5), (114, 6), (114, 7), (114, 8), (114, 9), (114, 10), (114, 11), (998, 2)] F) fr33 (by decide)) fr45 (by decide)) hen45 (by rcases hx45 with h_ | h_; exact Or.inl h_; exact Or.inr ⟨h_.1, by omega⟩)
    · skip
      match rv33, pp33 with
      | none, pp33 =>
      skip
      have gf33_0 : 1 ≤ (F33 114 7).toInt ∧ (F33 114 7).toInt ≤ 1600 := ⟨(hk_fact pp33 0 rfl).1.1, (hk_fact pp33 0 rfl).1.2.1⟩
      have gr33_0 : (F 114 7).toInt + 1 ≤ (F33 114 7).toInt ∧ (F33 114 7).toInt ≤ (F 114 7).toInt + 4294967296 := (hk_fact pp33 0 rfl).2
      have gf33_1 : 1 ≤ (F33 114 8).toInt ∧ (F33 114 8).toInt ≤ 4 := ⟨(hk_fact pp33 1 rfl).1.1, (hk_fact pp33 1 rfl).1.2.1⟩
      have gf33_2 : hgh F33 1 = true := hk_gh (hk_fact pp33 2 rfl).1
      refine h_lln c (hd 18 36 _ _ rfl) (by rfl) (hat 37 rfl ?_)
      refine h_ldc2v c (wlcT hG lcokX12) (hd 19 37 _ _ rfl) (n := 2003792484) (by rfl) (hat 40 rfl ?_)
      refine h_lcmp c (hd 20 40 _ _ rfl) (fun v40 e40 => hat 41 rfl ?_)
      refine h_if c (hd 21 41 _ _ rfl) (tgt := 48) (by decide) (fun (h41 : v40.toInt ≠ 0) => ?_) (fun (h41 : ¬ (v40.toInt ≠ 0)) => hat 44 rfl ?_)
      · skip
        have e4_ : F33 114 4 = F 114 4 := fr33 114 4 (by decide) (by rfl)
        exact K48 _ (hframe_tr (hframe_rf [(73, 0), (81, 0), (82, 0), (114, 5), (114, 6), (114, 7), (114, 8), (114, 9), (114, 10), (114, 11), (998, 2)] F) fr33 (by decide)) (by omega) (Or.inr ⟨by rw [e4_]; exact hf0, by omega⟩)
      · skip
        refine h_aln c (hd 22 44 _ _ rfl) (by rfl) (hat 45 rfl ?_)
        refine h_callVF c (M' := hM_word) (hp_word hG hh) (by decide +kernel) (wlkV (lkX12_262 hG) _ rfl rfl) (j := 114) (by decide +kernel) (hd 23 45 _ _ rfl) [] (rest := []) (by rfl) ⟨⟨114, by decide, rfl⟩, trivial⟩ (Nat.le_of_ble_eq_true rfl) ⟨by rw [show F33 114 4 = F 114 4 from fr33 114 4 (by decide) (by rfl)]; exact hf0, by omega, gf33_2, by rw [show F33 114 29 = F 114 29 from fr33 114 29 (by decide) (by rfl), show F33 73 (F 114 29).toInt.toNat = F 73 (F 114 29).toInt.toNat from fr33 73 _ (by decide) (by rfl)]; have k_ := hwd (e40.mp (by omega)); omega⟩ (fun rv45 F45 fr45 rr45 pp45 sm_ => hat 48 rfl ?_)
        obtain ⟨er_, hen45, hx45⟩ := pp45
        subst er_
        have e4_ : F33 114 4 = F 114 4 := fr33 114 4 (by decide) (by rfl)
        exact K48 _ (hframe_tr (hframe_tr (hframe_rf [(73, 0), (81, 0), (82, 0), (114, 5), (114, 6), (114, 7), (114, 8), (114, 9), (114, 10), (114, 11), (998, 2)] F) fr33 (by decide)) fr45 (by decide)) hen45 (by rcases hx45 with h_ | h_; exact Or.inl h_; exact Or.inr ⟨h_.1, by omega⟩)
  have K24 : (y = (Int64.ofInt 2003792484) → (F 73 (F 114 29).toInt.toNat).toInt ≠ 10) → hW G X q754_M w0 24 [(1, .long y), (0, .ref (G.2.1.1 114))] [] F := by
    intro hwd
    refine h_aln c (hd 12 24 _ _ rfl) (by rfl) (hat 25 rfl ?_)
    refine h_callV c (M' := q1214_M) (q1214_met hG) (by decide +kernel) (by decide +kernel) (wlkV (lkX12_223 hG) _ rfl rfl) (j := 114) (by decide +kernel) (hd 13 25 _ _ rfl) [] (rest := []) (by rfl) ⟨⟨114, by decide, rfl⟩, trivial⟩ (Nat.le_of_ble_eq_true rfl) (fun q hq => absurd hq List.not_mem_nil) (fun rv25 F25 fr25 rr25 pp25 sm_ => hat 28 rfl ?_)
    have e_ := (sm_ rfl).symm
    subst e_
    obtain ⟨k_, hk_, pp25⟩ := pp25
    rcases hm2 hk_ with rfl | rfl
    · skip
      obtain ⟨x25, hrv_, hx25⟩ := hk_val pp25
      subst hrv_
      have hx25 : 1 ≤ x25.toInt ∧ x25.toInt ≤ 1 := ⟨hx25.1, hx25.2.1⟩
      have gf25_0 : 0 ≤ (F 114 4).toInt ∧ (F 114 4).toInt ≤ 0 := ⟨(hk_fact pp25 0 rfl).1.1, (hk_fact pp25 0 rfl).1.2.1⟩
      refine h_if c (hd 14 28 _ _ rfl) (tgt := 32) (by decide) (fun (h28 : x25.toInt ≠ 0) => ?_) (fun (h28 : ¬ (x25.toInt ≠ 0)) => hat 31 rfl ?_)
      · skip
        exact K32 hwd
      · skip
        exfalso
        omega
    · skip
      obtain ⟨x25, hrv_, hx25⟩ := hk_val pp25
      subst hrv_
      have hx25 : 0 ≤ x25.toInt ∧ x25.toInt ≤ 0 := ⟨hx25.1, hx25.2.1⟩
      have gf25_0 : 1 ≤ (F 114 4).toInt ∧ (F 114 4).toInt ≤ 4 := ⟨(hk_fact pp25 0 rfl).1.1, (hk_fact pp25 0 rfl).1.2.1⟩
      refine h_if c (hd 14 28 _ _ rfl) (tgt := 32) (by decide) (fun (h28 : x25.toInt ≠ 0) => ?_) (fun (h28 : ¬ (x25.toInt ≠ 0)) => hat 31 rfl ?_)
      · skip
        exact K32 hwd
      · skip
        exfalso
        omega
  have K20 : hW G X q754_M w0 20 [(1, .long y), (0, .ref (G.2.1.1 114))] [] F := by
    refine h_aln c (hd 10 20 _ _ rfl) (by rfl) (hat 21 rfl ?_)
    refine h_callV c (M' := q1217_M) (q1217_met hG) (by decide +kernel) (by decide +kernel) (wlkV (lkX12_230 hG) _ rfl rfl) (j := 114) (by decide +kernel) (hd 11 21 _ _ rfl) [] (rest := []) (by rfl) ⟨⟨114, by decide, rfl⟩, trivial⟩ (Nat.le_of_ble_eq_true rfl) (fun q hq => absurd hq List.not_mem_nil) (fun rv21 F21 fr21 rr21 pp21 sm_ => hat 24 rfl ?_)
    obtain ⟨k_, hk_, pp21⟩ := pp21
    rcases hm1 hk_ with rfl
    match rv21, pp21 with
    | none, pp21 =>
    skip
    have gf21_0 : 1 ≤ (F21 114 4).toInt ∧ (F21 114 4).toInt ≤ 4 := ⟨(hk_fact pp21 0 rfl).1.1, (hk_fact pp21 0 rfl).1.2.1⟩
    refine h_aln c (hd 12 24 _ _ rfl) (by rfl) (hat 25 rfl ?_)
    refine h_callV c (M' := q1214_M) (q1214_met hG) (by decide +kernel) (by decide +kernel) (wlkV (lkX12_223 hG) _ rfl rfl) (j := 114) (by decide +kernel) (hd 13 25 _ _ rfl) [] (rest := []) (by rfl) ⟨⟨114, by decide, rfl⟩, trivial⟩ (Nat.le_of_ble_eq_true rfl) (fun q hq => absurd hq List.not_mem_nil) (fun rv25 F25 fr25 rr25 pp25 sm_ => hat 28 rfl ?_)
    have e_ := (sm_ rfl).symm
    subst e_
    obtain ⟨k_, hk_, pp25⟩ := pp25
    rcases hm2 hk_ with rfl | rfl
    · skip
      obtain ⟨x25, hrv_, hx25⟩ := hk_val pp25
      subst hrv_
      have hx25 : 1 ≤ x25.toInt ∧ x25.toInt ≤ 1 := ⟨hx25.1, hx25.2.1⟩
      have gf25_0 : 0 ≤ (F21 114 4).toInt ∧ (F21 114 4).toInt ≤ 0 := ⟨(hk_fact pp25 0 rfl).1.1, (hk_fact pp25 0 rfl).1.2.1⟩
      refine h_if c (hd 14 28 _ _ rfl) (tgt := 32) (by decide) (fun (h28 : x25.toInt ≠ 0) => ?_) (fun (h28 : ¬ (x25.toInt ≠ 0)) => hat 31 rfl ?_)
      · skip
        exfalso
        omega
      · skip
        have e77 : F21 77 1 = F 77 1 := fr21 77 1 (by decide) (by rfl)
        have e7 : F21 114 7 = F 114 7 := fr21 114 7 (by decide) (by rfl)
        have g0 : hgh F21 0 = true := hgh0_same (fun k => fr21 85 k (by decide) (by rfl)) (fun k => fr21 83 k (by decide) (by rfl)) (fun k => fr21 84 k (by decide) (by rfl)) hJ
        exact h_vret c (hd 15 31 _ _ rfl) rfl (fun _ => ⟨_, List.mem_of_getElem? (i := 0) rfl, trivial, fun q hq => absurd hq List.not_mem_nil, hfs_mk ⟨⟨rf_in1 (show 1 ≤ (F21 77 1).toInt by rw [e77]; omega) (show (F21 77 1).toInt ≤ 31 by rw [e77]; omega), trivial⟩, ⟨rf_in1 (show 1 ≤ (F21 114 4).toInt by omega) (show (F21 114 4).toInt ≤ 4 by omega), trivial⟩, ⟨rf_in1 (show 0 ≤ (F21 114 7).toInt by rw [e7]; omega) (show (F21 114 7).toInt ≤ 1600 by rw [e7]; omega), trivial⟩, ⟨hg_in g0, trivial⟩, trivial⟩⟩)
    · skip
      obtain ⟨x25, hrv_, hx25⟩ := hk_val pp25
      subst hrv_
      have hx25 : 0 ≤ x25.toInt ∧ x25.toInt ≤ 0 := ⟨hx25.1, hx25.2.1⟩
      have gf25_0 : 1 ≤ (F21 114 4).toInt ∧ (F21 114 4).toInt ≤ 4 := ⟨(hk_fact pp25 0 rfl).1.1, (hk_fact pp25 0 rfl).1.2.1⟩
      refine h_if c (hd 14 28 _ _ rfl) (tgt := 32) (by decide) (fun (h28 : x25.toInt ≠ 0) => ?_) (fun (h28 : ¬ (x25.toInt ≠ 0)) => hat 31 rfl ?_)
      · skip
        exfalso
        omega
      · skip
        have e77 : F21 77 1 = F 77 1 := fr21 77 1 (by decide) (by rfl)
        have e7 : F21 114 7 = F 114 7 := fr21 114 7 (by decide) (by rfl)
        have g0 : hgh F21 0 = true := hgh0_same (fun k => fr21 85 k (by decide) (by rfl)) (fun k => fr21 83 k (by decide) (by rfl)) (fun k => fr21 84 k (by decide) (by rfl)) hJ
        exact h_vret c (hd 15 31 _ _ rfl) rfl (fun _ => ⟨_, List.mem_of_getElem? (i := 0) rfl, trivial, fun q hq => absurd hq List.not_mem_nil, hfs_mk ⟨⟨rf_in1 (show 1 ≤ (F21 77 1).toInt by rw [e77]; omega) (show (F21 77 1).toInt ≤ 31 by rw [e77]; omega), trivial⟩, ⟨rf_in1 (show 1 ≤ (F21 114 4).toInt by omega) (show (F21 114 4).toInt ≤ 4 by omega), trivial⟩, ⟨rf_in1 (show 0 ≤ (F21 114 7).toInt by rw [e7]; omega) (show (F21 114 7).toInt ≤ 1600 by rw [e7]; omega), trivial⟩, ⟨hg_in g0, trivial⟩, trivial⟩⟩)
  have c0 := c
  have c := hC_pin c0
  refine h_aln c (hd 0 0 _ _ rfl) (by rfl) (hat 1 rfl ?_)
  refine h_getY c rfl hy (hd 1 1 _ _ rfl) fgX12_202 gnX12_202_114 (hat 4 rfl ?_)
  refine h_lsn c (hd 2 4 _ _ rfl) (by decide) (L' := [(1, .long y), (0, .ref (G.2.1.1 114))]) (by rfl) (hat 5 rfl ?_)
  refine h_aln c (hd 3 5 _ _ rfl) (by rfl) (hat 6 rfl ?_)
  refine h_getI c (hd 4 6 _ _ rfl) fgX12_195 gnX12_195_114 (x := F 114 8) (rfl) (hat 9 rfl ?_)
  refine h_ic c (hd 5 9 _ _ rfl) (by decide) (fun v9 e9 => hat 10 rfl ?_)
  refine h_cmp c (hd 6 10 _ _ rfl) (tgt := 20) (by decide) (fun (h10 : (F 114 8).toInt ≠ v9.toInt) => ?_) (fun (h10 : ¬ ((F 114 8).toInt ≠ v9.toInt)) => hat 13 rfl ?_)
  · skip
    exact hW_pin K20
  · skip
    refine h_aln c (hd 7 13 _ _ rfl) (by rfl) (hat 14 rfl ?_)
    refine h_callVFY c (M' := hM_isFull) (hp_isFull hG y) (h_pinY c rfl hy) (by decide +kernel) (wlkV (lkX12_259 hG) _ rfl rfl) (j := 114) (by decide +kernel) (hd 8 14 _ _ rfl) [] (rest := []) (by rfl) ⟨⟨114, by decide, rfl⟩, trivial⟩ (Nat.le_of_ble_eq_true rfl) (show (F 114 8).toInt = 3 by omega) (fun rv14 F14 fr14 rr14 pp14 sm_ => hat 17 rfl ?_)
    have e_ := (sm_ rfl).symm
    subst e_
    obtain ⟨x14, er_, hx14, hy14, hz14⟩ := pp14
    subst er_
    refine h_if c (hd 9 17 _ _ rfl) (tgt := 24) (by decide) (fun (h17 : x14.toInt = 0) => ?_) (fun (h17 : ¬ (x14.toInt = 0)) => hat 20 rfl ?_)
    · skip
      exact hW_pin (K24 (hz14 (by omega)))
    · skip
      exact hW_pin K20
set_option maxHeartbeats 8000000 in
set_option maxRecDepth 20000 in
theorem hp_line0 {G : rfG} (hG : okG G) (hh : w1OK G) : rf_met G q782_M := by
  refine h_rfOfX hG.1 (by decide +kernel) (by decide) hG.2.2.1 (wflT hG flokX12) (wcsT hG csokX12) (by decide +kernel) ?_
  intro vs w0 X hv_ hr hp c
  match vs, hv_ with
  | [_], ⟨⟨_, hj0, rfl⟩, _⟩ =>
  cases List.mem_singleton.mp hj0
  have hd : ∀ n pc i len, ddX12_readLine[n]? = some (pc, i, len) → decode (mb q782_M) pc = .ok (i, len) := fun n pc i len h => hdk dkX12_readLine n pc i len h
  show hW G X (hpin q782_M) w0 0 [(0, .ref (G.2.1.1 114))] [] (hv w0)
  generalize hF0 : hv w0 = F at *
  obtain ⟨hp, hw_, hQ⟩ := hp
  obtain ⟨y, hy⟩ := h_longAt hw_ gnX12_202_114
  have h77 : 1 ≤ (F 77 1).toInt ∧ (F 77 1).toInt ≤ 31 := ⟨(hp _ (List.mem_of_getElem? (i := 0) rfl)).1, (hp _ (List.mem_of_getElem? (i := 0) rfl)).2.1⟩
  have hf0 : (F 114 4).toInt = 0 := by have a_ : 0 ≤ (F 114 4).toInt := (hp _ (List.mem_of_getElem? (i := 1) rfl)).1; have b_ : (F 114 4).toInt ≤ 0 := (hp _ (List.mem_of_getElem? (i := 1) rfl)).2.1; omega
  have hen : 0 ≤ (F 114 7).toInt ∧ (F 114 7).toInt ≤ 1600 := ⟨(hp _ (List.mem_of_getElem? (i := 2) rfl)).1, (hp _ (List.mem_of_getElem? (i := 2) rfl)).2.1⟩
  have h29 : (F 114 29).toInt = 0 := by have a_ : 0 ≤ (F 114 29).toInt := (hp _ (List.mem_of_getElem? (i := 4) rfl)).1; have b_ : (F 114 29).toInt ≤ 0 := (hp _ (List.mem_of_getElem? (i := 4) rfl)).2.1; omega
  have hJ : hgh F 0 = true := hk_gh (hp _ (List.mem_of_getElem? (i := 5) rfl))
  have hL1 : hgh F 1 = true := hk_gh (hp _ (List.mem_of_getElem? (i := 6) rfl))
  have hC2 : hgh F 2 = true := hk_gh (hp _ (List.mem_of_getElem? (i := 7) rfl))
  have hw10 : 0 ≤ (F 73 (F 114 29).toInt.toNat).toInt ∧ (F 73 (F 114 29).toInt.toNat).toInt ≤ 10 := hrga hr la_73 (by omega)
  have K48 : ∀ (F1 : HF), hframe [(73, 0), (81, 0), (82, 0), (114, 5), (114, 6), (114, 7), (114, 8), (114, 9), (114, 10), (114, 11), (998, 2)] F F1 → (F1 114 7).toInt ≤ 1600 → (1 ≤ (F1 114 4).toInt ∨ ((F1 114 4).toInt = 0 ∧ ((F1 114 8).toInt = 0 ∨ (F 114 7).toInt + 1 ≤ (F1 114 7).toInt))) → hW G X q782_M w0 48 [(1, .long y), (0, .ref (G.2.1.1 114))] [] F1 := by
    intro F1 fr1 hen1 hst
    refine h_know c (fun rr ff => ?_)
    have r4 : 0 ≤ (F1 114 4).toInt ∧ (F1 114 4).toInt ≤ 4 := hrg rr ly_114_4
    have r7 : 0 ≤ (F1 114 7).toInt ∧ (F1 114 7).toInt ≤ 1601 := hrg rr ly_114_7
    have r8 : 0 ≤ (F1 114 8).toInt ∧ (F1 114 8).toInt ≤ 5 := hrg rr ly_114_8
    have e77 : F1 77 1 = F 77 1 := fr1 77 1 (by decide) (by rfl)
    have e29 : F1 114 29 = F 114 29 := fr1 114 29 (by decide) (by rfl)
    have g0 : hgh F1 0 = true := hgh0_same (fun k => fr1 85 k (by decide) (by rfl)) (fun k => fr1 83 k (by decide) (by rfl)) (fun k => fr1 84 k (by decide) (by rfl)) hJ
    have g2 : hgh F1 2 = true := hgh2_same (fun k => fr1 74 k (by decide) (by rfl)) (fr1 114 30 (by decide) (by rfl)) e29 hC2
    have hvs : rf_all (rf_av G.2.1.1 G.2.1.2.1 [] []) (mA q782_M) [.ref (G.2.1.1 114)] := ⟨⟨114, by decide, rfl⟩, trivial⟩
    rcases hst with q_ | ⟨q4, qp⟩
    · exact h_anchor (n := (48,([(0,.inr (.inl [114])),(1,.inr (.inr 0))],[],[((77,1),(1,31,1),some ((77,1),0,0)),((114,4),(1,4,1),none),((114,7),(0,1600,1),none),((114,29),(0,0,0),some ((114,29),0,0)),((998,0),(1,1,0),some ((998,0),0,0)),((998,2),(1,1,0),some ((998,2),0,0))]),(241,[]),0)) c hQ hvs (q782_pok hG hh (hp_rule710 hG hh) (hp_rule711 hG hh) (hp_rule712 hG hh)) dkX12_readLine q782_ok (by decide +kernel) (by decide +kernel) 3 (by rfl) (rf_nd2 _ _) (by decide +kernel) (fun ws q hq => by rcases hm2 hq with rfl | rfl; exact ⟨_, List.mem_cons_of_mem _ List.mem_cons_self, 114, by decide, rfl⟩; exact ⟨_, List.mem_cons_self, y, rfl⟩) (fun _ => trivial) (by rw [hF0]; exact ⟨⟨rf_in1 (show 1 ≤ (F1 77 1).toInt by rw [e77]; omega) (show (F1 77 1).toInt ≤ 31 by rw [e77]; omega), show (F 77 1).toInt + 0 ≤ (F1 77 1).toInt by rw [e77]; omega, show (F1 77 1).toInt ≤ (F 77 1).toInt + 0 by rw [e77]; omega⟩, ⟨rf_in1 (show 1 ≤ (F1 114 4).toInt by omega) (show (F1 114 4).toInt ≤ 4 by omega), trivial⟩, ⟨rf_in1 (show 0 ≤ (F1 114 7).toInt by omega) (show (F1 114 7).toInt ≤ 1600 by omega), trivial⟩, ⟨hcon (x := (F1 114 29)) (by rw [e29]; omega), show (F 114 29).toInt + 0 ≤ (F1 114 29).toInt by rw [e29]; omega, show (F1 114 29).toInt ≤ (F 114 29).toInt + 0 by rw [e29]; omega⟩, ⟨hg_in g0, hgrel hJ g0⟩, ⟨hg_in g2, hgrel hC2 g2⟩, trivial⟩)
    · by_cases t0 : (F1 114 8).toInt = 0
      · exact h_anchor (n := (48,([(0,.inr (.inl [114])),(1,.inr (.inr 0))],[],[((77,1),(1,31,1),some ((77,1),0,0)),((114,4),(0,0,1),none),((114,7),(0,1600,1),none),((114,8),(0,0,1),none),((114,29),(0,0,0),some ((114,29),0,0)),((998,0),(1,1,0),some ((998,0),0,0)),((998,2),(1,1,0),some ((998,2),0,0))]),(207,[]),0)) c hQ hvs (q782_pok hG hh (hp_rule710 hG hh) (hp_rule711 hG hh) (hp_rule712 hG hh)) dkX12_readLine q782_ok (by decide +kernel) (by decide +kernel) 1 (by rfl) (rf_nd2 _ _) (by decide +kernel) (fun ws q hq => by rcases hm2 hq with rfl | rfl; exact ⟨_, List.mem_cons_of_mem _ List.mem_cons_self, 114, by decide, rfl⟩; exact ⟨_, List.mem_cons_self, y, rfl⟩) (fun _ => trivial) (by rw [hF0]; exact ⟨⟨rf_in1 (show 1 ≤ (F1 77 1).toInt by rw [e77]; omega) (show (F1 77 1).toInt ≤ 31 by rw [e77]; omega), show (F 77 1).toInt + 0 ≤ (F1 77 1).toInt by rw [e77]; omega, show (F1 77 1).toInt ≤ (F 77 1).toInt + 0 by rw [e77]; omega⟩, ⟨rf_in1 (show 0 ≤ (F1 114 4).toInt by omega) (show (F1 114 4).toInt ≤ 0 by omega), trivial⟩, ⟨rf_in1 (show 0 ≤ (F1 114 7).toInt by omega) (show (F1 114 7).toInt ≤ 1600 by omega), trivial⟩, ⟨rf_in1 (show 0 ≤ (F1 114 8).toInt by omega) (show (F1 114 8).toInt ≤ 0 by omega), trivial⟩, ⟨hcon (x := (F1 114 29)) (by rw [e29]; omega), show (F 114 29).toInt + 0 ≤ (F1 114 29).toInt by rw [e29]; omega, show (F1 114 29).toInt ≤ (F 114 29).toInt + 0 by rw [e29]; omega⟩, ⟨hg_in g0, hgrel hJ g0⟩, ⟨hg_in g2, hgrel hC2 g2⟩, trivial⟩)
      · by_cases t5 : (F1 114 8).toInt = 5
        · exact h_anchor (n := (48,([(0,.inr (.inl [114])),(1,.inr (.inr 0))],[],[((77,1),(1,31,1),some ((77,1),0,0)),((114,4),(0,0,1),none),((114,7),(1,1600,1),some ((114,7),1,4294967296)),((114,8),(5,5,1),none),((114,29),(0,0,0),some ((114,29),0,0)),((998,0),(1,1,0),some ((998,0),0,0)),((998,2),(1,1,0),some ((998,2),0,0))]),(528,[]),0)) c hQ hvs (q782_pok hG hh (hp_rule710 hG hh) (hp_rule711 hG hh) (hp_rule712 hG hh)) dkX12_readLine q782_ok (by decide +kernel) (by decide +kernel) 0 (by rfl) (rf_nd2 _ _) (by decide +kernel) (fun ws q hq => by rcases hm2 hq with rfl | rfl; exact ⟨_, List.mem_cons_of_mem _ List.mem_cons_self, 114, by decide, rfl⟩; exact ⟨_, List.mem_cons_self, y, rfl⟩) (fun _ => trivial) (by rw [hF0]; exact ⟨⟨rf_in1 (show 1 ≤ (F1 77 1).toInt by rw [e77]; omega) (show (F1 77 1).toInt ≤ 31 by rw [e77]; omega), show (F 77 1).toInt + 0 ≤ (F1 77 1).toInt by rw [e77]; omega, show (F1 77 1).toInt ≤ (F 77 1).toInt + 0 by rw [e77]; omega⟩, ⟨rf_in1 (show 0 ≤ (F1 114 4).toInt by omega) (show (F1 114 4).toInt ≤ 0 by omega), trivial⟩, ⟨rf_in1 (show 1 ≤ (F1 114 7).toInt by omega) (show (F1 114 7).toInt ≤ 1600 by omega), show (F 114 7).toInt + 1 ≤ (F1 114 7).toInt by omega, show (F1 114 7).toInt ≤ (F 114 7).toInt + 4294967296 by omega⟩, ⟨rf_in1 (show 5 ≤ (F1 114 8).toInt by omega) (show (F1 114 8).toInt ≤ 5 by omega), trivial⟩, ⟨hcon (x := (F1 114 29)) (by rw [e29]; omega), show (F 114 29).toInt + 0 ≤ (F1 114 29).toInt by rw [e29]; omega, show (F1 114 29).toInt ≤ (F 114 29).toInt + 0 by rw [e29]; omega⟩, ⟨hg_in g0, hgrel hJ g0⟩, ⟨hg_in g2, hgrel hC2 g2⟩, trivial⟩)
        · exact h_anchor (n := (48,([(0,.inr (.inl [114])),(1,.inr (.inr 0))],[],[((77,1),(1,31,1),some ((77,1),0,0)),((114,4),(0,0,1),none),((114,7),(1,1600,1),some ((114,7),1,4294967296)),((114,8),(1,4,1),none),((114,29),(0,0,0),some ((114,29),0,0)),((998,0),(1,1,0),some ((998,0),0,0)),((998,2),(1,1,0),some ((998,2),0,0))]),(555,[]),0)) c hQ hvs (q782_pok hG hh (hp_rule710 hG hh) (hp_rule711 hG hh) (hp_rule712 hG hh)) dkX12_readLine q782_ok (by decide +kernel) (by decide +kernel) 2 (by rfl) (rf_nd2 _ _) (by decide +kernel) (fun ws q hq => by rcases hm2 hq with rfl | rfl; exact ⟨_, List.mem_cons_of_mem _ List.mem_cons_self, 114, by decide, rfl⟩; exact ⟨_, List.mem_cons_self, y, rfl⟩) (fun _ => trivial) (by rw [hF0]; exact ⟨⟨rf_in1 (show 1 ≤ (F1 77 1).toInt by rw [e77]; omega) (show (F1 77 1).toInt ≤ 31 by rw [e77]; omega), show (F 77 1).toInt + 0 ≤ (F1 77 1).toInt by rw [e77]; omega, show (F1 77 1).toInt ≤ (F 77 1).toInt + 0 by rw [e77]; omega⟩, ⟨rf_in1 (show 0 ≤ (F1 114 4).toInt by omega) (show (F1 114 4).toInt ≤ 0 by omega), trivial⟩, ⟨rf_in1 (show 1 ≤ (F1 114 7).toInt by omega) (show (F1 114 7).toInt ≤ 1600 by omega), show (F 114 7).toInt + 1 ≤ (F1 114 7).toInt by omega, show (F1 114 7).toInt ≤ (F 114 7).toInt + 4294967296 by omega⟩, ⟨rf_in1 (show 1 ≤ (F1 114 8).toInt by omega) (show (F1 114 8).toInt ≤ 4 by omega), trivial⟩, ⟨hcon (x := (F1 114 29)) (by rw [e29]; omega), show (F 114 29).toInt + 0 ≤ (F1 114 29).toInt by rw [e29]; omega, show (F1 114 29).toInt ≤ (F 114 29).toInt + 0 by rw [e29]; omega⟩, ⟨hg_in g0, hgrel hJ g0⟩, ⟨hg_in g2, hgrel hC2 g2⟩, trivial⟩)
  have K32 : (y = (Int64.ofInt 2003792484) → (F 73 (F 114 29).toInt.toNat).toInt ≠ 10) → hW G X q782_M w0 32 [(1, .long y), (0, .ref (G.2.1.1 114))] [] F := by
    intro hwd
    refine h_aln c (hd 16 32 _ _ rfl) (by rfl) (hat 33 rfl ?_)
    refine h_callV c (M' := q681_M) (hp_goOn hG) (by decide +kernel) (by decide +kernel) (wlkV (lkX12_227 hG) _ rfl rfl) (j := 114) (by decide +kernel) (hd 17 33 _ _ rfl) [] (rest := []) (by rfl) ⟨⟨114, by decide, rfl⟩, trivial⟩ (Nat.le_of_ble_eq_true rfl) (fun q hq => by cases hm1 hq; exact rf_in1 (show 0 ≤ (F 114 7).toInt by omega) (show (F 114 7).toInt ≤ 1600 by omega)) (fun rv33 F33 fr33 rr33 pp33 sm_ => hat 36 rfl ?_)
    obtain ⟨k_, hk_, pp33⟩ := pp33
    rcases hm3 hk_ with rfl | rfl | rfl
    · skip
      match rv33, pp33 with
      | none, pp33 =>
      skip
      have gf33_0 : 0 ≤ (F33 114 7).toInt ∧ (F33 114 7).toInt ≤ 1600 := ⟨(hk_fact pp33 0 rfl).1.1, (hk_fact pp33 0 rfl).1.2.1⟩
      have gf33_1 : 0 ≤ (F33 114 8).toInt ∧ (F33 114 8).toInt ≤ 0 := ⟨(hk_fact pp33 1 rfl).1.1, (hk_fact pp33 1 rfl).1.2.1⟩
      have gf33_2 : hgh F33 1 = true := hk_gh (hk_fact pp33 2 rfl).1
      refine h_lln c (hd 18 36 _ _ rfl) (by rfl) (hat 37 rfl ?_)
      refine h_ldc2v c (wlcT hG lcokX12) (hd 19 37 _ _ rfl) (n := 2003792484) (by rfl) (hat 40 rfl ?_)
      refine h_lcmp c (hd 20 40 _ _ rfl) (fun v40 e40 => hat 41 rfl ?_)
      refine h_if c (hd 21 41 _ _ rfl) (tgt := 48) (by decide) (fun (h41 : v40.toInt ≠ 0) => ?_) (fun (h41 : ¬ (v40.toInt ≠ 0)) => hat 44 rfl ?_)
      · skip
        have e4_ : F33 114 4 = F 114 4 := fr33 114 4 (by decide) (by rfl)
        exact K48 _ (hframe_tr (hframe_rf [(73, 0), (81, 0), (82, 0), (114, 5), (114, 6), (114, 7), (114, 8), (114, 9), (114, 10), (114, 11), (998, 2)] F) fr33 (by decide)) (by omega) (Or.inr ⟨by rw [e4_]; exact hf0, by omega⟩)
      · skip
        refine h_aln c (hd 22 44 _ _ rfl) (by rfl) (hat 45 rfl ?_)
        refine h_callVF c (M' := hM_word) (hp_word hG hh) (by decide +kernel) (wlkV (lkX12_262 hG) _ rfl rfl) (j := 114) (by decide +kernel) (hd 23 45 _ _ rfl) [] (rest := []) (by rfl) ⟨⟨114, by decide, rfl⟩, trivial⟩ (Nat.le_of_ble_eq_true rfl) ⟨by rw [show F33 114 4 = F 114 4 from fr33 114 4 (by decide) (by rfl)]; exact hf0, by omega, gf33_2, by rw [show F33 114 29 = F 114 29 from fr33 114 29 (by decide) (by rfl), show F33 73 (F 114 29).toInt.toNat = F 73 (F 114 29).toInt.toNat from fr33 73 _ (by decide) (by rfl)]; have k_ := hwd (e40.mp (by omega)); omega⟩ (fun rv45 F45 fr45 rr45 pp45 sm_ => hat 48 rfl ?_)
        obtain ⟨er_, hen45, hx45⟩ := pp45
        subst er_
        have e4_ : F33 114 4 = F 114 4 := fr33 114 4 (by decide) (by rfl)
        exact K48 _ (hframe_tr (hframe_tr (hframe_rf [(73, 0), (81, 0), (82, 0), (114, 5), (114, 6), (114, 7), (114, 8), (114, 9), (114, 10), (114, 11), (998, 2)] F) fr33 (by decide)) fr45 (by decide)) hen45 (by rcases hx45 with h_ | h_; exact Or.inl h_; exact Or.inr ⟨h_.1, by omega⟩)
    · skip
      match rv33, pp33 with
      | none, pp33 =>
      skip
      have gf33_0 : 1 ≤ (F33 114 7).toInt ∧ (F33 114 7).toInt ≤ 1600 := ⟨(hk_fact pp33 0 rfl).1.1, (hk_fact pp33 0 rfl).1.2.1⟩
      have gr33_0 : (F 114 7).toInt + 1 ≤ (F33 114 7).toInt ∧ (F33 114 7).toInt ≤ (F 114 7).toInt + 4294967296 := (hk_fact pp33 0 rfl).2
      have gf33_1 : 5 ≤ (F33 114 8).toInt ∧ (F33 114 8).toInt ≤ 5 := ⟨(hk_fact pp33 1 rfl).1.1, (hk_fact pp33 1 rfl).1.2.1⟩
      have gf33_2 : hgh F33 1 = true := hk_gh (hk_fact pp33 2 rfl).1
      refine h_lln c (hd 18 36 _ _ rfl) (by rfl) (hat 37 rfl ?_)
      refine h_ldc2v c (wlcT hG lcokX12) (hd 19 37 _ _ rfl) (n := 2003792484) (by rfl) (hat 40 rfl ?_)
      refine h_lcmp c (hd 20 40 _ _ rfl) (fun v40 e40 => hat 41 rfl ?_)
      refine h_if c (hd 21 41 _ _ rfl) (tgt := 48) (by decide) (fun (h41 : v40.toInt ≠ 0) => ?_) (fun (h41 : ¬ (v40.toInt ≠ 0)) => hat 44 rfl ?_)
      · skip
        have e4_ : F33 114 4 = F 114 4 := fr33 114 4 (by decide) (by rfl)
        exact K48 _ (hframe_tr (hframe_rf [(73, 0), (81, 0), (82, 0), (114, 5), (114, 6), (114, 7), (114, 8), (114, 9), (114, 10), (114, 11), (998, 2)] F) fr33 (by decide)) (by omega) (Or.inr ⟨by rw [e4_]; exact hf0, by omega⟩)
      · skip
        refine h_aln c (hd 22 44 _ _ rfl) (by rfl) (hat 45 rfl ?_)
        refine h_callVF c (M' := hM_word) (hp_word hG hh) (by decide +kernel) (wlkV (lkX12_262 hG) _ rfl rfl) (j := 114) (by decide +kernel) (hd 23 45 _ _ rfl) [] (rest := []) (by rfl) ⟨⟨114, by decide, rfl⟩, trivial⟩ (Nat.le_of_ble_eq_true rfl) ⟨by rw [show F33 114 4 = F 114 4 from fr33 114 4 (by decide) (by rfl)]; exact hf0, by omega, gf33_2, by rw [show F33 114 29 = F 114 29 from fr33 114 29 (by decide) (by rfl), show F33 73 (F 114 29).toInt.toNat = F 73 (F 114 29).toInt.toNat from fr33 73 _ (by decide) (by rfl)]; have k_ := hwd (e40.mp (by omega)); omega⟩ (fun rv45 F45 fr45 rr45 pp45 sm_ => hat 48 rfl ?_)
        obtain ⟨er_, hen45, hx45⟩ := pp45
        subst er_
        have e4_ : F33 114 4 = F 114 4 := fr33 114 4 (by decide) (by rfl)
        exact K48 _ (hframe_tr (hframe_tr (hframe_rf [(73, 0), (81, 0), (82, 0), (114, 5), (114, 6), (114, 7), (114, 8), (114, 9), (114, 10), (114, 11), (998, 2)] F) fr33 (by decide)) fr45 (by decide)) hen45 (by rcases hx45 with h_ | h_; exact Or.inl h_; exact Or.inr ⟨h_.1, by omega⟩)
    · skip
      match rv33, pp33 with
      | none, pp33 =>
      skip
      have gf33_0 : 1 ≤ (F33 114 7).toInt ∧ (F33 114 7).toInt ≤ 1600 := ⟨(hk_fact pp33 0 rfl).1.1, (hk_fact pp33 0 rfl).1.2.1⟩
      have gr33_0 : (F 114 7).toInt + 1 ≤ (F33 114 7).toInt ∧ (F33 114 7).toInt ≤ (F 114 7).toInt + 4294967296 := (hk_fact pp33 0 rfl).2
      have gf33_1 : 1 ≤ (F33 114 8).toInt ∧ (F33 114 8).toInt ≤ 4 := ⟨(hk_fact pp33 1 rfl).1.1, (hk_fact pp33 1 rfl).1.2.1⟩
      have gf33_2 : hgh F33 1 = true := hk_gh (hk_fact pp33 2 rfl).1
      refine h_lln c (hd 18 36 _ _ rfl) (by rfl) (hat 37 rfl ?_)
      refine h_ldc2v c (wlcT hG lcokX12) (hd 19 37 _ _ rfl) (n := 2003792484) (by rfl) (hat 40 rfl ?_)
      refine h_lcmp c (hd 20 40 _ _ rfl) (fun v40 e40 => hat 41 rfl ?_)
      refine h_if c (hd 21 41 _ _ rfl) (tgt := 48) (by decide) (fun (h41 : v40.toInt ≠ 0) => ?_) (fun (h41 : ¬ (v40.toInt ≠ 0)) => hat 44 rfl ?_)
      · skip
        have e4_ : F33 114 4 = F 114 4 := fr33 114 4 (by decide) (by rfl)
        exact K48 _ (hframe_tr (hframe_rf [(73, 0), (81, 0), (82, 0), (114, 5), (114, 6), (114, 7), (114, 8), (114, 9), (114, 10), (114, 11), (998, 2)] F) fr33 (by decide)) (by omega) (Or.inr ⟨by rw [e4_]; exact hf0, by omega⟩)
      · skip
        refine h_aln c (hd 22 44 _ _ rfl) (by rfl) (hat 45 rfl ?_)
        refine h_callVF c (M' := hM_word) (hp_word hG hh) (by decide +kernel) (wlkV (lkX12_262 hG) _ rfl rfl) (j := 114) (by decide +kernel) (hd 23 45 _ _ rfl) [] (rest := []) (by rfl) ⟨⟨114, by decide, rfl⟩, trivial⟩ (Nat.le_of_ble_eq_true rfl) ⟨by rw [show F33 114 4 = F 114 4 from fr33 114 4 (by decide) (by rfl)]; exact hf0, by omega, gf33_2, by rw [show F33 114 29 = F 114 29 from fr33 114 29 (by decide) (by rfl), show F33 73 (F 114 29).toInt.toNat = F 73 (F 114 29).toInt.toNat from fr33 73 _ (by decide) (by rfl)]; have k_ := hwd (e40.mp (by omega)); omega⟩ (fun rv45 F45 fr45 rr45 pp45 sm_ => hat 48 rfl ?_)
        obtain ⟨er_, hen45, hx45⟩ := pp45
        subst er_
        have e4_ : F33 114 4 = F 114 4 := fr33 114 4 (by decide) (by rfl)
        exact K48 _ (hframe_tr (hframe_tr (hframe_rf [(73, 0), (81, 0), (82, 0), (114, 5), (114, 6), (114, 7), (114, 8), (114, 9), (114, 10), (114, 11), (998, 2)] F) fr33 (by decide)) fr45 (by decide)) hen45 (by rcases hx45 with h_ | h_; exact Or.inl h_; exact Or.inr ⟨h_.1, by omega⟩)
  have K24 : (y = (Int64.ofInt 2003792484) → (F 73 (F 114 29).toInt.toNat).toInt ≠ 10) → hW G X q782_M w0 24 [(1, .long y), (0, .ref (G.2.1.1 114))] [] F := by
    intro hwd
    refine h_aln c (hd 12 24 _ _ rfl) (by rfl) (hat 25 rfl ?_)
    refine h_callV c (M' := q1214_M) (q1214_met hG) (by decide +kernel) (by decide +kernel) (wlkV (lkX12_223 hG) _ rfl rfl) (j := 114) (by decide +kernel) (hd 13 25 _ _ rfl) [] (rest := []) (by rfl) ⟨⟨114, by decide, rfl⟩, trivial⟩ (Nat.le_of_ble_eq_true rfl) (fun q hq => absurd hq List.not_mem_nil) (fun rv25 F25 fr25 rr25 pp25 sm_ => hat 28 rfl ?_)
    have e_ := (sm_ rfl).symm
    subst e_
    obtain ⟨k_, hk_, pp25⟩ := pp25
    rcases hm2 hk_ with rfl | rfl
    · skip
      obtain ⟨x25, hrv_, hx25⟩ := hk_val pp25
      subst hrv_
      have hx25 : 1 ≤ x25.toInt ∧ x25.toInt ≤ 1 := ⟨hx25.1, hx25.2.1⟩
      have gf25_0 : 0 ≤ (F 114 4).toInt ∧ (F 114 4).toInt ≤ 0 := ⟨(hk_fact pp25 0 rfl).1.1, (hk_fact pp25 0 rfl).1.2.1⟩
      refine h_if c (hd 14 28 _ _ rfl) (tgt := 32) (by decide) (fun (h28 : x25.toInt ≠ 0) => ?_) (fun (h28 : ¬ (x25.toInt ≠ 0)) => hat 31 rfl ?_)
      · skip
        exact K32 hwd
      · skip
        exfalso
        omega
    · skip
      obtain ⟨x25, hrv_, hx25⟩ := hk_val pp25
      subst hrv_
      have hx25 : 0 ≤ x25.toInt ∧ x25.toInt ≤ 0 := ⟨hx25.1, hx25.2.1⟩
      have gf25_0 : 1 ≤ (F 114 4).toInt ∧ (F 114 4).toInt ≤ 4 := ⟨(hk_fact pp25 0 rfl).1.1, (hk_fact pp25 0 rfl).1.2.1⟩
      refine h_if c (hd 14 28 _ _ rfl) (tgt := 32) (by decide) (fun (h28 : x25.toInt ≠ 0) => ?_) (fun (h28 : ¬ (x25.toInt ≠ 0)) => hat 31 rfl ?_)
      · skip
        exact K32 hwd
      · skip
        exfalso
        omega
  have K20 : hW G X q782_M w0 20 [(1, .long y), (0, .ref (G.2.1.1 114))] [] F := by
    refine h_aln c (hd 10 20 _ _ rfl) (by rfl) (hat 21 rfl ?_)
    refine h_callV c (M' := q1217_M) (q1217_met hG) (by decide +kernel) (by decide +kernel) (wlkV (lkX12_230 hG) _ rfl rfl) (j := 114) (by decide +kernel) (hd 11 21 _ _ rfl) [] (rest := []) (by rfl) ⟨⟨114, by decide, rfl⟩, trivial⟩ (Nat.le_of_ble_eq_true rfl) (fun q hq => absurd hq List.not_mem_nil) (fun rv21 F21 fr21 rr21 pp21 sm_ => hat 24 rfl ?_)
    obtain ⟨k_, hk_, pp21⟩ := pp21
    rcases hm1 hk_ with rfl
    match rv21, pp21 with
    | none, pp21 =>
    skip
    have gf21_0 : 1 ≤ (F21 114 4).toInt ∧ (F21 114 4).toInt ≤ 4 := ⟨(hk_fact pp21 0 rfl).1.1, (hk_fact pp21 0 rfl).1.2.1⟩
    refine h_aln c (hd 12 24 _ _ rfl) (by rfl) (hat 25 rfl ?_)
    refine h_callV c (M' := q1214_M) (q1214_met hG) (by decide +kernel) (by decide +kernel) (wlkV (lkX12_223 hG) _ rfl rfl) (j := 114) (by decide +kernel) (hd 13 25 _ _ rfl) [] (rest := []) (by rfl) ⟨⟨114, by decide, rfl⟩, trivial⟩ (Nat.le_of_ble_eq_true rfl) (fun q hq => absurd hq List.not_mem_nil) (fun rv25 F25 fr25 rr25 pp25 sm_ => hat 28 rfl ?_)
    have e_ := (sm_ rfl).symm
    subst e_
    obtain ⟨k_, hk_, pp25⟩ := pp25
    rcases hm2 hk_ with rfl | rfl
    · skip
      obtain ⟨x25, hrv_, hx25⟩ := hk_val pp25
      subst hrv_
      have hx25 : 1 ≤ x25.toInt ∧ x25.toInt ≤ 1 := ⟨hx25.1, hx25.2.1⟩
      have gf25_0 : 0 ≤ (F21 114 4).toInt ∧ (F21 114 4).toInt ≤ 0 := ⟨(hk_fact pp25 0 rfl).1.1, (hk_fact pp25 0 rfl).1.2.1⟩
      refine h_if c (hd 14 28 _ _ rfl) (tgt := 32) (by decide) (fun (h28 : x25.toInt ≠ 0) => ?_) (fun (h28 : ¬ (x25.toInt ≠ 0)) => hat 31 rfl ?_)
      · skip
        exfalso
        omega
      · skip
        have e77 : F21 77 1 = F 77 1 := fr21 77 1 (by decide) (by rfl)
        have e7 : F21 114 7 = F 114 7 := fr21 114 7 (by decide) (by rfl)
        have g0 : hgh F21 0 = true := hgh0_same (fun k => fr21 85 k (by decide) (by rfl)) (fun k => fr21 83 k (by decide) (by rfl)) (fun k => fr21 84 k (by decide) (by rfl)) hJ
        exact h_vret c (hd 15 31 _ _ rfl) rfl (fun _ => ⟨_, List.mem_of_getElem? (i := 0) rfl, trivial, fun q hq => absurd hq List.not_mem_nil, hfs_mk ⟨⟨rf_in1 (show 1 ≤ (F21 77 1).toInt by rw [e77]; omega) (show (F21 77 1).toInt ≤ 31 by rw [e77]; omega), show (F 77 1).toInt + 0 ≤ (F21 77 1).toInt by rw [e77]; omega, show (F21 77 1).toInt ≤ (F 77 1).toInt + 0 by rw [e77]; omega⟩, ⟨rf_in1 (show 1 ≤ (F21 114 4).toInt by omega) (show (F21 114 4).toInt ≤ 4 by omega), trivial⟩, ⟨rf_in1 (show 0 ≤ (F21 114 7).toInt by rw [e7]; omega) (show (F21 114 7).toInt ≤ 1600 by rw [e7]; omega), trivial⟩, ⟨hg_in g0, trivial⟩, trivial⟩⟩)
    · skip
      obtain ⟨x25, hrv_, hx25⟩ := hk_val pp25
      subst hrv_
      have hx25 : 0 ≤ x25.toInt ∧ x25.toInt ≤ 0 := ⟨hx25.1, hx25.2.1⟩
      have gf25_0 : 1 ≤ (F21 114 4).toInt ∧ (F21 114 4).toInt ≤ 4 := ⟨(hk_fact pp25 0 rfl).1.1, (hk_fact pp25 0 rfl).1.2.1⟩
      refine h_if c (hd 14 28 _ _ rfl) (tgt := 32) (by decide) (fun (h28 : x25.toInt ≠ 0) => ?_) (fun (h28 : ¬ (x25.toInt ≠ 0)) => hat 31 rfl ?_)
      · skip
        exfalso
        omega
      · skip
        have e77 : F21 77 1 = F 77 1 := fr21 77 1 (by decide) (by rfl)
        have e7 : F21 114 7 = F 114 7 := fr21 114 7 (by decide) (by rfl)
        have g0 : hgh F21 0 = true := hgh0_same (fun k => fr21 85 k (by decide) (by rfl)) (fun k => fr21 83 k (by decide) (by rfl)) (fun k => fr21 84 k (by decide) (by rfl)) hJ
        exact h_vret c (hd 15 31 _ _ rfl) rfl (fun _ => ⟨_, List.mem_of_getElem? (i := 0) rfl, trivial, fun q hq => absurd hq List.not_mem_nil, hfs_mk ⟨⟨rf_in1 (show 1 ≤ (F21 77 1).toInt by rw [e77]; omega) (show (F21 77 1).toInt ≤ 31 by rw [e77]; omega), show (F 77 1).toInt + 0 ≤ (F21 77 1).toInt by rw [e77]; omega, show (F21 77 1).toInt ≤ (F 77 1).toInt + 0 by rw [e77]; omega⟩, ⟨rf_in1 (show 1 ≤ (F21 114 4).toInt by omega) (show (F21 114 4).toInt ≤ 4 by omega), trivial⟩, ⟨rf_in1 (show 0 ≤ (F21 114 7).toInt by rw [e7]; omega) (show (F21 114 7).toInt ≤ 1600 by rw [e7]; omega), trivial⟩, ⟨hg_in g0, trivial⟩, trivial⟩⟩)
  have c0 := c
  have c := hC_pin c0
  refine h_aln c (hd 0 0 _ _ rfl) (by rfl) (hat 1 rfl ?_)
  refine h_getY c rfl hy (hd 1 1 _ _ rfl) fgX12_202 gnX12_202_114 (hat 4 rfl ?_)
  refine h_lsn c (hd 2 4 _ _ rfl) (by decide) (L' := [(1, .long y), (0, .ref (G.2.1.1 114))]) (by rfl) (hat 5 rfl ?_)
  refine h_aln c (hd 3 5 _ _ rfl) (by rfl) (hat 6 rfl ?_)
  refine h_getI c (hd 4 6 _ _ rfl) fgX12_195 gnX12_195_114 (x := F 114 8) (rfl) (hat 9 rfl ?_)
  refine h_ic c (hd 5 9 _ _ rfl) (by decide) (fun v9 e9 => hat 10 rfl ?_)
  refine h_cmp c (hd 6 10 _ _ rfl) (tgt := 20) (by decide) (fun (h10 : (F 114 8).toInt ≠ v9.toInt) => ?_) (fun (h10 : ¬ ((F 114 8).toInt ≠ v9.toInt)) => hat 13 rfl ?_)
  · skip
    exact hW_pin K20
  · skip
    refine h_aln c (hd 7 13 _ _ rfl) (by rfl) (hat 14 rfl ?_)
    refine h_callVFY c (M' := hM_isFull) (hp_isFull hG y) (h_pinY c rfl hy) (by decide +kernel) (wlkV (lkX12_259 hG) _ rfl rfl) (j := 114) (by decide +kernel) (hd 8 14 _ _ rfl) [] (rest := []) (by rfl) ⟨⟨114, by decide, rfl⟩, trivial⟩ (Nat.le_of_ble_eq_true rfl) (show (F 114 8).toInt = 3 by omega) (fun rv14 F14 fr14 rr14 pp14 sm_ => hat 17 rfl ?_)
    have e_ := (sm_ rfl).symm
    subst e_
    obtain ⟨x14, er_, hx14, hy14, hz14⟩ := pp14
    subst er_
    refine h_if c (hd 9 17 _ _ rfl) (tgt := 24) (by decide) (fun (h17 : x14.toInt = 0) => ?_) (fun (h17 : ¬ (x14.toInt = 0)) => hat 20 rfl ?_)
    · skip
      exact hW_pin (K24 (hz14 (by omega)))
    · skip
      exact hW_pin K20
def hM_bit : rfM := ((⟨"NearSpellModel", "bit", "(II)Z"⟩, prog_14_method_36_code, 2, (some .boolean)), (2,100), ([.inl (((-2147483648),2147483647,1),none), .inl ((0,31,1),none)],[]), [], [])
set_option maxHeartbeats 4000000 in
set_option maxRecDepth 20000 in
theorem hp_bit {G : rfG} (hG : okG G) : h_met G hM_bit (fun _ _ => True) (fun vs _ _ rv => ∃ a k x : Int32, vs = [.int a, .int k] ∧ rv = some (.int x) ∧ ((x.toInt = 1 ∧ bt a k.toInt.toNat = true) ∨ (x.toInt = 0 ∧ bt a k.toInt.toNat = false))) := by
  refine h_metOf hG.1 (by decide +kernel) (by decide) hG.2.2.1 (wflT hG flokX12) (wcsT hG csokX12) ?_
  intro vs w0 X hv_ hr hp c
  match vs, hv_ with
  | [_, _], ⟨⟨a, rfl, hi_a, _⟩, ⟨k, rfl, hi_k, _⟩, _⟩ =>
  have hd : ∀ n pc i len, ddX12_bit[n]? = some (pc, i, len) → decode (mb hM_bit) pc = .ok (i, len) := fun n pc i len h => hdk dkX12_bit n pc i len h
  show hW G X hM_bit w0 0 [(0, .int a), (1, .int k)] [] (hv w0)
  generalize hF0 : hv w0 = F at *
  have hk : 0 ≤ k.toInt ∧ k.toInt ≤ 31 := ⟨hi_k.1, hi_k.2.1⟩
  refine h_iln c (hd 0 0 _ _ rfl) (by rfl) (hat 1 rfl ?_)
  refine h_iln c (hd 1 1 _ _ rfl) (by rfl) (hat 2 rfl ?_)
  refine h_shr c (hd 2 2 _ _ rfl) (hat 3 rfl ?_)
  refine h_ic c (hd 3 3 _ _ rfl) (by decide) (fun v3 e3 => hat 4 rfl ?_)
  refine h_and c (hd 4 4 _ _ rfl) (hat 5 rfl ?_)
  refine h_ic c (hd 5 5 _ _ rfl) (by decide) (fun v5 e5 => hat 6 rfl ?_)
  refine h_cmp c (hd 6 6 _ _ rfl) (tgt := 13) (by decide) (fun (h6 : ((a >>> (k &&& 31)) &&& v3).toInt ≠ v5.toInt) => ?_) (fun (h6 : ¬ (((a >>> (k &&& 31)) &&& v3).toInt ≠ v5.toInt)) => hat 9 rfl ?_)
  · skip
    refine h_ic c (hd 9 13 _ _ rfl) (by decide) (fun v13 e13 => hat 14 rfl ?_)
    have hb_ := h_bit1 (a := a) hk.1 hk.2 e3
    cases hq_ : bt a k.toInt.toNat with
    | true =>
      rw [hq_] at hb_
      simp only [if_true] at hb_
      exact h_zret c (hd 10 14 _ _ rfl) rfl (by omega) ⟨a, k, _, rfl, rfl, Or.inl ⟨by omega, hq_⟩⟩
    | false =>
      rw [hq_] at hb_
      simp only [Bool.false_eq_true, if_false] at hb_
      exact h_zret c (hd 10 14 _ _ rfl) rfl (by omega) ⟨a, k, _, rfl, rfl, Or.inr ⟨by omega, hq_⟩⟩
  · skip
    refine h_ic c (hd 7 9 _ _ rfl) (by decide) (fun v9 e9 => hat 10 rfl ?_)
    refine h_goto c (hd 8 10 _ _ rfl) (tgt := 14) (by decide) ?_
    have hb_ := h_bit1 (a := a) hk.1 hk.2 e3
    cases hq_ : bt a k.toInt.toNat with
    | true =>
      rw [hq_] at hb_
      simp only [if_true] at hb_
      exact h_zret c (hd 10 14 _ _ rfl) rfl (by omega) ⟨a, k, _, rfl, rfl, Or.inl ⟨by omega, hq_⟩⟩
    | false =>
      rw [hq_] at hb_
      simp only [Bool.false_eq_true, if_false] at hb_
      exact h_zret c (hd 10 14 _ _ rfl) rfl (by omega) ⟨a, k, _, rfl, rfl, Or.inr ⟨by omega, hq_⟩⟩
def hM_along : rfM := ((⟨"NearSpellModel", "goAlong", "()V"⟩, prog_14_method_58_code, 3, none), (4,200), ([.inr (.inl [114])],[]), [(96,0)], [])
def ddX12_goAlong : List (Nat × Instr × Nat) := [(0,.iconst 0,1),(1,.istore_n 1,1),(2,.iload_n 1,1),(3,.aload_n 0,1),(4,.getfield 384,3),(7,.if_icmp .ge 67,3),(10,.iconst 0,1),(11,.istore_n 2,1),(12,.iload_n 2,1),(13,.aload_n 0,1),(14,.getfield 387,3),(17,.if_icmp .ge 51,3),(20,.aload_n 0,1),(21,.getfield 90,3),(24,.iload_n 1,1),(25,.iaload,1),(26,.iload_n 2,1),(27,.invokestatic 251,3),(30,.ifCond .eq 32,3),(33,.aload_n 0,1),(34,.getfield 84,3),(37,.iload_n 1,1),(38,.iaload,1),(39,.aload_n 0,1),(40,.getfield 87,3),(43,.iload_n 2,1),(44,.iaload,1),(45,.if_icmp .ne 17,3),(48,.aload_n 0,1),(49,.getfield 90,3),(52,.iload_n 1,1),(53,.iconst 1,1),(54,.iadd,1),(55,.dup2,1),(56,.iaload,1),(57,.iconst 2,1),(58,.iload_n 2,1),(59,.ishl,1),(60,.ior,1),(61,.iastore,1),(62,.iinc 2 1,3),(65,.goto (-53),3),(68,.iinc 1 1,3),(71,.goto (-69),3),(74,.return_,1)]
set_option maxRecDepth 100000 in
theorem dkX12_goAlong : rf_decs prog_14_method_58_code ddX12_goAlong := rf_decs_of (by decide +kernel)
set_option maxHeartbeats 4000000 in
set_option maxRecDepth 20000 in
theorem hp_along {G : rfG} (hG : okG G) : h_met G hM_along (fun _ _ => True) (fun _ F F' rv => rv = none ∧ hMono F F') := by
  refine h_metOf hG.1 (by decide +kernel) (by decide) hG.2.2.1 (wflT hG flokX12) (wcsT hG csokX12) ?_
  intro vs w0 X hv_ hr hp c
  match vs, hv_ with
  | [_], ⟨⟨_, hj0, rfl⟩, _⟩ =>
  cases List.mem_singleton.mp hj0
  have hd : ∀ n pc i len, ddX12_goAlong[n]? = some (pc, i, len) → decode (mb hM_along) pc = .ok (i, len) := fun n pc i len h => hdk dkX12_goAlong n pc i len h
  show hW G X hM_along w0 0 [(0, .ref (G.2.1.1 114))] [] (hv w0)
  generalize hF0 : hv w0 = F at *
  have ho : 0 ≤ (F 114 44).toInt ∧ (F 114 44).toInt ≤ 12 := hrg hr ly_114_44
  have ht : 0 ≤ (F 114 45).toInt ∧ (F 114 45).toInt ≤ 12 := hrg hr ly_114_45
  have K12 : ∀ (m : Nat) (w1 w2 : Int32) (F1 : HF), hframe [(96, 0)] F F1 → hMono F F1 → 0 ≤ w1.toInt → w1.toInt < (F 114 44).toInt → 0 ≤ w2.toInt → w2.toInt ≤ 12 → m = (((F 114 44).toInt - w1.toInt) * 100 + (F 114 45).toInt - w2.toInt).toNat → hW G X hM_along w0 12 [(2, .int w2), (1, .int w1), (0, .ref (G.2.1.1 114))] [] F1 := by
    intro m
    induction m using Nat.strongRecOn with
    | ind m ih =>
    intro w1 w2 F1 fr1 hmo h10 h11 h20 h21 hm
    refine h_iln c (hd 8 12 _ _ rfl) (by rfl) (hat 13 rfl ?_)
    refine h_aln c (hd 9 13 _ _ rfl) (by rfl) (hat 14 rfl ?_)
    refine h_getI c (hd 10 14 _ _ rfl) fgX12_387 gnX12_387_114 (x := F 114 45) (fr1 114 45 (by decide) (by rfl)) (hat 17 rfl ?_)
    refine h_cmp c (hd 11 17 _ _ rfl) (tgt := 68) (by decide) (fun (h17 : (F 114 45).toInt ≤ w2.toInt) => ?_) (fun (h17 : ¬ ((F 114 45).toInt ≤ w2.toInt)) => hat 20 rfl ?_)
    · skip
      refine h_inc c (fun r_ => [(1, .int r_), (2, .int w2), (0, .ref (G.2.1.1 114))]) (hd 42 68 _ _ rfl) (by decide) (by decide) (by rfl) (by omega) (fun _ => by rfl) (fun v68 e68 => hat 71 rfl ?_)
      refine h_goto c (hd 43 71 _ _ rfl) (tgt := 2) (by decide) ?_
      refine h_iln c (hd 2 2 _ _ rfl) (by rfl) (hat 3 rfl ?_)
      refine h_aln c (hd 3 3 _ _ rfl) (by rfl) (hat 4 rfl ?_)
      refine h_getI c (hd 4 4 _ _ rfl) fgX12_384 gnX12_384_114 (x := F 114 44) (fr1 114 44 (by decide) (by rfl)) (hat 7 rfl ?_)
      refine h_cmp c (hd 5 7 _ _ rfl) (tgt := 74) (by decide) (fun (h7 : (F 114 44).toInt ≤ v68.toInt) => ?_) (fun (h7 : ¬ ((F 114 44).toInt ≤ v68.toInt)) => hat 10 rfl ?_)
      · skip
        exact h_vret c (hd 44 74 _ _ rfl) rfl ⟨rfl, hmo⟩
      · skip
        refine h_ic c (hd 6 10 _ _ rfl) (by decide) (fun v10 e10 => hat 11 rfl ?_)
        refine h_isn c (hd 7 11 _ _ rfl) (by decide) (L' := [(2, .int v10), (1, .int v68), (0, .ref (G.2.1.1 114))]) (by rfl) (hat 12 rfl ?_)
        exact h_less (L := [(2, .int v10), (1, .int v68), (0, .ref (G.2.1.1 114))]) (by simp) (ih (((F 114 44).toInt - v68.toInt) * 100 + (F 114 45).toInt - v10.toInt).toNat (by omega) _ _ _ fr1 hmo (by omega) (by omega) (by omega) (by omega) rfl)
    · skip
      refine h_aln c (hd 12 20 _ _ rfl) (by rfl) (hat 21 rfl ?_)
      refine h_getR c (hd 13 21 _ _ rfl) fgX12_90 gnX12_90_114 (hat 24 rfl ?_)
      refine h_iln c (hd 14 24 _ _ rfl) (by rfl) (hat 25 rfl ?_)
      refine h_iald c (hd 15 25 _ _ rfl) la_96 ⟨by omega, by omega⟩ rfl (x := F1 96 w1.toInt.toNat) (rfl) (hat 26 rfl ?_)
      refine h_iln c (hd 16 26 _ _ rfl) (by rfl) (hat 27 rfl ?_)
      refine h_callSF c (M' := hM_bit) (hp_bit hG) (by decide +kernel) (wlkS (lkX12_251 hG) _ rfl rfl) (hd 17 27 _ _ rfl) [.int (F1 96 w1.toInt.toNat), .int w2] (rest := []) (by rfl) ⟨⟨_, rfl, rf_in_top _, trivial⟩, ⟨_, rfl, rf_in1 (by omega) (by omega), trivial⟩, trivial⟩ (Nat.le_of_ble_eq_true rfl) trivial (fun rv27 F27 fr27 rr27 pp27 sm_ => hat 30 rfl ?_)
      have e_ := (sm_ rfl).symm
      subst e_
      obtain ⟨a_, k_, x27, ea_, er_, hx27⟩ := pp27
      cases ea_; subst er_
      refine h_if c (hd 18 30 _ _ rfl) (tgt := 62) (by decide) (fun (h30 : x27.toInt = 0) => ?_) (fun (h30 : ¬ (x27.toInt = 0)) => hat 33 rfl ?_)
      · skip
        refine h_inc c (fun r_ => [(2, .int r_), (1, .int w1), (0, .ref (G.2.1.1 114))]) (hd 40 62 _ _ rfl) (by decide) (by decide) (by rfl) (by omega) (fun _ => by rfl) (fun v62 e62 => hat 65 rfl ?_)
        refine h_goto c (hd 41 65 _ _ rfl) (tgt := 12) (by decide) ?_
        exact h_less (L := [(2, .int v62), (1, .int w1), (0, .ref (G.2.1.1 114))]) (by simp) (ih (((F 114 44).toInt - w1.toInt) * 100 + (F 114 45).toInt - v62.toInt).toNat (by omega) _ _ _ fr1 hmo (by omega) (by omega) (by omega) (by omega) rfl)
      · skip
        refine h_aln c (hd 19 33 _ _ rfl) (by rfl) (hat 34 rfl ?_)
        refine h_getR c (hd 20 34 _ _ rfl) fgX12_84 gnX12_84_114 (hat 37 rfl ?_)
        refine h_iln c (hd 21 37 _ _ rfl) (by rfl) (hat 38 rfl ?_)
        refine h_iald c (hd 22 38 _ _ rfl) la_94 ⟨by omega, by omega⟩ rfl (x := F 94 w1.toInt.toNat) (fr1 94 w1.toInt.toNat (by decide) (by rfl)) (hat 39 rfl ?_)
        refine h_aln c (hd 23 39 _ _ rfl) (by rfl) (hat 40 rfl ?_)
        refine h_getR c (hd 24 40 _ _ rfl) fgX12_87 gnX12_87_114 (hat 43 rfl ?_)
        refine h_iln c (hd 25 43 _ _ rfl) (by rfl) (hat 44 rfl ?_)
        refine h_iald c (hd 26 44 _ _ rfl) la_95 ⟨by omega, by omega⟩ rfl (x := F 95 w2.toInt.toNat) (fr1 95 w2.toInt.toNat (by decide) (by rfl)) (hat 45 rfl ?_)
        refine h_cmp c (hd 27 45 _ _ rfl) (tgt := 62) (by decide) (fun (h45 : (F 94 w1.toInt.toNat).toInt ≠ (F 95 w2.toInt.toNat).toInt) => ?_) (fun (h45 : ¬ ((F 94 w1.toInt.toNat).toInt ≠ (F 95 w2.toInt.toNat).toInt)) => hat 48 rfl ?_)
        · skip
          refine h_inc c (fun r_ => [(2, .int r_), (1, .int w1), (0, .ref (G.2.1.1 114))]) (hd 40 62 _ _ rfl) (by decide) (by decide) (by rfl) (by omega) (fun _ => by rfl) (fun v62 e62 => hat 65 rfl ?_)
          refine h_goto c (hd 41 65 _ _ rfl) (tgt := 12) (by decide) ?_
          exact h_less (L := [(2, .int v62), (1, .int w1), (0, .ref (G.2.1.1 114))]) (by simp) (ih (((F 114 44).toInt - w1.toInt) * 100 + (F 114 45).toInt - v62.toInt).toNat (by omega) _ _ _ fr1 hmo (by omega) (by omega) (by omega) (by omega) rfl)
        · skip
          refine h_aln c (hd 28 48 _ _ rfl) (by rfl) (hat 49 rfl ?_)
          refine h_getR c (hd 29 49 _ _ rfl) fgX12_90 gnX12_90_114 (hat 52 rfl ?_)
          refine h_iln c (hd 30 52 _ _ rfl) (by rfl) (hat 53 rfl ?_)
          refine h_ic c (hd 31 53 _ _ rfl) (by decide) (fun v53 e53 => hat 54 rfl ?_)
          refine h_add c (hd 32 54 _ _ rfl) (by omega) (fun v54 e54 => hat 55 rfl ?_)
          refine h_dup2 c (hd 33 55 _ _ rfl) (by rfl) (by rfl) (hat 56 rfl ?_)
          refine h_iald c (hd 34 56 _ _ rfl) la_96 ⟨by omega, by omega⟩ rfl (x := F1 96 v54.toInt.toNat) (rfl) (hat 57 rfl ?_)
          refine h_ic c (hd 35 57 _ _ rfl) (by decide) (fun v57 e57 => hat 58 rfl ?_)
          refine h_iln c (hd 36 58 _ _ rfl) (by rfl) (hat 59 rfl ?_)
          refine h_shl c (hd 37 59 _ _ rfl) (hat 60 rfl ?_)
          refine h_or c (hd 38 60 _ _ rfl) (hat 61 rfl ?_)
          refine h_iast c (hd 39 61 _ _ rfl) la_96 ⟨by omega, by omega⟩ rfl (by decide) (by decide) (hin1 (rf_in_top _)) (hat 62 rfl ?_)
          refine h_inc c (fun r_ => [(2, .int r_), (1, .int w1), (0, .ref (G.2.1.1 114))]) (hd 40 62 _ _ rfl) (by decide) (by decide) (by rfl) (by omega) (fun _ => by rfl) (fun v62 e62 => hat 65 rfl ?_)
          refine h_goto c (hd 41 65 _ _ rfl) (tgt := 12) (by decide) ?_
          exact h_less (L := [(2, .int v62), (1, .int w1), (0, .ref (G.2.1.1 114))]) (by simp) (ih (((F 114 44).toInt - w1.toInt) * 100 + (F 114 45).toInt - v62.toInt).toNat (by omega) _ _ _ (hframe_up fr1 (by rfl) _) (hMono_up hmo _ _) (by omega) (by omega) (by omega) (by omega) rfl)
  refine h_ic c (hd 0 0 _ _ rfl) (by decide) (fun v0 e0 => hat 1 rfl ?_)
  refine h_isn c (hd 1 1 _ _ rfl) (by decide) (L' := [(1, .int v0), (0, .ref (G.2.1.1 114))]) (by rfl) (hat 2 rfl ?_)
  refine h_iln c (hd 2 2 _ _ rfl) (by rfl) (hat 3 rfl ?_)
  refine h_aln c (hd 3 3 _ _ rfl) (by rfl) (hat 4 rfl ?_)
  refine h_getI c (hd 4 4 _ _ rfl) fgX12_384 gnX12_384_114 (x := F 114 44) (rfl) (hat 7 rfl ?_)
  refine h_cmp c (hd 5 7 _ _ rfl) (tgt := 74) (by decide) (fun (h7 : (F 114 44).toInt ≤ v0.toInt) => ?_) (fun (h7 : ¬ ((F 114 44).toInt ≤ v0.toInt)) => hat 10 rfl ?_)
  · skip
    exact h_vret c (hd 44 74 _ _ rfl) rfl ⟨rfl, fun _ _ h => h⟩
  · skip
    refine h_ic c (hd 6 10 _ _ rfl) (by decide) (fun v10 e10 => hat 11 rfl ?_)
    refine h_isn c (hd 7 11 _ _ rfl) (by decide) (L' := [(2, .int v10), (1, .int v0), (0, .ref (G.2.1.1 114))]) (by rfl) (hat 12 rfl ?_)
    exact h_less (L := [(2, .int v10), (1, .int v0), (0, .ref (G.2.1.1 114))]) (by simp) (K12 _ _ _ F (hframe_rf _ _) (fun _ _ h => h) (by omega) (by omega) (by omega) (by omega) rfl)
def hM_step : rfM := ((⟨"NearSpellModel", "goStep", "()V"⟩, prog_14_method_60_code, 3, none), (7,500), ([.inr (.inl [114])],[]), [(96,0),(97,0)], [])
def ddX12_goStep : List (Nat × Instr × Nat) := [(0,.iconst 0,1),(1,.istore_n 1,1),(2,.iload_n 1,1),(3,.aload_n 0,1),(4,.getfield 384,3),(7,.if_icmp .gt 59,3),(10,.iload_n 1,1),(11,.ifCond .ne 7,3),(14,.iconst 0,1),(15,.goto 11,3),(18,.aload_n 0,1),(19,.getfield 90,3),(22,.iload_n 1,1),(23,.iconst 1,1),(24,.isub,1),(25,.iaload,1),(26,.istore_n 2,1),(27,.aload_n 0,1),(28,.getfield 93,3),(31,.iload_n 1,1),(32,.aload_n 0,1),(33,.getfield 90,3),(36,.iload_n 1,1),(37,.iaload,1),(38,.aload_n 0,1),(39,.getfield 90,3),(42,.iload_n 1,1),(43,.iaload,1),(44,.iconst 1,1),(45,.ishl,1),(46,.ior,1),(47,.iload_n 2,1),(48,.ior,1),(49,.iload_n 2,1),(50,.iconst 1,1),(51,.ishl,1),(52,.ior,1),(53,.aload_n 0,1),(54,.iload_n 1,1),(55,.invokevirtual 390,3),(58,.ior,1),(59,.iastore,1),(60,.iinc 1 1,3),(63,.goto (-61),3),(66,.iconst 0,1),(67,.istore_n 1,1),(68,.iload_n 1,1),(69,.aload_n 0,1),(70,.getfield 384,3),(73,.if_icmp .gt 30,3),(76,.aload_n 0,1),(77,.getfield 90,3),(80,.iload_n 1,1),(81,.aload_n 0,1),(82,.getfield 93,3),(85,.iload_n 1,1),(86,.iaload,1),(87,.iconst 2,1),(88,.aload_n 0,1),(89,.getfield 387,3),(92,.ishl,1),(93,.iconst 1,1),(94,.isub,1),(95,.iand,1),(96,.iastore,1),(97,.iinc 1 1,3),(100,.goto (-32),3),(103,.aload_n 0,1),(104,.invokevirtual 393,3),(107,.return_,1)]
set_option maxRecDepth 100000 in
theorem dkX12_goStep : rf_decs prog_14_method_60_code ddX12_goStep := rf_decs_of (by decide +kernel)
set_option maxHeartbeats 4000000 in
set_option maxRecDepth 20000 in
theorem hp_step {G : rfG} (hG : okG G) (n : Nat) : h_met G hM_step (fun _ F => hInv (F 114 44).toInt (F 114 45).toInt n F) (fun _ F F' rv => rv = none ∧ hInv (F 114 44).toInt (F 114 45).toInt (n + 1) F') := by
  refine h_metOf hG.1 (by decide +kernel) (by decide) hG.2.2.1 (wflT hG flokX12) (wcsT hG csokX12) ?_
  intro vs w0 X hv_ hr hp c
  match vs, hv_ with
  | [_], ⟨⟨_, hj0, rfl⟩, _⟩ =>
  cases List.mem_singleton.mp hj0
  have hd : ∀ n pc i len, ddX12_goStep[n]? = some (pc, i, len) → decode (mb hM_step) pc = .ok (i, len) := fun n pc i len h => hdk dkX12_goStep n pc i len h
  show hW G X hM_step w0 0 [(0, .ref (G.2.1.1 114))] [] (hv w0)
  generalize hF0 : hv w0 = F at *
  have ho : 0 ≤ (F 114 44).toInt ∧ (F 114 44).toInt ≤ 12 := hrg hr ly_114_44
  have ht : 0 ≤ (F 114 45).toInt ∧ (F 114 45).toInt ≤ 12 := hrg hr ly_114_45
  have K68 : ∀ (m : Nat) (w1 : Int32) (F1 : HF), hframe [(96, 0), (97, 0)] F F1 → (∀ i k : Nat, (i : Int) ≤ (F 114 44).toInt → (k : Int) ≤ (F 114 45).toInt → i ≤ n + 1 → k ≤ n + 1 → bt (F1 97 i) k = true) → (∀ i k : Nat, (i : Int) < w1.toInt → (i : Int) ≤ (F 114 44).toInt → (k : Int) ≤ (F 114 45).toInt → i ≤ n + 1 → k ≤ n + 1 → bt (F1 96 i) k = true) → 0 ≤ w1.toInt → w1.toInt ≤ 13 → m = ((F 114 44).toInt + 1 - w1.toInt).toNat → hW G X hM_step w0 68 [(1, .int w1), (0, .ref (G.2.1.1 114))] [] F1 := by
    intro m
    induction m using Nat.strongRecOn with
    | ind m ih =>
    intro w1 F1 fr1 hta hcw h10 h11 hm
    refine h_iln c (hd 46 68 _ _ rfl) (by rfl) (hat 69 rfl ?_)
    refine h_aln c (hd 47 69 _ _ rfl) (by rfl) (hat 70 rfl ?_)
    refine h_getI c (hd 48 70 _ _ rfl) fgX12_384 gnX12_384_114 (x := F 114 44) (fr1 114 44 (by decide) (by rfl)) (hat 73 rfl ?_)
    refine h_cmp c (hd 49 73 _ _ rfl) (tgt := 103) (by decide) (fun (h73 : (F 114 44).toInt < w1.toInt) => ?_) (fun (h73 : ¬ ((F 114 44).toInt < w1.toInt)) => hat 76 rfl ?_)
    · skip
      refine h_aln c (hd 67 103 _ _ rfl) (by rfl) (hat 104 rfl ?_)
      refine h_callVF c (M' := hM_along) (hp_along hG) (by decide +kernel) (wlkV (lkX12_393 hG) _ rfl rfl) (j := 114) (by decide +kernel) (hd 68 104 _ _ rfl) [] (rest := []) (by rfl) ⟨⟨114, by decide, rfl⟩, trivial⟩ (Nat.le_of_ble_eq_true rfl) trivial (fun rv104 F104 fr104 rr104 pp104 sm_ => hat 107 rfl ?_)
      obtain ⟨er_, hq104⟩ := pp104
      subst er_
      exact h_vret c (hd 69 107 _ _ rfl) rfl ⟨rfl, fun i k g1 g2 g3 g4 => hq104 i k (hcw i k (by omega) g1 g2 g3 g4)⟩
    · skip
      refine h_aln c (hd 50 76 _ _ rfl) (by rfl) (hat 77 rfl ?_)
      refine h_getR c (hd 51 77 _ _ rfl) fgX12_90 gnX12_90_114 (hat 80 rfl ?_)
      refine h_iln c (hd 52 80 _ _ rfl) (by rfl) (hat 81 rfl ?_)
      refine h_aln c (hd 53 81 _ _ rfl) (by rfl) (hat 82 rfl ?_)
      refine h_getR c (hd 54 82 _ _ rfl) fgX12_93 gnX12_93_114 (hat 85 rfl ?_)
      refine h_iln c (hd 55 85 _ _ rfl) (by rfl) (hat 86 rfl ?_)
      refine h_iald c (hd 56 86 _ _ rfl) la_97 ⟨by omega, by omega⟩ rfl (x := F1 97 w1.toInt.toNat) (rfl) (hat 87 rfl ?_)
      refine h_ic c (hd 57 87 _ _ rfl) (by decide) (fun v87 e87 => hat 88 rfl ?_)
      refine h_aln c (hd 58 88 _ _ rfl) (by rfl) (hat 89 rfl ?_)
      refine h_getI c (hd 59 89 _ _ rfl) fgX12_387 gnX12_387_114 (x := F 114 45) (fr1 114 45 (by decide) (by rfl)) (hat 92 rfl ?_)
      refine h_shl c (hd 60 92 _ _ rfl) (hat 93 rfl ?_)
      refine h_ic c (hd 61 93 _ _ rfl) (by decide) (fun v93 e93 => hat 94 rfl ?_)
      refine h_subW c (hd 62 94 _ _ rfl) (hat 95 rfl ?_)
      refine h_and c (hd 63 95 _ _ rfl) (hat 96 rfl ?_)
      refine h_iast c (hd 64 96 _ _ rfl) la_96 ⟨by omega, by omega⟩ rfl (by decide) (by decide) (hin1 (rf_in_top _)) (hat 97 rfl ?_)
      refine h_inc c (fun r_ => [(1, .int r_), (0, .ref (G.2.1.1 114))]) (hd 65 97 _ _ rfl) (by decide) (by decide) (by rfl) (by omega) (fun _ => by rfl) (fun v97 e97 => hat 100 rfl ?_)
      refine h_goto c (hd 66 100 _ _ rfl) (tgt := 68) (by decide) ?_
      refine h_less (L := [(1, .int v97), (0, .ref (G.2.1.1 114))]) (by simp) (ih ((F 114 44).toInt + 1 - v97.toInt).toNat (by omega) _ _ (hframe_up fr1 (by rfl) _) hta (fun i k g1 g2 g3 g4 g5 => ?_) (by omega) (by omega) rfl)
      show bt (if i = w1.toInt.toNat then (F1 97 w1.toInt.toNat) &&& ((v87 <<< ((F 114 45) &&& 31)) - v93) else F1 96 i) k = true
      by_cases e_ : i = w1.toInt.toNat
      · rw [if_pos e_, b_and, ← e_, hta i k g2 g3 g4 g5, h_mask ht.1 ht.2 e87 e93 g3]; rfl
      · rw [if_neg e_]; exact hcw i k (by omega) g2 g3 g4 g5
  have K2 : ∀ (m : Nat) (w1 : Int32) (F1 : HF), hframe [(97, 0)] F F1 → (∀ i k : Nat, (i : Int) < w1.toInt → (k : Int) ≤ (F 114 45).toInt → i ≤ n + 1 → k ≤ n + 1 → bt (F1 97 i) k = true) → 0 ≤ w1.toInt → w1.toInt ≤ 13 → m = ((F 114 44).toInt + 1 - w1.toInt).toNat → hW G X hM_step w0 2 [(1, .int w1), (0, .ref (G.2.1.1 114))] [] F1 := by
    intro m
    induction m using Nat.strongRecOn with
    | ind m ih =>
    intro w1 F1 fr1 htw h10 h11 hm
    refine h_iln c (hd 2 2 _ _ rfl) (by rfl) (hat 3 rfl ?_)
    refine h_aln c (hd 3 3 _ _ rfl) (by rfl) (hat 4 rfl ?_)
    refine h_getI c (hd 4 4 _ _ rfl) fgX12_384 gnX12_384_114 (x := F 114 44) (fr1 114 44 (by decide) (by rfl)) (hat 7 rfl ?_)
    refine h_cmp c (hd 5 7 _ _ rfl) (tgt := 66) (by decide) (fun (h7 : (F 114 44).toInt < w1.toInt) => ?_) (fun (h7 : ¬ ((F 114 44).toInt < w1.toInt)) => hat 10 rfl ?_)
    · skip
      refine h_ic c (hd 44 66 _ _ rfl) (by decide) (fun v66 e66 => hat 67 rfl ?_)
      refine h_isn c (hd 45 67 _ _ rfl) (by decide) (L' := [(1, .int v66), (0, .ref (G.2.1.1 114))]) (by rfl) (hat 68 rfl ?_)
      exact h_less (L := [(1, .int v66), (0, .ref (G.2.1.1 114))]) (by simp) (K68 _ _ F1 (hframe_tr (hframe_rf [(96, 0), (97, 0)] F) fr1 (by decide)) (fun i k g1 g2 g3 g4 => htw i k (by omega) g2 g3 g4) (fun i k g1 => by omega) (by omega) (by omega) rfl)
    · skip
      refine h_iln c (hd 6 10 _ _ rfl) (by rfl) (hat 11 rfl ?_)
      refine h_if c (hd 7 11 _ _ rfl) (tgt := 18) (by decide) (fun (h11 : w1.toInt ≠ 0) => ?_) (fun (h11 : ¬ (w1.toInt ≠ 0)) => hat 14 rfl ?_)
      · skip
        refine h_aln c (hd 10 18 _ _ rfl) (by rfl) (hat 19 rfl ?_)
        refine h_getR c (hd 11 19 _ _ rfl) fgX12_90 gnX12_90_114 (hat 22 rfl ?_)
        refine h_iln c (hd 12 22 _ _ rfl) (by rfl) (hat 23 rfl ?_)
        refine h_ic c (hd 13 23 _ _ rfl) (by decide) (fun v23 e23 => hat 24 rfl ?_)
        refine h_sub c (hd 14 24 _ _ rfl) (by omega) (fun v24 e24 => hat 25 rfl ?_)
        refine h_iald c (hd 15 25 _ _ rfl) la_96 ⟨by omega, by omega⟩ rfl (x := F 96 v24.toInt.toNat) (fr1 96 v24.toInt.toNat (by decide) (by rfl)) (hat 26 rfl ?_)
        refine h_isn c (hd 16 26 _ _ rfl) (by decide) (L' := [(2, .int (F 96 v24.toInt.toNat)), (1, .int w1), (0, .ref (G.2.1.1 114))]) (by rfl) (hat 27 rfl ?_)
        refine h_aln c (hd 17 27 _ _ rfl) (by rfl) (hat 28 rfl ?_)
        refine h_getR c (hd 18 28 _ _ rfl) fgX12_93 gnX12_93_114 (hat 31 rfl ?_)
        refine h_iln c (hd 19 31 _ _ rfl) (by rfl) (hat 32 rfl ?_)
        refine h_aln c (hd 20 32 _ _ rfl) (by rfl) (hat 33 rfl ?_)
        refine h_getR c (hd 21 33 _ _ rfl) fgX12_90 gnX12_90_114 (hat 36 rfl ?_)
        refine h_iln c (hd 22 36 _ _ rfl) (by rfl) (hat 37 rfl ?_)
        refine h_iald c (hd 23 37 _ _ rfl) la_96 ⟨by omega, by omega⟩ rfl (x := F 96 w1.toInt.toNat) (fr1 96 w1.toInt.toNat (by decide) (by rfl)) (hat 38 rfl ?_)
        refine h_aln c (hd 24 38 _ _ rfl) (by rfl) (hat 39 rfl ?_)
        refine h_getR c (hd 25 39 _ _ rfl) fgX12_90 gnX12_90_114 (hat 42 rfl ?_)
        refine h_iln c (hd 26 42 _ _ rfl) (by rfl) (hat 43 rfl ?_)
        refine h_iald c (hd 27 43 _ _ rfl) la_96 ⟨by omega, by omega⟩ rfl (x := F 96 w1.toInt.toNat) (fr1 96 w1.toInt.toNat (by decide) (by rfl)) (hat 44 rfl ?_)
        refine h_ic c (hd 28 44 _ _ rfl) (by decide) (fun v44 e44 => hat 45 rfl ?_)
        refine h_shl c (hd 29 45 _ _ rfl) (hat 46 rfl ?_)
        refine h_or c (hd 30 46 _ _ rfl) (hat 47 rfl ?_)
        refine h_iln c (hd 31 47 _ _ rfl) (by rfl) (hat 48 rfl ?_)
        refine h_or c (hd 32 48 _ _ rfl) (hat 49 rfl ?_)
        refine h_iln c (hd 33 49 _ _ rfl) (by rfl) (hat 50 rfl ?_)
        refine h_ic c (hd 34 50 _ _ rfl) (by decide) (fun v50 e50 => hat 51 rfl ?_)
        refine h_shl c (hd 35 51 _ _ rfl) (hat 52 rfl ?_)
        refine h_or c (hd 36 52 _ _ rfl) (hat 53 rfl ?_)
        refine h_aln c (hd 37 53 _ _ rfl) (by rfl) (hat 54 rfl ?_)
        refine h_iln c (hd 38 54 _ _ rfl) (by rfl) (hat 55 rfl ?_)
        refine h_callV c (M' := q1223_M) (q1223_met hG) (by decide +kernel) (by decide +kernel) (wlkV (lkX12_390 hG) _ rfl rfl) (j := 114) (by decide +kernel) (hd 39 55 _ _ rfl) [.int w1] (rest := [.int ((((F 96 w1.toInt.toNat) ||| ((F 96 w1.toInt.toNat) <<< (v44 &&& 31))) ||| (F 96 v24.toInt.toNat)) ||| ((F 96 v24.toInt.toNat) <<< (v50 &&& 31))), .int w1, .ref (G.2.1.1 97)]) (by rfl) ⟨⟨114, by decide, rfl⟩, ⟨_, rfl, rf_in1 (by omega) (by omega), trivial⟩, trivial⟩ (Nat.le_of_ble_eq_true rfl) (fun q hq => absurd hq List.not_mem_nil) (fun rv55 F55 fr55 rr55 pp55 sm_ => hat 58 rfl ?_)
        have e_ := (sm_ rfl).symm
        subst e_
        obtain ⟨k_, hk_, pp55⟩ := pp55
        rcases hm1 hk_ with rfl
        obtain ⟨x55, hrv_, hx55⟩ := hk_val pp55
        subst hrv_
        have hx55 : 0 ≤ x55.toInt ∧ x55.toInt ≤ 16383 := ⟨hx55.1, hx55.2.1⟩
        refine h_or c (hd 40 58 _ _ rfl) (hat 59 rfl ?_)
        refine h_iast c (hd 41 59 _ _ rfl) la_97 ⟨by omega, by omega⟩ rfl (by decide) (by decide) (hin1 (rf_in_top _)) (hat 60 rfl ?_)
        refine h_inc c (fun r_ => [(1, .int r_), (2, .int (F 96 v24.toInt.toNat)), (0, .ref (G.2.1.1 114))]) (hd 42 60 _ _ rfl) (by decide) (by decide) (by rfl) (by omega) (fun _ => by rfl) (fun v60 e60 => hat 63 rfl ?_)
        refine h_goto c (hd 43 63 _ _ rfl) (tgt := 2) (by decide) ?_
        have hnw : ∀ k : Nat, (k : Int) ≤ (F 114 45).toInt → w1.toInt.toNat ≤ n + 1 → k ≤ n + 1 → bt (((((F 96 w1.toInt.toNat) ||| ((F 96 w1.toInt.toNat) <<< (v44 &&& 31))) ||| (F 96 v24.toInt.toNat)) ||| ((F 96 v24.toInt.toNat) <<< (v50 &&& 31))) ||| x55) k = true := fun k g3 g4 g5 => by
          refine h_stepb e44 e50 (by omega) ?_
          rcases Nat.lt_or_ge w1.toInt.toNat (n + 1) with p_ | p_ <;> rcases Nat.lt_or_ge k (n + 1) with q_ | q_
          · exact Or.inl (hp w1.toInt.toNat k (by omega) g3 (by omega) (by omega))
          · exact Or.inr (Or.inl ⟨by omega, (hp w1.toInt.toNat (k - 1) (by omega) (by omega) (by omega) (by omega))⟩)
          · exact Or.inr (Or.inr (Or.inl (hp v24.toInt.toNat k (by omega) g3 (by omega) (by omega))))
          · exact Or.inr (Or.inr (Or.inr ⟨by omega, (hp v24.toInt.toNat (k - 1) (by omega) (by omega) (by omega) (by omega))⟩))
        refine h_less (L := [(1, .int v60), (0, .ref (G.2.1.1 114))]) (by simp) (ih ((F 114 44).toInt + 1 - v60.toInt).toNat (by omega) _ _ (hframe_up fr1 (by rfl) _) (fun i k g1 g3 g4 g5 => ?_) (by omega) (by omega) rfl)
        show bt (if i = w1.toInt.toNat then ((((F 96 w1.toInt.toNat) ||| ((F 96 w1.toInt.toNat) <<< (v44 &&& 31))) ||| (F 96 v24.toInt.toNat)) ||| ((F 96 v24.toInt.toNat) <<< (v50 &&& 31))) ||| x55 else F1 97 i) k = true
        by_cases e_ : i = w1.toInt.toNat
        · rw [if_pos e_]; exact hnw k g3 (by omega) g5
        · rw [if_neg e_]; exact htw i k (by omega) g3 g4 g5
      · skip
        refine h_ic c (hd 8 14 _ _ rfl) (by decide) (fun v14 e14 => hat 15 rfl ?_)
        refine h_goto c (hd 9 15 _ _ rfl) (tgt := 26) (by decide) ?_
        refine h_isn c (hd 16 26 _ _ rfl) (by decide) (L' := [(2, .int v14), (1, .int w1), (0, .ref (G.2.1.1 114))]) (by rfl) (hat 27 rfl ?_)
        refine h_aln c (hd 17 27 _ _ rfl) (by rfl) (hat 28 rfl ?_)
        refine h_getR c (hd 18 28 _ _ rfl) fgX12_93 gnX12_93_114 (hat 31 rfl ?_)
        refine h_iln c (hd 19 31 _ _ rfl) (by rfl) (hat 32 rfl ?_)
        refine h_aln c (hd 20 32 _ _ rfl) (by rfl) (hat 33 rfl ?_)
        refine h_getR c (hd 21 33 _ _ rfl) fgX12_90 gnX12_90_114 (hat 36 rfl ?_)
        refine h_iln c (hd 22 36 _ _ rfl) (by rfl) (hat 37 rfl ?_)
        refine h_iald c (hd 23 37 _ _ rfl) la_96 ⟨by omega, by omega⟩ rfl (x := F 96 w1.toInt.toNat) (fr1 96 w1.toInt.toNat (by decide) (by rfl)) (hat 38 rfl ?_)
        refine h_aln c (hd 24 38 _ _ rfl) (by rfl) (hat 39 rfl ?_)
        refine h_getR c (hd 25 39 _ _ rfl) fgX12_90 gnX12_90_114 (hat 42 rfl ?_)
        refine h_iln c (hd 26 42 _ _ rfl) (by rfl) (hat 43 rfl ?_)
        refine h_iald c (hd 27 43 _ _ rfl) la_96 ⟨by omega, by omega⟩ rfl (x := F 96 w1.toInt.toNat) (fr1 96 w1.toInt.toNat (by decide) (by rfl)) (hat 44 rfl ?_)
        refine h_ic c (hd 28 44 _ _ rfl) (by decide) (fun v44 e44 => hat 45 rfl ?_)
        refine h_shl c (hd 29 45 _ _ rfl) (hat 46 rfl ?_)
        refine h_or c (hd 30 46 _ _ rfl) (hat 47 rfl ?_)
        refine h_iln c (hd 31 47 _ _ rfl) (by rfl) (hat 48 rfl ?_)
        refine h_or c (hd 32 48 _ _ rfl) (hat 49 rfl ?_)
        refine h_iln c (hd 33 49 _ _ rfl) (by rfl) (hat 50 rfl ?_)
        refine h_ic c (hd 34 50 _ _ rfl) (by decide) (fun v50 e50 => hat 51 rfl ?_)
        refine h_shl c (hd 35 51 _ _ rfl) (hat 52 rfl ?_)
        refine h_or c (hd 36 52 _ _ rfl) (hat 53 rfl ?_)
        refine h_aln c (hd 37 53 _ _ rfl) (by rfl) (hat 54 rfl ?_)
        refine h_iln c (hd 38 54 _ _ rfl) (by rfl) (hat 55 rfl ?_)
        refine h_callV c (M' := q1223_M) (q1223_met hG) (by decide +kernel) (by decide +kernel) (wlkV (lkX12_390 hG) _ rfl rfl) (j := 114) (by decide +kernel) (hd 39 55 _ _ rfl) [.int w1] (rest := [.int ((((F 96 w1.toInt.toNat) ||| ((F 96 w1.toInt.toNat) <<< (v44 &&& 31))) ||| v14) ||| (v14 <<< (v50 &&& 31))), .int w1, .ref (G.2.1.1 97)]) (by rfl) ⟨⟨114, by decide, rfl⟩, ⟨_, rfl, rf_in1 (by omega) (by omega), trivial⟩, trivial⟩ (Nat.le_of_ble_eq_true rfl) (fun q hq => absurd hq List.not_mem_nil) (fun rv55 F55 fr55 rr55 pp55 sm_ => hat 58 rfl ?_)
        have e_ := (sm_ rfl).symm
        subst e_
        obtain ⟨k_, hk_, pp55⟩ := pp55
        rcases hm1 hk_ with rfl
        obtain ⟨x55, hrv_, hx55⟩ := hk_val pp55
        subst hrv_
        have hx55 : 0 ≤ x55.toInt ∧ x55.toInt ≤ 16383 := ⟨hx55.1, hx55.2.1⟩
        refine h_or c (hd 40 58 _ _ rfl) (hat 59 rfl ?_)
        refine h_iast c (hd 41 59 _ _ rfl) la_97 ⟨by omega, by omega⟩ rfl (by decide) (by decide) (hin1 (rf_in_top _)) (hat 60 rfl ?_)
        refine h_inc c (fun r_ => [(1, .int r_), (2, .int v14), (0, .ref (G.2.1.1 114))]) (hd 42 60 _ _ rfl) (by decide) (by decide) (by rfl) (by omega) (fun _ => by rfl) (fun v60 e60 => hat 63 rfl ?_)
        refine h_goto c (hd 43 63 _ _ rfl) (tgt := 2) (by decide) ?_
        have hnw : ∀ k : Nat, (k : Int) ≤ (F 114 45).toInt → w1.toInt.toNat ≤ n + 1 → k ≤ n + 1 → bt (((((F 96 w1.toInt.toNat) ||| ((F 96 w1.toInt.toNat) <<< (v44 &&& 31))) ||| v14) ||| (v14 <<< (v50 &&& 31))) ||| x55) k = true := fun k g3 g4 g5 => by
          refine h_stepb e44 e50 (by omega) ?_
          rcases Nat.lt_or_ge k (n + 1) with q_ | q_
          · exact Or.inl (hp w1.toInt.toNat k (by omega) g3 (by omega) (by omega))
          · exact Or.inr (Or.inl ⟨by omega, (hp w1.toInt.toNat (k - 1) (by omega) (by omega) (by omega) (by omega))⟩)
        refine h_less (L := [(1, .int v60), (0, .ref (G.2.1.1 114))]) (by simp) (ih ((F 114 44).toInt + 1 - v60.toInt).toNat (by omega) _ _ (hframe_up fr1 (by rfl) _) (fun i k g1 g3 g4 g5 => ?_) (by omega) (by omega) rfl)
        show bt (if i = w1.toInt.toNat then ((((F 96 w1.toInt.toNat) ||| ((F 96 w1.toInt.toNat) <<< (v44 &&& 31))) ||| v14) ||| (v14 <<< (v50 &&& 31))) ||| x55 else F1 97 i) k = true
        by_cases e_ : i = w1.toInt.toNat
        · rw [if_pos e_]; exact hnw k g3 (by omega) g5
        · rw [if_neg e_]; exact htw i k (by omega) g3 g4 g5
  refine h_ic c (hd 0 0 _ _ rfl) (by decide) (fun v0 e0 => hat 1 rfl ?_)
  refine h_isn c (hd 1 1 _ _ rfl) (by decide) (L' := [(1, .int v0), (0, .ref (G.2.1.1 114))]) (by rfl) (hat 2 rfl ?_)
  exact h_less (L := [(1, .int v0), (0, .ref (G.2.1.1 114))]) (by simp) (K2 _ _ F (hframe_rf _ _) (fun i k g1 => by omega) (by omega) (by omega) rfl)
def ddX12_stepsNow : List (Nat × Instr × Nat) := [(0,.iconst 0,1),(1,.istore_n 1,1),(2,.iload_n 1,1),(3,.aload_n 0,1),(4,.getfield 384,3),(7,.if_icmp .gt 16,3),(10,.aload_n 0,1),(11,.getfield 90,3),(14,.iload_n 1,1),(15,.iconst 0,1),(16,.iastore,1),(17,.iinc 1 1,3),(20,.goto (-18),3),(23,.aload_n 0,1),(24,.getfield 90,3),(27,.iconst 0,1),(28,.iconst 1,1),(29,.iastore,1),(30,.aload_n 0,1),(31,.invokevirtual 393,3),(34,.iconst 0,1),(35,.istore_n 1,1),(36,.iload_n 1,1),(37,.bipush 13,2),(39,.if_icmp .ge 32,3),(42,.aload_n 0,1),(43,.getfield 90,3),(46,.aload_n 0,1),(47,.getfield 384,3),(50,.iaload,1),(51,.aload_n 0,1),(52,.getfield 387,3),(55,.invokestatic 251,3),(58,.ifCond .ne 13,3),(61,.aload_n 0,1),(62,.invokevirtual 396,3),(65,.iinc 1 1,3),(68,.goto (-32),3),(71,.iload_n 1,1),(72,.ireturn,1)]
set_option maxRecDepth 100000 in
theorem dkX12_stepsNow : rf_decs prog_14_method_61_code ddX12_stepsNow := rf_decs_of (by decide +kernel)
set_option maxHeartbeats 8000000 in
set_option maxRecDepth 20000 in
theorem hp_steps {G : rfG} (hG : okG G) : rf_met G q864_M := by
  refine h_rfOf hG.1 (by decide +kernel) (by decide) hG.2.2.1 (wflT hG flokX12) (wcsT hG csokX12) (by decide +kernel) ?_
  intro vs w0 X hv_ hr hp c
  match vs, hv_ with
  | [_], ⟨⟨_, hj0, rfl⟩, _⟩ =>
  cases List.mem_singleton.mp hj0
  have hd : ∀ n pc i len, ddX12_stepsNow[n]? = some (pc, i, len) → decode (mb q864_M) pc = .ok (i, len) := fun n pc i len h => hdk dkX12_stepsNow n pc i len h
  show hW G X q864_M w0 0 [(0, .ref (G.2.1.1 114))] [] (hv w0)
  generalize hF0 : hv w0 = F at *
  have ho : 0 ≤ (F 114 44).toInt ∧ (F 114 44).toInt ≤ 12 := hrg hr ly_114_44
  have ht : 0 ≤ (F 114 45).toInt ∧ (F 114 45).toInt ≤ 12 := hrg hr ly_114_45
  have K36 : ∀ (m : Nat) (w1 : Int32) (F1 : HF), hframe [(96, 0), (97, 0)] F F1 → hInv (F 114 44).toInt (F 114 45).toInt w1.toInt.toNat F1 → 0 ≤ w1.toInt → w1.toInt ≤ 12 → m = (13 - w1.toInt).toNat → hW G X q864_M w0 36 [(1, .int w1), (0, .ref (G.2.1.1 114))] [] F1 := by
    intro m
    induction m using Nat.strongRecOn with
    | ind m ih =>
    intro w1 F1 fr1 hiv h10 h11 hm
    refine h_iln c (hd 22 36 _ _ rfl) (by rfl) (hat 37 rfl ?_)
    refine h_bp c (hd 23 37 _ _ rfl) (by decide) (fun v37 e37 => hat 39 rfl ?_)
    refine h_cmp c (hd 24 39 _ _ rfl) (tgt := 71) (by decide) (fun (h39 : v37.toInt ≤ w1.toInt) => ?_) (fun (h39 : ¬ (v37.toInt ≤ w1.toInt)) => hat 42 rfl ?_)
    · skip
      refine h_iln c (hd 38 71 _ _ rfl) (by rfl) (hat 72 rfl ?_)
      exact h_iret c (hd 39 72 _ _ rfl) rfl (fun _ => ⟨_, List.mem_cons_self, ⟨_, rfl, rf_in1 (by omega) (by omega)⟩, fun q hq => absurd hq List.not_mem_nil, fun q hq => absurd hq List.not_mem_nil⟩)
    · skip
      refine h_aln c (hd 25 42 _ _ rfl) (by rfl) (hat 43 rfl ?_)
      refine h_getR c (hd 26 43 _ _ rfl) fgX12_90 gnX12_90_114 (hat 46 rfl ?_)
      refine h_aln c (hd 27 46 _ _ rfl) (by rfl) (hat 47 rfl ?_)
      refine h_getI c (hd 28 47 _ _ rfl) fgX12_384 gnX12_384_114 (x := F 114 44) (fr1 114 44 (by decide) (by rfl)) (hat 50 rfl ?_)
      refine h_iald c (hd 29 50 _ _ rfl) la_96 ⟨by omega, by omega⟩ rfl (x := F1 96 ((F 114 44).toInt.toNat)) (rfl) (hat 51 rfl ?_)
      refine h_aln c (hd 30 51 _ _ rfl) (by rfl) (hat 52 rfl ?_)
      refine h_getI c (hd 31 52 _ _ rfl) fgX12_387 gnX12_387_114 (x := F 114 45) (fr1 114 45 (by decide) (by rfl)) (hat 55 rfl ?_)
      refine h_callSF c (M' := hM_bit) (hp_bit hG) (by decide +kernel) (wlkS (lkX12_251 hG) _ rfl rfl) (hd 32 55 _ _ rfl) [.int (F1 96 ((F 114 44).toInt.toNat)), .int (F 114 45)] (rest := []) (by rfl) ⟨⟨_, rfl, rf_in_top _, trivial⟩, ⟨_, rfl, rf_in1 (by omega) (by omega), trivial⟩, trivial⟩ (Nat.le_of_ble_eq_true rfl) trivial (fun rv55 F55 fr55 rr55 pp55 sm_ => hat 58 rfl ?_)
      have e_ := (sm_ rfl).symm
      subst e_
      obtain ⟨a_, k_, x55, ea_, er_, hx55⟩ := pp55
      cases ea_; subst er_
      refine h_if c (hd 33 58 _ _ rfl) (tgt := 71) (by decide) (fun (h58 : x55.toInt ≠ 0) => ?_) (fun (h58 : ¬ (x55.toInt ≠ 0)) => hat 61 rfl ?_)
      · skip
        refine h_iln c (hd 38 71 _ _ rfl) (by rfl) (hat 72 rfl ?_)
        exact h_iret c (hd 39 72 _ _ rfl) rfl (fun _ => ⟨_, List.mem_cons_self, ⟨_, rfl, rf_in1 (by omega) (by omega)⟩, fun q hq => absurd hq List.not_mem_nil, fun q hq => absurd hq List.not_mem_nil⟩)
      · skip
        have h12 : w1.toInt ≤ 11 := by
          rcases Int.lt_or_le 11 w1.toInt with g_ | g_
          · exfalso
            have b_ := hiv (F 114 44).toInt.toNat (F 114 45).toInt.toNat (by omega) (by omega) (by omega) (by omega)
            rcases hx55 with h_ | h_
            · omega
            · rw [b_] at h_; exact absurd h_.2 (by decide)
          · exact g_
        refine h_aln c (hd 34 61 _ _ rfl) (by rfl) (hat 62 rfl ?_)
        refine h_callVF c (M' := hM_step) (hp_step hG w1.toInt.toNat) (by decide +kernel) (wlkV (lkX12_396 hG) _ rfl rfl) (j := 114) (by decide +kernel) (hd 35 62 _ _ rfl) [] (rest := []) (by rfl) ⟨⟨114, by decide, rfl⟩, trivial⟩ (Nat.le_of_ble_eq_true rfl) (by rw [show F1 114 44 = F 114 44 from fr1 114 44 (by decide) (by rfl), show F1 114 45 = F 114 45 from fr1 114 45 (by decide) (by rfl)]; exact hiv) (fun rv62 F62 fr62 rr62 pp62 sm_ => hat 65 rfl ?_)
        obtain ⟨er_, hq62⟩ := pp62
        subst er_
        refine h_inc c (fun r_ => [(1, .int r_), (0, .ref (G.2.1.1 114))]) (hd 36 65 _ _ rfl) (by decide) (by decide) (by rfl) (by omega) (fun _ => by rfl) (fun v65 e65 => hat 68 rfl ?_)
        refine h_goto c (hd 37 68 _ _ rfl) (tgt := 36) (by decide) ?_
        exact h_less (L := [(1, .int v65), (0, .ref (G.2.1.1 114))]) (by simp) (ih (13 - v65.toInt).toNat (by omega) _ _ (hframe_tr fr1 fr62 (by decide)) (by have e_ : v65.toInt.toNat = w1.toInt.toNat + 1 := (by omega); rw [e_]; have q_ := hq62; rw [show F1 114 44 = F 114 44 from fr1 114 44 (by decide) (by rfl), show F1 114 45 = F 114 45 from fr1 114 45 (by decide) (by rfl)] at q_; exact q_) (by omega) (by omega) rfl)
  have K23 : ∀ (w1 : Int32) (F1 : HF), hframe [(96, 0)] F F1 → hW G X q864_M w0 23 [(1, .int w1), (0, .ref (G.2.1.1 114))] [] F1 := by
    intro w1 F1 fr1
    refine h_aln c (hd 13 23 _ _ rfl) (by rfl) (hat 24 rfl ?_)
    refine h_getR c (hd 14 24 _ _ rfl) fgX12_90 gnX12_90_114 (hat 27 rfl ?_)
    refine h_ic c (hd 15 27 _ _ rfl) (by decide) (fun v27 e27 => hat 28 rfl ?_)
    refine h_ic c (hd 16 28 _ _ rfl) (by decide) (fun v28 e28 => hat 29 rfl ?_)
    refine h_iast c (hd 17 29 _ _ rfl) la_96 ⟨by omega, by omega⟩ (congrArg Int.toNat e27) (by decide) (by decide) (rf_in_top _) (hat 30 rfl ?_)
    refine h_aln c (hd 18 30 _ _ rfl) (by rfl) (hat 31 rfl ?_)
    refine h_callVF c (M' := hM_along) (hp_along hG) (by decide +kernel) (wlkV (lkX12_393 hG) _ rfl rfl) (j := 114) (by decide +kernel) (hd 19 31 _ _ rfl) [] (rest := []) (by rfl) ⟨⟨114, by decide, rfl⟩, trivial⟩ (Nat.le_of_ble_eq_true rfl) trivial (fun rv31 F31 fr31 rr31 pp31 sm_ => hat 34 rfl ?_)
    obtain ⟨er_, hq31⟩ := pp31
    subst er_
    refine h_ic c (hd 20 34 _ _ rfl) (by decide) (fun v34 e34 => hat 35 rfl ?_)
    refine h_isn c (hd 21 35 _ _ rfl) (by decide) (L' := [(1, .int v34), (0, .ref (G.2.1.1 114))]) (by rfl) (hat 36 rfl ?_)
    exact h_less (L := [(1, .int v34), (0, .ref (G.2.1.1 114))]) (by simp) (K36 _ _ _ (hframe_tr (hframe_rf [(96, 0), (97, 0)] F) (hframe_tr (hframe_up fr1 (by rfl) _) fr31 (by decide)) (by decide)) (fun i k g1 g2 g3 g4 => by have e1_ : i = 0 := (by omega); have e2_ : k = 0 := (by omega); subst e1_; subst e2_; exact hq31 0 0 (by show bt (v28 : Int32) 0 = true; cases h_c1 e28; decide)) (by omega) (by omega) rfl)
  have K2 : ∀ (m : Nat) (w1 : Int32) (F1 : HF), hframe [(96, 0)] F F1 → 0 ≤ w1.toInt → w1.toInt ≤ 13 → m = ((F 114 44).toInt + 1 - w1.toInt).toNat → hW G X q864_M w0 2 [(1, .int w1), (0, .ref (G.2.1.1 114))] [] F1 := by
    intro m
    induction m using Nat.strongRecOn with
    | ind m ih =>
    intro w1 F1 fr1 h10 h11 hm
    refine h_iln c (hd 2 2 _ _ rfl) (by rfl) (hat 3 rfl ?_)
    refine h_aln c (hd 3 3 _ _ rfl) (by rfl) (hat 4 rfl ?_)
    refine h_getI c (hd 4 4 _ _ rfl) fgX12_384 gnX12_384_114 (x := F 114 44) (fr1 114 44 (by decide) (by rfl)) (hat 7 rfl ?_)
    refine h_cmp c (hd 5 7 _ _ rfl) (tgt := 23) (by decide) (fun (h7 : (F 114 44).toInt < w1.toInt) => ?_) (fun (h7 : ¬ ((F 114 44).toInt < w1.toInt)) => hat 10 rfl ?_)
    · skip
      exact h_less (L := [(1, .int w1), (0, .ref (G.2.1.1 114))]) (by simp) (K23 _ _ fr1)
    · skip
      refine h_aln c (hd 6 10 _ _ rfl) (by rfl) (hat 11 rfl ?_)
      refine h_getR c (hd 7 11 _ _ rfl) fgX12_90 gnX12_90_114 (hat 14 rfl ?_)
      refine h_iln c (hd 8 14 _ _ rfl) (by rfl) (hat 15 rfl ?_)
      refine h_ic c (hd 9 15 _ _ rfl) (by decide) (fun v15 e15 => hat 16 rfl ?_)
      refine h_iast c (hd 10 16 _ _ rfl) la_96 ⟨by omega, by omega⟩ rfl (by decide) (by decide) (hin1 (rf_in_top _)) (hat 17 rfl ?_)
      refine h_inc c (fun r_ => [(1, .int r_), (0, .ref (G.2.1.1 114))]) (hd 11 17 _ _ rfl) (by decide) (by decide) (by rfl) (by omega) (fun _ => by rfl) (fun v17 e17 => hat 20 rfl ?_)
      refine h_goto c (hd 12 20 _ _ rfl) (tgt := 2) (by decide) ?_
      exact h_less (L := [(1, .int v17), (0, .ref (G.2.1.1 114))]) (by simp) (ih ((F 114 44).toInt + 1 - v17.toInt).toNat (by omega) _ _ (hframe_up fr1 (by rfl) _) (by omega) (by omega) rfl)
  refine h_ic c (hd 0 0 _ _ rfl) (by decide) (fun v0 e0 => hat 1 rfl ?_)
  refine h_isn c (hd 1 1 _ _ rfl) (by decide) (L' := [(1, .int v0), (0, .ref (G.2.1.1 114))]) (by rfl) (hat 2 rfl ?_)
  exact h_less (L := [(1, .int v0), (0, .ref (G.2.1.1 114))]) (by simp) (K2 _ _ F (hframe_rf _ _) (by omega) (by omega) rfl)
def hM_fof : rfM := ((⟨"NearSpellModel", "firstOf", "(I)I"⟩, prog_14_method_48_code, 2, (some .int)), (4,200), ([.inl (((-2147483648),2147483647,1),none)],[]), [], [])
def ddX12_firstOf : List (Nat × Instr × Nat) := [(0,.iconst 0,1),(1,.istore_n 1,1),(2,.iload_n 1,1),(3,.bipush 14,2),(5,.if_icmp .ge 19,3),(8,.iload_n 0,1),(9,.iload_n 1,1),(10,.invokestatic 251,3),(13,.ifCond .eq 5,3),(16,.iload_n 1,1),(17,.ireturn,1),(18,.iinc 1 1,3),(21,.goto (-19),3),(24,.iconst (-1),1),(25,.ireturn,1)]
set_option maxRecDepth 100000 in
theorem dkX12_firstOf : rf_decs prog_14_method_48_code ddX12_firstOf := rf_decs_of (by decide +kernel)
set_option maxHeartbeats 4000000 in
set_option maxRecDepth 20000 in
theorem hp_fof {G : rfG} (hG : okG G) : h_met G hM_fof (fun vs _ => ∃ a : Int32, vs[0]? = some (.int a) ∧ ∃ k, k < 14 ∧ bt a k = true) (fun vs _ _ rv => ∃ a x : Int32, vs[0]? = some (.int a) ∧ rv = some (.int x) ∧ 0 ≤ x.toInt ∧ x.toInt < 14 ∧ bt a x.toInt.toNat = true) := by
  refine h_metOf hG.1 (by decide +kernel) (by decide) hG.2.2.1 (wflT hG flokX12) (wcsT hG csokX12) ?_
  intro vs w0 X hv_ hr hp c
  match vs, hv_ with
  | [_], ⟨⟨a, rfl, hi_a, _⟩, _⟩ =>
  have hd : ∀ n pc i len, ddX12_firstOf[n]? = some (pc, i, len) → decode (mb hM_fof) pc = .ok (i, len) := fun n pc i len h => hdk dkX12_firstOf n pc i len h
  show hW G X hM_fof w0 0 [(0, .int a)] [] (hv w0)
  generalize hF0 : hv w0 = F at *
  obtain ⟨a_, ea_, ke, hke, hbe⟩ := hp
  cases ea_
  have K2 : ∀ (m : Nat) (w1 : Int32), 0 ≤ w1.toInt → w1.toInt ≤ (ke : Int) → m = (14 - w1.toInt).toNat → hW G X hM_fof w0 2 [(1, .int w1), (0, .int a)] [] F := by
    intro m
    induction m using Nat.strongRecOn with
    | ind m ih =>
    intro w1 h10 h11 hm
    refine h_iln c (hd 2 2 _ _ rfl) (by rfl) (hat 3 rfl ?_)
    refine h_bp c (hd 3 3 _ _ rfl) (by decide) (fun v3 e3 => hat 5 rfl ?_)
    refine h_cmp c (hd 4 5 _ _ rfl) (tgt := 24) (by decide) (fun (h5 : v3.toInt ≤ w1.toInt) => ?_) (fun (h5 : ¬ (v3.toInt ≤ w1.toInt)) => hat 8 rfl ?_)
    · skip
      refine h_ic c (hd 13 24 _ _ rfl) (by decide) (fun v24 e24 => hat 25 rfl ?_)
      exfalso
      omega
    · skip
      refine h_iln c (hd 5 8 _ _ rfl) (by rfl) (hat 9 rfl ?_)
      refine h_iln c (hd 6 9 _ _ rfl) (by rfl) (hat 10 rfl ?_)
      refine h_callSF c (M' := hM_bit) (hp_bit hG) (by decide +kernel) (wlkS (lkX12_251 hG) _ rfl rfl) (hd 7 10 _ _ rfl) [.int a, .int w1] (rest := []) (by rfl) ⟨⟨_, rfl, rf_in_top _, trivial⟩, ⟨_, rfl, rf_in1 (by omega) (by omega), trivial⟩, trivial⟩ (Nat.le_of_ble_eq_true rfl) trivial (fun rv10 F10 fr10 rr10 pp10 sm_ => hat 13 rfl ?_)
      have e_ := (sm_ rfl).symm
      subst e_
      obtain ⟨a_, k_, x10, ea_, er_, hx10⟩ := pp10
      cases ea_; subst er_
      refine h_if c (hd 8 13 _ _ rfl) (tgt := 18) (by decide) (fun (h13 : x10.toInt = 0) => ?_) (fun (h13 : ¬ (x10.toInt = 0)) => hat 16 rfl ?_)
      · skip
        refine h_inc c (fun r_ => [(1, .int r_), (0, .int a)]) (hd 11 18 _ _ rfl) (by decide) (by decide) (by rfl) (by omega) (fun _ => by rfl) (fun v18 e18 => hat 21 rfl ?_)
        refine h_goto c (hd 12 21 _ _ rfl) (tgt := 2) (by decide) ?_
        exact h_less (L := [(1, .int v18), (0, .int a)]) (by simp) (ih (14 - v18.toInt).toNat (by omega) _ (by omega) (by have n_ : w1.toInt ≠ (ke : Int) := (fun q_ => by rcases hx10 with h_ | h_; omega; have e_ : w1.toInt.toNat = ke := (by omega); rw [e_, hbe] at h_; exact absurd h_.2 (by decide)); omega) rfl)
      · skip
        refine h_iln c (hd 9 16 _ _ rfl) (by rfl) (hat 17 rfl ?_)
        rcases hx10 with h_ | h_
        · exact h_iret c (hd 10 17 _ _ rfl) rfl ⟨a, _, rfl, rfl, by omega, by omega, h_.2⟩
        · exfalso; omega
  refine h_ic c (hd 0 0 _ _ rfl) (by decide) (fun v0 e0 => hat 1 rfl ?_)
  refine h_isn c (hd 1 1 _ _ rfl) (by decide) (L' := [(1, .int v0), (0, .int a)]) (by rfl) (hat 2 rfl ?_)
  exact h_less (L := [(1, .int v0), (0, .int a)]) (by simp) (K2 _ _ (by omega) (by omega) rfl)
def hM_nof : rfM := ((⟨"NearSpellModel", "nearestOf", "(I)I"⟩, prog_14_method_66_code, 4, (some .int)), (4,200), ([.inr (.inl [114]), .inl (((-2147483648),2147483647,1),none)],[]), [], [])
set_option maxHeartbeats 4000000 in
set_option maxRecDepth 20000 in
theorem hp_nof {G : rfG} (hG : okG G) : h_met G hM_nof (fun vs _ => ∃ a : Int32, vs[1]? = some (.int a) ∧ ∃ k, k < 14 ∧ bt a k = true) (fun vs _ _ rv => ∃ a x : Int32, vs[1]? = some (.int a) ∧ rv = some (.int x) ∧ 0 ≤ x.toInt ∧ x.toInt < 14 ∧ bt a x.toInt.toNat = true) := by
  refine h_metOf hG.1 (by decide +kernel) (by decide) hG.2.2.1 (wflT hG flokX12) (wcsT hG csokX12) ?_
  intro vs w0 X hv_ hr hp c
  match vs, hv_ with
  | [_, _], ⟨⟨_, hj0, rfl⟩, ⟨a, rfl, hi_a, _⟩, _⟩ =>
  cases List.mem_singleton.mp hj0
  have hd : ∀ n pc i len, ddX12_nearestOf[n]? = some (pc, i, len) → decode (mb hM_nof) pc = .ok (i, len) := fun n pc i len h => hdk dkX12_nearestOf n pc i len h
  show hW G X hM_nof w0 0 [(0, .ref (G.2.1.1 114)), (1, .int a)] [] (hv w0)
  generalize hF0 : hv w0 = F at *
  obtain ⟨a_, ea_, ke, hke, hbe⟩ := hp
  cases ea_
  have K4 : ∀ (m : Nat) (w2 w3 : Int32), 0 ≤ w3.toInt → w3.toInt ≤ 14 → ((w2.toInt = -1 ∧ w3.toInt ≤ (ke : Int)) ∨ (0 ≤ w2.toInt ∧ w2.toInt < 14 ∧ bt a w2.toInt.toNat = true)) → m = (14 - w3.toInt).toNat → hW G X hM_nof w0 4 [(3, .int w3), (2, .int w2), (1, .int a), (0, .ref (G.2.1.1 114))] [] F := by
    intro m
    induction m using Nat.strongRecOn with
    | ind m ih =>
    intro w2 w3 h30 h31 hst hm
    refine h_iln c (hd 4 4 _ _ rfl) (by rfl) (hat 5 rfl ?_)
    refine h_bp c (hd 5 5 _ _ rfl) (by decide) (fun v5 e5 => hat 7 rfl ?_)
    refine h_cmp c (hd 6 7 _ _ rfl) (tgt := 84) (by decide) (fun (h7 : v5.toInt ≤ w3.toInt) => ?_) (fun (h7 : ¬ (v5.toInt ≤ w3.toInt)) => hat 10 rfl ?_)
    · skip
      refine h_iln c (hd 49 84 _ _ rfl) (by rfl) (hat 85 rfl ?_)
      rcases hst with ⟨q1, q2⟩ | ⟨q1, q2, q3⟩
      · exfalso; omega
      · exact h_iret c (hd 50 85 _ _ rfl) rfl ⟨a, _, rfl, rfl, q1, q2, q3⟩
    · skip
      refine h_iln c (hd 7 10 _ _ rfl) (by rfl) (hat 11 rfl ?_)
      refine h_iln c (hd 8 11 _ _ rfl) (by rfl) (hat 12 rfl ?_)
      refine h_callSF c (M' := hM_bit) (hp_bit hG) (by decide +kernel) (wlkS (lkX12_251 hG) _ rfl rfl) (hd 9 12 _ _ rfl) [.int a, .int w3] (rest := []) (by rfl) ⟨⟨_, rfl, rf_in_top _, trivial⟩, ⟨_, rfl, rf_in1 (by omega) (by omega), trivial⟩, trivial⟩ (Nat.le_of_ble_eq_true rfl) trivial (fun rv12 F12 fr12 rr12 pp12 sm_ => hat 15 rfl ?_)
      have e_ := (sm_ rfl).symm
      subst e_
      obtain ⟨a_, k_, x12, ea_, er_, hx12⟩ := pp12
      cases ea_; subst er_
      refine h_if c (hd 10 15 _ _ rfl) (tgt := 21) (by decide) (fun (h15 : x12.toInt ≠ 0) => ?_) (fun (h15 : ¬ (x12.toInt ≠ 0)) => hat 18 rfl ?_)
      · skip
        refine h_iln c (hd 12 21 _ _ rfl) (by rfl) (hat 22 rfl ?_)
        refine h_if c (hd 13 22 _ _ rfl) (tgt := 76) (by decide) (fun (h22 : w2.toInt < 0) => ?_) (fun (h22 : ¬ (w2.toInt < 0)) => hat 25 rfl ?_)
        · skip
          refine h_iln c (hd 45 76 _ _ rfl) (by rfl) (hat 77 rfl ?_)
          refine h_isn c (hd 46 77 _ _ rfl) (by decide) (L' := [(2, .int w3), (3, .int w3), (1, .int a), (0, .ref (G.2.1.1 114))]) (by rfl) (hat 78 rfl ?_)
          refine h_inc c (fun r_ => [(3, .int r_), (2, .int w3), (1, .int a), (0, .ref (G.2.1.1 114))]) (hd 47 78 _ _ rfl) (by decide) (by decide) (by rfl) (by omega) (fun _ => by rfl) (fun v78 e78 => hat 81 rfl ?_)
          refine h_goto c (hd 48 81 _ _ rfl) (tgt := 4) (by decide) ?_
          exact h_less (L := [(3, .int v78), (2, .int w3), (1, .int a), (0, .ref (G.2.1.1 114))]) (by simp) (ih (14 - v78.toInt).toNat (by omega) _ _ (by omega) (by omega) (Or.inr ⟨by omega, by omega, by rcases hx12 with h_ | h_; exact h_.2; omega⟩) rfl)
        · skip
          have hw2 : 0 ≤ w2.toInt ∧ w2.toInt < 14 := by rcases hst with q1 | q1 <;> omega
          refine h_aln c (hd 14 25 _ _ rfl) (by rfl) (hat 26 rfl ?_)
          refine h_getR c (hd 15 26 _ _ rfl) fgX12_96 gnX12_96_114 (hat 29 rfl ?_)
          refine h_iln c (hd 16 29 _ _ rfl) (by rfl) (hat 30 rfl ?_)
          refine h_iald c (hd 17 30 _ _ rfl) la_98 ⟨by omega, by omega⟩ rfl (x := F 98 w3.toInt.toNat) (rfl) (hat 31 rfl ?_)
          refine h_aln c (hd 18 31 _ _ rfl) (by rfl) (hat 32 rfl ?_)
          refine h_getR c (hd 19 32 _ _ rfl) fgX12_96 gnX12_96_114 (hat 35 rfl ?_)
          refine h_iln c (hd 20 35 _ _ rfl) (by rfl) (hat 36 rfl ?_)
          refine h_iald c (hd 21 36 _ _ rfl) la_98 ⟨by omega, by omega⟩ rfl (x := F 98 w2.toInt.toNat) (rfl) (hat 37 rfl ?_)
          refine h_cmp c (hd 22 37 _ _ rfl) (tgt := 76) (by decide) (fun (h37 : (F 98 w3.toInt.toNat).toInt < (F 98 w2.toInt.toNat).toInt) => ?_) (fun (h37 : ¬ ((F 98 w3.toInt.toNat).toInt < (F 98 w2.toInt.toNat).toInt)) => hat 40 rfl ?_)
          · skip
            refine h_iln c (hd 45 76 _ _ rfl) (by rfl) (hat 77 rfl ?_)
            refine h_isn c (hd 46 77 _ _ rfl) (by decide) (L' := [(2, .int w3), (3, .int w3), (1, .int a), (0, .ref (G.2.1.1 114))]) (by rfl) (hat 78 rfl ?_)
            refine h_inc c (fun r_ => [(3, .int r_), (2, .int w3), (1, .int a), (0, .ref (G.2.1.1 114))]) (hd 47 78 _ _ rfl) (by decide) (by decide) (by rfl) (by omega) (fun _ => by rfl) (fun v78 e78 => hat 81 rfl ?_)
            refine h_goto c (hd 48 81 _ _ rfl) (tgt := 4) (by decide) ?_
            exact h_less (L := [(3, .int v78), (2, .int w3), (1, .int a), (0, .ref (G.2.1.1 114))]) (by simp) (ih (14 - v78.toInt).toNat (by omega) _ _ (by omega) (by omega) (Or.inr ⟨by omega, by omega, by rcases hx12 with h_ | h_; exact h_.2; omega⟩) rfl)
          · skip
            refine h_aln c (hd 23 40 _ _ rfl) (by rfl) (hat 41 rfl ?_)
            refine h_getR c (hd 24 41 _ _ rfl) fgX12_96 gnX12_96_114 (hat 44 rfl ?_)
            refine h_iln c (hd 25 44 _ _ rfl) (by rfl) (hat 45 rfl ?_)
            refine h_iald c (hd 26 45 _ _ rfl) la_98 ⟨by omega, by omega⟩ rfl (x := F 98 w3.toInt.toNat) (rfl) (hat 46 rfl ?_)
            refine h_aln c (hd 27 46 _ _ rfl) (by rfl) (hat 47 rfl ?_)
            refine h_getR c (hd 28 47 _ _ rfl) fgX12_96 gnX12_96_114 (hat 50 rfl ?_)
            refine h_iln c (hd 29 50 _ _ rfl) (by rfl) (hat 51 rfl ?_)
            refine h_iald c (hd 30 51 _ _ rfl) la_98 ⟨by omega, by omega⟩ rfl (x := F 98 w2.toInt.toNat) (rfl) (hat 52 rfl ?_)
            refine h_cmp c (hd 31 52 _ _ rfl) (tgt := 78) (by decide) (fun (h52 : (F 98 w3.toInt.toNat).toInt ≠ (F 98 w2.toInt.toNat).toInt) => ?_) (fun (h52 : ¬ ((F 98 w3.toInt.toNat).toInt ≠ (F 98 w2.toInt.toNat).toInt)) => hat 55 rfl ?_)
            · skip
              refine h_inc c (fun r_ => [(3, .int r_), (2, .int w2), (1, .int a), (0, .ref (G.2.1.1 114))]) (hd 47 78 _ _ rfl) (by decide) (by decide) (by rfl) (by omega) (fun _ => by rfl) (fun v78 e78 => hat 81 rfl ?_)
              refine h_goto c (hd 48 81 _ _ rfl) (tgt := 4) (by decide) ?_
              exact h_less (L := [(3, .int v78), (2, .int w2), (1, .int a), (0, .ref (G.2.1.1 114))]) (by simp) (ih (14 - v78.toInt).toNat (by omega) _ _ (by omega) (by omega) (by rcases hst with ⟨q1, q2⟩ | q1; omega; exact Or.inr q1) rfl)
            · skip
              refine h_aln c (hd 32 55 _ _ rfl) (by rfl) (hat 56 rfl ?_)
              refine h_getR c (hd 33 56 _ _ rfl) fgX12_72 gnX12_72_114 (hat 59 rfl ?_)
              refine h_bp c (hd 34 59 _ _ rfl) (by decide) (fun v59 e59 => hat 61 rfl ?_)
              refine h_iln c (hd 35 61 _ _ rfl) (by rfl) (hat 62 rfl ?_)
              refine h_add c (hd 36 62 _ _ rfl) (by omega) (fun v62 e62 => hat 63 rfl ?_)
              refine h_iald c (hd 37 63 _ _ rfl) la_90 ⟨by omega, by omega⟩ rfl (x := F 90 v62.toInt.toNat) (rfl) (hat 64 rfl ?_)
              refine h_aln c (hd 38 64 _ _ rfl) (by rfl) (hat 65 rfl ?_)
              refine h_getR c (hd 39 65 _ _ rfl) fgX12_72 gnX12_72_114 (hat 68 rfl ?_)
              refine h_bp c (hd 40 68 _ _ rfl) (by decide) (fun v68 e68 => hat 70 rfl ?_)
              refine h_iln c (hd 41 70 _ _ rfl) (by rfl) (hat 71 rfl ?_)
              refine h_add c (hd 42 71 _ _ rfl) (by omega) (fun v71 e71 => hat 72 rfl ?_)
              refine h_iald c (hd 43 72 _ _ rfl) la_90 ⟨by omega, by omega⟩ rfl (x := F 90 v71.toInt.toNat) (rfl) (hat 73 rfl ?_)
              refine h_cmp c (hd 44 73 _ _ rfl) (tgt := 78) (by decide) (fun (h73 : (F 90 v62.toInt.toNat).toInt ≤ (F 90 v71.toInt.toNat).toInt) => ?_) (fun (h73 : ¬ ((F 90 v62.toInt.toNat).toInt ≤ (F 90 v71.toInt.toNat).toInt)) => hat 76 rfl ?_)
              · skip
                refine h_inc c (fun r_ => [(3, .int r_), (2, .int w2), (1, .int a), (0, .ref (G.2.1.1 114))]) (hd 47 78 _ _ rfl) (by decide) (by decide) (by rfl) (by omega) (fun _ => by rfl) (fun v78 e78 => hat 81 rfl ?_)
                refine h_goto c (hd 48 81 _ _ rfl) (tgt := 4) (by decide) ?_
                exact h_less (L := [(3, .int v78), (2, .int w2), (1, .int a), (0, .ref (G.2.1.1 114))]) (by simp) (ih (14 - v78.toInt).toNat (by omega) _ _ (by omega) (by omega) (by rcases hst with ⟨q1, q2⟩ | q1; omega; exact Or.inr q1) rfl)
              · skip
                refine h_iln c (hd 45 76 _ _ rfl) (by rfl) (hat 77 rfl ?_)
                refine h_isn c (hd 46 77 _ _ rfl) (by decide) (L' := [(2, .int w3), (3, .int w3), (1, .int a), (0, .ref (G.2.1.1 114))]) (by rfl) (hat 78 rfl ?_)
                refine h_inc c (fun r_ => [(3, .int r_), (2, .int w3), (1, .int a), (0, .ref (G.2.1.1 114))]) (hd 47 78 _ _ rfl) (by decide) (by decide) (by rfl) (by omega) (fun _ => by rfl) (fun v78 e78 => hat 81 rfl ?_)
                refine h_goto c (hd 48 81 _ _ rfl) (tgt := 4) (by decide) ?_
                exact h_less (L := [(3, .int v78), (2, .int w3), (1, .int a), (0, .ref (G.2.1.1 114))]) (by simp) (ih (14 - v78.toInt).toNat (by omega) _ _ (by omega) (by omega) (Or.inr ⟨by omega, by omega, by rcases hx12 with h_ | h_; exact h_.2; omega⟩) rfl)
      · skip
        refine h_goto c (hd 11 18 _ _ rfl) (tgt := 78) (by decide) ?_
        refine h_inc c (fun r_ => [(3, .int r_), (2, .int w2), (1, .int a), (0, .ref (G.2.1.1 114))]) (hd 47 78 _ _ rfl) (by decide) (by decide) (by rfl) (by omega) (fun _ => by rfl) (fun v78 e78 => hat 81 rfl ?_)
        refine h_goto c (hd 48 81 _ _ rfl) (tgt := 4) (by decide) ?_
        exact h_less (L := [(3, .int v78), (2, .int w2), (1, .int a), (0, .ref (G.2.1.1 114))]) (by simp) (ih (14 - v78.toInt).toNat (by omega) _ _ (by omega) (by omega) (by rcases hst with ⟨q1, q2⟩ | q1; exact Or.inl ⟨q1, by have n_ : w3.toInt ≠ (ke : Int) := (fun q_ => by rcases hx12 with h_ | h_; omega; have e_ : w3.toInt.toNat = ke := (by omega); rw [e_, hbe] at h_; exact absurd h_.2 (by decide)); omega⟩; exact Or.inr q1) rfl)
  refine h_ic c (hd 0 0 _ _ rfl) (by decide) (fun v0 e0 => hat 1 rfl ?_)
  refine h_isn c (hd 1 1 _ _ rfl) (by decide) (L' := [(2, .int v0), (0, .ref (G.2.1.1 114)), (1, .int a)]) (by rfl) (hat 2 rfl ?_)
  refine h_ic c (hd 2 2 _ _ rfl) (by decide) (fun v2 e2 => hat 3 rfl ?_)
  refine h_isn c (hd 3 3 _ _ rfl) (by decide) (L' := [(3, .int v2), (2, .int v0), (0, .ref (G.2.1.1 114)), (1, .int a)]) (by rfl) (hat 4 rfl ?_)
  exact h_less (L := [(3, .int v2), (2, .int v0), (1, .int a), (0, .ref (G.2.1.1 114))]) (by simp) (K4 _ _ _ (by omega) (by omega) (Or.inl ⟨by omega, by omega⟩) rfl)
def hM_ost : rfM := ((⟨"NearSpellModel", "oneStep", "(I)I"⟩, prog_14_method_89_code, 4, (some .int)), (4,200), ([.inr (.inl [114]), .inl (((-2147483648),2147483647,1),none)],[]), [], [])
set_option maxHeartbeats 4000000 in
set_option maxRecDepth 20000 in
theorem hp_ost {G : rfG} (hG : okG G) : h_met G hM_ost (fun _ _ => True) (fun vs _ _ rv => ∃ a x : Int32, vs[1]? = some (.int a) ∧ rv = some (.int x) ∧ ∀ k, bt a k = true → bt x k = true) := by
  refine h_metOf hG.1 (by decide +kernel) (by decide) hG.2.2.1 (wflT hG flokX12) (wcsT hG csokX12) ?_
  intro vs w0 X hv_ hr hp c
  match vs, hv_ with
  | [_, _], ⟨⟨_, hj0, rfl⟩, ⟨a, rfl, hi_a, _⟩, _⟩ =>
  cases List.mem_singleton.mp hj0
  have hd : ∀ n pc i len, ddX12_oneStep[n]? = some (pc, i, len) → decode (mb hM_ost) pc = .ok (i, len) := fun n pc i len h => hdk dkX12_oneStep n pc i len h
  show hW G X hM_ost w0 0 [(0, .ref (G.2.1.1 114)), (1, .int a)] [] (hv w0)
  generalize hF0 : hv w0 = F at *
  have K4 : ∀ (m : Nat) (w2 w3 : Int32), 0 ≤ w3.toInt → w3.toInt ≤ 14 → (∀ k, bt a k = true → bt w2 k = true) → m = (14 - w3.toInt).toNat → hW G X hM_ost w0 4 [(3, .int w3), (2, .int w2), (1, .int a), (0, .ref (G.2.1.1 114))] [] F := by
    intro m
    induction m using Nat.strongRecOn with
    | ind m ih =>
    intro w2 w3 h30 h31 hmo hm
    refine h_iln c (hd 4 4 _ _ rfl) (by rfl) (hat 5 rfl ?_)
    refine h_bp c (hd 5 5 _ _ rfl) (by decide) (fun v5 e5 => hat 7 rfl ?_)
    refine h_cmp c (hd 6 7 _ _ rfl) (tgt := 33) (by decide) (fun (h7 : v5.toInt ≤ w3.toInt) => ?_) (fun (h7 : ¬ (v5.toInt ≤ w3.toInt)) => hat 10 rfl ?_)
    · skip
      refine h_iln c (hd 20 33 _ _ rfl) (by rfl) (hat 34 rfl ?_)
      exact h_iret c (hd 21 34 _ _ rfl) rfl ⟨a, _, rfl, rfl, hmo⟩
    · skip
      refine h_iln c (hd 7 10 _ _ rfl) (by rfl) (hat 11 rfl ?_)
      refine h_iln c (hd 8 11 _ _ rfl) (by rfl) (hat 12 rfl ?_)
      refine h_callSF c (M' := hM_bit) (hp_bit hG) (by decide +kernel) (wlkS (lkX12_251 hG) _ rfl rfl) (hd 9 12 _ _ rfl) [.int a, .int w3] (rest := []) (by rfl) ⟨⟨_, rfl, rf_in_top _, trivial⟩, ⟨_, rfl, rf_in1 (by omega) (by omega), trivial⟩, trivial⟩ (Nat.le_of_ble_eq_true rfl) trivial (fun rv12 F12 fr12 rr12 pp12 sm_ => hat 15 rfl ?_)
      have e_ := (sm_ rfl).symm
      subst e_
      obtain ⟨a_, k_, x12, ea_, er_, hx12⟩ := pp12
      cases ea_; subst er_
      refine h_if c (hd 10 15 _ _ rfl) (tgt := 27) (by decide) (fun (h15 : x12.toInt = 0) => ?_) (fun (h15 : ¬ (x12.toInt = 0)) => hat 18 rfl ?_)
      · skip
        refine h_inc c (fun r_ => [(3, .int r_), (2, .int w2), (1, .int a), (0, .ref (G.2.1.1 114))]) (hd 18 27 _ _ rfl) (by decide) (by decide) (by rfl) (by omega) (fun _ => by rfl) (fun v27 e27 => hat 30 rfl ?_)
        refine h_goto c (hd 19 30 _ _ rfl) (tgt := 4) (by decide) ?_
        exact h_less (L := [(3, .int v27), (2, .int w2), (1, .int a), (0, .ref (G.2.1.1 114))]) (by simp) (ih (14 - v27.toInt).toNat (by omega) _ _ (by omega) (by omega) hmo rfl)
      · skip
        refine h_iln c (hd 11 18 _ _ rfl) (by rfl) (hat 19 rfl ?_)
        refine h_aln c (hd 12 19 _ _ rfl) (by rfl) (hat 20 rfl ?_)
        refine h_getR c (hd 13 20 _ _ rfl) fgX12_108 gnX12_108_114 (hat 23 rfl ?_)
        refine h_iln c (hd 14 23 _ _ rfl) (by rfl) (hat 24 rfl ?_)
        refine h_iald c (hd 15 24 _ _ rfl) la_102 ⟨by omega, by omega⟩ rfl (x := F 102 w3.toInt.toNat) (rfl) (hat 25 rfl ?_)
        refine h_or c (hd 16 25 _ _ rfl) (hat 26 rfl ?_)
        refine h_isn c (hd 17 26 _ _ rfl) (by decide) (L' := [(2, .int (w2 ||| (F 102 w3.toInt.toNat))), (3, .int w3), (1, .int a), (0, .ref (G.2.1.1 114))]) (by rfl) (hat 27 rfl ?_)
        refine h_inc c (fun r_ => [(3, .int r_), (2, .int (w2 ||| (F 102 w3.toInt.toNat))), (1, .int a), (0, .ref (G.2.1.1 114))]) (hd 18 27 _ _ rfl) (by decide) (by decide) (by rfl) (by omega) (fun _ => by rfl) (fun v27 e27 => hat 30 rfl ?_)
        refine h_goto c (hd 19 30 _ _ rfl) (tgt := 4) (by decide) ?_
        exact h_less (L := [(3, .int v27), (2, .int (w2 ||| (F 102 w3.toInt.toNat))), (1, .int a), (0, .ref (G.2.1.1 114))]) (by simp) (ih (14 - v27.toInt).toNat (by omega) _ _ (by omega) (by omega) (fun k hk => by rw [b_or, hmo k hk]; rfl) rfl)
  refine h_iln c (hd 0 0 _ _ rfl) (by rfl) (hat 1 rfl ?_)
  refine h_isn c (hd 1 1 _ _ rfl) (by decide) (L' := [(2, .int a), (0, .ref (G.2.1.1 114)), (1, .int a)]) (by rfl) (hat 2 rfl ?_)
  refine h_ic c (hd 2 2 _ _ rfl) (by decide) (fun v2 e2 => hat 3 rfl ?_)
  refine h_isn c (hd 3 3 _ _ rfl) (by decide) (L' := [(3, .int v2), (2, .int a), (0, .ref (G.2.1.1 114)), (1, .int a)]) (by rfl) (hat 4 rfl ?_)
  exact h_less (L := [(3, .int v2), (2, .int a), (1, .int a), (0, .ref (G.2.1.1 114))]) (by simp) (K4 _ _ _ (by omega) (by omega) (fun _ h => h) rfl)
def ddX12_near : List (Nat × Instr × Nat) := [(0,.aload_n 0,1),(1,.iconst 0,1),(2,.putfield 347,3),(5,.iload_n 1,1),(6,.invokestatic 420,3),(9,.ifCond .eq 13,3),(12,.iload_n 2,1),(13,.iconst 0,1),(14,.bipush 6,2),(16,.invokestatic 334,3),(19,.ifCond .ne 5,3),(22,.iconst (-1),1),(23,.ireturn,1),(24,.aload_n 0,1),(25,.iload_n 1,1),(26,.iconst 1,1),(27,.invokevirtual 411,3),(30,.istore_n 3,1),(31,.aload_n 0,1),(32,.iload_n 1,1),(33,.invokevirtual 414,3),(36,.aload_n 0,1),(37,.iload_n 3,1),(38,.iload_n 2,1),(39,.invokevirtual 426,3),(42,.istore_n 3,1),(43,.iload_n 3,1),(44,.ifCond .eq 43,3),(47,.aload_n 0,1),(48,.iload_n 3,1),(49,.invokevirtual 417,3),(52,.istore 4,2),(54,.aload_n 0,1),(55,.getfield 99,3),(58,.aload_n 0,1),(59,.getfield 347,3),(62,.iload 4,2),(64,.iastore,1),(65,.aload_n 0,1),(66,.dup,1),(67,.getfield 347,3),(70,.iconst 1,1),(71,.iadd,1),(72,.putfield 347,3),(75,.iload_n 3,1),(76,.iconst 1,1),(77,.iload 4,2),(79,.ishl,1),(80,.iconst (-1),1),(81,.ixor,1),(82,.iand,1),(83,.istore_n 3,1),(84,.goto (-41),3),(87,.aload_n 0,1),(88,.getfield 347,3),(91,.ireturn,1)]
set_option maxRecDepth 100000 in
theorem dkX12_near : rf_decs prog_14_method_77_code ddX12_near := rf_decs_of (by decide +kernel)
set_option maxHeartbeats 8000000 in
set_option maxRecDepth 20000 in
theorem hp_near0 {G : rfG} (hG : okG G) (hh : w1OK G) : rf_met G q1000_M := by
  refine h_rfOf hG.1 (by decide +kernel) (by decide) hG.2.2.1 (wflT hG flokX12) (wcsT hG csokX12) (by decide +kernel) ?_
  intro vs w0 X hv_ hr hp c
  match vs, hv_ with
  | [_, _, _], ⟨⟨_, hj0, rfl⟩, ⟨p, rfl, hi_p, _⟩, ⟨q, rfl, hi_q, _⟩, _⟩ =>
  cases List.mem_singleton.mp hj0
  have hd : ∀ n pc i len, ddX12_near[n]? = some (pc, i, len) → decode (mb q1000_M) pc = .ok (i, len) := fun n pc i len h => hdk dkX12_near n pc i len h
  show hW G X q1000_M w0 0 [(0, .ref (G.2.1.1 114)), (1, .int p), (2, .int q)] [] (hv w0)
  generalize hF0 : hv w0 = F at *
  have hJ : hgh F 0 = true := hk_gh (hp _ (List.mem_of_getElem? (i := 1) rfl))
  have hbk : (F 114 28).toInt = 0 := by have a_ : 0 ≤ (F 114 28).toInt := (hp _ (List.mem_of_getElem? (i := 0) rfl)).1; have b_ : (F 114 28).toInt ≤ 0 := (hp _ (List.mem_of_getElem? (i := 0) rfl)).2.1; omega
  have K43 : ∀ (m : Nat) (w3 : Int32) (F1 : HF), hframe [(89, 0), (91, 0), (92, 0), (93, 0), (94, 0), (95, 0), (96, 0), (97, 0), (98, 0), (99, 0), (114, 35), (114, 40), (114, 45), (114, 46), (114, 49)] F F1 → hsml w3 → 0 ≤ (F1 114 48).toInt → (F1 114 48).toInt + (hcb w3 14 : Int) ≤ 14 → m = hcb w3 14 → hW G X q1000_M w0 43 [(3, .int w3), (2, .int q), (1, .int p), (0, .ref (G.2.1.1 114))] [] F1 := by
    intro m
    induction m using Nat.strongRecOn with
    | ind m ih =>
    intro w3 F1 fr1 hsm hl0 hl1 hm
    refine h_iln c (hd 26 43 _ _ rfl) (by rfl) (hat 44 rfl ?_)
    refine h_if c (hd 27 44 _ _ rfl) (tgt := 87) (by decide) (fun (h44 : w3.toInt = 0) => ?_) (fun (h44 : ¬ (w3.toInt = 0)) => hat 47 rfl ?_)
    · skip
      refine h_aln c (hd 53 87 _ _ rfl) (by rfl) (hat 88 rfl ?_)
      refine h_getI c (hd 54 88 _ _ rfl) fgX12_347 gnX12_347_114 (x := F1 114 48) (rfl) (hat 91 rfl ?_)
      exact h_iret c (hd 55 91 _ _ rfl) rfl (fun _ => ⟨_, List.mem_cons_self, ⟨_, rfl, rf_in_top _⟩, fun q hq => absurd hq List.not_mem_nil, fun q hq => absurd hq List.not_mem_nil⟩)
    · skip
      have hso := h_some hsm (by omega)
      have hps : 1 ≤ hcb w3 14 := by obtain ⟨k_, g1_, g2_⟩ := hso; exact hcb_pos g2_ g1_
      refine h_aln c (hd 28 47 _ _ rfl) (by rfl) (hat 48 rfl ?_)
      refine h_iln c (hd 29 48 _ _ rfl) (by rfl) (hat 49 rfl ?_)
      refine h_callVF c (M' := hM_nof) (hp_nof hG) (by decide +kernel) (wlkV (lkX12_417 hG) _ rfl rfl) (j := 114) (by decide +kernel) (hd 30 49 _ _ rfl) [.int w3] (rest := []) (by rfl) ⟨⟨114, by decide, rfl⟩, ⟨_, rfl, rf_in_top _, trivial⟩, trivial⟩ (Nat.le_of_ble_eq_true rfl) ⟨w3, rfl, hso⟩ (fun rv49 F49 fr49 rr49 pp49 sm_ => hat 52 rfl ?_)
      have e_ := (sm_ rfl).symm
      subst e_
      obtain ⟨a_, x49, ea_, er_, hx49⟩ := pp49
      cases ea_; subst er_
      refine h_is c (hd 31 52 _ _ rfl) (by decide) (L' := [(4, .int x49), (3, .int w3), (2, .int q), (1, .int p), (0, .ref (G.2.1.1 114))]) (by rfl) (hat 54 rfl ?_)
      refine h_aln c (hd 32 54 _ _ rfl) (by rfl) (hat 55 rfl ?_)
      refine h_getR c (hd 33 55 _ _ rfl) fgX12_99 gnX12_99_114 (hat 58 rfl ?_)
      refine h_aln c (hd 34 58 _ _ rfl) (by rfl) (hat 59 rfl ?_)
      refine h_getI c (hd 35 59 _ _ rfl) fgX12_347 gnX12_347_114 (x := F1 114 48) (rfl) (hat 62 rfl ?_)
      refine h_il c (hd 36 62 _ _ rfl) (by rfl) (hat 64 rfl ?_)
      refine h_iast c (hd 37 64 _ _ rfl) la_99 ⟨by omega, by omega⟩ rfl (by decide) (by decide) (hin1 (rf_in_top _)) (hat 65 rfl ?_)
      refine h_aln c (hd 38 65 _ _ rfl) (by rfl) (hat 66 rfl ?_)
      refine h_dup c (hd 39 66 _ _ rfl) (by rfl) (hat 67 rfl ?_)
      refine h_getI c (hd 40 67 _ _ rfl) fgX12_347 gnX12_347_114 (x := F1 114 48) (rfl) (hat 70 rfl ?_)
      refine h_ic c (hd 41 70 _ _ rfl) (by decide) (fun v70 e70 => hat 71 rfl ?_)
      refine h_add c (hd 42 71 _ _ rfl) (by omega) (fun v71 e71 => hat 72 rfl ?_)
      refine h_putI c (hd 43 72 _ _ rfl) fgX12_347 gnX12_347_114 (by decide) (by decide) rfl (rf_in1 (by omega) (by omega)) (hat 75 rfl ?_)
      refine h_iln c (hd 44 75 _ _ rfl) (by rfl) (hat 76 rfl ?_)
      refine h_ic c (hd 45 76 _ _ rfl) (by decide) (fun v76 e76 => hat 77 rfl ?_)
      refine h_il c (hd 46 77 _ _ rfl) (by rfl) (hat 79 rfl ?_)
      refine h_shl c (hd 47 79 _ _ rfl) (hat 80 rfl ?_)
      refine h_ic c (hd 48 80 _ _ rfl) (by decide) (fun v80 e80 => hat 81 rfl ?_)
      refine h_xor c (hd 49 81 _ _ rfl) (hat 82 rfl ?_)
      refine h_and c (hd 50 82 _ _ rfl) (hat 83 rfl ?_)
      refine h_isn c (hd 51 83 _ _ rfl) (by decide) (L' := [(3, .int (w3 &&& ((v76 <<< (x49 &&& 31)) ^^^ v80))), (4, .int x49), (2, .int q), (1, .int p), (0, .ref (G.2.1.1 114))]) (by rfl) (hat 84 rfl ?_)
      refine h_goto c (hd 52 84 _ _ rfl) (tgt := 43) (by decide) ?_
      have hcl := h_clrL (s := w3) (x := v76 <<< (x49 &&& 31)) (u := v80) e80 hx49.2.2 (by rw [h_one (by omega) (by omega) e76]; exact decide_eq_true rfl) (by omega)
      exact h_less (L := [(3, .int (w3 &&& ((v76 <<< (x49 &&& 31)) ^^^ v80))), (2, .int q), (1, .int p), (0, .ref (G.2.1.1 114))]) (by simp) (ih _ (by rw [hm]; exact hcl) _ _ (hframe_up (hframe_up fr1 (by rfl) _) (by rfl) _) (h_clrS e80 hsm) (show 0 ≤ v71.toInt by omega) (show v71.toInt + _ ≤ 14 by omega) rfl)
  refine h_aln c (hd 0 0 _ _ rfl) (by rfl) (hat 1 rfl ?_)
  refine h_ic c (hd 1 1 _ _ rfl) (by decide) (fun v1 e1 => hat 2 rfl ?_)
  refine h_putI c (hd 2 2 _ _ rfl) fgX12_347 gnX12_347_114 (by decide) (by decide) rfl (rf_in1 (by omega) (by omega)) (hat 5 rfl ?_)
  refine h_iln c (hd 3 5 _ _ rfl) (by rfl) (hat 6 rfl ?_)
  refine h_callS c (M' := q810_M) (q810_met hG) (by decide +kernel) (by decide +kernel) (wlkS (lkX12_420 hG) _ rfl rfl) (hd 4 6 _ _ rfl) [.int p] (rest := []) (by rfl) ⟨⟨_, rfl, rf_in_top _, trivial⟩, trivial⟩ (Nat.le_of_ble_eq_true rfl) (fun q hq => absurd hq List.not_mem_nil) (fun rv6 F6 fr6 rr6 pp6 sm_ => hat 9 rfl ?_)
  have e_ := (sm_ rfl).symm
  subst e_
  obtain ⟨k_, hk_, pp6⟩ := pp6
  rcases hm2 hk_ with rfl | rfl
  · skip
    obtain ⟨x6, hrv_, hx6⟩ := hk_val pp6
    subst hrv_
    have hx6 : 0 ≤ x6.toInt ∧ x6.toInt ≤ 0 := ⟨hx6.1, hx6.2.1⟩
    refine h_if c (hd 5 9 _ _ rfl) (tgt := 22) (by decide) (fun (h9 : x6.toInt = 0) => ?_) (fun (h9 : ¬ (x6.toInt = 0)) => hat 12 rfl ?_)
    · skip
      refine h_ic c (hd 11 22 _ _ rfl) (by decide) (fun v22 e22 => hat 23 rfl ?_)
      exact h_iret c (hd 12 23 _ _ rfl) rfl (fun _ => ⟨_, List.mem_cons_self, ⟨_, rfl, rf_in_top _⟩, fun q hq => absurd hq List.not_mem_nil, fun q hq => absurd hq List.not_mem_nil⟩)
    · skip
      refine h_iln c (hd 6 12 _ _ rfl) (by rfl) (hat 13 rfl ?_)
      refine h_ic c (hd 7 13 _ _ rfl) (by decide) (fun v13 e13 => hat 14 rfl ?_)
      refine h_bp c (hd 8 14 _ _ rfl) (by decide) (fun v14 e14 => hat 16 rfl ?_)
      refine h_callSF c (M' := hM_isIn) (hp_isIn hG) (by decide +kernel) (wlkS (lkX12_334 hG) _ rfl rfl) (hd 9 16 _ _ rfl) [.int q, .int v13, .int v14] (rest := []) (by rfl) ⟨⟨_, rfl, rf_in_top _, trivial⟩, ⟨_, rfl, rf_in_top _, trivial⟩, ⟨_, rfl, rf_in_top _, trivial⟩, trivial⟩ (Nat.le_of_ble_eq_true rfl) trivial (fun rv16 F16 fr16 rr16 pp16 sm_ => hat 19 rfl ?_)
      have e_ := (sm_ rfl).symm
      subst e_
      obtain ⟨a_, b_, d_, x16, ea_, er_, hx16⟩ := pp16
      cases ea_; subst er_
      refine h_if c (hd 10 19 _ _ rfl) (tgt := 24) (by decide) (fun (h19 : x16.toInt ≠ 0) => ?_) (fun (h19 : ¬ (x16.toInt ≠ 0)) => hat 22 rfl ?_)
      · skip
        refine h_aln c (hd 13 24 _ _ rfl) (by rfl) (hat 25 rfl ?_)
        refine h_iln c (hd 14 25 _ _ rfl) (by rfl) (hat 26 rfl ?_)
        refine h_ic c (hd 15 26 _ _ rfl) (by decide) (fun v26 e26 => hat 27 rfl ?_)
        refine h_callV c (M' := q860_M) (q860_met hG hh) (by decide +kernel) (by decide +kernel) (wlkV (lkX12_411 hG) _ rfl rfl) (j := 114) (by decide +kernel) (hd 16 27 _ _ rfl) [.int p, .int v26] (rest := []) (by rfl) ⟨⟨114, by decide, rfl⟩, ⟨_, rfl, rf_in1 (by omega) (by omega), trivial⟩, ⟨_, rfl, hcon (by omega), trivial⟩, trivial⟩ (Nat.le_of_ble_eq_true rfl) (List.forall_mem_cons.mpr ⟨hcon (x := F 114 28) hbk, List.forall_mem_cons.mpr ⟨hg_in (hgh0_same (F := F) (fun _ => rfl) (fun _ => rfl) (fun _ => rfl) hJ), fun _ h => absurd h List.not_mem_nil⟩⟩) (fun rv27 F27 fr27 rr27 pp27 sm_ => hat 30 rfl ?_)
        obtain ⟨k_, hk_, pp27⟩ := pp27
        rcases hm1 hk_ with rfl
        obtain ⟨x27, hrv_, hx27⟩ := hk_val pp27
        subst hrv_
        have hx27 : 0 ≤ x27.toInt ∧ x27.toInt ≤ 16383 := ⟨hx27.1, hx27.2.1⟩
        refine h_isn c (hd 17 30 _ _ rfl) (by decide) (L' := [(3, .int x27), (0, .ref (G.2.1.1 114)), (1, .int p), (2, .int q)]) (by rfl) (hat 31 rfl ?_)
        refine h_aln c (hd 18 31 _ _ rfl) (by rfl) (hat 32 rfl ?_)
        refine h_iln c (hd 19 32 _ _ rfl) (by rfl) (hat 33 rfl ?_)
        refine h_callV c (M' := q868_M) (q868_met hG hh) (by decide +kernel) (by decide +kernel) (wlkV (lkX12_414 hG) _ rfl rfl) (j := 114) (by decide +kernel) (hd 20 33 _ _ rfl) [.int p] (rest := []) (by rfl) ⟨⟨114, by decide, rfl⟩, ⟨_, rfl, rf_in1 (by omega) (by omega), trivial⟩, trivial⟩ (Nat.le_of_ble_eq_true rfl) (fun q hq => absurd hq List.not_mem_nil) (fun rv33 F33 fr33 rr33 pp33 sm_ => hat 36 rfl ?_)
        obtain ⟨k_, hk_, pp33⟩ := pp33
        rcases hm1 hk_ with rfl
        match rv33, pp33 with
        | none, pp33 =>
        skip
        refine h_aln c (hd 21 36 _ _ rfl) (by rfl) (hat 37 rfl ?_)
        refine h_iln c (hd 22 37 _ _ rfl) (by rfl) (hat 38 rfl ?_)
        refine h_iln c (hd 23 38 _ _ rfl) (by rfl) (hat 39 rfl ?_)
        refine h_callV c (M' := q995_M) (q995_met hG) (by decide +kernel) (by decide +kernel) (wlkV (lkX12_426 hG) _ rfl rfl) (j := 114) (by decide +kernel) (hd 24 39 _ _ rfl) [.int x27, .int q] (rest := []) (by rfl) ⟨⟨114, by decide, rfl⟩, ⟨_, rfl, rf_in1 (by omega) (by omega), trivial⟩, ⟨_, rfl, rf_in1 (by omega) (by omega), trivial⟩, trivial⟩ (Nat.le_of_ble_eq_true rfl) (fun q hq => absurd hq List.not_mem_nil) (fun rv39 F39 fr39 rr39 pp39 sm_ => hat 42 rfl ?_)
        have e_ := (sm_ rfl).symm
        subst e_
        obtain ⟨k_, hk_, pp39⟩ := pp39
        rcases hm1 hk_ with rfl
        obtain ⟨x39, hrv_, hx39⟩ := hk_val pp39
        subst hrv_
        have hx39 : 0 ≤ x39.toInt ∧ x39.toInt ≤ 16383 := ⟨hx39.1, hx39.2.1⟩
        refine h_isn c (hd 25 42 _ _ rfl) (by decide) (L' := [(3, .int x39), (0, .ref (G.2.1.1 114)), (1, .int p), (2, .int q)]) (by rfl) (hat 43 rfl ?_)
        have hle := hcb_le x39 14
        have e48_ : F33 114 48 = v1 := (fr33 114 48 (by decide) (by rfl)).trans (fr27 114 48 (by decide) (by rfl))
        exact h_less (L := [(3, .int x39), (2, .int q), (1, .int p), (0, .ref (G.2.1.1 114))]) (by simp) (K43 _ _ _ (hframe_tr (hframe_tr (hframe_up (hframe_rf [(89, 0), (91, 0), (92, 0), (93, 0), (94, 0), (95, 0), (96, 0), (97, 0), (98, 0), (99, 0), (114, 35), (114, 40), (114, 45), (114, 46), (114, 49)] F) (by rfl) _) fr27 (by decide)) fr33 (by decide)) (h_small (by omega) (by omega)) (by rw [e48_]; omega) (by rw [e48_]; omega) rfl)
      · skip
        refine h_ic c (hd 11 22 _ _ rfl) (by decide) (fun v22 e22 => hat 23 rfl ?_)
        exact h_iret c (hd 12 23 _ _ rfl) rfl (fun _ => ⟨_, List.mem_cons_self, ⟨_, rfl, rf_in_top _⟩, fun q hq => absurd hq List.not_mem_nil, fun q hq => absurd hq List.not_mem_nil⟩)
  · skip
    obtain ⟨x6, hrv_, hx6⟩ := hk_val pp6
    subst hrv_
    have hx6 : 1 ≤ x6.toInt ∧ x6.toInt ≤ 1 := ⟨hx6.1, hx6.2.1⟩
    have ga6_0 : 0 ≤ p.toInt ∧ p.toInt ≤ 387420488 := hk_arg pp6 0 rfl rfl
    refine h_if c (hd 5 9 _ _ rfl) (tgt := 22) (by decide) (fun (h9 : x6.toInt = 0) => ?_) (fun (h9 : ¬ (x6.toInt = 0)) => hat 12 rfl ?_)
    · skip
      refine h_ic c (hd 11 22 _ _ rfl) (by decide) (fun v22 e22 => hat 23 rfl ?_)
      exact h_iret c (hd 12 23 _ _ rfl) rfl (fun _ => ⟨_, List.mem_cons_self, ⟨_, rfl, rf_in_top _⟩, fun q hq => absurd hq List.not_mem_nil, fun q hq => absurd hq List.not_mem_nil⟩)
    · skip
      refine h_iln c (hd 6 12 _ _ rfl) (by rfl) (hat 13 rfl ?_)
      refine h_ic c (hd 7 13 _ _ rfl) (by decide) (fun v13 e13 => hat 14 rfl ?_)
      refine h_bp c (hd 8 14 _ _ rfl) (by decide) (fun v14 e14 => hat 16 rfl ?_)
      refine h_callSF c (M' := hM_isIn) (hp_isIn hG) (by decide +kernel) (wlkS (lkX12_334 hG) _ rfl rfl) (hd 9 16 _ _ rfl) [.int q, .int v13, .int v14] (rest := []) (by rfl) ⟨⟨_, rfl, rf_in_top _, trivial⟩, ⟨_, rfl, rf_in_top _, trivial⟩, ⟨_, rfl, rf_in_top _, trivial⟩, trivial⟩ (Nat.le_of_ble_eq_true rfl) trivial (fun rv16 F16 fr16 rr16 pp16 sm_ => hat 19 rfl ?_)
      have e_ := (sm_ rfl).symm
      subst e_
      obtain ⟨a_, b_, d_, x16, ea_, er_, hx16⟩ := pp16
      cases ea_; subst er_
      refine h_if c (hd 10 19 _ _ rfl) (tgt := 24) (by decide) (fun (h19 : x16.toInt ≠ 0) => ?_) (fun (h19 : ¬ (x16.toInt ≠ 0)) => hat 22 rfl ?_)
      · skip
        refine h_aln c (hd 13 24 _ _ rfl) (by rfl) (hat 25 rfl ?_)
        refine h_iln c (hd 14 25 _ _ rfl) (by rfl) (hat 26 rfl ?_)
        refine h_ic c (hd 15 26 _ _ rfl) (by decide) (fun v26 e26 => hat 27 rfl ?_)
        refine h_callV c (M' := q860_M) (q860_met hG hh) (by decide +kernel) (by decide +kernel) (wlkV (lkX12_411 hG) _ rfl rfl) (j := 114) (by decide +kernel) (hd 16 27 _ _ rfl) [.int p, .int v26] (rest := []) (by rfl) ⟨⟨114, by decide, rfl⟩, ⟨_, rfl, rf_in1 (by omega) (by omega), trivial⟩, ⟨_, rfl, hcon (by omega), trivial⟩, trivial⟩ (Nat.le_of_ble_eq_true rfl) (List.forall_mem_cons.mpr ⟨hcon (x := F 114 28) hbk, List.forall_mem_cons.mpr ⟨hg_in (hgh0_same (F := F) (fun _ => rfl) (fun _ => rfl) (fun _ => rfl) hJ), fun _ h => absurd h List.not_mem_nil⟩⟩) (fun rv27 F27 fr27 rr27 pp27 sm_ => hat 30 rfl ?_)
        obtain ⟨k_, hk_, pp27⟩ := pp27
        rcases hm1 hk_ with rfl
        obtain ⟨x27, hrv_, hx27⟩ := hk_val pp27
        subst hrv_
        have hx27 : 0 ≤ x27.toInt ∧ x27.toInt ≤ 16383 := ⟨hx27.1, hx27.2.1⟩
        refine h_isn c (hd 17 30 _ _ rfl) (by decide) (L' := [(3, .int x27), (0, .ref (G.2.1.1 114)), (1, .int p), (2, .int q)]) (by rfl) (hat 31 rfl ?_)
        refine h_aln c (hd 18 31 _ _ rfl) (by rfl) (hat 32 rfl ?_)
        refine h_iln c (hd 19 32 _ _ rfl) (by rfl) (hat 33 rfl ?_)
        refine h_callV c (M' := q868_M) (q868_met hG hh) (by decide +kernel) (by decide +kernel) (wlkV (lkX12_414 hG) _ rfl rfl) (j := 114) (by decide +kernel) (hd 20 33 _ _ rfl) [.int p] (rest := []) (by rfl) ⟨⟨114, by decide, rfl⟩, ⟨_, rfl, rf_in1 (by omega) (by omega), trivial⟩, trivial⟩ (Nat.le_of_ble_eq_true rfl) (fun q hq => absurd hq List.not_mem_nil) (fun rv33 F33 fr33 rr33 pp33 sm_ => hat 36 rfl ?_)
        obtain ⟨k_, hk_, pp33⟩ := pp33
        rcases hm1 hk_ with rfl
        match rv33, pp33 with
        | none, pp33 =>
        skip
        refine h_aln c (hd 21 36 _ _ rfl) (by rfl) (hat 37 rfl ?_)
        refine h_iln c (hd 22 37 _ _ rfl) (by rfl) (hat 38 rfl ?_)
        refine h_iln c (hd 23 38 _ _ rfl) (by rfl) (hat 39 rfl ?_)
        refine h_callV c (M' := q995_M) (q995_met hG) (by decide +kernel) (by decide +kernel) (wlkV (lkX12_426 hG) _ rfl rfl) (j := 114) (by decide +kernel) (hd 24 39 _ _ rfl) [.int x27, .int q] (rest := []) (by rfl) ⟨⟨114, by decide, rfl⟩, ⟨_, rfl, rf_in1 (by omega) (by omega), trivial⟩, ⟨_, rfl, rf_in1 (by omega) (by omega), trivial⟩, trivial⟩ (Nat.le_of_ble_eq_true rfl) (fun q hq => absurd hq List.not_mem_nil) (fun rv39 F39 fr39 rr39 pp39 sm_ => hat 42 rfl ?_)
        have e_ := (sm_ rfl).symm
        subst e_
        obtain ⟨k_, hk_, pp39⟩ := pp39
        rcases hm1 hk_ with rfl
        obtain ⟨x39, hrv_, hx39⟩ := hk_val pp39
        subst hrv_
        have hx39 : 0 ≤ x39.toInt ∧ x39.toInt ≤ 16383 := ⟨hx39.1, hx39.2.1⟩
        refine h_isn c (hd 25 42 _ _ rfl) (by decide) (L' := [(3, .int x39), (0, .ref (G.2.1.1 114)), (1, .int p), (2, .int q)]) (by rfl) (hat 43 rfl ?_)
        have hle := hcb_le x39 14
        have e48_ : F33 114 48 = v1 := (fr33 114 48 (by decide) (by rfl)).trans (fr27 114 48 (by decide) (by rfl))
        exact h_less (L := [(3, .int x39), (2, .int q), (1, .int p), (0, .ref (G.2.1.1 114))]) (by simp) (K43 _ _ _ (hframe_tr (hframe_tr (hframe_up (hframe_rf [(89, 0), (91, 0), (92, 0), (93, 0), (94, 0), (95, 0), (96, 0), (97, 0), (98, 0), (99, 0), (114, 35), (114, 40), (114, 45), (114, 46), (114, 49)] F) (by rfl) _) fr27 (by decide)) fr33 (by decide)) (h_small (by omega) (by omega)) (by rw [e48_]; omega) (by rw [e48_]; omega) rfl)
      · skip
        refine h_ic c (hd 11 22 _ _ rfl) (by decide) (fun v22 e22 => hat 23 rfl ?_)
        exact h_iret c (hd 12 23 _ _ rfl) rfl (fun _ => ⟨_, List.mem_cons_self, ⟨_, rfl, rf_in_top _⟩, fun q hq => absurd hq List.not_mem_nil, fun q hq => absurd hq List.not_mem_nil⟩)
set_option maxHeartbeats 8000000 in
set_option maxRecDepth 20000 in
theorem hp_near1 {G : rfG} (hG : okG G) (hh : w1OK G) : rf_met G q1001_M := by
  refine h_rfOf hG.1 (by decide +kernel) (by decide) hG.2.2.1 (wflT hG flokX12) (wcsT hG csokX12) (by decide +kernel) ?_
  intro vs w0 X hv_ hr hp c
  match vs, hv_ with
  | [_, _, _], ⟨⟨_, hj0, rfl⟩, ⟨p, rfl, hi_p, _⟩, ⟨q, rfl, hi_q, _⟩, _⟩ =>
  cases List.mem_singleton.mp hj0
  have hd : ∀ n pc i len, ddX12_near[n]? = some (pc, i, len) → decode (mb q1001_M) pc = .ok (i, len) := fun n pc i len h => hdk dkX12_near n pc i len h
  show hW G X q1001_M w0 0 [(0, .ref (G.2.1.1 114)), (1, .int p), (2, .int q)] [] (hv w0)
  generalize hF0 : hv w0 = F at *
  have hJ : hgh F 0 = true := hk_gh (hp _ (List.mem_of_getElem? (i := 2) rfl))
  have hbk : (F 114 28).toInt = 1 := by have a_ : 1 ≤ (F 114 28).toInt := (hp _ (List.mem_of_getElem? (i := 1) rfl)).1; have b_ : (F 114 28).toInt ≤ 1 := (hp _ (List.mem_of_getElem? (i := 1) rfl)).2.1; omega
  have h77 : 1 ≤ (F 77 1).toInt ∧ (F 77 1).toInt ≤ 31 := ⟨(hp _ (List.mem_of_getElem? (i := 0) rfl)).1, (hp _ (List.mem_of_getElem? (i := 0) rfl)).2.1⟩
  have K43 : ∀ (m : Nat) (w3 : Int32) (F1 : HF), hframe [(89, 0), (91, 0), (92, 0), (93, 0), (94, 0), (95, 0), (96, 0), (97, 0), (98, 0), (99, 0), (114, 35), (114, 40), (114, 45), (114, 46), (114, 49)] F F1 → hsml w3 → 0 ≤ (F1 114 48).toInt → (F1 114 48).toInt + (hcb w3 14 : Int) ≤ 14 → m = hcb w3 14 → hW G X q1001_M w0 43 [(3, .int w3), (2, .int q), (1, .int p), (0, .ref (G.2.1.1 114))] [] F1 := by
    intro m
    induction m using Nat.strongRecOn with
    | ind m ih =>
    intro w3 F1 fr1 hsm hl0 hl1 hm
    refine h_iln c (hd 26 43 _ _ rfl) (by rfl) (hat 44 rfl ?_)
    refine h_if c (hd 27 44 _ _ rfl) (tgt := 87) (by decide) (fun (h44 : w3.toInt = 0) => ?_) (fun (h44 : ¬ (w3.toInt = 0)) => hat 47 rfl ?_)
    · skip
      refine h_aln c (hd 53 87 _ _ rfl) (by rfl) (hat 88 rfl ?_)
      refine h_getI c (hd 54 88 _ _ rfl) fgX12_347 gnX12_347_114 (x := F1 114 48) (rfl) (hat 91 rfl ?_)
      exact h_iret c (hd 55 91 _ _ rfl) rfl (fun _ => ⟨_, List.mem_cons_self, ⟨_, rfl, rf_in_top _⟩, fun q hq => absurd hq List.not_mem_nil, fun q hq => absurd hq List.not_mem_nil⟩)
    · skip
      have hso := h_some hsm (by omega)
      have hps : 1 ≤ hcb w3 14 := by obtain ⟨k_, g1_, g2_⟩ := hso; exact hcb_pos g2_ g1_
      refine h_aln c (hd 28 47 _ _ rfl) (by rfl) (hat 48 rfl ?_)
      refine h_iln c (hd 29 48 _ _ rfl) (by rfl) (hat 49 rfl ?_)
      refine h_callVF c (M' := hM_nof) (hp_nof hG) (by decide +kernel) (wlkV (lkX12_417 hG) _ rfl rfl) (j := 114) (by decide +kernel) (hd 30 49 _ _ rfl) [.int w3] (rest := []) (by rfl) ⟨⟨114, by decide, rfl⟩, ⟨_, rfl, rf_in_top _, trivial⟩, trivial⟩ (Nat.le_of_ble_eq_true rfl) ⟨w3, rfl, hso⟩ (fun rv49 F49 fr49 rr49 pp49 sm_ => hat 52 rfl ?_)
      have e_ := (sm_ rfl).symm
      subst e_
      obtain ⟨a_, x49, ea_, er_, hx49⟩ := pp49
      cases ea_; subst er_
      refine h_is c (hd 31 52 _ _ rfl) (by decide) (L' := [(4, .int x49), (3, .int w3), (2, .int q), (1, .int p), (0, .ref (G.2.1.1 114))]) (by rfl) (hat 54 rfl ?_)
      refine h_aln c (hd 32 54 _ _ rfl) (by rfl) (hat 55 rfl ?_)
      refine h_getR c (hd 33 55 _ _ rfl) fgX12_99 gnX12_99_114 (hat 58 rfl ?_)
      refine h_aln c (hd 34 58 _ _ rfl) (by rfl) (hat 59 rfl ?_)
      refine h_getI c (hd 35 59 _ _ rfl) fgX12_347 gnX12_347_114 (x := F1 114 48) (rfl) (hat 62 rfl ?_)
      refine h_il c (hd 36 62 _ _ rfl) (by rfl) (hat 64 rfl ?_)
      refine h_iast c (hd 37 64 _ _ rfl) la_99 ⟨by omega, by omega⟩ rfl (by decide) (by decide) (hin1 (rf_in_top _)) (hat 65 rfl ?_)
      refine h_aln c (hd 38 65 _ _ rfl) (by rfl) (hat 66 rfl ?_)
      refine h_dup c (hd 39 66 _ _ rfl) (by rfl) (hat 67 rfl ?_)
      refine h_getI c (hd 40 67 _ _ rfl) fgX12_347 gnX12_347_114 (x := F1 114 48) (rfl) (hat 70 rfl ?_)
      refine h_ic c (hd 41 70 _ _ rfl) (by decide) (fun v70 e70 => hat 71 rfl ?_)
      refine h_add c (hd 42 71 _ _ rfl) (by omega) (fun v71 e71 => hat 72 rfl ?_)
      refine h_putI c (hd 43 72 _ _ rfl) fgX12_347 gnX12_347_114 (by decide) (by decide) rfl (rf_in1 (by omega) (by omega)) (hat 75 rfl ?_)
      refine h_iln c (hd 44 75 _ _ rfl) (by rfl) (hat 76 rfl ?_)
      refine h_ic c (hd 45 76 _ _ rfl) (by decide) (fun v76 e76 => hat 77 rfl ?_)
      refine h_il c (hd 46 77 _ _ rfl) (by rfl) (hat 79 rfl ?_)
      refine h_shl c (hd 47 79 _ _ rfl) (hat 80 rfl ?_)
      refine h_ic c (hd 48 80 _ _ rfl) (by decide) (fun v80 e80 => hat 81 rfl ?_)
      refine h_xor c (hd 49 81 _ _ rfl) (hat 82 rfl ?_)
      refine h_and c (hd 50 82 _ _ rfl) (hat 83 rfl ?_)
      refine h_isn c (hd 51 83 _ _ rfl) (by decide) (L' := [(3, .int (w3 &&& ((v76 <<< (x49 &&& 31)) ^^^ v80))), (4, .int x49), (2, .int q), (1, .int p), (0, .ref (G.2.1.1 114))]) (by rfl) (hat 84 rfl ?_)
      refine h_goto c (hd 52 84 _ _ rfl) (tgt := 43) (by decide) ?_
      have hcl := h_clrL (s := w3) (x := v76 <<< (x49 &&& 31)) (u := v80) e80 hx49.2.2 (by rw [h_one (by omega) (by omega) e76]; exact decide_eq_true rfl) (by omega)
      exact h_less (L := [(3, .int (w3 &&& ((v76 <<< (x49 &&& 31)) ^^^ v80))), (2, .int q), (1, .int p), (0, .ref (G.2.1.1 114))]) (by simp) (ih _ (by rw [hm]; exact hcl) _ _ (hframe_up (hframe_up fr1 (by rfl) _) (by rfl) _) (h_clrS e80 hsm) (show 0 ≤ v71.toInt by omega) (show v71.toInt + _ ≤ 14 by omega) rfl)
  refine h_aln c (hd 0 0 _ _ rfl) (by rfl) (hat 1 rfl ?_)
  refine h_ic c (hd 1 1 _ _ rfl) (by decide) (fun v1 e1 => hat 2 rfl ?_)
  refine h_putI c (hd 2 2 _ _ rfl) fgX12_347 gnX12_347_114 (by decide) (by decide) rfl (rf_in1 (by omega) (by omega)) (hat 5 rfl ?_)
  refine h_iln c (hd 3 5 _ _ rfl) (by rfl) (hat 6 rfl ?_)
  refine h_callS c (M' := q810_M) (q810_met hG) (by decide +kernel) (by decide +kernel) (wlkS (lkX12_420 hG) _ rfl rfl) (hd 4 6 _ _ rfl) [.int p] (rest := []) (by rfl) ⟨⟨_, rfl, rf_in_top _, trivial⟩, trivial⟩ (Nat.le_of_ble_eq_true rfl) (fun q hq => absurd hq List.not_mem_nil) (fun rv6 F6 fr6 rr6 pp6 sm_ => hat 9 rfl ?_)
  have e_ := (sm_ rfl).symm
  subst e_
  obtain ⟨k_, hk_, pp6⟩ := pp6
  rcases hm2 hk_ with rfl | rfl
  · skip
    obtain ⟨x6, hrv_, hx6⟩ := hk_val pp6
    subst hrv_
    have hx6 : 0 ≤ x6.toInt ∧ x6.toInt ≤ 0 := ⟨hx6.1, hx6.2.1⟩
    refine h_if c (hd 5 9 _ _ rfl) (tgt := 22) (by decide) (fun (h9 : x6.toInt = 0) => ?_) (fun (h9 : ¬ (x6.toInt = 0)) => hat 12 rfl ?_)
    · skip
      refine h_ic c (hd 11 22 _ _ rfl) (by decide) (fun v22 e22 => hat 23 rfl ?_)
      exact h_iret c (hd 12 23 _ _ rfl) rfl (fun _ => ⟨_, List.mem_cons_self, ⟨_, rfl, rf_in_top _⟩, fun q hq => absurd hq List.not_mem_nil, fun q hq => absurd hq List.not_mem_nil⟩)
    · skip
      refine h_iln c (hd 6 12 _ _ rfl) (by rfl) (hat 13 rfl ?_)
      refine h_ic c (hd 7 13 _ _ rfl) (by decide) (fun v13 e13 => hat 14 rfl ?_)
      refine h_bp c (hd 8 14 _ _ rfl) (by decide) (fun v14 e14 => hat 16 rfl ?_)
      refine h_callSF c (M' := hM_isIn) (hp_isIn hG) (by decide +kernel) (wlkS (lkX12_334 hG) _ rfl rfl) (hd 9 16 _ _ rfl) [.int q, .int v13, .int v14] (rest := []) (by rfl) ⟨⟨_, rfl, rf_in_top _, trivial⟩, ⟨_, rfl, rf_in_top _, trivial⟩, ⟨_, rfl, rf_in_top _, trivial⟩, trivial⟩ (Nat.le_of_ble_eq_true rfl) trivial (fun rv16 F16 fr16 rr16 pp16 sm_ => hat 19 rfl ?_)
      have e_ := (sm_ rfl).symm
      subst e_
      obtain ⟨a_, b_, d_, x16, ea_, er_, hx16⟩ := pp16
      cases ea_; subst er_
      refine h_if c (hd 10 19 _ _ rfl) (tgt := 24) (by decide) (fun (h19 : x16.toInt ≠ 0) => ?_) (fun (h19 : ¬ (x16.toInt ≠ 0)) => hat 22 rfl ?_)
      · skip
        refine h_aln c (hd 13 24 _ _ rfl) (by rfl) (hat 25 rfl ?_)
        refine h_iln c (hd 14 25 _ _ rfl) (by rfl) (hat 26 rfl ?_)
        refine h_ic c (hd 15 26 _ _ rfl) (by decide) (fun v26 e26 => hat 27 rfl ?_)
        refine h_callV c (M' := q875_M) (q875_met hG hh) (by decide +kernel) (by decide +kernel) (wlkV (lkX12_411 hG) _ rfl rfl) (j := 114) (by decide +kernel) (hd 16 27 _ _ rfl) [.int p, .int v26] (rest := []) (by rfl) ⟨⟨114, by decide, rfl⟩, ⟨_, rfl, rf_in1 (by omega) (by omega), trivial⟩, ⟨_, rfl, hcon (by omega), trivial⟩, trivial⟩ (Nat.le_of_ble_eq_true rfl) (List.forall_mem_cons.mpr ⟨rf_in1 h77.1 h77.2, List.forall_mem_cons.mpr ⟨hcon (x := F 114 28) hbk, List.forall_mem_cons.mpr ⟨hg_in (hgh0_same (F := F) (fun _ => rfl) (fun _ => rfl) (fun _ => rfl) hJ), fun _ h => absurd h List.not_mem_nil⟩⟩⟩) (fun rv27 F27 fr27 rr27 pp27 sm_ => hat 30 rfl ?_)
        obtain ⟨k_, hk_, pp27⟩ := pp27
        rcases hm1 hk_ with rfl
        obtain ⟨x27, hrv_, hx27⟩ := hk_val pp27
        subst hrv_
        have hx27 : 0 ≤ x27.toInt ∧ x27.toInt ≤ 16383 := ⟨hx27.1, hx27.2.1⟩
        refine h_isn c (hd 17 30 _ _ rfl) (by decide) (L' := [(3, .int x27), (0, .ref (G.2.1.1 114)), (1, .int p), (2, .int q)]) (by rfl) (hat 31 rfl ?_)
        refine h_aln c (hd 18 31 _ _ rfl) (by rfl) (hat 32 rfl ?_)
        refine h_iln c (hd 19 32 _ _ rfl) (by rfl) (hat 33 rfl ?_)
        refine h_callV c (M' := q868_M) (q868_met hG hh) (by decide +kernel) (by decide +kernel) (wlkV (lkX12_414 hG) _ rfl rfl) (j := 114) (by decide +kernel) (hd 20 33 _ _ rfl) [.int p] (rest := []) (by rfl) ⟨⟨114, by decide, rfl⟩, ⟨_, rfl, rf_in1 (by omega) (by omega), trivial⟩, trivial⟩ (Nat.le_of_ble_eq_true rfl) (fun q hq => absurd hq List.not_mem_nil) (fun rv33 F33 fr33 rr33 pp33 sm_ => hat 36 rfl ?_)
        obtain ⟨k_, hk_, pp33⟩ := pp33
        rcases hm1 hk_ with rfl
        match rv33, pp33 with
        | none, pp33 =>
        skip
        refine h_aln c (hd 21 36 _ _ rfl) (by rfl) (hat 37 rfl ?_)
        refine h_iln c (hd 22 37 _ _ rfl) (by rfl) (hat 38 rfl ?_)
        refine h_iln c (hd 23 38 _ _ rfl) (by rfl) (hat 39 rfl ?_)
        refine h_callV c (M' := q995_M) (q995_met hG) (by decide +kernel) (by decide +kernel) (wlkV (lkX12_426 hG) _ rfl rfl) (j := 114) (by decide +kernel) (hd 24 39 _ _ rfl) [.int x27, .int q] (rest := []) (by rfl) ⟨⟨114, by decide, rfl⟩, ⟨_, rfl, rf_in1 (by omega) (by omega), trivial⟩, ⟨_, rfl, rf_in1 (by omega) (by omega), trivial⟩, trivial⟩ (Nat.le_of_ble_eq_true rfl) (fun q hq => absurd hq List.not_mem_nil) (fun rv39 F39 fr39 rr39 pp39 sm_ => hat 42 rfl ?_)
        have e_ := (sm_ rfl).symm
        subst e_
        obtain ⟨k_, hk_, pp39⟩ := pp39
        rcases hm1 hk_ with rfl
        obtain ⟨x39, hrv_, hx39⟩ := hk_val pp39
        subst hrv_
        have hx39 : 0 ≤ x39.toInt ∧ x39.toInt ≤ 16383 := ⟨hx39.1, hx39.2.1⟩
        refine h_isn c (hd 25 42 _ _ rfl) (by decide) (L' := [(3, .int x39), (0, .ref (G.2.1.1 114)), (1, .int p), (2, .int q)]) (by rfl) (hat 43 rfl ?_)
        have hle := hcb_le x39 14
        have e48_ : F33 114 48 = v1 := (fr33 114 48 (by decide) (by rfl)).trans (fr27 114 48 (by decide) (by rfl))
        exact h_less (L := [(3, .int x39), (2, .int q), (1, .int p), (0, .ref (G.2.1.1 114))]) (by simp) (K43 _ _ _ (hframe_tr (hframe_tr (hframe_up (hframe_rf [(89, 0), (91, 0), (92, 0), (93, 0), (94, 0), (95, 0), (96, 0), (97, 0), (98, 0), (99, 0), (114, 35), (114, 40), (114, 45), (114, 46), (114, 49)] F) (by rfl) _) fr27 (by decide)) fr33 (by decide)) (h_small (by omega) (by omega)) (by rw [e48_]; omega) (by rw [e48_]; omega) rfl)
      · skip
        refine h_ic c (hd 11 22 _ _ rfl) (by decide) (fun v22 e22 => hat 23 rfl ?_)
        exact h_iret c (hd 12 23 _ _ rfl) rfl (fun _ => ⟨_, List.mem_cons_self, ⟨_, rfl, rf_in_top _⟩, fun q hq => absurd hq List.not_mem_nil, fun q hq => absurd hq List.not_mem_nil⟩)
  · skip
    obtain ⟨x6, hrv_, hx6⟩ := hk_val pp6
    subst hrv_
    have hx6 : 1 ≤ x6.toInt ∧ x6.toInt ≤ 1 := ⟨hx6.1, hx6.2.1⟩
    have ga6_0 : 0 ≤ p.toInt ∧ p.toInt ≤ 387420488 := hk_arg pp6 0 rfl rfl
    refine h_if c (hd 5 9 _ _ rfl) (tgt := 22) (by decide) (fun (h9 : x6.toInt = 0) => ?_) (fun (h9 : ¬ (x6.toInt = 0)) => hat 12 rfl ?_)
    · skip
      refine h_ic c (hd 11 22 _ _ rfl) (by decide) (fun v22 e22 => hat 23 rfl ?_)
      exact h_iret c (hd 12 23 _ _ rfl) rfl (fun _ => ⟨_, List.mem_cons_self, ⟨_, rfl, rf_in_top _⟩, fun q hq => absurd hq List.not_mem_nil, fun q hq => absurd hq List.not_mem_nil⟩)
    · skip
      refine h_iln c (hd 6 12 _ _ rfl) (by rfl) (hat 13 rfl ?_)
      refine h_ic c (hd 7 13 _ _ rfl) (by decide) (fun v13 e13 => hat 14 rfl ?_)
      refine h_bp c (hd 8 14 _ _ rfl) (by decide) (fun v14 e14 => hat 16 rfl ?_)
      refine h_callSF c (M' := hM_isIn) (hp_isIn hG) (by decide +kernel) (wlkS (lkX12_334 hG) _ rfl rfl) (hd 9 16 _ _ rfl) [.int q, .int v13, .int v14] (rest := []) (by rfl) ⟨⟨_, rfl, rf_in_top _, trivial⟩, ⟨_, rfl, rf_in_top _, trivial⟩, ⟨_, rfl, rf_in_top _, trivial⟩, trivial⟩ (Nat.le_of_ble_eq_true rfl) trivial (fun rv16 F16 fr16 rr16 pp16 sm_ => hat 19 rfl ?_)
      have e_ := (sm_ rfl).symm
      subst e_
      obtain ⟨a_, b_, d_, x16, ea_, er_, hx16⟩ := pp16
      cases ea_; subst er_
      refine h_if c (hd 10 19 _ _ rfl) (tgt := 24) (by decide) (fun (h19 : x16.toInt ≠ 0) => ?_) (fun (h19 : ¬ (x16.toInt ≠ 0)) => hat 22 rfl ?_)
      · skip
        refine h_aln c (hd 13 24 _ _ rfl) (by rfl) (hat 25 rfl ?_)
        refine h_iln c (hd 14 25 _ _ rfl) (by rfl) (hat 26 rfl ?_)
        refine h_ic c (hd 15 26 _ _ rfl) (by decide) (fun v26 e26 => hat 27 rfl ?_)
        refine h_callV c (M' := q875_M) (q875_met hG hh) (by decide +kernel) (by decide +kernel) (wlkV (lkX12_411 hG) _ rfl rfl) (j := 114) (by decide +kernel) (hd 16 27 _ _ rfl) [.int p, .int v26] (rest := []) (by rfl) ⟨⟨114, by decide, rfl⟩, ⟨_, rfl, rf_in1 (by omega) (by omega), trivial⟩, ⟨_, rfl, hcon (by omega), trivial⟩, trivial⟩ (Nat.le_of_ble_eq_true rfl) (List.forall_mem_cons.mpr ⟨rf_in1 h77.1 h77.2, List.forall_mem_cons.mpr ⟨hcon (x := F 114 28) hbk, List.forall_mem_cons.mpr ⟨hg_in (hgh0_same (F := F) (fun _ => rfl) (fun _ => rfl) (fun _ => rfl) hJ), fun _ h => absurd h List.not_mem_nil⟩⟩⟩) (fun rv27 F27 fr27 rr27 pp27 sm_ => hat 30 rfl ?_)
        obtain ⟨k_, hk_, pp27⟩ := pp27
        rcases hm1 hk_ with rfl
        obtain ⟨x27, hrv_, hx27⟩ := hk_val pp27
        subst hrv_
        have hx27 : 0 ≤ x27.toInt ∧ x27.toInt ≤ 16383 := ⟨hx27.1, hx27.2.1⟩
        refine h_isn c (hd 17 30 _ _ rfl) (by decide) (L' := [(3, .int x27), (0, .ref (G.2.1.1 114)), (1, .int p), (2, .int q)]) (by rfl) (hat 31 rfl ?_)
        refine h_aln c (hd 18 31 _ _ rfl) (by rfl) (hat 32 rfl ?_)
        refine h_iln c (hd 19 32 _ _ rfl) (by rfl) (hat 33 rfl ?_)
        refine h_callV c (M' := q868_M) (q868_met hG hh) (by decide +kernel) (by decide +kernel) (wlkV (lkX12_414 hG) _ rfl rfl) (j := 114) (by decide +kernel) (hd 20 33 _ _ rfl) [.int p] (rest := []) (by rfl) ⟨⟨114, by decide, rfl⟩, ⟨_, rfl, rf_in1 (by omega) (by omega), trivial⟩, trivial⟩ (Nat.le_of_ble_eq_true rfl) (fun q hq => absurd hq List.not_mem_nil) (fun rv33 F33 fr33 rr33 pp33 sm_ => hat 36 rfl ?_)
        obtain ⟨k_, hk_, pp33⟩ := pp33
        rcases hm1 hk_ with rfl
        match rv33, pp33 with
        | none, pp33 =>
        skip
        refine h_aln c (hd 21 36 _ _ rfl) (by rfl) (hat 37 rfl ?_)
        refine h_iln c (hd 22 37 _ _ rfl) (by rfl) (hat 38 rfl ?_)
        refine h_iln c (hd 23 38 _ _ rfl) (by rfl) (hat 39 rfl ?_)
        refine h_callV c (M' := q995_M) (q995_met hG) (by decide +kernel) (by decide +kernel) (wlkV (lkX12_426 hG) _ rfl rfl) (j := 114) (by decide +kernel) (hd 24 39 _ _ rfl) [.int x27, .int q] (rest := []) (by rfl) ⟨⟨114, by decide, rfl⟩, ⟨_, rfl, rf_in1 (by omega) (by omega), trivial⟩, ⟨_, rfl, rf_in1 (by omega) (by omega), trivial⟩, trivial⟩ (Nat.le_of_ble_eq_true rfl) (fun q hq => absurd hq List.not_mem_nil) (fun rv39 F39 fr39 rr39 pp39 sm_ => hat 42 rfl ?_)
        have e_ := (sm_ rfl).symm
        subst e_
        obtain ⟨k_, hk_, pp39⟩ := pp39
        rcases hm1 hk_ with rfl
        obtain ⟨x39, hrv_, hx39⟩ := hk_val pp39
        subst hrv_
        have hx39 : 0 ≤ x39.toInt ∧ x39.toInt ≤ 16383 := ⟨hx39.1, hx39.2.1⟩
        refine h_isn c (hd 25 42 _ _ rfl) (by decide) (L' := [(3, .int x39), (0, .ref (G.2.1.1 114)), (1, .int p), (2, .int q)]) (by rfl) (hat 43 rfl ?_)
        have hle := hcb_le x39 14
        have e48_ : F33 114 48 = v1 := (fr33 114 48 (by decide) (by rfl)).trans (fr27 114 48 (by decide) (by rfl))
        exact h_less (L := [(3, .int x39), (2, .int q), (1, .int p), (0, .ref (G.2.1.1 114))]) (by simp) (K43 _ _ _ (hframe_tr (hframe_tr (hframe_up (hframe_rf [(89, 0), (91, 0), (92, 0), (93, 0), (94, 0), (95, 0), (96, 0), (97, 0), (98, 0), (99, 0), (114, 35), (114, 40), (114, 45), (114, 46), (114, 49)] F) (by rfl) _) fr27 (by decide)) fr33 (by decide)) (h_small (by omega) (by omega)) (by rw [e48_]; omega) (by rw [e48_]; omega) rfl)
      · skip
        refine h_ic c (hd 11 22 _ _ rfl) (by decide) (fun v22 e22 => hat 23 rfl ?_)
        exact h_iret c (hd 12 23 _ _ rfl) rfl (fun _ => ⟨_, List.mem_cons_self, ⟨_, rfl, rf_in_top _⟩, fun q hq => absurd hq List.not_mem_nil, fun q hq => absurd hq List.not_mem_nil⟩)
def ddX12_groups : List (Nat × Instr × Nat) := [(0,.iload_n 1,1),(1,.iconst 0,1),(2,.bipush 6,2),(4,.invokestatic 334,3),(7,.ifCond .ne 5,3),(10,.iconst (-1),1),(11,.ireturn,1),(12,.aload_n 0,1),(13,.iload_n 1,1),(14,.invokevirtual 450,3),(17,.aload_n 0,1),(18,.invokevirtual 423,3),(21,.istore_n 2,1),(22,.iconst 0,1),(23,.istore_n 3,1),(24,.iload_n 2,1),(25,.ifCond .eq 48,3),(28,.iconst 1,1),(29,.iload_n 2,1),(30,.invokestatic 453,3),(33,.ishl,1),(34,.istore 4,2),(36,.iconst 0,1),(37,.istore 5,2),(39,.iload 5,2),(41,.bipush 14,2),(43,.if_icmp .ge 17,3),(46,.aload_n 0,1),(47,.iload 4,2),(49,.invokevirtual 456,3),(52,.istore 4,2),(54,.iinc 5 1,3),(57,.goto (-18),3),(60,.iload_n 2,1),(61,.iload 4,2),(63,.iconst (-1),1),(64,.ixor,1),(65,.iand,1),(66,.istore_n 2,1),(67,.iinc 3 1,3),(70,.goto (-46),3),(73,.iload_n 3,1),(74,.ireturn,1)]
set_option maxRecDepth 100000 in
theorem dkX12_groups : rf_decs prog_14_method_90_code ddX12_groups := rf_decs_of (by decide +kernel)
set_option maxHeartbeats 8000000 in
set_option maxRecDepth 20000 in
theorem hp_groups {G : rfG} (hG : okG G) (hh : w1OK G) : rf_met G q1054_M := by
  refine h_rfOf hG.1 (by decide +kernel) (by decide) hG.2.2.1 (wflT hG flokX12) (wcsT hG csokX12) (by decide +kernel) ?_
  intro vs w0 X hv_ hr hp c
  match vs, hv_ with
  | [_, _], ⟨⟨_, hj0, rfl⟩, ⟨q, rfl, hi_q, _⟩, _⟩ =>
  cases List.mem_singleton.mp hj0
  have hd : ∀ n pc i len, ddX12_groups[n]? = some (pc, i, len) → decode (mb q1054_M) pc = .ok (i, len) := fun n pc i len h => hdk dkX12_groups n pc i len h
  show hW G X q1054_M w0 0 [(0, .ref (G.2.1.1 114)), (1, .int q)] [] (hv w0)
  generalize hF0 : hv w0 = F at *
  have K39 : ∀ (m : Nat) (w5 w4 w3 w2 : Int32) (f : Nat) (F1 : HF), hframe [(94, 0), (95, 0), (96, 0), (97, 0), (102, 0), (103, 0), (114, 45), (114, 46)] F F1 → hsml w2 → f < 14 → bt w2 f = true → bt w4 f = true → 0 ≤ w5.toInt → w5.toInt ≤ 14 → 0 ≤ w3.toInt → w3.toInt + (hcb w2 14 : Int) ≤ 14 → m = hcb w2 14 * 20 + (14 - w5.toInt).toNat → hW G X q1054_M w0 39 [(5, .int w5), (4, .int w4), (3, .int w3), (2, .int w2), (1, .int q), (0, .ref (G.2.1.1 114))] [] F1 := by
    intro m
    induction m using Nat.strongRecOn with
    | ind m ih =>
    intro w5 w4 w3 w2 f F1 fr1 hsm hf hbf hb4 h50 h51 h30 h31 hm
    refine h_il c (hd 24 39 _ _ rfl) (by rfl) (hat 41 rfl ?_)
    refine h_bp c (hd 25 41 _ _ rfl) (by decide) (fun v41 e41 => hat 43 rfl ?_)
    refine h_cmp c (hd 26 43 _ _ rfl) (tgt := 60) (by decide) (fun (h43 : v41.toInt ≤ w5.toInt) => ?_) (fun (h43 : ¬ (v41.toInt ≤ w5.toInt)) => hat 46 rfl ?_)
    · skip
      refine h_iln c (hd 33 60 _ _ rfl) (by rfl) (hat 61 rfl ?_)
      refine h_il c (hd 34 61 _ _ rfl) (by rfl) (hat 63 rfl ?_)
      refine h_ic c (hd 35 63 _ _ rfl) (by decide) (fun v63 e63 => hat 64 rfl ?_)
      refine h_xor c (hd 36 64 _ _ rfl) (hat 65 rfl ?_)
      refine h_and c (hd 37 65 _ _ rfl) (hat 66 rfl ?_)
      refine h_isn c (hd 38 66 _ _ rfl) (by decide) (L' := [(2, .int (w2 &&& (w4 ^^^ v63))), (5, .int w5), (4, .int w4), (3, .int w3), (1, .int q), (0, .ref (G.2.1.1 114))]) (by rfl) (hat 67 rfl ?_)
      have hcl := h_clrL (s := w2) (x := w4) (u := v63) e63 hbf hb4 hf
      have hsm2 := h_clrS (s := w2) (x := w4) (u := v63) e63 hsm
      refine h_inc c (fun r_ => [(3, .int r_), (2, .int (w2 &&& (w4 ^^^ v63))), (5, .int w5), (4, .int w4), (1, .int q), (0, .ref (G.2.1.1 114))]) (hd 39 67 _ _ rfl) (by decide) (by decide) (by rfl) (by omega) (fun _ => by rfl) (fun v67 e67 => hat 70 rfl ?_)
      refine h_goto c (hd 40 70 _ _ rfl) (tgt := 24) (by decide) ?_
      refine h_iln c (hd 15 24 _ _ rfl) (by rfl) (hat 25 rfl ?_)
      refine h_if c (hd 16 25 _ _ rfl) (tgt := 73) (by decide) (fun (h25 : (w2 &&& (w4 ^^^ v63)).toInt = 0) => ?_) (fun (h25 : ¬ ((w2 &&& (w4 ^^^ v63)).toInt = 0)) => hat 28 rfl ?_)
      · skip
        refine h_iln c (hd 41 73 _ _ rfl) (by rfl) (hat 74 rfl ?_)
        exact h_iret c (hd 42 74 _ _ rfl) rfl (fun _ => ⟨_, List.mem_cons_self, ⟨_, rfl, rf_in_top _⟩, fun q hq => absurd hq List.not_mem_nil, fun q hq => absurd hq List.not_mem_nil⟩)
      · skip
        have hso := h_some hsm2 (by omega)
        refine h_ic c (hd 17 28 _ _ rfl) (by decide) (fun v28 e28 => hat 29 rfl ?_)
        refine h_iln c (hd 18 29 _ _ rfl) (by rfl) (hat 30 rfl ?_)
        refine h_callSF c (M' := hM_fof) (hp_fof hG) (by decide +kernel) (wlkS (lkX12_453 hG) _ rfl rfl) (hd 19 30 _ _ rfl) [.int (w2 &&& (w4 ^^^ v63))] (rest := [.int v28]) (by rfl) ⟨⟨_, rfl, rf_in_top _, trivial⟩, trivial⟩ (Nat.le_of_ble_eq_true rfl) ⟨_, rfl, hso⟩ (fun rv30 F30 fr30 rr30 pp30 sm_ => hat 33 rfl ?_)
        have e_ := (sm_ rfl).symm
        subst e_
        obtain ⟨a_, x30, ea_, er_, hx30⟩ := pp30
        cases ea_; subst er_
        refine h_shl c (hd 20 33 _ _ rfl) (hat 34 rfl ?_)
        refine h_is c (hd 21 34 _ _ rfl) (by decide) (L' := [(4, .int (v28 <<< (x30 &&& 31))), (3, .int v67), (2, .int (w2 &&& (w4 ^^^ v63))), (5, .int w5), (1, .int q), (0, .ref (G.2.1.1 114))]) (by rfl) (hat 36 rfl ?_)
        refine h_ic c (hd 22 36 _ _ rfl) (by decide) (fun v36 e36 => hat 37 rfl ?_)
        refine h_is c (hd 23 37 _ _ rfl) (by decide) (L' := [(5, .int v36), (4, .int (v28 <<< (x30 &&& 31))), (3, .int v67), (2, .int (w2 &&& (w4 ^^^ v63))), (1, .int q), (0, .ref (G.2.1.1 114))]) (by rfl) (hat 39 rfl ?_)
        have hfx : bt (v28 <<< (x30 &&& 31)) x30.toInt.toNat = true := by rw [h_one (by omega) (by omega) e28]; exact decide_eq_true rfl
        exact h_less (L := [(5, .int v36), (4, .int (v28 <<< (x30 &&& 31))), (3, .int v67), (2, .int (w2 &&& (w4 ^^^ v63))), (1, .int q), (0, .ref (G.2.1.1 114))]) (by simp) (ih _ (by rw [hm]; omega) _ _ _ _ x30.toInt.toNat _ fr1 hsm2 (by omega) hx30.2.2 hfx (by omega) (by omega) (by omega) (by omega) rfl)
    · skip
      refine h_aln c (hd 27 46 _ _ rfl) (by rfl) (hat 47 rfl ?_)
      refine h_il c (hd 28 47 _ _ rfl) (by rfl) (hat 49 rfl ?_)
      refine h_callVF c (M' := hM_ost) (hp_ost hG) (by decide +kernel) (wlkV (lkX12_456 hG) _ rfl rfl) (j := 114) (by decide +kernel) (hd 29 49 _ _ rfl) [.int w4] (rest := []) (by rfl) ⟨⟨114, by decide, rfl⟩, ⟨_, rfl, rf_in_top _, trivial⟩, trivial⟩ (Nat.le_of_ble_eq_true rfl) trivial (fun rv49 F49 fr49 rr49 pp49 sm_ => hat 52 rfl ?_)
      have e_ := (sm_ rfl).symm
      subst e_
      obtain ⟨a_, x49, ea_, er_, hx49⟩ := pp49
      cases ea_; subst er_
      refine h_is c (hd 30 52 _ _ rfl) (by decide) (L' := [(4, .int x49), (5, .int w5), (3, .int w3), (2, .int w2), (1, .int q), (0, .ref (G.2.1.1 114))]) (by rfl) (hat 54 rfl ?_)
      refine h_inc c (fun r_ => [(5, .int r_), (4, .int x49), (3, .int w3), (2, .int w2), (1, .int q), (0, .ref (G.2.1.1 114))]) (hd 31 54 _ _ rfl) (by decide) (by decide) (by rfl) (by omega) (fun _ => by rfl) (fun v54 e54 => hat 57 rfl ?_)
      refine h_goto c (hd 32 57 _ _ rfl) (tgt := 39) (by decide) ?_
      exact h_less (L := [(5, .int v54), (4, .int x49), (3, .int w3), (2, .int w2), (1, .int q), (0, .ref (G.2.1.1 114))]) (by simp) (ih _ (by rw [hm]; omega) _ _ _ _ _ _ fr1 hsm hf hbf (hx49 _ hb4) (by omega) (by omega) (by omega) (by omega) rfl)
  refine h_iln c (hd 0 0 _ _ rfl) (by rfl) (hat 1 rfl ?_)
  refine h_ic c (hd 1 1 _ _ rfl) (by decide) (fun v1 e1 => hat 2 rfl ?_)
  refine h_bp c (hd 2 2 _ _ rfl) (by decide) (fun v2 e2 => hat 4 rfl ?_)
  refine h_callSF c (M' := hM_isIn) (hp_isIn hG) (by decide +kernel) (wlkS (lkX12_334 hG) _ rfl rfl) (hd 3 4 _ _ rfl) [.int q, .int v1, .int v2] (rest := []) (by rfl) ⟨⟨_, rfl, rf_in_top _, trivial⟩, ⟨_, rfl, rf_in_top _, trivial⟩, ⟨_, rfl, rf_in_top _, trivial⟩, trivial⟩ (Nat.le_of_ble_eq_true rfl) trivial (fun rv4 F4 fr4 rr4 pp4 sm_ => hat 7 rfl ?_)
  have e_ := (sm_ rfl).symm
  subst e_
  obtain ⟨a_, b_, d_, x4, ea_, er_, hx4⟩ := pp4
  cases ea_; subst er_
  refine h_if c (hd 4 7 _ _ rfl) (tgt := 12) (by decide) (fun (h7 : x4.toInt ≠ 0) => ?_) (fun (h7 : ¬ (x4.toInt ≠ 0)) => hat 10 rfl ?_)
  · skip
    refine h_aln c (hd 7 12 _ _ rfl) (by rfl) (hat 13 rfl ?_)
    refine h_iln c (hd 8 13 _ _ rfl) (by rfl) (hat 14 rfl ?_)
    refine h_callV c (M' := q1055_M) (q1055_met hG hh) (by decide +kernel) (by decide +kernel) (wlkV (lkX12_450 hG) _ rfl rfl) (j := 114) (by decide +kernel) (hd 9 14 _ _ rfl) [.int q] (rest := []) (by rfl) ⟨⟨114, by decide, rfl⟩, ⟨_, rfl, rf_in1 (by omega) (by omega), trivial⟩, trivial⟩ (Nat.le_of_ble_eq_true rfl) (fun q hq => absurd hq List.not_mem_nil) (fun rv14 F14 fr14 rr14 pp14 sm_ => hat 17 rfl ?_)
    obtain ⟨k_, hk_, pp14⟩ := pp14
    rcases hm1 hk_ with rfl
    match rv14, pp14 with
    | none, pp14 =>
    skip
    refine h_aln c (hd 10 17 _ _ rfl) (by rfl) (hat 18 rfl ?_)
    refine h_callV c (M' := q832_M) (q832_met hG) (by decide +kernel) (by decide +kernel) (wlkV (lkX12_423 hG) _ rfl rfl) (j := 114) (by decide +kernel) (hd 11 18 _ _ rfl) [] (rest := []) (by rfl) ⟨⟨114, by decide, rfl⟩, trivial⟩ (Nat.le_of_ble_eq_true rfl) (fun q hq => absurd hq List.not_mem_nil) (fun rv18 F18 fr18 rr18 pp18 sm_ => hat 21 rfl ?_)
    have e_ := (sm_ rfl).symm
    subst e_
    obtain ⟨k_, hk_, pp18⟩ := pp18
    rcases hm1 hk_ with rfl
    obtain ⟨x18, hrv_, hx18⟩ := hk_val pp18
    subst hrv_
    have hx18 : 0 ≤ x18.toInt ∧ x18.toInt ≤ 16383 := ⟨hx18.1, hx18.2.1⟩
    refine h_isn c (hd 12 21 _ _ rfl) (by decide) (L' := [(2, .int x18), (0, .ref (G.2.1.1 114)), (1, .int q)]) (by rfl) (hat 22 rfl ?_)
    refine h_ic c (hd 13 22 _ _ rfl) (by decide) (fun v22 e22 => hat 23 rfl ?_)
    refine h_isn c (hd 14 23 _ _ rfl) (by decide) (L' := [(3, .int v22), (2, .int x18), (0, .ref (G.2.1.1 114)), (1, .int q)]) (by rfl) (hat 24 rfl ?_)
    refine h_iln c (hd 15 24 _ _ rfl) (by rfl) (hat 25 rfl ?_)
    refine h_if c (hd 16 25 _ _ rfl) (tgt := 73) (by decide) (fun (h25 : x18.toInt = 0) => ?_) (fun (h25 : ¬ (x18.toInt = 0)) => hat 28 rfl ?_)
    · skip
      refine h_iln c (hd 41 73 _ _ rfl) (by rfl) (hat 74 rfl ?_)
      exact h_iret c (hd 42 74 _ _ rfl) rfl (fun _ => ⟨_, List.mem_cons_self, ⟨_, rfl, rf_in_top _⟩, fun q hq => absurd hq List.not_mem_nil, fun q hq => absurd hq List.not_mem_nil⟩)
    · skip
      have hsm2 : hsml x18 := h_small (by omega) (by omega)
      have hso := h_some hsm2 (by omega)
      refine h_ic c (hd 17 28 _ _ rfl) (by decide) (fun v28 e28 => hat 29 rfl ?_)
      refine h_iln c (hd 18 29 _ _ rfl) (by rfl) (hat 30 rfl ?_)
      refine h_callSF c (M' := hM_fof) (hp_fof hG) (by decide +kernel) (wlkS (lkX12_453 hG) _ rfl rfl) (hd 19 30 _ _ rfl) [.int x18] (rest := [.int v28]) (by rfl) ⟨⟨_, rfl, rf_in_top _, trivial⟩, trivial⟩ (Nat.le_of_ble_eq_true rfl) ⟨_, rfl, hso⟩ (fun rv30 F30 fr30 rr30 pp30 sm_ => hat 33 rfl ?_)
      have e_ := (sm_ rfl).symm
      subst e_
      obtain ⟨a_, x30, ea_, er_, hx30⟩ := pp30
      cases ea_; subst er_
      refine h_shl c (hd 20 33 _ _ rfl) (hat 34 rfl ?_)
      refine h_is c (hd 21 34 _ _ rfl) (by decide) (L' := [(4, .int (v28 <<< (x30 &&& 31))), (3, .int v22), (2, .int x18), (0, .ref (G.2.1.1 114)), (1, .int q)]) (by rfl) (hat 36 rfl ?_)
      refine h_ic c (hd 22 36 _ _ rfl) (by decide) (fun v36 e36 => hat 37 rfl ?_)
      refine h_is c (hd 23 37 _ _ rfl) (by decide) (L' := [(5, .int v36), (4, .int (v28 <<< (x30 &&& 31))), (3, .int v22), (2, .int x18), (0, .ref (G.2.1.1 114)), (1, .int q)]) (by rfl) (hat 39 rfl ?_)
      have hfx : bt (v28 <<< (x30 &&& 31)) x30.toInt.toNat = true := by rw [h_one (by omega) (by omega) e28]; exact decide_eq_true rfl
      have hle := hcb_le x18 14
      exact h_less (L := [(5, .int v36), (4, .int (v28 <<< (x30 &&& 31))), (3, .int v22), (2, .int x18), (1, .int q), (0, .ref (G.2.1.1 114))]) (by simp) (K39 _ _ _ _ _ x30.toInt.toNat _ (hframe_tr (hframe_rf [(94, 0), (95, 0), (96, 0), (97, 0), (102, 0), (103, 0), (114, 45), (114, 46)] F) fr14 (by decide)) hsm2 (by omega) hx30.2.2 hfx (by omega) (by omega) (by omega) (by omega) rfl)
  · skip
    refine h_ic c (hd 5 10 _ _ rfl) (by decide) (fun v10 e10 => hat 11 rfl ?_)
    exact h_iret c (hd 6 11 _ _ rfl) rfl (fun _ => ⟨_, List.mem_cons_self, ⟨_, rfl, rf_in_top _⟩, fun q hq => absurd hq List.not_mem_nil, fun q hq => absurd hq List.not_mem_nil⟩)
theorem w1_ok {G : rfG} (hG : okG G) : w1OK G := by
  intro M hM
  rcases hm5 hM with rfl | rfl | rfl | rfl | rfl
  · exact hp_clear1 hG
  · exact hp_goOn hG
  · exact hp_clear0 hG
  · exact hp_comes hG
  · exact hp_steps hG
theorem w2_ok {G : rfG} (hG : okG G) : w2OK G := by
  intro M hM
  have hh := w1_ok hG
  rcases hm5 hM with rfl | rfl | rfl | rfl | rfl
  · exact hp_line1 hG hh
  · exact hp_line0 hG hh
  · exact hp_near0 hG hh
  · exact hp_near1 hG hh
  · exact hp_groups hG hh
