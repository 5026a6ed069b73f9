def hM_unit : rfM := ((⟨"NearSpellModel", "unit", "()Z"⟩, prog_14_method_26_code, 7, (some .boolean)), (9,500), ([.inr (.inl [114])],[]), [(74,0),(85,0),(86,0),(87,0),(88,0),(114,5),(114,6),(114,7),(114,8),(114,9),(114,10),(114,11),(114,31),(114,32),(114,33),(114,34),(998,1),(998,2),(998,3)], [])
def ddX12_unit : List (Nat × Instr × Nat) := [(0,.aload_n 0,1),(1,.getfield 63,3),(4,.aload_n 0,1),(5,.getfield 285,3),(8,.iconst 1,1),(9,.isub,1),(10,.iaload,1),(11,.iconst 3,1),(12,.if_icmp .le 19,3),(15,.aload_n 0,1),(16,.getfield 63,3),(19,.aload_n 0,1),(20,.getfield 285,3),(23,.iconst 1,1),(24,.isub,1),(25,.iaload,1),(26,.bipush 7,2),(28,.if_icmp .lt 7,3),(31,.iconst 1,1),(32,.goto 4,3),(35,.iconst 0,1),(36,.istore_n 1,1),(37,.iload_n 1,1),(38,.ifCond .eq 17,3),(41,.aload_n 0,1),(42,.ldc2_w 183,3),(45,.invokevirtual 248,3),(48,.ifCond .eq 7,3),(51,.iconst 1,1),(52,.goto 4,3),(55,.iconst 0,1),(56,.istore_n 2,1),(57,.aload_n 0,1),(58,.bipush 40,2),(60,.invokevirtual 272,3),(63,.istore_n 3,1),(64,.aload_n 0,1),(65,.invokevirtual 300,3),(68,.istore 4,2),(70,.aload_n 0,1),(71,.getfield 24,3),(74,.aload_n 0,1),(75,.getfield 233,3),(78,.iaload,1),(79,.bipush 60,2),(81,.if_icmp .eq 12,3),(84,.aload_n 0,1),(85,.getfield 279,3),(88,.bipush 30,2),(90,.if_icmp .ne 7,3),(93,.iconst 1,1),(94,.goto 4,3),(97,.iconst 0,1),(98,.istore 5,2),(100,.iload_n 2,1),(101,.ifCond .ne 25,3),(104,.iload 4,2),(106,.ifCond .ne 15,3),(109,.aload_n 0,1),(110,.getfield 195,3),(113,.iconst 4,1),(114,.if_icmp .eq 7,3),(117,.iload_n 3,1),(118,.ifCond .eq 25,3),(121,.iload 5,2),(123,.ifCond .ne 20,3),(126,.iload_n 2,1),(127,.ifCond .ne 7,3),(130,.iload_n 3,1),(131,.ifCond .eq 16,3),(134,.aload_n 0,1),(135,.getfield 288,3),(138,.bipush 7,2),(140,.if_icmp .ne 7,3),(143,.aload_n 0,1),(144,.invokevirtual 230,3),(147,.aload_n 0,1),(148,.invokevirtual 223,3),(151,.ifCond .ne 5,3),(154,.iconst 1,1),(155,.ireturn,1),(156,.aload_n 0,1),(157,.getfield 24,3),(160,.aload_n 0,1),(161,.getfield 233,3),(164,.dup2,1),(165,.iaload,1),(166,.iload_n 2,1),(167,.ifCond .eq 7,3),(170,.iconst 0,1),(171,.goto 4,3),(174,.iconst 1,1),(175,.iadd,1),(176,.iastore,1),(177,.aload_n 0,1),(178,.dup,1),(179,.getfield 279,3),(182,.iload_n 2,1),(183,.ifCond .eq 7,3),(186,.iconst 0,1),(187,.goto 4,3),(190,.iconst 1,1),(191,.iadd,1),(192,.putfield 279,3),(195,.iload 4,2),(197,.ifCond .ne 10,3),(200,.aload_n 0,1),(201,.getfield 213,3),(204,.goto 4,3),(207,.iconst 0,1),(208,.istore 6,2),(210,.aload_n 0,1),(211,.invokevirtual 227,3),(214,.iload_n 2,1),(215,.ifCond .ne 7,3),(218,.iload_n 3,1),(219,.ifCond .eq 31,3),(222,.aload_n 0,1),(223,.iload_n 2,1),(224,.ifCond .eq 7,3),(227,.iconst 3,1),(228,.goto 5,3),(231,.bipush 7,2),(233,.bipush 126,2),(235,.invokevirtual 291,3),(238,.aload_n 0,1),(239,.dup,1),(240,.getfield 288,3),(243,.iconst 1,1),(244,.iadd,1),(245,.putfield 288,3),(248,.iconst 1,1),(249,.ireturn,1),(250,.aload_n 0,1),(251,.iload 4,2),(253,.ifCond .ne 8,3),(256,.bipush 110,2),(258,.goto 5,3),(261,.iload 4,2),(263,.iload 6,2),(265,.invokevirtual 304,3),(268,.iconst 0,1),(269,.ireturn,1)]
set_option maxRecDepth 100000 in
theorem dkX12_unit : rf_decs prog_14_method_26_code ddX12_unit := rf_decs_of (by decide +kernel)
set_option maxHeartbeats 4000000 in
set_option maxRecDepth 20000 in
theorem hp_unit {G : rfG} (hG : okG G) (rb z U0 : Int) : h_met G hM_unit (fun _ F => RI rb z U0 true F ∧ (F 114 4).toInt = 0 ∧ (F 114 7).toInt ≤ 1600 ∧ (0 ≤ rb ∧ rb ≤ 1 ∧ 560 * rb ≤ z ∧ z ≤ 560 * rb + 9 * U0 ∧ 0 ≤ U0)) (fun _ F F' rv => ∃ x : Int32, rv = some (.int x) ∧ 0 ≤ x.toInt ∧ x.toInt ≤ 1 ∧ (F' 114 7).toInt ≤ 1600 ∧ (∀ i : Nat, (i < z.toNat ∨ 560 * (rb + 1) ≤ (i : Int)) → F' 85 i = F 85 i) ∧ ((1 ≤ (F' 114 4).toInt ∧ RW rb z U0 F') ∨ ((F' 114 4).toInt = 0 ∧ (F 114 8).toInt ≠ 0 ∧ RI rb z U0 (decide (x.toInt = 1)) F' ∧ ((F' 114 8).toInt = 0 ∨ (F 114 7).toInt + 1 ≤ (F' 114 7).toInt)))) := by
  refine h_metOf hG.1 (by decide +kernel) (by decide) hG.2.2.1 (wflT hG flokX12) (wcsT hG csokX12) ?_
  intro vs w0 X hv_ hr hp c
  match vs, hv_ with
  | [_], ⟨⟨_, hj0, rfl⟩, _⟩ =>
  cases List.mem_singleton.mp hj0
  have hd : ∀ n pc i len, ddX12_unit[n]? = some (pc, i, len) → decode (mb hM_unit) pc = .ok (i, len) := fun n pc i len h => hdk dkX12_unit n pc i len h
  show hW G X hM_unit w0 0 [(0, .ref (G.2.1.1 114))] [] (hv w0)
  generalize hF0 : hv w0 = F at *
  obtain ⟨hRI, hft, hen, hgl⟩ := hp
  have hRI0 := hRI
  obtain ⟨h29, hz1, hp1, hU, hu0, hu1, hwi, -⟩ := hRI0
  have htop := RI_top hRI
  have hU60 : 0 ≤ (F 74 rb.toNat).toInt ∧ (F 74 rb.toNat).toInt ≤ 60 := hrga hr la_74 (by omega)
  have hen0 : 0 ≤ (F 114 7).toInt ∧ (F 114 7).toInt ≤ 1601 := hrg hr ly_114_7
  have hwi0 : 0 ≤ (F 114 31).toInt ∧ (F 114 31).toInt ≤ 8 := hrg hr ly_114_31
  have hco0 : 0 ≤ (F 114 30).toInt ∧ (F 114 30).toInt ≤ 1120 := hrg hr ly_114_30
  have hRWF := RI_RW hRI
  have hRW3 := hRWF.2.2.1
  have K214 : ∀ (w1 w2 w3 w4 w5 w6 : Int32) (kk : Int) (F1 : HF), hframe [(74, 0), (114, 7), (114, 8), (114, 9), (114, 10), (114, 11), (114, 34), (998, 2), (998, 3)] F F1 → (w2.toInt = 1 ∧ w3.toInt ≤ 1 ∧ 0 ≤ w3.toInt ∧ kk = 0 ∨ w2.toInt = 0 ∧ 0 ≤ w3.toInt ∧ w3.toInt ≤ 1 ∧ kk = 1) → (w4.toInt = 0 ∨ 97 ≤ w4.toInt ∧ w4.toInt ≤ 122) → (w2.toInt = 0 ∧ w3.toInt = 0 ∨ (F 114 31).toInt < 7) → (F 114 8).toInt ≠ 0 → (F 114 33).toInt + kk ≤ 30 → (F1 74 rb.toNat).toInt = (F 74 rb.toNat).toInt + kk → (F1 114 33).toInt = (F 114 33).toInt + kk → (F1 114 7).toInt ≤ 1600 → ((F1 114 8).toInt = 0 ∨ (F 114 7).toInt + 1 ≤ (F1 114 7).toInt) → hW G X hM_unit w0 214 [(6, .int w6), (5, .int w5), (4, .int w4), (3, .int w3), (2, .int w2), (1, .int w1), (0, .ref (G.2.1.1 114))] [] F1 := by
    intro w1 w2 w3 w4 w5 w6 kk F1 fr1 hf1 hf2 hf3 htk hkk h74 h33 hen1 hpr
    refine h_iln c (hd 113 214 _ _ rfl) (by rfl) (hat 215 rfl ?_)
    refine h_if c (hd 114 215 _ _ rfl) (tgt := 222) (by decide) (fun (h215 : w2.toInt ≠ 0) => ?_) (fun (h215 : ¬ (w2.toInt ≠ 0)) => hat 218 rfl ?_)
    · skip
      refine h_aln c (hd 117 222 _ _ rfl) (by rfl) (hat 223 rfl ?_)
      refine h_iln c (hd 118 223 _ _ rfl) (by rfl) (hat 224 rfl ?_)
      refine h_if c (hd 119 224 _ _ rfl) (tgt := 231) (by decide) (fun (h224 : w2.toInt = 0) => ?_) (fun (h224 : ¬ (w2.toInt = 0)) => hat 227 rfl ?_)
      · exfalso; omega
      · skip
        refine h_ic c (hd 120 227 _ _ rfl) (by decide) (fun v227 e227 => hat 228 rfl ?_)
        refine h_goto c (hd 121 228 _ _ rfl) (tgt := 233) (by decide) ?_
        refine h_bp c (hd 123 233 _ _ rfl) (by decide) (fun v233 e233 => hat 235 rfl ?_)
        refine h_callVF c (M' := hM_pushE) (hp_pushE hG) (by decide +kernel) (wlkV (lkX12_291 hG) _ rfl rfl) (j := 114) (by decide +kernel) (hd 124 235 _ _ rfl) [.int v227, .int v233] (rest := []) (by rfl) ⟨⟨114, by decide, rfl⟩, ⟨_, rfl, rf_in1 (by omega) (by omega), trivial⟩, ⟨_, rfl, rf_in_top _, trivial⟩, trivial⟩ (Nat.le_of_ble_eq_true rfl) (show (F1 114 32).toInt < 90 by rw [show F1 114 32 = F 114 32 from fr1 114 32 (by decide) (by rfl)]; omega) (fun rv235 F235 fr235 rr235 pp235 sm_ => hat 238 rfl ?_)
        obtain ⟨a_, b_, ea_, eb_, er_, hc235, hw235, hg235⟩ := pp235
        cases ea_; cases eb_; subst er_
        refine h_aln c (hd 125 238 _ _ rfl) (by rfl) (hat 239 rfl ?_)
        refine h_dup c (hd 126 239 _ _ rfl) (by rfl) (hat 240 rfl ?_)
        refine h_getI c (hd 127 240 _ _ rfl) fgX12_288 gnX12_288_114 (x := F 114 31) ((fr235 114 31 (by decide) (by rfl)).trans (fr1 114 31 (by decide) (by rfl))) (hat 243 rfl ?_)
        refine h_ic c (hd 128 243 _ _ rfl) (by decide) (fun v243 e243 => hat 244 rfl ?_)
        refine h_add c (hd 129 244 _ _ rfl) (by omega) (fun v244 e244 => hat 245 rfl ?_)
        refine h_putI c (hd 130 245 _ _ rfl) fgX12_288 gnX12_288_114 (by decide) (by decide) rfl (rf_in1 (by omega) (by omega)) (hat 248 rfl ?_)
        refine h_ic c (hd 131 248 _ _ rfl) (by decide) (fun v248 e248 => hat 249 rfl ?_)
        have hRI2 : RI rb z U0 true (hupd F235 114 31 v244) := RI_open hRI 3 126 kk (by omega) rfl ((fr235 114 29 (by decide) (by rfl)).trans (fr1 114 29 (by decide) (by rfl))) ((fr235 114 30 (by decide) (by rfl)).trans (fr1 114 30 (by decide) (by rfl))) (show v244.toInt = _ by omega) (by omega) (by have e_ : (hupd F235 114 31 v244) 114 32 = F235 114 32 := rfl; rw [e_, hc235, show F1 114 32 = F 114 32 from fr1 114 32 (by decide) (by rfl)]) (by rw [show (hupd F235 114 31 v244) 114 33 = F1 114 33 from fr235 114 33 (by decide) (by rfl)]; exact h33) (by omega) (by rw [show (hupd F235 114 31 v244) 74 rb.toNat = F1 74 rb.toNat from fr235 74 rb.toNat (by decide) (by rfl)]; exact h74) (fun i_ => (fr235 85 i_ (by decide) (by rfl)).trans (fr1 85 i_ (by decide) (by rfl))) (fun i_ => by rw [show (hupd F235 114 31 v244) 87 i_ = F235 87 i_ from rfl, hw235, show F1 114 32 = F 114 32 from fr1 114 32 (by decide) (by rfl), show F1 87 i_ = F 87 i_ from fr1 87 i_ (by decide) (by rfl)]; split <;> first | rfl | omega) (fun i_ => by rw [show (hupd F235 114 31 v244) 88 i_ = F235 88 i_ from rfl, hg235, show F1 114 32 = F 114 32 from fr1 114 32 (by decide) (by rfl), show F1 88 i_ = F 88 i_ from fr1 88 i_ (by decide) (by rfl)]; split <;> first | rfl | omega)
        have hdb : decide (v248.toInt = 1) = true := by simp; omega
        exact h_zret c (hd 132 249 _ _ rfl) rfl (by omega) ⟨_, rfl, by omega, by omega, by rw [show (hupd F235 114 31 v244) 114 7 = F1 114 7 from fr235 114 7 (by decide) (by rfl)]; exact hen1, (fun i_ _ => (fun i_ => (fr235 85 i_ (by decide) (by rfl)).trans (fr1 85 i_ (by decide) (by rfl))) i_), Or.inr ⟨by rw [show (hupd F235 114 31 v244) 114 4 = F 114 4 from (fr235 114 4 (by decide) (by rfl)).trans (fr1 114 4 (by decide) (by rfl))]; exact hft, htk, by rw [hdb]; exact hRI2, by rw [show (hupd F235 114 31 v244) 114 8 = F1 114 8 from fr235 114 8 (by decide) (by rfl), show (hupd F235 114 31 v244) 114 7 = F1 114 7 from fr235 114 7 (by decide) (by rfl)]; exact hpr⟩⟩
    · skip
      refine h_iln c (hd 115 218 _ _ rfl) (by rfl) (hat 219 rfl ?_)
      refine h_if c (hd 116 219 _ _ rfl) (tgt := 250) (by decide) (fun (h219 : w3.toInt = 0) => ?_) (fun (h219 : ¬ (w3.toInt = 0)) => hat 222 rfl ?_)
      · skip
        refine h_aln c (hd 133 250 _ _ rfl) (by rfl) (hat 251 rfl ?_)
        refine h_il c (hd 134 251 _ _ rfl) (by rfl) (hat 253 rfl ?_)
        refine h_if c (hd 135 253 _ _ rfl) (tgt := 261) (by decide) (fun (h253 : w4.toInt ≠ 0) => ?_) (fun (h253 : ¬ (w4.toInt ≠ 0)) => hat 256 rfl ?_)
        · skip
          refine h_il c (hd 138 261 _ _ rfl) (by rfl) (hat 263 rfl ?_)
          refine h_il c (hd 139 263 _ _ rfl) (by rfl) (hat 265 rfl ?_)
          refine h_callVF c (M' := hM_emit) (hp_emit hG) (by decide +kernel) (wlkV (lkX12_304 hG) _ rfl rfl) (j := 114) (by decide +kernel) (hd 140 265 _ _ rfl) [.int w4, .int w6] (rest := []) (by rfl) ⟨⟨114, by decide, rfl⟩, ⟨_, rfl, rf_in_top _, trivial⟩, ⟨_, rfl, rf_in_top _, trivial⟩, trivial⟩ (Nat.le_of_ble_eq_true rfl) (show (F1 114 30).toInt < 1120 by rw [show F1 114 30 = F 114 30 from fr1 114 30 (by decide) (by rfl)]; omega) (fun rv265 F265 fr265 rr265 pp265 sm_ => hat 268 rfl ?_)
          obtain ⟨a_, b_, ea_, eb_, er_, hc265, hcd265⟩ := pp265
          cases ea_; cases eb_; subst er_
          refine h_ic c (hd 141 268 _ _ rfl) (by decide) (fun v268 e268 => hat 269 rfl ?_)
          have hRI2 : RI rb z U0 false F265 := RI_unit (by omega) hRI w4.toInt (by omega) ((fr265 114 29 (by decide) (by rfl)).trans (fr1 114 29 (by decide) (by rfl))) (by rw [hc265, show F1 114 30 = F 114 30 from fr1 114 30 (by decide) (by rfl)]) ((fr265 114 31 (by decide) (by rfl)).trans (fr1 114 31 (by decide) (by rfl))) ((fr265 114 32 (by decide) (by rfl)).trans (fr1 114 32 (by decide) (by rfl))) (by rw [show F265 114 33 = F1 114 33 from fr265 114 33 (by decide) (by rfl)]; omega) (by omega) (by rw [show F265 74 rb.toNat = F1 74 rb.toNat from fr265 74 rb.toNat (by decide) (by rfl)]; omega) (fun i_ => by rw [hcd265, show F1 114 30 = F 114 30 from fr1 114 30 (by decide) (by rfl), show F1 85 i_ = F 85 i_ from fr1 85 i_ (by decide) (by rfl)]; split <;> rfl) (fun i_ => (fr265 87 i_ (by decide) (by rfl)).trans (fr1 87 i_ (by decide) (by rfl))) (fun i_ => (fr265 88 i_ (by decide) (by rfl)).trans (fr1 88 i_ (by decide) (by rfl)))
          have hdb : decide (v268.toInt = 1) = false := by simp; omega
          exact h_zret c (hd 142 269 _ _ rfl) rfl (by omega) ⟨_, rfl, by omega, by omega, by rw [show F265 114 7 = F1 114 7 from fr265 114 7 (by decide) (by rfl)]; exact hen1, (fun i_ hi_ => by rw [hcd265, show F1 114 30 = F 114 30 from fr1 114 30 (by decide) (by rfl), if_neg (by omega)]; exact fr1 85 i_ (by decide) (by rfl)), Or.inr ⟨by rw [show F265 114 4 = F 114 4 from (fr265 114 4 (by decide) (by rfl)).trans (fr1 114 4 (by decide) (by rfl))]; exact hft, htk, by rw [hdb]; exact hRI2, by rw [show F265 114 8 = F1 114 8 from fr265 114 8 (by decide) (by rfl), show F265 114 7 = F1 114 7 from fr265 114 7 (by decide) (by rfl)]; exact hpr⟩⟩
        · skip
          refine h_bp c (hd 136 256 _ _ rfl) (by decide) (fun v256 e256 => hat 258 rfl ?_)
          refine h_goto c (hd 137 258 _ _ rfl) (tgt := 263) (by decide) ?_
          refine h_il c (hd 139 263 _ _ rfl) (by rfl) (hat 265 rfl ?_)
          refine h_callVF c (M' := hM_emit) (hp_emit hG) (by decide +kernel) (wlkV (lkX12_304 hG) _ rfl rfl) (j := 114) (by decide +kernel) (hd 140 265 _ _ rfl) [.int v256, .int w6] (rest := []) (by rfl) ⟨⟨114, by decide, rfl⟩, ⟨_, rfl, rf_in_top _, trivial⟩, ⟨_, rfl, rf_in_top _, trivial⟩, trivial⟩ (Nat.le_of_ble_eq_true rfl) (show (F1 114 30).toInt < 1120 by rw [show F1 114 30 = F 114 30 from fr1 114 30 (by decide) (by rfl)]; omega) (fun rv265 F265 fr265 rr265 pp265 sm_ => hat 268 rfl ?_)
          obtain ⟨a_, b_, ea_, eb_, er_, hc265, hcd265⟩ := pp265
          cases ea_; cases eb_; subst er_
          refine h_ic c (hd 141 268 _ _ rfl) (by decide) (fun v268 e268 => hat 269 rfl ?_)
          have hRI2 : RI rb z U0 false F265 := RI_unit (by omega) hRI v256.toInt (by omega) ((fr265 114 29 (by decide) (by rfl)).trans (fr1 114 29 (by decide) (by rfl))) (by rw [hc265, show F1 114 30 = F 114 30 from fr1 114 30 (by decide) (by rfl)]) ((fr265 114 31 (by decide) (by rfl)).trans (fr1 114 31 (by decide) (by rfl))) ((fr265 114 32 (by decide) (by rfl)).trans (fr1 114 32 (by decide) (by rfl))) (by rw [show F265 114 33 = F1 114 33 from fr265 114 33 (by decide) (by rfl)]; omega) (by omega) (by rw [show F265 74 rb.toNat = F1 74 rb.toNat from fr265 74 rb.toNat (by decide) (by rfl)]; omega) (fun i_ => by rw [hcd265, show F1 114 30 = F 114 30 from fr1 114 30 (by decide) (by rfl), show F1 85 i_ = F 85 i_ from fr1 85 i_ (by decide) (by rfl)]; split <;> rfl) (fun i_ => (fr265 87 i_ (by decide) (by rfl)).trans (fr1 87 i_ (by decide) (by rfl))) (fun i_ => (fr265 88 i_ (by decide) (by rfl)).trans (fr1 88 i_ (by decide) (by rfl)))
          have hdb : decide (v268.toInt = 1) = false := by simp; omega
          exact h_zret c (hd 142 269 _ _ rfl) rfl (by omega) ⟨_, rfl, by omega, by omega, by rw [show F265 114 7 = F1 114 7 from fr265 114 7 (by decide) (by rfl)]; exact hen1, (fun i_ hi_ => by rw [hcd265, show F1 114 30 = F 114 30 from fr1 114 30 (by decide) (by rfl), if_neg (by omega)]; exact fr1 85 i_ (by decide) (by rfl)), Or.inr ⟨by rw [show F265 114 4 = F 114 4 from (fr265 114 4 (by decide) (by rfl)).trans (fr1 114 4 (by decide) (by rfl))]; exact hft, htk, by rw [hdb]; exact hRI2, by rw [show F265 114 8 = F1 114 8 from fr265 114 8 (by decide) (by rfl), show F265 114 7 = F1 114 7 from fr265 114 7 (by decide) (by rfl)]; exact hpr⟩⟩
      · skip
        refine h_aln c (hd 117 222 _ _ rfl) (by rfl) (hat 223 rfl ?_)
        refine h_iln c (hd 118 223 _ _ rfl) (by rfl) (hat 224 rfl ?_)
        refine h_if c (hd 119 224 _ _ rfl) (tgt := 231) (by decide) (fun (h224 : w2.toInt = 0) => ?_) (fun (h224 : ¬ (w2.toInt = 0)) => hat 227 rfl ?_)
        · skip
          refine h_bp c (hd 122 231 _ _ rfl) (by decide) (fun v231 e231 => hat 233 rfl ?_)
          refine h_bp c (hd 123 233 _ _ rfl) (by decide) (fun v233 e233 => hat 235 rfl ?_)
          refine h_callVF c (M' := hM_pushE) (hp_pushE hG) (by decide +kernel) (wlkV (lkX12_291 hG) _ rfl rfl) (j := 114) (by decide +kernel) (hd 124 235 _ _ rfl) [.int v231, .int v233] (rest := []) (by rfl) ⟨⟨114, by decide, rfl⟩, ⟨_, rfl, rf_in1 (by omega) (by omega), trivial⟩, ⟨_, rfl, rf_in_top _, trivial⟩, trivial⟩ (Nat.le_of_ble_eq_true rfl) (show (F1 114 32).toInt < 90 by rw [show F1 114 32 = F 114 32 from fr1 114 32 (by decide) (by rfl)]; omega) (fun rv235 F235 fr235 rr235 pp235 sm_ => hat 238 rfl ?_)
          obtain ⟨a_, b_, ea_, eb_, er_, hc235, hw235, hg235⟩ := pp235
          cases ea_; cases eb_; subst er_
          refine h_aln c (hd 125 238 _ _ rfl) (by rfl) (hat 239 rfl ?_)
          refine h_dup c (hd 126 239 _ _ rfl) (by rfl) (hat 240 rfl ?_)
          refine h_getI c (hd 127 240 _ _ rfl) fgX12_288 gnX12_288_114 (x := F 114 31) ((fr235 114 31 (by decide) (by rfl)).trans (fr1 114 31 (by decide) (by rfl))) (hat 243 rfl ?_)
          refine h_ic c (hd 128 243 _ _ rfl) (by decide) (fun v243 e243 => hat 244 rfl ?_)
          refine h_add c (hd 129 244 _ _ rfl) (by omega) (fun v244 e244 => hat 245 rfl ?_)
          refine h_putI c (hd 130 245 _ _ rfl) fgX12_288 gnX12_288_114 (by decide) (by decide) rfl (rf_in1 (by omega) (by omega)) (hat 248 rfl ?_)
          refine h_ic c (hd 131 248 _ _ rfl) (by decide) (fun v248 e248 => hat 249 rfl ?_)
          have hRI2 : RI rb z U0 true (hupd F235 114 31 v244) := RI_open hRI 7 126 kk (by omega) rfl ((fr235 114 29 (by decide) (by rfl)).trans (fr1 114 29 (by decide) (by rfl))) ((fr235 114 30 (by decide) (by rfl)).trans (fr1 114 30 (by decide) (by rfl))) (show v244.toInt = _ by omega) (by omega) (by have e_ : (hupd F235 114 31 v244) 114 32 = F235 114 32 := rfl; rw [e_, hc235, show F1 114 32 = F 114 32 from fr1 114 32 (by decide) (by rfl)]) (by rw [show (hupd F235 114 31 v244) 114 33 = F1 114 33 from fr235 114 33 (by decide) (by rfl)]; exact h33) (by omega) (by rw [show (hupd F235 114 31 v244) 74 rb.toNat = F1 74 rb.toNat from fr235 74 rb.toNat (by decide) (by rfl)]; exact h74) (fun i_ => (fr235 85 i_ (by decide) (by rfl)).trans (fr1 85 i_ (by decide) (by rfl))) (fun i_ => by rw [show (hupd F235 114 31 v244) 87 i_ = F235 87 i_ from rfl, hw235, show F1 114 32 = F 114 32 from fr1 114 32 (by decide) (by rfl), show F1 87 i_ = F 87 i_ from fr1 87 i_ (by decide) (by rfl)]; split <;> first | rfl | omega) (fun i_ => by rw [show (hupd F235 114 31 v244) 88 i_ = F235 88 i_ from rfl, hg235, show F1 114 32 = F 114 32 from fr1 114 32 (by decide) (by rfl), show F1 88 i_ = F 88 i_ from fr1 88 i_ (by decide) (by rfl)]; split <;> first | rfl | omega)
          have hdb : decide (v248.toInt = 1) = true := by simp; omega
          exact h_zret c (hd 132 249 _ _ rfl) rfl (by omega) ⟨_, rfl, by omega, by omega, by rw [show (hupd F235 114 31 v244) 114 7 = F1 114 7 from fr235 114 7 (by decide) (by rfl)]; exact hen1, (fun i_ _ => (fun i_ => (fr235 85 i_ (by decide) (by rfl)).trans (fr1 85 i_ (by decide) (by rfl))) i_), Or.inr ⟨by rw [show (hupd F235 114 31 v244) 114 4 = F 114 4 from (fr235 114 4 (by decide) (by rfl)).trans (fr1 114 4 (by decide) (by rfl))]; exact hft, htk, by rw [hdb]; exact hRI2, by rw [show (hupd F235 114 31 v244) 114 8 = F1 114 8 from fr235 114 8 (by decide) (by rfl), show (hupd F235 114 31 v244) 114 7 = F1 114 7 from fr235 114 7 (by decide) (by rfl)]; exact hpr⟩⟩
        · exfalso; omega
  have K210 : ∀ (w1 w2 w3 w4 w5 w6 : Int32) (kk : Int) (F1 : HF), hframe [(74, 0), (114, 34), (998, 3)] F F1 → (w2.toInt = 1 ∧ w3.toInt ≤ 1 ∧ 0 ≤ w3.toInt ∧ kk = 0 ∨ w2.toInt = 0 ∧ 0 ≤ w3.toInt ∧ w3.toInt ≤ 1 ∧ kk = 1) → (w4.toInt = 0 ∨ 97 ≤ w4.toInt ∧ w4.toInt ≤ 122) → (w2.toInt = 0 ∧ w3.toInt = 0 ∨ (F 114 31).toInt < 7) → (F 114 8).toInt ≠ 0 → (F 114 33).toInt + kk ≤ 30 → (F1 74 rb.toNat).toInt = (F 74 rb.toNat).toInt + kk → (F1 114 33).toInt = (F 114 33).toInt + kk → hW G X hM_unit w0 210 [(6, .int w6), (5, .int w5), (4, .int w4), (3, .int w3), (2, .int w2), (1, .int w1), (0, .ref (G.2.1.1 114))] [] F1 := by
    intro w1 w2 w3 w4 w5 w6 kk F1 fr1 hf1 hf2 hf3 htk hkk h74 h33
    refine h_aln c (hd 111 210 _ _ rfl) (by rfl) (hat 211 rfl ?_)
    refine h_callV c (M' := q681_M) (hp_goOn hG) (by decide +kernel) (by decide +kernel) (wlkV (lkX12_227 hG) _ rfl rfl) (j := 114) (by decide +kernel) (hd 112 211 _ _ rfl) [] (rest := []) (by rfl) ⟨⟨114, by decide, rfl⟩, trivial⟩ (Nat.le_of_ble_eq_true rfl) (fun q hq => by cases hm1 hq; exact rf_in1 (show 0 ≤ (F1 114 7).toInt by rw [show F1 114 7 = F 114 7 from fr1 114 7 (by decide) (by rfl)]; omega) (show (F1 114 7).toInt ≤ 1600 by rw [show F1 114 7 = F 114 7 from fr1 114 7 (by decide) (by rfl)]; omega)) (fun rv211 F211 fr211 rr211 pp211 sm_ => hat 214 rfl ?_)
    obtain ⟨k_, hk_, pp211⟩ := pp211
    rcases hm3 hk_ with rfl | rfl | rfl
    · skip
      match rv211, pp211 with
      | none, pp211 =>
      skip
      have gf211_0 : 0 ≤ (F211 114 7).toInt ∧ (F211 114 7).toInt ≤ 1600 := ⟨(hk_fact pp211 0 rfl).1.1, (hk_fact pp211 0 rfl).1.2.1⟩
      have gf211_1 : 0 ≤ (F211 114 8).toInt ∧ (F211 114 8).toInt ≤ 0 := ⟨(hk_fact pp211 1 rfl).1.1, (hk_fact pp211 1 rfl).1.2.1⟩
      have gf211_2 : hgh F211 1 = true := hk_gh (hk_fact pp211 2 rfl).1
      exact K214 w1 w2 w3 w4 w5 w6 kk _ (hframe_tr (hframe_tr (hframe_rf [(74, 0), (114, 7), (114, 8), (114, 9), (114, 10), (114, 11), (114, 34), (998, 2), (998, 3)] F) fr1 (by decide)) fr211 (by decide)) hf1 hf2 hf3 htk hkk (by rw [show F211 74 rb.toNat = F1 74 rb.toNat from fr211 74 rb.toNat (by decide) (by rfl)]; exact h74) (by rw [show F211 114 33 = F1 114 33 from fr211 114 33 (by decide) (by rfl)]; exact h33) (by omega) (Or.inl (by omega))
    · skip
      match rv211, pp211 with
      | none, pp211 =>
      skip
      have gf211_0 : 1 ≤ (F211 114 7).toInt ∧ (F211 114 7).toInt ≤ 1600 := ⟨(hk_fact pp211 0 rfl).1.1, (hk_fact pp211 0 rfl).1.2.1⟩
      have gr211_0 : (F1 114 7).toInt + 1 ≤ (F211 114 7).toInt ∧ (F211 114 7).toInt ≤ (F1 114 7).toInt + 4294967296 := (hk_fact pp211 0 rfl).2
      have gf211_1 : 5 ≤ (F211 114 8).toInt ∧ (F211 114 8).toInt ≤ 5 := ⟨(hk_fact pp211 1 rfl).1.1, (hk_fact pp211 1 rfl).1.2.1⟩
      have gf211_2 : hgh F211 1 = true := hk_gh (hk_fact pp211 2 rfl).1
      exact K214 w1 w2 w3 w4 w5 w6 kk _ (hframe_tr (hframe_tr (hframe_rf [(74, 0), (114, 7), (114, 8), (114, 9), (114, 10), (114, 11), (114, 34), (998, 2), (998, 3)] F) fr1 (by decide)) fr211 (by decide)) hf1 hf2 hf3 htk hkk (by rw [show F211 74 rb.toNat = F1 74 rb.toNat from fr211 74 rb.toNat (by decide) (by rfl)]; exact h74) (by rw [show F211 114 33 = F1 114 33 from fr211 114 33 (by decide) (by rfl)]; exact h33) (by omega) (Or.inr (by rw [show F1 114 7 = F 114 7 from fr1 114 7 (by decide) (by rfl)] at gr211_0; omega))
    · skip
      match rv211, pp211 with
      | none, pp211 =>
      skip
      have gf211_0 : 1 ≤ (F211 114 7).toInt ∧ (F211 114 7).toInt ≤ 1600 := ⟨(hk_fact pp211 0 rfl).1.1, (hk_fact pp211 0 rfl).1.2.1⟩
      have gr211_0 : (F1 114 7).toInt + 1 ≤ (F211 114 7).toInt ∧ (F211 114 7).toInt ≤ (F1 114 7).toInt + 4294967296 := (hk_fact pp211 0 rfl).2
      have gf211_1 : 1 ≤ (F211 114 8).toInt ∧ (F211 114 8).toInt ≤ 4 := ⟨(hk_fact pp211 1 rfl).1.1, (hk_fact pp211 1 rfl).1.2.1⟩
      have gf211_2 : hgh F211 1 = true := hk_gh (hk_fact pp211 2 rfl).1
      exact K214 w1 w2 w3 w4 w5 w6 kk _ (hframe_tr (hframe_tr (hframe_rf [(74, 0), (114, 7), (114, 8), (114, 9), (114, 10), (114, 11), (114, 34), (998, 2), (998, 3)] F) fr1 (by decide)) fr211 (by decide)) hf1 hf2 hf3 htk hkk (by rw [show F211 74 rb.toNat = F1 74 rb.toNat from fr211 74 rb.toNat (by decide) (by rfl)]; exact h74) (by rw [show F211 114 33 = F1 114 33 from fr211 114 33 (by decide) (by rfl)]; exact h33) (by omega) (Or.inr (by rw [show F1 114 7 = F 114 7 from fr1 114 7 (by decide) (by rfl)] at gr211_0; omega))
  have K195 : ∀ (w1 w2 w3 w4 w5 : Int32) (kk : Int) (F1 : HF), hframe [(74, 0), (114, 34), (998, 3)] F F1 → (w2.toInt = 1 ∧ w3.toInt ≤ 1 ∧ 0 ≤ w3.toInt ∧ kk = 0 ∨ w2.toInt = 0 ∧ 0 ≤ w3.toInt ∧ w3.toInt ≤ 1 ∧ kk = 1) → (w4.toInt = 0 ∨ 97 ≤ w4.toInt ∧ w4.toInt ≤ 122) → (w2.toInt = 0 ∧ w3.toInt = 0 ∨ (F 114 31).toInt < 7) → (F 114 8).toInt ≠ 0 → (F 114 33).toInt + kk ≤ 30 → (F1 74 rb.toNat).toInt = (F 74 rb.toNat).toInt + kk → (F1 114 33).toInt = (F 114 33).toInt + kk → hW G X hM_unit w0 195 [(5, .int w5), (4, .int w4), (3, .int w3), (2, .int w2), (1, .int w1), (0, .ref (G.2.1.1 114))] [] F1 := by
    intro w1 w2 w3 w4 w5 kk F1 fr1 hf1 hf2 hf3 htk hkk h74 h33
    refine h_il c (hd 104 195 _ _ rfl) (by rfl) (hat 197 rfl ?_)
    refine h_if c (hd 105 197 _ _ rfl) (tgt := 207) (by decide) (fun (h197 : w4.toInt ≠ 0) => ?_) (fun (h197 : ¬ (w4.toInt ≠ 0)) => hat 200 rfl ?_)
    · skip
      refine h_ic c (hd 109 207 _ _ rfl) (by decide) (fun v207 e207 => hat 208 rfl ?_)
      refine h_is c (hd 110 208 _ _ rfl) (by decide) (L' := [(6, .int v207), (5, .int w5), (4, .int w4), (3, .int w3), (2, .int w2), (1, .int w1), (0, .ref (G.2.1.1 114))]) (by rfl) (hat 210 rfl ?_)
      exact K210 w1 w2 w3 w4 w5 _ kk _ fr1 hf1 hf2 hf3 htk hkk h74 h33
    · skip
      refine h_aln c (hd 106 200 _ _ rfl) (by rfl) (hat 201 rfl ?_)
      refine h_getI c (hd 107 201 _ _ rfl) fgX12_213 gnX12_213_114 (x := F 114 9) (fr1 114 9 (by decide) (by rfl)) (hat 204 rfl ?_)
      refine h_goto c (hd 108 204 _ _ rfl) (tgt := 208) (by decide) ?_
      refine h_is c (hd 110 208 _ _ rfl) (by decide) (L' := [(6, .int (F 114 9)), (5, .int w5), (4, .int w4), (3, .int w3), (2, .int w2), (1, .int w1), (0, .ref (G.2.1.1 114))]) (by rfl) (hat 210 rfl ?_)
      exact K210 w1 w2 w3 w4 w5 _ kk _ fr1 hf1 hf2 hf3 htk hkk h74 h33
  have K156 : ∀ (w1 w2 w3 w4 w5 : Int32) (F1 : HF), hframe [] F F1 → (w2.toInt = 1 ∧ w3.toInt ≤ 1 ∧ 0 ≤ w3.toInt ∨ w2.toInt = 0 ∧ 0 ≤ w3.toInt ∧ w3.toInt ≤ 1 ∧ (F 114 33).toInt < 30 ∧ (F 74 rb.toNat).toInt < 60) → (w4.toInt = 0 ∨ 97 ≤ w4.toInt ∧ w4.toInt ≤ 122) → (w2.toInt = 0 ∧ w3.toInt = 0 ∨ (F 114 31).toInt < 7) → (F 114 8).toInt ≠ 0 → hW G X hM_unit w0 156 [(5, .int w5), (4, .int w4), (3, .int w3), (2, .int w2), (1, .int w1), (0, .ref (G.2.1.1 114))] [] F1 := by
    intro w1 w2 w3 w4 w5 F1 fr1 hf1 hf2 hf3 htk
    refine h_aln c (hd 81 156 _ _ rfl) (by rfl) (hat 157 rfl ?_)
    refine h_getR c (hd 82 157 _ _ rfl) fgX12_24 gnX12_24_114 (hat 160 rfl ?_)
    refine h_aln c (hd 83 160 _ _ rfl) (by rfl) (hat 161 rfl ?_)
    refine h_getI c (hd 84 161 _ _ rfl) fgX12_233 gnX12_233_114 (x := F 114 29) (fr1 114 29 (by decide) (by rfl)) (hat 164 rfl ?_)
    refine h_dup2 c (hd 85 164 _ _ rfl) (by rfl) (by rfl) (hat 165 rfl ?_)
    refine h_iald c (hd 86 165 _ _ rfl) la_74 ⟨by omega, by omega⟩ (congrArg Int.toNat h29) (x := F 74 rb.toNat) (fr1 74 rb.toNat (by decide) (by rfl)) (hat 166 rfl ?_)
    refine h_iln c (hd 87 166 _ _ rfl) (by rfl) (hat 167 rfl ?_)
    refine h_if c (hd 88 167 _ _ rfl) (tgt := 174) (by decide) (fun (h167 : w2.toInt = 0) => ?_) (fun (h167 : ¬ (w2.toInt = 0)) => hat 170 rfl ?_)
    · skip
      refine h_ic c (hd 91 174 _ _ rfl) (by decide) (fun v174 e174 => hat 175 rfl ?_)
      refine h_add c (hd 92 175 _ _ rfl) (by omega) (fun v175 e175 => hat 176 rfl ?_)
      refine h_iast c (hd 93 176 _ _ rfl) la_74 ⟨by omega, by omega⟩ (congrArg Int.toNat h29) (by decide) (by decide) (hin1 (rf_in1 (by omega) (by omega))) (hat 177 rfl ?_)
      refine h_aln c (hd 94 177 _ _ rfl) (by rfl) (hat 178 rfl ?_)
      refine h_dup c (hd 95 178 _ _ rfl) (by rfl) (hat 179 rfl ?_)
      refine h_getI c (hd 96 179 _ _ rfl) fgX12_279 gnX12_279_114 (x := F 114 33) (fr1 114 33 (by decide) (by rfl)) (hat 182 rfl ?_)
      refine h_iln c (hd 97 182 _ _ rfl) (by rfl) (hat 183 rfl ?_)
      refine h_if c (hd 98 183 _ _ rfl) (tgt := 190) (by decide) (fun (h183 : w2.toInt = 0) => ?_) (fun (h183 : ¬ (w2.toInt = 0)) => hat 186 rfl ?_)
      · skip
        refine h_ic c (hd 101 190 _ _ rfl) (by decide) (fun v190 e190 => hat 191 rfl ?_)
        refine h_add c (hd 102 191 _ _ rfl) (by omega) (fun v191 e191 => hat 192 rfl ?_)
        refine h_putI c (hd 103 192 _ _ rfl) fgX12_279 gnX12_279_114 (by decide) (by decide) rfl (rf_in1 (by omega) (by omega)) (hat 195 rfl ?_)
        exact K195 w1 w2 w3 w4 w5 1 _ (hframe_up (hframe_up (hframe_tr (hframe_rf [(74, 0), (114, 34), (998, 3)] F) fr1 (by decide)) (by rfl) _) (by rfl) _) (by omega) hf2 hf3 htk (by omega) (by rw [show (hupd (hupd F1 74 rb.toNat v175) 114 33 v191) 74 rb.toNat = v175 from hupd_s F1 74 rb.toNat v175]; omega) (show v191.toInt = _ by omega)
      · exfalso; omega
    · skip
      refine h_ic c (hd 89 170 _ _ rfl) (by decide) (fun v170 e170 => hat 171 rfl ?_)
      refine h_goto c (hd 90 171 _ _ rfl) (tgt := 175) (by decide) ?_
      refine h_add c (hd 92 175 _ _ rfl) (by omega) (fun v175 e175 => hat 176 rfl ?_)
      refine h_iast c (hd 93 176 _ _ rfl) la_74 ⟨by omega, by omega⟩ (congrArg Int.toNat h29) (by decide) (by decide) (hin1 (rf_in1 (by omega) (by omega))) (hat 177 rfl ?_)
      refine h_aln c (hd 94 177 _ _ rfl) (by rfl) (hat 178 rfl ?_)
      refine h_dup c (hd 95 178 _ _ rfl) (by rfl) (hat 179 rfl ?_)
      refine h_getI c (hd 96 179 _ _ rfl) fgX12_279 gnX12_279_114 (x := F 114 33) (fr1 114 33 (by decide) (by rfl)) (hat 182 rfl ?_)
      refine h_iln c (hd 97 182 _ _ rfl) (by rfl) (hat 183 rfl ?_)
      refine h_if c (hd 98 183 _ _ rfl) (tgt := 190) (by decide) (fun (h183 : w2.toInt = 0) => ?_) (fun (h183 : ¬ (w2.toInt = 0)) => hat 186 rfl ?_)
      · exfalso; omega
      · skip
        refine h_ic c (hd 99 186 _ _ rfl) (by decide) (fun v186 e186 => hat 187 rfl ?_)
        refine h_goto c (hd 100 187 _ _ rfl) (tgt := 191) (by decide) ?_
        refine h_add c (hd 102 191 _ _ rfl) (by omega) (fun v191 e191 => hat 192 rfl ?_)
        refine h_putI c (hd 103 192 _ _ rfl) fgX12_279 gnX12_279_114 (by decide) (by decide) rfl (rf_in1 (by omega) (by omega)) (hat 195 rfl ?_)
        exact K195 w1 w2 w3 w4 w5 0 _ (hframe_up (hframe_up (hframe_tr (hframe_rf [(74, 0), (114, 34), (998, 3)] F) fr1 (by decide)) (by rfl) _) (by rfl) _) (by omega) hf2 hf3 htk (by omega) (by rw [show (hupd (hupd F1 74 rb.toNat v175) 114 33 v191) 74 rb.toNat = v175 from hupd_s F1 74 rb.toNat v175]; omega) (show v191.toInt = _ by omega)
  have K147 : ∀ (w1 w2 w3 w4 w5 : Int32) (F1 : HF), hframe [] F F1 → (w2.toInt = 1 ∧ w3.toInt ≤ 1 ∧ 0 ≤ w3.toInt ∨ w2.toInt = 0 ∧ 0 ≤ w3.toInt ∧ w3.toInt ≤ 1 ∧ (F 114 33).toInt < 30 ∧ (F 74 rb.toNat).toInt < 60) → (w4.toInt = 0 ∨ 97 ≤ w4.toInt ∧ w4.toInt ≤ 122) → (w2.toInt = 0 ∧ w3.toInt = 0 ∨ (F 114 31).toInt < 7) → (F 114 8).toInt ≠ 0 → hW G X hM_unit w0 147 [(5, .int w5), (4, .int w4), (3, .int w3), (2, .int w2), (1, .int w1), (0, .ref (G.2.1.1 114))] [] F1 := by
    intro w1 w2 w3 w4 w5 F1 fr1 hf1 hf2 hf3 htk
    have e4_ : F1 114 4 = F 114 4 := fr1 114 4 (by decide) (by rfl)
    refine h_aln c (hd 76 147 _ _ rfl) (by rfl) (hat 148 rfl ?_)
    refine h_callV c (M' := q1214_M) (q1214_met hG) (by decide +kernel) (by decide +kernel) (wlkV (lkX12_223 hG) _ rfl rfl) (j := 114) (by decide +kernel) (hd 77 148 _ _ rfl) [] (rest := []) (by rfl) ⟨⟨114, by decide, rfl⟩, trivial⟩ (Nat.le_of_ble_eq_true rfl) (fun q hq => absurd hq List.not_mem_nil) (fun rv148 F148 fr148 rr148 pp148 sm_ => hat 151 rfl ?_)
    have e_ := (sm_ rfl).symm
    subst e_
    obtain ⟨k_, hk_, pp148⟩ := pp148
    rcases hm2 hk_ with rfl | rfl
    · skip
      obtain ⟨x148, hrv_, hx148⟩ := hk_val pp148
      subst hrv_
      have hx148 : 1 ≤ x148.toInt ∧ x148.toInt ≤ 1 := ⟨hx148.1, hx148.2.1⟩
      have gf148_0 : 0 ≤ (F1 114 4).toInt ∧ (F1 114 4).toInt ≤ 0 := ⟨(hk_fact pp148 0 rfl).1.1, (hk_fact pp148 0 rfl).1.2.1⟩
      refine h_if c (hd 78 151 _ _ rfl) (tgt := 156) (by decide) (fun (h151 : x148.toInt ≠ 0) => ?_) (fun (h151 : ¬ (x148.toInt ≠ 0)) => hat 154 rfl ?_)
      · skip
        exact K156 w1 w2 w3 w4 w5 _ (fr1) hf1 hf2 hf3 htk
      · skip
        refine h_ic c (hd 79 154 _ _ rfl) (by decide) (fun v154 e154 => hat 155 rfl ?_)
        exfalso
        rw [e4_] at gf148_0
        omega
    · skip
      obtain ⟨x148, hrv_, hx148⟩ := hk_val pp148
      subst hrv_
      have hx148 : 0 ≤ x148.toInt ∧ x148.toInt ≤ 0 := ⟨hx148.1, hx148.2.1⟩
      have gf148_0 : 1 ≤ (F1 114 4).toInt ∧ (F1 114 4).toInt ≤ 4 := ⟨(hk_fact pp148 0 rfl).1.1, (hk_fact pp148 0 rfl).1.2.1⟩
      refine h_if c (hd 78 151 _ _ rfl) (tgt := 156) (by decide) (fun (h151 : x148.toInt ≠ 0) => ?_) (fun (h151 : ¬ (x148.toInt ≠ 0)) => hat 154 rfl ?_)
      · skip
        exact K156 w1 w2 w3 w4 w5 _ (fr1) hf1 hf2 hf3 htk
      · skip
        refine h_ic c (hd 79 154 _ _ rfl) (by decide) (fun v154 e154 => hat 155 rfl ?_)
        exfalso
        rw [e4_] at gf148_0
        omega
  have K143 : ∀ (w1 w2 w3 w4 w5 : Int32) (F1 : HF), hframe [] F F1 → hW G X hM_unit w0 143 [(5, .int w5), (4, .int w4), (3, .int w3), (2, .int w2), (1, .int w1), (0, .ref (G.2.1.1 114))] [] F1 := by
    intro w1 w2 w3 w4 w5 F1 fr1
    refine h_aln c (hd 74 143 _ _ rfl) (by rfl) (hat 144 rfl ?_)
    refine h_callV c (M' := q1217_M) (q1217_met hG) (by decide +kernel) (by decide +kernel) (wlkV (lkX12_230 hG) _ rfl rfl) (j := 114) (by decide +kernel) (hd 75 144 _ _ rfl) [] (rest := []) (by rfl) ⟨⟨114, by decide, rfl⟩, trivial⟩ (Nat.le_of_ble_eq_true rfl) (fun q hq => absurd hq List.not_mem_nil) (fun rv144 F144 fr144 rr144 pp144 sm_ => hat 147 rfl ?_)
    obtain ⟨k_, hk_, pp144⟩ := pp144
    rcases hm1 hk_ with rfl
    match rv144, pp144 with
    | none, pp144 =>
    skip
    have gf144_0 : 1 ≤ (F144 114 4).toInt ∧ (F144 114 4).toInt ≤ 4 := ⟨(hk_fact pp144 0 rfl).1.1, (hk_fact pp144 0 rfl).1.2.1⟩
    refine h_aln c (hd 76 147 _ _ rfl) (by rfl) (hat 148 rfl ?_)
    refine h_callV c (M' := q1214_M) (q1214_met hG) (by decide +kernel) (by decide +kernel) (wlkV (lkX12_223 hG) _ rfl rfl) (j := 114) (by decide +kernel) (hd 77 148 _ _ rfl) [] (rest := []) (by rfl) ⟨⟨114, by decide, rfl⟩, trivial⟩ (Nat.le_of_ble_eq_true rfl) (fun q hq => absurd hq List.not_mem_nil) (fun rv148 F148 fr148 rr148 pp148 sm_ => hat 151 rfl ?_)
    have e_ := (sm_ rfl).symm
    subst e_
    obtain ⟨k_, hk_, pp148⟩ := pp148
    rcases hm2 hk_ with rfl | rfl
    · skip
      obtain ⟨x148, hrv_, hx148⟩ := hk_val pp148
      subst hrv_
      have hx148 : 1 ≤ x148.toInt ∧ x148.toInt ≤ 1 := ⟨hx148.1, hx148.2.1⟩
      have gf148_0 : 0 ≤ (F144 114 4).toInt ∧ (F144 114 4).toInt ≤ 0 := ⟨(hk_fact pp148 0 rfl).1.1, (hk_fact pp148 0 rfl).1.2.1⟩
      refine h_if c (hd 78 151 _ _ rfl) (tgt := 156) (by decide) (fun (h151 : x148.toInt ≠ 0) => ?_) (fun (h151 : ¬ (x148.toInt ≠ 0)) => hat 154 rfl ?_)
      · skip
        exfalso
        omega
      · skip
        refine h_ic c (hd 79 154 _ _ rfl) (by decide) (fun v154 e154 => hat 155 rfl ?_)
        exact h_zret c (hd 80 155 _ _ rfl) rfl (by omega) ⟨_, rfl, by omega, by omega, by rw [show F144 114 7 = F 114 7 from ((fr144 114 7 (by decide) (by rfl)).trans (fr1 114 7 (by decide) (by rfl)))]; exact hen, (fun i_ _ => (fun i_ => (fr144 85 i_ (by decide) (by rfl)).trans (fr1 85 i_ (by decide) (by rfl))) i_), Or.inl ⟨by omega, RW_same hRWF ((fr144 114 29 (by decide) (by rfl)).trans (fr1 114 29 (by decide) (by rfl))) ((fr144 114 30 (by decide) (by rfl)).trans (fr1 114 30 (by decide) (by rfl))) ((fr144 74 rb.toNat (by decide) (by rfl)).trans (fr1 74 rb.toNat (by decide) (by rfl))) (fun i_ => (fr144 85 i_ (by decide) (by rfl)).trans (fr1 85 i_ (by decide) (by rfl)))⟩⟩
    · skip
      obtain ⟨x148, hrv_, hx148⟩ := hk_val pp148
      subst hrv_
      have hx148 : 0 ≤ x148.toInt ∧ x148.toInt ≤ 0 := ⟨hx148.1, hx148.2.1⟩
      have gf148_0 : 1 ≤ (F144 114 4).toInt ∧ (F144 114 4).toInt ≤ 4 := ⟨(hk_fact pp148 0 rfl).1.1, (hk_fact pp148 0 rfl).1.2.1⟩
      refine h_if c (hd 78 151 _ _ rfl) (tgt := 156) (by decide) (fun (h151 : x148.toInt ≠ 0) => ?_) (fun (h151 : ¬ (x148.toInt ≠ 0)) => hat 154 rfl ?_)
      · skip
        exfalso
        omega
      · skip
        refine h_ic c (hd 79 154 _ _ rfl) (by decide) (fun v154 e154 => hat 155 rfl ?_)
        exact h_zret c (hd 80 155 _ _ rfl) rfl (by omega) ⟨_, rfl, by omega, by omega, by rw [show F144 114 7 = F 114 7 from ((fr144 114 7 (by decide) (by rfl)).trans (fr1 114 7 (by decide) (by rfl)))]; exact hen, (fun i_ _ => (fun i_ => (fr144 85 i_ (by decide) (by rfl)).trans (fr1 85 i_ (by decide) (by rfl))) i_), Or.inl ⟨by omega, RW_same hRWF ((fr144 114 29 (by decide) (by rfl)).trans (fr1 114 29 (by decide) (by rfl))) ((fr144 114 30 (by decide) (by rfl)).trans (fr1 114 30 (by decide) (by rfl))) ((fr144 74 rb.toNat (by decide) (by rfl)).trans (fr1 74 rb.toNat (by decide) (by rfl))) (fun i_ => (fr144 85 i_ (by decide) (by rfl)).trans (fr1 85 i_ (by decide) (by rfl)))⟩⟩
  have K100 : ∀ (w1 w2 w3 w4 w5 : Int32) (F1 : HF), hframe [] F F1 → (0 ≤ w2.toInt ∧ w2.toInt ≤ 1 ∧ 0 ≤ w3.toInt ∧ w3.toInt ≤ 1) → (w2.toInt = 1 → (F 114 8).toInt = 3) → (w3.toInt = 1 → (F 114 8).toInt = 5) → (w4.toInt = 0 ∨ 97 ≤ w4.toInt ∧ w4.toInt ≤ 122 ∧ (F 114 8).toInt = 3) → (0 ≤ w5.toInt ∧ w5.toInt ≤ 1) → (w5.toInt = 0 → (F 114 33).toInt < 30 ∧ (F 74 rb.toNat).toInt < 60) → hW G X hM_unit w0 100 [(5, .int w5), (4, .int w4), (3, .int w3), (2, .int w2), (1, .int w1), (0, .ref (G.2.1.1 114))] [] F1 := by
    intro w1 w2 w3 w4 w5 F1 fr1 hf1 hf2 hf3 hf4 hf5 hf6
    refine h_iln c (hd 54 100 _ _ rfl) (by rfl) (hat 101 rfl ?_)
    refine h_if c (hd 55 101 _ _ rfl) (tgt := 126) (by decide) (fun (h101 : w2.toInt ≠ 0) => ?_) (fun (h101 : ¬ (w2.toInt ≠ 0)) => hat 104 rfl ?_)
    · skip
      refine h_iln c (hd 66 126 _ _ rfl) (by rfl) (hat 127 rfl ?_)
      refine h_if c (hd 67 127 _ _ rfl) (tgt := 134) (by decide) (fun (h127 : w2.toInt ≠ 0) => ?_) (fun (h127 : ¬ (w2.toInt ≠ 0)) => hat 130 rfl ?_)
      · skip
        refine h_aln c (hd 70 134 _ _ rfl) (by rfl) (hat 135 rfl ?_)
        refine h_getI c (hd 71 135 _ _ rfl) fgX12_288 gnX12_288_114 (x := F 114 31) (fr1 114 31 (by decide) (by rfl)) (hat 138 rfl ?_)
        refine h_bp c (hd 72 138 _ _ rfl) (by decide) (fun v138 e138 => hat 140 rfl ?_)
        refine h_cmp c (hd 73 140 _ _ rfl) (tgt := 147) (by decide) (fun (h140 : (F 114 31).toInt ≠ v138.toInt) => ?_) (fun (h140 : ¬ ((F 114 31).toInt ≠ v138.toInt)) => hat 143 rfl ?_)
        · skip
          exact K147 w1 w2 w3 w4 w5 _ fr1 (by omega) (by omega) (by omega) (by omega)
        · skip
          exact K143 w1 w2 w3 w4 w5 _ fr1
      · exfalso; omega
    · skip
      refine h_il c (hd 56 104 _ _ rfl) (by rfl) (hat 106 rfl ?_)
      refine h_if c (hd 57 106 _ _ rfl) (tgt := 121) (by decide) (fun (h106 : w4.toInt ≠ 0) => ?_) (fun (h106 : ¬ (w4.toInt ≠ 0)) => hat 109 rfl ?_)
      · skip
        refine h_il c (hd 64 121 _ _ rfl) (by rfl) (hat 123 rfl ?_)
        refine h_if c (hd 65 123 _ _ rfl) (tgt := 143) (by decide) (fun (h123 : w5.toInt ≠ 0) => ?_) (fun (h123 : ¬ (w5.toInt ≠ 0)) => hat 126 rfl ?_)
        · skip
          exact K143 w1 w2 w3 w4 w5 _ fr1
        · skip
          refine h_iln c (hd 66 126 _ _ rfl) (by rfl) (hat 127 rfl ?_)
          refine h_if c (hd 67 127 _ _ rfl) (tgt := 134) (by decide) (fun (h127 : w2.toInt ≠ 0) => ?_) (fun (h127 : ¬ (w2.toInt ≠ 0)) => hat 130 rfl ?_)
          · exfalso; omega
          · skip
            refine h_iln c (hd 68 130 _ _ rfl) (by rfl) (hat 131 rfl ?_)
            refine h_if c (hd 69 131 _ _ rfl) (tgt := 147) (by decide) (fun (h131 : w3.toInt = 0) => ?_) (fun (h131 : ¬ (w3.toInt = 0)) => hat 134 rfl ?_)
            · skip
              exact K147 w1 w2 w3 w4 w5 _ fr1 (by omega) (by omega) (by omega) (by omega)
            · skip
              refine h_aln c (hd 70 134 _ _ rfl) (by rfl) (hat 135 rfl ?_)
              refine h_getI c (hd 71 135 _ _ rfl) fgX12_288 gnX12_288_114 (x := F 114 31) (fr1 114 31 (by decide) (by rfl)) (hat 138 rfl ?_)
              refine h_bp c (hd 72 138 _ _ rfl) (by decide) (fun v138 e138 => hat 140 rfl ?_)
              refine h_cmp c (hd 73 140 _ _ rfl) (tgt := 147) (by decide) (fun (h140 : (F 114 31).toInt ≠ v138.toInt) => ?_) (fun (h140 : ¬ ((F 114 31).toInt ≠ v138.toInt)) => hat 143 rfl ?_)
              · skip
                exact K147 w1 w2 w3 w4 w5 _ fr1 (by omega) (by omega) (by omega) (by omega)
              · skip
                exact K143 w1 w2 w3 w4 w5 _ fr1
      · skip
        refine h_aln c (hd 58 109 _ _ rfl) (by rfl) (hat 110 rfl ?_)
        refine h_getI c (hd 59 110 _ _ rfl) fgX12_195 gnX12_195_114 (x := F 114 8) (fr1 114 8 (by decide) (by rfl)) (hat 113 rfl ?_)
        refine h_ic c (hd 60 113 _ _ rfl) (by decide) (fun v113 e113 => hat 114 rfl ?_)
        refine h_cmp c (hd 61 114 _ _ rfl) (tgt := 121) (by decide) (fun (h114 : (F 114 8).toInt = v113.toInt) => ?_) (fun (h114 : ¬ ((F 114 8).toInt = v113.toInt)) => hat 117 rfl ?_)
        · skip
          refine h_il c (hd 64 121 _ _ rfl) (by rfl) (hat 123 rfl ?_)
          refine h_if c (hd 65 123 _ _ rfl) (tgt := 143) (by decide) (fun (h123 : w5.toInt ≠ 0) => ?_) (fun (h123 : ¬ (w5.toInt ≠ 0)) => hat 126 rfl ?_)
          · skip
            exact K143 w1 w2 w3 w4 w5 _ fr1
          · skip
            refine h_iln c (hd 66 126 _ _ rfl) (by rfl) (hat 127 rfl ?_)
            refine h_if c (hd 67 127 _ _ rfl) (tgt := 134) (by decide) (fun (h127 : w2.toInt ≠ 0) => ?_) (fun (h127 : ¬ (w2.toInt ≠ 0)) => hat 130 rfl ?_)
            · exfalso; omega
            · skip
              refine h_iln c (hd 68 130 _ _ rfl) (by rfl) (hat 131 rfl ?_)
              refine h_if c (hd 69 131 _ _ rfl) (tgt := 147) (by decide) (fun (h131 : w3.toInt = 0) => ?_) (fun (h131 : ¬ (w3.toInt = 0)) => hat 134 rfl ?_)
              · skip
                exact K147 w1 w2 w3 w4 w5 _ fr1 (by omega) (by omega) (by omega) (by omega)
              · skip
                refine h_aln c (hd 70 134 _ _ rfl) (by rfl) (hat 135 rfl ?_)
                refine h_getI c (hd 71 135 _ _ rfl) fgX12_288 gnX12_288_114 (x := F 114 31) (fr1 114 31 (by decide) (by rfl)) (hat 138 rfl ?_)
                refine h_bp c (hd 72 138 _ _ rfl) (by decide) (fun v138 e138 => hat 140 rfl ?_)
                refine h_cmp c (hd 73 140 _ _ rfl) (tgt := 147) (by decide) (fun (h140 : (F 114 31).toInt ≠ v138.toInt) => ?_) (fun (h140 : ¬ ((F 114 31).toInt ≠ v138.toInt)) => hat 143 rfl ?_)
                · skip
                  exact K147 w1 w2 w3 w4 w5 _ fr1 (by omega) (by omega) (by omega) (by omega)
                · skip
                  exact K143 w1 w2 w3 w4 w5 _ fr1
        · skip
          refine h_iln c (hd 62 117 _ _ rfl) (by rfl) (hat 118 rfl ?_)
          refine h_if c (hd 63 118 _ _ rfl) (tgt := 143) (by decide) (fun (h118 : w3.toInt = 0) => ?_) (fun (h118 : ¬ (w3.toInt = 0)) => hat 121 rfl ?_)
          · skip
            exact K143 w1 w2 w3 w4 w5 _ fr1
          · skip
            refine h_il c (hd 64 121 _ _ rfl) (by rfl) (hat 123 rfl ?_)
            refine h_if c (hd 65 123 _ _ rfl) (tgt := 143) (by decide) (fun (h123 : w5.toInt ≠ 0) => ?_) (fun (h123 : ¬ (w5.toInt ≠ 0)) => hat 126 rfl ?_)
            · skip
              exact K143 w1 w2 w3 w4 w5 _ fr1
            · skip
              refine h_iln c (hd 66 126 _ _ rfl) (by rfl) (hat 127 rfl ?_)
              refine h_if c (hd 67 127 _ _ rfl) (tgt := 134) (by decide) (fun (h127 : w2.toInt ≠ 0) => ?_) (fun (h127 : ¬ (w2.toInt ≠ 0)) => hat 130 rfl ?_)
              · exfalso; omega
              · skip
                refine h_iln c (hd 68 130 _ _ rfl) (by rfl) (hat 131 rfl ?_)
                refine h_if c (hd 69 131 _ _ rfl) (tgt := 147) (by decide) (fun (h131 : w3.toInt = 0) => ?_) (fun (h131 : ¬ (w3.toInt = 0)) => hat 134 rfl ?_)
                · exfalso; omega
                · skip
                  refine h_aln c (hd 70 134 _ _ rfl) (by rfl) (hat 135 rfl ?_)
                  refine h_getI c (hd 71 135 _ _ rfl) fgX12_288 gnX12_288_114 (x := F 114 31) (fr1 114 31 (by decide) (by rfl)) (hat 138 rfl ?_)
                  refine h_bp c (hd 72 138 _ _ rfl) (by decide) (fun v138 e138 => hat 140 rfl ?_)
                  refine h_cmp c (hd 73 140 _ _ rfl) (tgt := 147) (by decide) (fun (h140 : (F 114 31).toInt ≠ v138.toInt) => ?_) (fun (h140 : ¬ ((F 114 31).toInt ≠ v138.toInt)) => hat 143 rfl ?_)
                  · skip
                    exact K147 w1 w2 w3 w4 w5 _ fr1 (by omega) (by omega) (by omega) (by omega)
                  · skip
                    exact K143 w1 w2 w3 w4 w5 _ fr1
  have K70 : ∀ (w1 w2 w3 w4 : Int32) (F1 : HF), hframe [] F F1 → (0 ≤ w2.toInt ∧ w2.toInt ≤ 1 ∧ 0 ≤ w3.toInt ∧ w3.toInt ≤ 1) → (w2.toInt = 1 → (F 114 8).toInt = 3) → (w3.toInt = 1 → (F 114 8).toInt = 5) → (w4.toInt = 0 ∨ 97 ≤ w4.toInt ∧ w4.toInt ≤ 122 ∧ (F 114 8).toInt = 3) → hW G X hM_unit w0 70 [(4, .int w4), (3, .int w3), (2, .int w2), (1, .int w1), (0, .ref (G.2.1.1 114))] [] F1 := by
    intro w1 w2 w3 w4 F1 fr1 hf1 hf2 hf3 hf4
    refine h_aln c (hd 39 70 _ _ rfl) (by rfl) (hat 71 rfl ?_)
    refine h_getR c (hd 40 71 _ _ rfl) fgX12_24 gnX12_24_114 (hat 74 rfl ?_)
    refine h_aln c (hd 41 74 _ _ rfl) (by rfl) (hat 75 rfl ?_)
    refine h_getI c (hd 42 75 _ _ rfl) fgX12_233 gnX12_233_114 (x := F 114 29) (fr1 114 29 (by decide) (by rfl)) (hat 78 rfl ?_)
    refine h_iald c (hd 43 78 _ _ rfl) la_74 ⟨by omega, by omega⟩ (congrArg Int.toNat h29) (x := F 74 rb.toNat) (fr1 74 rb.toNat (by decide) (by rfl)) (hat 79 rfl ?_)
    refine h_bp c (hd 44 79 _ _ rfl) (by decide) (fun v79 e79 => hat 81 rfl ?_)
    refine h_cmp c (hd 45 81 _ _ rfl) (tgt := 93) (by decide) (fun (h81 : (F 74 rb.toNat).toInt = v79.toInt) => ?_) (fun (h81 : ¬ ((F 74 rb.toNat).toInt = v79.toInt)) => hat 84 rfl ?_)
    · skip
      refine h_ic c (hd 50 93 _ _ rfl) (by decide) (fun v93 e93 => hat 94 rfl ?_)
      refine h_goto c (hd 51 94 _ _ rfl) (tgt := 98) (by decide) ?_
      refine h_is c (hd 53 98 _ _ rfl) (by decide) (L' := [(5, .int v93), (4, .int w4), (3, .int w3), (2, .int w2), (1, .int w1), (0, .ref (G.2.1.1 114))]) (by rfl) (hat 100 rfl ?_)
      exact K100 w1 w2 w3 w4 v93 _ fr1 hf1 hf2 hf3 hf4 (by omega) (by omega)
    · skip
      refine h_aln c (hd 46 84 _ _ rfl) (by rfl) (hat 85 rfl ?_)
      refine h_getI c (hd 47 85 _ _ rfl) fgX12_279 gnX12_279_114 (x := F 114 33) (fr1 114 33 (by decide) (by rfl)) (hat 88 rfl ?_)
      refine h_bp c (hd 48 88 _ _ rfl) (by decide) (fun v88 e88 => hat 90 rfl ?_)
      refine h_cmp c (hd 49 90 _ _ rfl) (tgt := 97) (by decide) (fun (h90 : (F 114 33).toInt ≠ v88.toInt) => ?_) (fun (h90 : ¬ ((F 114 33).toInt ≠ v88.toInt)) => hat 93 rfl ?_)
      · skip
        refine h_ic c (hd 52 97 _ _ rfl) (by decide) (fun v97 e97 => hat 98 rfl ?_)
        refine h_is c (hd 53 98 _ _ rfl) (by decide) (L' := [(5, .int v97), (4, .int w4), (3, .int w3), (2, .int w2), (1, .int w1), (0, .ref (G.2.1.1 114))]) (by rfl) (hat 100 rfl ?_)
        exact K100 w1 w2 w3 w4 v97 _ fr1 hf1 hf2 hf3 hf4 (by omega) (by omega)
      · skip
        refine h_ic c (hd 50 93 _ _ rfl) (by decide) (fun v93 e93 => hat 94 rfl ?_)
        refine h_goto c (hd 51 94 _ _ rfl) (tgt := 98) (by decide) ?_
        refine h_is c (hd 53 98 _ _ rfl) (by decide) (L' := [(5, .int v93), (4, .int w4), (3, .int w3), (2, .int w2), (1, .int w1), (0, .ref (G.2.1.1 114))]) (by rfl) (hat 100 rfl ?_)
        exact K100 w1 w2 w3 w4 v93 _ fr1 hf1 hf2 hf3 hf4 (by omega) (by omega)
  have K57 : ∀ (w1 w2 : Int32) (F1 : HF), hframe [] F F1 → (0 ≤ w2.toInt ∧ w2.toInt ≤ 1) → (w2.toInt = 1 → (F 114 8).toInt = 3) → hW G X hM_unit w0 57 [(2, .int w2), (1, .int w1), (0, .ref (G.2.1.1 114))] [] F1 := by
    intro w1 w2 F1 fr1 hf1 hf2
    have e8_ : F1 114 8 = F 114 8 := fr1 114 8 (by decide) (by rfl)
    refine h_aln c (hd 32 57 _ _ rfl) (by rfl) (hat 58 rfl ?_)
    refine h_bp c (hd 33 58 _ _ rfl) (by decide) (fun v58 e58 => hat 60 rfl ?_)
    refine h_callVF c (M' := hM_isSH) (hp_isSH hG) (by decide +kernel) (wlkV (lkX12_272 hG) _ rfl rfl) (j := 114) (by decide +kernel) (hd 34 60 _ _ rfl) [.int v58] (rest := []) (by rfl) ⟨⟨114, by decide, rfl⟩, ⟨_, rfl, rf_in_top _, trivial⟩, trivial⟩ (Nat.le_of_ble_eq_true rfl) trivial (fun rv60 F60 fr60 rr60 pp60 sm_ => hat 63 rfl ?_)
    have e_ := (sm_ rfl).symm
    subst e_
    obtain ⟨a_, x60, ea_, er_, hx60⟩ := pp60
    cases ea_
    subst er_
    rw [show (fun i => (F1 72 i).toInt) = (fun i => (F 72 i).toInt) from funext fun q_ => congrArg Int32.toInt (fr1 72 q_ (by decide) (by rfl)), show F1 114 3 = F 114 3 from fr1 114 3 (by decide) (by rfl), show F1 114 8 = F 114 8 from fr1 114 8 (by decide) (by rfl), show F1 114 6 = F 114 6 from fr1 114 6 (by decide) (by rfl)] at hx60
    refine h_isn c (hd 35 63 _ _ rfl) (by decide) (L' := [(3, .int x60), (2, .int w2), (1, .int w1), (0, .ref (G.2.1.1 114))]) (by rfl) (hat 64 rfl ?_)
    refine h_aln c (hd 36 64 _ _ rfl) (by rfl) (hat 65 rfl ?_)
    refine h_callV c (M' := q1213_M) (q1213_met hG) (by decide +kernel) (by decide +kernel) (wlkV (lkX12_300 hG) _ rfl rfl) (j := 114) (by decide +kernel) (hd 37 65 _ _ rfl) [] (rest := []) (by rfl) ⟨⟨114, by decide, rfl⟩, trivial⟩ (Nat.le_of_ble_eq_true rfl) (fun q hq => absurd hq List.not_mem_nil) (fun rv65 F65 fr65 rr65 pp65 sm_ => hat 68 rfl ?_)
    have e_ := (sm_ rfl).symm
    subst e_
    obtain ⟨k_, hk_, pp65⟩ := pp65
    rcases hm5 hk_ with rfl | rfl | rfl | rfl | rfl
    · skip
      obtain ⟨x65, hrv_, hx65⟩ := hk_val pp65
      subst hrv_
      have hx65 : 116 ≤ x65.toInt ∧ x65.toInt ≤ 116 := ⟨hx65.1, hx65.2.1⟩
      have gf65_0 : 3 ≤ (F1 114 8).toInt ∧ (F1 114 8).toInt ≤ 3 := ⟨(hk_fact pp65 0 rfl).1.1, (hk_fact pp65 0 rfl).1.2.1⟩
      refine h_is c (hd 38 68 _ _ rfl) (by decide) (L' := [(4, .int x65), (3, .int x60), (2, .int w2), (1, .int w1), (0, .ref (G.2.1.1 114))]) (by rfl) (hat 70 rfl ?_)
      exact K70 w1 w2 x60 x65 _ fr1 (by omega) (by omega) (by first | omega | (rw [e8_] at hx60; omega)) (by first | exact Or.inl (by omega) | exact Or.inr ⟨by omega, by omega, by rw [e8_] at gf65_0; omega⟩)
    · skip
      obtain ⟨x65, hrv_, hx65⟩ := hk_val pp65
      subst hrv_
      have hx65 : 108 ≤ x65.toInt ∧ x65.toInt ≤ 108 := ⟨hx65.1, hx65.2.1⟩
      have gf65_0 : 3 ≤ (F1 114 8).toInt ∧ (F1 114 8).toInt ≤ 3 := ⟨(hk_fact pp65 0 rfl).1.1, (hk_fact pp65 0 rfl).1.2.1⟩
      refine h_is c (hd 38 68 _ _ rfl) (by decide) (L' := [(4, .int x65), (3, .int x60), (2, .int w2), (1, .int w1), (0, .ref (G.2.1.1 114))]) (by rfl) (hat 70 rfl ?_)
      exact K70 w1 w2 x60 x65 _ fr1 (by omega) (by omega) (by first | omega | (rw [e8_] at hx60; omega)) (by first | exact Or.inl (by omega) | exact Or.inr ⟨by omega, by omega, by rw [e8_] at gf65_0; omega⟩)
    · skip
      obtain ⟨x65, hrv_, hx65⟩ := hk_val pp65
      subst hrv_
      have hx65 : 102 ≤ x65.toInt ∧ x65.toInt ≤ 102 := ⟨hx65.1, hx65.2.1⟩
      have gf65_0 : 3 ≤ (F1 114 8).toInt ∧ (F1 114 8).toInt ≤ 3 := ⟨(hk_fact pp65 0 rfl).1.1, (hk_fact pp65 0 rfl).1.2.1⟩
      refine h_is c (hd 38 68 _ _ rfl) (by decide) (L' := [(4, .int x65), (3, .int x60), (2, .int w2), (1, .int w1), (0, .ref (G.2.1.1 114))]) (by rfl) (hat 70 rfl ?_)
      exact K70 w1 w2 x60 x65 _ fr1 (by omega) (by omega) (by first | omega | (rw [e8_] at hx60; omega)) (by first | exact Or.inl (by omega) | exact Or.inr ⟨by omega, by omega, by rw [e8_] at gf65_0; omega⟩)
    · skip
      obtain ⟨x65, hrv_, hx65⟩ := hk_val pp65
      subst hrv_
      have hx65 : 122 ≤ x65.toInt ∧ x65.toInt ≤ 122 := ⟨hx65.1, hx65.2.1⟩
      have gf65_0 : 3 ≤ (F1 114 8).toInt ∧ (F1 114 8).toInt ≤ 3 := ⟨(hk_fact pp65 0 rfl).1.1, (hk_fact pp65 0 rfl).1.2.1⟩
      refine h_is c (hd 38 68 _ _ rfl) (by decide) (L' := [(4, .int x65), (3, .int x60), (2, .int w2), (1, .int w1), (0, .ref (G.2.1.1 114))]) (by rfl) (hat 70 rfl ?_)
      exact K70 w1 w2 x60 x65 _ fr1 (by omega) (by omega) (by first | omega | (rw [e8_] at hx60; omega)) (by first | exact Or.inl (by omega) | exact Or.inr ⟨by omega, by omega, by rw [e8_] at gf65_0; omega⟩)
    · skip
      obtain ⟨x65, hrv_, hx65⟩ := hk_val pp65
      subst hrv_
      have hx65 : 0 ≤ x65.toInt ∧ x65.toInt ≤ 0 := ⟨hx65.1, hx65.2.1⟩
      refine h_is c (hd 38 68 _ _ rfl) (by decide) (L' := [(4, .int x65), (3, .int x60), (2, .int w2), (1, .int w1), (0, .ref (G.2.1.1 114))]) (by rfl) (hat 70 rfl ?_)
      exact K70 w1 w2 x60 x65 _ fr1 (by omega) (by omega) (by first | omega | (rw [e8_] at hx60; omega)) (by first | exact Or.inl (by omega) | exact Or.inr ⟨by omega, by omega, by rw [e8_] at gf65_0; omega⟩)
  have K37 : ∀ (w1 : Int32), hW G X hM_unit w0 37 [(1, .int w1), (0, .ref (G.2.1.1 114))] [] F := by
    intro w1
    refine h_iln c (hd 22 37 _ _ rfl) (by rfl) (hat 38 rfl ?_)
    refine h_if c (hd 23 38 _ _ rfl) (tgt := 55) (by decide) (fun (h38 : w1.toInt = 0) => ?_) (fun (h38 : ¬ (w1.toInt = 0)) => hat 41 rfl ?_)
    · skip
      refine h_ic c (hd 30 55 _ _ rfl) (by decide) (fun v55 e55 => hat 56 rfl ?_)
      refine h_isn c (hd 31 56 _ _ rfl) (by decide) (L' := [(2, .int v55), (1, .int w1), (0, .ref (G.2.1.1 114))]) (by rfl) (hat 57 rfl ?_)
      exact K57 w1 v55 _ (hframe_rf _ _) (by omega) (by intro h_; omega)
    · skip
      refine h_aln c (hd 24 41 _ _ rfl) (by rfl) (hat 42 rfl ?_)
      refine h_ldc2 c (wlcT hG lcokX12) (hd 25 42 _ _ rfl) (n := 7237492) (by rfl) (fun y42 => hat 45 rfl ?_)
      refine h_callV c (M' := q1212_M) (q1212_met hG) (by decide +kernel) (by decide +kernel) (wlkV (lkX12_248 hG) _ rfl rfl) (j := 114) (by decide +kernel) (hd 26 45 _ _ rfl) [.long y42] (rest := []) (by rfl) ⟨⟨114, by decide, rfl⟩, ⟨_, rfl⟩, trivial⟩ (Nat.le_of_ble_eq_true rfl) (fun q hq => absurd hq List.not_mem_nil) (fun rv45 F45 fr45 rr45 pp45 sm_ => hat 48 rfl ?_)
      have e_ := (sm_ rfl).symm
      subst e_
      obtain ⟨k_, hk_, pp45⟩ := pp45
      rcases hm2 hk_ with rfl | rfl
      · skip
        obtain ⟨x45, hrv_, hx45⟩ := hk_val pp45
        subst hrv_
        have hx45 : 1 ≤ x45.toInt ∧ x45.toInt ≤ 1 := ⟨hx45.1, hx45.2.1⟩
        have gf45_0 : 3 ≤ (F 114 8).toInt ∧ (F 114 8).toInt ≤ 3 := ⟨(hk_fact pp45 0 rfl).1.1, (hk_fact pp45 0 rfl).1.2.1⟩
        refine h_if c (hd 27 48 _ _ rfl) (tgt := 55) (by decide) (fun (h48 : x45.toInt = 0) => ?_) (fun (h48 : ¬ (x45.toInt = 0)) => hat 51 rfl ?_)
        · skip
          refine h_ic c (hd 30 55 _ _ rfl) (by decide) (fun v55 e55 => hat 56 rfl ?_)
          refine h_isn c (hd 31 56 _ _ rfl) (by decide) (L' := [(2, .int v55), (1, .int w1), (0, .ref (G.2.1.1 114))]) (by rfl) (hat 57 rfl ?_)
          exact K57 w1 v55 _ (hframe_rf _ _) (by omega) (by intro h_; omega)
        · skip
          refine h_ic c (hd 28 51 _ _ rfl) (by decide) (fun v51 e51 => hat 52 rfl ?_)
          refine h_goto c (hd 29 52 _ _ rfl) (tgt := 56) (by decide) ?_
          refine h_isn c (hd 31 56 _ _ rfl) (by decide) (L' := [(2, .int v51), (1, .int w1), (0, .ref (G.2.1.1 114))]) (by rfl) (hat 57 rfl ?_)
          exact K57 w1 v51 _ (hframe_rf _ _) (by omega) (by intro h_; omega)
      · skip
        obtain ⟨x45, hrv_, hx45⟩ := hk_val pp45
        subst hrv_
        have hx45 : 0 ≤ x45.toInt ∧ x45.toInt ≤ 0 := ⟨hx45.1, hx45.2.1⟩
        refine h_if c (hd 27 48 _ _ rfl) (tgt := 55) (by decide) (fun (h48 : x45.toInt = 0) => ?_) (fun (h48 : ¬ (x45.toInt = 0)) => hat 51 rfl ?_)
        · skip
          refine h_ic c (hd 30 55 _ _ rfl) (by decide) (fun v55 e55 => hat 56 rfl ?_)
          refine h_isn c (hd 31 56 _ _ rfl) (by decide) (L' := [(2, .int v55), (1, .int w1), (0, .ref (G.2.1.1 114))]) (by rfl) (hat 57 rfl ?_)
          exact K57 w1 v55 _ (hframe_rf _ _) (by omega) (by intro h_; omega)
        · skip
          refine h_ic c (hd 28 51 _ _ rfl) (by decide) (fun v51 e51 => hat 52 rfl ?_)
          refine h_goto c (hd 29 52 _ _ rfl) (tgt := 56) (by decide) ?_
          refine h_isn c (hd 31 56 _ _ rfl) (by decide) (L' := [(2, .int v51), (1, .int w1), (0, .ref (G.2.1.1 114))]) (by rfl) (hat 57 rfl ?_)
          exact K57 w1 v51 _ (hframe_rf _ _) (by omega) (by intro h_; omega)
  refine h_aln c (hd 0 0 _ _ rfl) (by rfl) (hat 1 rfl ?_)
  refine h_getR c (hd 1 1 _ _ rfl) fgX12_63 gnX12_63_114 (hat 4 rfl ?_)
  refine h_aln c (hd 2 4 _ _ rfl) (by rfl) (hat 5 rfl ?_)
  refine h_getI c (hd 3 5 _ _ rfl) fgX12_285 gnX12_285_114 (x := F 114 32) (rfl) (hat 8 rfl ?_)
  refine h_ic c (hd 4 8 _ _ rfl) (by decide) (fun v8 e8 => hat 9 rfl ?_)
  refine h_sub c (hd 5 9 _ _ rfl) (by omega) (fun v9 e9 => hat 10 rfl ?_)
  refine h_iald c (hd 6 10 _ _ rfl) la_87 ⟨by omega, by omega⟩ rfl (x := F 87 v9.toInt.toNat) (rfl) (hat 11 rfl ?_)
  refine h_ic c (hd 7 11 _ _ rfl) (by decide) (fun v11 e11 => hat 12 rfl ?_)
  refine h_cmp c (hd 8 12 _ _ rfl) (tgt := 31) (by decide) (fun (h12 : (F 87 v9.toInt.toNat).toInt ≤ v11.toInt) => ?_) (fun (h12 : ¬ ((F 87 v9.toInt.toNat).toInt ≤ v11.toInt)) => hat 15 rfl ?_)
  · skip
    refine h_ic c (hd 18 31 _ _ rfl) (by decide) (fun v31 e31 => hat 32 rfl ?_)
    refine h_goto c (hd 19 32 _ _ rfl) (tgt := 36) (by decide) ?_
    refine h_isn c (hd 21 36 _ _ rfl) (by decide) (L' := [(1, .int v31), (0, .ref (G.2.1.1 114))]) (by rfl) (hat 37 rfl ?_)
    exact K37 _
  · skip
    refine h_aln c (hd 9 15 _ _ rfl) (by rfl) (hat 16 rfl ?_)
    refine h_getR c (hd 10 16 _ _ rfl) fgX12_63 gnX12_63_114 (hat 19 rfl ?_)
    refine h_aln c (hd 11 19 _ _ rfl) (by rfl) (hat 20 rfl ?_)
    refine h_getI c (hd 12 20 _ _ rfl) fgX12_285 gnX12_285_114 (x := F 114 32) (rfl) (hat 23 rfl ?_)
    refine h_ic c (hd 13 23 _ _ rfl) (by decide) (fun v23 e23 => hat 24 rfl ?_)
    refine h_sub c (hd 14 24 _ _ rfl) (by omega) (fun v24 e24 => hat 25 rfl ?_)
    refine h_iald c (hd 15 25 _ _ rfl) la_87 ⟨by omega, by omega⟩ rfl (x := F 87 v24.toInt.toNat) (rfl) (hat 26 rfl ?_)
    refine h_bp c (hd 16 26 _ _ rfl) (by decide) (fun v26 e26 => hat 28 rfl ?_)
    refine h_cmp c (hd 17 28 _ _ rfl) (tgt := 35) (by decide) (fun (h28 : (F 87 v24.toInt.toNat).toInt < v26.toInt) => ?_) (fun (h28 : ¬ ((F 87 v24.toInt.toNat).toInt < v26.toInt)) => hat 31 rfl ?_)
    · skip
      refine h_ic c (hd 20 35 _ _ rfl) (by decide) (fun v35 e35 => hat 36 rfl ?_)
      refine h_isn c (hd 21 36 _ _ rfl) (by decide) (L' := [(1, .int v35), (0, .ref (G.2.1.1 114))]) (by rfl) (hat 37 rfl ?_)
      exact K37 _
    · skip
      refine h_ic c (hd 18 31 _ _ rfl) (by decide) (fun v31 e31 => hat 32 rfl ?_)
      refine h_goto c (hd 19 32 _ _ rfl) (tgt := 36) (by decide) ?_
      refine h_isn c (hd 21 36 _ _ rfl) (by decide) (L' := [(1, .int v31), (0, .ref (G.2.1.1 114))]) (by rfl) (hat 37 rfl ?_)
      exact K37 _
