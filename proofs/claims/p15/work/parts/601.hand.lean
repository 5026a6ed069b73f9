def hM_isDigit : rfM := ((⟨"NearSpellModel", "isDigit", "(I)Z"⟩, prog_14_method_4_code, 1, (some .boolean)), (2,100), ([.inl (((-2147483648),2147483647,1),none)],[]), [], [])
set_option maxHeartbeats 4000000 in
set_option maxRecDepth 20000 in
theorem hp_isDigit {G : rfG} (hG : okG G) : h_met G hM_isDigit (fun _ _ => True) (fun vs _ _ rv => ∃ a x : Int32, vs = [.int a] ∧ rv = some (.int x) ∧ ((x.toInt = 1 ∧ 48 ≤ a.toInt ∧ a.toInt ≤ 57) ∨ (x.toInt = 0 ∧ ¬ (48 ≤ a.toInt ∧ a.toInt ≤ 57)))) := by
  refine h_metOf hG.1 (by decide +kernel) (by decide) hG.2.2.1 (wflT hG flokX12) (wcsT hG csokX12) ?_
  intro vs w0 X hv_ hr hp c
  match vs, hv_ with
  | [_], ⟨⟨a, rfl, hi_a, _⟩, _⟩ =>
  have hd : ∀ n pc i len, ddX12_isDigit[n]? = some (pc, i, len) → decode (mb hM_isDigit) pc = .ok (i, len) := fun n pc i len h => hdk dkX12_isDigit n pc i len h
  show hW G X hM_isDigit w0 0 [(0, .int a)] [] (hv w0)
  generalize hF0 : hv w0 = F at *
  refine h_iln c (hd 0 0 _ _ rfl) (by rfl) (hat 1 rfl ?_)
  refine h_bp c (hd 1 1 _ _ rfl) (by decide) (fun v1 e1 => hat 3 rfl ?_)
  refine h_cmp c (hd 2 3 _ _ rfl) (tgt := 16) (by decide) (fun (h3 : a.toInt < v1.toInt) => ?_) (fun (h3 : ¬ (a.toInt < v1.toInt)) => hat 6 rfl ?_)
  · skip
    refine h_ic c (hd 8 16 _ _ rfl) (by decide) (fun v16 e16 => hat 17 rfl ?_)
    exact h_zret c (hd 9 17 _ _ rfl) rfl (by omega) ⟨a, _, rfl, rfl, by omega⟩
  · skip
    refine h_iln c (hd 3 6 _ _ rfl) (by rfl) (hat 7 rfl ?_)
    refine h_bp c (hd 4 7 _ _ rfl) (by decide) (fun v7 e7 => hat 9 rfl ?_)
    refine h_cmp c (hd 5 9 _ _ rfl) (tgt := 16) (by decide) (fun (h9 : v7.toInt < a.toInt) => ?_) (fun (h9 : ¬ (v7.toInt < a.toInt)) => hat 12 rfl ?_)
    · skip
      refine h_ic c (hd 8 16 _ _ rfl) (by decide) (fun v16 e16 => hat 17 rfl ?_)
      exact h_zret c (hd 9 17 _ _ rfl) rfl (by omega) ⟨a, _, rfl, rfl, by omega⟩
    · skip
      refine h_ic c (hd 6 12 _ _ rfl) (by decide) (fun v12 e12 => hat 13 rfl ?_)
      refine h_goto c (hd 7 13 _ _ rfl) (tgt := 17) (by decide) ?_
      exact h_zret c (hd 9 17 _ _ rfl) rfl (by omega) ⟨a, _, rfl, rfl, by omega⟩
def ddX12_goOn : List (Nat × Instr × Nat) := [(0,.aload_n 0,1),(1,.aload_n 0,1),(2,.getfield 185,3),(5,.putfield 188,3),(8,.aload_n 0,1),(9,.getfield 188,3),(12,.aload_n 0,1),(13,.getfield 151,3),(16,.if_icmp .ge 42,3),(19,.aload_n 0,1),(20,.aload_n 0,1),(21,.getfield 188,3),(24,.invokevirtual 191,3),(27,.bipush 32,2),(29,.if_icmp .eq 16,3),(32,.aload_n 0,1),(33,.aload_n 0,1),(34,.getfield 188,3),(37,.invokevirtual 191,3),(40,.bipush 10,2),(42,.if_icmp .ne 16,3),(45,.aload_n 0,1),(46,.dup,1),(47,.getfield 188,3),(50,.iconst 1,1),(51,.iadd,1),(52,.putfield 188,3),(55,.goto (-47),3),(58,.aload_n 0,1),(59,.aload_n 0,1),(60,.getfield 188,3),(63,.invokevirtual 191,3),(66,.istore_n 1,1),(67,.aload_n 0,1),(68,.aload_n 0,1),(69,.getfield 188,3),(72,.iconst 1,1),(73,.iadd,1),(74,.putfield 185,3),(77,.aload_n 0,1),(78,.getfield 188,3),(81,.aload_n 0,1),(82,.getfield 151,3),(85,.if_icmp .lt 27,3),(88,.aload_n 0,1),(89,.iconst 0,1),(90,.putfield 195,3),(93,.aload_n 0,1),(94,.aload_n 0,1),(95,.getfield 151,3),(98,.putfield 188,3),(101,.aload_n 0,1),(102,.aload_n 0,1),(103,.getfield 151,3),(106,.putfield 185,3),(109,.goto 268,3),(112,.iload_n 1,1),(113,.invokestatic 198,3),(116,.ifCond .eq 123,3),(119,.aload_n 0,1),(120,.aload_n 0,1),(121,.getfield 185,3),(124,.invokevirtual 191,3),(127,.invokestatic 198,3),(130,.ifCond .eq 16,3),(133,.aload_n 0,1),(134,.dup,1),(135,.getfield 185,3),(138,.iconst 1,1),(139,.iadd,1),(140,.putfield 185,3),(143,.goto (-24),3),(146,.aload_n 0,1),(147,.lconst 0,1),(148,.putfield 202,3),(151,.aload_n 0,1),(152,.getfield 188,3),(155,.istore_n 2,1),(156,.iload_n 2,1),(157,.aload_n 0,1),(158,.getfield 185,3),(161,.if_icmp .ge 38,3),(164,.iload_n 2,1),(165,.aload_n 0,1),(166,.getfield 188,3),(169,.bipush 8,2),(171,.iadd,1),(172,.if_icmp .ge 27,3),(175,.aload_n 0,1),(176,.aload_n 0,1),(177,.getfield 202,3),(180,.bipush 8,2),(182,.lshl,1),(183,.aload_n 0,1),(184,.iload_n 2,1),(185,.invokevirtual 191,3),(188,.i2l,1),(189,.lor,1),(190,.putfield 202,3),(193,.iinc 2 1,3),(196,.goto (-40),3),(199,.aload_n 0,1),(200,.aload_n 0,1),(201,.getfield 185,3),(204,.aload_n 0,1),(205,.getfield 188,3),(208,.isub,1),(209,.bipush 8,2),(211,.if_icmp .le 7,3),(214,.iconst 1,1),(215,.goto 18,3),(218,.aload_n 0,1),(219,.getfield 202,3),(222,.invokestatic 206,3),(225,.ifCond .eq 7,3),(228,.iconst 3,1),(229,.goto 4,3),(232,.iconst 2,1),(233,.putfield 195,3),(236,.goto 141,3),(239,.iload_n 1,1),(240,.invokestatic 210,3),(243,.ifCond .eq 118,3),(246,.aload_n 0,1),(247,.iconst 0,1),(248,.putfield 213,3),(251,.aload_n 0,1),(252,.aload_n 0,1),(253,.getfield 188,3),(256,.putfield 185,3),(259,.aload_n 0,1),(260,.aload_n 0,1),(261,.getfield 185,3),(264,.invokevirtual 191,3),(267,.invokestatic 210,3),(270,.ifCond .eq 52,3),(273,.aload_n 0,1),(274,.getfield 185,3),(277,.aload_n 0,1),(278,.getfield 188,3),(281,.isub,1),(282,.iconst 4,1),(283,.if_icmp .ge 26,3),(286,.aload_n 0,1),(287,.bipush 10,2),(289,.aload_n 0,1),(290,.getfield 213,3),(293,.imul,1),(294,.aload_n 0,1),(295,.aload_n 0,1),(296,.getfield 185,3),(299,.invokevirtual 191,3),(302,.iadd,1),(303,.bipush 48,2),(305,.isub,1),(306,.putfield 213,3),(309,.aload_n 0,1),(310,.dup,1),(311,.getfield 185,3),(314,.iconst 1,1),(315,.iadd,1),(316,.putfield 185,3),(319,.goto (-60),3),(322,.aload_n 0,1),(323,.aload_n 0,1),(324,.getfield 185,3),(327,.aload_n 0,1),(328,.getfield 188,3),(331,.isub,1),(332,.iconst 4,1),(333,.if_icmp .gt 17,3),(336,.aload_n 0,1),(337,.aload_n 0,1),(338,.getfield 185,3),(341,.invokevirtual 191,3),(344,.invokestatic 198,3),(347,.ifCond .eq 7,3),(350,.iconst 1,1),(351,.goto 4,3),(354,.iconst 4,1),(355,.putfield 195,3),(358,.goto 19,3),(361,.aload_n 0,1),(362,.iload_n 1,1),(363,.invokestatic 216,3),(366,.ifCond .eq 7,3),(369,.iconst 5,1),(370,.goto 4,3),(373,.iconst 1,1),(374,.putfield 195,3),(377,.return_,1)]
set_option maxRecDepth 100000 in
theorem dkX12_goOn : rf_decs prog_14_method_9_code ddX12_goOn := rf_decs_of (by decide +kernel)
set_option maxHeartbeats 8000000 in
set_option maxRecDepth 20000 in
theorem hp_goOn {G : rfG} (hG : okG G) : rf_met G q681_M := by
  refine h_rfOf hG.1 (by decide +kernel) (by decide) hG.2.2.1 (wflT hG flokX12) (wcsT hG csokX12) (by decide +kernel) ?_
  intro vs w0 X hv_ hr hp c
  match vs, hv_ with
  | [_], ⟨⟨_, hj0, rfl⟩, _⟩ =>
  cases List.mem_singleton.mp hj0
  have hd : ∀ n pc i len, ddX12_goOn[n]? = some (pc, i, len) → decode (mb q681_M) pc = .ok (i, len) := fun n pc i len h => hdk dkX12_goOn n pc i len h
  show hW G X q681_M w0 0 [(0, .ref (G.2.1.1 114))] [] (hv w0)
  generalize hF0 : hv w0 = F at *
  have he : 0 ≤ (F 114 7).toInt ∧ (F 114 7).toInt ≤ 1600 := ⟨(hp _ List.mem_cons_self).1, (hp _ List.mem_cons_self).2.1⟩
  have hsz : 0 ≤ (F 114 3).toInt ∧ (F 114 3).toInt ≤ 1600 := hrg hr ly_114_3
  have K199 : ∀ (F1 : HF) (k : Int32), hframe [(114, 7), (114, 8), (114, 11)] F F1 → 0 ≤ (F1 114 6).toInt → (F 114 7).toInt ≤ (F1 114 6).toInt → (F1 114 6).toInt < (F1 114 7).toInt → (F1 114 7).toInt ≤ 1600 → (∀ i : Int, (F1 114 6).toInt ≤ i → i < (F1 114 7).toInt → 97 ≤ rf_sgf (fun k => (F 72 k).toInt) (F 114 3).toInt i ∧ rf_sgf (fun k => (F 72 k).toInt) (F 114 3).toInt i ≤ 122) → hW G X q681_M w0 199 [(2, .int k), (0, .ref (G.2.1.1 114))] [] F1 := by
    intro F1 k fr1 h0 h1 h2 h3 hlet
    refine h_aln c (hd 101 199 _ _ rfl) (by rfl) (hat 200 rfl ?_)
    refine h_aln c (hd 102 200 _ _ rfl) (by rfl) (hat 201 rfl ?_)
    refine h_getI c (hd 103 201 _ _ rfl) fgX12_185 gnX12_185_114 (x := F1 114 7) (rfl) (hat 204 rfl ?_)
    refine h_aln c (hd 104 204 _ _ rfl) (by rfl) (hat 205 rfl ?_)
    refine h_getI c (hd 105 205 _ _ rfl) fgX12_188 gnX12_188_114 (x := F1 114 6) (rfl) (hat 208 rfl ?_)
    refine h_sub c (hd 106 208 _ _ rfl) (by omega) (fun v208 e208 => hat 209 rfl ?_)
    refine h_bp c (hd 107 209 _ _ rfl) (by decide) (fun v209 e209 => hat 211 rfl ?_)
    refine h_cmp c (hd 108 211 _ _ rfl) (tgt := 218) (by decide) (fun (h211 : v208.toInt ≤ v209.toInt) => ?_) (fun (h211 : ¬ (v208.toInt ≤ v209.toInt)) => hat 214 rfl ?_)
    · skip
      refine h_aln c (hd 111 218 _ _ rfl) (by rfl) (hat 219 rfl ?_)
      refine h_getJ c (hd 112 219 _ _ rfl) fgX12_202 gnX12_202_114 (fun y219 => hat 222 rfl ?_)
      refine h_callS c (M' := q1210_M) (q1210_met hG) (by decide +kernel) (by decide +kernel) (wlkS (lkX12_206 hG) _ rfl rfl) (hd 113 222 _ _ rfl) [.long y219] (rest := [.ref (G.2.1.1 114)]) (by rfl) ⟨⟨_, rfl⟩, trivial⟩ (Nat.le_of_ble_eq_true rfl) (fun q hq => absurd hq List.not_mem_nil) (fun rv222 F222 fr222 rr222 pp222 sm_ => hat 225 rfl ?_)
      have e_ := (sm_ rfl).symm
      subst e_
      obtain ⟨k_, hk_, pp222⟩ := pp222
      rcases hm2 hk_ with rfl | rfl
      · skip
        obtain ⟨x222, hrv_, hx222⟩ := hk_val pp222
        subst hrv_
        have hx222 : 1 ≤ x222.toInt ∧ x222.toInt ≤ 1 := ⟨hx222.1, hx222.2.1⟩
        refine h_if c (hd 114 225 _ _ rfl) (tgt := 232) (by decide) (fun (h225 : x222.toInt = 0) => ?_) (fun (h225 : ¬ (x222.toInt = 0)) => hat 228 rfl ?_)
        · skip
          refine h_ic c (hd 117 232 _ _ rfl) (by decide) (fun v232 e232 => hat 233 rfl ?_)
          refine h_putI c (hd 118 233 _ _ rfl) fgX12_195 gnX12_195_114 (by decide) (by decide) rfl (rf_in1 (by omega) (by omega)) (hat 236 rfl ?_)
          refine h_goto c (hd 119 236 _ _ rfl) (tgt := 377) (by decide) ?_
          have hgl : hgh (hupd F1 114 8 v232) 1 = true := hgL_mk (F := F) (a := (F1 114 6).toInt) (e := (F1 114 7).toInt) (fun k_ => fr1 72 k_ (by decide) (by rfl)) (fr1 114 3 (by decide) (by rfl)) rfl rfl hlet
          exact h_vret c (hd 190 377 _ _ rfl) rfl (fun _ => ⟨_, List.mem_of_getElem? (i := 2) rfl, trivial, fun q hq => absurd hq List.not_mem_nil, hfs_mk ⟨⟨rf_in1 (show 1 ≤ (F1 114 7).toInt by omega) (show (F1 114 7).toInt ≤ 1600 by omega), ⟨show (F 114 7).toInt + 1 ≤ (F1 114 7).toInt by omega, show (F1 114 7).toInt ≤ (F 114 7).toInt + 4294967296 by omega⟩⟩, ⟨rf_in1 (show 1 ≤ v232.toInt by omega) (show v232.toInt ≤ 4 by omega), trivial⟩, ⟨hg_in hgl, trivial⟩, trivial⟩⟩)
        · skip
          refine h_ic c (hd 115 228 _ _ rfl) (by decide) (fun v228 e228 => hat 229 rfl ?_)
          refine h_goto c (hd 116 229 _ _ rfl) (tgt := 233) (by decide) ?_
          refine h_putI c (hd 118 233 _ _ rfl) fgX12_195 gnX12_195_114 (by decide) (by decide) rfl (rf_in1 (by omega) (by omega)) (hat 236 rfl ?_)
          refine h_goto c (hd 119 236 _ _ rfl) (tgt := 377) (by decide) ?_
          have hgl : hgh (hupd F1 114 8 v228) 1 = true := hgL_no (show v228.toInt ≠ 2 by omega)
          exact h_vret c (hd 190 377 _ _ rfl) rfl (fun _ => ⟨_, List.mem_of_getElem? (i := 2) rfl, trivial, fun q hq => absurd hq List.not_mem_nil, hfs_mk ⟨⟨rf_in1 (show 1 ≤ (F1 114 7).toInt by omega) (show (F1 114 7).toInt ≤ 1600 by omega), ⟨show (F 114 7).toInt + 1 ≤ (F1 114 7).toInt by omega, show (F1 114 7).toInt ≤ (F 114 7).toInt + 4294967296 by omega⟩⟩, ⟨rf_in1 (show 1 ≤ v228.toInt by omega) (show v228.toInt ≤ 4 by omega), trivial⟩, ⟨hg_in hgl, trivial⟩, trivial⟩⟩)
      · skip
        obtain ⟨x222, hrv_, hx222⟩ := hk_val pp222
        subst hrv_
        have hx222 : 0 ≤ x222.toInt ∧ x222.toInt ≤ 0 := ⟨hx222.1, hx222.2.1⟩
        refine h_if c (hd 114 225 _ _ rfl) (tgt := 232) (by decide) (fun (h225 : x222.toInt = 0) => ?_) (fun (h225 : ¬ (x222.toInt = 0)) => hat 228 rfl ?_)
        · skip
          refine h_ic c (hd 117 232 _ _ rfl) (by decide) (fun v232 e232 => hat 233 rfl ?_)
          refine h_putI c (hd 118 233 _ _ rfl) fgX12_195 gnX12_195_114 (by decide) (by decide) rfl (rf_in1 (by omega) (by omega)) (hat 236 rfl ?_)
          refine h_goto c (hd 119 236 _ _ rfl) (tgt := 377) (by decide) ?_
          have hgl : hgh (hupd F1 114 8 v232) 1 = true := hgL_mk (F := F) (a := (F1 114 6).toInt) (e := (F1 114 7).toInt) (fun k_ => fr1 72 k_ (by decide) (by rfl)) (fr1 114 3 (by decide) (by rfl)) rfl rfl hlet
          exact h_vret c (hd 190 377 _ _ rfl) rfl (fun _ => ⟨_, List.mem_of_getElem? (i := 2) rfl, trivial, fun q hq => absurd hq List.not_mem_nil, hfs_mk ⟨⟨rf_in1 (show 1 ≤ (F1 114 7).toInt by omega) (show (F1 114 7).toInt ≤ 1600 by omega), ⟨show (F 114 7).toInt + 1 ≤ (F1 114 7).toInt by omega, show (F1 114 7).toInt ≤ (F 114 7).toInt + 4294967296 by omega⟩⟩, ⟨rf_in1 (show 1 ≤ v232.toInt by omega) (show v232.toInt ≤ 4 by omega), trivial⟩, ⟨hg_in hgl, trivial⟩, trivial⟩⟩)
        · skip
          refine h_ic c (hd 115 228 _ _ rfl) (by decide) (fun v228 e228 => hat 229 rfl ?_)
          refine h_goto c (hd 116 229 _ _ rfl) (tgt := 233) (by decide) ?_
          refine h_putI c (hd 118 233 _ _ rfl) fgX12_195 gnX12_195_114 (by decide) (by decide) rfl (rf_in1 (by omega) (by omega)) (hat 236 rfl ?_)
          refine h_goto c (hd 119 236 _ _ rfl) (tgt := 377) (by decide) ?_
          have hgl : hgh (hupd F1 114 8 v228) 1 = true := hgL_no (show v228.toInt ≠ 2 by omega)
          exact h_vret c (hd 190 377 _ _ rfl) rfl (fun _ => ⟨_, List.mem_of_getElem? (i := 2) rfl, trivial, fun q hq => absurd hq List.not_mem_nil, hfs_mk ⟨⟨rf_in1 (show 1 ≤ (F1 114 7).toInt by omega) (show (F1 114 7).toInt ≤ 1600 by omega), ⟨show (F 114 7).toInt + 1 ≤ (F1 114 7).toInt by omega, show (F1 114 7).toInt ≤ (F 114 7).toInt + 4294967296 by omega⟩⟩, ⟨rf_in1 (show 1 ≤ v228.toInt by omega) (show v228.toInt ≤ 4 by omega), trivial⟩, ⟨hg_in hgl, trivial⟩, trivial⟩⟩)
    · skip
      refine h_ic c (hd 109 214 _ _ rfl) (by decide) (fun v214 e214 => hat 215 rfl ?_)
      refine h_goto c (hd 110 215 _ _ rfl) (tgt := 233) (by decide) ?_
      refine h_putI c (hd 118 233 _ _ rfl) fgX12_195 gnX12_195_114 (by decide) (by decide) rfl (rf_in1 (by omega) (by omega)) (hat 236 rfl ?_)
      refine h_goto c (hd 119 236 _ _ rfl) (tgt := 377) (by decide) ?_
      have hgl : hgh (hupd F1 114 8 v214) 1 = true := hgL_no (show v214.toInt ≠ 2 by omega)
      exact h_vret c (hd 190 377 _ _ rfl) rfl (fun _ => ⟨_, List.mem_of_getElem? (i := 2) rfl, trivial, fun q hq => absurd hq List.not_mem_nil, hfs_mk ⟨⟨rf_in1 (show 1 ≤ (F1 114 7).toInt by omega) (show (F1 114 7).toInt ≤ 1600 by omega), ⟨show (F 114 7).toInt + 1 ≤ (F1 114 7).toInt by omega, show (F1 114 7).toInt ≤ (F 114 7).toInt + 4294967296 by omega⟩⟩, ⟨rf_in1 (show 1 ≤ v214.toInt by omega) (show v214.toInt ≤ 4 by omega), trivial⟩, ⟨hg_in hgl, trivial⟩, trivial⟩⟩)
  have K156 : ∀ (m : Nat) (F1 : HF) (k : Int32), hframe [(114, 7), (114, 8), (114, 11)] F F1 → 0 ≤ (F1 114 6).toInt → (F 114 7).toInt ≤ (F1 114 6).toInt → (F1 114 6).toInt < (F1 114 7).toInt → (F1 114 7).toInt ≤ 1600 → (∀ i : Int, (F1 114 6).toInt ≤ i → i < (F1 114 7).toInt → 97 ≤ rf_sgf (fun k => (F 72 k).toInt) (F 114 3).toInt i ∧ rf_sgf (fun k => (F 72 k).toInt) (F 114 3).toInt i ≤ 122) → m = ((F1 114 7).toInt - k.toInt).toNat → 0 ≤ k.toInt → hW G X q681_M w0 156 [(2, .int k), (0, .ref (G.2.1.1 114))] [] F1 := by
    intro m
    induction m using Nat.strongRecOn with
    | ind m ih =>
    intro F1 k fr1 h0 h1 h2 h3 hlet hm hk0
    refine h_iln c (hd 78 156 _ _ rfl) (by rfl) (hat 157 rfl ?_)
    refine h_aln c (hd 79 157 _ _ rfl) (by rfl) (hat 158 rfl ?_)
    refine h_getI c (hd 80 158 _ _ rfl) fgX12_185 gnX12_185_114 (x := F1 114 7) (rfl) (hat 161 rfl ?_)
    refine h_cmp c (hd 81 161 _ _ rfl) (tgt := 199) (by decide) (fun (h161 : (F1 114 7).toInt ≤ k.toInt) => ?_) (fun (h161 : ¬ ((F1 114 7).toInt ≤ k.toInt)) => hat 164 rfl ?_)
    · skip
      exact h_less (L := [(2, .int k), (0, .ref (G.2.1.1 114))]) (by simp) (K199 _ _ fr1 h0 h1 h2 h3 hlet)
    · skip
      refine h_iln c (hd 82 164 _ _ rfl) (by rfl) (hat 165 rfl ?_)
      refine h_aln c (hd 83 165 _ _ rfl) (by rfl) (hat 166 rfl ?_)
      refine h_getI c (hd 84 166 _ _ rfl) fgX12_188 gnX12_188_114 (x := F1 114 6) (rfl) (hat 169 rfl ?_)
      refine h_bp c (hd 85 169 _ _ rfl) (by decide) (fun v169 e169 => hat 171 rfl ?_)
      refine h_add c (hd 86 171 _ _ rfl) (by omega) (fun v171 e171 => hat 172 rfl ?_)
      refine h_cmp c (hd 87 172 _ _ rfl) (tgt := 199) (by decide) (fun (h172 : v171.toInt ≤ k.toInt) => ?_) (fun (h172 : ¬ (v171.toInt ≤ k.toInt)) => hat 175 rfl ?_)
      · skip
        exact h_less (L := [(2, .int k), (0, .ref (G.2.1.1 114))]) (by simp) (K199 _ _ fr1 h0 h1 h2 h3 hlet)
      · skip
        refine h_aln c (hd 88 175 _ _ rfl) (by rfl) (hat 176 rfl ?_)
        refine h_aln c (hd 89 176 _ _ rfl) (by rfl) (hat 177 rfl ?_)
        refine h_getJ c (hd 90 177 _ _ rfl) fgX12_202 gnX12_202_114 (fun y177 => hat 180 rfl ?_)
        refine h_bp c (hd 91 180 _ _ rfl) (by decide) (fun v180 e180 => hat 182 rfl ?_)
        refine h_lshl c (hd 92 182 _ _ rfl) (fun y182 => hat 183 rfl ?_)
        refine h_aln c (hd 93 183 _ _ rfl) (by rfl) (hat 184 rfl ?_)
        refine h_iln c (hd 94 184 _ _ rfl) (by rfl) (hat 185 rfl ?_)
        refine h_callVF c (M' := hM_sign) (hp_sign hG) (by decide +kernel) (wlkV (lkX12_191 hG) _ rfl rfl) (j := 114) (by decide +kernel) (hd 95 185 _ _ rfl) [.int k] (rest := [.long y182, .ref (G.2.1.1 114)]) (by rfl) ⟨⟨114, by decide, rfl⟩, ⟨_, rfl, rf_in1 (by omega) (by omega), trivial⟩, trivial⟩ (Nat.le_of_ble_eq_true rfl) trivial (fun rv185 F185 fr185 rr185 pp185 sm_ => hat 188 rfl ?_)
        have e_ := (sm_ rfl).symm
        subst e_
        obtain ⟨k_, x185, ek_, er_, hx185, gx185⟩ := pp185
        cases ek_
        subst er_
        rw [show (fun i => (F1 72 i).toInt) = (fun i => (F 72 i).toInt) from funext fun q_ => congrArg Int32.toInt (fr1 72 q_ (by decide) (by rfl)), show F1 114 3 = F 114 3 from fr1 114 3 (by decide) (by rfl)] at hx185
        refine h_i2l c (hd 96 188 _ _ rfl) (fun y188 => hat 189 rfl ?_)
        refine h_lor c (hd 97 189 _ _ rfl) (fun y189 => hat 190 rfl ?_)
        refine h_putJ c (hd 98 190 _ _ rfl) fgX12_202 gnX12_202_114 (by decide) (by decide) (hat 193 rfl ?_)
        refine h_inc c (fun r_ => [(2, .int r_), (0, .ref (G.2.1.1 114))]) (hd 99 193 _ _ rfl) (by decide) (by decide) (by rfl) (by omega) (fun _ => by rfl) (fun v193 e193 => hat 196 rfl ?_)
        refine h_goto c (hd 100 196 _ _ rfl) (tgt := 156) (by decide) ?_
        exact h_less (L := [(2, .int v193), (0, .ref (G.2.1.1 114))]) (by simp) (ih ((F1 114 7).toInt - v193.toInt).toNat (by omega) _ _ (hframe_up fr1 (by rfl) _) (show 0 ≤ (F1 114 6).toInt from h0) h1 h2 h3 hlet rfl (by omega))
  have K119 : ∀ (m : Nat) (F1 : HF) (c1 : Int32), hframe [(114, 7), (114, 8)] F F1 → 0 ≤ (F1 114 6).toInt → (F 114 7).toInt ≤ (F1 114 6).toInt → (F1 114 6).toInt < (F1 114 7).toInt → (F1 114 7).toInt ≤ (F 114 3).toInt → (∀ i : Int, (F1 114 6).toInt ≤ i → i < (F1 114 7).toInt → 97 ≤ rf_sgf (fun k => (F 72 k).toInt) (F 114 3).toInt i ∧ rf_sgf (fun k => (F 72 k).toInt) (F 114 3).toInt i ≤ 122) → m = ((F 114 3).toInt - (F1 114 7).toInt).toNat → hW G X q681_M w0 119 [(1, .int c1), (0, .ref (G.2.1.1 114))] [] F1 := by
    intro m
    induction m using Nat.strongRecOn with
    | ind m ih =>
    intro F1 c1 fr1 h0 h1 h2 h3 hlet hm
    refine h_aln c (hd 59 119 _ _ rfl) (by rfl) (hat 120 rfl ?_)
    refine h_aln c (hd 60 120 _ _ rfl) (by rfl) (hat 121 rfl ?_)
    refine h_getI c (hd 61 121 _ _ rfl) fgX12_185 gnX12_185_114 (x := F1 114 7) (rfl) (hat 124 rfl ?_)
    refine h_callVF c (M' := hM_sign) (hp_sign hG) (by decide +kernel) (wlkV (lkX12_191 hG) _ rfl rfl) (j := 114) (by decide +kernel) (hd 62 124 _ _ rfl) [.int (F1 114 7)] (rest := []) (by rfl) ⟨⟨114, by decide, rfl⟩, ⟨_, rfl, rf_in1 (by omega) (by omega), trivial⟩, trivial⟩ (Nat.le_of_ble_eq_true rfl) trivial (fun rv124 F124 fr124 rr124 pp124 sm_ => hat 127 rfl ?_)
    have e_ := (sm_ rfl).symm
    subst e_
    obtain ⟨k_, x124, ek_, er_, hx124, gx124⟩ := pp124
    cases ek_
    subst er_
    rw [show (fun i => (F1 72 i).toInt) = (fun i => (F 72 i).toInt) from funext fun q_ => congrArg Int32.toInt (fr1 72 q_ (by decide) (by rfl)), show F1 114 3 = F 114 3 from fr1 114 3 (by decide) (by rfl)] at hx124
    refine h_callSF c (M' := hM_isLetter) (hp_isLetter hG) (by decide +kernel) (wlkS (lkX12_198 hG) _ rfl rfl) (hd 63 127 _ _ rfl) [.int x124] (rest := []) (by rfl) ⟨⟨_, rfl, rf_in_top _, trivial⟩, trivial⟩ (Nat.le_of_ble_eq_true rfl) trivial (fun rv127 F127 fr127 rr127 pp127 sm_ => hat 130 rfl ?_)
    have e_ := (sm_ rfl).symm
    subst e_
    obtain ⟨a_, x127, ea_, er_, hx127⟩ := pp127
    cases ea_
    subst er_
    refine h_if c (hd 64 130 _ _ rfl) (tgt := 146) (by decide) (fun (h130 : x127.toInt = 0) => ?_) (fun (h130 : ¬ (x127.toInt = 0)) => hat 133 rfl ?_)
    · skip
      refine h_aln c (hd 72 146 _ _ rfl) (by rfl) (hat 147 rfl ?_)
      refine h_lc c (hd 73 147 _ _ rfl) (fun y147 => hat 148 rfl ?_)
      refine h_putJ c (hd 74 148 _ _ rfl) fgX12_202 gnX12_202_114 (by decide) (by decide) (hat 151 rfl ?_)
      refine h_aln c (hd 75 151 _ _ rfl) (by rfl) (hat 152 rfl ?_)
      refine h_getI c (hd 76 152 _ _ rfl) fgX12_188 gnX12_188_114 (x := F1 114 6) (rfl) (hat 155 rfl ?_)
      refine h_isn c (hd 77 155 _ _ rfl) (by decide) (L' := [(2, .int (F1 114 6)), (1, .int c1), (0, .ref (G.2.1.1 114))]) (by rfl) (hat 156 rfl ?_)
      exact h_less (L := [(2, .int (F1 114 6)), (0, .ref (G.2.1.1 114))]) (by simp) (K156 _ _ _ (hframe_up (hframe_tr (hframe_rf [(114, 7), (114, 8), (114, 11)] F) fr1 (by decide)) (by rfl) _) h0 h1 h2 (by show (F1 114 7).toInt ≤ 1600; omega) hlet rfl (by omega))
    · skip
      have hpos := h_sgpos (t := fun k => (F 72 k).toInt) (s := (F 114 3).toInt) (k := (F1 114 7).toInt) (by rw [← hx124]; omega)
      refine h_aln c (hd 65 133 _ _ rfl) (by rfl) (hat 134 rfl ?_)
      refine h_dup c (hd 66 134 _ _ rfl) (by rfl) (hat 135 rfl ?_)
      refine h_getI c (hd 67 135 _ _ rfl) fgX12_185 gnX12_185_114 (x := F1 114 7) (rfl) (hat 138 rfl ?_)
      refine h_ic c (hd 68 138 _ _ rfl) (by decide) (fun v138 e138 => hat 139 rfl ?_)
      refine h_add c (hd 69 139 _ _ rfl) (by omega) (fun v139 e139 => hat 140 rfl ?_)
      refine h_putI c (hd 70 140 _ _ rfl) fgX12_185 gnX12_185_114 (by decide) (by decide) rfl (rf_in1 (by omega) (by omega)) (hat 143 rfl ?_)
      refine h_goto c (hd 71 143 _ _ rfl) (tgt := 119) (by decide) ?_
      exact h_less (by simp) (ih ((F 114 3).toInt - v139.toInt).toNat (by omega) _ c1 (hframe_up fr1 (by rfl) _) h0 h1 (show (F1 114 6).toInt < v139.toInt by omega) (show v139.toInt ≤ (F 114 3).toInt by omega) (fun i a_ b_ => by rcases Int.lt_or_le i (F1 114 7).toInt with g_ | g_ <;> first | exact hlet i a_ g_ | (have e_ : i = (F1 114 7).toInt := (by have b2_ : i < v139.toInt := b_; omega); rw [e_, ← hx124]; omega)) rfl)
  have K322 : ∀ (F1 : HF) (c1 : Int32), hframe [(114, 7), (114, 8), (114, 10)] F F1 → 0 ≤ (F1 114 6).toInt → (F 114 7).toInt ≤ (F1 114 6).toInt → (F1 114 6).toInt < (F1 114 7).toInt → (F1 114 7).toInt ≤ (F 114 3).toInt → hW G X q681_M w0 322 [(1, .int c1), (0, .ref (G.2.1.1 114))] [] F1 := by
    intro F1 c1 fr1 h0 h1 h2 h3
    refine h_aln c (hd 163 322 _ _ rfl) (by rfl) (hat 323 rfl ?_)
    refine h_aln c (hd 164 323 _ _ rfl) (by rfl) (hat 324 rfl ?_)
    refine h_getI c (hd 165 324 _ _ rfl) fgX12_185 gnX12_185_114 (x := F1 114 7) (rfl) (hat 327 rfl ?_)
    refine h_aln c (hd 166 327 _ _ rfl) (by rfl) (hat 328 rfl ?_)
    refine h_getI c (hd 167 328 _ _ rfl) fgX12_188 gnX12_188_114 (x := F1 114 6) (rfl) (hat 331 rfl ?_)
    refine h_sub c (hd 168 331 _ _ rfl) (by omega) (fun v331 e331 => hat 332 rfl ?_)
    refine h_ic c (hd 169 332 _ _ rfl) (by decide) (fun v332 e332 => hat 333 rfl ?_)
    refine h_cmp c (hd 170 333 _ _ rfl) (tgt := 350) (by decide) (fun (h333 : v332.toInt < v331.toInt) => ?_) (fun (h333 : ¬ (v332.toInt < v331.toInt)) => hat 336 rfl ?_)
    · skip
      refine h_ic c (hd 177 350 _ _ rfl) (by decide) (fun v350 e350 => hat 351 rfl ?_)
      refine h_goto c (hd 178 351 _ _ rfl) (tgt := 355) (by decide) ?_
      refine h_putI c (hd 180 355 _ _ rfl) fgX12_195 gnX12_195_114 (by decide) (by decide) rfl (rf_in1 (by omega) (by omega)) (hat 358 rfl ?_)
      refine h_goto c (hd 181 358 _ _ rfl) (tgt := 377) (by decide) ?_
      have hgl : hgh (hupd F1 114 8 v350) 1 = true := hgL_no (show v350.toInt ≠ 2 by omega)
      exact h_vret c (hd 190 377 _ _ rfl) rfl (fun _ => ⟨_, List.mem_of_getElem? (i := 2) rfl, trivial, fun q hq => absurd hq List.not_mem_nil, hfs_mk ⟨⟨rf_in1 (show 1 ≤ (F1 114 7).toInt by omega) (show (F1 114 7).toInt ≤ 1600 by omega), ⟨show (F 114 7).toInt + 1 ≤ (F1 114 7).toInt by omega, show (F1 114 7).toInt ≤ (F 114 7).toInt + 4294967296 by omega⟩⟩, ⟨rf_in1 (show 1 ≤ v350.toInt by omega) (show v350.toInt ≤ 4 by omega), trivial⟩, ⟨hg_in hgl, trivial⟩, trivial⟩⟩)
    · skip
      refine h_aln c (hd 171 336 _ _ rfl) (by rfl) (hat 337 rfl ?_)
      refine h_aln c (hd 172 337 _ _ rfl) (by rfl) (hat 338 rfl ?_)
      refine h_getI c (hd 173 338 _ _ rfl) fgX12_185 gnX12_185_114 (x := F1 114 7) (rfl) (hat 341 rfl ?_)
      refine h_callVF c (M' := hM_sign) (hp_sign hG) (by decide +kernel) (wlkV (lkX12_191 hG) _ rfl rfl) (j := 114) (by decide +kernel) (hd 174 341 _ _ rfl) [.int (F1 114 7)] (rest := [.ref (G.2.1.1 114)]) (by rfl) ⟨⟨114, by decide, rfl⟩, ⟨_, rfl, rf_in1 (by omega) (by omega), trivial⟩, trivial⟩ (Nat.le_of_ble_eq_true rfl) trivial (fun rv341 F341 fr341 rr341 pp341 sm_ => hat 344 rfl ?_)
      have e_ := (sm_ rfl).symm
      subst e_
      obtain ⟨k_, x341, ek_, er_, hx341, gx341⟩ := pp341
      cases ek_
      subst er_
      rw [show (fun i => (F1 72 i).toInt) = (fun i => (F 72 i).toInt) from funext fun q_ => congrArg Int32.toInt (fr1 72 q_ (by decide) (by rfl)), show F1 114 3 = F 114 3 from fr1 114 3 (by decide) (by rfl)] at hx341
      refine h_callSF c (M' := hM_isLetter) (hp_isLetter hG) (by decide +kernel) (wlkS (lkX12_198 hG) _ rfl rfl) (hd 175 344 _ _ rfl) [.int x341] (rest := [.ref (G.2.1.1 114)]) (by rfl) ⟨⟨_, rfl, rf_in_top _, trivial⟩, trivial⟩ (Nat.le_of_ble_eq_true rfl) trivial (fun rv344 F344 fr344 rr344 pp344 sm_ => hat 347 rfl ?_)
      have e_ := (sm_ rfl).symm
      subst e_
      obtain ⟨a_, x344, ea_, er_, hx344⟩ := pp344
      cases ea_
      subst er_
      refine h_if c (hd 176 347 _ _ rfl) (tgt := 354) (by decide) (fun (h347 : x344.toInt = 0) => ?_) (fun (h347 : ¬ (x344.toInt = 0)) => hat 350 rfl ?_)
      · skip
        refine h_ic c (hd 179 354 _ _ rfl) (by decide) (fun v354 e354 => hat 355 rfl ?_)
        refine h_putI c (hd 180 355 _ _ rfl) fgX12_195 gnX12_195_114 (by decide) (by decide) rfl (rf_in1 (by omega) (by omega)) (hat 358 rfl ?_)
        refine h_goto c (hd 181 358 _ _ rfl) (tgt := 377) (by decide) ?_
        have hgl : hgh (hupd F1 114 8 v354) 1 = true := hgL_no (show v354.toInt ≠ 2 by omega)
        exact h_vret c (hd 190 377 _ _ rfl) rfl (fun _ => ⟨_, List.mem_of_getElem? (i := 2) rfl, trivial, fun q hq => absurd hq List.not_mem_nil, hfs_mk ⟨⟨rf_in1 (show 1 ≤ (F1 114 7).toInt by omega) (show (F1 114 7).toInt ≤ 1600 by omega), ⟨show (F 114 7).toInt + 1 ≤ (F1 114 7).toInt by omega, show (F1 114 7).toInt ≤ (F 114 7).toInt + 4294967296 by omega⟩⟩, ⟨rf_in1 (show 1 ≤ v354.toInt by omega) (show v354.toInt ≤ 4 by omega), trivial⟩, ⟨hg_in hgl, trivial⟩, trivial⟩⟩)
      · skip
        refine h_ic c (hd 177 350 _ _ rfl) (by decide) (fun v350 e350 => hat 351 rfl ?_)
        refine h_goto c (hd 178 351 _ _ rfl) (tgt := 355) (by decide) ?_
        refine h_putI c (hd 180 355 _ _ rfl) fgX12_195 gnX12_195_114 (by decide) (by decide) rfl (rf_in1 (by omega) (by omega)) (hat 358 rfl ?_)
        refine h_goto c (hd 181 358 _ _ rfl) (tgt := 377) (by decide) ?_
        have hgl : hgh (hupd F1 114 8 v350) 1 = true := hgL_no (show v350.toInt ≠ 2 by omega)
        exact h_vret c (hd 190 377 _ _ rfl) rfl (fun _ => ⟨_, List.mem_of_getElem? (i := 2) rfl, trivial, fun q hq => absurd hq List.not_mem_nil, hfs_mk ⟨⟨rf_in1 (show 1 ≤ (F1 114 7).toInt by omega) (show (F1 114 7).toInt ≤ 1600 by omega), ⟨show (F 114 7).toInt + 1 ≤ (F1 114 7).toInt by omega, show (F1 114 7).toInt ≤ (F 114 7).toInt + 4294967296 by omega⟩⟩, ⟨rf_in1 (show 1 ≤ v350.toInt by omega) (show v350.toInt ≤ 4 by omega), trivial⟩, ⟨hg_in hgl, trivial⟩, trivial⟩⟩)
  have K259 : ∀ (m : Nat) (F1 : HF) (c1 : Int32), hframe [(114, 7), (114, 8), (114, 10)] F F1 → 0 ≤ (F1 114 6).toInt → (F 114 7).toInt ≤ (F1 114 6).toInt → (F1 114 6).toInt ≤ (F1 114 7).toInt → (F1 114 7).toInt ≤ (F 114 3).toInt → (48 ≤ rf_sgf (fun k => (F 72 k).toInt) (F 114 3).toInt (F1 114 6).toInt ∧ rf_sgf (fun k => (F 72 k).toInt) (F 114 3).toInt (F1 114 6).toInt ≤ 57) → m = ((F 114 3).toInt - (F1 114 7).toInt).toNat → hW G X q681_M w0 259 [(1, .int c1), (0, .ref (G.2.1.1 114))] [] F1 := by
    intro m
    induction m using Nat.strongRecOn with
    | ind m ih =>
    intro F1 c1 fr1 h0 h1 h2 h3 hdg hm
    refine h_aln c (hd 130 259 _ _ rfl) (by rfl) (hat 260 rfl ?_)
    refine h_aln c (hd 131 260 _ _ rfl) (by rfl) (hat 261 rfl ?_)
    refine h_getI c (hd 132 261 _ _ rfl) fgX12_185 gnX12_185_114 (x := F1 114 7) (rfl) (hat 264 rfl ?_)
    refine h_callVF c (M' := hM_sign) (hp_sign hG) (by decide +kernel) (wlkV (lkX12_191 hG) _ rfl rfl) (j := 114) (by decide +kernel) (hd 133 264 _ _ rfl) [.int (F1 114 7)] (rest := []) (by rfl) ⟨⟨114, by decide, rfl⟩, ⟨_, rfl, rf_in1 (by omega) (by omega), trivial⟩, trivial⟩ (Nat.le_of_ble_eq_true rfl) trivial (fun rv264 F264 fr264 rr264 pp264 sm_ => hat 267 rfl ?_)
    have e_ := (sm_ rfl).symm
    subst e_
    obtain ⟨k_, x264, ek_, er_, hx264, gx264⟩ := pp264
    cases ek_
    subst er_
    rw [show (fun i => (F1 72 i).toInt) = (fun i => (F 72 i).toInt) from funext fun q_ => congrArg Int32.toInt (fr1 72 q_ (by decide) (by rfl)), show F1 114 3 = F 114 3 from fr1 114 3 (by decide) (by rfl)] at hx264
    refine h_callSF c (M' := hM_isDigit) (hp_isDigit hG) (by decide +kernel) (wlkS (lkX12_210 hG) _ rfl rfl) (hd 134 267 _ _ rfl) [.int x264] (rest := []) (by rfl) ⟨⟨_, rfl, rf_in_top _, trivial⟩, trivial⟩ (Nat.le_of_ble_eq_true rfl) trivial (fun rv267 F267 fr267 rr267 pp267 sm_ => hat 270 rfl ?_)
    have e_ := (sm_ rfl).symm
    subst e_
    obtain ⟨a_, x267, ea_, er_, hx267⟩ := pp267
    cases ea_
    subst er_
    refine h_if c (hd 135 270 _ _ rfl) (tgt := 322) (by decide) (fun (h270 : x267.toInt = 0) => ?_) (fun (h270 : ¬ (x267.toInt = 0)) => hat 273 rfl ?_)
    · skip
      exact h_less (by simp) (K322 _ c1 fr1 h0 h1 (show (F1 114 6).toInt < (F1 114 7).toInt from (by rcases Int.lt_or_le (F1 114 6).toInt (F1 114 7).toInt with g_ | g_; exact g_; exfalso; have e_ : (F1 114 7).toInt = (F1 114 6).toInt := (by omega); rw [e_] at hx264; omega)) h3)
    · skip
      have hpos := h_sgpos (t := fun k => (F 72 k).toInt) (s := (F 114 3).toInt) (k := (F1 114 7).toInt) (by rw [← hx264]; omega)
      refine h_aln c (hd 136 273 _ _ rfl) (by rfl) (hat 274 rfl ?_)
      refine h_getI c (hd 137 274 _ _ rfl) fgX12_185 gnX12_185_114 (x := F1 114 7) (rfl) (hat 277 rfl ?_)
      refine h_aln c (hd 138 277 _ _ rfl) (by rfl) (hat 278 rfl ?_)
      refine h_getI c (hd 139 278 _ _ rfl) fgX12_188 gnX12_188_114 (x := F1 114 6) (rfl) (hat 281 rfl ?_)
      refine h_sub c (hd 140 281 _ _ rfl) (by omega) (fun v281 e281 => hat 282 rfl ?_)
      refine h_ic c (hd 141 282 _ _ rfl) (by decide) (fun v282 e282 => hat 283 rfl ?_)
      refine h_cmp c (hd 142 283 _ _ rfl) (tgt := 309) (by decide) (fun (h283 : v282.toInt ≤ v281.toInt) => ?_) (fun (h283 : ¬ (v282.toInt ≤ v281.toInt)) => hat 286 rfl ?_)
      · skip
        refine h_aln c (hd 156 309 _ _ rfl) (by rfl) (hat 310 rfl ?_)
        refine h_dup c (hd 157 310 _ _ rfl) (by rfl) (hat 311 rfl ?_)
        refine h_getI c (hd 158 311 _ _ rfl) fgX12_185 gnX12_185_114 (x := F1 114 7) (rfl) (hat 314 rfl ?_)
        refine h_ic c (hd 159 314 _ _ rfl) (by decide) (fun v314 e314 => hat 315 rfl ?_)
        refine h_add c (hd 160 315 _ _ rfl) (by omega) (fun v315 e315 => hat 316 rfl ?_)
        refine h_putI c (hd 161 316 _ _ rfl) fgX12_185 gnX12_185_114 (by decide) (by decide) rfl (rf_in1 (by omega) (by omega)) (hat 319 rfl ?_)
        refine h_goto c (hd 162 319 _ _ rfl) (tgt := 259) (by decide) ?_
        exact h_less (by simp) (ih ((F 114 3).toInt - v315.toInt).toNat (by omega) _ c1 (hframe_up fr1 (by rfl) _) h0 h1 (show (F1 114 6).toInt ≤ v315.toInt by omega) (show v315.toInt ≤ (F 114 3).toInt by omega) hdg rfl)
      · skip
        refine h_aln c (hd 143 286 _ _ rfl) (by rfl) (hat 287 rfl ?_)
        refine h_bp c (hd 144 287 _ _ rfl) (by decide) (fun v287 e287 => hat 289 rfl ?_)
        refine h_aln c (hd 145 289 _ _ rfl) (by rfl) (hat 290 rfl ?_)
        refine h_getI c (hd 146 290 _ _ rfl) fgX12_213 gnX12_213_114 (x := F1 114 9) (rfl) (hat 293 rfl ?_)
        refine h_mulW c (hd 147 293 _ _ rfl) (hat 294 rfl ?_)
        refine h_aln c (hd 148 294 _ _ rfl) (by rfl) (hat 295 rfl ?_)
        refine h_aln c (hd 149 295 _ _ rfl) (by rfl) (hat 296 rfl ?_)
        refine h_getI c (hd 150 296 _ _ rfl) fgX12_185 gnX12_185_114 (x := F1 114 7) (rfl) (hat 299 rfl ?_)
        refine h_callVF c (M' := hM_sign) (hp_sign hG) (by decide +kernel) (wlkV (lkX12_191 hG) _ rfl rfl) (j := 114) (by decide +kernel) (hd 151 299 _ _ rfl) [.int (F1 114 7)] (rest := [.int (v287 * (F1 114 9)), .ref (G.2.1.1 114)]) (by rfl) ⟨⟨114, by decide, rfl⟩, ⟨_, rfl, rf_in1 (by omega) (by omega), trivial⟩, trivial⟩ (Nat.le_of_ble_eq_true rfl) trivial (fun rv299 F299 fr299 rr299 pp299 sm_ => hat 302 rfl ?_)
        have e_ := (sm_ rfl).symm
        subst e_
        obtain ⟨k_, x299, ek_, er_, hx299, gx299⟩ := pp299
        cases ek_
        subst er_
        rw [show (fun i => (F1 72 i).toInt) = (fun i => (F 72 i).toInt) from funext fun q_ => congrArg Int32.toInt (fr1 72 q_ (by decide) (by rfl)), show F1 114 3 = F 114 3 from fr1 114 3 (by decide) (by rfl)] at hx299
        refine h_addW c (hd 152 302 _ _ rfl) (hat 303 rfl ?_)
        refine h_bp c (hd 153 303 _ _ rfl) (by decide) (fun v303 e303 => hat 305 rfl ?_)
        refine h_subW c (hd 154 305 _ _ rfl) (hat 306 rfl ?_)
        refine h_putI c (hd 155 306 _ _ rfl) fgX12_213 gnX12_213_114 (by decide) (by decide) rfl (rf_in_top _) (hat 309 rfl ?_)
        refine h_aln c (hd 156 309 _ _ rfl) (by rfl) (hat 310 rfl ?_)
        refine h_dup c (hd 157 310 _ _ rfl) (by rfl) (hat 311 rfl ?_)
        refine h_getI c (hd 158 311 _ _ rfl) fgX12_185 gnX12_185_114 (x := F1 114 7) (rfl) (hat 314 rfl ?_)
        refine h_ic c (hd 159 314 _ _ rfl) (by decide) (fun v314 e314 => hat 315 rfl ?_)
        refine h_add c (hd 160 315 _ _ rfl) (by omega) (fun v315 e315 => hat 316 rfl ?_)
        refine h_putI c (hd 161 316 _ _ rfl) fgX12_185 gnX12_185_114 (by decide) (by decide) rfl (rf_in1 (by omega) (by omega)) (hat 319 rfl ?_)
        refine h_goto c (hd 162 319 _ _ rfl) (tgt := 259) (by decide) ?_
        exact h_less (by simp) (ih ((F 114 3).toInt - v315.toInt).toNat (by omega) _ c1 (hframe_up (hframe_up fr1 (by rfl) _) (by rfl) _) h0 h1 (show (F1 114 6).toInt ≤ v315.toInt by omega) (show v315.toInt ≤ (F 114 3).toInt by omega) hdg rfl)
  have K58 : ∀ (F1 : HF), hframe [(114, 7)] F F1 → 0 ≤ (F1 114 6).toInt → (F 114 7).toInt ≤ (F1 114 6).toInt → (F1 114 6).toInt ≤ 1600 → hW G X q681_M w0 58 [(0, .ref (G.2.1.1 114))] [] F1 := by
    intro F1 fr1 h0 h1 h2
    refine h_aln c (hd 28 58 _ _ rfl) (by rfl) (hat 59 rfl ?_)
    refine h_aln c (hd 29 59 _ _ rfl) (by rfl) (hat 60 rfl ?_)
    refine h_getI c (hd 30 60 _ _ rfl) fgX12_188 gnX12_188_114 (x := F1 114 6) (rfl) (hat 63 rfl ?_)
    refine h_callVF c (M' := hM_sign) (hp_sign hG) (by decide +kernel) (wlkV (lkX12_191 hG) _ rfl rfl) (j := 114) (by decide +kernel) (hd 31 63 _ _ rfl) [.int (F1 114 6)] (rest := []) (by rfl) ⟨⟨114, by decide, rfl⟩, ⟨_, rfl, rf_in1 (by omega) (by omega), trivial⟩, trivial⟩ (Nat.le_of_ble_eq_true rfl) trivial (fun rv63 F63 fr63 rr63 pp63 sm_ => hat 66 rfl ?_)
    have e_ := (sm_ rfl).symm
    subst e_
    obtain ⟨k_, x63, ek_, er_, hx63, gx63⟩ := pp63
    cases ek_
    subst er_
    rw [show (fun i => (F1 72 i).toInt) = (fun i => (F 72 i).toInt) from funext fun q_ => congrArg Int32.toInt (fr1 72 q_ (by decide) (by rfl)), show F1 114 3 = F 114 3 from fr1 114 3 (by decide) (by rfl)] at hx63
    refine h_isn c (hd 32 66 _ _ rfl) (by decide) (L' := [(1, .int x63), (0, .ref (G.2.1.1 114))]) (by rfl) (hat 67 rfl ?_)
    refine h_aln c (hd 33 67 _ _ rfl) (by rfl) (hat 68 rfl ?_)
    refine h_aln c (hd 34 68 _ _ rfl) (by rfl) (hat 69 rfl ?_)
    refine h_getI c (hd 35 69 _ _ rfl) fgX12_188 gnX12_188_114 (x := F1 114 6) (rfl) (hat 72 rfl ?_)
    refine h_ic c (hd 36 72 _ _ rfl) (by decide) (fun v72 e72 => hat 73 rfl ?_)
    refine h_add c (hd 37 73 _ _ rfl) (by omega) (fun v73 e73 => hat 74 rfl ?_)
    refine h_putI c (hd 38 74 _ _ rfl) fgX12_185 gnX12_185_114 (by decide) (by decide) rfl (rf_in1 (by omega) (by omega)) (hat 77 rfl ?_)
    refine h_aln c (hd 39 77 _ _ rfl) (by rfl) (hat 78 rfl ?_)
    refine h_getI c (hd 40 78 _ _ rfl) fgX12_188 gnX12_188_114 (x := F1 114 6) (rfl) (hat 81 rfl ?_)
    refine h_aln c (hd 41 81 _ _ rfl) (by rfl) (hat 82 rfl ?_)
    refine h_getI c (hd 42 82 _ _ rfl) fgX12_151 gnX12_151_114 (x := F 114 3) (fr1 114 3 (by decide) (by rfl)) (hat 85 rfl ?_)
    refine h_cmp c (hd 43 85 _ _ rfl) (tgt := 112) (by decide) (fun (h85 : (F1 114 6).toInt < (F 114 3).toInt) => ?_) (fun (h85 : ¬ ((F1 114 6).toInt < (F 114 3).toInt)) => hat 88 rfl ?_)
    · skip
      refine h_iln c (hd 56 112 _ _ rfl) (by rfl) (hat 113 rfl ?_)
      refine h_callSF c (M' := hM_isLetter) (hp_isLetter hG) (by decide +kernel) (wlkS (lkX12_198 hG) _ rfl rfl) (hd 57 113 _ _ rfl) [.int x63] (rest := []) (by rfl) ⟨⟨_, rfl, rf_in_top _, trivial⟩, trivial⟩ (Nat.le_of_ble_eq_true rfl) trivial (fun rv113 F113 fr113 rr113 pp113 sm_ => hat 116 rfl ?_)
      have e_ := (sm_ rfl).symm
      subst e_
      obtain ⟨a_, x113, ea_, er_, hx113⟩ := pp113
      cases ea_
      subst er_
      refine h_if c (hd 58 116 _ _ rfl) (tgt := 239) (by decide) (fun (h116 : x113.toInt = 0) => ?_) (fun (h116 : ¬ (x113.toInt = 0)) => hat 119 rfl ?_)
      · skip
        refine h_iln c (hd 120 239 _ _ rfl) (by rfl) (hat 240 rfl ?_)
        refine h_callSF c (M' := hM_isDigit) (hp_isDigit hG) (by decide +kernel) (wlkS (lkX12_210 hG) _ rfl rfl) (hd 121 240 _ _ rfl) [.int x63] (rest := []) (by rfl) ⟨⟨_, rfl, rf_in_top _, trivial⟩, trivial⟩ (Nat.le_of_ble_eq_true rfl) trivial (fun rv240 F240 fr240 rr240 pp240 sm_ => hat 243 rfl ?_)
        have e_ := (sm_ rfl).symm
        subst e_
        obtain ⟨a_, x240, ea_, er_, hx240⟩ := pp240
        cases ea_
        subst er_
        refine h_if c (hd 122 243 _ _ rfl) (tgt := 361) (by decide) (fun (h243 : x240.toInt = 0) => ?_) (fun (h243 : ¬ (x240.toInt = 0)) => hat 246 rfl ?_)
        · skip
          refine h_aln c (hd 182 361 _ _ rfl) (by rfl) (hat 362 rfl ?_)
          refine h_iln c (hd 183 362 _ _ rfl) (by rfl) (hat 363 rfl ?_)
          refine h_callS c (M' := q1211_M) (q1211_met hG) (by decide +kernel) (by decide +kernel) (wlkS (lkX12_216 hG) _ rfl rfl) (hd 184 363 _ _ rfl) [.int x63] (rest := [.ref (G.2.1.1 114)]) (by rfl) ⟨⟨_, rfl, rf_in1 (by omega) (by omega), trivial⟩, trivial⟩ (Nat.le_of_ble_eq_true rfl) (fun q hq => absurd hq List.not_mem_nil) (fun rv363 F363 fr363 rr363 pp363 sm_ => hat 366 rfl ?_)
          have e_ := (sm_ rfl).symm
          subst e_
          obtain ⟨k_, hk_, pp363⟩ := pp363
          rcases hm2 hk_ with rfl | rfl
          · skip
            obtain ⟨x363, hrv_, hx363⟩ := hk_val pp363
            subst hrv_
            have hx363 : 1 ≤ x363.toInt ∧ x363.toInt ≤ 1 := ⟨hx363.1, hx363.2.1⟩
            have ga363_0 : 37 ≤ x63.toInt ∧ x63.toInt ≤ 62 := hk_arg pp363 0 rfl rfl
            refine h_if c (hd 185 366 _ _ rfl) (tgt := 373) (by decide) (fun (h366 : x363.toInt = 0) => ?_) (fun (h366 : ¬ (x363.toInt = 0)) => hat 369 rfl ?_)
            · skip
              refine h_ic c (hd 188 373 _ _ rfl) (by decide) (fun v373 e373 => hat 374 rfl ?_)
              refine h_putI c (hd 189 374 _ _ rfl) fgX12_195 gnX12_195_114 (by decide) (by decide) rfl (rf_in1 (by omega) (by omega)) (hat 377 rfl ?_)
              have hgl : hgh (hupd (hupd F1 114 7 v73) 114 8 v373) 1 = true := hgL_no (show v373.toInt ≠ 2 by omega)
              exact h_vret c (hd 190 377 _ _ rfl) rfl (fun _ => ⟨_, List.mem_of_getElem? (i := 2) rfl, trivial, fun q hq => absurd hq List.not_mem_nil, hfs_mk ⟨⟨rf_in1 (show 1 ≤ v73.toInt by omega) (show v73.toInt ≤ 1600 by omega), ⟨show (F 114 7).toInt + 1 ≤ v73.toInt by omega, show v73.toInt ≤ (F 114 7).toInt + 4294967296 by omega⟩⟩, ⟨rf_in1 (show 1 ≤ v373.toInt by omega) (show v373.toInt ≤ 4 by omega), trivial⟩, ⟨hg_in hgl, trivial⟩, trivial⟩⟩)
            · skip
              refine h_ic c (hd 186 369 _ _ rfl) (by decide) (fun v369 e369 => hat 370 rfl ?_)
              refine h_goto c (hd 187 370 _ _ rfl) (tgt := 374) (by decide) ?_
              refine h_putI c (hd 189 374 _ _ rfl) fgX12_195 gnX12_195_114 (by decide) (by decide) rfl (rf_in1 (by omega) (by omega)) (hat 377 rfl ?_)
              have hgl : hgh (hupd (hupd F1 114 7 v73) 114 8 v369) 1 = true := hgL_no (show v369.toInt ≠ 2 by omega)
              exact h_vret c (hd 190 377 _ _ rfl) rfl (fun _ => ⟨_, List.mem_of_getElem? (i := 1) rfl, trivial, fun q hq => absurd hq List.not_mem_nil, hfs_mk ⟨⟨rf_in1 (show 1 ≤ v73.toInt by omega) (show v73.toInt ≤ 1600 by omega), ⟨show (F 114 7).toInt + 1 ≤ v73.toInt by omega, show v73.toInt ≤ (F 114 7).toInt + 4294967296 by omega⟩⟩, ⟨hcon (x := v369) (by omega), trivial⟩, ⟨hg_in hgl, trivial⟩, trivial⟩⟩)
          · skip
            obtain ⟨x363, hrv_, hx363⟩ := hk_val pp363
            subst hrv_
            have hx363 : 0 ≤ x363.toInt ∧ x363.toInt ≤ 0 := ⟨hx363.1, hx363.2.1⟩
            refine h_if c (hd 185 366 _ _ rfl) (tgt := 373) (by decide) (fun (h366 : x363.toInt = 0) => ?_) (fun (h366 : ¬ (x363.toInt = 0)) => hat 369 rfl ?_)
            · skip
              refine h_ic c (hd 188 373 _ _ rfl) (by decide) (fun v373 e373 => hat 374 rfl ?_)
              refine h_putI c (hd 189 374 _ _ rfl) fgX12_195 gnX12_195_114 (by decide) (by decide) rfl (rf_in1 (by omega) (by omega)) (hat 377 rfl ?_)
              have hgl : hgh (hupd (hupd F1 114 7 v73) 114 8 v373) 1 = true := hgL_no (show v373.toInt ≠ 2 by omega)
              exact h_vret c (hd 190 377 _ _ rfl) rfl (fun _ => ⟨_, List.mem_of_getElem? (i := 2) rfl, trivial, fun q hq => absurd hq List.not_mem_nil, hfs_mk ⟨⟨rf_in1 (show 1 ≤ v73.toInt by omega) (show v73.toInt ≤ 1600 by omega), ⟨show (F 114 7).toInt + 1 ≤ v73.toInt by omega, show v73.toInt ≤ (F 114 7).toInt + 4294967296 by omega⟩⟩, ⟨rf_in1 (show 1 ≤ v373.toInt by omega) (show v373.toInt ≤ 4 by omega), trivial⟩, ⟨hg_in hgl, trivial⟩, trivial⟩⟩)
            · skip
              refine h_ic c (hd 186 369 _ _ rfl) (by decide) (fun v369 e369 => hat 370 rfl ?_)
              refine h_goto c (hd 187 370 _ _ rfl) (tgt := 374) (by decide) ?_
              refine h_putI c (hd 189 374 _ _ rfl) fgX12_195 gnX12_195_114 (by decide) (by decide) rfl (rf_in1 (by omega) (by omega)) (hat 377 rfl ?_)
              have hgl : hgh (hupd (hupd F1 114 7 v73) 114 8 v369) 1 = true := hgL_no (show v369.toInt ≠ 2 by omega)
              exact h_vret c (hd 190 377 _ _ rfl) rfl (fun _ => ⟨_, List.mem_of_getElem? (i := 1) rfl, trivial, fun q hq => absurd hq List.not_mem_nil, hfs_mk ⟨⟨rf_in1 (show 1 ≤ v73.toInt by omega) (show v73.toInt ≤ 1600 by omega), ⟨show (F 114 7).toInt + 1 ≤ v73.toInt by omega, show v73.toInt ≤ (F 114 7).toInt + 4294967296 by omega⟩⟩, ⟨hcon (x := v369) (by omega), trivial⟩, ⟨hg_in hgl, trivial⟩, trivial⟩⟩)
        · skip
          refine h_aln c (hd 123 246 _ _ rfl) (by rfl) (hat 247 rfl ?_)
          refine h_ic c (hd 124 247 _ _ rfl) (by decide) (fun v247 e247 => hat 248 rfl ?_)
          refine h_putI c (hd 125 248 _ _ rfl) fgX12_213 gnX12_213_114 (by decide) (by decide) rfl (rf_in_top _) (hat 251 rfl ?_)
          refine h_aln c (hd 126 251 _ _ rfl) (by rfl) (hat 252 rfl ?_)
          refine h_aln c (hd 127 252 _ _ rfl) (by rfl) (hat 253 rfl ?_)
          refine h_getI c (hd 128 253 _ _ rfl) fgX12_188 gnX12_188_114 (x := F1 114 6) (rfl) (hat 256 rfl ?_)
          refine h_putI c (hd 129 256 _ _ rfl) fgX12_185 gnX12_185_114 (by decide) (by decide) rfl (rf_in1 (by omega) (by omega)) (hat 259 rfl ?_)
          exact h_less (L := [(1, .int x63), (0, .ref (G.2.1.1 114))]) (by simp) (K259 _ _ _ (hframe_up (hframe_up (hframe_up (hframe_tr (hframe_rf [(114, 7), (114, 8), (114, 10)] F) fr1 (by decide)) (by rfl) _) (by rfl) _) (by rfl) _) h0 h1 (Int.le_refl _) (show (F1 114 6).toInt ≤ (F 114 3).toInt by omega) (by show 48 ≤ rf_sgf (fun k => (F 72 k).toInt) (F 114 3).toInt (F1 114 6).toInt ∧ rf_sgf (fun k => (F 72 k).toInt) (F 114 3).toInt (F1 114 6).toInt ≤ 57; rw [← hx63]; omega) rfl)
      · skip
        exact h_less (L := [(1, .int x63), (0, .ref (G.2.1.1 114))]) (by simp) (K119 _ _ _ (hframe_up (hframe_tr (hframe_rf [(114, 7), (114, 8)] F) fr1 (by decide)) (by rfl) _) h0 h1 (show (F1 114 6).toInt < v73.toInt by omega) (show v73.toInt ≤ (F 114 3).toInt by omega) (fun i a_ b_ => by have a2_ : (F1 114 6).toInt ≤ i := a_; have b2_ : i < v73.toInt := b_; have e_ : i = (F1 114 6).toInt := (by omega); rw [e_, ← hx63]; omega) rfl)
    · skip
      refine h_aln c (hd 44 88 _ _ rfl) (by rfl) (hat 89 rfl ?_)
      refine h_ic c (hd 45 89 _ _ rfl) (by decide) (fun v89 e89 => hat 90 rfl ?_)
      refine h_putI c (hd 46 90 _ _ rfl) fgX12_195 gnX12_195_114 (by decide) (by decide) rfl (rf_in1 (by omega) (by omega)) (hat 93 rfl ?_)
      refine h_aln c (hd 47 93 _ _ rfl) (by rfl) (hat 94 rfl ?_)
      refine h_aln c (hd 48 94 _ _ rfl) (by rfl) (hat 95 rfl ?_)
      refine h_getI c (hd 49 95 _ _ rfl) fgX12_151 gnX12_151_114 (x := F 114 3) (fr1 114 3 (by decide) (by rfl)) (hat 98 rfl ?_)
      refine h_putI c (hd 50 98 _ _ rfl) fgX12_188 gnX12_188_114 (by decide) (by decide) rfl (rf_in1 (by omega) (by omega)) (hat 101 rfl ?_)
      refine h_aln c (hd 51 101 _ _ rfl) (by rfl) (hat 102 rfl ?_)
      refine h_aln c (hd 52 102 _ _ rfl) (by rfl) (hat 103 rfl ?_)
      refine h_getI c (hd 53 103 _ _ rfl) fgX12_151 gnX12_151_114 (x := F 114 3) (fr1 114 3 (by decide) (by rfl)) (hat 106 rfl ?_)
      refine h_putI c (hd 54 106 _ _ rfl) fgX12_185 gnX12_185_114 (by decide) (by decide) rfl (rf_in1 (by omega) (by omega)) (hat 109 rfl ?_)
      refine h_goto c (hd 55 109 _ _ rfl) (tgt := 377) (by decide) ?_
      have hgl : hgh (hupd (hupd (hupd (hupd F1 114 7 v73) 114 8 v89) 114 6 (F 114 3)) 114 7 (F 114 3)) 1 = true := hgL_no (show v89.toInt ≠ 2 by omega)
      exact h_vret c (hd 190 377 _ _ rfl) rfl (fun _ => ⟨_, List.mem_of_getElem? (i := 0) rfl, trivial, fun q hq => absurd hq List.not_mem_nil, hfs_mk ⟨⟨rf_in1 (show 0 ≤ (F 114 3).toInt by omega) (show (F 114 3).toInt ≤ 1600 by omega), trivial⟩, ⟨hcon (x := v89) (by omega), trivial⟩, ⟨hg_in hgl, trivial⟩, trivial⟩⟩)
  have K8 : ∀ (m : Nat) (F1 : HF), hframe [(114, 7)] F F1 → 0 ≤ (F1 114 6).toInt → (F 114 7).toInt ≤ (F1 114 6).toInt → (F1 114 6).toInt ≤ 1600 → m = ((F 114 3).toInt - (F1 114 6).toInt).toNat → hW G X q681_M w0 8 [(0, .ref (G.2.1.1 114))] [] F1 := by
    intro m
    induction m using Nat.strongRecOn with
    | ind m ih =>
    intro F1 fr1 h0 h1 h2 hm
    refine h_aln c (hd 4 8 _ _ rfl) (by rfl) (hat 9 rfl ?_)
    refine h_getI c (hd 5 9 _ _ rfl) fgX12_188 gnX12_188_114 (x := F1 114 6) (rfl) (hat 12 rfl ?_)
    refine h_aln c (hd 6 12 _ _ rfl) (by rfl) (hat 13 rfl ?_)
    refine h_getI c (hd 7 13 _ _ rfl) fgX12_151 gnX12_151_114 (x := F 114 3) (fr1 114 3 (by decide) (by rfl)) (hat 16 rfl ?_)
    refine h_cmp c (hd 8 16 _ _ rfl) (tgt := 58) (by decide) (fun (h16 : (F 114 3).toInt ≤ (F1 114 6).toInt) => ?_) (fun (h16 : ¬ ((F 114 3).toInt ≤ (F1 114 6).toInt)) => hat 19 rfl ?_)
    · skip
      exact K58 _ fr1 h0 h1 h2
    · skip
      refine h_aln c (hd 9 19 _ _ rfl) (by rfl) (hat 20 rfl ?_)
      refine h_aln c (hd 10 20 _ _ rfl) (by rfl) (hat 21 rfl ?_)
      refine h_getI c (hd 11 21 _ _ rfl) fgX12_188 gnX12_188_114 (x := F1 114 6) (rfl) (hat 24 rfl ?_)
      refine h_callVF c (M' := hM_sign) (hp_sign hG) (by decide +kernel) (wlkV (lkX12_191 hG) _ rfl rfl) (j := 114) (by decide +kernel) (hd 12 24 _ _ rfl) [.int (F1 114 6)] (rest := []) (by rfl) ⟨⟨114, by decide, rfl⟩, ⟨_, rfl, rf_in1 (by omega) (by omega), trivial⟩, trivial⟩ (Nat.le_of_ble_eq_true rfl) trivial (fun rv24 F24 fr24 rr24 pp24 sm_ => hat 27 rfl ?_)
      have e_ := (sm_ rfl).symm
      subst e_
      obtain ⟨k_, x24, ek_, er_, hx24, gx24⟩ := pp24
      cases ek_
      subst er_
      rw [show (fun i => (F1 72 i).toInt) = (fun i => (F 72 i).toInt) from funext fun q_ => congrArg Int32.toInt (fr1 72 q_ (by decide) (by rfl)), show F1 114 3 = F 114 3 from fr1 114 3 (by decide) (by rfl)] at hx24
      refine h_bp c (hd 13 27 _ _ rfl) (by decide) (fun v27 e27 => hat 29 rfl ?_)
      refine h_cmp c (hd 14 29 _ _ rfl) (tgt := 45) (by decide) (fun (h29 : x24.toInt = v27.toInt) => ?_) (fun (h29 : ¬ (x24.toInt = v27.toInt)) => hat 32 rfl ?_)
      · skip
        refine h_aln c (hd 21 45 _ _ rfl) (by rfl) (hat 46 rfl ?_)
        refine h_dup c (hd 22 46 _ _ rfl) (by rfl) (hat 47 rfl ?_)
        refine h_getI c (hd 23 47 _ _ rfl) fgX12_188 gnX12_188_114 (x := F1 114 6) (rfl) (hat 50 rfl ?_)
        refine h_ic c (hd 24 50 _ _ rfl) (by decide) (fun v50 e50 => hat 51 rfl ?_)
        refine h_add c (hd 25 51 _ _ rfl) (by omega) (fun v51 e51 => hat 52 rfl ?_)
        refine h_putI c (hd 26 52 _ _ rfl) fgX12_188 gnX12_188_114 (by decide) (by decide) rfl (rf_in1 (by omega) (by omega)) (hat 55 rfl ?_)
        refine h_goto c (hd 27 55 _ _ rfl) (tgt := 8) (by decide) ?_
        exact ih ((F 114 3).toInt - v51.toInt).toNat (by omega) _ (hframe_up fr1 (by rfl) _) (show 0 ≤ v51.toInt by omega) (show (F 114 7).toInt ≤ v51.toInt by omega) (show v51.toInt ≤ 1600 by omega) rfl
      · skip
        refine h_aln c (hd 15 32 _ _ rfl) (by rfl) (hat 33 rfl ?_)
        refine h_aln c (hd 16 33 _ _ rfl) (by rfl) (hat 34 rfl ?_)
        refine h_getI c (hd 17 34 _ _ rfl) fgX12_188 gnX12_188_114 (x := F1 114 6) (rfl) (hat 37 rfl ?_)
        refine h_callVF c (M' := hM_sign) (hp_sign hG) (by decide +kernel) (wlkV (lkX12_191 hG) _ rfl rfl) (j := 114) (by decide +kernel) (hd 18 37 _ _ rfl) [.int (F1 114 6)] (rest := []) (by rfl) ⟨⟨114, by decide, rfl⟩, ⟨_, rfl, rf_in1 (by omega) (by omega), trivial⟩, trivial⟩ (Nat.le_of_ble_eq_true rfl) trivial (fun rv37 F37 fr37 rr37 pp37 sm_ => hat 40 rfl ?_)
        have e_ := (sm_ rfl).symm
        subst e_
        obtain ⟨k_, x37, ek_, er_, hx37, gx37⟩ := pp37
        cases ek_
        subst er_
        rw [show (fun i => (F1 72 i).toInt) = (fun i => (F 72 i).toInt) from funext fun q_ => congrArg Int32.toInt (fr1 72 q_ (by decide) (by rfl)), show F1 114 3 = F 114 3 from fr1 114 3 (by decide) (by rfl)] at hx37
        refine h_bp c (hd 19 40 _ _ rfl) (by decide) (fun v40 e40 => hat 42 rfl ?_)
        refine h_cmp c (hd 20 42 _ _ rfl) (tgt := 58) (by decide) (fun (h42 : x37.toInt ≠ v40.toInt) => ?_) (fun (h42 : ¬ (x37.toInt ≠ v40.toInt)) => hat 45 rfl ?_)
        · skip
          exact K58 _ fr1 h0 h1 h2
        · skip
          refine h_aln c (hd 21 45 _ _ rfl) (by rfl) (hat 46 rfl ?_)
          refine h_dup c (hd 22 46 _ _ rfl) (by rfl) (hat 47 rfl ?_)
          refine h_getI c (hd 23 47 _ _ rfl) fgX12_188 gnX12_188_114 (x := F1 114 6) (rfl) (hat 50 rfl ?_)
          refine h_ic c (hd 24 50 _ _ rfl) (by decide) (fun v50 e50 => hat 51 rfl ?_)
          refine h_add c (hd 25 51 _ _ rfl) (by omega) (fun v51 e51 => hat 52 rfl ?_)
          refine h_putI c (hd 26 52 _ _ rfl) fgX12_188 gnX12_188_114 (by decide) (by decide) rfl (rf_in1 (by omega) (by omega)) (hat 55 rfl ?_)
          refine h_goto c (hd 27 55 _ _ rfl) (tgt := 8) (by decide) ?_
          exact ih ((F 114 3).toInt - v51.toInt).toNat (by omega) _ (hframe_up fr1 (by rfl) _) (show 0 ≤ v51.toInt by omega) (show (F 114 7).toInt ≤ v51.toInt by omega) (show v51.toInt ≤ 1600 by omega) rfl
  refine h_aln c (hd 0 0 _ _ rfl) (by rfl) (hat 1 rfl ?_)
  refine h_aln c (hd 1 1 _ _ rfl) (by rfl) (hat 2 rfl ?_)
  refine h_getI c (hd 2 2 _ _ rfl) fgX12_185 gnX12_185_114 (x := F 114 7) (rfl) (hat 5 rfl ?_)
  refine h_putI c (hd 3 5 _ _ rfl) fgX12_188 gnX12_188_114 (by decide) (by decide) rfl (rf_in1 (by omega) (by omega)) (hat 8 rfl ?_)
  exact K8 _ _ (hframe_up (hframe_rf _ _) (by rfl) _) (show 0 ≤ (F 114 7).toInt by omega) (Int.le_refl _) (show (F 114 7).toInt ≤ 1600 by omega) rfl
