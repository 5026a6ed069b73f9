/-! DISTANCE in the class: the table (printed by wip/p15/d15b.py) -/
/-- the lesser, the greater one of two: words that omega doesn't open -/
def isMin (r a b : Int) : Prop := (r = a ∨ r = b) ∧ r ≤ a ∧ r ≤ b
def isMax (r a b : Int) : Prop := (r = a ∨ r = b) ∧ a ≤ r ∧ b ≤ r
theorem isMin_in {r a b lo hi : Int} (h : isMin r a b) (h1 : lo ≤ a) (h2 : lo ≤ b) (h3 : a ≤ hi) : lo ≤ r ∧ r ≤ hi := by
  obtain ⟨h4, h5, h6⟩ := h
  omega
theorem dval1 {x y : Nat → Int} {c r : Nat} {t1 t2 t3 m1 m2 o v : Int} (h : ¬ x c = y r) (hs : ¬ dsw x y c r) (T1 : t1 = dst x y c r) (T2 : t2 = dst x y (c + 1) r) (T3 : t3 = dst x y c (r + 1)) (e1 : isMin m1 t3 t2) (e2 : isMin m2 t1 m1) (eo : o = 1) (e3 : v = o + m2) : v = dst x y (c + 1) (r + 1) := by
  have hs2 : ¬ (2 ≤ c + 1 ∧ 2 ≤ r + 1 ∧ x c = y (r - 1) ∧ x (c - 1) = y r) := fun q => hs ⟨by omega, by omega, q.2.2.1, q.2.2.2⟩
  rw [dst_ss, if_neg h, if_neg hs2, ← T1, ← T2, ← T3]
  obtain ⟨a1, a2, a3⟩ := e1
  obtain ⟨b1, b2, b3⟩ := e2
  clear h hs hs2 T1 T2 T3
  omega
theorem dval2 {x y : Nat → Int} {c r : Nat} {t1 t2 t3 t4 m1 m2 o o' v w z : Int} (h : ¬ x c = y r) (hs : dsw x y c r) (T1 : t1 = dst x y c r) (T2 : t2 = dst x y (c + 1) r) (T3 : t3 = dst x y c (r + 1)) (T4 : t4 = dst x y (c - 1) (r - 1)) (e1 : isMin m1 t3 t2) (e2 : isMin m2 t1 m1) (eo : o = 1) (e3 : v = o + m2) (eo' : o' = 1) (e4 : w = t4 + o') (e5 : isMin z v w) : z = dst x y (c + 1) (r + 1) := by
  have hs2 : 2 ≤ c + 1 ∧ 2 ≤ r + 1 ∧ x c = y (r - 1) ∧ x (c - 1) = y r := ⟨by have := hs.1; omega, by have := hs.2.1; omega, hs.2.2.1, hs.2.2.2⟩
  rw [dst_ss, if_neg h, if_pos hs2, ← T1, ← T2, ← T3, ← T4]
  obtain ⟨a1, a2, a3⟩ := e1
  obtain ⟨b1, b2, b3⟩ := e2
  obtain ⟨d1, d2, d3⟩ := e5
  clear h hs hs2 T1 T2 T3 T4
  omega
def dTB : List rfR := [(0,0,1), (1,1,1), (2,2,1), (3,3,1), (4,4,1), (5,5,1), (6,6,1), (7,7,1), (8,8,1), (9,9,1), (10,10,1), (11,11,1), (12,12,1), rf_top, rf_top, rf_top, rf_top, rf_top, rf_top, rf_top, rf_top, rf_top, rf_top, rf_top, rf_top, rf_top, rf_top, rf_top, rf_top, rf_top, rf_top, rf_top, rf_top, rf_top, rf_top, rf_top, rf_top, rf_top, rf_top, rf_top, rf_top, rf_top, rf_top, rf_top, rf_top, rf_top, rf_top, rf_top, rf_top, rf_top, rf_top, rf_top, rf_top, rf_top, rf_top, rf_top, rf_top, rf_top, rf_top, rf_top, rf_top, rf_top, rf_top, rf_top, rf_top, rf_top, rf_top, rf_top, rf_top, rf_top, rf_top, rf_top, rf_top, rf_top, rf_top, rf_top, rf_top, rf_top, rf_top, rf_top, rf_top, rf_top, rf_top, rf_top, rf_top, rf_top, rf_top, rf_top, rf_top, rf_top, rf_top, rf_top, rf_top, rf_top, rf_top, rf_top, rf_top, rf_top, rf_top, rf_top, rf_top, rf_top, rf_top, rf_top, rf_top, rf_top, rf_top, rf_top, rf_top, rf_top, rf_top, rf_top, rf_top, rf_top, rf_top, rf_top, rf_top, rf_top, rf_top, rf_top, rf_top, rf_top, rf_top, rf_top, rf_top, rf_top, rf_top, rf_top, rf_top, rf_top, rf_top, rf_top, rf_top, rf_top, rf_top, rf_top, rf_top, rf_top, rf_top, rf_top, rf_top, rf_top, rf_top, rf_top, rf_top, rf_top, rf_top, rf_top, rf_top, rf_top, rf_top, rf_top, rf_top, rf_top, rf_top, rf_top, rf_top, rf_top, rf_top, rf_top, rf_top, rf_top, rf_top, rf_top, rf_top, rf_top, rf_top, rf_top, rf_top]
theorem dla19 : rf_arr wLay 0 19 = some (169, dTB) := by decide +kernel
theorem dTB_top {k : Nat} (h1 : 13 ≤ k) (h2 : k < 169) (x : Int32) : rf_in (dTB.getD (k % dTB.length) rf_top) x.toInt := by
  have h : (List.range 169).all (fun k => decide (k < 13) || decide (dTB.getD (k % dTB.length) rf_top = rf_top)) = true := by decide +kernel
  have h3 := List.all_eq_true.mp h k (List.mem_range.mpr h2)
  simp only [Bool.or_eq_true, decide_eq_true_eq] at h3
  rcases h3 with h3 | h3
  · omega
  · rw [h3]; exact rf_in_top _
theorem dRow0 {F : HF} (hr : hrng wLay F) {i : Nat} (hi : i < 13) : (F 19 i).toInt = (i : Int) := by
  have h : (List.range 13).all (fun i => decide (rf_layr wLay 19 i = some ((i : Int), (i : Int), 1))) = true := by decide +kernel
  have h3 := List.all_eq_true.mp h i (List.mem_range.mpr hi)
  simp only [decide_eq_true_eq] at h3
  have := hrg hr h3
  simp only at this
  omega
theorem h_mulR {X : rfX} {G : rfG} {M : rfM} {w0 : va_W} {Lay : List rfL} {fl : rfFl} {cs : List (Nat × Int)} {Q : Option Value → HF → Prop} {L : List (Nat × Value)} {st : List Value} {F : HF} {pc : Nat} (c : hC G X M w0 Lay fl cs Q) {a b : Int32} {n : Int} (hd : decode (mb M) pc = .ok (.imul, 1)) (hb : b.toInt = n) (hf : -2147483648 ≤ n * a.toInt ∧ n * a.toInt ≤ 2147483647) (K : ∀ r : Int32, r.toInt = n * a.toInt → hW G X M w0 (pc + 1) L (.int r :: st) F) : hW G X M w0 pc L (.int b :: .int a :: st) F := by
  refine h_mulW c hd (K _ ?_)
  have e : a * b = b * a := Int32.mul_comm a b
  rw [e]
  have := Int32.toInt_mul b a
  rw [this, hb]
  exact Int.bmod_eq_of_le (by omega) (by omega)
theorem dst_congr {x y x' y' : Nat → Int} : ∀ (n i j : Nat), i + j ≤ n → (∀ k, k < i → x k = x' k) → (∀ k, k < j → y k = y' k) → dst x y i j = dst x' y' i j := by
  intro n
  induction n with
  | zero =>
    intro i j h _ _
    have e1 : i = 0 := by omega
    subst e1
    rw [dst_0, dst_0]
  | succ n ih =>
    intro i j h hx hy
    cases i with
    | zero => rw [dst_0, dst_0]
    | succ i =>
      cases j with
      | zero => rw [dst_i0, dst_i0]
      | succ j =>
        rw [dst_ss, dst_ss, hx i (by omega), hy j (by omega), ih i j (by omega) (fun k hk => hx k (by omega)) (fun k hk => hy k (by omega)), ih i (j + 1) (by omega) (fun k hk => hx k (by omega)) hy, ih (i + 1) j (by omega) hx (fun k hk => hy k (by omega)), ih (i - 1) (j - 1) (by omega) (fun k hk => hx k (by omega)) (fun k hk => hy k (by omega)), hx (i - 1) (by omega), hy (j - 1) (by omega)]
theorem dst_min {x y : Nat → Int} {i j : Nat} (h : ¬ x i = y j) (hs : ¬ dsw x y i j) : dst x y (i + 1) (j + 1) = 1 + min (dst x y i j) (min (dst x y i (j + 1)) (dst x y (i + 1) j)) := by
  have hs2 : ¬ (2 ≤ i + 1 ∧ 2 ≤ j + 1 ∧ x i = y (j - 1) ∧ x (i - 1) = y j) := fun q => hs ⟨by omega, by omega, q.2.2.1, q.2.2.2⟩
  rw [dst_ss, if_neg h, if_neg hs2]
theorem dst_min2 {x y : Nat → Int} {i j : Nat} (h : ¬ x i = y j) (hs : dsw x y i j) : dst x y (i + 1) (j + 1) = min (1 + min (dst x y i j) (min (dst x y i (j + 1)) (dst x y (i + 1) j))) (dst x y (i - 1) (j - 1) + 1) := by
  have hs2 : 2 ≤ i + 1 ∧ 2 ≤ j + 1 ∧ x i = y (j - 1) ∧ x (i - 1) = y j := ⟨by have := hs.1; omega, by have := hs.2.1; omega, hs.2.2.1, hs.2.2.2⟩
  rw [dst_ss, if_neg h, if_pos hs2]
/-- rows of the table below n are right, up to a letters -/
def tOK (B F : HF) (a : Int) (n : Nat) : Prop := ∀ j i : Nat, j < n → (i : Int) ≤ a → (F 19 (13 * j + i)).toInt = dst (fun k => (B 17 k).toInt) (fun k => (B 18 k).toInt) i j
theorem tOK_base {B B' F : HF} {a a' : Int} {n : Nat} (h : hframe [(19, 0)] B B') (ha : a' = a) (ht : tOK B F a n) : tOK B' F a' n := by
  intro j i hj hi
  have e1 : (fun k => (B' 17 k).toInt) = (fun k => (B 17 k).toInt) := funext fun k => by rw [h 17 k (by decide) (by rfl)]
  have e2 : (fun k => (B' 18 k).toInt) = (fun k => (B 18 k).toInt) := funext fun k => by rw [h 18 k (by decide) (by rfl)]
  rw [e1, e2]
  exact ht j i hj (by omega)
theorem tOK_back {B B' F : HF} {a a' : Int} {n : Nat} (h : hframe [(19, 0)] B B') (ha : a' = a) (ht : tOK B' F a' n) : tOK B F a n := by
  intro j i hj hi
  have e1 : (fun k => (B' 17 k).toInt) = (fun k => (B 17 k).toInt) := funext fun k => by rw [h 17 k (by decide) (by rfl)]
  have e2 : (fun k => (B' 18 k).toInt) = (fun k => (B 18 k).toInt) := funext fun k => by rw [h 18 k (by decide) (by rfl)]
  rw [← e1, ← e2]
  exact ht j i hj (by omega)
theorem tOK_up {B F : HF} {a : Int} {n k : Nat} {v : Int32} (ha : a ≤ 12) (hk : 13 * n ≤ k) (ht : tOK B F a n) : tOK B (hupd F 19 k v) a n := by
  intro j i hj hi
  show (if 13 * j + i = k then v else F 19 (13 * j + i)).toInt = _
  rw [if_neg (by omega)]
  exact ht j i hj hi
def dM_fill : rfM := ((⟨"NearSpell$Ruler", "fillRow", "(I)V"⟩, prog_9_method_9_code, 7, none), (2,100), ([.inr (.inl [20]), .inl ((1,12,1),none)],[]), [(19,0)], [])
def ddDX7_fillRow : List (Nat × Instr × Nat) := [(0,.iload_n 1,1),(1,.iconst 1,1),(2,.if_icmp .lt 9,3),(5,.iload_n 1,1),(6,.bipush 12,2),(8,.if_icmp .le 4,3),(11,.return_,1),(12,.aload_n 0,1),(13,.getfield 15,3),(16,.iload_n 1,1),(17,.iconst 1,1),(18,.isub,1),(19,.iaload,1),(20,.istore_n 2,1),(21,.iload_n 1,1),(22,.iconst 1,1),(23,.if_icmp .le 14,3),(26,.aload_n 0,1),(27,.getfield 15,3),(30,.iload_n 1,1),(31,.iconst 2,1),(32,.isub,1),(33,.iaload,1),(34,.goto 4,3),(37,.iconst 0,1),(38,.istore_n 3,1),(39,.iload_n 1,1),(40,.bipush 13,2),(42,.imul,1),(43,.istore 4,2),(45,.aload_n 0,1),(46,.getfield 18,3),(49,.iload 4,2),(51,.iload_n 1,1),(52,.iastore,1),(53,.iconst 1,1),(54,.istore 5,2),(56,.iload 5,2),(58,.aload_n 0,1),(59,.getfield 21,3),(62,.if_icmp .gt 137,3),(65,.iinc 4 1,3),(68,.aload_n 0,1),(69,.getfield 18,3),(72,.iload 4,2),(74,.bipush 13,2),(76,.isub,1),(77,.iconst 1,1),(78,.isub,1),(79,.iaload,1),(80,.istore 6,2),(82,.aload_n 0,1),(83,.getfield 11,3),(86,.iload 5,2),(88,.iconst 1,1),(89,.isub,1),(90,.iaload,1),(91,.iload_n 2,1),(92,.if_icmp .eq 92,3),(95,.iconst 1,1),(96,.iload 6,2),(98,.aload_n 0,1),(99,.getfield 18,3),(102,.iload 4,2),(104,.iconst 1,1),(105,.isub,1),(106,.iaload,1),(107,.aload_n 0,1),(108,.getfield 18,3),(111,.iload 4,2),(113,.bipush 13,2),(115,.isub,1),(116,.iaload,1),(117,.invokestatic 44,3),(120,.invokestatic 44,3),(123,.iadd,1),(124,.istore 6,2),(126,.iload_n 1,1),(127,.iconst 1,1),(128,.if_icmp .le 56,3),(131,.iload 5,2),(133,.iconst 1,1),(134,.if_icmp .le 50,3),(137,.aload_n 0,1),(138,.getfield 11,3),(141,.iload 5,2),(143,.iconst 1,1),(144,.isub,1),(145,.iaload,1),(146,.iload_n 3,1),(147,.if_icmp .ne 37,3),(150,.aload_n 0,1),(151,.getfield 11,3),(154,.iload 5,2),(156,.iconst 2,1),(157,.isub,1),(158,.iaload,1),(159,.iload_n 2,1),(160,.if_icmp .ne 24,3),(163,.iload 6,2),(165,.aload_n 0,1),(166,.getfield 18,3),(169,.iload 4,2),(171,.bipush 26,2),(173,.isub,1),(174,.iconst 2,1),(175,.isub,1),(176,.iaload,1),(177,.iconst 1,1),(178,.iadd,1),(179,.invokestatic 44,3),(182,.istore 6,2),(184,.aload_n 0,1),(185,.getfield 18,3),(188,.iload 4,2),(190,.iload 6,2),(192,.iastore,1),(193,.iinc 5 1,3),(196,.goto (-140),3),(199,.return_,1)]
set_option maxRecDepth 100000 in
theorem dkDX7_fillRow : rf_decs prog_9_method_9_code ddDX7_fillRow := dd_of (by decide +kernel)
set_option maxHeartbeats 4000000 in
set_option maxRecDepth 20000 in
theorem dp_fill {G : rfG} (hG : okG G) : h_met G dM_fill (fun vs F => ∃ r : Int32, vs[1]? = some (.int r) ∧ tOK F F (F 20 3).toInt r.toInt.toNat) (fun vs F F' rv => rv = none ∧ ∃ r : Int32, vs[1]? = some (.int r) ∧ tOK F F' (F 20 3).toInt (r.toInt.toNat + 1)) := by
  refine h_metOf hG.1 (by decide +kernel) (by decide) hG.2.2.1 (wflT hG flokX7) (wcsT hG csokX7) ?_
  intro vs w0 X hv_ hr hp c
  match vs, hv_ with
  | [_, _], ⟨⟨_, hj0, rfl⟩, ⟨r, rfl, hi_r, _⟩, _⟩ =>
  cases List.mem_singleton.mp hj0
  have hd : ∀ n pc i len, ddDX7_fillRow[n]? = some (pc, i, len) → decode (mb dM_fill) pc = .ok (i, len) := fun n pc i len h => hdk dkDX7_fillRow n pc i len h
  show hW G X dM_fill w0 0 [(0, .ref (G.2.1.1 20)), (1, .int r)] [] (hv w0)
  generalize hF0 : hv w0 = F at *
  obtain ⟨r_, er_, htab⟩ := hp
  cases er_
  have hr_ : 1 ≤ r.toInt ∧ r.toInt ≤ 12 := ⟨hi_r.1, hi_r.2.1⟩
  have hts : 0 ≤ (F 20 3).toInt ∧ (F 20 3).toInt ≤ 12 := hrg hr dly_20_3
  obtain ⟨rr, hrr⟩ : ∃ rr : Nat, r.toInt = (rr : Int) + 1 := ⟨r.toInt.toNat - 1, by omega⟩
  have er1 : r.toInt.toNat = rr + 1 := by omega
  rw [er1] at htab
  have K56 : ∀ (m : Nat) (w5 w4 w3 : Int32) (F1 : HF), hframe [(19, 0)] F F1 → tOK F F1 (F 20 3).toInt (rr + 1) → (∀ i : Nat, (i : Int) < w5.toInt → (F1 19 (13 * (rr + 1) + i)).toInt = dst (fun k => (F 17 k).toInt) (fun k => (F 18 k).toInt) i (rr + 1)) → (1 ≤ rr → w3.toInt = (F 18 (rr - 1)).toInt) → 1 ≤ w5.toInt → w5.toInt ≤ (F 20 3).toInt + 1 → w4.toInt = 13 * r.toInt + w5.toInt - 1 → m = ((F 20 3).toInt + 1 - w5.toInt).toNat → hW G X dM_fill w0 56 [(5, .int w5), (4, .int w4), (3, .int w3), (2, .int (F 18 rr)), (1, .int r), (0, .ref (G.2.1.1 20))] [] F1 := by
    intro m
    induction m using Nat.strongRecOn with
    | ind m ih =>
    intro w5 w4 w3 F1 fr1 htb hrow hw3 h50 h51 h4 hm
    refine h_il c (hd 37 56 _ _ rfl) (by rfl) (hat 58 rfl ?_)
    refine h_aln c (hd 38 58 _ _ rfl) (by rfl) (hat 59 rfl ?_)
    refine h_getI c (hd 39 59 _ _ rfl) dfgX7_21 dgnX7_21_20 (x := F 20 3) (fr1 20 3 (by decide) (by rfl)) (hat 62 rfl ?_)
    refine h_cmp c (hd 40 62 _ _ rfl) (tgt := 199) (by decide) (fun (h62 : (F 20 3).toInt < w5.toInt) => ?_) (fun (h62 : ¬ ((F 20 3).toInt < w5.toInt)) => hat 65 rfl ?_)
    · skip
      exact h_vret c (hd 119 199 _ _ rfl) rfl ⟨rfl, r, rfl, fun j i hj hi => by
        rw [er1] at hj
        rcases Nat.lt_or_ge j (rr + 1) with q_ | q_
        · exact htb j i q_ hi
        · have e_ : j = rr + 1 := by omega
          subst e_; exact hrow i (by omega)⟩
    · skip
      obtain ⟨cc, hcc⟩ : ∃ cc : Nat, w5.toInt = (cc : Int) + 1 := ⟨w5.toInt.toNat - 1, by omega⟩
      have T1 : (F1 19 (13 * rr + cc)).toInt = dst (fun k => (F 17 k).toInt) (fun k => (F 18 k).toInt) cc rr := htb rr cc (by omega) (by omega)
      have T2 : (F1 19 (13 * rr + (cc + 1))).toInt = dst (fun k => (F 17 k).toInt) (fun k => (F 18 k).toInt) (cc + 1) rr := htb rr (cc + 1) (by omega) (by omega)
      have T3 : (F1 19 (13 * (rr + 1) + cc)).toInt = dst (fun k => (F 17 k).toInt) (fun k => (F 18 k).toInt) cc (rr + 1) := hrow cc (by omega)
      refine h_inc c (fun r_ => [(4, .int r_), (5, .int w5), (3, .int w3), (2, .int (F 18 rr)), (1, .int r), (0, .ref (G.2.1.1 20))]) (hd 41 65 _ _ rfl) (by decide) (by decide) (by rfl) (by omega) (fun _ => by rfl) (fun v65 e65 => hat 68 rfl ?_)
      have K184 : ∀ v : Int32, v.toInt = dst (fun k => (F 17 k).toInt) (fun k => (F 18 k).toInt) (cc + 1) (rr + 1) → hW G X dM_fill w0 184 [(6, .int v), (4, .int v65), (5, .int w5), (3, .int w3), (2, .int (F 18 rr)), (1, .int r), (0, .ref (G.2.1.1 20))] [] F1 := by
        intro v hv_
        clear T1 T2 T3
        refine h_aln c (hd 112 184 _ _ rfl) (by rfl) (hat 185 rfl ?_)
        refine h_getR c (hd 113 185 _ _ rfl) dfgX7_18 dgnX7_18_20 (hat 188 rfl ?_)
        refine h_il c (hd 114 188 _ _ rfl) (by rfl) (hat 190 rfl ?_)
        refine h_il c (hd 115 190 _ _ rfl) (by rfl) (hat 192 rfl ?_)
        refine h_iast c (k := (13 * (rr + 1) + (cc + 1))) (hd 116 192 _ _ rfl) dla19 ⟨by omega, by omega⟩ (by omega) (by decide) (by decide) (dTB_top (by omega) (by omega) _) (hat 193 rfl ?_)
        refine h_inc c (fun r_ => [(5, .int r_), (6, .int v), (4, .int v65), (3, .int w3), (2, .int (F 18 rr)), (1, .int r), (0, .ref (G.2.1.1 20))]) (hd 117 193 _ _ rfl) (by decide) (by decide) (by rfl) (by omega) (fun _ => by rfl) (fun v193 e193 => hat 196 rfl ?_)
        refine h_goto c (hd 118 196 _ _ rfl) (tgt := 56) (by decide) ?_
        refine h_less (L := [(5, .int v193), (4, .int v65), (3, .int w3), (2, .int (F 18 rr)), (1, .int r), (0, .ref (G.2.1.1 20))]) (by simp) (ih ((F 20 3).toInt + 1 - v193.toInt).toNat (by omega) _ _ _ _ (hframe_up fr1 (by rfl) _) (tOK_up hts.2 (by omega) htb) (fun i hi => ?_) hw3 (by omega) (by omega) (by omega) rfl)
        show (if 13 * (rr + 1) + i = (13 * (rr + 1) + (cc + 1)) then v else F1 19 (13 * (rr + 1) + i)).toInt = _
        by_cases e_ : i = cc + 1
        · subst e_; rw [if_pos rfl]; exact hv_
        · rw [if_neg (by omega)]; exact hrow i (by omega)
      refine h_aln c (hd 42 68 _ _ rfl) (by rfl) (hat 69 rfl ?_)
      refine h_getR c (hd 43 69 _ _ rfl) dfgX7_18 dgnX7_18_20 (hat 72 rfl ?_)
      refine h_il c (hd 44 72 _ _ rfl) (by rfl) (hat 74 rfl ?_)
      refine h_bp c (hd 45 74 _ _ rfl) (by decide) (fun v74 e74 => hat 76 rfl ?_)
      refine h_sub c (hd 46 76 _ _ rfl) (by omega) (fun v76 e76 => hat 77 rfl ?_)
      refine h_ic c (hd 47 77 _ _ rfl) (by decide) (fun v77 e77 => hat 78 rfl ?_)
      refine h_sub c (hd 48 78 _ _ rfl) (by omega) (fun v78 e78 => hat 79 rfl ?_)
      refine h_iald c (hd 49 79 _ _ rfl) dla19 ⟨by omega, by omega⟩ (by omega) (x := F1 19 (13 * rr + cc)) (rfl) (hat 80 rfl ?_)
      refine h_is c (hd 50 80 _ _ rfl) (by decide) (L' := [(6, .int (F1 19 (13 * rr + cc))), (4, .int v65), (5, .int w5), (3, .int w3), (2, .int (F 18 rr)), (1, .int r), (0, .ref (G.2.1.1 20))]) (by rfl) (hat 82 rfl ?_)
      refine h_aln c (hd 51 82 _ _ rfl) (by rfl) (hat 83 rfl ?_)
      refine h_getR c (hd 52 83 _ _ rfl) dfgX7_11 dgnX7_11_20 (hat 86 rfl ?_)
      refine h_il c (hd 53 86 _ _ rfl) (by rfl) (hat 88 rfl ?_)
      refine h_ic c (hd 54 88 _ _ rfl) (by decide) (fun v88 e88 => hat 89 rfl ?_)
      refine h_sub c (hd 55 89 _ _ rfl) (by omega) (fun v89 e89 => hat 90 rfl ?_)
      refine h_iald c (hd 56 90 _ _ rfl) dla_17 ⟨by omega, by omega⟩ (by omega) (x := F 17 cc) (fr1 17 cc (by decide) (by rfl)) (hat 91 rfl ?_)
      refine h_iln c (hd 57 91 _ _ rfl) (by rfl) (hat 92 rfl ?_)
      refine h_cmp c (hd 58 92 _ _ rfl) (tgt := 184) (by decide) (fun (h92 : (F 17 cc).toInt = (F 18 rr).toInt) => ?_) (fun (h92 : ¬ ((F 17 cc).toInt = (F 18 rr).toInt)) => hat 95 rfl ?_)
      · skip
        exact K184 _ (by rw [dst_eq (x := (fun k => (F 17 k).toInt)) (y := (fun k => (F 18 k).toInt)) h92]; exact T1)
      · skip
        refine h_ic c (hd 59 95 _ _ rfl) (by decide) (fun v95 e95 => hat 96 rfl ?_)
        refine h_il c (hd 60 96 _ _ rfl) (by rfl) (hat 98 rfl ?_)
        refine h_aln c (hd 61 98 _ _ rfl) (by rfl) (hat 99 rfl ?_)
        refine h_getR c (hd 62 99 _ _ rfl) dfgX7_18 dgnX7_18_20 (hat 102 rfl ?_)
        refine h_il c (hd 63 102 _ _ rfl) (by rfl) (hat 104 rfl ?_)
        refine h_ic c (hd 64 104 _ _ rfl) (by decide) (fun v104 e104 => hat 105 rfl ?_)
        refine h_sub c (hd 65 105 _ _ rfl) (by omega) (fun v105 e105 => hat 106 rfl ?_)
        refine h_iald c (hd 66 106 _ _ rfl) dla19 ⟨by omega, by omega⟩ (by omega) (x := F1 19 (13 * (rr + 1) + cc)) (rfl) (hat 107 rfl ?_)
        refine h_aln c (hd 67 107 _ _ rfl) (by rfl) (hat 108 rfl ?_)
        refine h_getR c (hd 68 108 _ _ rfl) dfgX7_18 dgnX7_18_20 (hat 111 rfl ?_)
        refine h_il c (hd 69 111 _ _ rfl) (by rfl) (hat 113 rfl ?_)
        refine h_bp c (hd 70 113 _ _ rfl) (by decide) (fun v113 e113 => hat 115 rfl ?_)
        refine h_sub c (hd 71 115 _ _ rfl) (by omega) (fun v115 e115 => hat 116 rfl ?_)
        refine h_iald c (hd 72 116 _ _ rfl) dla19 ⟨by omega, by omega⟩ (by omega) (x := F1 19 (13 * rr + (cc + 1))) (rfl) (hat 117 rfl ?_)
        refine h_min c (biMin hG) ⟨Nat.le_of_ble_eq_true rfl, Nat.le_of_ble_eq_true rfl⟩ (hd 73 117 _ _ rfl) (fun (v117 : Int32) (e117 : isMin v117.toInt (F1 19 (13 * (rr + 1) + cc)).toInt (F1 19 (13 * rr + (cc + 1))).toInt) => hat 120 rfl ?_)
        refine h_min c (biMin hG) ⟨Nat.le_of_ble_eq_true rfl, Nat.le_of_ble_eq_true rfl⟩ (hd 74 120 _ _ rfl) (fun (v120 : Int32) (e120 : isMin v120.toInt (F1 19 (13 * rr + cc)).toInt v117.toInt) => hat 123 rfl ?_)
        have b1_ := (show 0 ≤ dst (fun k => (F 17 k).toInt) (fun k => (F 18 k).toInt) cc rr ∧ dst (fun k => (F 17 k).toInt) (fun k => (F 18 k).toInt) cc rr ≤ 30 from ⟨dst_lo _ _ _ (Nat.le_refl _), by have := dst_hi (x := (fun k => (F 17 k).toInt)) (y := (fun k => (F 18 k).toInt)) (cc) (rr); omega⟩)
        have b2_ := (show 0 ≤ dst (fun k => (F 17 k).toInt) (fun k => (F 18 k).toInt) (cc + 1) rr ∧ dst (fun k => (F 17 k).toInt) (fun k => (F 18 k).toInt) (cc + 1) rr ≤ 30 from ⟨dst_lo _ _ _ (Nat.le_refl _), by have := dst_hi (x := (fun k => (F 17 k).toInt)) (y := (fun k => (F 18 k).toInt)) (cc + 1) (rr); omega⟩)
        have b3_ := (show 0 ≤ dst (fun k => (F 17 k).toInt) (fun k => (F 18 k).toInt) cc (rr + 1) ∧ dst (fun k => (F 17 k).toInt) (fun k => (F 18 k).toInt) cc (rr + 1) ≤ 30 from ⟨dst_lo _ _ _ (Nat.le_refl _), by have := dst_hi (x := (fun k => (F 17 k).toInt)) (y := (fun k => (F 18 k).toInt)) (cc) (rr + 1); omega⟩)
        rw [← T1] at b1_
        rw [← T2] at b2_
        rw [← T3] at b3_
        have bd117 := isMin_in e117 (lo := 0) (hi := 30) b3_.1 b2_.1 b3_.2
        have bd120 := isMin_in e120 (lo := 0) (hi := 30) b1_.1 bd117.1 b1_.2
        clear b1_ b2_ b3_ bd117
        refine h_add c (hd 75 123 _ _ rfl) (by omega) (fun v123 e123 => hat 124 rfl ?_)
        refine h_is c (hd 76 124 _ _ rfl) (by decide) (L' := [(6, .int v123), (4, .int v65), (5, .int w5), (3, .int w3), (2, .int (F 18 rr)), (1, .int r), (0, .ref (G.2.1.1 20))]) (by rfl) (hat 126 rfl ?_)
        refine h_iln c (hd 77 126 _ _ rfl) (by rfl) (hat 127 rfl ?_)
        refine h_ic c (hd 78 127 _ _ rfl) (by decide) (fun v127 e127 => hat 128 rfl ?_)
        refine h_cmp c (hd 79 128 _ _ rfl) (tgt := 184) (by decide) (fun (h128 : r.toInt ≤ v127.toInt) => ?_) (fun (h128 : ¬ (r.toInt ≤ v127.toInt)) => hat 131 rfl ?_)
        · skip
          exact K184 _ (dval1 (x := (fun k => (F 17 k).toInt)) (y := (fun k => (F 18 k).toInt)) (c := cc) (r := rr) h92 (fun q => by have := q.2.1; omega) T1 T2 T3 e117 e120 e95 e123)
        · skip
          refine h_il c (hd 80 131 _ _ rfl) (by rfl) (hat 133 rfl ?_)
          refine h_ic c (hd 81 133 _ _ rfl) (by decide) (fun v133 e133 => hat 134 rfl ?_)
          refine h_cmp c (hd 82 134 _ _ rfl) (tgt := 184) (by decide) (fun (h134 : w5.toInt ≤ v133.toInt) => ?_) (fun (h134 : ¬ (w5.toInt ≤ v133.toInt)) => hat 137 rfl ?_)
          · skip
            exact K184 _ (dval1 (x := (fun k => (F 17 k).toInt)) (y := (fun k => (F 18 k).toInt)) (c := cc) (r := rr) h92 (fun q => by have := q.1; omega) T1 T2 T3 e117 e120 e95 e123)
          · skip
            refine h_aln c (hd 83 137 _ _ rfl) (by rfl) (hat 138 rfl ?_)
            refine h_getR c (hd 84 138 _ _ rfl) dfgX7_11 dgnX7_11_20 (hat 141 rfl ?_)
            refine h_il c (hd 85 141 _ _ rfl) (by rfl) (hat 143 rfl ?_)
            refine h_ic c (hd 86 143 _ _ rfl) (by decide) (fun v143 e143 => hat 144 rfl ?_)
            refine h_sub c (hd 87 144 _ _ rfl) (by omega) (fun v144 e144 => hat 145 rfl ?_)
            refine h_iald c (hd 88 145 _ _ rfl) dla_17 ⟨by omega, by omega⟩ (by omega) (x := F 17 cc) (fr1 17 cc (by decide) (by rfl)) (hat 146 rfl ?_)
            refine h_iln c (hd 89 146 _ _ rfl) (by rfl) (hat 147 rfl ?_)
            refine h_cmp c (hd 90 147 _ _ rfl) (tgt := 184) (by decide) (fun (h147 : (F 17 cc).toInt ≠ w3.toInt) => ?_) (fun (h147 : ¬ ((F 17 cc).toInt ≠ w3.toInt)) => hat 150 rfl ?_)
            · skip
              exact K184 _ (dval1 (x := (fun k => (F 17 k).toInt)) (y := (fun k => (F 18 k).toInt)) (c := cc) (r := rr) h92 (fun q => h147 (q.2.2.1.trans (hw3 q.2.1).symm)) T1 T2 T3 e117 e120 e95 e123)
            · skip
              refine h_aln c (hd 91 150 _ _ rfl) (by rfl) (hat 151 rfl ?_)
              refine h_getR c (hd 92 151 _ _ rfl) dfgX7_11 dgnX7_11_20 (hat 154 rfl ?_)
              refine h_il c (hd 93 154 _ _ rfl) (by rfl) (hat 156 rfl ?_)
              refine h_ic c (hd 94 156 _ _ rfl) (by decide) (fun v156 e156 => hat 157 rfl ?_)
              refine h_sub c (hd 95 157 _ _ rfl) (by omega) (fun v157 e157 => hat 158 rfl ?_)
              refine h_iald c (hd 96 158 _ _ rfl) dla_17 ⟨by omega, by omega⟩ (by omega) (x := F 17 (cc - 1)) (fr1 17 (cc - 1) (by decide) (by rfl)) (hat 159 rfl ?_)
              refine h_iln c (hd 97 159 _ _ rfl) (by rfl) (hat 160 rfl ?_)
              refine h_cmp c (hd 98 160 _ _ rfl) (tgt := 184) (by decide) (fun (h160 : (F 17 (cc - 1)).toInt ≠ (F 18 rr).toInt) => ?_) (fun (h160 : ¬ ((F 17 (cc - 1)).toInt ≠ (F 18 rr).toInt)) => hat 163 rfl ?_)
              · skip
                exact K184 _ (dval1 (x := (fun k => (F 17 k).toInt)) (y := (fun k => (F 18 k).toInt)) (c := cc) (r := rr) h92 (fun q => h160 q.2.2.2) T1 T2 T3 e117 e120 e95 e123)
              · skip
                refine h_il c (hd 99 163 _ _ rfl) (by rfl) (hat 165 rfl ?_)
                refine h_aln c (hd 100 165 _ _ rfl) (by rfl) (hat 166 rfl ?_)
                refine h_getR c (hd 101 166 _ _ rfl) dfgX7_18 dgnX7_18_20 (hat 169 rfl ?_)
                refine h_il c (hd 102 169 _ _ rfl) (by rfl) (hat 171 rfl ?_)
                refine h_bp c (hd 103 171 _ _ rfl) (by decide) (fun v171 e171 => hat 173 rfl ?_)
                refine h_sub c (hd 104 173 _ _ rfl) (by omega) (fun v173 e173 => hat 174 rfl ?_)
                refine h_ic c (hd 105 174 _ _ rfl) (by decide) (fun v174 e174 => hat 175 rfl ?_)
                refine h_sub c (hd 106 175 _ _ rfl) (by omega) (fun v175 e175 => hat 176 rfl ?_)
                refine h_iald c (hd 107 176 _ _ rfl) dla19 ⟨by omega, by omega⟩ (by omega) (x := F1 19 (13 * (rr - 1) + (cc - 1))) (rfl) (hat 177 rfl ?_)
                have n1_ : 1 ≤ cc := by omega
                have n2_ : 1 ≤ rr := by omega
                have T4 : (F1 19 (13 * (rr - 1) + (cc - 1))).toInt = dst (fun k => (F 17 k).toInt) (fun k => (F 18 k).toInt) (cc - 1) (rr - 1) := htb (rr - 1) (cc - 1) (by omega) (by omega)
                have bd177 := (show 0 ≤ dst (fun k => (F 17 k).toInt) (fun k => (F 18 k).toInt) (cc - 1) (rr - 1) ∧ dst (fun k => (F 17 k).toInt) (fun k => (F 18 k).toInt) (cc - 1) (rr - 1) ≤ 30 from ⟨dst_lo _ _ _ (Nat.le_refl _), by have := dst_hi (x := (fun k => (F 17 k).toInt)) (y := (fun k => (F 18 k).toInt)) (cc - 1) (rr - 1); omega⟩)
                rw [← T4] at bd177
                refine h_ic c (hd 108 177 _ _ rfl) (by decide) (fun v177 e177 => hat 178 rfl ?_)
                refine h_add c (hd 109 178 _ _ rfl) (by omega) (fun v178 e178 => hat 179 rfl ?_)
                refine h_min c (biMin hG) ⟨Nat.le_of_ble_eq_true rfl, Nat.le_of_ble_eq_true rfl⟩ (hd 110 179 _ _ rfl) (fun (v179 : Int32) (e179 : isMin v179.toInt v123.toInt v178.toInt) => hat 182 rfl ?_)
                refine h_is c (hd 111 182 _ _ rfl) (by decide) (L' := [(6, .int v179), (4, .int v65), (5, .int w5), (3, .int w3), (2, .int (F 18 rr)), (1, .int r), (0, .ref (G.2.1.1 20))]) (by rfl) (hat 184 rfl ?_)
                exact K184 _ (dval2 (x := (fun k => (F 17 k).toInt)) (y := (fun k => (F 18 k).toInt)) (c := cc) (r := rr) h92 ⟨n1_, n2_, (Classical.not_not.mp h147).trans (hw3 n2_), Classical.not_not.mp h160⟩ T1 T2 T3 T4 e117 e120 e95 e123 e177 e178 e179)
  refine h_iln c (hd 0 0 _ _ rfl) (by rfl) (hat 1 rfl ?_)
  refine h_ic c (hd 1 1 _ _ rfl) (by decide) (fun v1 e1 => hat 2 rfl ?_)
  refine h_cmp c (hd 2 2 _ _ rfl) (tgt := 11) (by decide) (fun (h2 : r.toInt < v1.toInt) => ?_) (fun (h2 : ¬ (r.toInt < v1.toInt)) => hat 5 rfl ?_)
  · skip
    exfalso; omega
  · skip
    refine h_iln c (hd 3 5 _ _ rfl) (by rfl) (hat 6 rfl ?_)
    refine h_bp c (hd 4 6 _ _ rfl) (by decide) (fun v6 e6 => hat 8 rfl ?_)
    refine h_cmp c (hd 5 8 _ _ rfl) (tgt := 12) (by decide) (fun (h8 : r.toInt ≤ v6.toInt) => ?_) (fun (h8 : ¬ (r.toInt ≤ v6.toInt)) => hat 11 rfl ?_)
    · skip
      refine h_aln c (hd 7 12 _ _ rfl) (by rfl) (hat 13 rfl ?_)
      refine h_getR c (hd 8 13 _ _ rfl) dfgX7_15 dgnX7_15_20 (hat 16 rfl ?_)
      refine h_iln c (hd 9 16 _ _ rfl) (by rfl) (hat 17 rfl ?_)
      refine h_ic c (hd 10 17 _ _ rfl) (by decide) (fun v17 e17 => hat 18 rfl ?_)
      refine h_sub c (hd 11 18 _ _ rfl) (by omega) (fun v18 e18 => hat 19 rfl ?_)
      refine h_iald c (hd 12 19 _ _ rfl) dla_18 ⟨by omega, by omega⟩ (by omega) (x := F 18 rr) (rfl) (hat 20 rfl ?_)
      refine h_isn c (hd 13 20 _ _ rfl) (by decide) (L' := [(2, .int (F 18 rr)), (0, .ref (G.2.1.1 20)), (1, .int r)]) (by rfl) (hat 21 rfl ?_)
      refine h_iln c (hd 14 21 _ _ rfl) (by rfl) (hat 22 rfl ?_)
      refine h_ic c (hd 15 22 _ _ rfl) (by decide) (fun v22 e22 => hat 23 rfl ?_)
      refine h_cmp c (hd 16 23 _ _ rfl) (tgt := 37) (by decide) (fun (h23 : r.toInt ≤ v22.toInt) => ?_) (fun (h23 : ¬ (r.toInt ≤ v22.toInt)) => hat 26 rfl ?_)
      · skip
        refine h_ic c (hd 24 37 _ _ rfl) (by decide) (fun v37 e37 => hat 38 rfl ?_)
        refine h_isn c (hd 25 38 _ _ rfl) (by decide) (L' := [(3, .int v37), (2, .int (F 18 rr)), (0, .ref (G.2.1.1 20)), (1, .int r)]) (by rfl) (hat 39 rfl ?_)
        refine h_iln c (hd 26 39 _ _ rfl) (by rfl) (hat 40 rfl ?_)
        refine h_bp c (hd 27 40 _ _ rfl) (by decide) (fun v40 e40 => hat 42 rfl ?_)
        refine h_mulR c (hd 28 42 _ _ rfl) e40 (by omega) (fun v42 e42 => hat 43 rfl ?_)
        refine h_is c (hd 29 43 _ _ rfl) (by decide) (L' := [(4, .int v42), (3, .int v37), (2, .int (F 18 rr)), (0, .ref (G.2.1.1 20)), (1, .int r)]) (by rfl) (hat 45 rfl ?_)
        refine h_aln c (hd 30 45 _ _ rfl) (by rfl) (hat 46 rfl ?_)
        refine h_getR c (hd 31 46 _ _ rfl) dfgX7_18 dgnX7_18_20 (hat 49 rfl ?_)
        refine h_il c (hd 32 49 _ _ rfl) (by rfl) (hat 51 rfl ?_)
        refine h_iln c (hd 33 51 _ _ rfl) (by rfl) (hat 52 rfl ?_)
        refine h_iast c (k := (13 * (rr + 1))) (hd 34 52 _ _ rfl) dla19 ⟨by omega, by omega⟩ (by omega) (by decide) (by decide) (dTB_top (by omega) (by omega) _) (hat 53 rfl ?_)
        refine h_ic c (hd 35 53 _ _ rfl) (by decide) (fun v53 e53 => hat 54 rfl ?_)
        refine h_is c (hd 36 54 _ _ rfl) (by decide) (L' := [(5, .int v53), (4, .int v42), (3, .int v37), (2, .int (F 18 rr)), (0, .ref (G.2.1.1 20)), (1, .int r)]) (by rfl) (hat 56 rfl ?_)
        refine h_less (L := [(5, .int v53), (4, .int v42), (3, .int v37), (2, .int (F 18 rr)), (1, .int r), (0, .ref (G.2.1.1 20))]) (by simp) (K56 _ _ _ _ _ (hframe_up (hframe_rf _ _) (by rfl) _) (tOK_up hts.2 (by omega) htab) (fun i hi => ?_) (fun _ => by first | rfl | omega) (by omega) (by omega) (by omega) rfl)
        have e_ : i = 0 := by omega
        subst e_
        show (if 13 * (rr + 1) + 0 = (13 * (rr + 1)) then r else F 19 (13 * (rr + 1) + 0)).toInt = _
        rw [if_pos (by omega), dst_0]
        omega
      · skip
        refine h_aln c (hd 17 26 _ _ rfl) (by rfl) (hat 27 rfl ?_)
        refine h_getR c (hd 18 27 _ _ rfl) dfgX7_15 dgnX7_15_20 (hat 30 rfl ?_)
        refine h_iln c (hd 19 30 _ _ rfl) (by rfl) (hat 31 rfl ?_)
        refine h_ic c (hd 20 31 _ _ rfl) (by decide) (fun v31 e31 => hat 32 rfl ?_)
        refine h_sub c (hd 21 32 _ _ rfl) (by omega) (fun v32 e32 => hat 33 rfl ?_)
        refine h_iald c (hd 22 33 _ _ rfl) dla_18 ⟨by omega, by omega⟩ (by omega) (x := F 18 (rr - 1)) (rfl) (hat 34 rfl ?_)
        refine h_goto c (hd 23 34 _ _ rfl) (tgt := 38) (by decide) ?_
        refine h_isn c (hd 25 38 _ _ rfl) (by decide) (L' := [(3, .int (F 18 (rr - 1))), (2, .int (F 18 rr)), (0, .ref (G.2.1.1 20)), (1, .int r)]) (by rfl) (hat 39 rfl ?_)
        refine h_iln c (hd 26 39 _ _ rfl) (by rfl) (hat 40 rfl ?_)
        refine h_bp c (hd 27 40 _ _ rfl) (by decide) (fun v40 e40 => hat 42 rfl ?_)
        refine h_mulR c (hd 28 42 _ _ rfl) e40 (by omega) (fun v42 e42 => hat 43 rfl ?_)
        refine h_is c (hd 29 43 _ _ rfl) (by decide) (L' := [(4, .int v42), (3, .int (F 18 (rr - 1))), (2, .int (F 18 rr)), (0, .ref (G.2.1.1 20)), (1, .int r)]) (by rfl) (hat 45 rfl ?_)
        refine h_aln c (hd 30 45 _ _ rfl) (by rfl) (hat 46 rfl ?_)
        refine h_getR c (hd 31 46 _ _ rfl) dfgX7_18 dgnX7_18_20 (hat 49 rfl ?_)
        refine h_il c (hd 32 49 _ _ rfl) (by rfl) (hat 51 rfl ?_)
        refine h_iln c (hd 33 51 _ _ rfl) (by rfl) (hat 52 rfl ?_)
        refine h_iast c (k := (13 * (rr + 1))) (hd 34 52 _ _ rfl) dla19 ⟨by omega, by omega⟩ (by omega) (by decide) (by decide) (dTB_top (by omega) (by omega) _) (hat 53 rfl ?_)
        refine h_ic c (hd 35 53 _ _ rfl) (by decide) (fun v53 e53 => hat 54 rfl ?_)
        refine h_is c (hd 36 54 _ _ rfl) (by decide) (L' := [(5, .int v53), (4, .int v42), (3, .int (F 18 (rr - 1))), (2, .int (F 18 rr)), (0, .ref (G.2.1.1 20)), (1, .int r)]) (by rfl) (hat 56 rfl ?_)
        refine h_less (L := [(5, .int v53), (4, .int v42), (3, .int (F 18 (rr - 1))), (2, .int (F 18 rr)), (1, .int r), (0, .ref (G.2.1.1 20))]) (by simp) (K56 _ _ _ _ _ (hframe_up (hframe_rf _ _) (by rfl) _) (tOK_up hts.2 (by omega) htab) (fun i hi => ?_) (fun _ => by first | rfl | omega) (by omega) (by omega) (by omega) rfl)
        have e_ : i = 0 := by omega
        subst e_
        show (if 13 * (rr + 1) + 0 = (13 * (rr + 1)) then r else F 19 (13 * (rr + 1) + 0)).toInt = _
        rw [if_pos (by omega), dst_0]
        omega
    · skip
      exfalso; omega
