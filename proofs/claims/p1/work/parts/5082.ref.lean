/-! FORMS and BUCKET in the reference (printed by wip/p1/h3.py) -/
theorem efgX12_242 : rf_flget flX12 242 = some (12,28,1) := by decide +kernel
theorem egnX12_242_114 : rf_gone wLay 12 28 114 = some (.inl ((0,1,1),none)) := rfl
theorem efgX12_27 : rf_flget flX12 27 = some (12,13,0) := by decide +kernel
theorem egnX12_27_114 : rf_gone wLay 12 13 114 = some (.inr (.inl [75])) := rfl
theorem efgX12_30 : rf_flget flX12 30 = some (12,14,0) := by decide +kernel
theorem egnX12_30_114 : rf_gone wLay 12 14 114 = some (.inr (.inl [76])) := rfl
theorem efgX12_313 : rf_flget flX12 313 = some (12,34,1) := by decide +kernel
theorem egnX12_313_114 : rf_gone wLay 12 34 114 = some (.inl (((-2147483648),2147483647,1),none)) := rfl
theorem efgX12_33 : rf_flget flX12 33 = some (12,15,0) := by decide +kernel
theorem egnX12_33_114 : rf_gone wLay 12 15 114 = some (.inr (.inl [77])) := rfl
theorem efgX12_347 : rf_flget flX12 347 = some (12,48,1) := by decide +kernel
theorem egnX12_347_114 : rf_gone wLay 12 48 114 = some (.inl ((0,64,1),none)) := rfl
theorem efgX12_353 : rf_flget flX12 353 = some (12,39,1) := by decide +kernel
theorem egnX12_353_114 : rf_gone wLay 12 39 114 = some (.inl ((0,64,1),none)) := rfl
theorem efgX12_42 : rf_flget flX12 42 = some (12,18,0) := by decide +kernel
theorem egnX12_42_114 : rf_gone wLay 12 18 114 = some (.inr (.inl [80])) := rfl
theorem efgX12_75 : rf_flget flX12 75 = some (12,36,0) := by decide +kernel
theorem egnX12_75_114 : rf_gone wLay 12 36 114 = some (.inr (.inl [91])) := rfl
theorem efgX12_99 : rf_flget flX12 99 = some (12,47,0) := by decide +kernel
theorem egnX12_99_114 : rf_gone wLay 12 47 114 = some (.inr (.inl [99])) := rfl
theorem ely_114_39 : rf_layr wLay 114 39 = some (0,64,1) := by decide +kernel
theorem ela_75 : rf_arr wLay 0 75 = some (2,[(0,6,1)]) := by decide +kernel
theorem ela_76 : rf_arr wLay 0 76 = some (2,[(0,2,1)]) := by decide +kernel
theorem ela_77 : rf_arr wLay 0 77 = some (2,[(1,31,1),(0,31,1)]) := by decide +kernel
theorem ela_80 : rf_arr wLay 0 80 = some (2,[(0,63,1)]) := by decide +kernel
theorem ela_91 : rf_arr wLay 0 91 = some (64,[((-2147483648),2147483647,1)]) := by decide +kernel
theorem ela_99 : rf_arr wLay 0 99 = some (64,[((-2147483648),2147483647,1)]) := by decide +kernel
def gM_many : rfM := ((⟨"NearSpellModel", "many", "(I)I"⟩, prog_14_method_37_code, 3, (some .int)), (4,200), ([.inl (((-2147483648),2147483647,1),none)],[]), [], [])
def ddEX12_many : List (Nat × Instr × Nat) := [(0,.iconst 0,1),(1,.istore_n 1,1),(2,.iconst 0,1),(3,.istore_n 2,1),(4,.iload_n 2,1),(5,.bipush 14,2),(7,.if_icmp .ge 25,3),(10,.iload_n 1,1),(11,.iload_n 0,1),(12,.iload_n 2,1),(13,.invokestatic 251,3),(16,.ifCond .eq 7,3),(19,.iconst 1,1),(20,.goto 4,3),(23,.iconst 0,1),(24,.iadd,1),(25,.istore_n 1,1),(26,.iinc 2 1,3),(29,.goto (-25),3),(32,.iload_n 1,1),(33,.ireturn,1)]
set_option maxRecDepth 100000 in
theorem dkEX12_many : rf_decs prog_14_method_37_code ddEX12_many := rf_decs_of (by decide +kernel)
set_option maxHeartbeats 8000000 in
set_option maxRecDepth 20000 in
theorem gp_many {G : rfG} (hG : okG G) : h_met G gM_many (fun _ _ => True) (fun vs _ _ rv => ∃ a x : Int32, vs = [.int a] ∧ rv = some (.int x) ∧ x.toInt = (hcb a 14 : Int)) := by
  refine h_metOf hG.1 (by decide +kernel) (by decide) hG.2.2.1 (wflT hG flokX12) (wcsT hG csokX12) ?_
  intro vs w0 X hv_ hr hp c
  match vs, hv_ with
  | [_], ⟨⟨a, rfl, hi_a, _⟩, _⟩ =>
  have hd : ∀ n pc i len, ddEX12_many[n]? = some (pc, i, len) → decode (mb gM_many) pc = .ok (i, len) := fun n pc i len h => hdk dkEX12_many n pc i len h
  show hW G X gM_many w0 0 [(0, .int a)] [] (hv w0)
  generalize hF0 : hv w0 = F at *
  have K4 : ∀ (m : Nat) (w2 w1 : Int32), 0 ≤ w2.toInt → w2.toInt ≤ 14 → w1.toInt = (hcb a w2.toInt.toNat : Int) → m = 14 - w2.toInt.toNat → hW G X gM_many w0 4 [(2, .int w2), (1, .int w1), (0, .int a)] [] F := by
    intro m
    induction m using Nat.strongRecOn with
    | ind m ih =>
    intro w2 w1 h20 h21 h1 hm
    have hc_ := hcb_le a w2.toInt.toNat
    refine h_iln c (hd 4 4 _ _ rfl) (by rfl) (hat 5 rfl ?_)
    refine h_bp c (hd 5 5 _ _ rfl) (by decide) (fun v5 e5 => hat 7 rfl ?_)
    refine h_cmp c (hd 6 7 _ _ rfl) (tgt := 32) (by decide) (fun (h7 : v5.toInt ≤ w2.toInt) => ?_) (fun (h7 : ¬ (v5.toInt ≤ w2.toInt)) => hat 10 rfl ?_)
    · skip
      refine h_iln c (hd 19 32 _ _ rfl) (by rfl) (hat 33 rfl ?_)
      exact h_iret c (hd 20 33 _ _ rfl) rfl ⟨a, _, rfl, rfl, by rw [h1, show w2.toInt.toNat = 14 by omega]⟩
    · skip
      refine h_iln c (hd 7 10 _ _ rfl) (by rfl) (hat 11 rfl ?_)
      refine h_iln c (hd 8 11 _ _ rfl) (by rfl) (hat 12 rfl ?_)
      refine h_iln c (hd 9 12 _ _ rfl) (by rfl) (hat 13 rfl ?_)
      refine h_callSF c (M' := dM_bit) (dp_bit hG) (by decide +kernel) (wlkS (lkX12_251 hG) _ rfl rfl) (hd 10 13 _ _ rfl) [.int a, .int w2] (rest := [.int w1]) (by rfl) ⟨⟨_, rfl, rf_in_top _, trivial⟩, ⟨_, rfl, rf_in1 (by omega) (by omega), trivial⟩, trivial⟩ (Nat.le_of_ble_eq_true rfl) trivial (fun rv13 F13 fr13 rr13 pp13 sm_ => hat 16 rfl ?_)
      have e_ := (sm_ rfl).symm
      subst e_
      obtain ⟨a0_, a1_, x13, ea_, er_, hx13⟩ := pp13
      cases ea_; subst er_
      refine h_if c (hd 11 16 _ _ rfl) (tgt := 23) (by decide) (fun (h16 : x13.toInt = 0) => ?_) (fun (h16 : ¬ (x13.toInt = 0)) => hat 19 rfl ?_)
      · skip
        refine h_ic c (hd 14 23 _ _ rfl) (by decide) (fun v23 e23 => hat 24 rfl ?_)
        refine h_add c (hd 15 24 _ _ rfl) (by omega) (fun v24 e24 => hat 25 rfl ?_)
        refine h_isn c (hd 16 25 _ _ rfl) (by decide) (L' := [(1, .int v24), (2, .int w2), (0, .int a)]) (by rfl) (hat 26 rfl ?_)
        refine h_inc c (fun r_ => [(2, .int r_), (1, .int v24), (0, .int a)]) (hd 17 26 _ _ rfl) (by decide) (by decide) (by rfl) (by omega) (fun _ => by rfl) (fun v26 e26 => hat 29 rfl ?_)
        refine h_goto c (hd 18 29 _ _ rfl) (tgt := 4) (by decide) ?_
        have q_ : hcb a (w2.toInt.toNat + 1) = hcb a w2.toInt.toNat := hcb_f (by rcases hx13 with h_ | h_; omega; exact h_.2)
        refine h_less (L := [(2, .int v26), (1, .int v24), (0, .int a)]) (by simp) (ih (14 - v26.toInt.toNat) (by omega) _ _ (by omega) (by omega) ?_ rfl)
        rw [show v26.toInt.toNat = w2.toInt.toNat + 1 by omega, q_]
        omega
      · skip
        refine h_ic c (hd 12 19 _ _ rfl) (by decide) (fun v19 e19 => hat 20 rfl ?_)
        refine h_goto c (hd 13 20 _ _ rfl) (tgt := 24) (by decide) ?_
        refine h_add c (hd 15 24 _ _ rfl) (by omega) (fun v24 e24 => hat 25 rfl ?_)
        refine h_isn c (hd 16 25 _ _ rfl) (by decide) (L' := [(1, .int v24), (2, .int w2), (0, .int a)]) (by rfl) (hat 26 rfl ?_)
        refine h_inc c (fun r_ => [(2, .int r_), (1, .int v24), (0, .int a)]) (hd 17 26 _ _ rfl) (by decide) (by decide) (by rfl) (by omega) (fun _ => by rfl) (fun v26 e26 => hat 29 rfl ?_)
        refine h_goto c (hd 18 29 _ _ rfl) (tgt := 4) (by decide) ?_
        have q_ : hcb a (w2.toInt.toNat + 1) = hcb a w2.toInt.toNat + 1 := hcb_t (by rcases hx13 with h_ | h_; exact h_.2; omega)
        refine h_less (L := [(2, .int v26), (1, .int v24), (0, .int a)]) (by simp) (ih (14 - v26.toInt.toNat) (by omega) _ _ (by omega) (by omega) ?_ rfl)
        rw [show v26.toInt.toNat = w2.toInt.toNat + 1 by omega, q_]
        omega
  refine h_ic c (hd 0 0 _ _ rfl) (by decide) (fun v0 e0 => hat 1 rfl ?_)
  refine h_isn c (hd 1 1 _ _ rfl) (by decide) (L' := [(1, .int v0), (0, .int a)]) (by rfl) (hat 2 rfl ?_)
  refine h_ic c (hd 2 2 _ _ rfl) (by decide) (fun v2 e2 => hat 3 rfl ?_)
  refine h_isn c (hd 3 3 _ _ rfl) (by decide) (L' := [(2, .int v2), (1, .int v0), (0, .int a)]) (by rfl) (hat 4 rfl ?_)
  exact h_less (L := [(2, .int v2), (1, .int v0), (0, .int a)]) (by simp) (K4 _ _ _ (by omega) (by omega) (by rw [show v2.toInt.toNat = 0 by omega]; show _ = ((0 : Nat) : Int); omega) rfl)
def gM_ins : rfM := ((⟨"NearSpellModel", "insertForm", "(I)V"⟩, prog_14_method_49_code, 4, none), (2,100), ([.inr (.inl [114]), .inl ((0,531440,1),none)],[]), [(91,0),(114,40)], [])
def ddEX12_insertForm : List (Nat × Instr × Nat) := [(0,.aload_n 0,1),(1,.getfield 353,3),(4,.istore_n 2,1),(5,.iload_n 2,1),(6,.ifCond .le 21,3),(9,.aload_n 0,1),(10,.getfield 75,3),(13,.iload_n 2,1),(14,.iconst 1,1),(15,.isub,1),(16,.iaload,1),(17,.iload_n 1,1),(18,.if_icmp .lt 9,3),(21,.iinc 2 (-1),3),(24,.goto (-19),3),(27,.iload_n 2,1),(28,.aload_n 0,1),(29,.getfield 353,3),(32,.if_icmp .ge 14,3),(35,.aload_n 0,1),(36,.getfield 75,3),(39,.iload_n 2,1),(40,.iaload,1),(41,.iload_n 1,1),(42,.if_icmp .ne 4,3),(45,.return_,1),(46,.aload_n 0,1),(47,.getfield 353,3),(50,.istore_n 3,1),(51,.iload_n 3,1),(52,.iload_n 2,1),(53,.if_icmp .le 23,3),(56,.aload_n 0,1),(57,.getfield 75,3),(60,.iload_n 3,1),(61,.aload_n 0,1),(62,.getfield 75,3),(65,.iload_n 3,1),(66,.iconst 1,1),(67,.isub,1),(68,.iaload,1),(69,.iastore,1),(70,.iinc 3 (-1),3),(73,.goto (-22),3),(76,.aload_n 0,1),(77,.getfield 75,3),(80,.iload_n 2,1),(81,.iload_n 1,1),(82,.iastore,1),(83,.aload_n 0,1),(84,.dup,1),(85,.getfield 353,3),(88,.iconst 1,1),(89,.iadd,1),(90,.putfield 353,3),(93,.return_,1)]
set_option maxRecDepth 100000 in
theorem dkEX12_insertForm : rf_decs prog_14_method_49_code ddEX12_insertForm := rf_decs_of (by decide +kernel)
set_option maxHeartbeats 8000000 in
set_option maxRecDepth 20000 in
theorem gp_ins {G : rfG} (hG : okG G) : h_met G gM_ins (fun _ F => (F 114 39).toInt ≤ 60 ∧ rOK 91 114 39 F) (fun vs F F' rv => rv = none ∧ ∃ a : Int32, vs[1]? = some (.int a) ∧ rIns 91 114 39 F F' a.toInt) := by
  refine h_metOf hG.1 (by decide +kernel) (by decide) hG.2.2.1 (wflT hG flokX12) (wcsT hG csokX12) ?_
  intro vs w0 X hv_ hr hp c
  match vs, hv_ with
  | [_, _], ⟨⟨_, hj0, rfl⟩, ⟨a, rfl, hi_a, _⟩, _⟩ =>
  cases List.mem_singleton.mp hj0
  have hd : ∀ n pc i len, ddEX12_insertForm[n]? = some (pc, i, len) → decode (mb gM_ins) pc = .ok (i, len) := fun n pc i len h => hdk dkEX12_insertForm n pc i len h
  show hW G X gM_ins w0 0 [(0, .ref (G.2.1.1 114)), (1, .int a)] [] (hv w0)
  generalize hF0 : hv w0 = F at *
  obtain ⟨hsz, hso⟩ := hp
  have hs0 : 0 ≤ (F 114 39).toInt := (hrg hr ely_114_39).1
  have KE : ∀ (w3 w2 : Int32) (F1 : HF), hframe [(91, 0)] F F1 → 0 ≤ w2.toInt → w2.toInt ≤ (F 114 39).toInt → (∀ k : Nat, (k : Int) < w2.toInt → (F 91 k).toInt < a.toInt) → (∀ k : Nat, w2.toInt ≤ (k : Int) → (k : Int) < (F 114 39).toInt → a.toInt < (F 91 k).toInt) → (∀ k : Nat, (k : Int) < w2.toInt → F1 91 k = F 91 k) → (∀ k : Nat, w2.toInt < (k : Int) → (k : Int) ≤ (F 114 39).toInt → F1 91 k = F 91 (k - 1)) → hW G X gM_ins w0 76 [(3, .int w3), (2, .int w2), (1, .int a), (0, .ref (G.2.1.1 114))] [] F1 := by
    intro w3 w2 F1 fr1 h20 h21 hlt hgt hu1 hu2
    refine h_aln c (hd 44 76 _ _ rfl) (by rfl) (hat 77 rfl ?_)
    refine h_getR c (hd 45 77 _ _ rfl) efgX12_75 egnX12_75_114 (hat 80 rfl ?_)
    refine h_iln c (hd 46 80 _ _ rfl) (by rfl) (hat 81 rfl ?_)
    refine h_iln c (hd 47 81 _ _ rfl) (by rfl) (hat 82 rfl ?_)
    refine h_iast c (k := w2.toInt.toNat) (hd 48 82 _ _ rfl) ela_91 ⟨by omega, by omega⟩ (by omega) (by decide) (by decide) (hin1 (rf_in_top _)) (hat 83 rfl ?_)
    refine h_aln c (hd 49 83 _ _ rfl) (by rfl) (hat 84 rfl ?_)
    refine h_dup c (hd 50 84 _ _ rfl) (by rfl) (hat 85 rfl ?_)
    refine h_getI c (hd 51 85 _ _ rfl) efgX12_353 egnX12_353_114 (x := F 114 39) (fr1 114 39 (by decide) (by rfl)) (hat 88 rfl ?_)
    refine h_ic c (hd 52 88 _ _ rfl) (by decide) (fun v88 e88 => hat 89 rfl ?_)
    refine h_add c (hd 53 89 _ _ rfl) (by omega) (fun v89 e89 => hat 90 rfl ?_)
    refine h_putI c (hd 54 90 _ _ rfl) efgX12_353 egnX12_353_114 (by decide) (by decide) rfl (rf_in1 (by omega) (by omega)) (hat 93 rfl ?_)
    refine h_vret c (hd 55 93 _ _ rfl) rfl ⟨rfl, a, rfl, rIns_new (p := w2.toInt.toNat) hso hs0 (show v89.toInt = _ by omega) (by omega) (fun k hk => hlt k (by omega)) (fun k h1 h2 => hgt k (by omega) h2) (fun k hk => ?_) ?_ (fun k h1 h2 => ?_)⟩
    · show (if k = w2.toInt.toNat then a else F1 91 k).toInt = _
      rw [if_neg (by omega), hu1 k (by omega)]
    · show (if w2.toInt.toNat = w2.toInt.toNat then a else F1 91 w2.toInt.toNat).toInt = _
      rw [if_pos (by omega)]
    · show (if k = w2.toInt.toNat then a else F1 91 k).toInt = _
      rw [if_neg (by omega), hu2 k (by omega) h2]
  have KS : ∀ (m : Nat) (w3 w2 : Int32) (F1 : HF), hframe [(91, 0)] F F1 → 0 ≤ w2.toInt → w2.toInt ≤ w3.toInt → w3.toInt ≤ (F 114 39).toInt → (∀ k : Nat, (k : Int) < w2.toInt → (F 91 k).toInt < a.toInt) → (∀ k : Nat, w2.toInt ≤ (k : Int) → (k : Int) < (F 114 39).toInt → a.toInt < (F 91 k).toInt) → (∀ k : Nat, (k : Int) < w3.toInt → F1 91 k = F 91 k) → (∀ k : Nat, w3.toInt < (k : Int) → (k : Int) ≤ (F 114 39).toInt → F1 91 k = F 91 (k - 1)) → m = w3.toInt.toNat → hW G X gM_ins w0 51 [(3, .int w3), (2, .int w2), (1, .int a), (0, .ref (G.2.1.1 114))] [] F1 := by
    intro m
    induction m using Nat.strongRecOn with
    | ind m ih =>
    intro w3 w2 F1 fr1 h20 h21 h22 hlt hgt hu1 hu2 hm
    refine h_iln c (hd 29 51 _ _ rfl) (by rfl) (hat 52 rfl ?_)
    refine h_iln c (hd 30 52 _ _ rfl) (by rfl) (hat 53 rfl ?_)
    refine h_cmp c (hd 31 53 _ _ rfl) (tgt := 76) (by decide) (fun (h53 : w3.toInt ≤ w2.toInt) => ?_) (fun (h53 : ¬ (w3.toInt ≤ w2.toInt)) => hat 56 rfl ?_)
    · skip
      exact h_less (L := [(3, .int w3), (2, .int w2), (1, .int a), (0, .ref (G.2.1.1 114))]) (by simp) (KE _ w2 _ fr1 h20 (by omega) hlt hgt (fun k hk => hu1 k (by omega)) (fun k h1 h2 => hu2 k (by omega) h2))
    · skip
      refine h_aln c (hd 32 56 _ _ rfl) (by rfl) (hat 57 rfl ?_)
      refine h_getR c (hd 33 57 _ _ rfl) efgX12_75 egnX12_75_114 (hat 60 rfl ?_)
      refine h_iln c (hd 34 60 _ _ rfl) (by rfl) (hat 61 rfl ?_)
      refine h_aln c (hd 35 61 _ _ rfl) (by rfl) (hat 62 rfl ?_)
      refine h_getR c (hd 36 62 _ _ rfl) efgX12_75 egnX12_75_114 (hat 65 rfl ?_)
      refine h_iln c (hd 37 65 _ _ rfl) (by rfl) (hat 66 rfl ?_)
      refine h_ic c (hd 38 66 _ _ rfl) (by decide) (fun v66 e66 => hat 67 rfl ?_)
      refine h_sub c (hd 39 67 _ _ rfl) (by omega) (fun v67 e67 => hat 68 rfl ?_)
      refine h_iald c (hd 40 68 _ _ rfl) ela_91 ⟨by omega, by omega⟩ (by omega) (x := F1 91 (w3.toInt.toNat - 1)) (rfl) (hat 69 rfl ?_)
      refine h_iast c (k := w3.toInt.toNat) (hd 41 69 _ _ rfl) ela_91 ⟨by omega, by omega⟩ (by omega) (by decide) (by decide) (hin1 (rf_in_top _)) (hat 70 rfl ?_)
      refine h_inc c (fun r_ => [(3, .int r_), (2, .int w2), (1, .int a), (0, .ref (G.2.1.1 114))]) (hd 42 70 _ _ rfl) (by decide) (by decide) (by rfl) (by omega) (fun _ => by rfl) (fun v70 e70 => hat 73 rfl ?_)
      refine h_goto c (hd 43 73 _ _ rfl) (tgt := 51) (by decide) ?_
      refine h_less (L := [(3, .int v70), (2, .int w2), (1, .int a), (0, .ref (G.2.1.1 114))]) (by simp) (ih v70.toInt.toNat (by omega) _ w2 _ (hframe_up fr1 (by rfl) _) h20 (by omega) (by omega) hlt hgt (fun k hk => ?_) (fun k h1 h2 => ?_) (by omega))
      · show (if k = w3.toInt.toNat then (F1 91 (w3.toInt.toNat - 1)) else F1 91 k) = _
        rw [if_neg (by omega)]; exact hu1 k (by omega)
      · show (if k = w3.toInt.toNat then (F1 91 (w3.toInt.toNat - 1)) else F1 91 k) = _
        by_cases e_ : k = w3.toInt.toNat
        · rw [if_pos e_, e_]; exact hu1 _ (by omega)
        · rw [if_neg e_]; exact hu2 k (by omega) h2
  have KB : ∀ (w2 : Int32), 0 ≤ w2.toInt → w2.toInt ≤ (F 114 39).toInt → (∀ k : Nat, w2.toInt ≤ (k : Int) → (k : Int) < (F 114 39).toInt → a.toInt ≤ (F 91 k).toInt) → (0 < w2.toInt → (F 91 (w2.toInt.toNat - 1)).toInt < a.toInt) → hW G X gM_ins w0 27 [(2, .int w2), (1, .int a), (0, .ref (G.2.1.1 114))] [] F := by
    intro w2 h20 h21 hg0 hx0
    refine h_iln c (hd 15 27 _ _ rfl) (by rfl) (hat 28 rfl ?_)
    refine h_aln c (hd 16 28 _ _ rfl) (by rfl) (hat 29 rfl ?_)
    refine h_getI c (hd 17 29 _ _ rfl) efgX12_353 egnX12_353_114 (x := F 114 39) (rfl) (hat 32 rfl ?_)
    refine h_cmp c (hd 18 32 _ _ rfl) (tgt := 46) (by decide) (fun (h32 : (F 114 39).toInt ≤ w2.toInt) => ?_) (fun (h32 : ¬ ((F 114 39).toInt ≤ w2.toInt)) => hat 35 rfl ?_)
    · skip
      refine h_aln c (hd 26 46 _ _ rfl) (by rfl) (hat 47 rfl ?_)
      refine h_getI c (hd 27 47 _ _ rfl) efgX12_353 egnX12_353_114 (x := F 114 39) (rfl) (hat 50 rfl ?_)
      refine h_isn c (hd 28 50 _ _ rfl) (by decide) (L' := [(3, .int (F 114 39)), (2, .int w2), (1, .int a), (0, .ref (G.2.1.1 114))]) (by rfl) (hat 51 rfl ?_)
      have hle_ : ∀ k : Nat, (k : Int) < w2.toInt → (F 91 k).toInt ≤ (F 91 (w2.toInt.toNat - 1)).toInt := fun k hk => by
        by_cases e_ : k = w2.toInt.toNat - 1
        · rw [e_]; exact Int.le_refl _
        · exact Int.le_of_lt (hso k (w2.toInt.toNat - 1) (by omega) (by omega))
      exact h_less (L := [(3, .int (F 114 39)), (2, .int w2), (1, .int a), (0, .ref (G.2.1.1 114))]) (by simp) (KS _ _ w2 _ (hframe_rf _ _) h20 (by omega) (Int.le_refl _) (fun k hk => by have q1_ := hle_ k hk; have q2_ := hx0 (by omega); omega) (fun k h1 h2 => by exfalso; omega) (fun _ _ => rfl) (fun k h1 h2 => by exfalso; omega) rfl)
    · skip
      refine h_aln c (hd 19 35 _ _ rfl) (by rfl) (hat 36 rfl ?_)
      refine h_getR c (hd 20 36 _ _ rfl) efgX12_75 egnX12_75_114 (hat 39 rfl ?_)
      refine h_iln c (hd 21 39 _ _ rfl) (by rfl) (hat 40 rfl ?_)
      refine h_iald c (hd 22 40 _ _ rfl) ela_91 ⟨by omega, by omega⟩ (by omega) (x := F 91 w2.toInt.toNat) (rfl) (hat 41 rfl ?_)
      refine h_iln c (hd 23 41 _ _ rfl) (by rfl) (hat 42 rfl ?_)
      refine h_cmp c (hd 24 42 _ _ rfl) (tgt := 46) (by decide) (fun (h42 : (F 91 w2.toInt.toNat).toInt ≠ a.toInt) => ?_) (fun (h42 : ¬ ((F 91 w2.toInt.toNat).toInt ≠ a.toInt)) => hat 45 rfl ?_)
      · skip
        refine h_aln c (hd 26 46 _ _ rfl) (by rfl) (hat 47 rfl ?_)
        refine h_getI c (hd 27 47 _ _ rfl) efgX12_353 egnX12_353_114 (x := F 114 39) (rfl) (hat 50 rfl ?_)
        refine h_isn c (hd 28 50 _ _ rfl) (by decide) (L' := [(3, .int (F 114 39)), (2, .int w2), (1, .int a), (0, .ref (G.2.1.1 114))]) (by rfl) (hat 51 rfl ?_)
        have hle_ : ∀ k : Nat, (k : Int) < w2.toInt → (F 91 k).toInt ≤ (F 91 (w2.toInt.toNat - 1)).toInt := fun k hk => by
          by_cases e_ : k = w2.toInt.toNat - 1
          · rw [e_]; exact Int.le_refl _
          · exact Int.le_of_lt (hso k (w2.toInt.toNat - 1) (by omega) (by omega))
        have hge_ : a.toInt < (F 91 w2.toInt.toNat).toInt := by have q_ := hg0 w2.toInt.toNat (by omega) (by omega); omega
        exact h_less (L := [(3, .int (F 114 39)), (2, .int w2), (1, .int a), (0, .ref (G.2.1.1 114))]) (by simp) (KS _ _ w2 _ (hframe_rf _ _) h20 (by omega) (Int.le_refl _) (fun k hk => by have q1_ := hle_ k hk; have q2_ := hx0 (by omega); omega) (fun k h1 h2 => by by_cases e_ : k = w2.toInt.toNat; (· rw [e_]; exact hge_); exact Int.lt_trans hge_ (hso w2.toInt.toNat k (by omega) (by omega))) (fun _ _ => rfl) (fun k h1 h2 => by exfalso; omega) rfl)
      · skip
        exact h_vret c (hd 25 45 _ _ rfl) rfl ⟨rfl, a, rfl, rIns_old (p := w2.toInt.toNat) hso (by omega) (by omega)⟩
  have K5 : ∀ (m : Nat) (w2 : Int32), 0 ≤ w2.toInt → w2.toInt ≤ (F 114 39).toInt → (∀ k : Nat, w2.toInt ≤ (k : Int) → (k : Int) < (F 114 39).toInt → a.toInt ≤ (F 91 k).toInt) → m = w2.toInt.toNat → hW G X gM_ins w0 5 [(2, .int w2), (1, .int a), (0, .ref (G.2.1.1 114))] [] F := by
    intro m
    induction m using Nat.strongRecOn with
    | ind m ih =>
    intro w2 h20 h21 hg0 hm
    refine h_iln c (hd 3 5 _ _ rfl) (by rfl) (hat 6 rfl ?_)
    refine h_if c (hd 4 6 _ _ rfl) (tgt := 27) (by decide) (fun (h6 : w2.toInt ≤ 0) => ?_) (fun (h6 : ¬ (w2.toInt ≤ 0)) => hat 9 rfl ?_)
    · skip
      exact h_less (L := [(2, .int w2), (1, .int a), (0, .ref (G.2.1.1 114))]) (by simp) (KB w2 h20 h21 hg0 (fun q_ => by omega))
    · skip
      refine h_aln c (hd 5 9 _ _ rfl) (by rfl) (hat 10 rfl ?_)
      refine h_getR c (hd 6 10 _ _ rfl) efgX12_75 egnX12_75_114 (hat 13 rfl ?_)
      refine h_iln c (hd 7 13 _ _ rfl) (by rfl) (hat 14 rfl ?_)
      refine h_ic c (hd 8 14 _ _ rfl) (by decide) (fun v14 e14 => hat 15 rfl ?_)
      refine h_sub c (hd 9 15 _ _ rfl) (by omega) (fun v15 e15 => hat 16 rfl ?_)
      refine h_iald c (hd 10 16 _ _ rfl) ela_91 ⟨by omega, by omega⟩ (by omega) (x := F 91 (w2.toInt.toNat - 1)) (rfl) (hat 17 rfl ?_)
      refine h_iln c (hd 11 17 _ _ rfl) (by rfl) (hat 18 rfl ?_)
      refine h_cmp c (hd 12 18 _ _ rfl) (tgt := 27) (by decide) (fun (h18 : (F 91 (w2.toInt.toNat - 1)).toInt < a.toInt) => ?_) (fun (h18 : ¬ ((F 91 (w2.toInt.toNat - 1)).toInt < a.toInt)) => hat 21 rfl ?_)
      · skip
        exact h_less (L := [(2, .int w2), (1, .int a), (0, .ref (G.2.1.1 114))]) (by simp) (KB w2 h20 h21 hg0 (fun q_ => by omega))
      · skip
        refine h_inc c (fun r_ => [(2, .int r_), (1, .int a), (0, .ref (G.2.1.1 114))]) (hd 13 21 _ _ rfl) (by decide) (by decide) (by rfl) (by omega) (fun _ => by rfl) (fun v21 e21 => hat 24 rfl ?_)
        refine h_goto c (hd 14 24 _ _ rfl) (tgt := 5) (by decide) ?_
        exact h_less (L := [(2, .int v21), (1, .int a), (0, .ref (G.2.1.1 114))]) (by simp) (ih v21.toInt.toNat (by omega) _ (by omega) (by omega) (fun k h1 h2 => by by_cases e_ : k = w2.toInt.toNat - 1; (· rw [e_]; omega); exact hg0 k (by omega) h2) rfl)
  refine h_aln c (hd 0 0 _ _ rfl) (by rfl) (hat 1 rfl ?_)
  refine h_getI c (hd 1 1 _ _ rfl) efgX12_353 egnX12_353_114 (x := F 114 39) (rfl) (hat 4 rfl ?_)
  refine h_isn c (hd 2 4 _ _ rfl) (by decide) (L' := [(2, .int (F 114 39)), (0, .ref (G.2.1.1 114)), (1, .int a)]) (by rfl) (hat 5 rfl ?_)
  exact h_less (L := [(2, .int (F 114 39)), (1, .int a), (0, .ref (G.2.1.1 114))]) (by simp) (K5 _ _ hs0 (Int.le_refl _) (fun k h1 h2 => by exfalso; omega) rfl)
def gM_lay : rfM := ((⟨"NearSpellModel", "layForms", "(II)V"⟩, prog_14_method_50_code, 8, none), (8,400), ([.inr (.inl [114]), .inl ((0,387420488,1),none), .inl ((2,2,1),none)],[]), [(91,0),(114,40)], [])
def ddEX12_layForms : List (Nat × Instr × Nat) := [(0,.iload_n 1,1),(1,.aload_n 0,1),(2,.getfield 27,3),(5,.aload_n 0,1),(6,.getfield 242,3),(9,.iaload,1),(10,.invokestatic 322,3),(13,.istore_n 3,1),(14,.iload_n 3,1),(15,.invokestatic 319,3),(18,.istore 4,2),(20,.aload_n 0,1),(21,.iconst 0,1),(22,.putfield 353,3),(25,.iconst 0,1),(26,.istore 5,2),(28,.iload 5,2),(30,.iconst 1,1),(31,.iload 4,2),(33,.ishl,1),(34,.if_icmp .ge 73,3),(37,.iload 4,2),(39,.iload 5,2),(41,.invokestatic 356,3),(44,.isub,1),(45,.iload_n 2,1),(46,.if_icmp .le 6,3),(49,.goto 52,3),(52,.iconst 0,1),(53,.istore 6,2),(55,.iconst 0,1),(56,.istore 7,2),(58,.iload 7,2),(60,.iload 4,2),(62,.if_icmp .ge 33,3),(65,.iload 5,2),(67,.iload 7,2),(69,.invokestatic 251,3),(72,.ifCond .eq 17,3),(75,.bipush 27,2),(77,.iload 6,2),(79,.imul,1),(80,.iload_n 3,1),(81,.iload 7,2),(83,.invokestatic 359,3),(86,.iadd,1),(87,.istore 6,2),(89,.iinc 7 1,3),(92,.goto (-34),3),(95,.aload_n 0,1),(96,.iload 6,2),(98,.invokevirtual 362,3),(101,.iinc 5 1,3),(104,.goto (-76),3),(107,.return_,1)]
set_option maxRecDepth 100000 in
theorem dkEX12_layForms : rf_decs prog_14_method_50_code ddEX12_layForms := rf_decs_of (by decide +kernel)
set_option maxHeartbeats 8000000 in
set_option maxRecDepth 20000 in
theorem gp_lay {G : rfG} (hG : okG G) : h_met G gM_lay (fun _ F => (F 114 28).toInt = 0 ∧ (F 75 0).toInt = 4) (fun vs F F' rv => rv = none ∧ ∃ a : Int32, vs[1]? = some (.int a) ∧ (F' 114 39).toInt ≤ 16 ∧ rOK 91 114 39 F' ∧ ∀ x, rM 91 114 39 F' x ↔ sA (dvn a.toInt (lenI a.toInt - 4)) x) := by
  refine h_metOf hG.1 (by decide +kernel) (by decide) hG.2.2.1 (wflT hG flokX12) (wcsT hG csokX12) ?_
  intro vs w0 X hv_ hr hp c
  match vs, hv_ with
  | [_, _, _], ⟨⟨_, hj0, rfl⟩, ⟨a, rfl, hi_a, _⟩, ⟨e, rfl, hi_e, _⟩, _⟩ =>
  cases List.mem_singleton.mp hj0
  have hd : ∀ n pc i len, ddEX12_layForms[n]? = some (pc, i, len) → decode (mb gM_lay) pc = .ok (i, len) := fun n pc i len h => hdk dkEX12_layForms n pc i len h
  show hW G X gM_lay w0 0 [(0, .ref (G.2.1.1 114)), (1, .int a), (2, .int e)] [] (hv w0)
  generalize hF0 : hv w0 = F at *
  obtain ⟨hbk, hpf⟩ := hp
  have ha : 0 ≤ a.toInt ∧ a.toInt ≤ 387420488 := ⟨hi_a.1, hi_a.2.1⟩
  have he : e.toInt = 2 := by have h1 : 2 ≤ e.toInt := hi_e.1; have h2 : e.toInt ≤ 2 := hi_e.2.1; omega
  have hd4 := dvn4 ha.1 ha.2
  have K28 : ∀ (b3 n4 : Int32), b3.toInt = dvn a.toInt (lenI a.toInt - 4) → n4.toInt = (lenI b3.toInt : Int) → ∀ (m : Nat) (w5 : Int32) (F1 : HF), hframe [(91, 0), (114, 40)] F F1 → 0 ≤ w5.toInt → w5.toInt ≤ ((2 ^ lenI b3.toInt : Nat) : Int) → (F1 114 39).toInt ≤ w5.toInt → rOK 91 114 39 F1 → (∀ x, rM 91 114 39 F1 x ↔ sM b3.toInt (lenI b3.toInt) w5.toInt.toNat x) → m = 16 - w5.toInt.toNat → hW G X gM_lay w0 28 [(5, .int w5), (4, .int n4), (3, .int b3), (2, .int e), (1, .int a), (0, .ref (G.2.1.1 114))] [] F1 := by
    intro b3 n4 hb3 hn4
    have hb0 : 0 ≤ b3.toInt := by omega
    have hb1 : b3.toInt ≤ 531440 := by omega
    have hb4 := lenI4 (w := b3.toInt) (by omega)
    have hpw := pow_le16 hb4
    intro m
    induction m using Nat.strongRecOn with
    | ind m ih =>
    intro w5 F1 fr1 h50 h51 hz1 ho1 hI1 hm
    obtain ⟨s_, hs32, hws_, hsn⟩ := h_nI (k := w5) h50 (by omega)
    have hws : w5 = nI w5.toInt.toNat := by rw [hsn]; exact hws_
    have hcl := hcb_le w5 14
    refine h_il c (hd 16 28 _ _ rfl) (by rfl) (hat 30 rfl ?_)
    refine h_ic c (hd 17 30 _ _ rfl) (by decide) (fun v30 e30 => hat 31 rfl ?_)
    refine h_il c (hd 18 31 _ _ rfl) (by rfl) (hat 33 rfl ?_)
    refine h_shl c (hd 19 33 _ _ rfl) (hat 34 rfl ?_)
    have hsv := shl_val (e := n4) (v := v30) (by omega) (by omega) e30
    rw [show n4.toInt.toNat = lenI b3.toInt by omega] at hsv
    refine h_cmp c (hd 20 34 _ _ rfl) (tgt := 107) (by decide) (fun (h34 : (v30 <<< (n4 &&& 31)).toInt ≤ w5.toInt) => ?_) (fun (h34 : ¬ ((v30 <<< (n4 &&& 31)).toInt ≤ w5.toInt)) => hat 37 rfl ?_)
    · skip
      have hp_ := pow_le16 hb4
      refine h_vret c (hd 54 107 _ _ rfl) rfl ⟨rfl, a, rfl, by omega, ho1, fun x => ?_⟩
      rw [hI1 x, show w5.toInt.toNat = 2 ^ lenI b3.toInt by omega, ← hb3, ← sets hb0 (by omega) x]
    · skip
      refine h_il c (hd 21 37 _ _ rfl) (by rfl) (hat 39 rfl ?_)
      refine h_il c (hd 22 39 _ _ rfl) (by rfl) (hat 41 rfl ?_)
      refine h_callSF c (M' := gM_many) (gp_many hG) (by decide +kernel) (wlkS (lkX12_356 hG) _ rfl rfl) (hd 23 41 _ _ rfl) [.int w5] (rest := [.int n4]) (by rfl) ⟨⟨_, rfl, rf_in_top _, trivial⟩, trivial⟩ (Nat.le_of_ble_eq_true rfl) trivial (fun rv41 F41 fr41 rr41 pp41 sm_ => hat 44 rfl ?_)
      have e_ := (sm_ rfl).symm
      subst e_
      obtain ⟨a0_, x41, ea_, er_, hx41⟩ := pp41
      cases ea_; subst er_
      refine h_sub c (hd 24 44 _ _ rfl) (by omega) (fun v44 e44 => hat 45 rfl ?_)
      refine h_iln c (hd 25 45 _ _ rfl) (by rfl) (hat 46 rfl ?_)
      refine h_cmp c (hd 26 46 _ _ rfl) (tgt := 52) (by decide) (fun (h46 : v44.toInt ≤ e.toInt) => ?_) (fun (h46 : ¬ (v44.toInt ≤ e.toInt)) => hat 49 rfl ?_)
      · skip
        refine h_ic c (hd 28 52 _ _ rfl) (by decide) (fun v52 e52 => hat 53 rfl ?_)
        refine h_is c (hd 29 53 _ _ rfl) (by decide) (L' := [(6, .int v52), (5, .int w5), (4, .int n4), (3, .int b3), (2, .int e), (1, .int a), (0, .ref (G.2.1.1 114))]) (by rfl) (hat 55 rfl ?_)
        refine h_ic c (hd 30 55 _ _ rfl) (by decide) (fun v55 e55 => hat 56 rfl ?_)
        refine h_is c (hd 31 56 _ _ rfl) (by decide) (L' := [(7, .int v55), (6, .int v52), (5, .int w5), (4, .int n4), (3, .int b3), (2, .int e), (1, .int a), (0, .ref (G.2.1.1 114))]) (by rfl) (hat 58 rfl ?_)
        have hcnt : (lenI b3.toInt : Int) - (hcb w5 14 : Int) ≤ 2 := by omega
        have K58 : ∀ (m7 : Nat) (w7 w6 : Int32), 0 ≤ w7.toInt → w7.toInt ≤ (lenI b3.toInt : Int) → w6.toInt = sbv b3.toInt w5 w7.toInt.toNat → m7 = lenI b3.toInt - w7.toInt.toNat → hW G X gM_lay w0 58 [(7, .int w7), (6, .int w6), (5, .int w5), (4, .int n4), (3, .int b3), (2, .int e), (1, .int a), (0, .ref (G.2.1.1 114))] [] F1 := by
          intro m7
          induction m7 using Nat.strongRecOn with
          | ind m7 ih7 =>
          intro w7 w6 h70 h71 h6 hm7
          have hsb := sbv_b (w := b3.toInt) (s := w5) (k := w7.toInt.toNat) (by omega)
          have hlt_ := ltI_in b3.toInt w7.toInt.toNat
          refine h_il c (hd 32 58 _ _ rfl) (by rfl) (hat 60 rfl ?_)
          refine h_il c (hd 33 60 _ _ rfl) (by rfl) (hat 62 rfl ?_)
          refine h_cmp c (hd 34 62 _ _ rfl) (tgt := 95) (by decide) (fun (h62 : n4.toInt ≤ w7.toInt) => ?_) (fun (h62 : ¬ (n4.toInt ≤ w7.toInt)) => hat 65 rfl ?_)
          · skip
            refine h_aln c (hd 49 95 _ _ rfl) (by rfl) (hat 96 rfl ?_)
            refine h_il c (hd 50 96 _ _ rfl) (by rfl) (hat 98 rfl ?_)
            refine h_callVF c (M' := gM_ins) (gp_ins hG) (by decide +kernel) (wlkV (lkX12_362 hG) _ rfl rfl) (j := 114) (by decide +kernel) (hd 51 98 _ _ rfl) [.int w6] (rest := []) (by rfl) ⟨⟨114, by decide, rfl⟩, ⟨_, rfl, rf_in1 (by omega) (by omega), trivial⟩, trivial⟩ (Nat.le_of_ble_eq_true rfl) ⟨by omega, ho1⟩ (fun rv98 F98 fr98 rr98 pp98 sm_ => hat 101 rfl ?_)
            obtain ⟨er_, a_, ea_, hi98⟩ := pp98
            subst er_; cases ea_
            refine h_inc c (fun r_ => [(5, .int r_), (7, .int w7), (6, .int w6), (4, .int n4), (3, .int b3), (2, .int e), (1, .int a), (0, .ref (G.2.1.1 114))]) (hd 52 101 _ _ rfl) (by decide) (by decide) (by rfl) (by omega) (fun _ => by rfl) (fun v101 e101 => hat 104 rfl ?_)
            refine h_goto c (hd 53 104 _ _ rfl) (tgt := 28) (by decide) ?_
            refine h_less (L := [(5, .int v101), (4, .int n4), (3, .int b3), (2, .int e), (1, .int a), (0, .ref (G.2.1.1 114))]) (by simp) (ih (16 - v101.toInt.toNat) (by omega) _ _ (hframe_tr fr1 fr98 (by decide)) (by omega) (by omega) (by have := hi98.1; omega) hi98.2.2.1 (fun x => ?_) rfl)
            rw [hi98.2.2.2 x, hI1 x, show v101.toInt.toNat = w5.toInt.toNat + 1 by omega, sM_s x, ← hws, h6, show w7.toInt.toNat = lenI b3.toInt by omega]
            constructor
            · rintro (q | q)
              · exact Or.inl q
              · exact Or.inr ⟨hcnt, q⟩
            · rintro (q | q)
              · exact Or.inl q
              · exact Or.inr q.2
          · skip
            refine h_il c (hd 35 65 _ _ rfl) (by rfl) (hat 67 rfl ?_)
            refine h_il c (hd 36 67 _ _ rfl) (by rfl) (hat 69 rfl ?_)
            refine h_callSF c (M' := dM_bit) (dp_bit hG) (by decide +kernel) (wlkS (lkX12_251 hG) _ rfl rfl) (hd 37 69 _ _ rfl) [.int w5, .int w7] (rest := []) (by rfl) ⟨⟨_, rfl, rf_in_top _, trivial⟩, ⟨_, rfl, rf_in1 (by omega) (by omega), trivial⟩, trivial⟩ (Nat.le_of_ble_eq_true rfl) trivial (fun rv69 F69 fr69 rr69 pp69 sm_ => hat 72 rfl ?_)
            have e_ := (sm_ rfl).symm
            subst e_
            obtain ⟨a0_, a1_, x69, ea_, er_, hx69⟩ := pp69
            cases ea_; subst er_
            refine h_if c (hd 38 72 _ _ rfl) (tgt := 89) (by decide) (fun (h72 : x69.toInt = 0) => ?_) (fun (h72 : ¬ (x69.toInt = 0)) => hat 75 rfl ?_)
            · skip
              refine h_inc c (fun r_ => [(7, .int r_), (6, .int w6), (5, .int w5), (4, .int n4), (3, .int b3), (2, .int e), (1, .int a), (0, .ref (G.2.1.1 114))]) (hd 47 89 _ _ rfl) (by decide) (by decide) (by rfl) (by omega) (fun _ => by rfl) (fun v89 e89 => hat 92 rfl ?_)
              refine h_goto c (hd 48 92 _ _ rfl) (tgt := 58) (by decide) ?_
              exact h_less (L := [(7, .int v89), (6, .int w6), (5, .int w5), (4, .int n4), (3, .int b3), (2, .int e), (1, .int a), (0, .ref (G.2.1.1 114))]) (by simp) (ih7 (lenI b3.toInt - v89.toInt.toNat) (by omega) _ _ (by omega) (by omega) (by rw [show v89.toInt.toNat = w7.toInt.toNat + 1 by omega, sbv_f (by rcases hx69 with h_ | h_; omega; exact h_.2)]; omega) rfl)
            · skip
              refine h_bp c (hd 39 75 _ _ rfl) (by decide) (fun v75 e75 => hat 77 rfl ?_)
              refine h_il c (hd 40 77 _ _ rfl) (by rfl) (hat 79 rfl ?_)
              have hsb3 := hsb.2.2 (by omega)
              refine h_mul c (hd 41 79 _ _ rfl) e75 (by omega) (fun v79 e79 => hat 80 rfl ?_)
              refine h_iln c (hd 42 80 _ _ rfl) (by rfl) (hat 81 rfl ?_)
              refine h_il c (hd 43 81 _ _ rfl) (by rfl) (hat 83 rfl ?_)
              refine h_callSF c (M' := dM_lt) (dp_lt hG) (by decide +kernel) (wlkS (lkX12_359 hG) _ rfl rfl) (hd 44 83 _ _ rfl) [.int b3, .int w7] (rest := [.int v79]) (by rfl) ⟨⟨_, rfl, rf_in1 (by omega) (by omega), trivial⟩, ⟨_, rfl, rf_in1 (by omega) (by omega), trivial⟩, trivial⟩ (Nat.le_of_ble_eq_true rfl) trivial (fun rv83 F83 fr83 rr83 pp83 sm_ => hat 86 rfl ?_)
              have e_ := (sm_ rfl).symm
              subst e_
              obtain ⟨a0_, a1_, x83, ea_, er_, hx83⟩ := pp83
              cases ea_; subst er_
              have hsb3 := hsb.2.2 (by omega)
              refine h_add c (hd 45 86 _ _ rfl) (by omega) (fun v86 e86 => hat 87 rfl ?_)
              refine h_is c (hd 46 87 _ _ rfl) (by decide) (L' := [(6, .int v86), (7, .int w7), (5, .int w5), (4, .int n4), (3, .int b3), (2, .int e), (1, .int a), (0, .ref (G.2.1.1 114))]) (by rfl) (hat 89 rfl ?_)
              refine h_inc c (fun r_ => [(7, .int r_), (6, .int v86), (5, .int w5), (4, .int n4), (3, .int b3), (2, .int e), (1, .int a), (0, .ref (G.2.1.1 114))]) (hd 47 89 _ _ rfl) (by decide) (by decide) (by rfl) (by omega) (fun _ => by rfl) (fun v89 e89 => hat 92 rfl ?_)
              refine h_goto c (hd 48 92 _ _ rfl) (tgt := 58) (by decide) ?_
              exact h_less (L := [(7, .int v89), (6, .int v86), (5, .int w5), (4, .int n4), (3, .int b3), (2, .int e), (1, .int a), (0, .ref (G.2.1.1 114))]) (by simp) (ih7 (lenI b3.toInt - v89.toInt.toNat) (by omega) _ _ (by omega) (by omega) (by rw [show v89.toInt.toNat = w7.toInt.toNat + 1 by omega, sbv_t (by rcases hx69 with h_ | h_; exact h_.2; omega)]; omega) rfl)
        exact h_less (L := [(7, .int v55), (6, .int v52), (5, .int w5), (4, .int n4), (3, .int b3), (2, .int e), (1, .int a), (0, .ref (G.2.1.1 114))]) (by simp) (K58 _ _ _ (by omega) (by omega) (by rw [show v55.toInt.toNat = 0 by omega]; show _ = (0 : Int); omega) rfl)
      · skip
        refine h_goto c (hd 27 49 _ _ rfl) (tgt := 101) (by decide) ?_
        refine h_inc c (fun r_ => [(5, .int r_), (4, .int n4), (3, .int b3), (2, .int e), (1, .int a), (0, .ref (G.2.1.1 114))]) (hd 52 101 _ _ rfl) (by decide) (by decide) (by rfl) (by omega) (fun _ => by rfl) (fun v101 e101 => hat 104 rfl ?_)
        refine h_goto c (hd 53 104 _ _ rfl) (tgt := 28) (by decide) ?_
        refine h_less (L := [(5, .int v101), (4, .int n4), (3, .int b3), (2, .int e), (1, .int a), (0, .ref (G.2.1.1 114))]) (by simp) (ih (16 - v101.toInt.toNat) (by omega) _ _ fr1 (by omega) (by omega) (by omega) ho1 (fun x => ?_) rfl)
        rw [hI1 x, show v101.toInt.toNat = w5.toInt.toNat + 1 by omega, sM_s x, ← hws]
        exact ⟨Or.inl, fun q => q.elim id (fun q => by have q_ := q.1; exfalso; omega)⟩
  refine h_iln c (hd 0 0 _ _ rfl) (by rfl) (hat 1 rfl ?_)
  refine h_aln c (hd 1 1 _ _ rfl) (by rfl) (hat 2 rfl ?_)
  refine h_getR c (hd 2 2 _ _ rfl) efgX12_27 egnX12_27_114 (hat 5 rfl ?_)
  refine h_aln c (hd 3 5 _ _ rfl) (by rfl) (hat 6 rfl ?_)
  refine h_getI c (hd 4 6 _ _ rfl) efgX12_242 egnX12_242_114 (x := F 114 28) (rfl) (hat 9 rfl ?_)
  refine h_iald c (hd 5 9 _ _ rfl) ela_75 ⟨by omega, by omega⟩ (congrArg Int.toNat hbk) (x := F 75 0) (rfl) (hat 10 rfl ?_)
  refine h_callSF c (M' := dM_fl) (dp_fl hG) (by decide +kernel) (wlkS (lkX12_322 hG) _ rfl rfl) (hd 6 10 _ _ rfl) [.int a, .int (F 75 0)] (rest := []) (by rfl) ⟨⟨_, rfl, rf_in1 (by omega) (by omega), trivial⟩, ⟨_, rfl, rf_in1 (by omega) (by omega), trivial⟩, trivial⟩ (Nat.le_of_ble_eq_true rfl) trivial (fun rv10 F10 fr10 rr10 pp10 sm_ => hat 13 rfl ?_)
  have e_ := (sm_ rfl).symm
  subst e_
  obtain ⟨a0_, a1_, x10, ea_, er_, hx10⟩ := pp10
  cases ea_; subst er_
  have hb_ : x10.toInt = dvn a.toInt (lenI a.toInt - 4) := by rw [hx10, hpf]; rfl
  refine h_isn c (hd 7 13 _ _ rfl) (by decide) (L' := [(3, .int x10), (0, .ref (G.2.1.1 114)), (1, .int a), (2, .int e)]) (by rfl) (hat 14 rfl ?_)
  refine h_iln c (hd 8 14 _ _ rfl) (by rfl) (hat 15 rfl ?_)
  refine h_callSF c (M' := dM_mlen) (dp_mlen hG) (by decide +kernel) (wlkS (lkX12_319 hG) _ rfl rfl) (hd 9 15 _ _ rfl) [.int x10] (rest := []) (by rfl) ⟨⟨_, rfl, rf_in1 (by omega) (by omega), trivial⟩, trivial⟩ (Nat.le_of_ble_eq_true rfl) trivial (fun rv15 F15 fr15 rr15 pp15 sm_ => hat 18 rfl ?_)
  have e_ := (sm_ rfl).symm
  subst e_
  obtain ⟨a0_, x15, ea_, er_, hx15⟩ := pp15
  cases ea_; subst er_
  refine h_is c (hd 10 18 _ _ rfl) (by decide) (L' := [(4, .int x15), (3, .int x10), (0, .ref (G.2.1.1 114)), (1, .int a), (2, .int e)]) (by rfl) (hat 20 rfl ?_)
  refine h_aln c (hd 11 20 _ _ rfl) (by rfl) (hat 21 rfl ?_)
  refine h_ic c (hd 12 21 _ _ rfl) (by decide) (fun v21 e21 => hat 22 rfl ?_)
  refine h_putI c (hd 13 22 _ _ rfl) efgX12_353 egnX12_353_114 (by decide) (by decide) rfl (rf_in1 (by omega) (by omega)) (hat 25 rfl ?_)
  refine h_ic c (hd 14 25 _ _ rfl) (by decide) (fun v25 e25 => hat 26 rfl ?_)
  refine h_is c (hd 15 26 _ _ rfl) (by decide) (L' := [(5, .int v25), (4, .int x15), (3, .int x10), (0, .ref (G.2.1.1 114)), (1, .int a), (2, .int e)]) (by rfl) (hat 28 rfl ?_)
  refine h_less (L := [(5, .int v25), (4, .int x15), (3, .int x10), (2, .int e), (1, .int a), (0, .ref (G.2.1.1 114))]) (by simp) (K28 x10 x15 hb_ hx15 _ _ _ (hframe_up (hframe_rf _ _) (by rfl) _) (by omega) (by rw [e25]; exact Int.natCast_nonneg _) (show v21.toInt ≤ _ by omega) (rOK_0 (show v21.toInt = 0 by omega)) (fun x => ?_) rfl)
  rw [show v25.toInt.toNat = 0 by omega]
  exact ⟨fun q => absurd q (rM_0 (show v21.toInt = 0 by omega) x), fun q => absurd q (sM_0 x)⟩
def gM_err : rfM := ((⟨"NearSpellModel", "errorsNow", "()I"⟩, prog_14_method_52_code, 1, (some .int)), (2,100), ([.inr (.inl [114])],[]), [], [])
def ddEX12_errorsNow : List (Nat × Instr × Nat) := [(0,.aload_n 0,1),(1,.getfield 30,3),(4,.aload_n 0,1),(5,.getfield 242,3),(8,.iaload,1),(9,.ireturn,1)]
set_option maxRecDepth 100000 in
theorem dkEX12_errorsNow : rf_decs prog_14_method_52_code ddEX12_errorsNow := rf_decs_of (by decide +kernel)
set_option maxHeartbeats 8000000 in
set_option maxRecDepth 20000 in
theorem gp_err {G : rfG} (hG : okG G) : h_met G gM_err (fun _ F => (F 114 28).toInt = 0 ∧ (F 76 0).toInt = 2) (fun _ _ _ rv => ∃ x : Int32, rv = some (.int x) ∧ x.toInt = 2) := by
  refine h_metOf hG.1 (by decide +kernel) (by decide) hG.2.2.1 (wflT hG flokX12) (wcsT hG csokX12) ?_
  intro vs w0 X hv_ hr hp c
  match vs, hv_ with
  | [_], ⟨⟨_, hj0, rfl⟩, _⟩ =>
  cases List.mem_singleton.mp hj0
  have hd : ∀ n pc i len, ddEX12_errorsNow[n]? = some (pc, i, len) → decode (mb gM_err) pc = .ok (i, len) := fun n pc i len h => hdk dkEX12_errorsNow n pc i len h
  show hW G X gM_err w0 0 [(0, .ref (G.2.1.1 114))] [] (hv w0)
  generalize hF0 : hv w0 = F at *
  obtain ⟨hbk, her⟩ := hp
  refine h_aln c (hd 0 0 _ _ rfl) (by rfl) (hat 1 rfl ?_)
  refine h_getR c (hd 1 1 _ _ rfl) efgX12_30 egnX12_30_114 (hat 4 rfl ?_)
  refine h_aln c (hd 2 4 _ _ rfl) (by rfl) (hat 5 rfl ?_)
  refine h_getI c (hd 3 5 _ _ rfl) efgX12_242 egnX12_242_114 (x := F 114 28) (rfl) (hat 8 rfl ?_)
  refine h_iald c (hd 4 8 _ _ rfl) ela_76 ⟨by omega, by omega⟩ (congrArg Int.toNat hbk) (x := F 76 0) (rfl) (hat 9 rfl ?_)
  exact h_iret c (hd 5 9 _ _ rfl) rfl ⟨_, rfl, her⟩
def gM_forms : rfM := ((⟨"NearSpellModel", "forms", "(I)I"⟩, prog_14_method_72_code, 3, (some .int)), (12,900), ([.inr (.inl [114]), .inl (((-2147483648),2147483647,1),none)],[]), [(91,0),(99,0),(114,40),(114,49)], [])
def ddEX12_forms : List (Nat × Instr × Nat) := [(0,.aload_n 0,1),(1,.iconst 0,1),(2,.putfield 347,3),(5,.iload_n 1,1),(6,.invokestatic 420,3),(9,.ifCond .ne 5,3),(12,.iconst (-1),1),(13,.ireturn,1),(14,.aload_n 0,1),(15,.iload_n 1,1),(16,.aload_n 0,1),(17,.invokevirtual 372,3),(20,.invokevirtual 366,3),(23,.aload_n 0,1),(24,.aload_n 0,1),(25,.getfield 353,3),(28,.putfield 347,3),(31,.iconst 0,1),(32,.istore_n 2,1),(33,.iload_n 2,1),(34,.aload_n 0,1),(35,.getfield 347,3),(38,.if_icmp .ge 21,3),(41,.aload_n 0,1),(42,.getfield 99,3),(45,.iload_n 2,1),(46,.aload_n 0,1),(47,.getfield 75,3),(50,.iload_n 2,1),(51,.iaload,1),(52,.iastore,1),(53,.iinc 2 1,3),(56,.goto (-23),3),(59,.aload_n 0,1),(60,.getfield 347,3),(63,.ireturn,1)]
set_option maxRecDepth 100000 in
theorem dkEX12_forms : rf_decs prog_14_method_72_code ddEX12_forms := rf_decs_of (by decide +kernel)
set_option maxHeartbeats 8000000 in
set_option maxRecDepth 20000 in
theorem gp_forms {G : rfG} (hG : okG G) : h_met G gM_forms (fun _ F => (F 114 28).toInt = 0 ∧ (F 75 0).toInt = 4 ∧ (F 76 0).toInt = 2) (fun vs _ _ rv => ∃ a y : Int32, vs[1]? = some (.int a) ∧ rv = some (.int y) ∧ ((cbI a.toInt ∧ ∃ (f : Nat → Int) (n : Nat), srt f n ∧ (∀ x, mmb f n x ↔ sA (dvn a.toInt (lenI a.toInt - 4)) x) ∧ y.toInt = (n : Int)) ∨ (¬ cbI a.toInt ∧ y.toInt = -1))) := by
  refine h_metOf hG.1 (by decide +kernel) (by decide) hG.2.2.1 (wflT hG flokX12) (wcsT hG csokX12) ?_
  intro vs w0 X hv_ hr hp c
  match vs, hv_ with
  | [_, _], ⟨⟨_, hj0, rfl⟩, ⟨a, rfl, hi_a, _⟩, _⟩ =>
  cases List.mem_singleton.mp hj0
  have hd : ∀ n pc i len, ddEX12_forms[n]? = some (pc, i, len) → decode (mb gM_forms) pc = .ok (i, len) := fun n pc i len h => hdk dkEX12_forms n pc i len h
  show hW G X gM_forms w0 0 [(0, .ref (G.2.1.1 114)), (1, .int a)] [] (hv w0)
  generalize hF0 : hv w0 = F at *
  obtain ⟨hp1, hp2, hp3⟩ := hp
  have K33 : ∀ (FB : HF), hframe [(91, 0), (99, 0), (114, 40), (114, 49)] F FB → cbI a.toInt → 0 ≤ (FB 114 39).toInt → (FB 114 48).toInt = (FB 114 39).toInt → ((FB 114 39).toInt ≤ 16 ∧ rOK 91 114 39 FB ∧ ∀ x, rM 91 114 39 FB x ↔ sA (dvn a.toInt (lenI a.toInt - 4)) x) → ∀ (m : Nat) (w2 : Int32) (F1 : HF), hframe [(99, 0)] FB F1 → 0 ≤ w2.toInt → w2.toInt ≤ 16 → m = 16 - w2.toInt.toNat → hW G X gM_forms w0 33 [(2, .int w2), (1, .int a), (0, .ref (G.2.1.1 114))] [] F1 := by
    intro FB frB hcb h0B hla hFB m
    induction m using Nat.strongRecOn with
    | ind m ih =>
    intro w2 F1 fr1 h20 h21 hm
    obtain ⟨hB1, hB2, hB3⟩ := hFB
    refine h_iln c (hd 19 33 _ _ rfl) (by rfl) (hat 34 rfl ?_)
    refine h_aln c (hd 20 34 _ _ rfl) (by rfl) (hat 35 rfl ?_)
    refine h_getI c (hd 21 35 _ _ rfl) efgX12_347 egnX12_347_114 (x := FB 114 48) (fr1 114 48 (by decide) (by rfl)) (hat 38 rfl ?_)
    refine h_cmp c (hd 22 38 _ _ rfl) (tgt := 59) (by decide) (fun (h38 : (FB 114 48).toInt ≤ w2.toInt) => ?_) (fun (h38 : ¬ ((FB 114 48).toInt ≤ w2.toInt)) => hat 41 rfl ?_)
    · skip
      refine h_aln c (hd 33 59 _ _ rfl) (by rfl) (hat 60 rfl ?_)
      refine h_getI c (hd 34 60 _ _ rfl) efgX12_347 egnX12_347_114 (x := FB 114 48) (fr1 114 48 (by decide) (by rfl)) (hat 63 rfl ?_)
      exact h_iret c (hd 35 63 _ _ rfl) rfl ⟨a, _, rfl, rfl, Or.inl ⟨hcb, lst 91 FB, (FB 114 39).toInt.toNat, hB2, hB3, by omega⟩⟩
    · skip
      refine h_aln c (hd 23 41 _ _ rfl) (by rfl) (hat 42 rfl ?_)
      refine h_getR c (hd 24 42 _ _ rfl) efgX12_99 egnX12_99_114 (hat 45 rfl ?_)
      refine h_iln c (hd 25 45 _ _ rfl) (by rfl) (hat 46 rfl ?_)
      refine h_aln c (hd 26 46 _ _ rfl) (by rfl) (hat 47 rfl ?_)
      refine h_getR c (hd 27 47 _ _ rfl) efgX12_75 egnX12_75_114 (hat 50 rfl ?_)
      refine h_iln c (hd 28 50 _ _ rfl) (by rfl) (hat 51 rfl ?_)
      refine h_iald c (hd 29 51 _ _ rfl) ela_91 ⟨by omega, by omega⟩ (by omega) (x := FB 91 w2.toInt.toNat) (fr1 91 w2.toInt.toNat (by decide) (by rfl)) (hat 52 rfl ?_)
      refine h_iast c (k := w2.toInt.toNat) (hd 30 52 _ _ rfl) ela_99 ⟨by omega, by omega⟩ (by omega) (by decide) (by decide) (hin1 (rf_in_top _)) (hat 53 rfl ?_)
      refine h_inc c (fun r_ => [(2, .int r_), (1, .int a), (0, .ref (G.2.1.1 114))]) (hd 31 53 _ _ rfl) (by decide) (by decide) (by rfl) (by omega) (fun _ => by rfl) (fun v53 e53 => hat 56 rfl ?_)
      refine h_goto c (hd 32 56 _ _ rfl) (tgt := 33) (by decide) ?_
      exact h_less (L := [(2, .int v53), (1, .int a), (0, .ref (G.2.1.1 114))]) (by simp) (ih (16 - v53.toInt.toNat) (by omega) _ _ (hframe_up fr1 (by rfl) _) (by omega) (by omega) rfl)
  refine h_aln c (hd 0 0 _ _ rfl) (by rfl) (hat 1 rfl ?_)
  refine h_ic c (hd 1 1 _ _ rfl) (by decide) (fun v1 e1 => hat 2 rfl ?_)
  refine h_putI c (hd 2 2 _ _ rfl) efgX12_347 egnX12_347_114 (by decide) (by decide) rfl (rf_in1 (by omega) (by omega)) (hat 5 rfl ?_)
  refine h_iln c (hd 3 5 _ _ rfl) (by rfl) (hat 6 rfl ?_)
  refine h_callSF c (M' := dM_mcan) (dp_mcan hG) (by decide +kernel) (wlkS (lkX12_420 hG) _ rfl rfl) (hd 4 6 _ _ rfl) [.int a] (rest := []) (by rfl) ⟨⟨_, rfl, rf_in_top _, trivial⟩, trivial⟩ (Nat.le_of_ble_eq_true rfl) trivial (fun rv6 F6 fr6 rr6 pp6 sm_ => hat 9 rfl ?_)
  have e_ := (sm_ rfl).symm
  subst e_
  obtain ⟨a0_, x6, ea_, er_, hx6⟩ := pp6
  cases ea_; subst er_
  refine h_if c (hd 5 9 _ _ rfl) (tgt := 14) (by decide) (fun (h9 : x6.toInt ≠ 0) => ?_) (fun (h9 : ¬ (x6.toInt ≠ 0)) => hat 12 rfl ?_)
  · skip
    have ca_ : cbI a.toInt := by rcases hx6 with h_ | h_; exact h_.2; omega
    have ra_ := ca_.1
    have ra2_ := ca_.2.1
    refine h_aln c (hd 8 14 _ _ rfl) (by rfl) (hat 15 rfl ?_)
    refine h_iln c (hd 9 15 _ _ rfl) (by rfl) (hat 16 rfl ?_)
    refine h_aln c (hd 10 16 _ _ rfl) (by rfl) (hat 17 rfl ?_)
    refine h_callVF c (M' := gM_err) (gp_err hG) (by decide +kernel) (wlkV (lkX12_372 hG) _ rfl rfl) (j := 114) (by decide +kernel) (hd 11 17 _ _ rfl) [] (rest := [.int a, .ref (G.2.1.1 114)]) (by rfl) ⟨⟨114, by decide, rfl⟩, trivial⟩ (Nat.le_of_ble_eq_true rfl) ⟨hp1, hp3⟩ (fun rv17 F17 fr17 rr17 pp17 sm_ => hat 20 rfl ?_)
    have e_ := (sm_ rfl).symm
    subst e_
    obtain ⟨x17, er_, hx17⟩ := pp17
    subst er_
    refine h_callVF c (M' := gM_lay) (gp_lay hG) (by decide +kernel) (wlkV (lkX12_366 hG) _ rfl rfl) (j := 114) (by decide +kernel) (hd 12 20 _ _ rfl) [.int a, .int x17] (rest := []) (by rfl) ⟨⟨114, by decide, rfl⟩, ⟨_, rfl, rf_in1 (by omega) (by omega), trivial⟩, ⟨_, rfl, rf_in1 (by omega) (by omega), trivial⟩, trivial⟩ (Nat.le_of_ble_eq_true rfl) ⟨hp1, hp2⟩ (fun rv20 F20 fr20 rr20 pp20 sm_ => hat 23 rfl ?_)
    obtain ⟨er_, a_, ea_, hf20⟩ := pp20
    subst er_; cases ea_
    refine h_aln c (hd 13 23 _ _ rfl) (by rfl) (hat 24 rfl ?_)
    refine h_aln c (hd 14 24 _ _ rfl) (by rfl) (hat 25 rfl ?_)
    refine h_getI c (hd 15 25 _ _ rfl) efgX12_353 egnX12_353_114 (x := F20 114 39) (rfl) (hat 28 rfl ?_)
    have hb20_ := (hf20).1
    have h0q_ := (hrg rr20 ely_114_39).1
    refine h_putI c (hd 16 28 _ _ rfl) efgX12_347 egnX12_347_114 (by decide) (by decide) rfl (rf_in1 (by omega) (by omega)) (hat 31 rfl ?_)
    refine h_ic c (hd 17 31 _ _ rfl) (by decide) (fun v31 e31 => hat 32 rfl ?_)
    refine h_isn c (hd 18 32 _ _ rfl) (by decide) (L' := [(2, .int v31), (0, .ref (G.2.1.1 114)), (1, .int a)]) (by rfl) (hat 33 rfl ?_)
    have h0_ := (hrg rr20 ely_114_39).1
    exact h_less (L := [(2, .int v31), (1, .int a), (0, .ref (G.2.1.1 114))]) (by simp) (K33 (hupd F20 114 48 (F20 114 39)) (hframe_up (hframe_tr (hframe_up (hframe_rf _ _) (by rfl) _) fr20 (by decide)) (by rfl) _) ca_ h0_ rfl hf20 _ _ _ (hframe_rf _ _) (by omega) (by omega) rfl)
  · skip
    refine h_ic c (hd 6 12 _ _ rfl) (by decide) (fun v12 e12 => hat 13 rfl ?_)
    exact h_iret c (hd 7 13 _ _ rfl) rfl ⟨a, _, rfl, rfl, Or.inr ⟨(fun q => by rcases hx6 with h_ | h_; omega; exact h_.2 q), by omega⟩⟩
def gM_tot : rfM := ((⟨"NearSpellModel", "totalOf", "(I)I"⟩, prog_14_method_42_code, 3, (some .int)), (2,100), ([.inl ((0,387420488,1),none)],[]), [], [])
def ddEX12_totalOf : List (Nat × Instr × Nat) := [(0,.iconst 0,1),(1,.istore_n 1,1),(2,.iload_n 0,1),(3,.istore_n 2,1),(4,.iload_n 2,1),(5,.ifCond .le 18,3),(8,.iload_n 1,1),(9,.iload_n 2,1),(10,.bipush 27,2),(12,.irem,1),(13,.iadd,1),(14,.istore_n 1,1),(15,.iload_n 2,1),(16,.bipush 27,2),(18,.idiv,1),(19,.istore_n 2,1),(20,.goto (-16),3),(23,.iload_n 1,1),(24,.ireturn,1)]
set_option maxRecDepth 100000 in
theorem dkEX12_totalOf : rf_decs prog_14_method_42_code ddEX12_totalOf := rf_decs_of (by decide +kernel)
set_option maxHeartbeats 8000000 in
set_option maxRecDepth 20000 in
theorem gp_tot {G : rfG} (hG : okG G) : h_met G gM_tot (fun _ _ => True) (fun vs _ _ rv => ∃ a x : Int32, vs = [.int a] ∧ rv = some (.int x) ∧ x.toInt = totI a.toInt) := by
  refine h_metOf hG.1 (by decide +kernel) (by decide) hG.2.2.1 (wflT hG flokX12) (wcsT hG csokX12) ?_
  intro vs w0 X hv_ hr hp c
  match vs, hv_ with
  | [_], ⟨⟨a, rfl, hi_a, _⟩, _⟩ =>
  have hd : ∀ n pc i len, ddEX12_totalOf[n]? = some (pc, i, len) → decode (mb gM_tot) pc = .ok (i, len) := fun n pc i len h => hdk dkEX12_totalOf n pc i len h
  show hW G X gM_tot w0 0 [(0, .int a)] [] (hv w0)
  generalize hF0 : hv w0 = F at *
  have ha : 0 ≤ a.toInt ∧ a.toInt ≤ 387420488 := ⟨hi_a.1, hi_a.2.1⟩
  refine h_ic c (hd 0 0 _ _ rfl) (by decide) (fun v0 e0 => hat 1 rfl ?_)
  refine h_isn c (hd 1 1 _ _ rfl) (by decide) (L' := [(1, .int v0), (0, .int a)]) (by rfl) (hat 2 rfl ?_)
  refine h_iln c (hd 2 2 _ _ rfl) (by rfl) (hat 3 rfl ?_)
  refine h_isn c (hd 3 3 _ _ rfl) (by decide) (L' := [(2, .int a), (1, .int v0), (0, .int a)]) (by rfl) (hat 4 rfl ?_)
  refine h_iln c (hd 4 4 _ _ rfl) (by rfl) (hat 5 rfl ?_)
  refine h_if c (hd 5 5 _ _ rfl) (tgt := 23) (by decide) (fun (h5 : a.toInt ≤ 0) => ?_) (fun (h5 : ¬ (a.toInt ≤ 0)) => hat 8 rfl ?_)
  · skip
    refine h_iln c (hd 17 23 _ _ rfl) (by rfl) (hat 24 rfl ?_)
    exact h_iret c (hd 18 24 _ _ rfl) rfl ⟨a, _, rfl, rfl, by unfold totI; omega⟩
  · skip
    refine h_iln c (hd 6 8 _ _ rfl) (by rfl) (hat 9 rfl ?_)
    refine h_iln c (hd 7 9 _ _ rfl) (by rfl) (hat 10 rfl ?_)
    refine h_bp c (hd 8 10 _ _ rfl) (by decide) (fun v10 e10 => hat 12 rfl ?_)
    refine h_rem c (hd 9 12 _ _ rfl) e10 (by decide) (by omega) (fun v12 e12 => hat 13 rfl ?_)
    refine h_add c (hd 10 13 _ _ rfl) (by omega) (fun v13 e13 => hat 14 rfl ?_)
    refine h_isn c (hd 11 14 _ _ rfl) (by decide) (L' := [(1, .int v13), (2, .int a), (0, .int a)]) (by rfl) (hat 15 rfl ?_)
    refine h_iln c (hd 12 15 _ _ rfl) (by rfl) (hat 16 rfl ?_)
    refine h_bp c (hd 13 16 _ _ rfl) (by decide) (fun v16 e16 => hat 18 rfl ?_)
    refine h_div c (hd 14 18 _ _ rfl) e16 (by decide) (by omega) (fun v18 e18 => hat 19 rfl ?_)
    refine h_isn c (hd 15 19 _ _ rfl) (by decide) (L' := [(2, .int v18), (1, .int v13), (0, .int a)]) (by rfl) (hat 20 rfl ?_)
    refine h_goto c (hd 16 20 _ _ rfl) (tgt := 4) (by decide) ?_
    refine h_iln c (hd 4 4 _ _ rfl) (by rfl) (hat 5 rfl ?_)
    refine h_if c (hd 5 5 _ _ rfl) (tgt := 23) (by decide) (fun (h5_1 : v18.toInt ≤ 0) => ?_) (fun (h5_1 : ¬ (v18.toInt ≤ 0)) => hat 8 rfl ?_)
    · skip
      refine h_iln c (hd 17 23 _ _ rfl) (by rfl) (hat 24 rfl ?_)
      exact h_iret c (hd 18 24 _ _ rfl) rfl ⟨a, _, rfl, rfl, by unfold totI; omega⟩
    · skip
      refine h_iln c (hd 6 8 _ _ rfl) (by rfl) (hat 9 rfl ?_)
      refine h_iln c (hd 7 9 _ _ rfl) (by rfl) (hat 10 rfl ?_)
      refine h_bp c (hd 8 10 _ _ rfl) (by decide) (fun v10_1 e10_1 => hat 12 rfl ?_)
      refine h_rem c (hd 9 12 _ _ rfl) e10_1 (by decide) (by omega) (fun v12_1 e12_1 => hat 13 rfl ?_)
      refine h_add c (hd 10 13 _ _ rfl) (by omega) (fun v13_1 e13_1 => hat 14 rfl ?_)
      refine h_isn c (hd 11 14 _ _ rfl) (by decide) (L' := [(1, .int v13_1), (2, .int v18), (0, .int a)]) (by rfl) (hat 15 rfl ?_)
      refine h_iln c (hd 12 15 _ _ rfl) (by rfl) (hat 16 rfl ?_)
      refine h_bp c (hd 13 16 _ _ rfl) (by decide) (fun v16_1 e16_1 => hat 18 rfl ?_)
      refine h_div c (hd 14 18 _ _ rfl) e16_1 (by decide) (by omega) (fun v18_1 e18_1 => hat 19 rfl ?_)
      refine h_isn c (hd 15 19 _ _ rfl) (by decide) (L' := [(2, .int v18_1), (1, .int v13_1), (0, .int a)]) (by rfl) (hat 20 rfl ?_)
      refine h_goto c (hd 16 20 _ _ rfl) (tgt := 4) (by decide) ?_
      refine h_iln c (hd 4 4 _ _ rfl) (by rfl) (hat 5 rfl ?_)
      refine h_if c (hd 5 5 _ _ rfl) (tgt := 23) (by decide) (fun (h5_2 : v18_1.toInt ≤ 0) => ?_) (fun (h5_2 : ¬ (v18_1.toInt ≤ 0)) => hat 8 rfl ?_)
      · skip
        refine h_iln c (hd 17 23 _ _ rfl) (by rfl) (hat 24 rfl ?_)
        exact h_iret c (hd 18 24 _ _ rfl) rfl ⟨a, _, rfl, rfl, by unfold totI; omega⟩
      · skip
        refine h_iln c (hd 6 8 _ _ rfl) (by rfl) (hat 9 rfl ?_)
        refine h_iln c (hd 7 9 _ _ rfl) (by rfl) (hat 10 rfl ?_)
        refine h_bp c (hd 8 10 _ _ rfl) (by decide) (fun v10_2 e10_2 => hat 12 rfl ?_)
        refine h_rem c (hd 9 12 _ _ rfl) e10_2 (by decide) (by omega) (fun v12_2 e12_2 => hat 13 rfl ?_)
        refine h_add c (hd 10 13 _ _ rfl) (by omega) (fun v13_2 e13_2 => hat 14 rfl ?_)
        refine h_isn c (hd 11 14 _ _ rfl) (by decide) (L' := [(1, .int v13_2), (2, .int v18_1), (0, .int a)]) (by rfl) (hat 15 rfl ?_)
        refine h_iln c (hd 12 15 _ _ rfl) (by rfl) (hat 16 rfl ?_)
        refine h_bp c (hd 13 16 _ _ rfl) (by decide) (fun v16_2 e16_2 => hat 18 rfl ?_)
        refine h_div c (hd 14 18 _ _ rfl) e16_2 (by decide) (by omega) (fun v18_2 e18_2 => hat 19 rfl ?_)
        refine h_isn c (hd 15 19 _ _ rfl) (by decide) (L' := [(2, .int v18_2), (1, .int v13_2), (0, .int a)]) (by rfl) (hat 20 rfl ?_)
        refine h_goto c (hd 16 20 _ _ rfl) (tgt := 4) (by decide) ?_
        refine h_iln c (hd 4 4 _ _ rfl) (by rfl) (hat 5 rfl ?_)
        refine h_if c (hd 5 5 _ _ rfl) (tgt := 23) (by decide) (fun (h5_3 : v18_2.toInt ≤ 0) => ?_) (fun (h5_3 : ¬ (v18_2.toInt ≤ 0)) => hat 8 rfl ?_)
        · skip
          refine h_iln c (hd 17 23 _ _ rfl) (by rfl) (hat 24 rfl ?_)
          exact h_iret c (hd 18 24 _ _ rfl) rfl ⟨a, _, rfl, rfl, by unfold totI; omega⟩
        · skip
          refine h_iln c (hd 6 8 _ _ rfl) (by rfl) (hat 9 rfl ?_)
          refine h_iln c (hd 7 9 _ _ rfl) (by rfl) (hat 10 rfl ?_)
          refine h_bp c (hd 8 10 _ _ rfl) (by decide) (fun v10_3 e10_3 => hat 12 rfl ?_)
          refine h_rem c (hd 9 12 _ _ rfl) e10_3 (by decide) (by omega) (fun v12_3 e12_3 => hat 13 rfl ?_)
          refine h_add c (hd 10 13 _ _ rfl) (by omega) (fun v13_3 e13_3 => hat 14 rfl ?_)
          refine h_isn c (hd 11 14 _ _ rfl) (by decide) (L' := [(1, .int v13_3), (2, .int v18_2), (0, .int a)]) (by rfl) (hat 15 rfl ?_)
          refine h_iln c (hd 12 15 _ _ rfl) (by rfl) (hat 16 rfl ?_)
          refine h_bp c (hd 13 16 _ _ rfl) (by decide) (fun v16_3 e16_3 => hat 18 rfl ?_)
          refine h_div c (hd 14 18 _ _ rfl) e16_3 (by decide) (by omega) (fun v18_3 e18_3 => hat 19 rfl ?_)
          refine h_isn c (hd 15 19 _ _ rfl) (by decide) (L' := [(2, .int v18_3), (1, .int v13_3), (0, .int a)]) (by rfl) (hat 20 rfl ?_)
          refine h_goto c (hd 16 20 _ _ rfl) (tgt := 4) (by decide) ?_
          refine h_iln c (hd 4 4 _ _ rfl) (by rfl) (hat 5 rfl ?_)
          refine h_if c (hd 5 5 _ _ rfl) (tgt := 23) (by decide) (fun (h5_4 : v18_3.toInt ≤ 0) => ?_) (fun (h5_4 : ¬ (v18_3.toInt ≤ 0)) => hat 8 rfl ?_)
          · skip
            refine h_iln c (hd 17 23 _ _ rfl) (by rfl) (hat 24 rfl ?_)
            exact h_iret c (hd 18 24 _ _ rfl) rfl ⟨a, _, rfl, rfl, by unfold totI; omega⟩
          · skip
            refine h_iln c (hd 6 8 _ _ rfl) (by rfl) (hat 9 rfl ?_)
            refine h_iln c (hd 7 9 _ _ rfl) (by rfl) (hat 10 rfl ?_)
            refine h_bp c (hd 8 10 _ _ rfl) (by decide) (fun v10_4 e10_4 => hat 12 rfl ?_)
            refine h_rem c (hd 9 12 _ _ rfl) e10_4 (by decide) (by omega) (fun v12_4 e12_4 => hat 13 rfl ?_)
            refine h_add c (hd 10 13 _ _ rfl) (by omega) (fun v13_4 e13_4 => hat 14 rfl ?_)
            refine h_isn c (hd 11 14 _ _ rfl) (by decide) (L' := [(1, .int v13_4), (2, .int v18_3), (0, .int a)]) (by rfl) (hat 15 rfl ?_)
            refine h_iln c (hd 12 15 _ _ rfl) (by rfl) (hat 16 rfl ?_)
            refine h_bp c (hd 13 16 _ _ rfl) (by decide) (fun v16_4 e16_4 => hat 18 rfl ?_)
            refine h_div c (hd 14 18 _ _ rfl) e16_4 (by decide) (by omega) (fun v18_4 e18_4 => hat 19 rfl ?_)
            refine h_isn c (hd 15 19 _ _ rfl) (by decide) (L' := [(2, .int v18_4), (1, .int v13_4), (0, .int a)]) (by rfl) (hat 20 rfl ?_)
            refine h_goto c (hd 16 20 _ _ rfl) (tgt := 4) (by decide) ?_
            refine h_iln c (hd 4 4 _ _ rfl) (by rfl) (hat 5 rfl ?_)
            refine h_if c (hd 5 5 _ _ rfl) (tgt := 23) (by decide) (fun (h5_5 : v18_4.toInt ≤ 0) => ?_) (fun (h5_5 : ¬ (v18_4.toInt ≤ 0)) => hat 8 rfl ?_)
            · skip
              refine h_iln c (hd 17 23 _ _ rfl) (by rfl) (hat 24 rfl ?_)
              exact h_iret c (hd 18 24 _ _ rfl) rfl ⟨a, _, rfl, rfl, by unfold totI; omega⟩
            · skip
              refine h_iln c (hd 6 8 _ _ rfl) (by rfl) (hat 9 rfl ?_)
              refine h_iln c (hd 7 9 _ _ rfl) (by rfl) (hat 10 rfl ?_)
              refine h_bp c (hd 8 10 _ _ rfl) (by decide) (fun v10_5 e10_5 => hat 12 rfl ?_)
              refine h_rem c (hd 9 12 _ _ rfl) e10_5 (by decide) (by omega) (fun v12_5 e12_5 => hat 13 rfl ?_)
              refine h_add c (hd 10 13 _ _ rfl) (by omega) (fun v13_5 e13_5 => hat 14 rfl ?_)
              refine h_isn c (hd 11 14 _ _ rfl) (by decide) (L' := [(1, .int v13_5), (2, .int v18_4), (0, .int a)]) (by rfl) (hat 15 rfl ?_)
              refine h_iln c (hd 12 15 _ _ rfl) (by rfl) (hat 16 rfl ?_)
              refine h_bp c (hd 13 16 _ _ rfl) (by decide) (fun v16_5 e16_5 => hat 18 rfl ?_)
              refine h_div c (hd 14 18 _ _ rfl) e16_5 (by decide) (by omega) (fun v18_5 e18_5 => hat 19 rfl ?_)
              refine h_isn c (hd 15 19 _ _ rfl) (by decide) (L' := [(2, .int v18_5), (1, .int v13_5), (0, .int a)]) (by rfl) (hat 20 rfl ?_)
              refine h_goto c (hd 16 20 _ _ rfl) (tgt := 4) (by decide) ?_
              refine h_iln c (hd 4 4 _ _ rfl) (by rfl) (hat 5 rfl ?_)
              refine h_if c (hd 5 5 _ _ rfl) (tgt := 23) (by decide) (fun (h5_6 : v18_5.toInt ≤ 0) => ?_) (fun (h5_6 : ¬ (v18_5.toInt ≤ 0)) => hat 8 rfl ?_)
              · skip
                refine h_iln c (hd 17 23 _ _ rfl) (by rfl) (hat 24 rfl ?_)
                exact h_iret c (hd 18 24 _ _ rfl) rfl ⟨a, _, rfl, rfl, by unfold totI; omega⟩
              · skip
                exact absurd (by omega) h5_6
def gM_bk : rfM := ((⟨"NearSpellModel", "bucketOf", "(I)I"⟩, prog_14_method_33_code, 3, (some .int)), (5,300), ([.inr (.inl [114]), .inl ((0,387420488,1),none)],[]), [(114,35)], [])
def ddEX12_bucketOf : List (Nat × Instr × Nat) := [(0,.aload_n 0,1),(1,.iload_n 1,1),(2,.putfield 313,3),(5,.aload_n 0,1),(6,.getfield 42,3),(9,.aload_n 0,1),(10,.getfield 242,3),(13,.iaload,1),(14,.iconst 0,1),(15,.invokestatic 251,3),(18,.ifCond .eq 10,3),(21,.aload_n 0,1),(22,.invokevirtual 330,3),(25,.goto 15,3),(28,.bipush 7,2),(30,.iload_n 1,1),(31,.invokestatic 316,3),(34,.imul,1),(35,.iload_n 1,1),(36,.invokestatic 319,3),(39,.iadd,1),(40,.aload_n 0,1),(41,.getfield 33,3),(44,.aload_n 0,1),(45,.getfield 242,3),(48,.iaload,1),(49,.irem,1),(50,.istore_n 2,1),(51,.iload_n 2,1),(52,.ifCond .ge 17,3),(55,.iload_n 2,1),(56,.aload_n 0,1),(57,.getfield 33,3),(60,.aload_n 0,1),(61,.getfield 242,3),(64,.iaload,1),(65,.iadd,1),(66,.goto 4,3),(69,.iload_n 2,1),(70,.ireturn,1)]
set_option maxRecDepth 100000 in
theorem dkEX12_bucketOf : rf_decs prog_14_method_33_code ddEX12_bucketOf := rf_decs_of (by decide +kernel)
set_option maxHeartbeats 8000000 in
set_option maxRecDepth 20000 in
theorem gp_bk {G : rfG} (hG : okG G) : h_met G gM_bk (fun _ F => (F 114 28).toInt = 0 ∧ (F 80 0).toInt = 0 ∧ (F 77 0).toInt = 13) (fun vs _ _ rv => ∃ a y : Int32, vs[1]? = some (.int a) ∧ rv = some (.int y) ∧ y.toInt = (7 * totI a.toInt + (lenI a.toInt : Int)) % 13) := by
  refine h_metOf hG.1 (by decide +kernel) (by decide) hG.2.2.1 (wflT hG flokX12) (wcsT hG csokX12) ?_
  intro vs w0 X hv_ hr hp c
  match vs, hv_ with
  | [_, _], ⟨⟨_, hj0, rfl⟩, ⟨a, rfl, hi_a, _⟩, _⟩ =>
  cases List.mem_singleton.mp hj0
  have hd : ∀ n pc i len, ddEX12_bucketOf[n]? = some (pc, i, len) → decode (mb gM_bk) pc = .ok (i, len) := fun n pc i len h => hdk dkEX12_bucketOf n pc i len h
  show hW G X gM_bk w0 0 [(0, .ref (G.2.1.1 114)), (1, .int a)] [] (hv w0)
  generalize hF0 : hv w0 = F at *
  obtain ⟨hbk, hto, hbu⟩ := hp
  have ha : 0 ≤ a.toInt ∧ a.toInt ≤ 387420488 := ⟨hi_a.1, hi_a.2.1⟩
  have hl6 := lenI_le a.toInt
  have ht := totI_in ha.1
  have hto0 : F 80 0 = 0 := Int32.toInt_inj.mp (by rw [hto]; decide +kernel)
  refine h_aln c (hd 0 0 _ _ rfl) (by rfl) (hat 1 rfl ?_)
  refine h_iln c (hd 1 1 _ _ rfl) (by rfl) (hat 2 rfl ?_)
  refine h_putI c (hd 2 2 _ _ rfl) efgX12_313 egnX12_313_114 (by decide) (by decide) rfl (rf_in_top _) (hat 5 rfl ?_)
  refine h_aln c (hd 3 5 _ _ rfl) (by rfl) (hat 6 rfl ?_)
  refine h_getR c (hd 4 6 _ _ rfl) efgX12_42 egnX12_42_114 (hat 9 rfl ?_)
  refine h_aln c (hd 5 9 _ _ rfl) (by rfl) (hat 10 rfl ?_)
  refine h_getI c (hd 6 10 _ _ rfl) efgX12_242 egnX12_242_114 (x := F 114 28) (rfl) (hat 13 rfl ?_)
  refine h_iald c (hd 7 13 _ _ rfl) ela_80 ⟨by omega, by omega⟩ (congrArg Int.toNat hbk) (x := F 80 0) (rfl) (hat 14 rfl ?_)
  refine h_ic c (hd 8 14 _ _ rfl) (by decide) (fun v14 e14 => hat 15 rfl ?_)
  refine h_callSF c (M' := dM_bit) (dp_bit hG) (by decide +kernel) (wlkS (lkX12_251 hG) _ rfl rfl) (hd 9 15 _ _ rfl) [.int (F 80 0), .int v14] (rest := []) (by rfl) ⟨⟨_, rfl, rf_in_top _, trivial⟩, ⟨_, rfl, rf_in1 (by omega) (by omega), trivial⟩, trivial⟩ (Nat.le_of_ble_eq_true rfl) trivial (fun rv15 F15 fr15 rr15 pp15 sm_ => hat 18 rfl ?_)
  have e_ := (sm_ rfl).symm
  subst e_
  obtain ⟨a0_, a1_, x15, ea_, er_, hx15⟩ := pp15
  cases ea_; subst er_
  have z15 : x15.toInt = 0 := by rcases hx15 with h_ | h_; (· exfalso; have q_ := h_.2; rw [hto0, b_0] at q_; exact absurd q_ (by decide)); exact h_.1
  refine h_if c (hd 10 18 _ _ rfl) (tgt := 28) (by decide) (fun (h18 : x15.toInt = 0) => ?_) (fun (h18 : ¬ (x15.toInt = 0)) => hat 21 rfl ?_)
  · skip
    refine h_bp c (hd 14 28 _ _ rfl) (by decide) (fun v28 e28 => hat 30 rfl ?_)
    refine h_iln c (hd 15 30 _ _ rfl) (by rfl) (hat 31 rfl ?_)
    refine h_callSF c (M' := gM_tot) (gp_tot hG) (by decide +kernel) (wlkS (lkX12_316 hG) _ rfl rfl) (hd 16 31 _ _ rfl) [.int a] (rest := [.int v28]) (by rfl) ⟨⟨_, rfl, rf_in1 (by omega) (by omega), trivial⟩, trivial⟩ (Nat.le_of_ble_eq_true rfl) trivial (fun rv31 F31 fr31 rr31 pp31 sm_ => hat 34 rfl ?_)
    have e_ := (sm_ rfl).symm
    subst e_
    obtain ⟨a0_, x31, ea_, er_, hx31⟩ := pp31
    cases ea_; subst er_
    refine h_mul c (hd 17 34 _ _ rfl) e28 (by omega) (fun v34 e34 => hat 35 rfl ?_)
    refine h_iln c (hd 18 35 _ _ rfl) (by rfl) (hat 36 rfl ?_)
    refine h_callSF c (M' := dM_mlen) (dp_mlen hG) (by decide +kernel) (wlkS (lkX12_319 hG) _ rfl rfl) (hd 19 36 _ _ rfl) [.int a] (rest := [.int v34]) (by rfl) ⟨⟨_, rfl, rf_in1 (by omega) (by omega), trivial⟩, trivial⟩ (Nat.le_of_ble_eq_true rfl) trivial (fun rv36 F36 fr36 rr36 pp36 sm_ => hat 39 rfl ?_)
    have e_ := (sm_ rfl).symm
    subst e_
    obtain ⟨a0_, x36, ea_, er_, hx36⟩ := pp36
    cases ea_; subst er_
    refine h_add c (hd 20 39 _ _ rfl) (by omega) (fun v39 e39 => hat 40 rfl ?_)
    refine h_aln c (hd 21 40 _ _ rfl) (by rfl) (hat 41 rfl ?_)
    refine h_getR c (hd 22 41 _ _ rfl) efgX12_33 egnX12_33_114 (hat 44 rfl ?_)
    refine h_aln c (hd 23 44 _ _ rfl) (by rfl) (hat 45 rfl ?_)
    refine h_getI c (hd 24 45 _ _ rfl) efgX12_242 egnX12_242_114 (x := F 114 28) (rfl) (hat 48 rfl ?_)
    refine h_iald c (hd 25 48 _ _ rfl) ela_77 ⟨by omega, by omega⟩ (congrArg Int.toNat hbk) (x := F 77 0) (rfl) (hat 49 rfl ?_)
    refine h_rem c (hd 26 49 _ _ rfl) hbu (by decide) (by omega) (fun v49 e49 => hat 50 rfl ?_)
    refine h_isn c (hd 27 50 _ _ rfl) (by decide) (L' := [(2, .int v49), (0, .ref (G.2.1.1 114)), (1, .int a)]) (by rfl) (hat 51 rfl ?_)
    refine h_iln c (hd 28 51 _ _ rfl) (by rfl) (hat 52 rfl ?_)
    refine h_if c (hd 29 52 _ _ rfl) (tgt := 69) (by decide) (fun (h52 : 0 ≤ v49.toInt) => ?_) (fun (h52 : ¬ (0 ≤ v49.toInt)) => hat 55 rfl ?_)
    · skip
      refine h_iln c (hd 38 69 _ _ rfl) (by rfl) (hat 70 rfl ?_)
      exact h_iret c (hd 39 70 _ _ rfl) rfl ⟨a, _, rfl, rfl, by rw [e49]; omega⟩
    · skip
      exact absurd (by omega) h52
  · skip
    exact absurd (by omega) h18
def gM_bucket : rfM := ((⟨"NearSpellModel", "bucket", "(I)I"⟩, prog_14_method_73_code, 2, (some .int)), (7,500), ([.inr (.inl [114]), .inl (((-2147483648),2147483647,1),none)],[]), [(114,35)], [])
def ddEX12_bucket : List (Nat × Instr × Nat) := [(0,.iload_n 1,1),(1,.invokestatic 420,3),(4,.ifCond .eq 11,3),(7,.aload_n 0,1),(8,.iload_n 1,1),(9,.invokevirtual 369,3),(12,.goto 4,3),(15,.iconst (-1),1),(16,.ireturn,1)]
set_option maxRecDepth 100000 in
theorem dkEX12_bucket : rf_decs prog_14_method_73_code ddEX12_bucket := rf_decs_of (by decide +kernel)
set_option maxHeartbeats 8000000 in
set_option maxRecDepth 20000 in
theorem gp_bucket {G : rfG} (hG : okG G) : h_met G gM_bucket (fun _ F => (F 114 28).toInt = 0 ∧ (F 80 0).toInt = 0 ∧ (F 77 0).toInt = 13) (fun vs _ _ rv => ∃ a y : Int32, vs[1]? = some (.int a) ∧ rv = some (.int y) ∧ ((cbI a.toInt ∧ y.toInt = (7 * totI a.toInt + (lenI a.toInt : Int)) % 13) ∨ (¬ cbI a.toInt ∧ y.toInt = -1))) := by
  refine h_metOf hG.1 (by decide +kernel) (by decide) hG.2.2.1 (wflT hG flokX12) (wcsT hG csokX12) ?_
  intro vs w0 X hv_ hr hp c
  match vs, hv_ with
  | [_, _], ⟨⟨_, hj0, rfl⟩, ⟨a, rfl, hi_a, _⟩, _⟩ =>
  cases List.mem_singleton.mp hj0
  have hd : ∀ n pc i len, ddEX12_bucket[n]? = some (pc, i, len) → decode (mb gM_bucket) pc = .ok (i, len) := fun n pc i len h => hdk dkEX12_bucket n pc i len h
  show hW G X gM_bucket w0 0 [(0, .ref (G.2.1.1 114)), (1, .int a)] [] (hv w0)
  generalize hF0 : hv w0 = F at *
  refine h_iln c (hd 0 0 _ _ rfl) (by rfl) (hat 1 rfl ?_)
  refine h_callSF c (M' := dM_mcan) (dp_mcan hG) (by decide +kernel) (wlkS (lkX12_420 hG) _ rfl rfl) (hd 1 1 _ _ rfl) [.int a] (rest := []) (by rfl) ⟨⟨_, rfl, rf_in_top _, trivial⟩, trivial⟩ (Nat.le_of_ble_eq_true rfl) trivial (fun rv1 F1 fr1 rr1 pp1 sm_ => hat 4 rfl ?_)
  have e_ := (sm_ rfl).symm
  subst e_
  obtain ⟨a0_, x1, ea_, er_, hx1⟩ := pp1
  cases ea_; subst er_
  refine h_if c (hd 2 4 _ _ rfl) (tgt := 15) (by decide) (fun (h4 : x1.toInt = 0) => ?_) (fun (h4 : ¬ (x1.toInt = 0)) => hat 7 rfl ?_)
  · skip
    refine h_ic c (hd 7 15 _ _ rfl) (by decide) (fun v15 e15 => hat 16 rfl ?_)
    exact h_iret c (hd 8 16 _ _ rfl) rfl ⟨a, _, rfl, rfl, Or.inr ⟨(fun q => by rcases hx1 with h_ | h_; omega; exact h_.2 q), by omega⟩⟩
  · skip
    have ca_ : cbI a.toInt := by rcases hx1 with h_ | h_; exact h_.2; omega
    have ra_ := ca_.1
    have ra2_ := ca_.2.1
    refine h_aln c (hd 3 7 _ _ rfl) (by rfl) (hat 8 rfl ?_)
    refine h_iln c (hd 4 8 _ _ rfl) (by rfl) (hat 9 rfl ?_)
    refine h_callVF c (M' := gM_bk) (gp_bk hG) (by decide +kernel) (wlkV (lkX12_369 hG) _ rfl rfl) (j := 114) (by decide +kernel) (hd 5 9 _ _ rfl) [.int a] (rest := []) (by rfl) ⟨⟨114, by decide, rfl⟩, ⟨_, rfl, rf_in1 (by omega) (by omega), trivial⟩, trivial⟩ (Nat.le_of_ble_eq_true rfl) hp (fun rv9 F9 fr9 rr9 pp9 sm_ => hat 12 rfl ?_)
    obtain ⟨a_, x9, ea_, er_, hx9⟩ := pp9
    cases ea_; subst er_
    refine h_goto c (hd 6 12 _ _ rfl) (tgt := 16) (by decide) ?_
    exact h_iret c (hd 8 16 _ _ rfl) rfl ⟨a, _, rfl, rfl, Or.inl ⟨ca_, hx9⟩⟩
