/-! DISTANCE in the reference: steps (printed by wip/p15/d15d.py) -/
/-! what has been gone along when the loops stand at p, q -/
def gP (p q i j : Nat) : Prop := i < p ∨ (i = p ∧ j < q)
def gI (F F1 : HF) (p q : Nat) : Prop := (∀ j, bt (F1 96 0) j = bt (F 96 0) j) ∧ (∀ i, bt (F1 96 (i + 1)) 0 = bt (F 96 (i + 1)) 0) ∧ (∀ i j : Nat, (j : Int) < (F 114 45).toInt → gP p q i j → (bt (F1 96 (i + 1)) (j + 1) = true ↔ (bt (F 96 (i + 1)) (j + 1) = true ∨ (bt (F1 96 i) j = true ∧ (F 94 i).toInt = (F 95 j).toInt)))) ∧ ∀ i j : Nat, ¬ gP p q i j → bt (F1 96 (i + 1)) (j + 1) = bt (F 96 (i + 1)) (j + 1)
theorem gI_0 (F : HF) : gI F F 0 0 := ⟨fun _ => rfl, fun _ => rfl, fun i j _ h => by unfold gP at h; omega, fun _ _ _ => rfl⟩
theorem gI_no {F F1 : HF} {p q : Nat} (h : gI F F1 p q) (hc : ¬ (bt (F1 96 p) q = true ∧ (F 94 p).toInt = (F 95 q).toInt)) : gI F F1 p (q + 1) := by
  obtain ⟨h0, h1, h2, h3⟩ := h
  refine ⟨h0, h1, fun i j hj hp => ?_, fun i j hp => h3 i j (fun g => hp (by unfold gP at g ⊢; omega))⟩
  by_cases e : gP p q i j
  · exact h2 i j hj e
  · have e2 : i = p ∧ j = q := by unfold gP at e hp; omega
    obtain ⟨e3, e4⟩ := e2
    subst e3; subst e4
    rw [h3 _ _ e]
    exact ⟨Or.inl, fun g => g.elim id (fun g => absurd g hc)⟩
theorem gI_yes {F F1 : HF} {p q : Nat} {t : Int32} (h : gI F F1 p q) (hc : bt (F1 96 p) q = true) (he : (F 94 p).toInt = (F 95 q).toInt) (ht : ∀ k, bt t k = decide (k = q + 1)) : gI F (hupd F1 96 (p + 1) (F1 96 (p + 1) ||| t)) p (q + 1) := by
  obtain ⟨h0, h1, h2, h3⟩ := h
  have hr : ∀ i, i ≠ p + 1 → hupd F1 96 (p + 1) (F1 96 (p + 1) ||| t) 96 i = F1 96 i := fun i hi => by
    show (if i = p + 1 then _ else F1 96 i) = _
    rw [if_neg hi]
  have hs : ∀ k, bt (hupd F1 96 (p + 1) (F1 96 (p + 1) ||| t) 96 (p + 1)) k = (bt (F1 96 (p + 1)) k || decide (k = q + 1)) := fun k => by
    rw [hupd_s, b_or, ht]
  refine ⟨fun j => by rw [hr 0 (by omega)]; exact h0 j, fun i => ?_, fun i j hj hp => ?_, fun i j hp => ?_⟩
  · by_cases e : i = p
    · subst e; rw [hs, decide_eq_false (by omega), Bool.or_false]; exact h1 i
    · rw [hr _ (by omega)]; exact h1 i
  · have hi : i ≤ p := by unfold gP at hp; omega
    rw [hr i (by omega)]
    by_cases e : gP p q i j
    · rw [← h2 i j hj e]
      by_cases e2 : i = p
      · subst e2
        rw [hs, decide_eq_false (by unfold gP at e; omega), Bool.or_false]
      · rw [hr _ (by omega)]
    · have e2 : i = p ∧ j = q := by unfold gP at e hp; omega
      obtain ⟨e3, e4⟩ := e2
      subst e3; subst e4
      rw [hs, decide_eq_true rfl, Bool.or_true]
      exact ⟨fun _ => Or.inr ⟨hc, he⟩, fun _ => rfl⟩
  · have e : ¬ gP p q i j := fun g => hp (by unfold gP at g ⊢; omega)
    by_cases e2 : i = p
    · subst e2
      rw [hs, decide_eq_false (by unfold gP at hp; omega), Bool.or_false]
      exact h3 _ _ e
    · rw [hr _ (by omega)]; exact h3 _ _ e
theorem gI_next {F F1 : HF} {p q : Nat} (h : gI F F1 p q) (hb : (F 114 45).toInt ≤ (q : Int)) : gI F F1 (p + 1) 0 := by
  obtain ⟨h0, h1, h2, h3⟩ := h
  exact ⟨h0, h1, fun i j hj hp => h2 i j hj (by unfold gP at hp ⊢; omega), fun i j hp => h3 i j (fun g => hp (by unfold gP at g ⊢; omega))⟩
theorem gI_end {F F1 : HF} {p : Nat} (h : gI F F1 p 0) (ha : (F 114 44).toInt ≤ (p : Int)) : dAl (fun k => (F 94 k).toInt) (fun k => (F 95 k).toInt) (F 114 44).toInt.toNat (F 114 45).toInt.toNat (fun i j => bt (F 96 i) j = true) (fun i j => bt (F1 96 i) j = true) := by
  obtain ⟨h0, h1, h2, h3⟩ := h
  refine ⟨fun j _ => ?_, fun i _ => ?_, fun i j hi hj => h2 i j (by omega) (by unfold gP; omega)⟩
  · show bt (F1 96 0) j = true ↔ bt (F 96 0) j = true
    rw [h0]
  · show bt (F1 96 (i + 1)) 0 = true ↔ bt (F 96 (i + 1)) 0 = true
    rw [h1]
/-! swaps -/
def sW (F : HF) (i k : Nat) : Prop := bt (F 96 (i - 2)) (k - 2) = true ∧ (F 94 (i - 2)).toInt = (F 95 (k - 1)).toInt ∧ (F 94 (i - 1)).toInt = (F 95 (k - 2)).toInt
theorem sw_no {F : HF} {w : Int32} {i q : Nat} (h : ∀ k, bt w k = true ↔ (2 ≤ k ∧ k < q + 2 ∧ sW F i k)) (hc : ¬ sW F i (q + 2)) : ∀ k, bt w k = true ↔ (2 ≤ k ∧ k < q + 1 + 2 ∧ sW F i k) := fun k => by
  rw [h k]
  constructor
  · exact fun g => ⟨g.1, by omega, g.2.2⟩
  · intro g
    by_cases e : k = q + 2
    · subst e; exact absurd g.2.2 hc
    · exact ⟨g.1, by omega, g.2.2⟩
theorem sw_yes {F : HF} {w t : Int32} {i q : Nat} (h : ∀ k, bt w k = true ↔ (2 ≤ k ∧ k < q + 2 ∧ sW F i k)) (hc : sW F i (q + 2)) (ht : ∀ k, bt t k = decide (k = q + 2)) : ∀ k, bt (w ||| t) k = true ↔ (2 ≤ k ∧ k < q + 1 + 2 ∧ sW F i k) := fun k => by
  rw [b_or, ht, Bool.or_eq_true, h k, decide_eq_true_eq]
  constructor
  · rintro (g | g)
    · exact ⟨g.1, by omega, g.2.2⟩
    · subst g; exact ⟨by omega, by omega, hc⟩
  · intro g
    by_cases e : k = q + 2
    · exact Or.inr e
    · exact Or.inl ⟨g.1, by omega, g.2.2⟩
/-! one step -/
def Lv (B F : HF) (n : Int) : Prop := ∀ i k : Nat, (i : Int) ≤ (B 114 44).toInt → (k : Int) ≤ (B 114 45).toInt → (bt (F 96 i) k = true ↔ dst (fun k => (B 94 k).toInt) (fun k => (B 95 k).toInt) i k ≤ n)
theorem st_bits {c a s v v' : Int32} (hv : v.toInt = 1) (hv' : v'.toInt = 1) {k : Nat} (hk : k < 32) : bt ((((c ||| (c <<< (v &&& 31))) ||| a) ||| (a <<< (v' &&& 31))) ||| s) k = true ↔ (bt c k = true ∨ (1 ≤ k ∧ bt c (k - 1) = true) ∨ bt a k = true ∨ (1 ≤ k ∧ bt a (k - 1) = true) ∨ bt s k = true) := by
  rw [b_or, b_or, b_or, b_or, h_shl1 hv hk, h_shl1 hv' hk]
  simp only [Bool.or_eq_true, Bool.and_eq_true, decide_eq_true_eq, or_assoc]
theorem st_dZ {B : HF} {n : Int} {i k : Nat} (hL : Lv B B n) (hi : (i : Int) ≤ (B 114 44).toInt) (hk : (k : Int) ≤ (B 114 45).toInt) {c a s : Int32} (hc : c = B 96 i) (ha : ∀ k, bt a k = true ↔ (1 ≤ i ∧ bt (B 96 (i - 1)) k = true)) (hs : ∀ k, bt s k = true ↔ (2 ≤ i ∧ 2 ≤ k ∧ (k : Int) ≤ (B 114 45).toInt ∧ sW B i k)) : (bt c k = true ∨ (1 ≤ k ∧ bt c (k - 1) = true) ∨ bt a k = true ∨ (1 ≤ k ∧ bt a (k - 1) = true) ∨ bt s k = true) ↔ dZ (fun k => (B 94 k).toInt) (fun k => (B 95 k).toInt) n i k := by
  subst hc
  rw [ha, ha, hs]
  unfold dZ
  constructor
  · rintro (h | ⟨h1, h⟩ | ⟨h1, h⟩ | ⟨h1, h2, h⟩ | ⟨h1, h2, h3, h4, h5, h6⟩)
    · exact Or.inl ((hL i k hi hk).mp h)
    · exact Or.inr (Or.inl ⟨h1, (hL i (k - 1) hi (by omega)).mp h⟩)
    · exact Or.inr (Or.inr (Or.inl ⟨h1, (hL (i - 1) k (by omega) hk).mp h⟩))
    · exact Or.inr (Or.inr (Or.inr (Or.inl ⟨h2, h1, (hL (i - 1) (k - 1) (by omega) (by omega)).mp h⟩)))
    · exact Or.inr (Or.inr (Or.inr (Or.inr ⟨h1, h2, h5, h6, (hL (i - 2) (k - 2) (by omega) (by omega)).mp h4⟩)))
  · rintro (h | ⟨h1, h⟩ | ⟨h1, h⟩ | ⟨h1, h2, h⟩ | ⟨h1, h2, h5, h6, h4⟩)
    · exact Or.inl ((hL i k hi hk).mpr h)
    · exact Or.inr (Or.inl ⟨h1, (hL i (k - 1) hi (by omega)).mpr h⟩)
    · exact Or.inr (Or.inr (Or.inl ⟨h1, (hL (i - 1) k (by omega) hk).mpr h⟩))
    · exact Or.inr (Or.inr (Or.inr (Or.inl ⟨h2, h1, (hL (i - 1) (k - 1) (by omega) (by omega)).mpr h⟩)))
    · exact Or.inr (Or.inr (Or.inr (Or.inr ⟨h1, h2, hk, (hL (i - 2) (k - 2) (by omega) (by omega)).mpr h4, h5, h6⟩)))
theorem dAl_fr {B F F' : HF} (h : ∀ j k : Nat, j = 94 ∨ j = 95 ∨ j = 114 → F j k = B j k) (hd : dAl (fun k => (F 94 k).toInt) (fun k => (F 95 k).toInt) (F 114 44).toInt.toNat (F 114 45).toInt.toNat (fun i j => bt (F 96 i) j = true) (fun i j => bt (F' 96 i) j = true)) : dAl (fun k => (B 94 k).toInt) (fun k => (B 95 k).toInt) (B 114 44).toInt.toNat (B 114 45).toInt.toNat (fun i j => bt (F 96 i) j = true) (fun i j => bt (F' 96 i) j = true) := by
  have e1 : (fun k => (F 94 k).toInt) = (fun k => (B 94 k).toInt) := funext fun k => by rw [h 94 k (by omega)]
  have e2 : (fun k => (F 95 k).toInt) = (fun k => (B 95 k).toInt) := funext fun k => by rw [h 95 k (by omega)]
  rw [e1, e2, h 114 44 (by omega), h 114 45 (by omega)] at hd
  exact hd
theorem Lv_fr {F F1 F2 : HF} {n : Int} (fr : hframe [(96, 0), (97, 0)] F F1) (h : Lv F1 F2 n) : Lv F F2 n := by
  have e1 : (fun k => (F1 94 k).toInt) = (fun k => (F 94 k).toInt) := funext fun k => by rw [fr 94 k (by decide) (by rfl)]
  have e2 : (fun k => (F1 95 k).toInt) = (fun k => (F 95 k).toInt) := funext fun k => by rw [fr 95 k (by decide) (by rfl)]
  unfold Lv at h
  rw [e1, e2, fr 114 44 (by decide) (by rfl), fr 114 45 (by decide) (by rfl)] at h
  exact h
theorem Lv_to {F F1 F2 : HF} {n : Int} (fr : hframe [(96, 0), (97, 0)] F F1) (h : Lv F F2 n) : Lv F1 F2 n := by
  have e1 : (fun k => (F1 94 k).toInt) = (fun k => (F 94 k).toInt) := funext fun k => by rw [fr 94 k (by decide) (by rfl)]
  have e2 : (fun k => (F1 95 k).toInt) = (fun k => (F 95 k).toInt) := funext fun k => by rw [fr 95 k (by decide) (by rfl)]
  unfold Lv
  rw [e1, e2, fr 114 44 (by decide) (by rfl), fr 114 45 (by decide) (by rfl)]
  exact h
def dM_along : rfM := ((⟨"NearSpellModel", "goAlong", "()V"⟩, prog_14_method_58_code, 3, none), (4,200), ([.inr (.inl [114])],[]), [(96,0)], [])
def ddDX12_goAlong : List (Nat × Instr × Nat) := [(0,.iconst 0,1),(1,.istore_n 1,1),(2,.iload_n 1,1),(3,.aload_n 0,1),(4,.getfield 384,3),(7,.if_icmp .ge 67,3),(10,.iconst 0,1),(11,.istore_n 2,1),(12,.iload_n 2,1),(13,.aload_n 0,1),(14,.getfield 387,3),(17,.if_icmp .ge 51,3),(20,.aload_n 0,1),(21,.getfield 90,3),(24,.iload_n 1,1),(25,.iaload,1),(26,.iload_n 2,1),(27,.invokestatic 251,3),(30,.ifCond .eq 32,3),(33,.aload_n 0,1),(34,.getfield 84,3),(37,.iload_n 1,1),(38,.iaload,1),(39,.aload_n 0,1),(40,.getfield 87,3),(43,.iload_n 2,1),(44,.iaload,1),(45,.if_icmp .ne 17,3),(48,.aload_n 0,1),(49,.getfield 90,3),(52,.iload_n 1,1),(53,.iconst 1,1),(54,.iadd,1),(55,.dup2,1),(56,.iaload,1),(57,.iconst 2,1),(58,.iload_n 2,1),(59,.ishl,1),(60,.ior,1),(61,.iastore,1),(62,.iinc 2 1,3),(65,.goto (-53),3),(68,.iinc 1 1,3),(71,.goto (-69),3),(74,.return_,1)]
set_option maxRecDepth 100000 in
theorem dkDX12_goAlong : rf_decs prog_14_method_58_code ddDX12_goAlong := dd_of (by decide +kernel)
set_option maxHeartbeats 4000000 in
set_option maxRecDepth 20000 in
theorem dp_along {G : rfG} (hG : okG G) : h_met G dM_along (fun _ _ => True) (fun _ F F' rv => rv = none ∧ dAl (fun k => (F 94 k).toInt) (fun k => (F 95 k).toInt) (F 114 44).toInt.toNat (F 114 45).toInt.toNat (fun i j => bt (F 96 i) j = true) (fun i j => bt (F' 96 i) j = true)) := by
  refine h_metOf hG.1 (by decide +kernel) (by decide) hG.2.2.1 (wflT hG flokX12) (wcsT hG csokX12) ?_
  intro vs w0 X hv_ hr hp c
  match vs, hv_ with
  | [_], ⟨⟨_, hj0, rfl⟩, _⟩ =>
  cases List.mem_singleton.mp hj0
  have hd : ∀ n pc i len, ddDX12_goAlong[n]? = some (pc, i, len) → decode (mb dM_along) pc = .ok (i, len) := fun n pc i len h => hdk dkDX12_goAlong n pc i len h
  show hW G X dM_along w0 0 [(0, .ref (G.2.1.1 114))] [] (hv w0)
  generalize hF0 : hv w0 = F at *
  have ho : 0 ≤ (F 114 44).toInt ∧ (F 114 44).toInt ≤ 12 := hrg hr dly_114_44
  have ht : 0 ≤ (F 114 45).toInt ∧ (F 114 45).toInt ≤ 12 := hrg hr dly_114_45
  have K12 : ∀ (m : Nat) (w1 w2 : Int32) (F1 : HF), hframe [(96, 0)] F F1 → gI F F1 w1.toInt.toNat w2.toInt.toNat → 0 ≤ w1.toInt → w1.toInt < (F 114 44).toInt → 0 ≤ w2.toInt → w2.toInt ≤ 12 → m = (((F 114 44).toInt - w1.toInt) * 100 + (F 114 45).toInt - w2.toInt).toNat → hW G X dM_along w0 12 [(2, .int w2), (1, .int w1), (0, .ref (G.2.1.1 114))] [] F1 := by
    intro m
    induction m using Nat.strongRecOn with
    | ind m ih =>
    intro w1 w2 F1 fr1 hgi h10 h11 h20 h21 hm
    refine h_iln c (hd 8 12 _ _ rfl) (by rfl) (hat 13 rfl ?_)
    refine h_aln c (hd 9 13 _ _ rfl) (by rfl) (hat 14 rfl ?_)
    refine h_getI c (hd 10 14 _ _ rfl) dfgX12_387 dgnX12_387_114 (x := F 114 45) (fr1 114 45 (by decide) (by rfl)) (hat 17 rfl ?_)
    refine h_cmp c (hd 11 17 _ _ rfl) (tgt := 68) (by decide) (fun (h17 : (F 114 45).toInt ≤ w2.toInt) => ?_) (fun (h17 : ¬ ((F 114 45).toInt ≤ w2.toInt)) => hat 20 rfl ?_)
    · skip
      refine h_inc c (fun r_ => [(1, .int r_), (2, .int w2), (0, .ref (G.2.1.1 114))]) (hd 42 68 _ _ rfl) (by decide) (by decide) (by rfl) (by omega) (fun _ => by rfl) (fun v68 e68 => hat 71 rfl ?_)
      refine h_goto c (hd 43 71 _ _ rfl) (tgt := 2) (by decide) ?_
      refine h_iln c (hd 2 2 _ _ rfl) (by rfl) (hat 3 rfl ?_)
      refine h_aln c (hd 3 3 _ _ rfl) (by rfl) (hat 4 rfl ?_)
      refine h_getI c (hd 4 4 _ _ rfl) dfgX12_384 dgnX12_384_114 (x := F 114 44) (fr1 114 44 (by decide) (by rfl)) (hat 7 rfl ?_)
      refine h_cmp c (hd 5 7 _ _ rfl) (tgt := 74) (by decide) (fun (h7 : (F 114 44).toInt ≤ v68.toInt) => ?_) (fun (h7 : ¬ ((F 114 44).toInt ≤ v68.toInt)) => hat 10 rfl ?_)
      · skip
        exact h_vret c (hd 44 74 _ _ rfl) rfl ⟨rfl, gI_end (gI_next hgi (by omega)) (by omega)⟩
      · skip
        refine h_ic c (hd 6 10 _ _ rfl) (by decide) (fun v10 e10 => hat 11 rfl ?_)
        refine h_isn c (hd 7 11 _ _ rfl) (by decide) (L' := [(2, .int v10), (1, .int v68), (0, .ref (G.2.1.1 114))]) (by rfl) (hat 12 rfl ?_)
        exact h_less (L := [(2, .int v10), (1, .int v68), (0, .ref (G.2.1.1 114))]) (by simp) (ih (((F 114 44).toInt - v68.toInt) * 100 + (F 114 45).toInt - v10.toInt).toNat (by omega) _ _ _ fr1 (by rw [show v68.toInt.toNat = w1.toInt.toNat + 1 by omega, show v10.toInt.toNat = 0 by omega]; exact gI_next hgi (by omega)) (by omega) (by omega) (by omega) (by omega) rfl)
    · skip
      refine h_aln c (hd 12 20 _ _ rfl) (by rfl) (hat 21 rfl ?_)
      refine h_getR c (hd 13 21 _ _ rfl) dfgX12_90 dgnX12_90_114 (hat 24 rfl ?_)
      refine h_iln c (hd 14 24 _ _ rfl) (by rfl) (hat 25 rfl ?_)
      refine h_iald c (hd 15 25 _ _ rfl) dla_96 ⟨by omega, by omega⟩ rfl (x := F1 96 w1.toInt.toNat) (rfl) (hat 26 rfl ?_)
      refine h_iln c (hd 16 26 _ _ rfl) (by rfl) (hat 27 rfl ?_)
      refine h_callSF c (M' := dM_bit) (dp_bit hG) (by decide +kernel) (wlkS (lkX12_251 hG) _ rfl rfl) (hd 17 27 _ _ rfl) [.int (F1 96 w1.toInt.toNat), .int w2] (rest := []) (by rfl) ⟨⟨_, rfl, rf_in_top _, trivial⟩, ⟨_, rfl, rf_in1 (by omega) (by omega), trivial⟩, trivial⟩ (Nat.le_of_ble_eq_true rfl) trivial (fun rv27 F27 fr27 rr27 pp27 sm_ => hat 30 rfl ?_)
      have e_ := (sm_ rfl).symm
      subst e_
      obtain ⟨a_, n_, x27, ea_, er_, hx27⟩ := pp27
      cases ea_; subst er_
      refine h_if c (hd 18 30 _ _ rfl) (tgt := 62) (by decide) (fun (h30 : x27.toInt = 0) => ?_) (fun (h30 : ¬ (x27.toInt = 0)) => hat 33 rfl ?_)
      · skip
        refine h_inc c (fun r_ => [(2, .int r_), (1, .int w1), (0, .ref (G.2.1.1 114))]) (hd 40 62 _ _ rfl) (by decide) (by decide) (by rfl) (by omega) (fun _ => by rfl) (fun v62 e62 => hat 65 rfl ?_)
        refine h_goto c (hd 41 65 _ _ rfl) (tgt := 12) (by decide) ?_
        exact h_less (L := [(2, .int v62), (1, .int w1), (0, .ref (G.2.1.1 114))]) (by simp) (ih (((F 114 44).toInt - w1.toInt) * 100 + (F 114 45).toInt - v62.toInt).toNat (by omega) _ _ _ fr1 (by rw [show v62.toInt.toNat = w2.toInt.toNat + 1 by omega]; exact gI_no hgi (fun q => by rcases hx27 with h_ | h_; omega; rw [q.1] at h_; exact absurd h_.2 (by decide))) (by omega) (by omega) (by omega) (by omega) rfl)
      · skip
        refine h_aln c (hd 19 33 _ _ rfl) (by rfl) (hat 34 rfl ?_)
        refine h_getR c (hd 20 34 _ _ rfl) dfgX12_84 dgnX12_84_114 (hat 37 rfl ?_)
        refine h_iln c (hd 21 37 _ _ rfl) (by rfl) (hat 38 rfl ?_)
        refine h_iald c (hd 22 38 _ _ rfl) dla_94 ⟨by omega, by omega⟩ rfl (x := F 94 w1.toInt.toNat) (fr1 94 w1.toInt.toNat (by decide) (by rfl)) (hat 39 rfl ?_)
        refine h_aln c (hd 23 39 _ _ rfl) (by rfl) (hat 40 rfl ?_)
        refine h_getR c (hd 24 40 _ _ rfl) dfgX12_87 dgnX12_87_114 (hat 43 rfl ?_)
        refine h_iln c (hd 25 43 _ _ rfl) (by rfl) (hat 44 rfl ?_)
        refine h_iald c (hd 26 44 _ _ rfl) dla_95 ⟨by omega, by omega⟩ rfl (x := F 95 w2.toInt.toNat) (fr1 95 w2.toInt.toNat (by decide) (by rfl)) (hat 45 rfl ?_)
        refine h_cmp c (hd 27 45 _ _ rfl) (tgt := 62) (by decide) (fun (h45 : (F 94 w1.toInt.toNat).toInt ≠ (F 95 w2.toInt.toNat).toInt) => ?_) (fun (h45 : ¬ ((F 94 w1.toInt.toNat).toInt ≠ (F 95 w2.toInt.toNat).toInt)) => hat 48 rfl ?_)
        · skip
          refine h_inc c (fun r_ => [(2, .int r_), (1, .int w1), (0, .ref (G.2.1.1 114))]) (hd 40 62 _ _ rfl) (by decide) (by decide) (by rfl) (by omega) (fun _ => by rfl) (fun v62 e62 => hat 65 rfl ?_)
          refine h_goto c (hd 41 65 _ _ rfl) (tgt := 12) (by decide) ?_
          exact h_less (L := [(2, .int v62), (1, .int w1), (0, .ref (G.2.1.1 114))]) (by simp) (ih (((F 114 44).toInt - w1.toInt) * 100 + (F 114 45).toInt - v62.toInt).toNat (by omega) _ _ _ fr1 (by rw [show v62.toInt.toNat = w2.toInt.toNat + 1 by omega]; exact gI_no hgi (fun q => h45 q.2)) (by omega) (by omega) (by omega) (by omega) rfl)
        · skip
          refine h_aln c (hd 28 48 _ _ rfl) (by rfl) (hat 49 rfl ?_)
          refine h_getR c (hd 29 49 _ _ rfl) dfgX12_90 dgnX12_90_114 (hat 52 rfl ?_)
          refine h_iln c (hd 30 52 _ _ rfl) (by rfl) (hat 53 rfl ?_)
          refine h_ic c (hd 31 53 _ _ rfl) (by decide) (fun v53 e53 => hat 54 rfl ?_)
          refine h_add c (hd 32 54 _ _ rfl) (by omega) (fun v54 e54 => hat 55 rfl ?_)
          refine h_dup2 c (hd 33 55 _ _ rfl) (by rfl) (by rfl) (hat 56 rfl ?_)
          refine h_iald c (hd 34 56 _ _ rfl) dla_96 ⟨by omega, by omega⟩ (by omega) (x := F1 96 (w1.toInt.toNat + 1)) (rfl) (hat 57 rfl ?_)
          refine h_ic c (hd 35 57 _ _ rfl) (by decide) (fun v57 e57 => hat 58 rfl ?_)
          refine h_iln c (hd 36 58 _ _ rfl) (by rfl) (hat 59 rfl ?_)
          refine h_shl c (hd 37 59 _ _ rfl) (hat 60 rfl ?_)
          refine h_or c (hd 38 60 _ _ rfl) (hat 61 rfl ?_)
          refine h_iast c (k := (w1.toInt.toNat + 1)) (hd 39 61 _ _ rfl) dla_96 ⟨by omega, by omega⟩ (by omega) (by decide) (by decide) (hin1 (rf_in_top _)) (hat 62 rfl ?_)
          refine h_inc c (fun r_ => [(2, .int r_), (1, .int w1), (0, .ref (G.2.1.1 114))]) (hd 40 62 _ _ rfl) (by decide) (by decide) (by rfl) (by omega) (fun _ => by rfl) (fun v62 e62 => hat 65 rfl ?_)
          refine h_goto c (hd 41 65 _ _ rfl) (tgt := 12) (by decide) ?_
          exact h_less (L := [(2, .int v62), (1, .int w1), (0, .ref (G.2.1.1 114))]) (by simp) (ih (((F 114 44).toInt - w1.toInt) * 100 + (F 114 45).toInt - v62.toInt).toNat (by omega) _ _ _ (hframe_up fr1 (by rfl) _) (by rw [show v62.toInt.toNat = w2.toInt.toNat + 1 by omega]; exact gI_yes hgi (by rcases hx27 with h_ | h_; exact h_.2; omega) (Classical.not_not.mp h45) (h_two (by omega) (by omega) e57)) (by omega) (by omega) (by omega) (by omega) rfl)
  refine h_ic c (hd 0 0 _ _ rfl) (by decide) (fun v0 e0 => hat 1 rfl ?_)
  refine h_isn c (hd 1 1 _ _ rfl) (by decide) (L' := [(1, .int v0), (0, .ref (G.2.1.1 114))]) (by rfl) (hat 2 rfl ?_)
  refine h_iln c (hd 2 2 _ _ rfl) (by rfl) (hat 3 rfl ?_)
  refine h_aln c (hd 3 3 _ _ rfl) (by rfl) (hat 4 rfl ?_)
  refine h_getI c (hd 4 4 _ _ rfl) dfgX12_384 dgnX12_384_114 (x := F 114 44) (rfl) (hat 7 rfl ?_)
  refine h_cmp c (hd 5 7 _ _ rfl) (tgt := 74) (by decide) (fun (h7 : (F 114 44).toInt ≤ v0.toInt) => ?_) (fun (h7 : ¬ ((F 114 44).toInt ≤ v0.toInt)) => hat 10 rfl ?_)
  · skip
    exact h_vret c (hd 44 74 _ _ rfl) rfl ⟨rfl, gI_end (gI_0 F) (by omega)⟩
  · skip
    refine h_ic c (hd 6 10 _ _ rfl) (by decide) (fun v10 e10 => hat 11 rfl ?_)
    refine h_isn c (hd 7 11 _ _ rfl) (by decide) (L' := [(2, .int v10), (1, .int v0), (0, .ref (G.2.1.1 114))]) (by rfl) (hat 12 rfl ?_)
    exact h_less (L := [(2, .int v10), (1, .int v0), (0, .ref (G.2.1.1 114))]) (by simp) (K12 _ _ _ F (hframe_rf _ _) (by rw [show v0.toInt.toNat = 0 by omega, show v10.toInt.toNat = 0 by omega]; exact gI_0 F) (by omega) (by omega) (by omega) (by omega) rfl)
def dM_swp : rfM := ((⟨"NearSpellModel", "swapsAt", "(I)I"⟩, prog_14_method_59_code, 4, (some .int)), (4,200), ([.inr (.inl [114]), .inl ((0,12,1),none)],[]), [], [])
def ddDX12_swapsAt : List (Nat × Instr × Nat) := [(0,.iconst 0,1),(1,.istore_n 2,1),(2,.iload_n 1,1),(3,.iconst 2,1),(4,.if_icmp .ge 5,3),(7,.iload_n 2,1),(8,.ireturn,1),(9,.iconst 0,1),(10,.istore_n 3,1),(11,.iload_n 3,1),(12,.iconst 2,1),(13,.iadd,1),(14,.aload_n 0,1),(15,.getfield 387,3),(18,.if_icmp .gt 66,3),(21,.aload_n 0,1),(22,.getfield 90,3),(25,.iload_n 1,1),(26,.iconst 2,1),(27,.isub,1),(28,.iaload,1),(29,.iload_n 3,1),(30,.invokestatic 251,3),(33,.ifCond .eq 45,3),(36,.aload_n 0,1),(37,.getfield 84,3),(40,.iload_n 1,1),(41,.iconst 2,1),(42,.isub,1),(43,.iaload,1),(44,.aload_n 0,1),(45,.getfield 87,3),(48,.iload_n 3,1),(49,.iconst 1,1),(50,.iadd,1),(51,.iaload,1),(52,.if_icmp .ne 26,3),(55,.aload_n 0,1),(56,.getfield 84,3),(59,.iload_n 1,1),(60,.iconst 1,1),(61,.isub,1),(62,.iaload,1),(63,.aload_n 0,1),(64,.getfield 87,3),(67,.iload_n 3,1),(68,.iaload,1),(69,.if_icmp .ne 9,3),(72,.iload_n 2,1),(73,.iconst 4,1),(74,.iload_n 3,1),(75,.ishl,1),(76,.ior,1),(77,.istore_n 2,1),(78,.iinc 3 1,3),(81,.goto (-70),3),(84,.iload_n 2,1),(85,.ireturn,1)]
set_option maxRecDepth 100000 in
theorem dkDX12_swapsAt : rf_decs prog_14_method_59_code ddDX12_swapsAt := dd_of (by decide +kernel)
set_option maxHeartbeats 4000000 in
set_option maxRecDepth 20000 in
theorem dp_swp {G : rfG} (hG : okG G) : h_met G dM_swp (fun _ _ => True) (fun vs F _ rv => ∃ i x : Int32, vs[1]? = some (.int i) ∧ rv = some (.int x) ∧ ∀ k : Nat, bt x k = true ↔ (2 ≤ i.toInt.toNat ∧ 2 ≤ k ∧ (k : Int) ≤ (F 114 45).toInt ∧ sW F i.toInt.toNat k)) := by
  refine h_metOf hG.1 (by decide +kernel) (by decide) hG.2.2.1 (wflT hG flokX12) (wcsT hG csokX12) ?_
  intro vs w0 X hv_ hr hp c
  match vs, hv_ with
  | [_, _], ⟨⟨_, hj0, rfl⟩, ⟨i, rfl, hi_i, _⟩, _⟩ =>
  cases List.mem_singleton.mp hj0
  have hd : ∀ n pc i len, ddDX12_swapsAt[n]? = some (pc, i, len) → decode (mb dM_swp) pc = .ok (i, len) := fun n pc i len h => hdk dkDX12_swapsAt n pc i len h
  show hW G X dM_swp w0 0 [(0, .ref (G.2.1.1 114)), (1, .int i)] [] (hv w0)
  generalize hF0 : hv w0 = F at *
  have hi : 0 ≤ i.toInt ∧ i.toInt ≤ 12 := ⟨hi_i.1, hi_i.2.1⟩
  have ho : 0 ≤ (F 114 44).toInt ∧ (F 114 44).toInt ≤ 12 := hrg hr dly_114_44
  have ht : 0 ≤ (F 114 45).toInt ∧ (F 114 45).toInt ≤ 12 := hrg hr dly_114_45
  have K11 : 2 ≤ i.toInt → ∀ (m : Nat) (w3 w2 : Int32), (∀ k : Nat, bt w2 k = true ↔ (2 ≤ k ∧ k < w3.toInt.toNat + 2 ∧ sW F i.toInt.toNat k)) → 0 ≤ w3.toInt → (w3.toInt + 1 ≤ (F 114 45).toInt ∨ w3.toInt = 0) → m = ((F 114 45).toInt - w3.toInt).toNat → hW G X dM_swp w0 11 [(3, .int w3), (2, .int w2), (1, .int i), (0, .ref (G.2.1.1 114))] [] F := by
    intro hi2 m
    induction m using Nat.strongRecOn with
    | ind m ih =>
    intro w3 w2 hsw h30 h31 hm
    refine h_iln c (hd 9 11 _ _ rfl) (by rfl) (hat 12 rfl ?_)
    refine h_ic c (hd 10 12 _ _ rfl) (by decide) (fun v12 e12 => hat 13 rfl ?_)
    refine h_add c (hd 11 13 _ _ rfl) (by omega) (fun v13 e13 => hat 14 rfl ?_)
    refine h_aln c (hd 12 14 _ _ rfl) (by rfl) (hat 15 rfl ?_)
    refine h_getI c (hd 13 15 _ _ rfl) dfgX12_387 dgnX12_387_114 (x := F 114 45) (rfl) (hat 18 rfl ?_)
    refine h_cmp c (hd 14 18 _ _ rfl) (tgt := 84) (by decide) (fun (h18 : (F 114 45).toInt < v13.toInt) => ?_) (fun (h18 : ¬ ((F 114 45).toInt < v13.toInt)) => hat 21 rfl ?_)
    · skip
      refine h_iln c (hd 56 84 _ _ rfl) (by rfl) (hat 85 rfl ?_)
      exact h_iret c (hd 57 85 _ _ rfl) rfl ⟨i, _, rfl, rfl, fun k => by
        rw [hsw k]
        constructor
        · exact fun q => ⟨by omega, q.1, by have := q.2.1; omega, q.2.2⟩
        · exact fun q => ⟨q.2.1, by have := q.2.2.1; omega, q.2.2.2⟩⟩
    · skip
      refine h_aln c (hd 15 21 _ _ rfl) (by rfl) (hat 22 rfl ?_)
      refine h_getR c (hd 16 22 _ _ rfl) dfgX12_90 dgnX12_90_114 (hat 25 rfl ?_)
      refine h_iln c (hd 17 25 _ _ rfl) (by rfl) (hat 26 rfl ?_)
      refine h_ic c (hd 18 26 _ _ rfl) (by decide) (fun v26 e26 => hat 27 rfl ?_)
      refine h_sub c (hd 19 27 _ _ rfl) (by omega) (fun v27 e27 => hat 28 rfl ?_)
      refine h_iald c (hd 20 28 _ _ rfl) dla_96 ⟨by omega, by omega⟩ (by omega) (x := F 96 (i.toInt.toNat - 2)) (rfl) (hat 29 rfl ?_)
      refine h_iln c (hd 21 29 _ _ rfl) (by rfl) (hat 30 rfl ?_)
      refine h_callSF c (M' := dM_bit) (dp_bit hG) (by decide +kernel) (wlkS (lkX12_251 hG) _ rfl rfl) (hd 22 30 _ _ rfl) [.int (F 96 (i.toInt.toNat - 2)), .int w3] (rest := []) (by rfl) ⟨⟨_, rfl, rf_in_top _, trivial⟩, ⟨_, rfl, rf_in1 (by omega) (by omega), trivial⟩, trivial⟩ (Nat.le_of_ble_eq_true rfl) trivial (fun rv30 F30 fr30 rr30 pp30 sm_ => hat 33 rfl ?_)
      have e_ := (sm_ rfl).symm
      subst e_
      obtain ⟨a_, n_, x30, ea_, er_, hx30⟩ := pp30
      cases ea_; subst er_
      refine h_if c (hd 23 33 _ _ rfl) (tgt := 78) (by decide) (fun (h33 : x30.toInt = 0) => ?_) (fun (h33 : ¬ (x30.toInt = 0)) => hat 36 rfl ?_)
      · skip
        refine h_inc c (fun r_ => [(3, .int r_), (2, .int w2), (1, .int i), (0, .ref (G.2.1.1 114))]) (hd 54 78 _ _ rfl) (by decide) (by decide) (by rfl) (by omega) (fun _ => by rfl) (fun v78 e78 => hat 81 rfl ?_)
        refine h_goto c (hd 55 81 _ _ rfl) (tgt := 11) (by decide) ?_
        exact h_less (L := [(3, .int v78), (2, .int w2), (1, .int i), (0, .ref (G.2.1.1 114))]) (by simp) (ih ((F 114 45).toInt - v78.toInt).toNat (by omega) _ _ (by rw [show v78.toInt.toNat = w3.toInt.toNat + 1 by omega]; exact sw_no hsw (fun q => by rcases hx30 with h_ | h_; omega; have q1_ : bt (F 96 (i.toInt.toNat - 2)) w3.toInt.toNat = true := q.1; rw [q1_] at h_; exact absurd h_.2 (by decide))) (by omega) (by omega) rfl)
      · skip
        refine h_aln c (hd 24 36 _ _ rfl) (by rfl) (hat 37 rfl ?_)
        refine h_getR c (hd 25 37 _ _ rfl) dfgX12_84 dgnX12_84_114 (hat 40 rfl ?_)
        refine h_iln c (hd 26 40 _ _ rfl) (by rfl) (hat 41 rfl ?_)
        refine h_ic c (hd 27 41 _ _ rfl) (by decide) (fun v41 e41 => hat 42 rfl ?_)
        refine h_sub c (hd 28 42 _ _ rfl) (by omega) (fun v42 e42 => hat 43 rfl ?_)
        refine h_iald c (hd 29 43 _ _ rfl) dla_94 ⟨by omega, by omega⟩ (by omega) (x := F 94 (i.toInt.toNat - 2)) (rfl) (hat 44 rfl ?_)
        refine h_aln c (hd 30 44 _ _ rfl) (by rfl) (hat 45 rfl ?_)
        refine h_getR c (hd 31 45 _ _ rfl) dfgX12_87 dgnX12_87_114 (hat 48 rfl ?_)
        refine h_iln c (hd 32 48 _ _ rfl) (by rfl) (hat 49 rfl ?_)
        refine h_ic c (hd 33 49 _ _ rfl) (by decide) (fun v49 e49 => hat 50 rfl ?_)
        refine h_add c (hd 34 50 _ _ rfl) (by omega) (fun v50 e50 => hat 51 rfl ?_)
        refine h_iald c (hd 35 51 _ _ rfl) dla_95 ⟨by omega, by omega⟩ (by omega) (x := F 95 (w3.toInt.toNat + 1)) (rfl) (hat 52 rfl ?_)
        refine h_cmp c (hd 36 52 _ _ rfl) (tgt := 78) (by decide) (fun (h52 : (F 94 (i.toInt.toNat - 2)).toInt ≠ (F 95 (w3.toInt.toNat + 1)).toInt) => ?_) (fun (h52 : ¬ ((F 94 (i.toInt.toNat - 2)).toInt ≠ (F 95 (w3.toInt.toNat + 1)).toInt)) => hat 55 rfl ?_)
        · skip
          refine h_inc c (fun r_ => [(3, .int r_), (2, .int w2), (1, .int i), (0, .ref (G.2.1.1 114))]) (hd 54 78 _ _ rfl) (by decide) (by decide) (by rfl) (by omega) (fun _ => by rfl) (fun v78 e78 => hat 81 rfl ?_)
          refine h_goto c (hd 55 81 _ _ rfl) (tgt := 11) (by decide) ?_
          exact h_less (L := [(3, .int v78), (2, .int w2), (1, .int i), (0, .ref (G.2.1.1 114))]) (by simp) (ih ((F 114 45).toInt - v78.toInt).toNat (by omega) _ _ (by rw [show v78.toInt.toNat = w3.toInt.toNat + 1 by omega]; exact sw_no hsw (fun q => h52 q.2.1)) (by omega) (by omega) rfl)
        · skip
          refine h_aln c (hd 37 55 _ _ rfl) (by rfl) (hat 56 rfl ?_)
          refine h_getR c (hd 38 56 _ _ rfl) dfgX12_84 dgnX12_84_114 (hat 59 rfl ?_)
          refine h_iln c (hd 39 59 _ _ rfl) (by rfl) (hat 60 rfl ?_)
          refine h_ic c (hd 40 60 _ _ rfl) (by decide) (fun v60 e60 => hat 61 rfl ?_)
          refine h_sub c (hd 41 61 _ _ rfl) (by omega) (fun v61 e61 => hat 62 rfl ?_)
          refine h_iald c (hd 42 62 _ _ rfl) dla_94 ⟨by omega, by omega⟩ (by omega) (x := F 94 (i.toInt.toNat - 1)) (rfl) (hat 63 rfl ?_)
          refine h_aln c (hd 43 63 _ _ rfl) (by rfl) (hat 64 rfl ?_)
          refine h_getR c (hd 44 64 _ _ rfl) dfgX12_87 dgnX12_87_114 (hat 67 rfl ?_)
          refine h_iln c (hd 45 67 _ _ rfl) (by rfl) (hat 68 rfl ?_)
          refine h_iald c (hd 46 68 _ _ rfl) dla_95 ⟨by omega, by omega⟩ rfl (x := F 95 w3.toInt.toNat) (rfl) (hat 69 rfl ?_)
          refine h_cmp c (hd 47 69 _ _ rfl) (tgt := 78) (by decide) (fun (h69 : (F 94 (i.toInt.toNat - 1)).toInt ≠ (F 95 w3.toInt.toNat).toInt) => ?_) (fun (h69 : ¬ ((F 94 (i.toInt.toNat - 1)).toInt ≠ (F 95 w3.toInt.toNat).toInt)) => hat 72 rfl ?_)
          · skip
            refine h_inc c (fun r_ => [(3, .int r_), (2, .int w2), (1, .int i), (0, .ref (G.2.1.1 114))]) (hd 54 78 _ _ rfl) (by decide) (by decide) (by rfl) (by omega) (fun _ => by rfl) (fun v78 e78 => hat 81 rfl ?_)
            refine h_goto c (hd 55 81 _ _ rfl) (tgt := 11) (by decide) ?_
            exact h_less (L := [(3, .int v78), (2, .int w2), (1, .int i), (0, .ref (G.2.1.1 114))]) (by simp) (ih ((F 114 45).toInt - v78.toInt).toNat (by omega) _ _ (by rw [show v78.toInt.toNat = w3.toInt.toNat + 1 by omega]; exact sw_no hsw (fun q => h69 q.2.2)) (by omega) (by omega) rfl)
          · skip
            refine h_iln c (hd 48 72 _ _ rfl) (by rfl) (hat 73 rfl ?_)
            refine h_ic c (hd 49 73 _ _ rfl) (by decide) (fun v73 e73 => hat 74 rfl ?_)
            refine h_iln c (hd 50 74 _ _ rfl) (by rfl) (hat 75 rfl ?_)
            refine h_shl c (hd 51 75 _ _ rfl) (hat 76 rfl ?_)
            refine h_or c (hd 52 76 _ _ rfl) (hat 77 rfl ?_)
            refine h_isn c (hd 53 77 _ _ rfl) (by decide) (L' := [(2, .int (w2 ||| (v73 <<< (w3 &&& 31)))), (3, .int w3), (1, .int i), (0, .ref (G.2.1.1 114))]) (by rfl) (hat 78 rfl ?_)
            refine h_inc c (fun r_ => [(3, .int r_), (2, .int (w2 ||| (v73 <<< (w3 &&& 31)))), (1, .int i), (0, .ref (G.2.1.1 114))]) (hd 54 78 _ _ rfl) (by decide) (by decide) (by rfl) (by omega) (fun _ => by rfl) (fun v78 e78 => hat 81 rfl ?_)
            refine h_goto c (hd 55 81 _ _ rfl) (tgt := 11) (by decide) ?_
            exact h_less (L := [(3, .int v78), (2, .int (w2 ||| (v73 <<< (w3 &&& 31)))), (1, .int i), (0, .ref (G.2.1.1 114))]) (by simp) (ih ((F 114 45).toInt - v78.toInt).toNat (by omega) _ _ (by rw [show v78.toInt.toNat = w3.toInt.toNat + 1 by omega]; exact sw_yes hsw ⟨(by rcases hx30 with h_ | h_; exact h_.2; omega), (Classical.not_not.mp h52), (Classical.not_not.mp h69)⟩ (h_four (by omega) (by omega) e73)) (by omega) (by omega) rfl)
  refine h_ic c (hd 0 0 _ _ rfl) (by decide) (fun v0 e0 => hat 1 rfl ?_)
  refine h_isn c (hd 1 1 _ _ rfl) (by decide) (L' := [(2, .int v0), (0, .ref (G.2.1.1 114)), (1, .int i)]) (by rfl) (hat 2 rfl ?_)
  refine h_iln c (hd 2 2 _ _ rfl) (by rfl) (hat 3 rfl ?_)
  refine h_ic c (hd 3 3 _ _ rfl) (by decide) (fun v3 e3 => hat 4 rfl ?_)
  refine h_cmp c (hd 4 4 _ _ rfl) (tgt := 9) (by decide) (fun (h4 : v3.toInt ≤ i.toInt) => ?_) (fun (h4 : ¬ (v3.toInt ≤ i.toInt)) => hat 7 rfl ?_)
  · skip
    refine h_ic c (hd 7 9 _ _ rfl) (by decide) (fun v9 e9 => hat 10 rfl ?_)
    refine h_isn c (hd 8 10 _ _ rfl) (by decide) (L' := [(3, .int v9), (2, .int v0), (0, .ref (G.2.1.1 114)), (1, .int i)]) (by rfl) (hat 11 rfl ?_)
    exact h_less (L := [(3, .int v9), (2, .int v0), (1, .int i), (0, .ref (G.2.1.1 114))]) (by simp) (K11 (by omega) _ _ _ (fun k => by
      have z_ : v0 = 0 := Int32.toInt_inj.mp (by rw [e0]; decide +kernel)
      rw [z_, b_0]
      exact ⟨fun q => absurd q (by decide), fun q => by have := q.1; have := q.2.1; omega⟩) (by omega) (by omega) rfl)
  · skip
    refine h_iln c (hd 5 7 _ _ rfl) (by rfl) (hat 8 rfl ?_)
    exact h_iret c (hd 6 8 _ _ rfl) rfl ⟨i, _, rfl, rfl, fun k => by
      have z_ : v0 = 0 := Int32.toInt_inj.mp (by rw [e0]; decide +kernel)
      rw [z_, b_0]
      exact ⟨fun q => absurd q (by decide), fun q => by have := q.1; omega⟩⟩
def dM_step : rfM := ((⟨"NearSpellModel", "goStep", "()V"⟩, prog_14_method_60_code, 3, none), (7,500), ([.inr (.inl [114])],[]), [(96,0),(97,0)], [])
def ddDX12_goStep : List (Nat × Instr × Nat) := [(0,.iconst 0,1),(1,.istore_n 1,1),(2,.iload_n 1,1),(3,.aload_n 0,1),(4,.getfield 384,3),(7,.if_icmp .gt 59,3),(10,.iload_n 1,1),(11,.ifCond .ne 7,3),(14,.iconst 0,1),(15,.goto 11,3),(18,.aload_n 0,1),(19,.getfield 90,3),(22,.iload_n 1,1),(23,.iconst 1,1),(24,.isub,1),(25,.iaload,1),(26,.istore_n 2,1),(27,.aload_n 0,1),(28,.getfield 93,3),(31,.iload_n 1,1),(32,.aload_n 0,1),(33,.getfield 90,3),(36,.iload_n 1,1),(37,.iaload,1),(38,.aload_n 0,1),(39,.getfield 90,3),(42,.iload_n 1,1),(43,.iaload,1),(44,.iconst 1,1),(45,.ishl,1),(46,.ior,1),(47,.iload_n 2,1),(48,.ior,1),(49,.iload_n 2,1),(50,.iconst 1,1),(51,.ishl,1),(52,.ior,1),(53,.aload_n 0,1),(54,.iload_n 1,1),(55,.invokevirtual 390,3),(58,.ior,1),(59,.iastore,1),(60,.iinc 1 1,3),(63,.goto (-61),3),(66,.iconst 0,1),(67,.istore_n 1,1),(68,.iload_n 1,1),(69,.aload_n 0,1),(70,.getfield 384,3),(73,.if_icmp .gt 30,3),(76,.aload_n 0,1),(77,.getfield 90,3),(80,.iload_n 1,1),(81,.aload_n 0,1),(82,.getfield 93,3),(85,.iload_n 1,1),(86,.iaload,1),(87,.iconst 2,1),(88,.aload_n 0,1),(89,.getfield 387,3),(92,.ishl,1),(93,.iconst 1,1),(94,.isub,1),(95,.iand,1),(96,.iastore,1),(97,.iinc 1 1,3),(100,.goto (-32),3),(103,.aload_n 0,1),(104,.invokevirtual 393,3),(107,.return_,1)]
set_option maxRecDepth 100000 in
theorem dkDX12_goStep : rf_decs prog_14_method_60_code ddDX12_goStep := dd_of (by decide +kernel)
set_option maxHeartbeats 4000000 in
set_option maxRecDepth 20000 in
theorem dp_step {G : rfG} (hG : okG G) (n : Nat) : h_met G dM_step (fun _ F => Lv F F (n : Int)) (fun _ F F' rv => rv = none ∧ Lv F F' ((n : Int) + 1)) := by
  refine h_metOf hG.1 (by decide +kernel) (by decide) hG.2.2.1 (wflT hG flokX12) (wcsT hG csokX12) ?_
  intro vs w0 X hv_ hr hp c
  match vs, hv_ with
  | [_], ⟨⟨_, hj0, rfl⟩, _⟩ =>
  cases List.mem_singleton.mp hj0
  have hd : ∀ n pc i len, ddDX12_goStep[n]? = some (pc, i, len) → decode (mb dM_step) pc = .ok (i, len) := fun n pc i len h => hdk dkDX12_goStep n pc i len h
  show hW G X dM_step w0 0 [(0, .ref (G.2.1.1 114))] [] (hv w0)
  generalize hF0 : hv w0 = F at *
  have ho : 0 ≤ (F 114 44).toInt ∧ (F 114 44).toInt ≤ 12 := hrg hr dly_114_44
  have ht : 0 ≤ (F 114 45).toInt ∧ (F 114 45).toInt ≤ 12 := hrg hr dly_114_45
  have K68 : ∀ (m : Nat) (w1 : Int32) (F1 : HF), hframe [(96, 0), (97, 0)] F F1 → (∀ i k : Nat, (i : Int) ≤ (F 114 44).toInt → (k : Int) ≤ (F 114 45).toInt → (bt (F1 97 i) k = true ↔ dZ (fun k => (F 94 k).toInt) (fun k => (F 95 k).toInt) (n : Int) i k)) → (∀ i k : Nat, (i : Int) < w1.toInt → (i : Int) ≤ (F 114 44).toInt → (k : Int) ≤ (F 114 45).toInt → (bt (F1 96 i) k = true ↔ dZ (fun k => (F 94 k).toInt) (fun k => (F 95 k).toInt) (n : Int) i k)) → 0 ≤ w1.toInt → w1.toInt ≤ 13 → m = ((F 114 44).toInt + 1 - w1.toInt).toNat → hW G X dM_step w0 68 [(1, .int w1), (0, .ref (G.2.1.1 114))] [] F1 := by
    intro m
    induction m using Nat.strongRecOn with
    | ind m ih =>
    intro w1 F1 fr1 hta hcw h10 h11 hm
    refine h_iln c (hd 46 68 _ _ rfl) (by rfl) (hat 69 rfl ?_)
    refine h_aln c (hd 47 69 _ _ rfl) (by rfl) (hat 70 rfl ?_)
    refine h_getI c (hd 48 70 _ _ rfl) dfgX12_384 dgnX12_384_114 (x := F 114 44) (fr1 114 44 (by decide) (by rfl)) (hat 73 rfl ?_)
    refine h_cmp c (hd 49 73 _ _ rfl) (tgt := 103) (by decide) (fun (h73 : (F 114 44).toInt < w1.toInt) => ?_) (fun (h73 : ¬ ((F 114 44).toInt < w1.toInt)) => hat 76 rfl ?_)
    · skip
      refine h_aln c (hd 67 103 _ _ rfl) (by rfl) (hat 104 rfl ?_)
      refine h_callVF c (M' := dM_along) (dp_along hG) (by decide +kernel) (wlkV (dlkX12_393 hG) _ rfl rfl) (j := 114) (by decide +kernel) (hd 68 104 _ _ rfl) [] (rest := []) (by rfl) ⟨⟨114, by decide, rfl⟩, trivial⟩ (Nat.le_of_ble_eq_true rfl) trivial (fun rv104 F104 fr104 rr104 pp104 sm_ => hat 107 rfl ?_)
      obtain ⟨er_, hq104⟩ := pp104
      subst er_
      have hd_ := dAl_fr (B := F) (fun j k hj => by rcases hj with e_ | e_ | e_ <;> (subst e_; exact fr1 _ k (by decide) (by rfl))) hq104
      have hz_ := dAl_step (n := (n : Int)) (by omega) (fun i j hi hj => hcw i j (by omega) (by omega) (by omega)) hd_
      exact h_vret c (hd 69 107 _ _ rfl) rfl ⟨rfl, fun i k g1 g2 => hz_ i k (by omega) (by omega)⟩
    · skip
      refine h_aln c (hd 50 76 _ _ rfl) (by rfl) (hat 77 rfl ?_)
      refine h_getR c (hd 51 77 _ _ rfl) dfgX12_90 dgnX12_90_114 (hat 80 rfl ?_)
      refine h_iln c (hd 52 80 _ _ rfl) (by rfl) (hat 81 rfl ?_)
      refine h_aln c (hd 53 81 _ _ rfl) (by rfl) (hat 82 rfl ?_)
      refine h_getR c (hd 54 82 _ _ rfl) dfgX12_93 dgnX12_93_114 (hat 85 rfl ?_)
      refine h_iln c (hd 55 85 _ _ rfl) (by rfl) (hat 86 rfl ?_)
      refine h_iald c (hd 56 86 _ _ rfl) dla_97 ⟨by omega, by omega⟩ rfl (x := F1 97 w1.toInt.toNat) (rfl) (hat 87 rfl ?_)
      refine h_ic c (hd 57 87 _ _ rfl) (by decide) (fun v87 e87 => hat 88 rfl ?_)
      refine h_aln c (hd 58 88 _ _ rfl) (by rfl) (hat 89 rfl ?_)
      refine h_getI c (hd 59 89 _ _ rfl) dfgX12_387 dgnX12_387_114 (x := F 114 45) (fr1 114 45 (by decide) (by rfl)) (hat 92 rfl ?_)
      refine h_shl c (hd 60 92 _ _ rfl) (hat 93 rfl ?_)
      refine h_ic c (hd 61 93 _ _ rfl) (by decide) (fun v93 e93 => hat 94 rfl ?_)
      refine h_subW c (hd 62 94 _ _ rfl) (hat 95 rfl ?_)
      refine h_and c (hd 63 95 _ _ rfl) (hat 96 rfl ?_)
      refine h_iast c (hd 64 96 _ _ rfl) dla_96 ⟨by omega, by omega⟩ rfl (by decide) (by decide) (hin1 (rf_in_top _)) (hat 97 rfl ?_)
      refine h_inc c (fun r_ => [(1, .int r_), (0, .ref (G.2.1.1 114))]) (hd 65 97 _ _ rfl) (by decide) (by decide) (by rfl) (by omega) (fun _ => by rfl) (fun v97 e97 => hat 100 rfl ?_)
      refine h_goto c (hd 66 100 _ _ rfl) (tgt := 68) (by decide) ?_
      refine h_less (L := [(1, .int v97), (0, .ref (G.2.1.1 114))]) (by simp) (ih ((F 114 44).toInt + 1 - v97.toInt).toNat (by omega) _ _ (hframe_up fr1 (by rfl) _) hta (fun i k g1 g2 g3 => ?_) (by omega) (by omega) rfl)
      show bt (if i = w1.toInt.toNat then (F1 97 w1.toInt.toNat) &&& ((v87 <<< ((F 114 45) &&& 31)) - v93) else F1 96 i) k = true ↔ _
      by_cases e_ : i = w1.toInt.toNat
      · rw [if_pos e_, b_and, ← e_, h_mask ht.1 ht.2 e87 e93 g3, Bool.and_true]; exact hta i k g2 g3
      · rw [if_neg e_]; exact hcw i k (by omega) g2 g3
  have K2 : ∀ (m : Nat) (w1 : Int32) (F1 : HF), hframe [(97, 0)] F F1 → (∀ i k : Nat, (i : Int) < w1.toInt → (i : Int) ≤ (F 114 44).toInt → (k : Int) ≤ (F 114 45).toInt → (bt (F1 97 i) k = true ↔ dZ (fun k => (F 94 k).toInt) (fun k => (F 95 k).toInt) (n : Int) i k)) → 0 ≤ w1.toInt → w1.toInt ≤ 13 → m = ((F 114 44).toInt + 1 - w1.toInt).toNat → hW G X dM_step w0 2 [(1, .int w1), (0, .ref (G.2.1.1 114))] [] F1 := by
    intro m
    induction m using Nat.strongRecOn with
    | ind m ih =>
    intro w1 F1 fr1 htw h10 h11 hm
    refine h_iln c (hd 2 2 _ _ rfl) (by rfl) (hat 3 rfl ?_)
    refine h_aln c (hd 3 3 _ _ rfl) (by rfl) (hat 4 rfl ?_)
    refine h_getI c (hd 4 4 _ _ rfl) dfgX12_384 dgnX12_384_114 (x := F 114 44) (fr1 114 44 (by decide) (by rfl)) (hat 7 rfl ?_)
    refine h_cmp c (hd 5 7 _ _ rfl) (tgt := 66) (by decide) (fun (h7 : (F 114 44).toInt < w1.toInt) => ?_) (fun (h7 : ¬ ((F 114 44).toInt < w1.toInt)) => hat 10 rfl ?_)
    · skip
      refine h_ic c (hd 44 66 _ _ rfl) (by decide) (fun v66 e66 => hat 67 rfl ?_)
      refine h_isn c (hd 45 67 _ _ rfl) (by decide) (L' := [(1, .int v66), (0, .ref (G.2.1.1 114))]) (by rfl) (hat 68 rfl ?_)
      exact h_less (L := [(1, .int v66), (0, .ref (G.2.1.1 114))]) (by simp) (K68 _ _ F1 (hframe_tr (hframe_rf [(96, 0), (97, 0)] F) fr1 (by decide)) (fun i k g1 g2 => htw i k (by omega) g1 g2) (fun i k g1 => by omega) (by omega) (by omega) rfl)
    · skip
      refine h_iln c (hd 6 10 _ _ rfl) (by rfl) (hat 11 rfl ?_)
      refine h_if c (hd 7 11 _ _ rfl) (tgt := 18) (by decide) (fun (h11 : w1.toInt ≠ 0) => ?_) (fun (h11 : ¬ (w1.toInt ≠ 0)) => hat 14 rfl ?_)
      · skip
        refine h_aln c (hd 10 18 _ _ rfl) (by rfl) (hat 19 rfl ?_)
        refine h_getR c (hd 11 19 _ _ rfl) dfgX12_90 dgnX12_90_114 (hat 22 rfl ?_)
        refine h_iln c (hd 12 22 _ _ rfl) (by rfl) (hat 23 rfl ?_)
        refine h_ic c (hd 13 23 _ _ rfl) (by decide) (fun v23 e23 => hat 24 rfl ?_)
        refine h_sub c (hd 14 24 _ _ rfl) (by omega) (fun v24 e24 => hat 25 rfl ?_)
        refine h_iald c (hd 15 25 _ _ rfl) dla_96 ⟨by omega, by omega⟩ (by omega) (x := F 96 (w1.toInt.toNat - 1)) (fr1 96 (w1.toInt.toNat - 1) (by decide) (by rfl)) (hat 26 rfl ?_)
        refine h_isn c (hd 16 26 _ _ rfl) (by decide) (L' := [(2, .int (F 96 (w1.toInt.toNat - 1))), (1, .int w1), (0, .ref (G.2.1.1 114))]) (by rfl) (hat 27 rfl ?_)
        refine h_aln c (hd 17 27 _ _ rfl) (by rfl) (hat 28 rfl ?_)
        refine h_getR c (hd 18 28 _ _ rfl) dfgX12_93 dgnX12_93_114 (hat 31 rfl ?_)
        refine h_iln c (hd 19 31 _ _ rfl) (by rfl) (hat 32 rfl ?_)
        refine h_aln c (hd 20 32 _ _ rfl) (by rfl) (hat 33 rfl ?_)
        refine h_getR c (hd 21 33 _ _ rfl) dfgX12_90 dgnX12_90_114 (hat 36 rfl ?_)
        refine h_iln c (hd 22 36 _ _ rfl) (by rfl) (hat 37 rfl ?_)
        refine h_iald c (hd 23 37 _ _ rfl) dla_96 ⟨by omega, by omega⟩ rfl (x := F 96 w1.toInt.toNat) (fr1 96 w1.toInt.toNat (by decide) (by rfl)) (hat 38 rfl ?_)
        refine h_aln c (hd 24 38 _ _ rfl) (by rfl) (hat 39 rfl ?_)
        refine h_getR c (hd 25 39 _ _ rfl) dfgX12_90 dgnX12_90_114 (hat 42 rfl ?_)
        refine h_iln c (hd 26 42 _ _ rfl) (by rfl) (hat 43 rfl ?_)
        refine h_iald c (hd 27 43 _ _ rfl) dla_96 ⟨by omega, by omega⟩ rfl (x := F 96 w1.toInt.toNat) (fr1 96 w1.toInt.toNat (by decide) (by rfl)) (hat 44 rfl ?_)
        refine h_ic c (hd 28 44 _ _ rfl) (by decide) (fun v44 e44 => hat 45 rfl ?_)
        refine h_shl c (hd 29 45 _ _ rfl) (hat 46 rfl ?_)
        refine h_or c (hd 30 46 _ _ rfl) (hat 47 rfl ?_)
        refine h_iln c (hd 31 47 _ _ rfl) (by rfl) (hat 48 rfl ?_)
        refine h_or c (hd 32 48 _ _ rfl) (hat 49 rfl ?_)
        refine h_iln c (hd 33 49 _ _ rfl) (by rfl) (hat 50 rfl ?_)
        refine h_ic c (hd 34 50 _ _ rfl) (by decide) (fun v50 e50 => hat 51 rfl ?_)
        refine h_shl c (hd 35 51 _ _ rfl) (hat 52 rfl ?_)
        refine h_or c (hd 36 52 _ _ rfl) (hat 53 rfl ?_)
        refine h_aln c (hd 37 53 _ _ rfl) (by rfl) (hat 54 rfl ?_)
        refine h_iln c (hd 38 54 _ _ rfl) (by rfl) (hat 55 rfl ?_)
        refine h_callVF c (M' := dM_swp) (dp_swp hG) (by decide +kernel) (wlkV (dlkX12_390 hG) _ rfl rfl) (j := 114) (by decide +kernel) (hd 39 55 _ _ rfl) [.int w1] (rest := [.int ((((F 96 w1.toInt.toNat) ||| ((F 96 w1.toInt.toNat) <<< (v44 &&& 31))) ||| (F 96 (w1.toInt.toNat - 1))) ||| ((F 96 (w1.toInt.toNat - 1)) <<< (v50 &&& 31))), .int w1, .ref (G.2.1.1 97)]) (by rfl) ⟨⟨114, by decide, rfl⟩, ⟨_, rfl, rf_in1 (by omega) (by omega), trivial⟩, trivial⟩ (Nat.le_of_ble_eq_true rfl) trivial (fun rv55 F55 fr55 rr55 pp55 sm_ => hat 58 rfl ?_)
        have e_ := (sm_ rfl).symm
        subst e_
        obtain ⟨i_, x55, ei_, er_, hx55⟩ := pp55
        cases ei_; subst er_
        have hx55 : ∀ k : Nat, bt x55 k = true ↔ (2 ≤ w1.toInt.toNat ∧ 2 ≤ k ∧ (k : Int) ≤ (F 114 45).toInt ∧ sW F w1.toInt.toNat k) := fun k => by
          have q_ := hx55 k
          unfold sW at q_ ⊢
          have e94_ : ∀ k, F1 94 k = F 94 k := fun k => fr1 94 k (by decide) (by rfl)
          have e95_ : ∀ k, F1 95 k = F 95 k := fun k => fr1 95 k (by decide) (by rfl)
          have e96_ : ∀ k, F1 96 k = F 96 k := fun k => fr1 96 k (by decide) (by rfl)
          rw [fr1 114 45 (by decide) (by rfl), e96_, e94_, e94_, e95_, e95_] at q_
          exact q_
        refine h_or c (hd 40 58 _ _ rfl) (hat 59 rfl ?_)
        refine h_iast c (hd 41 59 _ _ rfl) dla_97 ⟨by omega, by omega⟩ rfl (by decide) (by decide) (hin1 (rf_in_top _)) (hat 60 rfl ?_)
        refine h_inc c (fun r_ => [(1, .int r_), (2, .int (F 96 (w1.toInt.toNat - 1))), (0, .ref (G.2.1.1 114))]) (hd 42 60 _ _ rfl) (by decide) (by decide) (by rfl) (by omega) (fun _ => by rfl) (fun v60 e60 => hat 63 rfl ?_)
        refine h_goto c (hd 43 63 _ _ rfl) (tgt := 2) (by decide) ?_
        have hnw : ∀ k : Nat, (k : Int) ≤ (F 114 45).toInt → (bt (((((F 96 w1.toInt.toNat) ||| ((F 96 w1.toInt.toNat) <<< (v44 &&& 31))) ||| (F 96 (w1.toInt.toNat - 1))) ||| ((F 96 (w1.toInt.toNat - 1)) <<< (v50 &&& 31))) ||| x55) k = true ↔ dZ (fun k => (F 94 k).toInt) (fun k => (F 95 k).toInt) (n : Int) w1.toInt.toNat k) := fun k g3 => by
          rw [st_bits e44 e50 (by omega)]
          exact st_dZ (B := F) hp (by omega) g3 rfl (fun k => ⟨fun q => ⟨by omega, q⟩, fun q => q.2⟩) hx55
        refine h_less (L := [(1, .int v60), (0, .ref (G.2.1.1 114))]) (by simp) (ih ((F 114 44).toInt + 1 - v60.toInt).toNat (by omega) _ _ (hframe_up fr1 (by rfl) _) (fun i k g1 g2 g3 => ?_) (by omega) (by omega) rfl)
        show bt (if i = w1.toInt.toNat then ((((F 96 w1.toInt.toNat) ||| ((F 96 w1.toInt.toNat) <<< (v44 &&& 31))) ||| (F 96 (w1.toInt.toNat - 1))) ||| ((F 96 (w1.toInt.toNat - 1)) <<< (v50 &&& 31))) ||| x55 else F1 97 i) k = true ↔ _
        by_cases e_ : i = w1.toInt.toNat
        · rw [if_pos e_, e_]; exact hnw k g3
        · rw [if_neg e_]; exact htw i k (by omega) g2 g3
      · skip
        refine h_ic c (hd 8 14 _ _ rfl) (by decide) (fun v14 e14 => hat 15 rfl ?_)
        refine h_goto c (hd 9 15 _ _ rfl) (tgt := 26) (by decide) ?_
        refine h_isn c (hd 16 26 _ _ rfl) (by decide) (L' := [(2, .int v14), (1, .int w1), (0, .ref (G.2.1.1 114))]) (by rfl) (hat 27 rfl ?_)
        refine h_aln c (hd 17 27 _ _ rfl) (by rfl) (hat 28 rfl ?_)
        refine h_getR c (hd 18 28 _ _ rfl) dfgX12_93 dgnX12_93_114 (hat 31 rfl ?_)
        refine h_iln c (hd 19 31 _ _ rfl) (by rfl) (hat 32 rfl ?_)
        refine h_aln c (hd 20 32 _ _ rfl) (by rfl) (hat 33 rfl ?_)
        refine h_getR c (hd 21 33 _ _ rfl) dfgX12_90 dgnX12_90_114 (hat 36 rfl ?_)
        refine h_iln c (hd 22 36 _ _ rfl) (by rfl) (hat 37 rfl ?_)
        refine h_iald c (hd 23 37 _ _ rfl) dla_96 ⟨by omega, by omega⟩ rfl (x := F 96 w1.toInt.toNat) (fr1 96 w1.toInt.toNat (by decide) (by rfl)) (hat 38 rfl ?_)
        refine h_aln c (hd 24 38 _ _ rfl) (by rfl) (hat 39 rfl ?_)
        refine h_getR c (hd 25 39 _ _ rfl) dfgX12_90 dgnX12_90_114 (hat 42 rfl ?_)
        refine h_iln c (hd 26 42 _ _ rfl) (by rfl) (hat 43 rfl ?_)
        refine h_iald c (hd 27 43 _ _ rfl) dla_96 ⟨by omega, by omega⟩ rfl (x := F 96 w1.toInt.toNat) (fr1 96 w1.toInt.toNat (by decide) (by rfl)) (hat 44 rfl ?_)
        refine h_ic c (hd 28 44 _ _ rfl) (by decide) (fun v44 e44 => hat 45 rfl ?_)
        refine h_shl c (hd 29 45 _ _ rfl) (hat 46 rfl ?_)
        refine h_or c (hd 30 46 _ _ rfl) (hat 47 rfl ?_)
        refine h_iln c (hd 31 47 _ _ rfl) (by rfl) (hat 48 rfl ?_)
        refine h_or c (hd 32 48 _ _ rfl) (hat 49 rfl ?_)
        refine h_iln c (hd 33 49 _ _ rfl) (by rfl) (hat 50 rfl ?_)
        refine h_ic c (hd 34 50 _ _ rfl) (by decide) (fun v50 e50 => hat 51 rfl ?_)
        refine h_shl c (hd 35 51 _ _ rfl) (hat 52 rfl ?_)
        refine h_or c (hd 36 52 _ _ rfl) (hat 53 rfl ?_)
        refine h_aln c (hd 37 53 _ _ rfl) (by rfl) (hat 54 rfl ?_)
        refine h_iln c (hd 38 54 _ _ rfl) (by rfl) (hat 55 rfl ?_)
        refine h_callVF c (M' := dM_swp) (dp_swp hG) (by decide +kernel) (wlkV (dlkX12_390 hG) _ rfl rfl) (j := 114) (by decide +kernel) (hd 39 55 _ _ rfl) [.int w1] (rest := [.int ((((F 96 w1.toInt.toNat) ||| ((F 96 w1.toInt.toNat) <<< (v44 &&& 31))) ||| v14) ||| (v14 <<< (v50 &&& 31))), .int w1, .ref (G.2.1.1 97)]) (by rfl) ⟨⟨114, by decide, rfl⟩, ⟨_, rfl, rf_in1 (by omega) (by omega), trivial⟩, trivial⟩ (Nat.le_of_ble_eq_true rfl) trivial (fun rv55 F55 fr55 rr55 pp55 sm_ => hat 58 rfl ?_)
        have e_ := (sm_ rfl).symm
        subst e_
        obtain ⟨i_, x55, ei_, er_, hx55⟩ := pp55
        cases ei_; subst er_
        have hx55 : ∀ k : Nat, bt x55 k = true ↔ (2 ≤ w1.toInt.toNat ∧ 2 ≤ k ∧ (k : Int) ≤ (F 114 45).toInt ∧ sW F w1.toInt.toNat k) := fun k => by
          have q_ := hx55 k
          unfold sW at q_ ⊢
          have e94_ : ∀ k, F1 94 k = F 94 k := fun k => fr1 94 k (by decide) (by rfl)
          have e95_ : ∀ k, F1 95 k = F 95 k := fun k => fr1 95 k (by decide) (by rfl)
          have e96_ : ∀ k, F1 96 k = F 96 k := fun k => fr1 96 k (by decide) (by rfl)
          rw [fr1 114 45 (by decide) (by rfl), e96_, e94_, e94_, e95_, e95_] at q_
          exact q_
        refine h_or c (hd 40 58 _ _ rfl) (hat 59 rfl ?_)
        refine h_iast c (hd 41 59 _ _ rfl) dla_97 ⟨by omega, by omega⟩ rfl (by decide) (by decide) (hin1 (rf_in_top _)) (hat 60 rfl ?_)
        refine h_inc c (fun r_ => [(1, .int r_), (2, .int v14), (0, .ref (G.2.1.1 114))]) (hd 42 60 _ _ rfl) (by decide) (by decide) (by rfl) (by omega) (fun _ => by rfl) (fun v60 e60 => hat 63 rfl ?_)
        refine h_goto c (hd 43 63 _ _ rfl) (tgt := 2) (by decide) ?_
        have hnw : ∀ k : Nat, (k : Int) ≤ (F 114 45).toInt → (bt (((((F 96 w1.toInt.toNat) ||| ((F 96 w1.toInt.toNat) <<< (v44 &&& 31))) ||| v14) ||| (v14 <<< (v50 &&& 31))) ||| x55) k = true ↔ dZ (fun k => (F 94 k).toInt) (fun k => (F 95 k).toInt) (n : Int) w1.toInt.toNat k) := fun k g3 => by
          rw [st_bits e44 e50 (by omega)]
          exact st_dZ (B := F) hp (by omega) g3 rfl (fun k => by have z_ : v14 = 0 := Int32.toInt_inj.mp (by rw [e14]; decide +kernel); rw [z_, b_0]; exact ⟨fun q => absurd q (by decide), fun q => by have := q.1; omega⟩) hx55
        refine h_less (L := [(1, .int v60), (0, .ref (G.2.1.1 114))]) (by simp) (ih ((F 114 44).toInt + 1 - v60.toInt).toNat (by omega) _ _ (hframe_up fr1 (by rfl) _) (fun i k g1 g2 g3 => ?_) (by omega) (by omega) rfl)
        show bt (if i = w1.toInt.toNat then ((((F 96 w1.toInt.toNat) ||| ((F 96 w1.toInt.toNat) <<< (v44 &&& 31))) ||| v14) ||| (v14 <<< (v50 &&& 31))) ||| x55 else F1 97 i) k = true ↔ _
        by_cases e_ : i = w1.toInt.toNat
        · rw [if_pos e_, e_]; exact hnw k g3
        · rw [if_neg e_]; exact htw i k (by omega) g2 g3
  refine h_ic c (hd 0 0 _ _ rfl) (by decide) (fun v0 e0 => hat 1 rfl ?_)
  refine h_isn c (hd 1 1 _ _ rfl) (by decide) (L' := [(1, .int v0), (0, .ref (G.2.1.1 114))]) (by rfl) (hat 2 rfl ?_)
  exact h_less (L := [(1, .int v0), (0, .ref (G.2.1.1 114))]) (by simp) (K2 _ _ F (hframe_rf _ _) (fun i k g1 => by omega) (by omega) (by omega) rfl)
def dM_now : rfM := ((⟨"NearSpellModel", "stepsNow", "()I"⟩, prog_14_method_61_code, 2, (some .int)), (9,700), ([.inr (.inl [114])],[]), [(96,0),(97,0)], [])
def ddDX12_stepsNow : List (Nat × Instr × Nat) := [(0,.iconst 0,1),(1,.istore_n 1,1),(2,.iload_n 1,1),(3,.aload_n 0,1),(4,.getfield 384,3),(7,.if_icmp .gt 16,3),(10,.aload_n 0,1),(11,.getfield 90,3),(14,.iload_n 1,1),(15,.iconst 0,1),(16,.iastore,1),(17,.iinc 1 1,3),(20,.goto (-18),3),(23,.aload_n 0,1),(24,.getfield 90,3),(27,.iconst 0,1),(28,.iconst 1,1),(29,.iastore,1),(30,.aload_n 0,1),(31,.invokevirtual 393,3),(34,.iconst 0,1),(35,.istore_n 1,1),(36,.iload_n 1,1),(37,.bipush 13,2),(39,.if_icmp .ge 32,3),(42,.aload_n 0,1),(43,.getfield 90,3),(46,.aload_n 0,1),(47,.getfield 384,3),(50,.iaload,1),(51,.aload_n 0,1),(52,.getfield 387,3),(55,.invokestatic 251,3),(58,.ifCond .ne 13,3),(61,.aload_n 0,1),(62,.invokevirtual 396,3),(65,.iinc 1 1,3),(68,.goto (-32),3),(71,.iload_n 1,1),(72,.ireturn,1)]
set_option maxRecDepth 100000 in
theorem dkDX12_stepsNow : rf_decs prog_14_method_61_code ddDX12_stepsNow := dd_of (by decide +kernel)
set_option maxHeartbeats 4000000 in
set_option maxRecDepth 20000 in
theorem dp_now {G : rfG} (hG : okG G) : h_met G dM_now (fun _ F => (F 114 44).toInt ≤ 6 ∧ (F 114 45).toInt ≤ 6) (fun _ F _ rv => ∃ x : Int32, rv = some (.int x) ∧ x.toInt = dst (fun k => (F 94 k).toInt) (fun k => (F 95 k).toInt) (F 114 44).toInt.toNat (F 114 45).toInt.toNat) := by
  refine h_metOf hG.1 (by decide +kernel) (by decide) hG.2.2.1 (wflT hG flokX12) (wcsT hG csokX12) ?_
  intro vs w0 X hv_ hr hp c
  match vs, hv_ with
  | [_], ⟨⟨_, hj0, rfl⟩, _⟩ =>
  cases List.mem_singleton.mp hj0
  have hd : ∀ n pc i len, ddDX12_stepsNow[n]? = some (pc, i, len) → decode (mb dM_now) pc = .ok (i, len) := fun n pc i len h => hdk dkDX12_stepsNow n pc i len h
  show hW G X dM_now w0 0 [(0, .ref (G.2.1.1 114))] [] (hv w0)
  generalize hF0 : hv w0 = F at *
  have ho : 0 ≤ (F 114 44).toInt ∧ (F 114 44).toInt ≤ 12 := hrg hr dly_114_44
  have ht : 0 ≤ (F 114 45).toInt ∧ (F 114 45).toInt ≤ 12 := hrg hr dly_114_45
  have hhi := dst_hi (x := (fun k => (F 94 k).toInt)) (y := (fun k => (F 95 k).toInt)) (F 114 44).toInt.toNat (F 114 45).toInt.toNat

  have K36 : ∀ (m : Nat) (w1 : Int32) (F1 : HF), hframe [(96, 0), (97, 0)] F F1 → Lv F F1 w1.toInt → w1.toInt ≤ dst (fun k => (F 94 k).toInt) (fun k => (F 95 k).toInt) (F 114 44).toInt.toNat (F 114 45).toInt.toNat → 0 ≤ w1.toInt → w1.toInt ≤ 12 → m = (13 - w1.toInt).toNat → hW G X dM_now w0 36 [(1, .int w1), (0, .ref (G.2.1.1 114))] [] F1 := by
    intro m
    induction m using Nat.strongRecOn with
    | ind m ih =>
    intro w1 F1 fr1 hiv hdw h10 h11 hm
    refine h_iln c (hd 22 36 _ _ rfl) (by rfl) (hat 37 rfl ?_)
    refine h_bp c (hd 23 37 _ _ rfl) (by decide) (fun v37 e37 => hat 39 rfl ?_)
    refine h_cmp c (hd 24 39 _ _ rfl) (tgt := 71) (by decide) (fun (h39 : v37.toInt ≤ w1.toInt) => ?_) (fun (h39 : ¬ (v37.toInt ≤ w1.toInt)) => hat 42 rfl ?_)
    · skip
      exact absurd h39 (by omega)
    · skip
      refine h_aln c (hd 25 42 _ _ rfl) (by rfl) (hat 43 rfl ?_)
      refine h_getR c (hd 26 43 _ _ rfl) dfgX12_90 dgnX12_90_114 (hat 46 rfl ?_)
      refine h_aln c (hd 27 46 _ _ rfl) (by rfl) (hat 47 rfl ?_)
      refine h_getI c (hd 28 47 _ _ rfl) dfgX12_384 dgnX12_384_114 (x := F 114 44) (fr1 114 44 (by decide) (by rfl)) (hat 50 rfl ?_)
      refine h_iald c (hd 29 50 _ _ rfl) dla_96 ⟨by omega, by omega⟩ (by omega) (x := F1 96 ((F 114 44).toInt.toNat)) (rfl) (hat 51 rfl ?_)
      refine h_aln c (hd 30 51 _ _ rfl) (by rfl) (hat 52 rfl ?_)
      refine h_getI c (hd 31 52 _ _ rfl) dfgX12_387 dgnX12_387_114 (x := F 114 45) (fr1 114 45 (by decide) (by rfl)) (hat 55 rfl ?_)
      refine h_callSF c (M' := dM_bit) (dp_bit hG) (by decide +kernel) (wlkS (lkX12_251 hG) _ rfl rfl) (hd 32 55 _ _ rfl) [.int (F1 96 ((F 114 44).toInt.toNat)), .int (F 114 45)] (rest := []) (by rfl) ⟨⟨_, rfl, rf_in_top _, trivial⟩, ⟨_, rfl, rf_in1 (by omega) (by omega), trivial⟩, trivial⟩ (Nat.le_of_ble_eq_true rfl) trivial (fun rv55 F55 fr55 rr55 pp55 sm_ => hat 58 rfl ?_)
      have e_ := (sm_ rfl).symm
      subst e_
      obtain ⟨a_, n_, x55, ea_, er_, hx55⟩ := pp55
      cases ea_; subst er_
      have hl_ := hiv (F 114 44).toInt.toNat (F 114 45).toInt.toNat (by omega) (by omega)
      have hle_ : (x55.toInt = 1 ∧ dst (fun k => (F 94 k).toInt) (fun k => (F 95 k).toInt) (F 114 44).toInt.toNat (F 114 45).toInt.toNat ≤ w1.toInt) ∨ (x55.toInt = 0 ∧ ¬ dst (fun k => (F 94 k).toInt) (fun k => (F 95 k).toInt) (F 114 44).toInt.toNat (F 114 45).toInt.toNat ≤ w1.toInt) := by
        rcases hx55 with h_ | h_
        · exact Or.inl ⟨h_.1, hl_.mp h_.2⟩
        · exact Or.inr ⟨h_.1, fun q => by rw [hl_.mpr q] at h_; exact absurd h_.2 (by decide)⟩
      refine h_if c (hd 33 58 _ _ rfl) (tgt := 71) (by decide) (fun (h58 : x55.toInt ≠ 0) => ?_) (fun (h58 : ¬ (x55.toInt ≠ 0)) => hat 61 rfl ?_)
      · skip
        refine h_iln c (hd 38 71 _ _ rfl) (by rfl) (hat 72 rfl ?_)
        exact h_iret c (hd 39 72 _ _ rfl) rfl ⟨_, rfl, by omega⟩
      · skip
        refine h_aln c (hd 34 61 _ _ rfl) (by rfl) (hat 62 rfl ?_)
        refine h_callVF c (M' := dM_step) (dp_step hG w1.toInt.toNat) (by decide +kernel) (wlkV (dlkX12_396 hG) _ rfl rfl) (j := 114) (by decide +kernel) (hd 35 62 _ _ rfl) [] (rest := []) (by rfl) ⟨⟨114, by decide, rfl⟩, trivial⟩ (Nat.le_of_ble_eq_true rfl) (by rw [show (w1.toInt.toNat : Int) = w1.toInt by omega]; exact Lv_to fr1 hiv) (fun rv62 F62 fr62 rr62 pp62 sm_ => hat 65 rfl ?_)
        obtain ⟨er_, hq62⟩ := pp62
        subst er_
        refine h_inc c (fun r_ => [(1, .int r_), (0, .ref (G.2.1.1 114))]) (hd 36 65 _ _ rfl) (by decide) (by decide) (by rfl) (by omega) (fun _ => by rfl) (fun v65 e65 => hat 68 rfl ?_)
        refine h_goto c (hd 37 68 _ _ rfl) (tgt := 36) (by decide) ?_
        exact h_less (L := [(1, .int v65), (0, .ref (G.2.1.1 114))]) (by simp) (ih (13 - v65.toInt).toNat (by omega) _ _ (hframe_tr fr1 fr62 (by decide)) (by rw [show v65.toInt = (w1.toInt.toNat : Int) + 1 by omega]; exact Lv_fr fr1 hq62) (by omega) (by omega) (by omega) rfl)
  have K23 : ∀ (w1 : Int32) (F1 : HF), hframe [(96, 0)] F F1 → (∀ i k : Nat, (i : Int) ≤ (F 114 44).toInt → bt (F1 96 i) k = false) → hW G X dM_now w0 23 [(1, .int w1), (0, .ref (G.2.1.1 114))] [] F1 := by
    intro w1 F1 fr1 hz
    refine h_aln c (hd 13 23 _ _ rfl) (by rfl) (hat 24 rfl ?_)
    refine h_getR c (hd 14 24 _ _ rfl) dfgX12_90 dgnX12_90_114 (hat 27 rfl ?_)
    refine h_ic c (hd 15 27 _ _ rfl) (by decide) (fun v27 e27 => hat 28 rfl ?_)
    refine h_ic c (hd 16 28 _ _ rfl) (by decide) (fun v28 e28 => hat 29 rfl ?_)
    refine h_iast c (hd 17 29 _ _ rfl) dla_96 ⟨by omega, by omega⟩ (congrArg Int.toNat e27) (by decide) (by decide) (rf_in_top _) (hat 30 rfl ?_)
    refine h_aln c (hd 18 30 _ _ rfl) (by rfl) (hat 31 rfl ?_)
    refine h_callVF c (M' := dM_along) (dp_along hG) (by decide +kernel) (wlkV (dlkX12_393 hG) _ rfl rfl) (j := 114) (by decide +kernel) (hd 19 31 _ _ rfl) [] (rest := []) (by rfl) ⟨⟨114, by decide, rfl⟩, trivial⟩ (Nat.le_of_ble_eq_true rfl) trivial (fun rv31 F31 fr31 rr31 pp31 sm_ => hat 34 rfl ?_)
    obtain ⟨er_, hq31⟩ := pp31
    subst er_
    refine h_ic c (hd 20 34 _ _ rfl) (by decide) (fun v34 e34 => hat 35 rfl ?_)
    refine h_isn c (hd 21 35 _ _ rfl) (by decide) (L' := [(1, .int v34), (0, .ref (G.2.1.1 114))]) (by rfl) (hat 36 rfl ?_)
    have hd_ := dAl_fr (B := F) (fun j k hj => by rcases hj with e_ | e_ | e_ <;> (subst e_; exact fr1 _ k (by decide) (by rfl))) hq31
    have hz_ := dAl_first (fun i j hi hj => by
      show bt (if i = 0 then v28 else F1 96 i) j = true ↔ _
      by_cases e_ : i = 0
      · rw [if_pos e_]
        cases h_c1 e28
        rw [b_1 j (by omega), decide_eq_true_eq]
        omega
      · rw [if_neg e_, hz i j (by omega)]
        exact ⟨fun q => absurd q (by decide), fun q => absurd q.1 e_⟩) hd_
    exact h_less (L := [(1, .int v34), (0, .ref (G.2.1.1 114))]) (by simp) (K36 _ _ _ (hframe_tr (hframe_rf [(96, 0), (97, 0)] F) (hframe_tr (hframe_up fr1 (by rfl) _) fr31 (by decide)) (by decide)) (fun i k g1 g2 => by rw [show v34.toInt = 0 by omega]; exact hz_ i k (by omega) (by omega)) (by have := dst_lo (x := (fun k => (F 94 k).toInt)) (y := (fun k => (F 95 k).toInt)) _ (F 114 44).toInt.toNat (F 114 45).toInt.toNat (Nat.le_refl _); omega) (by omega) (by omega) rfl)
  have K2 : ∀ (m : Nat) (w1 : Int32) (F1 : HF), hframe [(96, 0)] F F1 → (∀ i k : Nat, (i : Int) < w1.toInt → bt (F1 96 i) k = false) → 0 ≤ w1.toInt → w1.toInt ≤ 13 → m = ((F 114 44).toInt + 1 - w1.toInt).toNat → hW G X dM_now w0 2 [(1, .int w1), (0, .ref (G.2.1.1 114))] [] F1 := by
    intro m
    induction m using Nat.strongRecOn with
    | ind m ih =>
    intro w1 F1 fr1 hz h10 h11 hm
    refine h_iln c (hd 2 2 _ _ rfl) (by rfl) (hat 3 rfl ?_)
    refine h_aln c (hd 3 3 _ _ rfl) (by rfl) (hat 4 rfl ?_)
    refine h_getI c (hd 4 4 _ _ rfl) dfgX12_384 dgnX12_384_114 (x := F 114 44) (fr1 114 44 (by decide) (by rfl)) (hat 7 rfl ?_)
    refine h_cmp c (hd 5 7 _ _ rfl) (tgt := 23) (by decide) (fun (h7 : (F 114 44).toInt < w1.toInt) => ?_) (fun (h7 : ¬ ((F 114 44).toInt < w1.toInt)) => hat 10 rfl ?_)
    · skip
      exact h_less (L := [(1, .int w1), (0, .ref (G.2.1.1 114))]) (by simp) (K23 _ _ fr1 (fun i k hi => hz i k (by omega)))
    · skip
      refine h_aln c (hd 6 10 _ _ rfl) (by rfl) (hat 11 rfl ?_)
      refine h_getR c (hd 7 11 _ _ rfl) dfgX12_90 dgnX12_90_114 (hat 14 rfl ?_)
      refine h_iln c (hd 8 14 _ _ rfl) (by rfl) (hat 15 rfl ?_)
      refine h_ic c (hd 9 15 _ _ rfl) (by decide) (fun v15 e15 => hat 16 rfl ?_)
      refine h_iast c (hd 10 16 _ _ rfl) dla_96 ⟨by omega, by omega⟩ rfl (by decide) (by decide) (hin1 (rf_in_top _)) (hat 17 rfl ?_)
      refine h_inc c (fun r_ => [(1, .int r_), (0, .ref (G.2.1.1 114))]) (hd 11 17 _ _ rfl) (by decide) (by decide) (by rfl) (by omega) (fun _ => by rfl) (fun v17 e17 => hat 20 rfl ?_)
      refine h_goto c (hd 12 20 _ _ rfl) (tgt := 2) (by decide) ?_
      refine h_less (L := [(1, .int v17), (0, .ref (G.2.1.1 114))]) (by simp) (ih ((F 114 44).toInt + 1 - v17.toInt).toNat (by omega) _ _ (hframe_up fr1 (by rfl) _) (fun i k hi => ?_) (by omega) (by omega) rfl)
      show bt (if i = w1.toInt.toNat then v15 else F1 96 i) k = false
      by_cases e_ : i = w1.toInt.toNat
      · have z_ : v15 = 0 := Int32.toInt_inj.mp (by rw [e15]; decide +kernel)
        rw [if_pos e_, z_, b_0]
      · rw [if_neg e_]; exact hz i k (by omega)
  refine h_ic c (hd 0 0 _ _ rfl) (by decide) (fun v0 e0 => hat 1 rfl ?_)
  refine h_isn c (hd 1 1 _ _ rfl) (by decide) (L' := [(1, .int v0), (0, .ref (G.2.1.1 114))]) (by rfl) (hat 2 rfl ?_)
  exact h_less (L := [(1, .int v0), (0, .ref (G.2.1.1 114))]) (by simp) (K2 _ _ F (hframe_rf _ _) (fun i k hi => by omega) (by omega) (by omega) rfl)
def dM_ap : rfM := ((⟨"NearSpellModel", "apart", "(II)I"⟩, prog_14_method_62_code, 3, (some .int)), (10,900), ([.inr (.inl [114]), .inl ((0,387420488,1),none), .inl ((0,387420488,1),none)],[]), [(94,0),(95,0),(96,0),(97,0),(114,45),(114,46)], [])
def ddDX12_apart : List (Nat × Instr × Nat) := [(0,.aload_n 0,1),(1,.iload_n 1,1),(2,.iconst 0,1),(3,.invokevirtual 399,3),(6,.aload_n 0,1),(7,.iload_n 2,1),(8,.iconst 0,1),(9,.invokevirtual 402,3),(12,.aload_n 0,1),(13,.invokevirtual 405,3),(16,.ireturn,1)]
set_option maxRecDepth 100000 in
theorem dkDX12_apart : rf_decs prog_14_method_62_code ddDX12_apart := dd_of (by decide +kernel)
set_option maxHeartbeats 4000000 in
set_option maxRecDepth 20000 in
theorem dp_ap {G : rfG} (hG : okG G) : h_met G dM_ap (fun _ _ => True) (fun vs _ _ rv => ∃ a u v : Int32, vs[1]? = some (.int a) ∧ vs[2]? = some (.int u) ∧ rv = some (.int v) ∧ v.toInt = dstI a.toInt u.toInt) := by
  refine h_metOf hG.1 (by decide +kernel) (by decide) hG.2.2.1 (wflT hG flokX12) (wcsT hG csokX12) ?_
  intro vs w0 X hv_ hr hp c
  match vs, hv_ with
  | [_, _, _], ⟨⟨_, hj0, rfl⟩, ⟨a, rfl, hi_a, _⟩, ⟨u, rfl, hi_u, _⟩, _⟩ =>
  cases List.mem_singleton.mp hj0
  have hd : ∀ n pc i len, ddDX12_apart[n]? = some (pc, i, len) → decode (mb dM_ap) pc = .ok (i, len) := fun n pc i len h => hdk dkDX12_apart n pc i len h
  show hW G X dM_ap w0 0 [(0, .ref (G.2.1.1 114)), (1, .int a), (2, .int u)] [] (hv w0)
  generalize hF0 : hv w0 = F at *
  have ha : 0 ≤ a.toInt ∧ a.toInt ≤ 387420488 := ⟨hi_a.1, hi_a.2.1⟩
  have hu : 0 ≤ u.toInt ∧ u.toInt ≤ 387420488 := ⟨hi_u.1, hi_u.2.1⟩
  have hla := lenI_le a.toInt
  have hlu := lenI_le u.toInt
  refine h_aln c (hd 0 0 _ _ rfl) (by rfl) (hat 1 rfl ?_)
  refine h_iln c (hd 1 1 _ _ rfl) (by rfl) (hat 2 rfl ?_)
  refine h_ic c (hd 2 2 _ _ rfl) (by decide) (fun v2 e2 => hat 3 rfl ?_)
  refine h_callVF c (M' := dM_l1) (dp_l1 hG) (by decide +kernel) (wlkV (lkX12_399 hG) _ rfl rfl) (j := 114) (by decide +kernel) (hd 3 3 _ _ rfl) [.int a, .int v2] (rest := []) (by rfl) ⟨⟨114, by decide, rfl⟩, ⟨_, rfl, rf_in1 (by omega) (by omega), trivial⟩, ⟨_, rfl, rf_in1 (by omega) (by omega), trivial⟩, trivial⟩ (Nat.le_of_ble_eq_true rfl) trivial (fun rv3 F3 fr3 rr3 pp3 sm_ => hat 6 rfl ?_)
  obtain ⟨er_, a_, ea_, hs3, ht3⟩ := pp3
  subst er_; cases ea_
  refine h_aln c (hd 4 6 _ _ rfl) (by rfl) (hat 7 rfl ?_)
  refine h_iln c (hd 5 7 _ _ rfl) (by rfl) (hat 8 rfl ?_)
  refine h_ic c (hd 6 8 _ _ rfl) (by decide) (fun v8 e8 => hat 9 rfl ?_)
  refine h_callVF c (M' := dM_l2) (dp_l2 hG) (by decide +kernel) (wlkV (lkX12_402 hG) _ rfl rfl) (j := 114) (by decide +kernel) (hd 7 9 _ _ rfl) [.int u, .int v8] (rest := []) (by rfl) ⟨⟨114, by decide, rfl⟩, ⟨_, rfl, rf_in1 (by omega) (by omega), trivial⟩, ⟨_, rfl, rf_in1 (by omega) (by omega), trivial⟩, trivial⟩ (Nat.le_of_ble_eq_true rfl) trivial (fun rv9 F9 fr9 rr9 pp9 sm_ => hat 12 rfl ?_)
  obtain ⟨er_, a_, ea_, hs9, ht9⟩ := pp9
  subst er_; cases ea_
  refine h_aln c (hd 8 12 _ _ rfl) (by rfl) (hat 13 rfl ?_)
  refine h_callVF c (M' := dM_now) (dp_now hG) (by decide +kernel) (wlkV (lkX12_405 hG) _ rfl rfl) (j := 114) (by decide +kernel) (hd 9 13 _ _ rfl) [] (rest := []) (by rfl) ⟨⟨114, by decide, rfl⟩, trivial⟩ (Nat.le_of_ble_eq_true rfl) ⟨by rw [show F9 114 44 = F3 114 44 from fr9 114 44 (by decide) (by rfl)]; omega, by omega⟩ (fun rv13 F13 fr13 rr13 pp13 sm_ => hat 16 rfl ?_)
  obtain ⟨x13, er_, hx13⟩ := pp13
  subst er_
  refine h_iret c (hd 10 16 _ _ rfl) rfl ⟨a, u, _, rfl, rfl, rfl, ?_⟩
  have o_ : F9 114 44 = F3 114 44 := fr9 114 44 (by decide) (by rfl)
  rw [hx13, o_, show (F3 114 44).toInt.toNat = lenI a.toInt by omega, show (F9 114 45).toInt.toNat = lenI u.toInt by omega]
  exact dst_congr _ _ _ (Nat.le_refl _) (fun k hk => by show (F9 94 k).toInt = _; rw [fr9 94 k (by decide) (by rfl)]; exact ht3 k hk) (fun k hk => ht9 k hk)
def dM_mdist : rfM := ((⟨"NearSpellModel", "distance", "(II)I"⟩, prog_14_method_70_code, 3, (some .int)), (12,1100), ([.inr (.inl [114]), .inl (((-2147483648),2147483647,1),none), .inl (((-2147483648),2147483647,1),none)],[]), [(94,0),(95,0),(96,0),(97,0),(114,45),(114,46)], [])
def ddDX12_distance : List (Nat × Instr × Nat) := [(0,.iload_n 1,1),(1,.invokestatic 420,3),(4,.ifCond .eq 19,3),(7,.iload_n 2,1),(8,.invokestatic 420,3),(11,.ifCond .eq 12,3),(14,.aload_n 0,1),(15,.iload_n 1,1),(16,.iload_n 2,1),(17,.invokevirtual 408,3),(20,.goto 4,3),(23,.iconst (-1),1),(24,.ireturn,1)]
set_option maxRecDepth 100000 in
theorem dkDX12_distance : rf_decs prog_14_method_70_code ddDX12_distance := dd_of (by decide +kernel)
set_option maxHeartbeats 4000000 in
set_option maxRecDepth 20000 in
theorem dp_mdist {G : rfG} (hG : okG G) : h_met G dM_mdist (fun _ _ => True) (fun vs _ _ rv => ∃ a u v : Int32, vs[1]? = some (.int a) ∧ vs[2]? = some (.int u) ∧ rv = some (.int v) ∧ ((cbI a.toInt ∧ cbI u.toInt ∧ v.toInt = dstI a.toInt u.toInt) ∨ (¬ (cbI a.toInt ∧ cbI u.toInt) ∧ v.toInt = -1))) := by
  refine h_metOf hG.1 (by decide +kernel) (by decide) hG.2.2.1 (wflT hG flokX12) (wcsT hG csokX12) ?_
  intro vs w0 X hv_ hr hp c
  match vs, hv_ with
  | [_, _, _], ⟨⟨_, hj0, rfl⟩, ⟨a, rfl, hi_a, _⟩, ⟨u, rfl, hi_u, _⟩, _⟩ =>
  cases List.mem_singleton.mp hj0
  have hd : ∀ n pc i len, ddDX12_distance[n]? = some (pc, i, len) → decode (mb dM_mdist) pc = .ok (i, len) := fun n pc i len h => hdk dkDX12_distance n pc i len h
  show hW G X dM_mdist w0 0 [(0, .ref (G.2.1.1 114)), (1, .int a), (2, .int u)] [] (hv w0)
  generalize hF0 : hv w0 = F at *
  refine h_iln c (hd 0 0 _ _ rfl) (by rfl) (hat 1 rfl ?_)
  refine h_callSF c (M' := dM_mcan) (dp_mcan hG) (by decide +kernel) (wlkS (lkX12_420 hG) _ rfl rfl) (hd 1 1 _ _ rfl) [.int a] (rest := []) (by rfl) ⟨⟨_, rfl, rf_in_top _, trivial⟩, trivial⟩ (Nat.le_of_ble_eq_true rfl) trivial (fun rv1 F1 fr1 rr1 pp1 sm_ => hat 4 rfl ?_)
  have e_ := (sm_ rfl).symm
  subst e_
  obtain ⟨a_, x1, ea_, er_, hx1⟩ := pp1
  cases ea_; subst er_
  refine h_if c (hd 2 4 _ _ rfl) (tgt := 23) (by decide) (fun (h4 : x1.toInt = 0) => ?_) (fun (h4 : ¬ (x1.toInt = 0)) => hat 7 rfl ?_)
  · skip
    refine h_ic c (hd 11 23 _ _ rfl) (by decide) (fun v23 e23 => hat 24 rfl ?_)
    exact h_iret c (hd 12 24 _ _ rfl) rfl ⟨a, u, _, rfl, rfl, rfl, Or.inr ⟨(fun q => by rcases hx1 with h_ | h_; omega; exact h_.2 q.1), by omega⟩⟩
  · skip
    refine h_iln c (hd 3 7 _ _ rfl) (by rfl) (hat 8 rfl ?_)
    refine h_callSF c (M' := dM_mcan) (dp_mcan hG) (by decide +kernel) (wlkS (lkX12_420 hG) _ rfl rfl) (hd 4 8 _ _ rfl) [.int u] (rest := []) (by rfl) ⟨⟨_, rfl, rf_in_top _, trivial⟩, trivial⟩ (Nat.le_of_ble_eq_true rfl) trivial (fun rv8 F8 fr8 rr8 pp8 sm_ => hat 11 rfl ?_)
    have e_ := (sm_ rfl).symm
    subst e_
    obtain ⟨a_, x8, ea_, er_, hx8⟩ := pp8
    cases ea_; subst er_
    refine h_if c (hd 5 11 _ _ rfl) (tgt := 23) (by decide) (fun (h11 : x8.toInt = 0) => ?_) (fun (h11 : ¬ (x8.toInt = 0)) => hat 14 rfl ?_)
    · skip
      refine h_ic c (hd 11 23 _ _ rfl) (by decide) (fun v23 e23 => hat 24 rfl ?_)
      exact h_iret c (hd 12 24 _ _ rfl) rfl ⟨a, u, _, rfl, rfl, rfl, Or.inr ⟨(fun q => by rcases hx8 with h_ | h_; omega; exact h_.2 q.2), by omega⟩⟩
    · skip
      have ca_ : cbI a.toInt := by rcases hx1 with h_ | h_; exact h_.2; omega
      have cu_ : cbI u.toInt := by rcases hx8 with h_ | h_; exact h_.2; omega
      have ra_ := ca_.1
      have ra2_ := ca_.2.1
      have ru_ := cu_.1
      have ru2_ := cu_.2.1
      refine h_aln c (hd 6 14 _ _ rfl) (by rfl) (hat 15 rfl ?_)
      refine h_iln c (hd 7 15 _ _ rfl) (by rfl) (hat 16 rfl ?_)
      refine h_iln c (hd 8 16 _ _ rfl) (by rfl) (hat 17 rfl ?_)
      refine h_callVF c (M' := dM_ap) (dp_ap hG) (by decide +kernel) (wlkV (lkX12_408 hG) _ rfl rfl) (j := 114) (by decide +kernel) (hd 9 17 _ _ rfl) [.int a, .int u] (rest := []) (by rfl) ⟨⟨114, by decide, rfl⟩, ⟨_, rfl, rf_in1 (by omega) (by omega), trivial⟩, ⟨_, rfl, rf_in1 (by omega) (by omega), trivial⟩, trivial⟩ (Nat.le_of_ble_eq_true rfl) trivial (fun rv17 F17 fr17 rr17 pp17 sm_ => hat 20 rfl ?_)
      obtain ⟨a_, u_, x17, ea_, eu_, er_, hx17⟩ := pp17
      cases ea_; cases eu_; subst er_
      refine h_goto c (hd 10 20 _ _ rfl) (tgt := 24) (by decide) ?_
      exact h_iret c (hd 12 24 _ _ rfl) rfl ⟨a, u, _, rfl, rfl, rfl, Or.inl ⟨ca_, cu_, hx17⟩⟩
