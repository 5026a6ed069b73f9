theorem efgX1_37 : rf_flget flX1 37 = some (1,7,1) := by decide +kernel
theorem egnX1_37_5 : rf_gone wLay 1 7 5 = some (.inl ((1,31,1),none)) := rfl
theorem efgX1_49 : rf_flget flX1 49 = some (1,11,1) := by decide +kernel
theorem egnX1_49_5 : rf_gone wLay 1 11 5 = some (.inl ((0,300,1),none)) := rfl
theorem efgX3_15 : rf_flget flX3 15 = some (3,1,1) := by decide +kernel
theorem egnX3_15_50 : rf_gone wLay 3 1 50 = some (.inl ((0,22,1),none)) := rfl
theorem efgX3_19 : rf_flget flX3 19 = some (3,2,1) := by decide +kernel
theorem egnX3_19_50 : rf_gone wLay 3 2 50 = some (.inl (((-2147483648),2147483647,1),none)) := rfl
theorem efgX3_22 : rf_flget flX3 22 = some (3,3,1) := by decide +kernel
theorem egnX3_22_50 : rf_gone wLay 3 3 50 = some (.inl (((-2147483648),2147483647,1),none)) := rfl
theorem efgX3_25 : rf_flget flX3 25 = some (3,4,1) := by decide +kernel
theorem egnX3_25_50 : rf_gone wLay 3 4 50 = some (.inl (((-2147483648),2147483647,1),none)) := rfl
theorem efgX3_9 : rf_flget flX3 9 = some (3,0,0) := by decide +kernel
theorem egnX3_9_50 : rf_gone wLay 3 0 50 = some (.inr (.inl [49])) := rfl
theorem efgX4_26 : rf_flget flX4 26 = some (4,3,0) := by decide +kernel
theorem egnX4_26_53 : rf_gone wLay 4 3 53 = some (.inr (.inl [50])) := rfl
theorem efgX4_34 : rf_flget flX4 34 = some (1,5,1) := by decide +kernel
theorem egnX4_34_5 : rf_gone wLay 1 5 5 = some (.inl ((1,6,1),none)) := rfl
theorem efgX4_40 : rf_flget flX4 40 = some (1,6,1) := by decide +kernel
theorem egnX4_40_5 : rf_gone wLay 1 6 5 = some (.inl ((0,2,1),none)) := rfl
theorem efgX4_9 : rf_flget flX4 9 = some (4,0,0) := by decide +kernel
theorem egnX4_9_53 : rf_gone wLay 4 0 53 = some (.inr (.inl [5])) := rfl
theorem efgX11_104 : rf_flget flX11 104 = some (11,14,1) := by decide +kernel
theorem egnX11_104_70 : rf_gone wLay 11 14 70 = some (.inl ((0,22,1),none)) := rfl
theorem efgX11_158 : rf_flget flX11 158 = some (3,1,1) := by decide +kernel
theorem egnX11_158_50 : rf_gone wLay 3 1 50 = some (.inl ((0,22,1),none)) := rfl
theorem efgX11_16 : rf_flget flX11 16 = some (11,2,0) := by decide +kernel
theorem egnX11_16_70 : rf_gone wLay 11 2 70 = some (.inr (.inl [5])) := rfl
theorem efgX11_220 : rf_flget flX11 220 = some (3,0,0) := by decide +kernel
theorem egnX11_220_50 : rf_gone wLay 3 0 50 = some (.inr (.inl [49])) := rfl
theorem efgX11_58 : rf_flget flX11 58 = some (11,8,0) := by decide +kernel
theorem egnX11_58_70 : rf_gone wLay 11 8 70 = some (.inr (.inl [53])) := rfl
theorem efgX11_96 : rf_flget flX11 96 = some (11,13,0) := by decide +kernel
theorem egnX11_96_70 : rf_gone wLay 11 13 70 = some (.inr (.inl [69])) := rfl
theorem ely_50_1 : rf_layr wLay 50 1 = some (0,22,1) := by decide +kernel
theorem ela_49 : rf_arr wLay 0 49 = some (22,[((-2147483648),2147483647,1)]) := by decide +kernel
theorem ela_69 : rf_arr wLay 0 69 = some (22,[((-2147483648),2147483647,1)]) := by decide +kernel
/-! FORMS and BUCKET in the class (printed by wip/p1/h2.py) -/
section P1Rows
variable {X : rfX} {G : rfG} {M : rfM} {w0 : va_W} {Lay : List rfL} {fl : rfFl} {cs : List (Nat × Int)} {Q : Option Value → HF → Prop} {L : List (Nat × Value)} {st : List Value} {F : HF} {pc : Nat}
theorem h_asn (c : hC G X M w0 Lay fl cs Q) {n : Fin 4} {x : Nat} {L' : List (Nat × Value)} (hd : decode (mb M) pc = .ok (.astore_n n, 1)) (hn : n.val < mL M) (hL : (n.val, .ref x) :: L.filter (rf_fil1 n.val) = L') (K : hW G X M w0 (pc + 1) L' st F) : hW G X M w0 pc L (.ref x :: st) F := fun ws hw hs hF ls H locs hl hP hD hS => by
  subst hL
  exact lv_astore_n c.2.2.1.1 c.2.2.1.2.1 hd rfl hl (by rw [c.2.2.2.1]; exact hn) rfl (fun ls' hl' => K ws hw hs hF ls' H locs hl' hP hD hS)
theorem h_aret (c : hC G X M w0 Lay fl cs Q) {x : Nat} {C : String} (hd : decode (mb M) pc = .ok (.areturn, 1)) (hr : mr M = some (.object C)) (K : Q (some (.ref x)) F) : hW G X M w0 pc L [.ref x] F := fun ws hw hs hF ls H locs hl hP hD hS => by
  subst hF
  obtain ⟨Qc, hQ, hq, hf⟩ := h_qc c hw hs K hP hD hS
  show W _ _ _ _ _ _ _ _ _ _ _ _ _ _ _ _
  rw [hQ]
  exact W.aret c.2.2.1.1 c.2.2.1.2.1 (by rw [c.2.2.2.2.2.2.2.2.1.1, hr]) (Or.inl ⟨_, rfl⟩) (Or.inr ⟨_, rfl⟩) hq hf hd c.2.2.2.2.2.2.2.2.1.2
end P1Rows
def lst (j : Nat) (F : HF) : Nat → Int := fun k => (F j k).toInt
/-- the row in cell j, as long as slot s of c tells, is in order; its members -/
def rOK (j c s : Nat) (F : HF) : Prop := srt (lst j F) (F c s).toInt.toNat
def rM (j c s : Nat) (F : HF) (x : Int) : Prop := mmb (lst j F) (F c s).toInt.toNat x
def rIns (j c s : Nat) (F F' : HF) (v : Int) : Prop := (F' c s).toInt ≤ (F c s).toInt + 1 ∧ (F c s).toInt ≤ (F' c s).toInt ∧ rOK j c s F' ∧ ∀ x, rM j c s F' x ↔ (rM j c s F x ∨ x = v)
theorem rOK_0 {j c s : Nat} {F : HF} (h : (F c s).toInt = 0) : rOK j c s F := fun i k h1 h2 => by
  rw [h] at h2
  exact absurd h2 (Nat.not_lt_zero _)
theorem rM_0 {j c s : Nat} {F : HF} (h : (F c s).toInt = 0) (x : Int) : ¬ rM j c s F x := by
  rintro ⟨k, hk, _⟩
  rw [h] at hk
  exact absurd hk (Nat.not_lt_zero _)
theorem rIns_new {j c s : Nat} {F F' : HF} {v : Int} {p : Nat} (hso : rOK j c s F) (h0 : 0 ≤ (F c s).toInt) (hs : (F' c s).toInt = (F c s).toInt + 1) (hp : (p : Int) ≤ (F c s).toInt) (h1 : ∀ k : Nat, k < p → (F j k).toInt < v) (h2 : ∀ k : Nat, p ≤ k → (k : Int) < (F c s).toInt → v < (F j k).toInt) (g1 : ∀ k : Nat, k < p → (F' j k).toInt = (F j k).toInt) (g2 : (F' j p).toInt = v) (g3 : ∀ k : Nat, p < k → (k : Int) ≤ (F c s).toInt → (F' j k).toInt = (F j (k - 1)).toInt) : rIns j c s F F' v := by
  have h := srt_ins (f := lst j F) (g := lst j F') (n := (F c s).toInt.toNat) (p := p) (v := v) hso (by omega) h1 (fun k a b => h2 k a (by omega)) g1 g2 (fun k a b => g3 k a (by omega))
  have e : (F' c s).toInt.toNat = (F c s).toInt.toNat + 1 := by omega
  refine ⟨by omega, by omega, ?_, fun x => ?_⟩
  · unfold rOK; rw [e]; exact h.1
  · unfold rM; rw [e]; exact h.2 x
theorem rIns_old {j c s : Nat} {F : HF} {v : Int} {p : Nat} (hso : rOK j c s F) (hp : (p : Int) < (F c s).toInt) (e : (F j p).toInt = v) : rIns j c s F F v := ⟨by omega, Int.le_refl _, hso, fun x => mmb_old (f := lst j F) (p := p) (by omega) e x⟩
theorem sX_s {w : Int} {n i : Nat} (x : Int) : sX w n (i + 1) x ↔ (sX w n i x ∨ (x = woI w i ∨ ∃ k, k < n - 1 ∧ x = woI (woI w i) k)) := by
  constructor
  · rintro ⟨i', h1, h2⟩
    by_cases e : i' = i
    · subst e; exact Or.inr h2
    · exact Or.inl ⟨i', by omega, h2⟩
  · rintro (⟨i', h1, h2⟩ | h)
    · exact ⟨i', by omega, h2⟩
    · exact ⟨i, by omega, h⟩
theorem sX_0 {w : Int} {n : Nat} (x : Int) : ¬ sX w n 0 x := fun ⟨_, h, _⟩ => absurd h (Nat.not_lt_zero _)
theorem sM_s {w : Int} {n m : Nat} (x : Int) : sM w n (m + 1) x ↔ (sM w n m x ∨ ((n : Int) - (hcb (nI m) 14 : Int) ≤ 2 ∧ x = sbv w (nI m) n)) := by
  constructor
  · rintro ⟨s, h1, h2⟩
    by_cases e : s = m
    · subst e; exact Or.inr h2
    · exact Or.inl ⟨s, by omega, h2⟩
  · rintro (⟨s, h1, h2⟩ | h)
    · exact ⟨s, by omega, h2⟩
    · exact ⟨m, by omega, h⟩
theorem sM_0 {w : Int} {n : Nat} (x : Int) : ¬ sM w n 0 x := fun ⟨_, h, _⟩ => absurd h (Nat.not_lt_zero _)
theorem hcb_t {s : Int32} {n : Nat} (h : bt s n = true) : hcb s (n + 1) = hcb s n + 1 := by
  show hcb s n + (if bt s n then 1 else 0) = _
  rw [if_pos h]
theorem hcb_f {s : Int32} {n : Nat} (h : bt s n = false) : hcb s (n + 1) = hcb s n := by
  show hcb s n + (if bt s n then 1 else 0) = _
  rw [h]; rfl
theorem shl_val {e v : Int32} (h0 : 0 ≤ e.toInt) (h1 : e.toInt ≤ 4) (hv : v.toInt = 1) : (v <<< (e &&& 31)).toInt = ((2 ^ e.toInt.toNat : Nat) : Int) := by
  cases h_c1 hv
  obtain ⟨n, hn, q, q2⟩ := h_nI h0 (by omega)
  rw [q2, q]
  exact (by decide +kernel : ∀ n, n < 5 → ((1 : Int32) <<< (nI n &&& 31)).toInt = ((2 ^ n : Nat) : Int)) n (by omega)
theorem pow_le16 {n : Nat} (h : n ≤ 4) : 2 ^ n ≤ 16 := (by decide : ∀ n, n < 5 → 2 ^ n ≤ 16) n (by omega)
def fM_wo : rfM := ((⟨"NearSpell", "without", "(II)I"⟩, prog_1_method_56_code, 2, (some .int)), (2,100), ([.inl ((0,531440,1),none), .inl ((0,3,1),none)],[]), [], [])
def ddEX11_without : List (Nat × Instr × Nat) := [(0,.iload_n 1,1),(1,.ifCond .lt 9,3),(4,.iload_n 1,1),(5,.bipush 6,2),(7,.if_icmp .lt 5,3),(10,.iload_n 0,1),(11,.ireturn,1),(12,.iload_n 0,1),(13,.getstatic 360,3),(16,.iload_n 1,1),(17,.iconst 1,1),(18,.iadd,1),(19,.iaload,1),(20,.idiv,1),(21,.getstatic 360,3),(24,.iload_n 1,1),(25,.iaload,1),(26,.imul,1),(27,.iload_n 0,1),(28,.getstatic 360,3),(31,.iload_n 1,1),(32,.iaload,1),(33,.irem,1),(34,.iadd,1),(35,.ireturn,1)]
set_option maxRecDepth 100000 in
theorem dkEX11_without : rf_decs prog_1_method_56_code ddEX11_without := rf_decs_of (by decide +kernel)
set_option maxHeartbeats 8000000 in
set_option maxRecDepth 20000 in
theorem fp_wo {G : rfG} (hG : okG G) : h_met G fM_wo (fun _ _ => True) (fun vs _ _ rv => ∃ a k x : Int32, vs = [.int a, .int k] ∧ rv = some (.int x) ∧ x.toInt = woI a.toInt k.toInt.toNat) := by
  refine h_metOf hG.1 (by decide +kernel) (by decide) hG.2.2.1 (wflT hG flokX11) (wcsT hG csokX11) ?_
  intro vs w0 X hv_ hr hp c
  match vs, hv_ with
  | [_, _], ⟨⟨a, rfl, hi_a, _⟩, ⟨k, rfl, hi_k, _⟩, _⟩ =>
  have hd : ∀ n pc i len, ddEX11_without[n]? = some (pc, i, len) → decode (mb fM_wo) pc = .ok (i, len) := fun n pc i len h => hdk dkEX11_without n pc i len h
  show hW G X fM_wo w0 0 [(0, .int a), (1, .int k)] [] (hv w0)
  generalize hF0 : hv w0 = F at *
  have ha : 0 ≤ a.toInt ∧ a.toInt ≤ 531440 := ⟨hi_a.1, hi_a.2.1⟩
  have hk : 0 ≤ k.toInt ∧ k.toInt ≤ 3 := ⟨hi_k.1, hi_k.2.1⟩
  have hk_ : k.toInt = 0 ∨ k.toInt = 1 ∨ k.toInt = 2 ∨ k.toInt = 3 := by omega
  rcases hk_ with hq | hq | hq | hq
  · skip
    refine h_iln c (hd 0 0 _ _ rfl) (by rfl) (hat 1 rfl ?_)
    refine h_if c (hd 1 1 _ _ rfl) (tgt := 10) (by decide) (fun (h1 : k.toInt < 0) => ?_) (fun (h1 : ¬ (k.toInt < 0)) => hat 4 rfl ?_)
    · exfalso; omega
    · skip
      refine h_iln c (hd 2 4 _ _ rfl) (by rfl) (hat 5 rfl ?_)
      refine h_bp c (hd 3 5 _ _ rfl) (by decide) (fun v5 e5 => hat 7 rfl ?_)
      refine h_cmp c (hd 4 7 _ _ rfl) (tgt := 12) (by decide) (fun (h7 : k.toInt < v5.toInt) => ?_) (fun (h7 : ¬ (k.toInt < v5.toInt)) => hat 10 rfl ?_)
      · skip
        refine h_iln c (hd 7 12 _ _ rfl) (by rfl) (hat 13 rfl ?_)
        refine h_gst c hG (wmT hG (wm804)) (hd 8 13 _ _ rfl) (hat 16 rfl ?_)
        refine h_iln c (hd 9 16 _ _ rfl) (by rfl) (hat 17 rfl ?_)
        refine h_ic c (hd 10 17 _ _ rfl) (by decide) (fun v17 e17 => hat 18 rfl ?_)
        refine h_add c (hd 11 18 _ _ rfl) (by omega) (fun v18 e18 => hat 19 rfl ?_)
        have e18 : v18.toInt = 1 := by omega
        refine h_pald c hG (k := 1) (hd 12 19 _ _ rfl) (by omega) (by decide) (fun v19 e19 => hat 20 rfl ?_)
        have e19 : v19.toInt = 27 := e19.trans (by decide +kernel)
        refine h_div c (hd 13 20 _ _ rfl) e19 (by decide) (by omega) (fun v20 e20 => hat 21 rfl ?_)
        refine h_gst c hG (wmT hG (wm804)) (hd 14 21 _ _ rfl) (hat 24 rfl ?_)
        refine h_iln c (hd 15 24 _ _ rfl) (by rfl) (hat 25 rfl ?_)
        refine h_pald c hG (k := 0) (hd 16 25 _ _ rfl) (by omega) (by decide) (fun v25 e25 => hat 26 rfl ?_)
        have e25 : v25.toInt = 1 := e25.trans (by decide +kernel)
        refine h_mulR c (hd 17 26 _ _ rfl) e25 (by omega) (fun v26 e26 => hat 27 rfl ?_)
        refine h_iln c (hd 18 27 _ _ rfl) (by rfl) (hat 28 rfl ?_)
        refine h_gst c hG (wmT hG (wm804)) (hd 19 28 _ _ rfl) (hat 31 rfl ?_)
        refine h_iln c (hd 20 31 _ _ rfl) (by rfl) (hat 32 rfl ?_)
        refine h_pald c hG (k := 0) (hd 21 32 _ _ rfl) (by omega) (by decide) (fun v32 e32 => hat 33 rfl ?_)
        have e32 : v32.toInt = 1 := e32.trans (by decide +kernel)
        refine h_rem c (hd 22 33 _ _ rfl) e32 (by decide) (by omega) (fun v33 e33 => hat 34 rfl ?_)
        refine h_add c (hd 23 34 _ _ rfl) (by omega) (fun v34 e34 => hat 35 rfl ?_)
        exact h_iret c (hd 24 35 _ _ rfl) rfl ⟨a, k, _, rfl, rfl, by rw [show k.toInt.toNat = 0 by omega, woI_0]; omega⟩
      · exfalso; omega
  · skip
    refine h_iln c (hd 0 0 _ _ rfl) (by rfl) (hat 1 rfl ?_)
    refine h_if c (hd 1 1 _ _ rfl) (tgt := 10) (by decide) (fun (h1 : k.toInt < 0) => ?_) (fun (h1 : ¬ (k.toInt < 0)) => hat 4 rfl ?_)
    · exfalso; omega
    · skip
      refine h_iln c (hd 2 4 _ _ rfl) (by rfl) (hat 5 rfl ?_)
      refine h_bp c (hd 3 5 _ _ rfl) (by decide) (fun v5 e5 => hat 7 rfl ?_)
      refine h_cmp c (hd 4 7 _ _ rfl) (tgt := 12) (by decide) (fun (h7 : k.toInt < v5.toInt) => ?_) (fun (h7 : ¬ (k.toInt < v5.toInt)) => hat 10 rfl ?_)
      · skip
        refine h_iln c (hd 7 12 _ _ rfl) (by rfl) (hat 13 rfl ?_)
        refine h_gst c hG (wmT hG (wm804)) (hd 8 13 _ _ rfl) (hat 16 rfl ?_)
        refine h_iln c (hd 9 16 _ _ rfl) (by rfl) (hat 17 rfl ?_)
        refine h_ic c (hd 10 17 _ _ rfl) (by decide) (fun v17 e17 => hat 18 rfl ?_)
        refine h_add c (hd 11 18 _ _ rfl) (by omega) (fun v18 e18 => hat 19 rfl ?_)
        have e18 : v18.toInt = 2 := by omega
        refine h_pald c hG (k := 2) (hd 12 19 _ _ rfl) (by omega) (by decide) (fun v19 e19 => hat 20 rfl ?_)
        have e19 : v19.toInt = 729 := e19.trans (by decide +kernel)
        refine h_div c (hd 13 20 _ _ rfl) e19 (by decide) (by omega) (fun v20 e20 => hat 21 rfl ?_)
        refine h_gst c hG (wmT hG (wm804)) (hd 14 21 _ _ rfl) (hat 24 rfl ?_)
        refine h_iln c (hd 15 24 _ _ rfl) (by rfl) (hat 25 rfl ?_)
        refine h_pald c hG (k := 1) (hd 16 25 _ _ rfl) (by omega) (by decide) (fun v25 e25 => hat 26 rfl ?_)
        have e25 : v25.toInt = 27 := e25.trans (by decide +kernel)
        refine h_mulR c (hd 17 26 _ _ rfl) e25 (by omega) (fun v26 e26 => hat 27 rfl ?_)
        refine h_iln c (hd 18 27 _ _ rfl) (by rfl) (hat 28 rfl ?_)
        refine h_gst c hG (wmT hG (wm804)) (hd 19 28 _ _ rfl) (hat 31 rfl ?_)
        refine h_iln c (hd 20 31 _ _ rfl) (by rfl) (hat 32 rfl ?_)
        refine h_pald c hG (k := 1) (hd 21 32 _ _ rfl) (by omega) (by decide) (fun v32 e32 => hat 33 rfl ?_)
        have e32 : v32.toInt = 27 := e32.trans (by decide +kernel)
        refine h_rem c (hd 22 33 _ _ rfl) e32 (by decide) (by omega) (fun v33 e33 => hat 34 rfl ?_)
        refine h_add c (hd 23 34 _ _ rfl) (by omega) (fun v34 e34 => hat 35 rfl ?_)
        exact h_iret c (hd 24 35 _ _ rfl) rfl ⟨a, k, _, rfl, rfl, by rw [show k.toInt.toNat = 1 by omega, woI_1]; omega⟩
      · exfalso; omega
  · skip
    refine h_iln c (hd 0 0 _ _ rfl) (by rfl) (hat 1 rfl ?_)
    refine h_if c (hd 1 1 _ _ rfl) (tgt := 10) (by decide) (fun (h1 : k.toInt < 0) => ?_) (fun (h1 : ¬ (k.toInt < 0)) => hat 4 rfl ?_)
    · exfalso; omega
    · skip
      refine h_iln c (hd 2 4 _ _ rfl) (by rfl) (hat 5 rfl ?_)
      refine h_bp c (hd 3 5 _ _ rfl) (by decide) (fun v5 e5 => hat 7 rfl ?_)
      refine h_cmp c (hd 4 7 _ _ rfl) (tgt := 12) (by decide) (fun (h7 : k.toInt < v5.toInt) => ?_) (fun (h7 : ¬ (k.toInt < v5.toInt)) => hat 10 rfl ?_)
      · skip
        refine h_iln c (hd 7 12 _ _ rfl) (by rfl) (hat 13 rfl ?_)
        refine h_gst c hG (wmT hG (wm804)) (hd 8 13 _ _ rfl) (hat 16 rfl ?_)
        refine h_iln c (hd 9 16 _ _ rfl) (by rfl) (hat 17 rfl ?_)
        refine h_ic c (hd 10 17 _ _ rfl) (by decide) (fun v17 e17 => hat 18 rfl ?_)
        refine h_add c (hd 11 18 _ _ rfl) (by omega) (fun v18 e18 => hat 19 rfl ?_)
        have e18 : v18.toInt = 3 := by omega
        refine h_pald c hG (k := 3) (hd 12 19 _ _ rfl) (by omega) (by decide) (fun v19 e19 => hat 20 rfl ?_)
        have e19 : v19.toInt = 19683 := e19.trans (by decide +kernel)
        refine h_div c (hd 13 20 _ _ rfl) e19 (by decide) (by omega) (fun v20 e20 => hat 21 rfl ?_)
        refine h_gst c hG (wmT hG (wm804)) (hd 14 21 _ _ rfl) (hat 24 rfl ?_)
        refine h_iln c (hd 15 24 _ _ rfl) (by rfl) (hat 25 rfl ?_)
        refine h_pald c hG (k := 2) (hd 16 25 _ _ rfl) (by omega) (by decide) (fun v25 e25 => hat 26 rfl ?_)
        have e25 : v25.toInt = 729 := e25.trans (by decide +kernel)
        refine h_mulR c (hd 17 26 _ _ rfl) e25 (by omega) (fun v26 e26 => hat 27 rfl ?_)
        refine h_iln c (hd 18 27 _ _ rfl) (by rfl) (hat 28 rfl ?_)
        refine h_gst c hG (wmT hG (wm804)) (hd 19 28 _ _ rfl) (hat 31 rfl ?_)
        refine h_iln c (hd 20 31 _ _ rfl) (by rfl) (hat 32 rfl ?_)
        refine h_pald c hG (k := 2) (hd 21 32 _ _ rfl) (by omega) (by decide) (fun v32 e32 => hat 33 rfl ?_)
        have e32 : v32.toInt = 729 := e32.trans (by decide +kernel)
        refine h_rem c (hd 22 33 _ _ rfl) e32 (by decide) (by omega) (fun v33 e33 => hat 34 rfl ?_)
        refine h_add c (hd 23 34 _ _ rfl) (by omega) (fun v34 e34 => hat 35 rfl ?_)
        exact h_iret c (hd 24 35 _ _ rfl) rfl ⟨a, k, _, rfl, rfl, by rw [show k.toInt.toNat = 2 by omega, woI_2]; omega⟩
      · exfalso; omega
  · skip
    refine h_iln c (hd 0 0 _ _ rfl) (by rfl) (hat 1 rfl ?_)
    refine h_if c (hd 1 1 _ _ rfl) (tgt := 10) (by decide) (fun (h1 : k.toInt < 0) => ?_) (fun (h1 : ¬ (k.toInt < 0)) => hat 4 rfl ?_)
    · exfalso; omega
    · skip
      refine h_iln c (hd 2 4 _ _ rfl) (by rfl) (hat 5 rfl ?_)
      refine h_bp c (hd 3 5 _ _ rfl) (by decide) (fun v5 e5 => hat 7 rfl ?_)
      refine h_cmp c (hd 4 7 _ _ rfl) (tgt := 12) (by decide) (fun (h7 : k.toInt < v5.toInt) => ?_) (fun (h7 : ¬ (k.toInt < v5.toInt)) => hat 10 rfl ?_)
      · skip
        refine h_iln c (hd 7 12 _ _ rfl) (by rfl) (hat 13 rfl ?_)
        refine h_gst c hG (wmT hG (wm804)) (hd 8 13 _ _ rfl) (hat 16 rfl ?_)
        refine h_iln c (hd 9 16 _ _ rfl) (by rfl) (hat 17 rfl ?_)
        refine h_ic c (hd 10 17 _ _ rfl) (by decide) (fun v17 e17 => hat 18 rfl ?_)
        refine h_add c (hd 11 18 _ _ rfl) (by omega) (fun v18 e18 => hat 19 rfl ?_)
        have e18 : v18.toInt = 4 := by omega
        refine h_pald c hG (k := 4) (hd 12 19 _ _ rfl) (by omega) (by decide) (fun v19 e19 => hat 20 rfl ?_)
        have e19 : v19.toInt = 531441 := e19.trans (by decide +kernel)
        refine h_div c (hd 13 20 _ _ rfl) e19 (by decide) (by omega) (fun v20 e20 => hat 21 rfl ?_)
        refine h_gst c hG (wmT hG (wm804)) (hd 14 21 _ _ rfl) (hat 24 rfl ?_)
        refine h_iln c (hd 15 24 _ _ rfl) (by rfl) (hat 25 rfl ?_)
        refine h_pald c hG (k := 3) (hd 16 25 _ _ rfl) (by omega) (by decide) (fun v25 e25 => hat 26 rfl ?_)
        have e25 : v25.toInt = 19683 := e25.trans (by decide +kernel)
        refine h_mulR c (hd 17 26 _ _ rfl) e25 (by omega) (fun v26 e26 => hat 27 rfl ?_)
        refine h_iln c (hd 18 27 _ _ rfl) (by rfl) (hat 28 rfl ?_)
        refine h_gst c hG (wmT hG (wm804)) (hd 19 28 _ _ rfl) (hat 31 rfl ?_)
        refine h_iln c (hd 20 31 _ _ rfl) (by rfl) (hat 32 rfl ?_)
        refine h_pald c hG (k := 3) (hd 21 32 _ _ rfl) (by omega) (by decide) (fun v32 e32 => hat 33 rfl ?_)
        have e32 : v32.toInt = 19683 := e32.trans (by decide +kernel)
        refine h_rem c (hd 22 33 _ _ rfl) e32 (by decide) (by omega) (fun v33 e33 => hat 34 rfl ?_)
        refine h_add c (hd 23 34 _ _ rfl) (by omega) (fun v34 e34 => hat 35 rfl ?_)
        exact h_iret c (hd 24 35 _ _ rfl) rfl ⟨a, k, _, rfl, rfl, by rw [show k.toInt.toNat = 3 by omega, woI_3]; omega⟩
      · exfalso; omega
def fM_bg : rfM := ((⟨"NearSpell", "beginningOf", "(II)I"⟩, prog_1_method_55_code, 3, (some .int)), (4,200), ([.inl ((0,387420488,1),none), .inl ((4,4,1),none)],[]), [], [])
def ddEX11_beginningOf : List (Nat × Instr × Nat) := [(0,.iload_n 0,1),(1,.invokestatic 148,3),(4,.iload_n 1,1),(5,.isub,1),(6,.istore_n 2,1),(7,.iload_n 2,1),(8,.ifCond .le 19,3),(11,.iload_n 2,1),(12,.bipush 6,2),(14,.if_icmp .gt 13,3),(17,.iload_n 0,1),(18,.getstatic 360,3),(21,.iload_n 2,1),(22,.iaload,1),(23,.idiv,1),(24,.goto 4,3),(27,.iload_n 0,1),(28,.ireturn,1)]
set_option maxRecDepth 100000 in
theorem dkEX11_beginningOf : rf_decs prog_1_method_55_code ddEX11_beginningOf := rf_decs_of (by decide +kernel)
set_option maxHeartbeats 8000000 in
set_option maxRecDepth 20000 in
theorem fp_bg {G : rfG} (hG : okG G) : h_met G fM_bg (fun _ _ => True) (fun vs _ _ rv => ∃ a n x : Int32, vs = [.int a, .int n] ∧ rv = some (.int x) ∧ x.toInt = dvn a.toInt (lenI a.toInt - 4)) := by
  refine h_metOf hG.1 (by decide +kernel) (by decide) hG.2.2.1 (wflT hG flokX11) (wcsT hG csokX11) ?_
  intro vs w0 X hv_ hr hp c
  match vs, hv_ with
  | [_, _], ⟨⟨a, rfl, hi_a, _⟩, ⟨n, rfl, hi_n, _⟩, _⟩ =>
  have hd : ∀ n pc i len, ddEX11_beginningOf[n]? = some (pc, i, len) → decode (mb fM_bg) pc = .ok (i, len) := fun n pc i len h => hdk dkEX11_beginningOf n pc i len h
  show hW G X fM_bg w0 0 [(0, .int a), (1, .int n)] [] (hv w0)
  generalize hF0 : hv w0 = F at *
  have ha : 0 ≤ a.toInt ∧ a.toInt ≤ 387420488 := ⟨hi_a.1, hi_a.2.1⟩
  have hn : n.toInt = 4 := by have h1 : 4 ≤ n.toInt := hi_n.1; have h2 : n.toInt ≤ 4 := hi_n.2.1; omega
  have hl6 := lenI_le a.toInt
  refine h_iln c (hd 0 0 _ _ rfl) (by rfl) (hat 1 rfl ?_)
  refine h_callSF c (M' := dM_len) (dp_len hG) (by decide +kernel) (wlkS (lkX11_148 hG) _ rfl rfl) (hd 1 1 _ _ rfl) [.int a] (rest := []) (by rfl) ⟨⟨_, rfl, rf_in1 (by omega) (by omega), trivial⟩, trivial⟩ (Nat.le_of_ble_eq_true rfl) trivial (fun rv1 F1 fr1 rr1 pp1 sm_ => hat 4 rfl ?_)
  have e_ := (sm_ rfl).symm
  subst e_
  obtain ⟨a0_, x1, ea_, er_, hx1⟩ := pp1
  cases ea_; subst er_
  have hl_ : lenI a.toInt = 0 ∨ lenI a.toInt = 1 ∨ lenI a.toInt = 2 ∨ lenI a.toInt = 3 ∨ lenI a.toInt = 4 ∨ lenI a.toInt = 5 ∨ lenI a.toInt = 6 := by omega
  rcases hl_ with hl | hl | hl | hl | hl | hl | hl
  · have e_q : x1.toInt = 0 := by omega
    refine h_iln c (hd 2 4 _ _ rfl) (by rfl) (hat 5 rfl ?_)
    refine h_sub c (hd 3 5 _ _ rfl) (by omega) (fun v5 e5 => hat 6 rfl ?_)
    have e5 : v5.toInt = (-4) := by omega
    refine h_isn c (hd 4 6 _ _ rfl) (by decide) (L' := [(2, .int v5), (0, .int a), (1, .int n)]) (by rfl) (hat 7 rfl ?_)
    refine h_iln c (hd 5 7 _ _ rfl) (by rfl) (hat 8 rfl ?_)
    refine h_if c (hd 6 8 _ _ rfl) (tgt := 27) (by decide) (fun (h8 : v5.toInt ≤ 0) => ?_) (fun (h8 : ¬ (v5.toInt ≤ 0)) => hat 11 rfl ?_)
    · skip
      refine h_iln c (hd 16 27 _ _ rfl) (by rfl) (hat 28 rfl ?_)
      exact h_iret c (hd 17 28 _ _ rfl) rfl ⟨a, n, _, rfl, rfl, by rw [hl]; show _ = a.toInt; omega⟩
    · exfalso; omega
  · have e_q : x1.toInt = 1 := by omega
    refine h_iln c (hd 2 4 _ _ rfl) (by rfl) (hat 5 rfl ?_)
    refine h_sub c (hd 3 5 _ _ rfl) (by omega) (fun v5 e5 => hat 6 rfl ?_)
    have e5 : v5.toInt = (-3) := by omega
    refine h_isn c (hd 4 6 _ _ rfl) (by decide) (L' := [(2, .int v5), (0, .int a), (1, .int n)]) (by rfl) (hat 7 rfl ?_)
    refine h_iln c (hd 5 7 _ _ rfl) (by rfl) (hat 8 rfl ?_)
    refine h_if c (hd 6 8 _ _ rfl) (tgt := 27) (by decide) (fun (h8 : v5.toInt ≤ 0) => ?_) (fun (h8 : ¬ (v5.toInt ≤ 0)) => hat 11 rfl ?_)
    · skip
      refine h_iln c (hd 16 27 _ _ rfl) (by rfl) (hat 28 rfl ?_)
      exact h_iret c (hd 17 28 _ _ rfl) rfl ⟨a, n, _, rfl, rfl, by rw [hl]; show _ = a.toInt; omega⟩
    · exfalso; omega
  · have e_q : x1.toInt = 2 := by omega
    refine h_iln c (hd 2 4 _ _ rfl) (by rfl) (hat 5 rfl ?_)
    refine h_sub c (hd 3 5 _ _ rfl) (by omega) (fun v5 e5 => hat 6 rfl ?_)
    have e5 : v5.toInt = (-2) := by omega
    refine h_isn c (hd 4 6 _ _ rfl) (by decide) (L' := [(2, .int v5), (0, .int a), (1, .int n)]) (by rfl) (hat 7 rfl ?_)
    refine h_iln c (hd 5 7 _ _ rfl) (by rfl) (hat 8 rfl ?_)
    refine h_if c (hd 6 8 _ _ rfl) (tgt := 27) (by decide) (fun (h8 : v5.toInt ≤ 0) => ?_) (fun (h8 : ¬ (v5.toInt ≤ 0)) => hat 11 rfl ?_)
    · skip
      refine h_iln c (hd 16 27 _ _ rfl) (by rfl) (hat 28 rfl ?_)
      exact h_iret c (hd 17 28 _ _ rfl) rfl ⟨a, n, _, rfl, rfl, by rw [hl]; show _ = a.toInt; omega⟩
    · exfalso; omega
  · have e_q : x1.toInt = 3 := by omega
    refine h_iln c (hd 2 4 _ _ rfl) (by rfl) (hat 5 rfl ?_)
    refine h_sub c (hd 3 5 _ _ rfl) (by omega) (fun v5 e5 => hat 6 rfl ?_)
    have e5 : v5.toInt = (-1) := by omega
    refine h_isn c (hd 4 6 _ _ rfl) (by decide) (L' := [(2, .int v5), (0, .int a), (1, .int n)]) (by rfl) (hat 7 rfl ?_)
    refine h_iln c (hd 5 7 _ _ rfl) (by rfl) (hat 8 rfl ?_)
    refine h_if c (hd 6 8 _ _ rfl) (tgt := 27) (by decide) (fun (h8 : v5.toInt ≤ 0) => ?_) (fun (h8 : ¬ (v5.toInt ≤ 0)) => hat 11 rfl ?_)
    · skip
      refine h_iln c (hd 16 27 _ _ rfl) (by rfl) (hat 28 rfl ?_)
      exact h_iret c (hd 17 28 _ _ rfl) rfl ⟨a, n, _, rfl, rfl, by rw [hl]; show _ = a.toInt; omega⟩
    · exfalso; omega
  · have e_q : x1.toInt = 4 := by omega
    refine h_iln c (hd 2 4 _ _ rfl) (by rfl) (hat 5 rfl ?_)
    refine h_sub c (hd 3 5 _ _ rfl) (by omega) (fun v5 e5 => hat 6 rfl ?_)
    have e5 : v5.toInt = 0 := by omega
    refine h_isn c (hd 4 6 _ _ rfl) (by decide) (L' := [(2, .int v5), (0, .int a), (1, .int n)]) (by rfl) (hat 7 rfl ?_)
    refine h_iln c (hd 5 7 _ _ rfl) (by rfl) (hat 8 rfl ?_)
    refine h_if c (hd 6 8 _ _ rfl) (tgt := 27) (by decide) (fun (h8 : v5.toInt ≤ 0) => ?_) (fun (h8 : ¬ (v5.toInt ≤ 0)) => hat 11 rfl ?_)
    · skip
      refine h_iln c (hd 16 27 _ _ rfl) (by rfl) (hat 28 rfl ?_)
      exact h_iret c (hd 17 28 _ _ rfl) rfl ⟨a, n, _, rfl, rfl, by rw [hl]; show _ = a.toInt; omega⟩
    · exfalso; omega
  · have e_q : x1.toInt = 5 := by omega
    refine h_iln c (hd 2 4 _ _ rfl) (by rfl) (hat 5 rfl ?_)
    refine h_sub c (hd 3 5 _ _ rfl) (by omega) (fun v5 e5 => hat 6 rfl ?_)
    have e5 : v5.toInt = 1 := by omega
    refine h_isn c (hd 4 6 _ _ rfl) (by decide) (L' := [(2, .int v5), (0, .int a), (1, .int n)]) (by rfl) (hat 7 rfl ?_)
    refine h_iln c (hd 5 7 _ _ rfl) (by rfl) (hat 8 rfl ?_)
    refine h_if c (hd 6 8 _ _ rfl) (tgt := 27) (by decide) (fun (h8 : v5.toInt ≤ 0) => ?_) (fun (h8 : ¬ (v5.toInt ≤ 0)) => hat 11 rfl ?_)
    · exfalso; omega
    · skip
      refine h_iln c (hd 7 11 _ _ rfl) (by rfl) (hat 12 rfl ?_)
      refine h_bp c (hd 8 12 _ _ rfl) (by decide) (fun v12 e12 => hat 14 rfl ?_)
      refine h_cmp c (hd 9 14 _ _ rfl) (tgt := 27) (by decide) (fun (h14 : v12.toInt < v5.toInt) => ?_) (fun (h14 : ¬ (v12.toInt < v5.toInt)) => hat 17 rfl ?_)
      · exfalso; omega
      · skip
        refine h_iln c (hd 10 17 _ _ rfl) (by rfl) (hat 18 rfl ?_)
        refine h_gst c hG (wmT hG (wm804)) (hd 11 18 _ _ rfl) (hat 21 rfl ?_)
        refine h_iln c (hd 12 21 _ _ rfl) (by rfl) (hat 22 rfl ?_)
        refine h_pald c hG (k := 1) (hd 13 22 _ _ rfl) (by omega) (by decide) (fun v22 e22 => hat 23 rfl ?_)
        have e22 : v22.toInt = 27 := e22.trans (by decide +kernel)
        refine h_div c (hd 14 23 _ _ rfl) e22 (by decide) (by omega) (fun v23 e23 => hat 24 rfl ?_)
        refine h_goto c (hd 15 24 _ _ rfl) (tgt := 28) (by decide) ?_
        exact h_iret c (hd 17 28 _ _ rfl) rfl ⟨a, n, _, rfl, rfl, by rw [hl]; show _ = a.toInt / 27; omega⟩
  · have e_q : x1.toInt = 6 := by omega
    refine h_iln c (hd 2 4 _ _ rfl) (by rfl) (hat 5 rfl ?_)
    refine h_sub c (hd 3 5 _ _ rfl) (by omega) (fun v5 e5 => hat 6 rfl ?_)
    have e5 : v5.toInt = 2 := by omega
    refine h_isn c (hd 4 6 _ _ rfl) (by decide) (L' := [(2, .int v5), (0, .int a), (1, .int n)]) (by rfl) (hat 7 rfl ?_)
    refine h_iln c (hd 5 7 _ _ rfl) (by rfl) (hat 8 rfl ?_)
    refine h_if c (hd 6 8 _ _ rfl) (tgt := 27) (by decide) (fun (h8 : v5.toInt ≤ 0) => ?_) (fun (h8 : ¬ (v5.toInt ≤ 0)) => hat 11 rfl ?_)
    · exfalso; omega
    · skip
      refine h_iln c (hd 7 11 _ _ rfl) (by rfl) (hat 12 rfl ?_)
      refine h_bp c (hd 8 12 _ _ rfl) (by decide) (fun v12 e12 => hat 14 rfl ?_)
      refine h_cmp c (hd 9 14 _ _ rfl) (tgt := 27) (by decide) (fun (h14 : v12.toInt < v5.toInt) => ?_) (fun (h14 : ¬ (v12.toInt < v5.toInt)) => hat 17 rfl ?_)
      · exfalso; omega
      · skip
        refine h_iln c (hd 10 17 _ _ rfl) (by rfl) (hat 18 rfl ?_)
        refine h_gst c hG (wmT hG (wm804)) (hd 11 18 _ _ rfl) (hat 21 rfl ?_)
        refine h_iln c (hd 12 21 _ _ rfl) (by rfl) (hat 22 rfl ?_)
        refine h_pald c hG (k := 2) (hd 13 22 _ _ rfl) (by omega) (by decide) (fun v22 e22 => hat 23 rfl ?_)
        have e22 : v22.toInt = 729 := e22.trans (by decide +kernel)
        refine h_div c (hd 14 23 _ _ rfl) e22 (by decide) (by omega) (fun v23 e23 => hat 24 rfl ?_)
        refine h_goto c (hd 15 24 _ _ rfl) (tgt := 28) (by decide) ?_
        exact h_iret c (hd 17 28 _ _ rfl) rfl ⟨a, n, _, rfl, rfl, by rw [hl]; show _ = a.toInt / 27 / 27; omega⟩
def fM_add : rfM := ((⟨"NearSpell$FormList", "add", "(I)V"⟩, prog_5_method_4_code, 4, none), (2,100), ([.inr (.inl [50]), .inl ((0,531440,1),none)],[]), [(49,0),(50,2)], [])
def ddEX3_add : List (Nat × Instr × Nat) := [(0,.aload_n 0,1),(1,.getfield 15,3),(4,.istore_n 2,1),(5,.iload_n 2,1),(6,.ifCond .le 21,3),(9,.aload_n 0,1),(10,.getfield 9,3),(13,.iload_n 2,1),(14,.iconst 1,1),(15,.isub,1),(16,.iaload,1),(17,.iload_n 1,1),(18,.if_icmp .le 9,3),(21,.iinc 2 (-1),3),(24,.goto (-19),3),(27,.iload_n 2,1),(28,.ifCond .le 15,3),(31,.aload_n 0,1),(32,.getfield 9,3),(35,.iload_n 2,1),(36,.iconst 1,1),(37,.isub,1),(38,.iaload,1),(39,.iload_n 1,1),(40,.if_icmp .eq 15,3),(43,.aload_n 0,1),(44,.getfield 15,3),(47,.aload_n 0,1),(48,.getfield 9,3),(51,.arraylength,1),(52,.if_icmp .lt 4,3),(55,.return_,1),(56,.aload_n 0,1),(57,.getfield 15,3),(60,.istore_n 3,1),(61,.iload_n 3,1),(62,.iload_n 2,1),(63,.if_icmp .le 23,3),(66,.aload_n 0,1),(67,.getfield 9,3),(70,.iload_n 3,1),(71,.aload_n 0,1),(72,.getfield 9,3),(75,.iload_n 3,1),(76,.iconst 1,1),(77,.isub,1),(78,.iaload,1),(79,.iastore,1),(80,.iinc 3 (-1),3),(83,.goto (-22),3),(86,.aload_n 0,1),(87,.getfield 9,3),(90,.iload_n 2,1),(91,.iload_n 1,1),(92,.iastore,1),(93,.aload_n 0,1),(94,.dup,1),(95,.getfield 15,3),(98,.iconst 1,1),(99,.iadd,1),(100,.putfield 15,3),(103,.return_,1)]
set_option maxRecDepth 100000 in
theorem dkEX3_add : rf_decs prog_5_method_4_code ddEX3_add := rf_decs_of (by decide +kernel)
set_option maxHeartbeats 8000000 in
set_option maxRecDepth 20000 in
theorem fp_add {G : rfG} (hG : okG G) : h_met G fM_add (fun _ F => (F 50 1).toInt ≤ 20 ∧ rOK 49 50 1 F) (fun vs F F' rv => rv = none ∧ ∃ a : Int32, vs[1]? = some (.int a) ∧ rIns 49 50 1 F F' a.toInt) := by
  refine h_metOf hG.1 (by decide +kernel) (by decide) hG.2.2.1 (wflT hG flokX3) (wcsT hG csokX3) ?_
  intro vs w0 X hv_ hr hp c
  match vs, hv_ with
  | [_, _], ⟨⟨_, hj0, rfl⟩, ⟨a, rfl, hi_a, _⟩, _⟩ =>
  cases List.mem_singleton.mp hj0
  have hd : ∀ n pc i len, ddEX3_add[n]? = some (pc, i, len) → decode (mb fM_add) pc = .ok (i, len) := fun n pc i len h => hdk dkEX3_add n pc i len h
  show hW G X fM_add w0 0 [(0, .ref (G.2.1.1 50)), (1, .int a)] [] (hv w0)
  generalize hF0 : hv w0 = F at *
  obtain ⟨hsz, hso⟩ := hp
  have hs0 : 0 ≤ (F 50 1).toInt := (hrg hr ely_50_1).1
  have KE : ∀ (w3 w2 : Int32) (F1 : HF), hframe [(49, 0)] F F1 → 0 ≤ w2.toInt → w2.toInt ≤ (F 50 1).toInt → (∀ k : Nat, (k : Int) < w2.toInt → (F 49 k).toInt < a.toInt) → (∀ k : Nat, w2.toInt ≤ (k : Int) → (k : Int) < (F 50 1).toInt → a.toInt < (F 49 k).toInt) → (∀ k : Nat, (k : Int) < w2.toInt → F1 49 k = F 49 k) → (∀ k : Nat, w2.toInt < (k : Int) → (k : Int) ≤ (F 50 1).toInt → F1 49 k = F 49 (k - 1)) → hW G X fM_add w0 86 [(3, .int w3), (2, .int w2), (1, .int a), (0, .ref (G.2.1.1 50))] [] F1 := by
    intro w3 w2 F1 fr1 h20 h21 hlt hgt hu1 hu2
    refine h_aln c (hd 50 86 _ _ rfl) (by rfl) (hat 87 rfl ?_)
    refine h_getR c (hd 51 87 _ _ rfl) efgX3_9 egnX3_9_50 (hat 90 rfl ?_)
    refine h_iln c (hd 52 90 _ _ rfl) (by rfl) (hat 91 rfl ?_)
    refine h_iln c (hd 53 91 _ _ rfl) (by rfl) (hat 92 rfl ?_)
    refine h_iast c (k := w2.toInt.toNat) (hd 54 92 _ _ rfl) ela_49 ⟨by omega, by omega⟩ (by omega) (by decide) (by decide) (hin1 (rf_in_top _)) (hat 93 rfl ?_)
    refine h_aln c (hd 55 93 _ _ rfl) (by rfl) (hat 94 rfl ?_)
    refine h_dup c (hd 56 94 _ _ rfl) (by rfl) (hat 95 rfl ?_)
    refine h_getI c (hd 57 95 _ _ rfl) efgX3_15 egnX3_15_50 (x := F 50 1) (fr1 50 1 (by decide) (by rfl)) (hat 98 rfl ?_)
    refine h_ic c (hd 58 98 _ _ rfl) (by decide) (fun v98 e98 => hat 99 rfl ?_)
    refine h_add c (hd 59 99 _ _ rfl) (by omega) (fun v99 e99 => hat 100 rfl ?_)
    refine h_putI c (hd 60 100 _ _ rfl) efgX3_15 egnX3_15_50 (by decide) (by decide) rfl (rf_in1 (by omega) (by omega)) (hat 103 rfl ?_)
    refine h_vret c (hd 61 103 _ _ rfl) rfl ⟨rfl, a, rfl, rIns_new (p := w2.toInt.toNat) hso hs0 (show v99.toInt = _ by omega) (by omega) (fun k hk => hlt k (by omega)) (fun k h1 h2 => hgt k (by omega) h2) (fun k hk => ?_) ?_ (fun k h1 h2 => ?_)⟩
    · show (if k = w2.toInt.toNat then a else F1 49 k).toInt = _
      rw [if_neg (by omega), hu1 k (by omega)]
    · show (if w2.toInt.toNat = w2.toInt.toNat then a else F1 49 w2.toInt.toNat).toInt = _
      rw [if_pos (by omega)]
    · show (if k = w2.toInt.toNat then a else F1 49 k).toInt = _
      rw [if_neg (by omega), hu2 k (by omega) h2]
  have KS : ∀ (m : Nat) (w3 w2 : Int32) (F1 : HF), hframe [(49, 0)] F F1 → 0 ≤ w2.toInt → w2.toInt ≤ w3.toInt → w3.toInt ≤ (F 50 1).toInt → (∀ k : Nat, (k : Int) < w2.toInt → (F 49 k).toInt < a.toInt) → (∀ k : Nat, w2.toInt ≤ (k : Int) → (k : Int) < (F 50 1).toInt → a.toInt < (F 49 k).toInt) → (∀ k : Nat, (k : Int) < w3.toInt → F1 49 k = F 49 k) → (∀ k : Nat, w3.toInt < (k : Int) → (k : Int) ≤ (F 50 1).toInt → F1 49 k = F 49 (k - 1)) → m = w3.toInt.toNat → hW G X fM_add w0 61 [(3, .int w3), (2, .int w2), (1, .int a), (0, .ref (G.2.1.1 50))] [] F1 := by
    intro m
    induction m using Nat.strongRecOn with
    | ind m ih =>
    intro w3 w2 F1 fr1 h20 h21 h22 hlt hgt hu1 hu2 hm
    refine h_iln c (hd 35 61 _ _ rfl) (by rfl) (hat 62 rfl ?_)
    refine h_iln c (hd 36 62 _ _ rfl) (by rfl) (hat 63 rfl ?_)
    refine h_cmp c (hd 37 63 _ _ rfl) (tgt := 86) (by decide) (fun (h63 : w3.toInt ≤ w2.toInt) => ?_) (fun (h63 : ¬ (w3.toInt ≤ w2.toInt)) => hat 66 rfl ?_)
    · skip
      exact h_less (L := [(3, .int w3), (2, .int w2), (1, .int a), (0, .ref (G.2.1.1 50))]) (by simp) (KE _ w2 _ fr1 h20 (by omega) hlt hgt (fun k hk => hu1 k (by omega)) (fun k h1 h2 => hu2 k (by omega) h2))
    · skip
      refine h_aln c (hd 38 66 _ _ rfl) (by rfl) (hat 67 rfl ?_)
      refine h_getR c (hd 39 67 _ _ rfl) efgX3_9 egnX3_9_50 (hat 70 rfl ?_)
      refine h_iln c (hd 40 70 _ _ rfl) (by rfl) (hat 71 rfl ?_)
      refine h_aln c (hd 41 71 _ _ rfl) (by rfl) (hat 72 rfl ?_)
      refine h_getR c (hd 42 72 _ _ rfl) efgX3_9 egnX3_9_50 (hat 75 rfl ?_)
      refine h_iln c (hd 43 75 _ _ rfl) (by rfl) (hat 76 rfl ?_)
      refine h_ic c (hd 44 76 _ _ rfl) (by decide) (fun v76 e76 => hat 77 rfl ?_)
      refine h_sub c (hd 45 77 _ _ rfl) (by omega) (fun v77 e77 => hat 78 rfl ?_)
      refine h_iald c (hd 46 78 _ _ rfl) ela_49 ⟨by omega, by omega⟩ (by omega) (x := F1 49 (w3.toInt.toNat - 1)) (rfl) (hat 79 rfl ?_)
      refine h_iast c (k := w3.toInt.toNat) (hd 47 79 _ _ rfl) ela_49 ⟨by omega, by omega⟩ (by omega) (by decide) (by decide) (hin1 (rf_in_top _)) (hat 80 rfl ?_)
      refine h_inc c (fun r_ => [(3, .int r_), (2, .int w2), (1, .int a), (0, .ref (G.2.1.1 50))]) (hd 48 80 _ _ rfl) (by decide) (by decide) (by rfl) (by omega) (fun _ => by rfl) (fun v80 e80 => hat 83 rfl ?_)
      refine h_goto c (hd 49 83 _ _ rfl) (tgt := 61) (by decide) ?_
      refine h_less (L := [(3, .int v80), (2, .int w2), (1, .int a), (0, .ref (G.2.1.1 50))]) (by simp) (ih v80.toInt.toNat (by omega) _ w2 _ (hframe_up fr1 (by rfl) _) h20 (by omega) (by omega) hlt hgt (fun k hk => ?_) (fun k h1 h2 => ?_) (by omega))
      · show (if k = w3.toInt.toNat then (F1 49 (w3.toInt.toNat - 1)) else F1 49 k) = _
        rw [if_neg (by omega)]; exact hu1 k (by omega)
      · show (if k = w3.toInt.toNat then (F1 49 (w3.toInt.toNat - 1)) else F1 49 k) = _
        by_cases e_ : k = w3.toInt.toNat
        · rw [if_pos e_, e_]; exact hu1 _ (by omega)
        · rw [if_neg e_]; exact hu2 k (by omega) h2
  have KB : ∀ (w2 : Int32), 0 ≤ w2.toInt → w2.toInt ≤ (F 50 1).toInt → (∀ k : Nat, w2.toInt ≤ (k : Int) → (k : Int) < (F 50 1).toInt → a.toInt < (F 49 k).toInt) → (0 < w2.toInt → (F 49 (w2.toInt.toNat - 1)).toInt ≤ a.toInt) → hW G X fM_add w0 27 [(2, .int w2), (1, .int a), (0, .ref (G.2.1.1 50))] [] F := by
    intro w2 h20 h21 hg0 hx0
    refine h_iln c (hd 15 27 _ _ rfl) (by rfl) (hat 28 rfl ?_)
    refine h_if c (hd 16 28 _ _ rfl) (tgt := 43) (by decide) (fun (h28 : w2.toInt ≤ 0) => ?_) (fun (h28 : ¬ (w2.toInt ≤ 0)) => hat 31 rfl ?_)
    · skip
      refine h_aln c (hd 25 43 _ _ rfl) (by rfl) (hat 44 rfl ?_)
      refine h_getI c (hd 26 44 _ _ rfl) efgX3_15 egnX3_15_50 (x := F 50 1) (rfl) (hat 47 rfl ?_)
      refine h_aln c (hd 27 47 _ _ rfl) (by rfl) (hat 48 rfl ?_)
      refine h_getR c (hd 28 48 _ _ rfl) efgX3_9 egnX3_9_50 (hat 51 rfl ?_)
      refine h_alen c (j := 49) (n := 22) (hd 29 51 _ _ rfl) (by rfl) (by decide) (fun v51 e51 => hat 52 rfl ?_)
      have e51 : v51.toInt = 22 := by omega
      refine h_cmp c (hd 30 52 _ _ rfl) (tgt := 56) (by decide) (fun (h52 : (F 50 1).toInt < v51.toInt) => ?_) (fun (h52 : ¬ ((F 50 1).toInt < v51.toInt)) => hat 55 rfl ?_)
      · skip
        refine h_aln c (hd 32 56 _ _ rfl) (by rfl) (hat 57 rfl ?_)
        refine h_getI c (hd 33 57 _ _ rfl) efgX3_15 egnX3_15_50 (x := F 50 1) (rfl) (hat 60 rfl ?_)
        refine h_isn c (hd 34 60 _ _ rfl) (by decide) (L' := [(3, .int (F 50 1)), (2, .int w2), (1, .int a), (0, .ref (G.2.1.1 50))]) (by rfl) (hat 61 rfl ?_)
        have hle_ : ∀ k : Nat, (k : Int) < w2.toInt → (F 49 k).toInt ≤ (F 49 (w2.toInt.toNat - 1)).toInt := fun k hk => by
          by_cases e_ : k = w2.toInt.toNat - 1
          · rw [e_]; exact Int.le_refl _
          · exact Int.le_of_lt (hso k (w2.toInt.toNat - 1) (by omega) (by omega))
        exact h_less (L := [(3, .int (F 50 1)), (2, .int w2), (1, .int a), (0, .ref (G.2.1.1 50))]) (by simp) (KS _ _ w2 _ (hframe_rf _ _) h20 (by omega) (Int.le_refl _) (fun k hk => by have q1_ := hle_ k hk; have q2_ := hx0 (by omega); omega) hg0 (fun _ _ => rfl) (fun k h1 h2 => by exfalso; omega) rfl)
      · skip
        exfalso; omega
    · skip
      refine h_aln c (hd 17 31 _ _ rfl) (by rfl) (hat 32 rfl ?_)
      refine h_getR c (hd 18 32 _ _ rfl) efgX3_9 egnX3_9_50 (hat 35 rfl ?_)
      refine h_iln c (hd 19 35 _ _ rfl) (by rfl) (hat 36 rfl ?_)
      refine h_ic c (hd 20 36 _ _ rfl) (by decide) (fun v36 e36 => hat 37 rfl ?_)
      refine h_sub c (hd 21 37 _ _ rfl) (by omega) (fun v37 e37 => hat 38 rfl ?_)
      refine h_iald c (hd 22 38 _ _ rfl) ela_49 ⟨by omega, by omega⟩ (by omega) (x := F 49 (w2.toInt.toNat - 1)) (rfl) (hat 39 rfl ?_)
      refine h_iln c (hd 23 39 _ _ rfl) (by rfl) (hat 40 rfl ?_)
      refine h_cmp c (hd 24 40 _ _ rfl) (tgt := 55) (by decide) (fun (h40 : (F 49 (w2.toInt.toNat - 1)).toInt = a.toInt) => ?_) (fun (h40 : ¬ ((F 49 (w2.toInt.toNat - 1)).toInt = a.toInt)) => hat 43 rfl ?_)
      · skip
        exact h_vret c (hd 31 55 _ _ rfl) rfl ⟨rfl, a, rfl, rIns_old (p := w2.toInt.toNat - 1) hso (by omega) (by omega)⟩
      · skip
        refine h_aln c (hd 25 43 _ _ rfl) (by rfl) (hat 44 rfl ?_)
        refine h_getI c (hd 26 44 _ _ rfl) efgX3_15 egnX3_15_50 (x := F 50 1) (rfl) (hat 47 rfl ?_)
        refine h_aln c (hd 27 47 _ _ rfl) (by rfl) (hat 48 rfl ?_)
        refine h_getR c (hd 28 48 _ _ rfl) efgX3_9 egnX3_9_50 (hat 51 rfl ?_)
        refine h_alen c (j := 49) (n := 22) (hd 29 51 _ _ rfl) (by rfl) (by decide) (fun v51 e51 => hat 52 rfl ?_)
        have e51 : v51.toInt = 22 := by omega
        refine h_cmp c (hd 30 52 _ _ rfl) (tgt := 56) (by decide) (fun (h52 : (F 50 1).toInt < v51.toInt) => ?_) (fun (h52 : ¬ ((F 50 1).toInt < v51.toInt)) => hat 55 rfl ?_)
        · skip
          refine h_aln c (hd 32 56 _ _ rfl) (by rfl) (hat 57 rfl ?_)
          refine h_getI c (hd 33 57 _ _ rfl) efgX3_15 egnX3_15_50 (x := F 50 1) (rfl) (hat 60 rfl ?_)
          refine h_isn c (hd 34 60 _ _ rfl) (by decide) (L' := [(3, .int (F 50 1)), (2, .int w2), (1, .int a), (0, .ref (G.2.1.1 50))]) (by rfl) (hat 61 rfl ?_)
          have hle_ : ∀ k : Nat, (k : Int) < w2.toInt → (F 49 k).toInt ≤ (F 49 (w2.toInt.toNat - 1)).toInt := fun k hk => by
            by_cases e_ : k = w2.toInt.toNat - 1
            · rw [e_]; exact Int.le_refl _
            · exact Int.le_of_lt (hso k (w2.toInt.toNat - 1) (by omega) (by omega))
          exact h_less (L := [(3, .int (F 50 1)), (2, .int w2), (1, .int a), (0, .ref (G.2.1.1 50))]) (by simp) (KS _ _ w2 _ (hframe_rf _ _) h20 (by omega) (Int.le_refl _) (fun k hk => by have q1_ := hle_ k hk; have q2_ := hx0 (by omega); omega) hg0 (fun _ _ => rfl) (fun k h1 h2 => by exfalso; omega) rfl)
        · skip
          exfalso; omega
  have K5 : ∀ (m : Nat) (w2 : Int32), 0 ≤ w2.toInt → w2.toInt ≤ (F 50 1).toInt → (∀ k : Nat, w2.toInt ≤ (k : Int) → (k : Int) < (F 50 1).toInt → a.toInt < (F 49 k).toInt) → m = w2.toInt.toNat → hW G X fM_add w0 5 [(2, .int w2), (1, .int a), (0, .ref (G.2.1.1 50))] [] F := by
    intro m
    induction m using Nat.strongRecOn with
    | ind m ih =>
    intro w2 h20 h21 hg0 hm
    refine h_iln c (hd 3 5 _ _ rfl) (by rfl) (hat 6 rfl ?_)
    refine h_if c (hd 4 6 _ _ rfl) (tgt := 27) (by decide) (fun (h6 : w2.toInt ≤ 0) => ?_) (fun (h6 : ¬ (w2.toInt ≤ 0)) => hat 9 rfl ?_)
    · skip
      exact h_less (L := [(2, .int w2), (1, .int a), (0, .ref (G.2.1.1 50))]) (by simp) (KB w2 h20 h21 hg0 (fun q_ => by omega))
    · skip
      refine h_aln c (hd 5 9 _ _ rfl) (by rfl) (hat 10 rfl ?_)
      refine h_getR c (hd 6 10 _ _ rfl) efgX3_9 egnX3_9_50 (hat 13 rfl ?_)
      refine h_iln c (hd 7 13 _ _ rfl) (by rfl) (hat 14 rfl ?_)
      refine h_ic c (hd 8 14 _ _ rfl) (by decide) (fun v14 e14 => hat 15 rfl ?_)
      refine h_sub c (hd 9 15 _ _ rfl) (by omega) (fun v15 e15 => hat 16 rfl ?_)
      refine h_iald c (hd 10 16 _ _ rfl) ela_49 ⟨by omega, by omega⟩ (by omega) (x := F 49 (w2.toInt.toNat - 1)) (rfl) (hat 17 rfl ?_)
      refine h_iln c (hd 11 17 _ _ rfl) (by rfl) (hat 18 rfl ?_)
      refine h_cmp c (hd 12 18 _ _ rfl) (tgt := 27) (by decide) (fun (h18 : (F 49 (w2.toInt.toNat - 1)).toInt ≤ a.toInt) => ?_) (fun (h18 : ¬ ((F 49 (w2.toInt.toNat - 1)).toInt ≤ a.toInt)) => hat 21 rfl ?_)
      · skip
        exact h_less (L := [(2, .int w2), (1, .int a), (0, .ref (G.2.1.1 50))]) (by simp) (KB w2 h20 h21 hg0 (fun q_ => by omega))
      · skip
        refine h_inc c (fun r_ => [(2, .int r_), (1, .int a), (0, .ref (G.2.1.1 50))]) (hd 13 21 _ _ rfl) (by decide) (by decide) (by rfl) (by omega) (fun _ => by rfl) (fun v21 e21 => hat 24 rfl ?_)
        refine h_goto c (hd 14 24 _ _ rfl) (tgt := 5) (by decide) ?_
        exact h_less (L := [(2, .int v21), (1, .int a), (0, .ref (G.2.1.1 50))]) (by simp) (ih v21.toInt.toNat (by omega) _ (by omega) (by omega) (fun k h1 h2 => by by_cases e_ : k = w2.toInt.toNat - 1; (· rw [e_]; omega); exact hg0 k (by omega) h2) rfl)
  refine h_aln c (hd 0 0 _ _ rfl) (by rfl) (hat 1 rfl ?_)
  refine h_getI c (hd 1 1 _ _ rfl) efgX3_15 egnX3_15_50 (x := F 50 1) (rfl) (hat 4 rfl ?_)
  refine h_isn c (hd 2 4 _ _ rfl) (by decide) (L' := [(2, .int (F 50 1)), (0, .ref (G.2.1.1 50)), (1, .int a)]) (by rfl) (hat 5 rfl ?_)
  exact h_less (L := [(2, .int (F 50 1)), (1, .int a), (0, .ref (G.2.1.1 50))]) (by simp) (K5 _ _ hs0 (Int.le_refl _) (fun k h1 h2 => by exfalso; omega) rfl)
def fM_sh : rfM := ((⟨"NearSpell$FormList", "shorten", "(I)V"⟩, prog_5_method_3_code, 6, none), (5,300), ([.inr (.inl [50]), .inl ((0,531440,1),none)],[]), [(49,0),(50,2)], [])
def ddEX3_shorten : List (Nat × Instr × Nat) := [(0,.iload_n 1,1),(1,.invokestatic 39,3),(4,.istore_n 2,1),(5,.iconst 0,1),(6,.istore_n 3,1),(7,.iload_n 3,1),(8,.iload_n 2,1),(9,.if_icmp .ge 58,3),(12,.iload_n 1,1),(13,.iload_n 3,1),(14,.invokestatic 43,3),(17,.istore 4,2),(19,.aload_n 0,1),(20,.iload 4,2),(22,.invokevirtual 32,3),(25,.iconst 0,1),(26,.istore 5,2),(28,.aload_n 0,1),(29,.getfield 25,3),(32,.iconst 1,1),(33,.if_icmp .le 28,3),(36,.iload 5,2),(38,.iload_n 2,1),(39,.iconst 1,1),(40,.isub,1),(41,.if_icmp .ge 20,3),(44,.aload_n 0,1),(45,.iload 4,2),(47,.iload 5,2),(49,.invokestatic 43,3),(52,.invokevirtual 32,3),(55,.iinc 5 1,3),(58,.goto (-30),3),(61,.iinc 3 1,3),(64,.goto (-57),3),(67,.return_,1)]
set_option maxRecDepth 100000 in
theorem dkEX3_shorten : rf_decs prog_5_method_3_code ddEX3_shorten := rf_decs_of (by decide +kernel)
set_option maxHeartbeats 8000000 in
set_option maxRecDepth 20000 in
theorem fp_sh {G : rfG} (hG : okG G) : h_met G fM_sh (fun _ F => (F 50 4).toInt = 2 ∧ (F 50 1).toInt ≤ 1 ∧ rOK 49 50 1 F) (fun vs F F' rv => rv = none ∧ ∃ a : Int32, vs[1]? = some (.int a) ∧ (F' 50 1).toInt ≤ (F 50 1).toInt + 16 ∧ rOK 49 50 1 F' ∧ ∀ x, rM 49 50 1 F' x ↔ (rM 49 50 1 F x ∨ sX a.toInt (lenI a.toInt) (lenI a.toInt) x)) := by
  refine h_metOf hG.1 (by decide +kernel) (by decide) hG.2.2.1 (wflT hG flokX3) (wcsT hG csokX3) ?_
  intro vs w0 X hv_ hr hp c
  match vs, hv_ with
  | [_, _], ⟨⟨_, hj0, rfl⟩, ⟨a, rfl, hi_a, _⟩, _⟩ =>
  cases List.mem_singleton.mp hj0
  have hd : ∀ n pc i len, ddEX3_shorten[n]? = some (pc, i, len) → decode (mb fM_sh) pc = .ok (i, len) := fun n pc i len h => hdk dkEX3_shorten n pc i len h
  show hW G X fM_sh w0 0 [(0, .ref (G.2.1.1 50)), (1, .int a)] [] (hv w0)
  generalize hF0 : hv w0 = F at *
  obtain ⟨hE, hsz, hso⟩ := hp
  have ha : 0 ≤ a.toInt ∧ a.toInt ≤ 531440 := ⟨hi_a.1, hi_a.2.1⟩
  have hl4 := lenI4 (w := a.toInt) (by omega)
  have K7 : ∀ (n1 : Int32), n1.toInt = (lenI a.toInt : Int) → ∀ (m : Nat) (w3 : Int32) (F1 : HF), hframe [(49, 0), (50, 2)] F F1 → 0 ≤ w3.toInt → w3.toInt ≤ (lenI a.toInt : Int) → (F1 50 1).toInt ≤ (F 50 1).toInt + 4 * w3.toInt → rOK 49 50 1 F1 → (∀ x, rM 49 50 1 F1 x ↔ (rM 49 50 1 F x ∨ sX a.toInt (lenI a.toInt) w3.toInt.toNat x)) → m = lenI a.toInt - w3.toInt.toNat → hW G X fM_sh w0 7 [(3, .int w3), (2, .int n1), (1, .int a), (0, .ref (G.2.1.1 50))] [] F1 := by
    intro n1 hn1
    intro m
    induction m using Nat.strongRecOn with
    | ind m ih =>
    have K28 : ∀ (w3 w4 : Int32), 0 ≤ w3.toInt → w3.toInt < (lenI a.toInt : Int) → m = lenI a.toInt - w3.toInt.toNat → w4.toInt = woI a.toInt w3.toInt.toNat → ∀ (m2 : Nat) (w5 : Int32) (F2 : HF), hframe [(49, 0), (50, 2)] F F2 → 0 ≤ w5.toInt → w5.toInt ≤ (lenI a.toInt : Int) - 1 → (F2 50 1).toInt ≤ (F 50 1).toInt + 4 * w3.toInt + 1 + w5.toInt → rOK 49 50 1 F2 → (∀ x, rM 49 50 1 F2 x ↔ (rM 49 50 1 F x ∨ sX a.toInt (lenI a.toInt) w3.toInt.toNat x ∨ x = w4.toInt ∨ ∃ k, k < w5.toInt.toNat ∧ x = woI w4.toInt k)) → m2 = lenI a.toInt - w5.toInt.toNat → hW G X fM_sh w0 28 [(5, .int w5), (4, .int w4), (3, .int w3), (2, .int n1), (1, .int a), (0, .ref (G.2.1.1 50))] [] F2 := by
      intro w3 w4 h30 h31 hm hw4 m2
      induction m2 using Nat.strongRecOn with
      | ind m2 ih2 =>
      intro w5 F2 fr2 h50 h51 hz2 ho2 hI2 hm2
      have hwr := woI_in ha.1 ha.2 w3.toInt.toNat
      rw [← hw4] at hwr
      refine h_aln c (hd 17 28 _ _ rfl) (by rfl) (hat 29 rfl ?_)
      refine h_getI c (hd 18 29 _ _ rfl) efgX3_25 egnX3_25_50 (x := F 50 4) (fr2 50 4 (by decide) (by rfl)) (hat 32 rfl ?_)
      refine h_ic c (hd 19 32 _ _ rfl) (by decide) (fun v32 e32 => hat 33 rfl ?_)
      refine h_cmp c (hd 20 33 _ _ rfl) (tgt := 61) (by decide) (fun (h33 : (F 50 4).toInt ≤ v32.toInt) => ?_) (fun (h33 : ¬ ((F 50 4).toInt ≤ v32.toInt)) => hat 36 rfl ?_)
      · skip
        exact absurd h33 (by omega)
      · skip
        refine h_il c (hd 21 36 _ _ rfl) (by rfl) (hat 38 rfl ?_)
        refine h_iln c (hd 22 38 _ _ rfl) (by rfl) (hat 39 rfl ?_)
        refine h_ic c (hd 23 39 _ _ rfl) (by decide) (fun v39 e39 => hat 40 rfl ?_)
        refine h_sub c (hd 24 40 _ _ rfl) (by omega) (fun v40 e40 => hat 41 rfl ?_)
        refine h_cmp c (hd 25 41 _ _ rfl) (tgt := 61) (by decide) (fun (h41 : v40.toInt ≤ w5.toInt) => ?_) (fun (h41 : ¬ (v40.toInt ≤ w5.toInt)) => hat 44 rfl ?_)
        · skip
          refine h_inc c (fun r_ => [(3, .int r_), (5, .int w5), (4, .int w4), (2, .int n1), (1, .int a), (0, .ref (G.2.1.1 50))]) (hd 33 61 _ _ rfl) (by decide) (by decide) (by rfl) (by omega) (fun _ => by rfl) (fun v61 e61 => hat 64 rfl ?_)
          refine h_goto c (hd 34 64 _ _ rfl) (tgt := 7) (by decide) ?_
          refine h_less (L := [(3, .int v61), (2, .int n1), (1, .int a), (0, .ref (G.2.1.1 50))]) (by simp) (ih (lenI a.toInt - v61.toInt.toNat) (by omega) _ _ fr2 (by omega) (by omega) (by omega) ho2 (fun x => ?_) rfl)
          rw [hI2 x, show v61.toInt.toNat = w3.toInt.toNat + 1 by omega, sX_s x, hw4, show w5.toInt.toNat = lenI a.toInt - 1 by omega]
        · skip
          refine h_aln c (hd 26 44 _ _ rfl) (by rfl) (hat 45 rfl ?_)
          refine h_il c (hd 27 45 _ _ rfl) (by rfl) (hat 47 rfl ?_)
          refine h_il c (hd 28 47 _ _ rfl) (by rfl) (hat 49 rfl ?_)
          refine h_callSF c (M' := fM_wo) (fp_wo hG) (by decide +kernel) (wlkS (lkX3_43 hG) _ rfl rfl) (hd 29 49 _ _ rfl) [.int w4, .int w5] (rest := [.ref (G.2.1.1 50)]) (by rfl) ⟨⟨_, rfl, rf_in1 (by omega) (by omega), trivial⟩, ⟨_, rfl, rf_in1 (by omega) (by omega), trivial⟩, trivial⟩ (Nat.le_of_ble_eq_true rfl) trivial (fun rv49 F49 fr49 rr49 pp49 sm_ => hat 52 rfl ?_)
          have e_ := (sm_ rfl).symm
          subst e_
          obtain ⟨a0_, a1_, x49, ea_, er_, hx49⟩ := pp49
          cases ea_; subst er_
          have hwr2 := woI_in (v := w4.toInt) hwr.1 hwr.2 w5.toInt.toNat
          rw [← hx49] at hwr2
          refine h_callVF c (M' := fM_add) (fp_add hG) (by decide +kernel) (wlkV (lkX3_32 hG) _ rfl rfl) (j := 50) (by decide +kernel) (hd 30 52 _ _ rfl) [.int x49] (rest := []) (by rfl) ⟨⟨50, by decide, rfl⟩, ⟨_, rfl, rf_in1 (by omega) (by omega), trivial⟩, trivial⟩ (Nat.le_of_ble_eq_true rfl) ⟨by omega, ho2⟩ (fun rv52 F52 fr52 rr52 pp52 sm_ => hat 55 rfl ?_)
          obtain ⟨er_, a_, ea_, hi52⟩ := pp52
          subst er_; cases ea_
          refine h_inc c (fun r_ => [(5, .int r_), (4, .int w4), (3, .int w3), (2, .int n1), (1, .int a), (0, .ref (G.2.1.1 50))]) (hd 31 55 _ _ rfl) (by decide) (by decide) (by rfl) (by omega) (fun _ => by rfl) (fun v55 e55 => hat 58 rfl ?_)
          refine h_goto c (hd 32 58 _ _ rfl) (tgt := 28) (by decide) ?_
          refine h_less (L := [(5, .int v55), (4, .int w4), (3, .int w3), (2, .int n1), (1, .int a), (0, .ref (G.2.1.1 50))]) (by simp) (ih2 (lenI a.toInt - v55.toInt.toNat) (by omega) _ _ (hframe_tr fr2 fr52 (by decide)) (by omega) (by omega) (by have := hi52.1; omega) hi52.2.2.1 (fun x => ?_) rfl)
          rw [hi52.2.2.2 x, hI2 x, show v55.toInt.toNat = w5.toInt.toNat + 1 by omega, hx49]
          constructor
          · rintro ((q | q | q | ⟨k, hk, q⟩) | q)
            · exact Or.inl q
            · exact Or.inr (Or.inl q)
            · exact Or.inr (Or.inr (Or.inl q))
            · exact Or.inr (Or.inr (Or.inr ⟨k, by omega, q⟩))
            · exact Or.inr (Or.inr (Or.inr ⟨w5.toInt.toNat, by omega, q⟩))
          · rintro (q | q | q | ⟨k, hk, q⟩)
            · exact Or.inl (Or.inl q)
            · exact Or.inl (Or.inr (Or.inl q))
            · exact Or.inl (Or.inr (Or.inr (Or.inl q)))
            · by_cases e_ : k = w5.toInt.toNat
              · subst e_; exact Or.inr q
              · exact Or.inl (Or.inr (Or.inr (Or.inr ⟨k, by omega, q⟩)))
    intro w3 F1 fr1 h30 h31 hz1 ho1 hI1 hm
    refine h_iln c (hd 5 7 _ _ rfl) (by rfl) (hat 8 rfl ?_)
    refine h_iln c (hd 6 8 _ _ rfl) (by rfl) (hat 9 rfl ?_)
    refine h_cmp c (hd 7 9 _ _ rfl) (tgt := 67) (by decide) (fun (h9 : n1.toInt ≤ w3.toInt) => ?_) (fun (h9 : ¬ (n1.toInt ≤ w3.toInt)) => hat 12 rfl ?_)
    · skip
      refine h_vret c (hd 35 67 _ _ rfl) rfl ⟨rfl, a, rfl, by omega, ho1, fun x => ?_⟩
      rw [hI1 x, show w3.toInt.toNat = lenI a.toInt by omega]
    · skip
      refine h_iln c (hd 8 12 _ _ rfl) (by rfl) (hat 13 rfl ?_)
      refine h_iln c (hd 9 13 _ _ rfl) (by rfl) (hat 14 rfl ?_)
      refine h_callSF c (M' := fM_wo) (fp_wo hG) (by decide +kernel) (wlkS (lkX3_43 hG) _ rfl rfl) (hd 10 14 _ _ rfl) [.int a, .int w3] (rest := []) (by rfl) ⟨⟨_, rfl, rf_in1 (by omega) (by omega), trivial⟩, ⟨_, rfl, rf_in1 (by omega) (by omega), trivial⟩, trivial⟩ (Nat.le_of_ble_eq_true rfl) trivial (fun rv14 F14 fr14 rr14 pp14 sm_ => hat 17 rfl ?_)
      have e_ := (sm_ rfl).symm
      subst e_
      obtain ⟨a0_, a1_, x14, ea_, er_, hx14⟩ := pp14
      cases ea_; subst er_
      refine h_is c (hd 11 17 _ _ rfl) (by decide) (L' := [(4, .int x14), (3, .int w3), (2, .int n1), (1, .int a), (0, .ref (G.2.1.1 50))]) (by rfl) (hat 19 rfl ?_)
      refine h_aln c (hd 12 19 _ _ rfl) (by rfl) (hat 20 rfl ?_)
      refine h_il c (hd 13 20 _ _ rfl) (by rfl) (hat 22 rfl ?_)
      have hwr1 := woI_in ha.1 ha.2 w3.toInt.toNat
      rw [← hx14] at hwr1
      refine h_callVF c (M' := fM_add) (fp_add hG) (by decide +kernel) (wlkV (lkX3_32 hG) _ rfl rfl) (j := 50) (by decide +kernel) (hd 14 22 _ _ rfl) [.int x14] (rest := []) (by rfl) ⟨⟨50, by decide, rfl⟩, ⟨_, rfl, rf_in1 (by omega) (by omega), trivial⟩, trivial⟩ (Nat.le_of_ble_eq_true rfl) ⟨by omega, ho1⟩ (fun rv22 F22 fr22 rr22 pp22 sm_ => hat 25 rfl ?_)
      obtain ⟨er_, a_, ea_, hi22⟩ := pp22
      subst er_; cases ea_
      refine h_ic c (hd 15 25 _ _ rfl) (by decide) (fun v25 e25 => hat 26 rfl ?_)
      refine h_is c (hd 16 26 _ _ rfl) (by decide) (L' := [(5, .int v25), (4, .int x14), (3, .int w3), (2, .int n1), (1, .int a), (0, .ref (G.2.1.1 50))]) (by rfl) (hat 28 rfl ?_)
      refine h_less (L := [(5, .int v25), (4, .int x14), (3, .int w3), (2, .int n1), (1, .int a), (0, .ref (G.2.1.1 50))]) (by simp) (K28 w3 x14 h30 (by omega) hm hx14 _ _ _ (hframe_tr fr1 fr22 (by decide)) (by omega) (by omega) (by have := hi22.1; omega) hi22.2.2.1 (fun x => ?_) rfl)
      rw [hi22.2.2.2 x, hI1 x]
      constructor
      · rintro ((q | q) | q)
        · exact Or.inl q
        · exact Or.inr (Or.inl q)
        · exact Or.inr (Or.inr (Or.inl q))
      · rintro (q | q | q | ⟨k, hk, q⟩)
        · exact Or.inl (Or.inl q)
        · exact Or.inl (Or.inr q)
        · exact Or.inr q
        · exfalso; omega
  refine h_iln c (hd 0 0 _ _ rfl) (by rfl) (hat 1 rfl ?_)
  refine h_callSF c (M' := dM_len) (dp_len hG) (by decide +kernel) (wlkS (lkX3_39 hG) _ rfl rfl) (hd 1 1 _ _ rfl) [.int a] (rest := []) (by rfl) ⟨⟨_, rfl, rf_in1 (by omega) (by omega), trivial⟩, trivial⟩ (Nat.le_of_ble_eq_true rfl) trivial (fun rv1 F1 fr1 rr1 pp1 sm_ => hat 4 rfl ?_)
  have e_ := (sm_ rfl).symm
  subst e_
  obtain ⟨a0_, x1, ea_, er_, hx1⟩ := pp1
  cases ea_; subst er_
  refine h_isn c (hd 2 4 _ _ rfl) (by decide) (L' := [(2, .int x1), (0, .ref (G.2.1.1 50)), (1, .int a)]) (by rfl) (hat 5 rfl ?_)
  refine h_ic c (hd 3 5 _ _ rfl) (by decide) (fun v5 e5 => hat 6 rfl ?_)
  refine h_isn c (hd 4 6 _ _ rfl) (by decide) (L' := [(3, .int v5), (2, .int x1), (0, .ref (G.2.1.1 50)), (1, .int a)]) (by rfl) (hat 7 rfl ?_)
  refine h_less (L := [(3, .int v5), (2, .int x1), (1, .int a), (0, .ref (G.2.1.1 50))]) (by simp) (K7 x1 hx1 _ _ _ (hframe_rf _ _) (by omega) (by omega) (by omega) hso (fun x => ?_) rfl)
  rw [show v5.toInt.toNat = 0 by omega]
  exact ⟨Or.inl, fun q => q.elim id (fun q => absurd q (sX_0 x))⟩
def fM_fill : rfM := ((⟨"NearSpell$FormList", "fill", "(III)V"⟩, prog_5_method_2_code, 5, none), (7,500), ([.inr (.inl [50]), .inl ((0,387420488,1),none), .inl ((4,4,1),none), .inl ((2,2,1),none)],[]), [(49,0),(50,2),(50,3),(50,4),(50,5)], [])
def ddEX3_fill : List (Nat × Instr × Nat) := [(0,.aload_n 0,1),(1,.getfield 19,3),(4,.iload_n 1,1),(5,.if_icmp .ne 20,3),(8,.aload_n 0,1),(9,.getfield 22,3),(12,.iload_n 2,1),(13,.if_icmp .ne 12,3),(16,.aload_n 0,1),(17,.getfield 25,3),(20,.iload_n 3,1),(21,.if_icmp .ne 4,3),(24,.return_,1),(25,.aload_n 0,1),(26,.iload_n 1,1),(27,.putfield 19,3),(30,.aload_n 0,1),(31,.iload_n 2,1),(32,.putfield 22,3),(35,.aload_n 0,1),(36,.iload_n 3,1),(37,.putfield 25,3),(40,.aload_n 0,1),(41,.iconst 0,1),(42,.putfield 15,3),(45,.aload_n 0,1),(46,.getfield 19,3),(49,.aload_n 0,1),(50,.getfield 22,3),(53,.invokestatic 28,3),(56,.istore 4,2),(58,.aload_n 0,1),(59,.iload 4,2),(61,.invokevirtual 32,3),(64,.aload_n 0,1),(65,.getfield 25,3),(68,.ifCond .le 9,3),(71,.aload_n 0,1),(72,.iload 4,2),(74,.invokevirtual 36,3),(77,.return_,1)]
set_option maxRecDepth 100000 in
theorem dkEX3_fill : rf_decs prog_5_method_2_code ddEX3_fill := rf_decs_of (by decide +kernel)
set_option maxHeartbeats 8000000 in
set_option maxRecDepth 20000 in
theorem fp_fill {G : rfG} (hG : okG G) : h_met G fM_fill (fun _ F => (F 50 2).toInt = -1) (fun vs F F' rv => rv = none ∧ ∃ a : Int32, vs[1]? = some (.int a) ∧ (F' 50 1).toInt ≤ 17 ∧ rOK 49 50 1 F' ∧ ∀ x, rM 49 50 1 F' x ↔ sA (dvn a.toInt (lenI a.toInt - 4)) x) := by
  refine h_metOf hG.1 (by decide +kernel) (by decide) hG.2.2.1 (wflT hG flokX3) (wcsT hG csokX3) ?_
  intro vs w0 X hv_ hr hp c
  match vs, hv_ with
  | [_, _, _, _], ⟨⟨_, hj0, rfl⟩, ⟨a, rfl, hi_a, _⟩, ⟨n, rfl, hi_n, _⟩, ⟨e, rfl, hi_e, _⟩, _⟩ =>
  cases List.mem_singleton.mp hj0
  have hd : ∀ n pc i len, ddEX3_fill[n]? = some (pc, i, len) → decode (mb fM_fill) pc = .ok (i, len) := fun n pc i len h => hdk dkEX3_fill n pc i len h
  show hW G X fM_fill w0 0 [(0, .ref (G.2.1.1 50)), (1, .int a), (2, .int n), (3, .int e)] [] (hv w0)
  generalize hF0 : hv w0 = F at *
  have ha : 0 ≤ a.toInt ∧ a.toInt ≤ 387420488 := ⟨hi_a.1, hi_a.2.1⟩
  have hn : n.toInt = 4 := by have h1 : 4 ≤ n.toInt := hi_n.1; have h2 : n.toInt ≤ 4 := hi_n.2.1; omega
  have he : e.toInt = 2 := by have h1 : 2 ≤ e.toInt := hi_e.1; have h2 : e.toInt ≤ 2 := hi_e.2.1; omega
  have hd4 := dvn4 ha.1 ha.2
  refine h_aln c (hd 0 0 _ _ rfl) (by rfl) (hat 1 rfl ?_)
  refine h_getI c (hd 1 1 _ _ rfl) efgX3_19 egnX3_19_50 (x := F 50 2) (rfl) (hat 4 rfl ?_)
  refine h_iln c (hd 2 4 _ _ rfl) (by rfl) (hat 5 rfl ?_)
  refine h_cmp c (hd 3 5 _ _ rfl) (tgt := 25) (by decide) (fun (h5 : (F 50 2).toInt ≠ a.toInt) => ?_) (fun (h5 : ¬ ((F 50 2).toInt ≠ a.toInt)) => hat 8 rfl ?_)
  · skip
    refine h_aln c (hd 13 25 _ _ rfl) (by rfl) (hat 26 rfl ?_)
    refine h_iln c (hd 14 26 _ _ rfl) (by rfl) (hat 27 rfl ?_)
    refine h_putI c (hd 15 27 _ _ rfl) efgX3_19 egnX3_19_50 (by decide) (by decide) rfl (rf_in_top _) (hat 30 rfl ?_)
    refine h_aln c (hd 16 30 _ _ rfl) (by rfl) (hat 31 rfl ?_)
    refine h_iln c (hd 17 31 _ _ rfl) (by rfl) (hat 32 rfl ?_)
    refine h_putI c (hd 18 32 _ _ rfl) efgX3_22 egnX3_22_50 (by decide) (by decide) rfl (rf_in_top _) (hat 35 rfl ?_)
    refine h_aln c (hd 19 35 _ _ rfl) (by rfl) (hat 36 rfl ?_)
    refine h_iln c (hd 20 36 _ _ rfl) (by rfl) (hat 37 rfl ?_)
    refine h_putI c (hd 21 37 _ _ rfl) efgX3_25 egnX3_25_50 (by decide) (by decide) rfl (rf_in_top _) (hat 40 rfl ?_)
    refine h_aln c (hd 22 40 _ _ rfl) (by rfl) (hat 41 rfl ?_)
    refine h_ic c (hd 23 41 _ _ rfl) (by decide) (fun v41 e41 => hat 42 rfl ?_)
    refine h_putI c (hd 24 42 _ _ rfl) efgX3_15 egnX3_15_50 (by decide) (by decide) rfl (rf_in1 (by omega) (by omega)) (hat 45 rfl ?_)
    refine h_aln c (hd 25 45 _ _ rfl) (by rfl) (hat 46 rfl ?_)
    refine h_getI c (hd 26 46 _ _ rfl) efgX3_19 egnX3_19_50 (x := a) (rfl) (hat 49 rfl ?_)
    refine h_aln c (hd 27 49 _ _ rfl) (by rfl) (hat 50 rfl ?_)
    refine h_getI c (hd 28 50 _ _ rfl) efgX3_22 egnX3_22_50 (x := n) (rfl) (hat 53 rfl ?_)
    refine h_callSF c (M' := fM_bg) (fp_bg hG) (by decide +kernel) (wlkS (lkX3_28 hG) _ rfl rfl) (hd 29 53 _ _ rfl) [.int a, .int n] (rest := []) (by rfl) ⟨⟨_, rfl, rf_in1 (by omega) (by omega), trivial⟩, ⟨_, rfl, rf_in1 (by omega) (by omega), trivial⟩, trivial⟩ (Nat.le_of_ble_eq_true rfl) trivial (fun rv53 F53 fr53 rr53 pp53 sm_ => hat 56 rfl ?_)
    have e_ := (sm_ rfl).symm
    subst e_
    obtain ⟨a0_, a1_, x53, ea_, er_, hx53⟩ := pp53
    cases ea_; subst er_
    refine h_is c (hd 30 56 _ _ rfl) (by decide) (L' := [(4, .int x53), (0, .ref (G.2.1.1 50)), (1, .int a), (2, .int n), (3, .int e)]) (by rfl) (hat 58 rfl ?_)
    refine h_aln c (hd 31 58 _ _ rfl) (by rfl) (hat 59 rfl ?_)
    refine h_il c (hd 32 59 _ _ rfl) (by rfl) (hat 61 rfl ?_)
    refine h_callVF c (M' := fM_add) (fp_add hG) (by decide +kernel) (wlkV (lkX3_32 hG) _ rfl rfl) (j := 50) (by decide +kernel) (hd 33 61 _ _ rfl) [.int x53] (rest := []) (by rfl) ⟨⟨50, by decide, rfl⟩, ⟨_, rfl, rf_in1 (by omega) (by omega), trivial⟩, trivial⟩ (Nat.le_of_ble_eq_true rfl) ⟨(show v41.toInt ≤ 20 by omega), rOK_0 (show v41.toInt = 0 by omega)⟩ (fun rv61 F61 fr61 rr61 pp61 sm_ => hat 64 rfl ?_)
    obtain ⟨er_, a_, ea_, hi61⟩ := pp61
    subst er_; cases ea_
    refine h_aln c (hd 34 64 _ _ rfl) (by rfl) (hat 65 rfl ?_)
    refine h_getI c (hd 35 65 _ _ rfl) efgX3_25 egnX3_25_50 (x := e) (fr61 50 4 (by decide) (by rfl)) (hat 68 rfl ?_)
    refine h_if c (hd 36 68 _ _ rfl) (tgt := 77) (by decide) (fun (h68 : e.toInt ≤ 0) => ?_) (fun (h68 : ¬ (e.toInt ≤ 0)) => hat 71 rfl ?_)
    · skip
      exact absurd h68 (by omega)
    · skip
      refine h_aln c (hd 37 71 _ _ rfl) (by rfl) (hat 72 rfl ?_)
      refine h_il c (hd 38 72 _ _ rfl) (by rfl) (hat 74 rfl ?_)
      refine h_callVF c (M' := fM_sh) (fp_sh hG) (by decide +kernel) (wlkV (lkX3_36 hG) _ rfl rfl) (j := 50) (by decide +kernel) (hd 39 74 _ _ rfl) [.int x53] (rest := []) (by rfl) ⟨⟨50, by decide, rfl⟩, ⟨_, rfl, rf_in1 (by omega) (by omega), trivial⟩, trivial⟩ (Nat.le_of_ble_eq_true rfl) ⟨(show (F61 50 4).toInt = 2 by rw [fr61 50 4 (by decide) (by rfl)]; exact he), (by have q_ : (F61 50 1).toInt ≤ v41.toInt + 1 := hi61.1; omega), hi61.2.2.1⟩ (fun rv74 F74 fr74 rr74 pp74 sm_ => hat 77 rfl ?_)
      obtain ⟨er_, a_, ea_, hs74⟩ := pp74
      subst er_; cases ea_
      obtain ⟨hi1_, hi2_, hi3_, hi4_⟩ := hi61
      obtain ⟨hs1_, hs2_, hs3_⟩ := hs74
      have z_ : (v41 : Int32).toInt = 0 := e41
      refine h_vret c (hd 40 77 _ _ rfl) rfl ⟨rfl, a, rfl, ?_, hs2_, fun x => ?_⟩
      · have q_ : (F61 50 1).toInt ≤ v41.toInt + 1 := hi1_
        omega
      · rw [hs3_ x, hi4_ x, hx53]
        unfold sA
        constructor
        · rintro ((q | q) | q)
          · exact absurd q (rM_0 e41 x)
          · exact Or.inl q
          · exact Or.inr q
        · rintro (q | q)
          · exact Or.inl (Or.inr q)
          · exact Or.inr q
  · skip
    exact absurd (by omega) h5
def fM_ff : rfM := ((⟨"NearSpell$Laid", "formsFor", "(I)LNearSpell$FormList;"⟩, prog_6_method_2_code, 2, (some (.object "NearSpell$FormList"))), (9,600), ([.inr (.inl [53]), .inl ((0,387420488,1),none)],[]), [(49,0),(50,2),(50,3),(50,4),(50,5)], [])
def ddEX4_formsFor : List (Nat × Instr × Nat) := [(0,.aload_n 0,1),(1,.getfield 26,3),(4,.iload_n 1,1),(5,.aload_n 0,1),(6,.getfield 9,3),(9,.getfield 34,3),(12,.aload_n 0,1),(13,.getfield 9,3),(16,.getfield 40,3),(19,.invokevirtual 43,3),(22,.aload_n 0,1),(23,.getfield 26,3),(26,.areturn,1)]
set_option maxRecDepth 100000 in
theorem dkEX4_formsFor : rf_decs prog_6_method_2_code ddEX4_formsFor := rf_decs_of (by decide +kernel)
set_option maxHeartbeats 8000000 in
set_option maxRecDepth 20000 in
theorem fp_ff {G : rfG} (hG : okG G) : h_met G fM_ff (fun _ F => (F 50 2).toInt = -1 ∧ (F 5 5).toInt = 4 ∧ (F 5 6).toInt = 2) (fun vs F F' rv => rv = some (.ref (G.2.1.1 50)) ∧ ∃ a : Int32, vs[1]? = some (.int a) ∧ (F' 50 1).toInt ≤ 17 ∧ rOK 49 50 1 F' ∧ ∀ x, rM 49 50 1 F' x ↔ sA (dvn a.toInt (lenI a.toInt - 4)) x) := by
  refine h_metOf hG.1 (by decide +kernel) (by decide) hG.2.2.1 (wflT hG flokX4) (wcsT hG csokX4) ?_
  intro vs w0 X hv_ hr hp c
  match vs, hv_ with
  | [_, _], ⟨⟨_, hj0, rfl⟩, ⟨a, rfl, hi_a, _⟩, _⟩ =>
  cases List.mem_singleton.mp hj0
  have hd : ∀ n pc i len, ddEX4_formsFor[n]? = some (pc, i, len) → decode (mb fM_ff) pc = .ok (i, len) := fun n pc i len h => hdk dkEX4_formsFor n pc i len h
  show hW G X fM_ff w0 0 [(0, .ref (G.2.1.1 53)), (1, .int a)] [] (hv w0)
  generalize hF0 : hv w0 = F at *
  obtain ⟨hp1, hp2, hp3⟩ := hp
  have ha : 0 ≤ a.toInt ∧ a.toInt ≤ 387420488 := ⟨hi_a.1, hi_a.2.1⟩
  refine h_aln c (hd 0 0 _ _ rfl) (by rfl) (hat 1 rfl ?_)
  refine h_getR c (hd 1 1 _ _ rfl) efgX4_26 egnX4_26_53 (hat 4 rfl ?_)
  refine h_iln c (hd 2 4 _ _ rfl) (by rfl) (hat 5 rfl ?_)
  refine h_aln c (hd 3 5 _ _ rfl) (by rfl) (hat 6 rfl ?_)
  refine h_getR c (hd 4 6 _ _ rfl) efgX4_9 egnX4_9_53 (hat 9 rfl ?_)
  refine h_getI c (hd 5 9 _ _ rfl) efgX4_34 egnX4_34_5 (x := F 5 5) (rfl) (hat 12 rfl ?_)
  refine h_aln c (hd 6 12 _ _ rfl) (by rfl) (hat 13 rfl ?_)
  refine h_getR c (hd 7 13 _ _ rfl) efgX4_9 egnX4_9_53 (hat 16 rfl ?_)
  refine h_getI c (hd 8 16 _ _ rfl) efgX4_40 egnX4_40_5 (x := F 5 6) (rfl) (hat 19 rfl ?_)
  refine h_callVF c (M' := fM_fill) (fp_fill hG) (by decide +kernel) (wlkV (lkX4_43 hG) _ rfl rfl) (j := 50) (by decide +kernel) (hd 9 19 _ _ rfl) [.int a, .int (F 5 5), .int (F 5 6)] (rest := []) (by rfl) ⟨⟨50, by decide, rfl⟩, ⟨_, rfl, rf_in1 (by omega) (by omega), trivial⟩, ⟨_, rfl, rf_in1 (by omega) (by omega), trivial⟩, ⟨_, rfl, rf_in1 (by omega) (by omega), trivial⟩, trivial⟩ (Nat.le_of_ble_eq_true rfl) hp1 (fun rv19 F19 fr19 rr19 pp19 sm_ => hat 22 rfl ?_)
  obtain ⟨er_, a_, ea_, hf19⟩ := pp19
  subst er_; cases ea_
  refine h_aln c (hd 10 22 _ _ rfl) (by rfl) (hat 23 rfl ?_)
  refine h_getR c (hd 11 23 _ _ rfl) efgX4_26 egnX4_26_53 (hat 26 rfl ?_)
  exact h_aret c (hd 12 26 _ _ rfl) rfl ⟨rfl, a, rfl, hf19⟩
def fM_forms : rfM := ((⟨"NearSpell", "forms", "(I)I"⟩, prog_1_method_16_code, 4, (some .int)), (12,900), ([.inr (.inl [70]), .inl (((-2147483648),2147483647,1),none)],[]), [(49,0),(50,2),(50,3),(50,4),(50,5),(69,0),(70,15)], [])
def ddEX11_forms : List (Nat × Instr × Nat) := [(0,.aload_n 0,1),(1,.iconst 0,1),(2,.putfield 104,3),(5,.iload_n 1,1),(6,.invokestatic 163,3),(9,.ifCond .ne 5,3),(12,.iconst (-1),1),(13,.ireturn,1),(14,.aload_n 0,1),(15,.getfield 58,3),(18,.iload_n 1,1),(19,.invokevirtual 217,3),(22,.astore_n 2,1),(23,.iconst 0,1),(24,.istore_n 3,1),(25,.iload_n 3,1),(26,.aload_n 2,1),(27,.getfield 158,3),(30,.if_icmp .ge 30,3),(33,.iload_n 3,1),(34,.aload_n 0,1),(35,.getfield 96,3),(38,.arraylength,1),(39,.if_icmp .ge 21,3),(42,.aload_n 0,1),(43,.getfield 96,3),(46,.iload_n 3,1),(47,.aload_n 2,1),(48,.getfield 220,3),(51,.iload_n 3,1),(52,.iaload,1),(53,.iastore,1),(54,.iinc 3 1,3),(57,.goto (-32),3),(60,.aload_n 0,1),(61,.aload_n 2,1),(62,.getfield 158,3),(65,.putfield 104,3),(68,.aload_n 0,1),(69,.getfield 104,3),(72,.ireturn,1)]
set_option maxRecDepth 100000 in
theorem dkEX11_forms : rf_decs prog_1_method_16_code ddEX11_forms := rf_decs_of (by decide +kernel)
set_option maxHeartbeats 8000000 in
set_option maxRecDepth 20000 in
theorem fp_forms {G : rfG} (hG : okG G) : h_met G fM_forms (fun _ F => (F 50 2).toInt = -1 ∧ (F 5 5).toInt = 4 ∧ (F 5 6).toInt = 2) (fun vs _ _ rv => ∃ a y : Int32, vs[1]? = some (.int a) ∧ rv = some (.int y) ∧ ((cbI a.toInt ∧ ∃ (f : Nat → Int) (n : Nat), srt f n ∧ (∀ x, mmb f n x ↔ sA (dvn a.toInt (lenI a.toInt - 4)) x) ∧ y.toInt = (n : Int)) ∨ (¬ cbI a.toInt ∧ y.toInt = -1))) := by
  refine h_metOf hG.1 (by decide +kernel) (by decide) hG.2.2.1 (wflT hG flokX11) (wcsT hG csokX11) ?_
  intro vs w0 X hv_ hr hp c
  match vs, hv_ with
  | [_, _], ⟨⟨_, hj0, rfl⟩, ⟨a, rfl, hi_a, _⟩, _⟩ =>
  cases List.mem_singleton.mp hj0
  have hd : ∀ n pc i len, ddEX11_forms[n]? = some (pc, i, len) → decode (mb fM_forms) pc = .ok (i, len) := fun n pc i len h => hdk dkEX11_forms n pc i len h
  show hW G X fM_forms w0 0 [(0, .ref (G.2.1.1 70)), (1, .int a)] [] (hv w0)
  generalize hF0 : hv w0 = F at *
  obtain ⟨hp1, hp2, hp3⟩ := hp
  have K25 : ∀ (FB : HF), hframe [(49, 0), (50, 2), (50, 3), (50, 4), (50, 5), (69, 0), (70, 15)] F FB → cbI a.toInt → 0 ≤ (FB 50 1).toInt → ((FB 50 1).toInt ≤ 17 ∧ rOK 49 50 1 FB ∧ ∀ x, rM 49 50 1 FB x ↔ sA (dvn a.toInt (lenI a.toInt - 4)) x) → ∀ (m : Nat) (w3 : Int32) (F1 : HF), hframe [(69, 0)] FB F1 → 0 ≤ w3.toInt → w3.toInt ≤ 22 → m = 22 - w3.toInt.toNat → hW G X fM_forms w0 25 [(3, .int w3), (2, .ref (G.2.1.1 50)), (1, .int a), (0, .ref (G.2.1.1 70))] [] F1 := by
    intro FB frB hcb h0B hFB m
    induction m using Nat.strongRecOn with
    | ind m ih =>
    intro w3 F1 fr1 h30 h31 hm
    obtain ⟨hB1, hB2, hB3⟩ := hFB
    refine h_iln c (hd 15 25 _ _ rfl) (by rfl) (hat 26 rfl ?_)
    refine h_aln c (hd 16 26 _ _ rfl) (by rfl) (hat 27 rfl ?_)
    refine h_getI c (hd 17 27 _ _ rfl) efgX11_158 egnX11_158_50 (x := FB 50 1) (fr1 50 1 (by decide) (by rfl)) (hat 30 rfl ?_)
    refine h_cmp c (hd 18 30 _ _ rfl) (tgt := 60) (by decide) (fun (h30 : (FB 50 1).toInt ≤ w3.toInt) => ?_) (fun (h30 : ¬ ((FB 50 1).toInt ≤ w3.toInt)) => hat 33 rfl ?_)
    · skip
      refine h_aln c (hd 34 60 _ _ rfl) (by rfl) (hat 61 rfl ?_)
      refine h_aln c (hd 35 61 _ _ rfl) (by rfl) (hat 62 rfl ?_)
      refine h_getI c (hd 36 62 _ _ rfl) efgX11_158 egnX11_158_50 (x := FB 50 1) (fr1 50 1 (by decide) (by rfl)) (hat 65 rfl ?_)
      refine h_putI c (hd 37 65 _ _ rfl) efgX11_104 egnX11_104_70 (by decide) (by decide) rfl (rf_in1 (by omega) (by omega)) (hat 68 rfl ?_)
      refine h_aln c (hd 38 68 _ _ rfl) (by rfl) (hat 69 rfl ?_)
      refine h_getI c (hd 39 69 _ _ rfl) efgX11_104 egnX11_104_70 (x := FB 50 1) (rfl) (hat 72 rfl ?_)
      exact h_iret c (hd 40 72 _ _ rfl) rfl ⟨a, _, rfl, rfl, Or.inl ⟨hcb, lst 49 FB, (FB 50 1).toInt.toNat, hB2, hB3, by omega⟩⟩
    · skip
      refine h_iln c (hd 19 33 _ _ rfl) (by rfl) (hat 34 rfl ?_)
      refine h_aln c (hd 20 34 _ _ rfl) (by rfl) (hat 35 rfl ?_)
      refine h_getR c (hd 21 35 _ _ rfl) efgX11_96 egnX11_96_70 (hat 38 rfl ?_)
      refine h_alen c (j := 69) (n := 22) (hd 22 38 _ _ rfl) (by rfl) (by decide) (fun v38 e38 => hat 39 rfl ?_)
      have e38 : v38.toInt = 22 := by omega
      refine h_cmp c (hd 23 39 _ _ rfl) (tgt := 60) (by decide) (fun (h39 : v38.toInt ≤ w3.toInt) => ?_) (fun (h39 : ¬ (v38.toInt ≤ w3.toInt)) => hat 42 rfl ?_)
      · skip
        refine h_aln c (hd 34 60 _ _ rfl) (by rfl) (hat 61 rfl ?_)
        refine h_aln c (hd 35 61 _ _ rfl) (by rfl) (hat 62 rfl ?_)
        refine h_getI c (hd 36 62 _ _ rfl) efgX11_158 egnX11_158_50 (x := FB 50 1) (fr1 50 1 (by decide) (by rfl)) (hat 65 rfl ?_)
        refine h_putI c (hd 37 65 _ _ rfl) efgX11_104 egnX11_104_70 (by decide) (by decide) rfl (rf_in1 (by omega) (by omega)) (hat 68 rfl ?_)
        refine h_aln c (hd 38 68 _ _ rfl) (by rfl) (hat 69 rfl ?_)
        refine h_getI c (hd 39 69 _ _ rfl) efgX11_104 egnX11_104_70 (x := FB 50 1) (rfl) (hat 72 rfl ?_)
        exact h_iret c (hd 40 72 _ _ rfl) rfl ⟨a, _, rfl, rfl, Or.inl ⟨hcb, lst 49 FB, (FB 50 1).toInt.toNat, hB2, hB3, by omega⟩⟩
      · skip
        refine h_aln c (hd 24 42 _ _ rfl) (by rfl) (hat 43 rfl ?_)
        refine h_getR c (hd 25 43 _ _ rfl) efgX11_96 egnX11_96_70 (hat 46 rfl ?_)
        refine h_iln c (hd 26 46 _ _ rfl) (by rfl) (hat 47 rfl ?_)
        refine h_aln c (hd 27 47 _ _ rfl) (by rfl) (hat 48 rfl ?_)
        refine h_getR c (hd 28 48 _ _ rfl) efgX11_220 egnX11_220_50 (hat 51 rfl ?_)
        refine h_iln c (hd 29 51 _ _ rfl) (by rfl) (hat 52 rfl ?_)
        refine h_iald c (hd 30 52 _ _ rfl) ela_49 ⟨by omega, by omega⟩ (by omega) (x := FB 49 w3.toInt.toNat) (fr1 49 w3.toInt.toNat (by decide) (by rfl)) (hat 53 rfl ?_)
        refine h_iast c (k := w3.toInt.toNat) (hd 31 53 _ _ rfl) ela_69 ⟨by omega, by omega⟩ (by omega) (by decide) (by decide) (hin1 (rf_in_top _)) (hat 54 rfl ?_)
        refine h_inc c (fun r_ => [(3, .int r_), (2, .ref (G.2.1.1 50)), (1, .int a), (0, .ref (G.2.1.1 70))]) (hd 32 54 _ _ rfl) (by decide) (by decide) (by rfl) (by omega) (fun _ => by rfl) (fun v54 e54 => hat 57 rfl ?_)
        refine h_goto c (hd 33 57 _ _ rfl) (tgt := 25) (by decide) ?_
        exact h_less (L := [(3, .int v54), (2, .ref (G.2.1.1 50)), (1, .int a), (0, .ref (G.2.1.1 70))]) (by simp) (ih (22 - v54.toInt.toNat) (by omega) _ _ (hframe_up fr1 (by rfl) _) (by omega) (by omega) rfl)
  refine h_aln c (hd 0 0 _ _ rfl) (by rfl) (hat 1 rfl ?_)
  refine h_ic c (hd 1 1 _ _ rfl) (by decide) (fun v1 e1 => hat 2 rfl ?_)
  refine h_putI c (hd 2 2 _ _ rfl) efgX11_104 egnX11_104_70 (by decide) (by decide) rfl (rf_in1 (by omega) (by omega)) (hat 5 rfl ?_)
  refine h_iln c (hd 3 5 _ _ rfl) (by rfl) (hat 6 rfl ?_)
  refine h_callSF c (M' := dM_can) (dp_can hG) (by decide +kernel) (wlkS (lkX11_163 hG) _ rfl rfl) (hd 4 6 _ _ rfl) [.int a] (rest := []) (by rfl) ⟨⟨_, rfl, rf_in_top _, trivial⟩, trivial⟩ (Nat.le_of_ble_eq_true rfl) trivial (fun rv6 F6 fr6 rr6 pp6 sm_ => hat 9 rfl ?_)
  have e_ := (sm_ rfl).symm
  subst e_
  obtain ⟨a0_, x6, ea_, er_, hx6⟩ := pp6
  cases ea_; subst er_
  refine h_if c (hd 5 9 _ _ rfl) (tgt := 14) (by decide) (fun (h9 : x6.toInt ≠ 0) => ?_) (fun (h9 : ¬ (x6.toInt ≠ 0)) => hat 12 rfl ?_)
  · skip
    have ca_ : cbI a.toInt := by rcases hx6 with h_ | h_; exact h_.2; omega
    have ra_ := ca_.1
    have ra2_ := ca_.2.1
    refine h_aln c (hd 8 14 _ _ rfl) (by rfl) (hat 15 rfl ?_)
    refine h_getR c (hd 9 15 _ _ rfl) efgX11_58 egnX11_58_70 (hat 18 rfl ?_)
    refine h_iln c (hd 10 18 _ _ rfl) (by rfl) (hat 19 rfl ?_)
    refine h_callVF c (M' := fM_ff) (fp_ff hG) (by decide +kernel) (wlkV (lkX11_217 hG) _ rfl rfl) (j := 53) (by decide +kernel) (hd 11 19 _ _ rfl) [.int a] (rest := []) (by rfl) ⟨⟨53, by decide, rfl⟩, ⟨_, rfl, rf_in1 (by omega) (by omega), trivial⟩, trivial⟩ (Nat.le_of_ble_eq_true rfl) ⟨hp1, hp2, hp3⟩ (fun rv19 F19 fr19 rr19 pp19 sm_ => hat 22 rfl ?_)
    obtain ⟨er_, a_, ea_, hf19⟩ := pp19
    subst er_; cases ea_
    refine h_asn c (hd 12 22 _ _ rfl) (by decide) (L' := [(2, .ref (G.2.1.1 50)), (0, .ref (G.2.1.1 70)), (1, .int a)]) (by rfl) (hat 23 rfl ?_)
    refine h_ic c (hd 13 23 _ _ rfl) (by decide) (fun v23 e23 => hat 24 rfl ?_)
    refine h_isn c (hd 14 24 _ _ rfl) (by decide) (L' := [(3, .int v23), (2, .ref (G.2.1.1 50)), (0, .ref (G.2.1.1 70)), (1, .int a)]) (by rfl) (hat 25 rfl ?_)
    have h0_ := (hrg rr19 ely_50_1).1
    exact h_less (L := [(3, .int v23), (2, .ref (G.2.1.1 50)), (1, .int a), (0, .ref (G.2.1.1 70))]) (by simp) (K25 F19 (hframe_tr (hframe_up (hframe_rf _ _) (by rfl) _) fr19 (by decide)) ca_ h0_ hf19 _ _ _ (hframe_rf _ _) (by omega) (by omega) rfl)
  · skip
    refine h_ic c (hd 6 12 _ _ rfl) (by decide) (fun v12 e12 => hat 13 rfl ?_)
    exact h_iret c (hd 7 13 _ _ rfl) rfl ⟨a, _, rfl, rfl, Or.inr ⟨(fun q => by rcases hx6 with h_ | h_; omega; exact h_.2 q), by omega⟩⟩
def fM_tot : rfM := ((⟨"NearSpell", "totalOf", "(I)I"⟩, prog_1_method_54_code, 4, (some .int)), (2,100), ([.inl ((0,387420488,1),none)],[]), [], [])
def ddEX11_totalOf : List (Nat × Instr × Nat) := [(0,.iconst 0,1),(1,.istore_n 1,1),(2,.iload_n 0,1),(3,.istore_n 2,1),(4,.iconst 0,1),(5,.istore_n 3,1),(6,.iload_n 3,1),(7,.bipush 6,2),(9,.if_icmp .ge 25,3),(12,.iload_n 2,1),(13,.ifCond .eq 21,3),(16,.iload_n 1,1),(17,.iload_n 2,1),(18,.bipush 27,2),(20,.irem,1),(21,.iadd,1),(22,.istore_n 1,1),(23,.iload_n 2,1),(24,.bipush 27,2),(26,.idiv,1),(27,.istore_n 2,1),(28,.iinc 3 1,3),(31,.goto (-25),3),(34,.iload_n 1,1),(35,.ireturn,1)]
set_option maxRecDepth 100000 in
theorem dkEX11_totalOf : rf_decs prog_1_method_54_code ddEX11_totalOf := rf_decs_of (by decide +kernel)
set_option maxHeartbeats 8000000 in
set_option maxRecDepth 20000 in
theorem fp_tot {G : rfG} (hG : okG G) : h_met G fM_tot (fun _ _ => True) (fun vs _ _ rv => ∃ a x : Int32, vs = [.int a] ∧ rv = some (.int x) ∧ x.toInt = totI a.toInt) := by
  refine h_metOf hG.1 (by decide +kernel) (by decide) hG.2.2.1 (wflT hG flokX11) (wcsT hG csokX11) ?_
  intro vs w0 X hv_ hr hp c
  match vs, hv_ with
  | [_], ⟨⟨a, rfl, hi_a, _⟩, _⟩ =>
  have hd : ∀ n pc i len, ddEX11_totalOf[n]? = some (pc, i, len) → decode (mb fM_tot) pc = .ok (i, len) := fun n pc i len h => hdk dkEX11_totalOf n pc i len h
  show hW G X fM_tot w0 0 [(0, .int a)] [] (hv w0)
  generalize hF0 : hv w0 = F at *
  have ha : 0 ≤ a.toInt ∧ a.toInt ≤ 387420488 := ⟨hi_a.1, hi_a.2.1⟩
  refine h_ic c (hd 0 0 _ _ rfl) (by decide) (fun v0 e0 => hat 1 rfl ?_)
  refine h_isn c (hd 1 1 _ _ rfl) (by decide) (L' := [(1, .int v0), (0, .int a)]) (by rfl) (hat 2 rfl ?_)
  refine h_iln c (hd 2 2 _ _ rfl) (by rfl) (hat 3 rfl ?_)
  refine h_isn c (hd 3 3 _ _ rfl) (by decide) (L' := [(2, .int a), (1, .int v0), (0, .int a)]) (by rfl) (hat 4 rfl ?_)
  refine h_ic c (hd 4 4 _ _ rfl) (by decide) (fun v4 e4 => hat 5 rfl ?_)
  refine h_isn c (hd 5 5 _ _ rfl) (by decide) (L' := [(3, .int v4), (2, .int a), (1, .int v0), (0, .int a)]) (by rfl) (hat 6 rfl ?_)
  refine h_iln c (hd 6 6 _ _ rfl) (by rfl) (hat 7 rfl ?_)
  refine h_bp c (hd 7 7 _ _ rfl) (by decide) (fun v7 e7 => hat 9 rfl ?_)
  refine h_cmp c (hd 8 9 _ _ rfl) (tgt := 34) (by decide) (fun (h9 : v7.toInt ≤ v4.toInt) => ?_) (fun (h9 : ¬ (v7.toInt ≤ v4.toInt)) => hat 12 rfl ?_)
  · exfalso; omega
  · skip
    refine h_iln c (hd 9 12 _ _ rfl) (by rfl) (hat 13 rfl ?_)
    refine h_if c (hd 10 13 _ _ rfl) (tgt := 34) (by decide) (fun (h13 : a.toInt = 0) => ?_) (fun (h13 : ¬ (a.toInt = 0)) => hat 16 rfl ?_)
    · skip
      refine h_iln c (hd 23 34 _ _ rfl) (by rfl) (hat 35 rfl ?_)
      exact h_iret c (hd 24 35 _ _ rfl) rfl ⟨a, _, rfl, rfl, by unfold totI; omega⟩
    · skip
      refine h_iln c (hd 11 16 _ _ rfl) (by rfl) (hat 17 rfl ?_)
      refine h_iln c (hd 12 17 _ _ rfl) (by rfl) (hat 18 rfl ?_)
      refine h_bp c (hd 13 18 _ _ rfl) (by decide) (fun v18 e18 => hat 20 rfl ?_)
      refine h_rem c (hd 14 20 _ _ rfl) e18 (by decide) (by omega) (fun v20 e20 => hat 21 rfl ?_)
      refine h_add c (hd 15 21 _ _ rfl) (by omega) (fun v21 e21 => hat 22 rfl ?_)
      refine h_isn c (hd 16 22 _ _ rfl) (by decide) (L' := [(1, .int v21), (3, .int v4), (2, .int a), (0, .int a)]) (by rfl) (hat 23 rfl ?_)
      refine h_iln c (hd 17 23 _ _ rfl) (by rfl) (hat 24 rfl ?_)
      refine h_bp c (hd 18 24 _ _ rfl) (by decide) (fun v24 e24 => hat 26 rfl ?_)
      refine h_div c (hd 19 26 _ _ rfl) e24 (by decide) (by omega) (fun v26 e26 => hat 27 rfl ?_)
      refine h_isn c (hd 20 27 _ _ rfl) (by decide) (L' := [(2, .int v26), (1, .int v21), (3, .int v4), (0, .int a)]) (by rfl) (hat 28 rfl ?_)
      refine h_inc c (fun r_ => [(3, .int r_), (2, .int v26), (1, .int v21), (0, .int a)]) (hd 21 28 _ _ rfl) (by decide) (by decide) (by rfl) (by omega) (fun _ => by rfl) (fun v28 e28 => hat 31 rfl ?_)
      have e28 : v28.toInt = 1 := by omega
      refine h_goto c (hd 22 31 _ _ rfl) (tgt := 6) (by decide) ?_
      refine h_iln c (hd 6 6 _ _ rfl) (by rfl) (hat 7 rfl ?_)
      refine h_bp c (hd 7 7 _ _ rfl) (by decide) (fun v7_1 e7_1 => hat 9 rfl ?_)
      refine h_cmp c (hd 8 9 _ _ rfl) (tgt := 34) (by decide) (fun (h9_1 : v7_1.toInt ≤ v28.toInt) => ?_) (fun (h9_1 : ¬ (v7_1.toInt ≤ v28.toInt)) => hat 12 rfl ?_)
      · exfalso; omega
      · skip
        refine h_iln c (hd 9 12 _ _ rfl) (by rfl) (hat 13 rfl ?_)
        refine h_if c (hd 10 13 _ _ rfl) (tgt := 34) (by decide) (fun (h13_1 : v26.toInt = 0) => ?_) (fun (h13_1 : ¬ (v26.toInt = 0)) => hat 16 rfl ?_)
        · skip
          refine h_iln c (hd 23 34 _ _ rfl) (by rfl) (hat 35 rfl ?_)
          exact h_iret c (hd 24 35 _ _ rfl) rfl ⟨a, _, rfl, rfl, by unfold totI; omega⟩
        · skip
          refine h_iln c (hd 11 16 _ _ rfl) (by rfl) (hat 17 rfl ?_)
          refine h_iln c (hd 12 17 _ _ rfl) (by rfl) (hat 18 rfl ?_)
          refine h_bp c (hd 13 18 _ _ rfl) (by decide) (fun v18_1 e18_1 => hat 20 rfl ?_)
          refine h_rem c (hd 14 20 _ _ rfl) e18_1 (by decide) (by omega) (fun v20_1 e20_1 => hat 21 rfl ?_)
          refine h_add c (hd 15 21 _ _ rfl) (by omega) (fun v21_1 e21_1 => hat 22 rfl ?_)
          refine h_isn c (hd 16 22 _ _ rfl) (by decide) (L' := [(1, .int v21_1), (3, .int v28), (2, .int v26), (0, .int a)]) (by rfl) (hat 23 rfl ?_)
          refine h_iln c (hd 17 23 _ _ rfl) (by rfl) (hat 24 rfl ?_)
          refine h_bp c (hd 18 24 _ _ rfl) (by decide) (fun v24_1 e24_1 => hat 26 rfl ?_)
          refine h_div c (hd 19 26 _ _ rfl) e24_1 (by decide) (by omega) (fun v26_1 e26_1 => hat 27 rfl ?_)
          refine h_isn c (hd 20 27 _ _ rfl) (by decide) (L' := [(2, .int v26_1), (1, .int v21_1), (3, .int v28), (0, .int a)]) (by rfl) (hat 28 rfl ?_)
          refine h_inc c (fun r_ => [(3, .int r_), (2, .int v26_1), (1, .int v21_1), (0, .int a)]) (hd 21 28 _ _ rfl) (by decide) (by decide) (by rfl) (by omega) (fun _ => by rfl) (fun v28_1 e28_1 => hat 31 rfl ?_)
          have e28_1 : v28_1.toInt = 2 := by omega
          refine h_goto c (hd 22 31 _ _ rfl) (tgt := 6) (by decide) ?_
          refine h_iln c (hd 6 6 _ _ rfl) (by rfl) (hat 7 rfl ?_)
          refine h_bp c (hd 7 7 _ _ rfl) (by decide) (fun v7_2 e7_2 => hat 9 rfl ?_)
          refine h_cmp c (hd 8 9 _ _ rfl) (tgt := 34) (by decide) (fun (h9_2 : v7_2.toInt ≤ v28_1.toInt) => ?_) (fun (h9_2 : ¬ (v7_2.toInt ≤ v28_1.toInt)) => hat 12 rfl ?_)
          · exfalso; omega
          · skip
            refine h_iln c (hd 9 12 _ _ rfl) (by rfl) (hat 13 rfl ?_)
            refine h_if c (hd 10 13 _ _ rfl) (tgt := 34) (by decide) (fun (h13_2 : v26_1.toInt = 0) => ?_) (fun (h13_2 : ¬ (v26_1.toInt = 0)) => hat 16 rfl ?_)
            · skip
              refine h_iln c (hd 23 34 _ _ rfl) (by rfl) (hat 35 rfl ?_)
              exact h_iret c (hd 24 35 _ _ rfl) rfl ⟨a, _, rfl, rfl, by unfold totI; omega⟩
            · skip
              refine h_iln c (hd 11 16 _ _ rfl) (by rfl) (hat 17 rfl ?_)
              refine h_iln c (hd 12 17 _ _ rfl) (by rfl) (hat 18 rfl ?_)
              refine h_bp c (hd 13 18 _ _ rfl) (by decide) (fun v18_2 e18_2 => hat 20 rfl ?_)
              refine h_rem c (hd 14 20 _ _ rfl) e18_2 (by decide) (by omega) (fun v20_2 e20_2 => hat 21 rfl ?_)
              refine h_add c (hd 15 21 _ _ rfl) (by omega) (fun v21_2 e21_2 => hat 22 rfl ?_)
              refine h_isn c (hd 16 22 _ _ rfl) (by decide) (L' := [(1, .int v21_2), (3, .int v28_1), (2, .int v26_1), (0, .int a)]) (by rfl) (hat 23 rfl ?_)
              refine h_iln c (hd 17 23 _ _ rfl) (by rfl) (hat 24 rfl ?_)
              refine h_bp c (hd 18 24 _ _ rfl) (by decide) (fun v24_2 e24_2 => hat 26 rfl ?_)
              refine h_div c (hd 19 26 _ _ rfl) e24_2 (by decide) (by omega) (fun v26_2 e26_2 => hat 27 rfl ?_)
              refine h_isn c (hd 20 27 _ _ rfl) (by decide) (L' := [(2, .int v26_2), (1, .int v21_2), (3, .int v28_1), (0, .int a)]) (by rfl) (hat 28 rfl ?_)
              refine h_inc c (fun r_ => [(3, .int r_), (2, .int v26_2), (1, .int v21_2), (0, .int a)]) (hd 21 28 _ _ rfl) (by decide) (by decide) (by rfl) (by omega) (fun _ => by rfl) (fun v28_2 e28_2 => hat 31 rfl ?_)
              have e28_2 : v28_2.toInt = 3 := by omega
              refine h_goto c (hd 22 31 _ _ rfl) (tgt := 6) (by decide) ?_
              refine h_iln c (hd 6 6 _ _ rfl) (by rfl) (hat 7 rfl ?_)
              refine h_bp c (hd 7 7 _ _ rfl) (by decide) (fun v7_3 e7_3 => hat 9 rfl ?_)
              refine h_cmp c (hd 8 9 _ _ rfl) (tgt := 34) (by decide) (fun (h9_3 : v7_3.toInt ≤ v28_2.toInt) => ?_) (fun (h9_3 : ¬ (v7_3.toInt ≤ v28_2.toInt)) => hat 12 rfl ?_)
              · exfalso; omega
              · skip
                refine h_iln c (hd 9 12 _ _ rfl) (by rfl) (hat 13 rfl ?_)
                refine h_if c (hd 10 13 _ _ rfl) (tgt := 34) (by decide) (fun (h13_3 : v26_2.toInt = 0) => ?_) (fun (h13_3 : ¬ (v26_2.toInt = 0)) => hat 16 rfl ?_)
                · skip
                  refine h_iln c (hd 23 34 _ _ rfl) (by rfl) (hat 35 rfl ?_)
                  exact h_iret c (hd 24 35 _ _ rfl) rfl ⟨a, _, rfl, rfl, by unfold totI; omega⟩
                · skip
                  refine h_iln c (hd 11 16 _ _ rfl) (by rfl) (hat 17 rfl ?_)
                  refine h_iln c (hd 12 17 _ _ rfl) (by rfl) (hat 18 rfl ?_)
                  refine h_bp c (hd 13 18 _ _ rfl) (by decide) (fun v18_3 e18_3 => hat 20 rfl ?_)
                  refine h_rem c (hd 14 20 _ _ rfl) e18_3 (by decide) (by omega) (fun v20_3 e20_3 => hat 21 rfl ?_)
                  refine h_add c (hd 15 21 _ _ rfl) (by omega) (fun v21_3 e21_3 => hat 22 rfl ?_)
                  refine h_isn c (hd 16 22 _ _ rfl) (by decide) (L' := [(1, .int v21_3), (3, .int v28_2), (2, .int v26_2), (0, .int a)]) (by rfl) (hat 23 rfl ?_)
                  refine h_iln c (hd 17 23 _ _ rfl) (by rfl) (hat 24 rfl ?_)
                  refine h_bp c (hd 18 24 _ _ rfl) (by decide) (fun v24_3 e24_3 => hat 26 rfl ?_)
                  refine h_div c (hd 19 26 _ _ rfl) e24_3 (by decide) (by omega) (fun v26_3 e26_3 => hat 27 rfl ?_)
                  refine h_isn c (hd 20 27 _ _ rfl) (by decide) (L' := [(2, .int v26_3), (1, .int v21_3), (3, .int v28_2), (0, .int a)]) (by rfl) (hat 28 rfl ?_)
                  refine h_inc c (fun r_ => [(3, .int r_), (2, .int v26_3), (1, .int v21_3), (0, .int a)]) (hd 21 28 _ _ rfl) (by decide) (by decide) (by rfl) (by omega) (fun _ => by rfl) (fun v28_3 e28_3 => hat 31 rfl ?_)
                  have e28_3 : v28_3.toInt = 4 := by omega
                  refine h_goto c (hd 22 31 _ _ rfl) (tgt := 6) (by decide) ?_
                  refine h_iln c (hd 6 6 _ _ rfl) (by rfl) (hat 7 rfl ?_)
                  refine h_bp c (hd 7 7 _ _ rfl) (by decide) (fun v7_4 e7_4 => hat 9 rfl ?_)
                  refine h_cmp c (hd 8 9 _ _ rfl) (tgt := 34) (by decide) (fun (h9_4 : v7_4.toInt ≤ v28_3.toInt) => ?_) (fun (h9_4 : ¬ (v7_4.toInt ≤ v28_3.toInt)) => hat 12 rfl ?_)
                  · exfalso; omega
                  · skip
                    refine h_iln c (hd 9 12 _ _ rfl) (by rfl) (hat 13 rfl ?_)
                    refine h_if c (hd 10 13 _ _ rfl) (tgt := 34) (by decide) (fun (h13_4 : v26_3.toInt = 0) => ?_) (fun (h13_4 : ¬ (v26_3.toInt = 0)) => hat 16 rfl ?_)
                    · skip
                      refine h_iln c (hd 23 34 _ _ rfl) (by rfl) (hat 35 rfl ?_)
                      exact h_iret c (hd 24 35 _ _ rfl) rfl ⟨a, _, rfl, rfl, by unfold totI; omega⟩
                    · skip
                      refine h_iln c (hd 11 16 _ _ rfl) (by rfl) (hat 17 rfl ?_)
                      refine h_iln c (hd 12 17 _ _ rfl) (by rfl) (hat 18 rfl ?_)
                      refine h_bp c (hd 13 18 _ _ rfl) (by decide) (fun v18_4 e18_4 => hat 20 rfl ?_)
                      refine h_rem c (hd 14 20 _ _ rfl) e18_4 (by decide) (by omega) (fun v20_4 e20_4 => hat 21 rfl ?_)
                      refine h_add c (hd 15 21 _ _ rfl) (by omega) (fun v21_4 e21_4 => hat 22 rfl ?_)
                      refine h_isn c (hd 16 22 _ _ rfl) (by decide) (L' := [(1, .int v21_4), (3, .int v28_3), (2, .int v26_3), (0, .int a)]) (by rfl) (hat 23 rfl ?_)
                      refine h_iln c (hd 17 23 _ _ rfl) (by rfl) (hat 24 rfl ?_)
                      refine h_bp c (hd 18 24 _ _ rfl) (by decide) (fun v24_4 e24_4 => hat 26 rfl ?_)
                      refine h_div c (hd 19 26 _ _ rfl) e24_4 (by decide) (by omega) (fun v26_4 e26_4 => hat 27 rfl ?_)
                      refine h_isn c (hd 20 27 _ _ rfl) (by decide) (L' := [(2, .int v26_4), (1, .int v21_4), (3, .int v28_3), (0, .int a)]) (by rfl) (hat 28 rfl ?_)
                      refine h_inc c (fun r_ => [(3, .int r_), (2, .int v26_4), (1, .int v21_4), (0, .int a)]) (hd 21 28 _ _ rfl) (by decide) (by decide) (by rfl) (by omega) (fun _ => by rfl) (fun v28_4 e28_4 => hat 31 rfl ?_)
                      have e28_4 : v28_4.toInt = 5 := by omega
                      refine h_goto c (hd 22 31 _ _ rfl) (tgt := 6) (by decide) ?_
                      refine h_iln c (hd 6 6 _ _ rfl) (by rfl) (hat 7 rfl ?_)
                      refine h_bp c (hd 7 7 _ _ rfl) (by decide) (fun v7_5 e7_5 => hat 9 rfl ?_)
                      refine h_cmp c (hd 8 9 _ _ rfl) (tgt := 34) (by decide) (fun (h9_5 : v7_5.toInt ≤ v28_4.toInt) => ?_) (fun (h9_5 : ¬ (v7_5.toInt ≤ v28_4.toInt)) => hat 12 rfl ?_)
                      · exfalso; omega
                      · skip
                        refine h_iln c (hd 9 12 _ _ rfl) (by rfl) (hat 13 rfl ?_)
                        refine h_if c (hd 10 13 _ _ rfl) (tgt := 34) (by decide) (fun (h13_5 : v26_4.toInt = 0) => ?_) (fun (h13_5 : ¬ (v26_4.toInt = 0)) => hat 16 rfl ?_)
                        · skip
                          refine h_iln c (hd 23 34 _ _ rfl) (by rfl) (hat 35 rfl ?_)
                          exact h_iret c (hd 24 35 _ _ rfl) rfl ⟨a, _, rfl, rfl, by unfold totI; omega⟩
                        · skip
                          refine h_iln c (hd 11 16 _ _ rfl) (by rfl) (hat 17 rfl ?_)
                          refine h_iln c (hd 12 17 _ _ rfl) (by rfl) (hat 18 rfl ?_)
                          refine h_bp c (hd 13 18 _ _ rfl) (by decide) (fun v18_5 e18_5 => hat 20 rfl ?_)
                          refine h_rem c (hd 14 20 _ _ rfl) e18_5 (by decide) (by omega) (fun v20_5 e20_5 => hat 21 rfl ?_)
                          refine h_add c (hd 15 21 _ _ rfl) (by omega) (fun v21_5 e21_5 => hat 22 rfl ?_)
                          refine h_isn c (hd 16 22 _ _ rfl) (by decide) (L' := [(1, .int v21_5), (3, .int v28_4), (2, .int v26_4), (0, .int a)]) (by rfl) (hat 23 rfl ?_)
                          refine h_iln c (hd 17 23 _ _ rfl) (by rfl) (hat 24 rfl ?_)
                          refine h_bp c (hd 18 24 _ _ rfl) (by decide) (fun v24_5 e24_5 => hat 26 rfl ?_)
                          refine h_div c (hd 19 26 _ _ rfl) e24_5 (by decide) (by omega) (fun v26_5 e26_5 => hat 27 rfl ?_)
                          refine h_isn c (hd 20 27 _ _ rfl) (by decide) (L' := [(2, .int v26_5), (1, .int v21_5), (3, .int v28_4), (0, .int a)]) (by rfl) (hat 28 rfl ?_)
                          refine h_inc c (fun r_ => [(3, .int r_), (2, .int v26_5), (1, .int v21_5), (0, .int a)]) (hd 21 28 _ _ rfl) (by decide) (by decide) (by rfl) (by omega) (fun _ => by rfl) (fun v28_5 e28_5 => hat 31 rfl ?_)
                          have e28_5 : v28_5.toInt = 6 := by omega
                          refine h_goto c (hd 22 31 _ _ rfl) (tgt := 6) (by decide) ?_
                          refine h_iln c (hd 6 6 _ _ rfl) (by rfl) (hat 7 rfl ?_)
                          refine h_bp c (hd 7 7 _ _ rfl) (by decide) (fun v7_6 e7_6 => hat 9 rfl ?_)
                          refine h_cmp c (hd 8 9 _ _ rfl) (tgt := 34) (by decide) (fun (h9_6 : v7_6.toInt ≤ v28_5.toInt) => ?_) (fun (h9_6 : ¬ (v7_6.toInt ≤ v28_5.toInt)) => hat 12 rfl ?_)
                          · skip
                            refine h_iln c (hd 23 34 _ _ rfl) (by rfl) (hat 35 rfl ?_)
                            exact h_iret c (hd 24 35 _ _ rfl) rfl ⟨a, _, rfl, rfl, by unfold totI; omega⟩
                          · exfalso; omega
def fM_bk : rfM := ((⟨"NearSpell$Book", "bucketOf", "(I)I"⟩, prog_3_method_7_code, 4, (some .int)), (4,200), ([.inr (.inl [5]), .inl ((0,387420488,1),none)],[]), [], [])
def ddEX1_bucketOf : List (Nat × Instr × Nat) := [(0,.aload_n 0,1),(1,.getfield 49,3),(4,.ifCond .ne 18,3),(7,.iload_n 1,1),(8,.invokestatic 61,3),(11,.bipush 7,2),(13,.imul,1),(14,.iload_n 1,1),(15,.invokestatic 65,3),(18,.iadd,1),(19,.goto 8,3),(22,.aload_n 0,1),(23,.iload_n 1,1),(24,.invokevirtual 68,3),(27,.istore_n 2,1),(28,.aload_n 0,1),(29,.getfield 37,3),(32,.ifCond .gt 5,3),(35,.iconst 0,1),(36,.ireturn,1),(37,.iload_n 2,1),(38,.aload_n 0,1),(39,.getfield 37,3),(42,.irem,1),(43,.istore_n 3,1),(44,.iload_n 3,1),(45,.ifCond .ge 12,3),(48,.iload_n 3,1),(49,.aload_n 0,1),(50,.getfield 37,3),(53,.iadd,1),(54,.goto 4,3),(57,.iload_n 3,1),(58,.ireturn,1)]
set_option maxRecDepth 100000 in
theorem dkEX1_bucketOf : rf_decs prog_3_method_7_code ddEX1_bucketOf := rf_decs_of (by decide +kernel)
set_option maxHeartbeats 8000000 in
set_option maxRecDepth 20000 in
theorem fp_bk {G : rfG} (hG : okG G) : h_met G fM_bk (fun _ F => (F 5 11).toInt = 0 ∧ (F 5 7).toInt = 13) (fun vs _ _ rv => ∃ a y : Int32, vs[1]? = some (.int a) ∧ rv = some (.int y) ∧ y.toInt = (7 * totI a.toInt + (lenI a.toInt : Int)) % 13) := by
  refine h_metOf hG.1 (by decide +kernel) (by decide) hG.2.2.1 (wflT hG flokX1) (wcsT hG csokX1) ?_
  intro vs w0 X hv_ hr hp c
  match vs, hv_ with
  | [_, _], ⟨⟨_, hj0, rfl⟩, ⟨a, rfl, hi_a, _⟩, _⟩ =>
  cases List.mem_singleton.mp hj0
  have hd : ∀ n pc i len, ddEX1_bucketOf[n]? = some (pc, i, len) → decode (mb fM_bk) pc = .ok (i, len) := fun n pc i len h => hdk dkEX1_bucketOf n pc i len h
  show hW G X fM_bk w0 0 [(0, .ref (G.2.1.1 5)), (1, .int a)] [] (hv w0)
  generalize hF0 : hv w0 = F at *
  obtain ⟨hp1, hp2⟩ := hp
  have ha : 0 ≤ a.toInt ∧ a.toInt ≤ 387420488 := ⟨hi_a.1, hi_a.2.1⟩
  have hl6 := lenI_le a.toInt
  have ht := totI_in ha.1
  refine h_aln c (hd 0 0 _ _ rfl) (by rfl) (hat 1 rfl ?_)
  refine h_getI c (hd 1 1 _ _ rfl) efgX1_49 egnX1_49_5 (x := F 5 11) (rfl) (hat 4 rfl ?_)
  refine h_if c (hd 2 4 _ _ rfl) (tgt := 22) (by decide) (fun (h4 : (F 5 11).toInt ≠ 0) => ?_) (fun (h4 : ¬ ((F 5 11).toInt ≠ 0)) => hat 7 rfl ?_)
  · skip
    exact absurd h4 (by omega)
  · skip
    refine h_iln c (hd 3 7 _ _ rfl) (by rfl) (hat 8 rfl ?_)
    refine h_callSF c (M' := fM_tot) (fp_tot hG) (by decide +kernel) (wlkS (lkX1_61 hG) _ rfl rfl) (hd 4 8 _ _ rfl) [.int a] (rest := []) (by rfl) ⟨⟨_, rfl, rf_in1 (by omega) (by omega), trivial⟩, trivial⟩ (Nat.le_of_ble_eq_true rfl) trivial (fun rv8 F8 fr8 rr8 pp8 sm_ => hat 11 rfl ?_)
    have e_ := (sm_ rfl).symm
    subst e_
    obtain ⟨a0_, x8, ea_, er_, hx8⟩ := pp8
    cases ea_; subst er_
    refine h_bp c (hd 5 11 _ _ rfl) (by decide) (fun v11 e11 => hat 13 rfl ?_)
    refine h_mulR c (hd 6 13 _ _ rfl) e11 (by omega) (fun v13 e13 => hat 14 rfl ?_)
    refine h_iln c (hd 7 14 _ _ rfl) (by rfl) (hat 15 rfl ?_)
    refine h_callSF c (M' := dM_len) (dp_len hG) (by decide +kernel) (wlkS (lkX1_65 hG) _ rfl rfl) (hd 8 15 _ _ rfl) [.int a] (rest := [.int v13]) (by rfl) ⟨⟨_, rfl, rf_in1 (by omega) (by omega), trivial⟩, trivial⟩ (Nat.le_of_ble_eq_true rfl) trivial (fun rv15 F15 fr15 rr15 pp15 sm_ => hat 18 rfl ?_)
    have e_ := (sm_ rfl).symm
    subst e_
    obtain ⟨a0_, x15, ea_, er_, hx15⟩ := pp15
    cases ea_; subst er_
    refine h_add c (hd 9 18 _ _ rfl) (by omega) (fun v18 e18 => hat 19 rfl ?_)
    refine h_goto c (hd 10 19 _ _ rfl) (tgt := 27) (by decide) ?_
    refine h_isn c (hd 14 27 _ _ rfl) (by decide) (L' := [(2, .int v18), (0, .ref (G.2.1.1 5)), (1, .int a)]) (by rfl) (hat 28 rfl ?_)
    refine h_aln c (hd 15 28 _ _ rfl) (by rfl) (hat 29 rfl ?_)
    refine h_getI c (hd 16 29 _ _ rfl) efgX1_37 egnX1_37_5 (x := F 5 7) (rfl) (hat 32 rfl ?_)
    refine h_if c (hd 17 32 _ _ rfl) (tgt := 37) (by decide) (fun (h32 : 0 < (F 5 7).toInt) => ?_) (fun (h32 : ¬ (0 < (F 5 7).toInt)) => hat 35 rfl ?_)
    · skip
      refine h_iln c (hd 20 37 _ _ rfl) (by rfl) (hat 38 rfl ?_)
      refine h_aln c (hd 21 38 _ _ rfl) (by rfl) (hat 39 rfl ?_)
      refine h_getI c (hd 22 39 _ _ rfl) efgX1_37 egnX1_37_5 (x := F 5 7) (rfl) (hat 42 rfl ?_)
      refine h_rem c (hd 23 42 _ _ rfl) hp2 (by decide) (by omega) (fun v42 e42 => hat 43 rfl ?_)
      refine h_isn c (hd 24 43 _ _ rfl) (by decide) (L' := [(3, .int v42), (2, .int v18), (0, .ref (G.2.1.1 5)), (1, .int a)]) (by rfl) (hat 44 rfl ?_)
      refine h_iln c (hd 25 44 _ _ rfl) (by rfl) (hat 45 rfl ?_)
      refine h_if c (hd 26 45 _ _ rfl) (tgt := 57) (by decide) (fun (h45 : 0 ≤ v42.toInt) => ?_) (fun (h45 : ¬ (0 ≤ v42.toInt)) => hat 48 rfl ?_)
      · skip
        refine h_iln c (hd 32 57 _ _ rfl) (by rfl) (hat 58 rfl ?_)
        exact h_iret c (hd 33 58 _ _ rfl) rfl ⟨a, _, rfl, rfl, by rw [e42]; omega⟩
      · skip
        exact absurd (by omega) h45
    · skip
      exact absurd (by omega) h32
def fM_bucket : rfM := ((⟨"NearSpell", "bucket", "(I)I"⟩, prog_1_method_17_code, 2, (some .int)), (6,400), ([.inr (.inl [70]), .inl (((-2147483648),2147483647,1),none)],[]), [], [])
def ddEX11_bucket : List (Nat × Instr × Nat) := [(0,.iload_n 1,1),(1,.invokestatic 163,3),(4,.ifCond .eq 14,3),(7,.aload_n 0,1),(8,.getfield 16,3),(11,.iload_n 1,1),(12,.invokevirtual 223,3),(15,.goto 4,3),(18,.iconst (-1),1),(19,.ireturn,1)]
set_option maxRecDepth 100000 in
theorem dkEX11_bucket : rf_decs prog_1_method_17_code ddEX11_bucket := rf_decs_of (by decide +kernel)
set_option maxHeartbeats 8000000 in
set_option maxRecDepth 20000 in
theorem fp_bucket {G : rfG} (hG : okG G) : h_met G fM_bucket (fun _ F => (F 5 11).toInt = 0 ∧ (F 5 7).toInt = 13) (fun vs _ _ rv => ∃ a y : Int32, vs[1]? = some (.int a) ∧ rv = some (.int y) ∧ ((cbI a.toInt ∧ y.toInt = (7 * totI a.toInt + (lenI a.toInt : Int)) % 13) ∨ (¬ cbI a.toInt ∧ y.toInt = -1))) := by
  refine h_metOf hG.1 (by decide +kernel) (by decide) hG.2.2.1 (wflT hG flokX11) (wcsT hG csokX11) ?_
  intro vs w0 X hv_ hr hp c
  match vs, hv_ with
  | [_, _], ⟨⟨_, hj0, rfl⟩, ⟨a, rfl, hi_a, _⟩, _⟩ =>
  cases List.mem_singleton.mp hj0
  have hd : ∀ n pc i len, ddEX11_bucket[n]? = some (pc, i, len) → decode (mb fM_bucket) pc = .ok (i, len) := fun n pc i len h => hdk dkEX11_bucket n pc i len h
  show hW G X fM_bucket w0 0 [(0, .ref (G.2.1.1 70)), (1, .int a)] [] (hv w0)
  generalize hF0 : hv w0 = F at *
  refine h_iln c (hd 0 0 _ _ rfl) (by rfl) (hat 1 rfl ?_)
  refine h_callSF c (M' := dM_can) (dp_can hG) (by decide +kernel) (wlkS (lkX11_163 hG) _ rfl rfl) (hd 1 1 _ _ rfl) [.int a] (rest := []) (by rfl) ⟨⟨_, rfl, rf_in_top _, trivial⟩, trivial⟩ (Nat.le_of_ble_eq_true rfl) trivial (fun rv1 F1 fr1 rr1 pp1 sm_ => hat 4 rfl ?_)
  have e_ := (sm_ rfl).symm
  subst e_
  obtain ⟨a0_, x1, ea_, er_, hx1⟩ := pp1
  cases ea_; subst er_
  refine h_if c (hd 2 4 _ _ rfl) (tgt := 18) (by decide) (fun (h4 : x1.toInt = 0) => ?_) (fun (h4 : ¬ (x1.toInt = 0)) => hat 7 rfl ?_)
  · skip
    refine h_ic c (hd 8 18 _ _ rfl) (by decide) (fun v18 e18 => hat 19 rfl ?_)
    exact h_iret c (hd 9 19 _ _ rfl) rfl ⟨a, _, rfl, rfl, Or.inr ⟨(fun q => by rcases hx1 with h_ | h_; omega; exact h_.2 q), by omega⟩⟩
  · skip
    have ca_ : cbI a.toInt := by rcases hx1 with h_ | h_; exact h_.2; omega
    have ra_ := ca_.1
    have ra2_ := ca_.2.1
    refine h_aln c (hd 3 7 _ _ rfl) (by rfl) (hat 8 rfl ?_)
    refine h_getR c (hd 4 8 _ _ rfl) efgX11_16 egnX11_16_70 (hat 11 rfl ?_)
    refine h_iln c (hd 5 11 _ _ rfl) (by rfl) (hat 12 rfl ?_)
    refine h_callVF c (M' := fM_bk) (fp_bk hG) (by decide +kernel) (wlkV (lkX11_223 hG) _ rfl rfl) (j := 5) (by decide +kernel) (hd 6 12 _ _ rfl) [.int a] (rest := []) (by rfl) ⟨⟨5, by decide, rfl⟩, ⟨_, rfl, rf_in1 (by omega) (by omega), trivial⟩, trivial⟩ (Nat.le_of_ble_eq_true rfl) hp (fun rv12 F12 fr12 rr12 pp12 sm_ => hat 15 rfl ?_)
    have e_ := (sm_ rfl).symm
    subst e_
    obtain ⟨a_, x12, ea_, er_, hx12⟩ := pp12
    cases ea_; subst er_
    refine h_goto c (hd 7 15 _ _ rfl) (tgt := 19) (by decide) ?_
    exact h_iret c (hd 9 19 _ _ rfl) rfl ⟨a, _, rfl, rfl, Or.inl ⟨ca_, hx12⟩⟩
