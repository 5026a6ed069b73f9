/-! WHAT IS KNOWN OF THE WORLD (okG), the words that go on to a callee (wTs), links -/
def wpw (j : Nat) : Int32 := ([1, 27, 729, 19683, 531441, 14348907, 387420489] : List Int32).getD j 0
def wNest : List (String × Nat × MethodName × String) := [("NearSpell", 34, ⟨"NearSpell$State", "<init>", "()V"⟩, "NearSpell"), ("NearSpell", 41, ⟨"NearSpell$Archive", "<init>", "()V"⟩, "NearSpell"), ("NearSpell$Book", 61, ⟨"NearSpell", "totalOf", "(I)I"⟩, "NearSpell"), ("NearSpell$Book", 65, ⟨"NearSpell", "lengthOf", "(I)I"⟩, "NearSpell"), ("NearSpell$Book", 71, ⟨"NearSpell", "beginningOf", "(II)I"⟩, "NearSpell"), ("NearSpell$Finder", 90, ⟨"NearSpell", "lengthOf", "(I)I"⟩, "NearSpell"), ("NearSpell$Finder", 93, ⟨"NearSpell", "beginningOf", "(II)I"⟩, "NearSpell"), ("NearSpell$FormList", 28, ⟨"NearSpell", "beginningOf", "(II)I"⟩, "NearSpell"), ("NearSpell$FormList", 39, ⟨"NearSpell", "lengthOf", "(I)I"⟩, "NearSpell"), ("NearSpell$FormList", 43, ⟨"NearSpell", "without", "(II)I"⟩, "NearSpell"), ("NearSpell$Laid", 25, ⟨"NearSpell$FormList", "<init>", "()V"⟩, "NearSpell"), ("NearSpell$Pieces", 35, ⟨"NearSpell", "lengthOf", "(I)I"⟩, "NearSpell"), ("NearSpell$Ruler", 55, ⟨"NearSpell", "lengthOf", "(I)I"⟩, "NearSpell")]
/-- the texts -/
def wlens : List Nat := [112, 11]
def wbyts : List (List Int32) := [[119, 111, 114, 100, 32, 32, 32, 32, 112, 114, 101, 102, 105, 120, 32, 32, 101, 114, 114, 111, 114, 115, 32, 32, 104, 97, 115, 104, 32, 32, 32, 32, 98, 117, 99, 107, 101, 116, 115, 32, 115, 108, 105, 112, 115, 32, 32, 32, 100, 114, 97, 119, 32, 32, 32, 32, 111, 114, 32, 32, 32, 32, 32, 32, 97, 110, 100, 32, 32, 32, 32, 32, 110, 111, 116, 32, 32, 32, 32, 32, 116, 111, 116, 97, 108, 32, 32, 32, 108, 101, 110, 103, 116, 104, 32, 32, 102, 105, 114, 115, 116, 32, 32, 32, 108, 97, 115, 116, 32, 32, 32, 32], [59, 40, 41, 60, 62, 61, 43, 45, 42, 47, 37]]
def wTx (k : Nat) : String := if k = 1 then "word    prefix  errors  hash    buckets slips   draw    or      and     not     total   length  first   last    " else ";()<>=+-*/%"
def wTe (k : Nat) : Nat := if k = 1 then 150 else 139
def wSF (G : rfG) (s : State) : Prop := va_Z "NearSpell" "POWERS" "[I" (.ref (G.2.1.2.1 0)) G.1.2.2.2 s s.heap ∧ va_T .int (G.2.1.2.1 0) 7 (fun j => .int (wpw j)) G.1.2.2.2 s s.heap ∧ (∀ q ∈ wNest, va_Nw (Cond.methodLinkNest q.1 q.2.1 q.2.2.1 q.2.2.2) s) ∧
  va_Z "java/lang/String" "COMPACT_STRINGS" "Z" (.int 1) G.1.2.2.2 s s.heap ∧ va_Z "jdk/internal/util/Preconditions" "SIOOBE_FORMATTER" "Ljava/util/function/BiFunction;" (rf_spv G.2.1.2.1 999) G.1.2.2.2 s s.heap ∧ vk_S 2 wlens wbyts (fun i => G.2.1.2.1 (i + 1)) (fun i => G.2.1.2.1 (i + 3)) G.1.2.2.2 s s.heap ∧ ∀ k, (k = 1 ∨ k = 2) → vk_R "NearSpell$Reader" (wTe k) (wTx k) (G.2.1.2.1 k) s
def okG (G : rfG) : Prop := rf_Gok G ∧ G.1.2.2.1 = wCl ∧ G.2.1.2.2.2 = wLay ∧ G.2.2.1 = wTs ∧ ∀ s, G.2.2.2 s → wSF G s
def wlk (G : rfG) (own : String) (i : Nat) (p : MethodName × ByteArray × Nat × Option FieldType) (n : Nat) : Prop := (Cond.methodLink own i p.1 ∈ G.2.2.1 ∨ ∃ host, ∀ s : State, G.2.2.2 s → va_Nw (Cond.methodLinkNest own i p.1 host) s) ∧ Cond.initialized p.1.cls ∈ G.2.2.1 ∧ Cond.code p.1 p.2.1 p.2.2.1 p.2.2.2 ∈ G.2.2.1 ∧ p.1.cls ≠ "java/lang/invoke/MethodHandle" ∧ p.1.cls ≠ "java/lang/invoke/VarHandle" ∧ (parseMethodDescriptor p.1.desc).map (fun d => d.parameters.length) = some n
theorem wlkS {G : rfG} {own : String} {i n : Nat} {p : MethodName × ByteArray × Nat × Option FieldType} (h : wlk G own i p n ∧ Cond.static p.1 ∈ G.2.2.1) (M : rfM) (h1 : M.1 = p) (h2 : (mA M).length = n) : rf_linkS G own i M := by
  subst h1; subst h2; exact h
theorem wlkV {G : rfG} {own : String} {i n ci : Nat} {p : MethodName × ByteArray × Nat × Option FieldType} (h : wlk G own i p n ∧ Cond.instanceMethod p.1 ∈ G.2.2.1 ∧ Cond.selects p.1.cls p.1 p.1 ∈ G.2.2.1 ∧ ((¬ ci = 1000 ∧ ∃ T N, G.1.2.2.1[ci]? = some (p.1.cls, T, N)) ∨ (ci = 1000 ∧ p.1.cls = "java/lang/String" ∧ ∀ s, G.2.2.2 s → ∀ n, (n = 1 ∨ n = 2) → va_O "java/lang/String" (G.2.1.2.1 n) G.1.2.2.2 s s.heap))) (M : rfM) (h1 : M.1 = p) (h2 : (mA M).length - 1 = n) : rf_linkV G own i ci M := by
  subst h1; subst h2; exact h
theorem wnest {G : rfG} (h : okG G) {own : String} {i : Nat} {y : MethodName} {host : String} (hm : (own, i, y, host) ∈ wNest) : ∃ host, ∀ s : State, G.2.2.2 s → va_Nw (Cond.methodLinkNest own i y host) s := ⟨host, fun s hs => (h.2.2.2.2 s hs).2.2.1 _ hm⟩
theorem wstrO {G : rfG} (h : okG G) : ∀ s, G.2.2.2 s → ∀ n, (n = 1 ∨ n = 2) → va_O "java/lang/String" (G.2.1.2.1 n) G.1.2.2.2 s s.heap := by
  intro s hs n hn
  obtain ⟨-, -, -, -, -, z, -⟩ := h.2.2.2.2 s hs
  rcases hn with rfl | rfl
  · exact (z.1 0 (by decide)).1
  · exact (z.1 1 (by decide)).1
theorem wflT {G : rfG} (h : okG G) {own : String} {fl : rfFl} (hf : rf_flok own wTs wCl fl) : rf_flok own G.2.2.1 G.1.2.2.1 fl := by rw [h.2.1, h.2.2.2.1]; exact hf
theorem wcsT {G : rfG} (h : okG G) {own : String} {cs : List (Nat × Int)} (hf : rf_csok own wTs cs) : rf_csok own G.2.2.1 cs := by rw [h.2.2.2.1]; exact hf
theorem wlcT {G : rfG} (h : okG G) {own : String} {cs : List (Nat × Int)} (hf : rf_lcok own wTs cs) : rf_lcok own G.2.2.1 cs := by rw [h.2.2.2.1]; exact hf
theorem wspN (G : rfG) (own : String) : rf_spok G own ([], [], [], []) := fun _ _ => ⟨fun _ h => absurd h List.not_mem_nil, fun _ h => absurd h List.not_mem_nil, fun _ h => absurd h List.not_mem_nil, fun _ h => absurd h List.not_mem_nil⟩
theorem wmT {G : rfG} (h : okG G) {w : Cond} (hm : w ∈ wTs) : w ∈ G.2.2.1 := by rw [h.2.2.2.1]; exact hm
