/-! WHAT IS KNOWN OF THE WORLD (okG), the words that go on to a callee (wTs), links -/
def wTs : List Cond := lw_tbl.filter goodWord
theorem wmem {i : Nat} {w : Cond} (h : lw_tbl[i]? = some w) (hg : goodWord w = true) : w ∈ wTs := List.mem_filter.mpr ⟨List.mem_of_getElem? h, hg⟩
theorem wgood : ∀ w ∈ wTs, goodWord w = true := fun w h => (List.mem_filter.mp h).2
theorem wsubT {ws : List Cond} (h : ∀ w ∈ ws, w ∈ lw_tbl) (hg : ws.all goodWord = true) : ∀ w ∈ ws, w ∈ wTs := fun w hw => List.mem_filter.mpr ⟨h w hw, List.all_eq_true.mp hg w hw⟩
def wpw (j : Nat) : Int32 := ([1, 27, 729, 19683, 531441, 14348907, 387420489] : List Int32).getD j 0
def wNest : List (String × Nat × MethodName × String) := [("NearSpell", 34, ⟨"NearSpell$State", "<init>", "()V"⟩, "NearSpell"), ("NearSpell", 41, ⟨"NearSpell$Archive", "<init>", "()V"⟩, "NearSpell"), ("NearSpell$Book", 61, ⟨"NearSpell", "totalOf", "(I)I"⟩, "NearSpell"), ("NearSpell$Book", 65, ⟨"NearSpell", "lengthOf", "(I)I"⟩, "NearSpell"), ("NearSpell$Book", 71, ⟨"NearSpell", "beginningOf", "(II)I"⟩, "NearSpell"), ("NearSpell$Finder", 90, ⟨"NearSpell", "lengthOf", "(I)I"⟩, "NearSpell"), ("NearSpell$Finder", 93, ⟨"NearSpell", "beginningOf", "(II)I"⟩, "NearSpell"), ("NearSpell$FormList", 28, ⟨"NearSpell", "beginningOf", "(II)I"⟩, "NearSpell"), ("NearSpell$FormList", 39, ⟨"NearSpell", "lengthOf", "(I)I"⟩, "NearSpell"), ("NearSpell$FormList", 43, ⟨"NearSpell", "without", "(II)I"⟩, "NearSpell"), ("NearSpell$Laid", 25, ⟨"NearSpell$FormList", "<init>", "()V"⟩, "NearSpell"), ("NearSpell$Pieces", 35, ⟨"NearSpell", "lengthOf", "(I)I"⟩, "NearSpell"), ("NearSpell$Ruler", 55, ⟨"NearSpell", "lengthOf", "(I)I"⟩, "NearSpell")]
def wSF (G : rfG) (s : State) : Prop := va_Z "NearSpell" "POWERS" "[I" (.ref (G.2.1.2.1 0)) G.1.2.2.2 s s.heap ∧ va_T .int (G.2.1.2.1 0) 7 (fun j => .int (wpw j)) G.1.2.2.2 s s.heap ∧ ∀ q ∈ wNest, va_Nw (Cond.methodLinkNest q.1 q.2.1 q.2.2.1 q.2.2.2) s
def okG (G : rfG) : Prop := rf_Gok G ∧ G.1.2.2.1 = wCl ∧ G.2.1.2.2.2 = wLay ∧ G.2.2.1 = wTs ∧ ∀ s, G.2.2.2 s → wSF G s
def wlk (G : rfG) (own : String) (i : Nat) (p : MethodName × ByteArray × Nat × Option FieldType) (n : Nat) : Prop := (Cond.methodLink own i p.1 ∈ G.2.2.1 ∨ ∃ host, ∀ s : State, G.2.2.2 s → va_Nw (Cond.methodLinkNest own i p.1 host) s) ∧ Cond.initialized p.1.cls ∈ G.2.2.1 ∧ Cond.code p.1 p.2.1 p.2.2.1 p.2.2.2 ∈ G.2.2.1 ∧ p.1.cls ≠ "java/lang/invoke/MethodHandle" ∧ p.1.cls ≠ "java/lang/invoke/VarHandle" ∧ (parseMethodDescriptor p.1.desc).map (fun d => d.parameters.length) = some n
theorem wlkS {G : rfG} {own : String} {i n : Nat} {p : MethodName × ByteArray × Nat × Option FieldType} (h : wlk G own i p n ∧ Cond.static p.1 ∈ G.2.2.1) (M : rfM) (h1 : M.1 = p) (h2 : (mA M).length = n) : rf_linkS G own i M := by
  subst h1; subst h2; exact h
theorem wlkV {G : rfG} {own : String} {i n ci : Nat} {p : MethodName × ByteArray × Nat × Option FieldType} (h : wlk G own i p n ∧ Cond.instanceMethod p.1 ∈ G.2.2.1 ∧ Cond.selects p.1.cls p.1 p.1 ∈ G.2.2.1 ∧ ∃ T N, G.1.2.2.1[ci]? = some (p.1.cls, T, N)) (M : rfM) (h1 : M.1 = p) (h2 : (mA M).length - 1 = n) : rf_linkV G own i ci M := by
  subst h1; subst h2; exact h
theorem wnest {G : rfG} (h : okG G) {own : String} {i : Nat} {y : MethodName} {host : String} (hm : (own, i, y, host) ∈ wNest) : ∃ host, ∀ s : State, G.2.2.2 s → va_Nw (Cond.methodLinkNest own i y host) s := ⟨host, fun s hs => (h.2.2.2.2 s hs).2.2 _ hm⟩
theorem wflT {G : rfG} (h : okG G) {own : String} {fl : rfFl} (hf : rf_flok own wTs wCl fl) : rf_flok own G.2.2.1 G.1.2.2.1 fl := by rw [h.2.1, h.2.2.2.1]; exact hf
theorem wcsT {G : rfG} (h : okG G) {own : String} {cs : List (Nat × Int)} (hf : rf_csok own wTs cs) : rf_csok own G.2.2.1 cs := by rw [h.2.2.2.1]; exact hf
theorem wlcT {G : rfG} (h : okG G) {own : String} {cs : List (Nat × Int)} (hf : rf_lcok own wTs cs) : rf_lcok own G.2.2.1 cs := by rw [h.2.2.2.1]; exact hf
theorem wspN (G : rfG) (own : String) : rf_spok G own ([], [], []) := fun _ _ => ⟨fun _ h => absurd h List.not_mem_nil, fun _ h => absurd h List.not_mem_nil, fun _ h => absurd h List.not_mem_nil⟩
theorem wmT {G : rfG} (h : okG G) {w : Cond} (hm : w ∈ wTs) : w ∈ G.2.2.1 := by rw [h.2.2.2.1]; exact hm
set_option maxRecDepth 20000 in
theorem utX0 : ∀ w ∈ u_ws RX0 TX0 6, w ∈ wTs := wsubT uwX0 (by decide +kernel)
set_option maxRecDepth 20000 in
theorem utX1 : ∀ w ∈ u_ws RX1 TX1 13, w ∈ wTs := wsubT uwX1 (by decide +kernel)
set_option maxRecDepth 20000 in
theorem utX2 : ∀ w ∈ u_ws RX2 TX2 5, w ∈ wTs := wsubT uwX2 (by decide +kernel)
set_option maxRecDepth 20000 in
theorem utX3 : ∀ w ∈ u_ws RX3 TX3 5, w ∈ wTs := wsubT uwX3 (by decide +kernel)
set_option maxRecDepth 20000 in
theorem utX4 : ∀ w ∈ u_ws RX4 TX4 5, w ∈ wTs := wsubT uwX4 (by decide +kernel)
set_option maxRecDepth 20000 in
theorem utX5 : ∀ w ∈ u_ws RX5 TX5 8, w ∈ wTs := wsubT uwX5 (by decide +kernel)
set_option maxRecDepth 20000 in
theorem utX6 : ∀ w ∈ u_ws RX6 TX6 10, w ∈ wTs := wsubT uwX6 (by decide +kernel)
set_option maxRecDepth 20000 in
theorem utX7 : ∀ w ∈ u_ws RX7 TX7 5, w ∈ wTs := wsubT uwX7 (by decide +kernel)
set_option maxRecDepth 20000 in
theorem utX8 : ∀ w ∈ u_ws RX8 TX8 1, w ∈ wTs := wsubT uwX8 (by decide +kernel)
set_option maxRecDepth 20000 in
theorem utX9 : ∀ w ∈ u_ws RX9 TX9 5, w ∈ wTs := wsubT uwX9 (by decide +kernel)
set_option maxRecDepth 20000 in
theorem utX10 : ∀ w ∈ u_ws RX10 TX10 10, w ∈ wTs := wsubT uwX10 (by decide +kernel)
set_option maxRecDepth 20000 in
theorem utX11 : ∀ w ∈ u_ws RX11 TX11 15, w ∈ wTs := wsubT uwX11 (by decide +kernel)
set_option maxRecDepth 20000 in
theorem utX12 : ∀ w ∈ u_ws RX12 TX12 67, w ∈ wTs := wsubT uwX12 (by decide +kernel)
