/-- NearSpell.Web.mostOf -/
def q550_M : rfM := ((⟨"NearSpell$Web", "mostOf", "(II)I"⟩, prog_11_method_14_code, 5, (some .int)), (11,264), ([.inr (.inl [61]),.inl (((-2147483648),2147483647,1),none),.inl ((8,10,1),none)],[]), [], [(some (.inl ((0,11,1),none)),[],[])])
def q550_P : rfP := (flX9,csX9,lcX9,spX9,[q493_M,q549_M,q513_M],[(76,2)],[(50,0,9),(72,1,9)],([],[(81,0)]))
def q550_U : rfU := []
set_option maxHeartbeats 8000000 in
def q550_N : List rfB := [(0,([(0,.inr (.inl [61])),(1,.inl (((-2147483648),2147483647,1),none)),(2,.inl ((8,10,1),none))],[],[]),(61,[]),0)]
set_option maxRecDepth 100000 in
theorem q550_ok : rf_chkB q550_P q550_U wLay q550_M ddX9_mostOf [(15,[0]),(26,[1]),(53,[1]),(67,[2]),(84,[1])] [] [0] 600 q550_N = true := by decide +kernel
set_option maxHeartbeats 4000000 in
theorem q550_met {G : rfG} (h : okG G) : rf_met G q550_M := rf_methodB h.1 (P := q550_P) (U := q550_U) (N := q550_N) ⟨wflT h flokX9, wcsT h csokX9, wlcT h lcokX9, spokX9 h, List.forall_mem_cons.mpr ⟨q493_met h, List.forall_mem_cons.mpr ⟨q549_met h, List.forall_mem_cons.mpr ⟨q513_met h, fun _ h => absurd h List.not_mem_nil⟩⟩⟩, List.forall_mem_cons.mpr ⟨fun M hM => Option.some.inj (show some q513_M = some M from hM) ▸ wlkS (lkX9_76 h) q513_M rfl rfl, fun _ h => absurd h List.not_mem_nil⟩, List.forall_mem_cons.mpr ⟨fun M hM => Option.some.inj (show some q493_M = some M from hM) ▸ wlkV (lkX9_50 h) q493_M rfl rfl, List.forall_mem_cons.mpr ⟨fun M hM => Option.some.inj (show some q549_M = some M from hM) ▸ wlkV (lkX9_72 h) q549_M rfl rfl, fun _ h => absurd h List.not_mem_nil⟩⟩, fun _ h => absurd h List.not_mem_nil, List.forall_mem_cons.mpr ⟨⟨wmT h (wm130), fun _ => ⟨wmT h (wm1202), wmT h (wm652), wmT h (wm653)⟩, fun h => absurd h (by decide), fun h => absurd h (by decide)⟩, fun _ h => absurd h List.not_mem_nil⟩⟩ dkX9_mostOf (by decide +kernel) (by rw [h.2.2.1]; exact q550_ok)
/-- NearSpell.Web.mostOf -/
def q551_M : rfM := ((⟨"NearSpell$Web", "mostOf", "(II)I"⟩, prog_11_method_14_code, 5, (some .int)), (12,288), ([.inr (.inl [61]),.inl (((-2147483648),2147483647,1),none),.inl ((9,11,1),none)],[]), [], [(some (.inl ((0,12,1),none)),[],[])])
def q551_P : rfP := (flX9,csX9,lcX9,spX9,[q493_M,q550_M,q513_M],[(76,2)],[(50,0,9),(72,1,9)],([],[(81,0)]))
def q551_U : rfU := []
set_option maxHeartbeats 8000000 in
def q551_N : List rfB := [(0,([(0,.inr (.inl [61])),(1,.inl (((-2147483648),2147483647,1),none)),(2,.inl ((9,11,1),none))],[],[]),(61,[]),0)]
set_option maxRecDepth 100000 in
theorem q551_ok : rf_chkB q551_P q551_U wLay q551_M ddX9_mostOf [(15,[0]),(26,[1]),(53,[1]),(67,[2]),(84,[1])] [] [0] 600 q551_N = true := by decide +kernel
set_option maxHeartbeats 4000000 in
theorem q551_met {G : rfG} (h : okG G) : rf_met G q551_M := rf_methodB h.1 (P := q551_P) (U := q551_U) (N := q551_N) ⟨wflT h flokX9, wcsT h csokX9, wlcT h lcokX9, spokX9 h, List.forall_mem_cons.mpr ⟨q493_met h, List.forall_mem_cons.mpr ⟨q550_met h, List.forall_mem_cons.mpr ⟨q513_met h, fun _ h => absurd h List.not_mem_nil⟩⟩⟩, List.forall_mem_cons.mpr ⟨fun M hM => Option.some.inj (show some q513_M = some M from hM) ▸ wlkS (lkX9_76 h) q513_M rfl rfl, fun _ h => absurd h List.not_mem_nil⟩, List.forall_mem_cons.mpr ⟨fun M hM => Option.some.inj (show some q493_M = some M from hM) ▸ wlkV (lkX9_50 h) q493_M rfl rfl, List.forall_mem_cons.mpr ⟨fun M hM => Option.some.inj (show some q550_M = some M from hM) ▸ wlkV (lkX9_72 h) q550_M rfl rfl, fun _ h => absurd h List.not_mem_nil⟩⟩, fun _ h => absurd h List.not_mem_nil, List.forall_mem_cons.mpr ⟨⟨wmT h (wm130), fun _ => ⟨wmT h (wm1202), wmT h (wm652), wmT h (wm653)⟩, fun h => absurd h (by decide), fun h => absurd h (by decide)⟩, fun _ h => absurd h List.not_mem_nil⟩⟩ dkX9_mostOf (by decide +kernel) (by rw [h.2.2.1]; exact q551_ok)
/-- NearSpell.Web.mostOf -/
def q552_M : rfM := ((⟨"NearSpell$Web", "mostOf", "(II)I"⟩, prog_11_method_14_code, 5, (some .int)), (13,312), ([.inr (.inl [61]),.inl (((-2147483648),2147483647,1),none),.inl ((10,12,1),none)],[]), [], [(some (.inl ((0,13,1),none)),[],[])])
def q552_P : rfP := (flX9,csX9,lcX9,spX9,[q493_M,q551_M,q513_M],[(76,2)],[(50,0,9),(72,1,9)],([],[(81,0)]))
def q552_U : rfU := []
set_option maxHeartbeats 8000000 in
def q552_N : List rfB := [(0,([(0,.inr (.inl [61])),(1,.inl (((-2147483648),2147483647,1),none)),(2,.inl ((10,12,1),none))],[],[]),(61,[]),0)]
set_option maxRecDepth 100000 in
theorem q552_ok : rf_chkB q552_P q552_U wLay q552_M ddX9_mostOf [(15,[0]),(26,[1]),(53,[1]),(67,[2]),(84,[1])] [] [0] 600 q552_N = true := by decide +kernel
set_option maxHeartbeats 4000000 in
theorem q552_met {G : rfG} (h : okG G) : rf_met G q552_M := rf_methodB h.1 (P := q552_P) (U := q552_U) (N := q552_N) ⟨wflT h flokX9, wcsT h csokX9, wlcT h lcokX9, spokX9 h, List.forall_mem_cons.mpr ⟨q493_met h, List.forall_mem_cons.mpr ⟨q551_met h, List.forall_mem_cons.mpr ⟨q513_met h, fun _ h => absurd h List.not_mem_nil⟩⟩⟩, List.forall_mem_cons.mpr ⟨fun M hM => Option.some.inj (show some q513_M = some M from hM) ▸ wlkS (lkX9_76 h) q513_M rfl rfl, fun _ h => absurd h List.not_mem_nil⟩, List.forall_mem_cons.mpr ⟨fun M hM => Option.some.inj (show some q493_M = some M from hM) ▸ wlkV (lkX9_50 h) q493_M rfl rfl, List.forall_mem_cons.mpr ⟨fun M hM => Option.some.inj (show some q551_M = some M from hM) ▸ wlkV (lkX9_72 h) q551_M rfl rfl, fun _ h => absurd h List.not_mem_nil⟩⟩, fun _ h => absurd h List.not_mem_nil, List.forall_mem_cons.mpr ⟨⟨wmT h (wm130), fun _ => ⟨wmT h (wm1202), wmT h (wm652), wmT h (wm653)⟩, fun h => absurd h (by decide), fun h => absurd h (by decide)⟩, fun _ h => absurd h List.not_mem_nil⟩⟩ dkX9_mostOf (by decide +kernel) (by rw [h.2.2.1]; exact q552_ok)
/-- NearSpell.Web.mostOf -/
def q553_M : rfM := ((⟨"NearSpell$Web", "mostOf", "(II)I"⟩, prog_11_method_14_code, 5, (some .int)), (3,72), ([.inr (.inl [61]),.inl (((-2147483648),2147483647,1),none),.inl (((-1),2,1),none)],[]), [], [(some (.inl ((0,3,1),none)),[],[])])
def q553_P : rfP := (flX9,csX9,lcX9,spX9,[q493_M,q541_M,q513_M],[(76,2)],[(50,0,9),(72,1,9)],([],[(81,0)]))
def q553_U : rfU := []
set_option maxHeartbeats 8000000 in
def q553_N : List rfB := [(0,([(0,.inr (.inl [61])),(1,.inl (((-2147483648),2147483647,1),none)),(2,.inl (((-1),2,1),none))],[],[]),(63,[]),0)]
set_option maxRecDepth 100000 in
theorem q553_ok : rf_chkB q553_P q553_U wLay q553_M ddX9_mostOf [(15,[0]),(26,[1]),(53,[1]),(67,[2]),(84,[1])] [] [0] 600 q553_N = true := by decide +kernel
set_option maxHeartbeats 4000000 in
theorem q553_met {G : rfG} (h : okG G) : rf_met G q553_M := rf_methodB h.1 (P := q553_P) (U := q553_U) (N := q553_N) ⟨wflT h flokX9, wcsT h csokX9, wlcT h lcokX9, spokX9 h, List.forall_mem_cons.mpr ⟨q493_met h, List.forall_mem_cons.mpr ⟨q541_met h, List.forall_mem_cons.mpr ⟨q513_met h, fun _ h => absurd h List.not_mem_nil⟩⟩⟩, List.forall_mem_cons.mpr ⟨fun M hM => Option.some.inj (show some q513_M = some M from hM) ▸ wlkS (lkX9_76 h) q513_M rfl rfl, fun _ h => absurd h List.not_mem_nil⟩, List.forall_mem_cons.mpr ⟨fun M hM => Option.some.inj (show some q493_M = some M from hM) ▸ wlkV (lkX9_50 h) q493_M rfl rfl, List.forall_mem_cons.mpr ⟨fun M hM => Option.some.inj (show some q541_M = some M from hM) ▸ wlkV (lkX9_72 h) q541_M rfl rfl, fun _ h => absurd h List.not_mem_nil⟩⟩, fun _ h => absurd h List.not_mem_nil, List.forall_mem_cons.mpr ⟨⟨wmT h (wm130), fun _ => ⟨wmT h (wm1202), wmT h (wm652), wmT h (wm653)⟩, fun h => absurd h (by decide), fun h => absurd h (by decide)⟩, fun _ h => absurd h List.not_mem_nil⟩⟩ dkX9_mostOf (by decide +kernel) (by rw [h.2.2.1]; exact q553_ok)
/-- NearSpell.Web.mostOf -/
def q554_M : rfM := ((⟨"NearSpell$Web", "mostOf", "(II)I"⟩, prog_11_method_14_code, 5, (some .int)), (4,96), ([.inr (.inl [61]),.inl (((-2147483648),2147483647,1),none),.inl ((0,3,1),none)],[]), [], [(some (.inl ((0,4,1),none)),[],[])])
def q554_P : rfP := (flX9,csX9,lcX9,spX9,[q493_M,q553_M,q513_M],[(76,2)],[(50,0,9),(72,1,9)],([],[(81,0)]))
def q554_U : rfU := []
set_option maxHeartbeats 8000000 in
def q554_N : List rfB := [(0,([(0,.inr (.inl [61])),(1,.inl (((-2147483648),2147483647,1),none)),(2,.inl ((0,3,1),none))],[],[]),(61,[]),0)]
set_option maxRecDepth 100000 in
theorem q554_ok : rf_chkB q554_P q554_U wLay q554_M ddX9_mostOf [(15,[0]),(26,[1]),(53,[1]),(67,[2]),(84,[1])] [] [0] 600 q554_N = true := by decide +kernel
set_option maxHeartbeats 4000000 in
theorem q554_met {G : rfG} (h : okG G) : rf_met G q554_M := rf_methodB h.1 (P := q554_P) (U := q554_U) (N := q554_N) ⟨wflT h flokX9, wcsT h csokX9, wlcT h lcokX9, spokX9 h, List.forall_mem_cons.mpr ⟨q493_met h, List.forall_mem_cons.mpr ⟨q553_met h, List.forall_mem_cons.mpr ⟨q513_met h, fun _ h => absurd h List.not_mem_nil⟩⟩⟩, List.forall_mem_cons.mpr ⟨fun M hM => Option.some.inj (show some q513_M = some M from hM) ▸ wlkS (lkX9_76 h) q513_M rfl rfl, fun _ h => absurd h List.not_mem_nil⟩, List.forall_mem_cons.mpr ⟨fun M hM => Option.some.inj (show some q493_M = some M from hM) ▸ wlkV (lkX9_50 h) q493_M rfl rfl, List.forall_mem_cons.mpr ⟨fun M hM => Option.some.inj (show some q553_M = some M from hM) ▸ wlkV (lkX9_72 h) q553_M rfl rfl, fun _ h => absurd h List.not_mem_nil⟩⟩, fun _ h => absurd h List.not_mem_nil, List.forall_mem_cons.mpr ⟨⟨wmT h (wm130), fun _ => ⟨wmT h (wm1202), wmT h (wm652), wmT h (wm653)⟩, fun h => absurd h (by decide), fun h => absurd h (by decide)⟩, fun _ h => absurd h List.not_mem_nil⟩⟩ dkX9_mostOf (by decide +kernel) (by rw [h.2.2.1]; exact q554_ok)
/-- NearSpell.Web.mostOf -/
def q555_M : rfM := ((⟨"NearSpell$Web", "mostOf", "(II)I"⟩, prog_11_method_14_code, 5, (some .int)), (5,120), ([.inr (.inl [61]),.inl (((-2147483648),2147483647,1),none),.inl ((1,4,1),none)],[]), [], [(some (.inl ((0,5,1),none)),[],[])])
def q555_P : rfP := (flX9,csX9,lcX9,spX9,[q493_M,q554_M,q513_M],[(76,2)],[(50,0,9),(72,1,9)],([],[(81,0)]))
def q555_U : rfU := []
set_option maxHeartbeats 8000000 in
def q555_N : List rfB := [(0,([(0,.inr (.inl [61])),(1,.inl (((-2147483648),2147483647,1),none)),(2,.inl ((1,4,1),none))],[],[]),(61,[]),0)]
set_option maxRecDepth 100000 in
theorem q555_ok : rf_chkB q555_P q555_U wLay q555_M ddX9_mostOf [(15,[0]),(26,[1]),(53,[1]),(67,[2]),(84,[1])] [] [0] 600 q555_N = true := by decide +kernel
set_option maxHeartbeats 4000000 in
theorem q555_met {G : rfG} (h : okG G) : rf_met G q555_M := rf_methodB h.1 (P := q555_P) (U := q555_U) (N := q555_N) ⟨wflT h flokX9, wcsT h csokX9, wlcT h lcokX9, spokX9 h, List.forall_mem_cons.mpr ⟨q493_met h, List.forall_mem_cons.mpr ⟨q554_met h, List.forall_mem_cons.mpr ⟨q513_met h, fun _ h => absurd h List.not_mem_nil⟩⟩⟩, List.forall_mem_cons.mpr ⟨fun M hM => Option.some.inj (show some q513_M = some M from hM) ▸ wlkS (lkX9_76 h) q513_M rfl rfl, fun _ h => absurd h List.not_mem_nil⟩, List.forall_mem_cons.mpr ⟨fun M hM => Option.some.inj (show some q493_M = some M from hM) ▸ wlkV (lkX9_50 h) q493_M rfl rfl, List.forall_mem_cons.mpr ⟨fun M hM => Option.some.inj (show some q554_M = some M from hM) ▸ wlkV (lkX9_72 h) q554_M rfl rfl, fun _ h => absurd h List.not_mem_nil⟩⟩, fun _ h => absurd h List.not_mem_nil, List.forall_mem_cons.mpr ⟨⟨wmT h (wm130), fun _ => ⟨wmT h (wm1202), wmT h (wm652), wmT h (wm653)⟩, fun h => absurd h (by decide), fun h => absurd h (by decide)⟩, fun _ h => absurd h List.not_mem_nil⟩⟩ dkX9_mostOf (by decide +kernel) (by rw [h.2.2.1]; exact q555_ok)
/-- NearSpell.Web.mostOf -/
def q556_M : rfM := ((⟨"NearSpell$Web", "mostOf", "(II)I"⟩, prog_11_method_14_code, 5, (some .int)), (6,144), ([.inr (.inl [61]),.inl (((-2147483648),2147483647,1),none),.inl ((2,5,1),none)],[]), [], [(some (.inl ((0,6,1),none)),[],[])])
def q556_P : rfP := (flX9,csX9,lcX9,spX9,[q493_M,q555_M,q513_M],[(76,2)],[(50,0,9),(72,1,9)],([],[(81,0)]))
def q556_U : rfU := []
set_option maxHeartbeats 8000000 in
def q556_N : List rfB := [(0,([(0,.inr (.inl [61])),(1,.inl (((-2147483648),2147483647,1),none)),(2,.inl ((2,5,1),none))],[],[]),(61,[]),0)]
set_option maxRecDepth 100000 in
theorem q556_ok : rf_chkB q556_P q556_U wLay q556_M ddX9_mostOf [(15,[0]),(26,[1]),(53,[1]),(67,[2]),(84,[1])] [] [0] 600 q556_N = true := by decide +kernel
set_option maxHeartbeats 4000000 in
theorem q556_met {G : rfG} (h : okG G) : rf_met G q556_M := rf_methodB h.1 (P := q556_P) (U := q556_U) (N := q556_N) ⟨wflT h flokX9, wcsT h csokX9, wlcT h lcokX9, spokX9 h, List.forall_mem_cons.mpr ⟨q493_met h, List.forall_mem_cons.mpr ⟨q555_met h, List.forall_mem_cons.mpr ⟨q513_met h, fun _ h => absurd h List.not_mem_nil⟩⟩⟩, List.forall_mem_cons.mpr ⟨fun M hM => Option.some.inj (show some q513_M = some M from hM) ▸ wlkS (lkX9_76 h) q513_M rfl rfl, fun _ h => absurd h List.not_mem_nil⟩, List.forall_mem_cons.mpr ⟨fun M hM => Option.some.inj (show some q493_M = some M from hM) ▸ wlkV (lkX9_50 h) q493_M rfl rfl, List.forall_mem_cons.mpr ⟨fun M hM => Option.some.inj (show some q555_M = some M from hM) ▸ wlkV (lkX9_72 h) q555_M rfl rfl, fun _ h => absurd h List.not_mem_nil⟩⟩, fun _ h => absurd h List.not_mem_nil, List.forall_mem_cons.mpr ⟨⟨wmT h (wm130), fun _ => ⟨wmT h (wm1202), wmT h (wm652), wmT h (wm653)⟩, fun h => absurd h (by decide), fun h => absurd h (by decide)⟩, fun _ h => absurd h List.not_mem_nil⟩⟩ dkX9_mostOf (by decide +kernel) (by rw [h.2.2.1]; exact q556_ok)
/-- NearSpell.Web.mostOf -/
def q557_M : rfM := ((⟨"NearSpell$Web", "mostOf", "(II)I"⟩, prog_11_method_14_code, 5, (some .int)), (7,168), ([.inr (.inl [61]),.inl (((-2147483648),2147483647,1),none),.inl ((3,6,1),none)],[]), [], [(some (.inl ((0,7,1),none)),[],[])])
def q557_P : rfP := (flX9,csX9,lcX9,spX9,[q493_M,q556_M,q513_M],[(76,2)],[(50,0,9),(72,1,9)],([],[(81,0)]))
def q557_U : rfU := []
set_option maxHeartbeats 8000000 in
def q557_N : List rfB := [(0,([(0,.inr (.inl [61])),(1,.inl (((-2147483648),2147483647,1),none)),(2,.inl ((3,6,1),none))],[],[]),(61,[]),0)]
set_option maxRecDepth 100000 in
theorem q557_ok : rf_chkB q557_P q557_U wLay q557_M ddX9_mostOf [(15,[0]),(26,[1]),(53,[1]),(67,[2]),(84,[1])] [] [0] 600 q557_N = true := by decide +kernel
set_option maxHeartbeats 4000000 in
theorem q557_met {G : rfG} (h : okG G) : rf_met G q557_M := rf_methodB h.1 (P := q557_P) (U := q557_U) (N := q557_N) ⟨wflT h flokX9, wcsT h csokX9, wlcT h lcokX9, spokX9 h, List.forall_mem_cons.mpr ⟨q493_met h, List.forall_mem_cons.mpr ⟨q556_met h, List.forall_mem_cons.mpr ⟨q513_met h, fun _ h => absurd h List.not_mem_nil⟩⟩⟩, List.forall_mem_cons.mpr ⟨fun M hM => Option.some.inj (show some q513_M = some M from hM) ▸ wlkS (lkX9_76 h) q513_M rfl rfl, fun _ h => absurd h List.not_mem_nil⟩, List.forall_mem_cons.mpr ⟨fun M hM => Option.some.inj (show some q493_M = some M from hM) ▸ wlkV (lkX9_50 h) q493_M rfl rfl, List.forall_mem_cons.mpr ⟨fun M hM => Option.some.inj (show some q556_M = some M from hM) ▸ wlkV (lkX9_72 h) q556_M rfl rfl, fun _ h => absurd h List.not_mem_nil⟩⟩, fun _ h => absurd h List.not_mem_nil, List.forall_mem_cons.mpr ⟨⟨wmT h (wm130), fun _ => ⟨wmT h (wm1202), wmT h (wm652), wmT h (wm653)⟩, fun h => absurd h (by decide), fun h => absurd h (by decide)⟩, fun _ h => absurd h List.not_mem_nil⟩⟩ dkX9_mostOf (by decide +kernel) (by rw [h.2.2.1]; exact q557_ok)
/-- NearSpell.Web.mostOf -/
def q558_M : rfM := ((⟨"NearSpell$Web", "mostOf", "(II)I"⟩, prog_11_method_14_code, 5, (some .int)), (8,192), ([.inr (.inl [61]),.inl (((-2147483648),2147483647,1),none),.inl ((4,7,1),none)],[]), [], [(some (.inl ((0,8,1),none)),[],[])])
def q558_P : rfP := (flX9,csX9,lcX9,spX9,[q493_M,q557_M,q513_M],[(76,2)],[(50,0,9),(72,1,9)],([],[(81,0)]))
def q558_U : rfU := []
set_option maxHeartbeats 8000000 in
def q558_N : List rfB := [(0,([(0,.inr (.inl [61])),(1,.inl (((-2147483648),2147483647,1),none)),(2,.inl ((4,7,1),none))],[],[]),(61,[]),0)]
set_option maxRecDepth 100000 in
theorem q558_ok : rf_chkB q558_P q558_U wLay q558_M ddX9_mostOf [(15,[0]),(26,[1]),(53,[1]),(67,[2]),(84,[1])] [] [0] 600 q558_N = true := by decide +kernel
set_option maxHeartbeats 4000000 in
theorem q558_met {G : rfG} (h : okG G) : rf_met G q558_M := rf_methodB h.1 (P := q558_P) (U := q558_U) (N := q558_N) ⟨wflT h flokX9, wcsT h csokX9, wlcT h lcokX9, spokX9 h, List.forall_mem_cons.mpr ⟨q493_met h, List.forall_mem_cons.mpr ⟨q557_met h, List.forall_mem_cons.mpr ⟨q513_met h, fun _ h => absurd h List.not_mem_nil⟩⟩⟩, List.forall_mem_cons.mpr ⟨fun M hM => Option.some.inj (show some q513_M = some M from hM) ▸ wlkS (lkX9_76 h) q513_M rfl rfl, fun _ h => absurd h List.not_mem_nil⟩, List.forall_mem_cons.mpr ⟨fun M hM => Option.some.inj (show some q493_M = some M from hM) ▸ wlkV (lkX9_50 h) q493_M rfl rfl, List.forall_mem_cons.mpr ⟨fun M hM => Option.some.inj (show some q557_M = some M from hM) ▸ wlkV (lkX9_72 h) q557_M rfl rfl, fun _ h => absurd h List.not_mem_nil⟩⟩, fun _ h => absurd h List.not_mem_nil, List.forall_mem_cons.mpr ⟨⟨wmT h (wm130), fun _ => ⟨wmT h (wm1202), wmT h (wm652), wmT h (wm653)⟩, fun h => absurd h (by decide), fun h => absurd h (by decide)⟩, fun _ h => absurd h List.not_mem_nil⟩⟩ dkX9_mostOf (by decide +kernel) (by rw [h.2.2.1]; exact q558_ok)
/-- NearSpell.Web.mostOf -/
def q559_M : rfM := ((⟨"NearSpell$Web", "mostOf", "(II)I"⟩, prog_11_method_14_code, 5, (some .int)), (9,216), ([.inr (.inl [61]),.inl (((-2147483648),2147483647,1),none),.inl ((5,8,1),none)],[]), [], [(some (.inl ((0,9,1),none)),[],[])])
def q559_P : rfP := (flX9,csX9,lcX9,spX9,[q493_M,q558_M,q513_M],[(76,2)],[(50,0,9),(72,1,9)],([],[(81,0)]))
def q559_U : rfU := []
set_option maxHeartbeats 8000000 in
def q559_N : List rfB := [(0,([(0,.inr (.inl [61])),(1,.inl (((-2147483648),2147483647,1),none)),(2,.inl ((5,8,1),none))],[],[]),(61,[]),0)]
set_option maxRecDepth 100000 in
theorem q559_ok : rf_chkB q559_P q559_U wLay q559_M ddX9_mostOf [(15,[0]),(26,[1]),(53,[1]),(67,[2]),(84,[1])] [] [0] 600 q559_N = true := by decide +kernel
set_option maxHeartbeats 4000000 in
theorem q559_met {G : rfG} (h : okG G) : rf_met G q559_M := rf_methodB h.1 (P := q559_P) (U := q559_U) (N := q559_N) ⟨wflT h flokX9, wcsT h csokX9, wlcT h lcokX9, spokX9 h, List.forall_mem_cons.mpr ⟨q493_met h, List.forall_mem_cons.mpr ⟨q558_met h, List.forall_mem_cons.mpr ⟨q513_met h, fun _ h => absurd h List.not_mem_nil⟩⟩⟩, List.forall_mem_cons.mpr ⟨fun M hM => Option.some.inj (show some q513_M = some M from hM) ▸ wlkS (lkX9_76 h) q513_M rfl rfl, fun _ h => absurd h List.not_mem_nil⟩, List.forall_mem_cons.mpr ⟨fun M hM => Option.some.inj (show some q493_M = some M from hM) ▸ wlkV (lkX9_50 h) q493_M rfl rfl, List.forall_mem_cons.mpr ⟨fun M hM => Option.some.inj (show some q558_M = some M from hM) ▸ wlkV (lkX9_72 h) q558_M rfl rfl, fun _ h => absurd h List.not_mem_nil⟩⟩, fun _ h => absurd h List.not_mem_nil, List.forall_mem_cons.mpr ⟨⟨wmT h (wm130), fun _ => ⟨wmT h (wm1202), wmT h (wm652), wmT h (wm653)⟩, fun h => absurd h (by decide), fun h => absurd h (by decide)⟩, fun _ h => absurd h List.not_mem_nil⟩⟩ dkX9_mostOf (by decide +kernel) (by rw [h.2.2.1]; exact q559_ok)
/-- NearSpell.Web.mostOf -/
def q560_M : rfM := ((⟨"NearSpell$Web", "mostOf", "(II)I"⟩, prog_11_method_14_code, 5, (some .int)), (10,240), ([.inr (.inl [61]),.inl (((-2147483648),2147483647,1),none),.inl ((6,9,1),none)],[]), [], [(some (.inl ((0,10,1),none)),[],[])])
def q560_P : rfP := (flX9,csX9,lcX9,spX9,[q493_M,q559_M,q513_M],[(76,2)],[(50,0,9),(72,1,9)],([],[(81,0)]))
def q560_U : rfU := []
set_option maxHeartbeats 8000000 in
def q560_N : List rfB := [(0,([(0,.inr (.inl [61])),(1,.inl (((-2147483648),2147483647,1),none)),(2,.inl ((6,9,1),none))],[],[]),(61,[]),0)]
set_option maxRecDepth 100000 in
theorem q560_ok : rf_chkB q560_P q560_U wLay q560_M ddX9_mostOf [(15,[0]),(26,[1]),(53,[1]),(67,[2]),(84,[1])] [] [0] 600 q560_N = true := by decide +kernel
set_option maxHeartbeats 4000000 in
theorem q560_met {G : rfG} (h : okG G) : rf_met G q560_M := rf_methodB h.1 (P := q560_P) (U := q560_U) (N := q560_N) ⟨wflT h flokX9, wcsT h csokX9, wlcT h lcokX9, spokX9 h, List.forall_mem_cons.mpr ⟨q493_met h, List.forall_mem_cons.mpr ⟨q559_met h, List.forall_mem_cons.mpr ⟨q513_met h, fun _ h => absurd h List.not_mem_nil⟩⟩⟩, List.forall_mem_cons.mpr ⟨fun M hM => Option.some.inj (show some q513_M = some M from hM) ▸ wlkS (lkX9_76 h) q513_M rfl rfl, fun _ h => absurd h List.not_mem_nil⟩, List.forall_mem_cons.mpr ⟨fun M hM => Option.some.inj (show some q493_M = some M from hM) ▸ wlkV (lkX9_50 h) q493_M rfl rfl, List.forall_mem_cons.mpr ⟨fun M hM => Option.some.inj (show some q559_M = some M from hM) ▸ wlkV (lkX9_72 h) q559_M rfl rfl, fun _ h => absurd h List.not_mem_nil⟩⟩, fun _ h => absurd h List.not_mem_nil, List.forall_mem_cons.mpr ⟨⟨wmT h (wm130), fun _ => ⟨wmT h (wm1202), wmT h (wm652), wmT h (wm653)⟩, fun h => absurd h (by decide), fun h => absurd h (by decide)⟩, fun _ h => absurd h List.not_mem_nil⟩⟩ dkX9_mostOf (by decide +kernel) (by rw [h.2.2.1]; exact q560_ok)
/-- NearSpell.Web.mostOf -/
def q561_M : rfM := ((⟨"NearSpell$Web", "mostOf", "(II)I"⟩, prog_11_method_14_code, 5, (some .int)), (11,264), ([.inr (.inl [61]),.inl (((-2147483648),2147483647,1),none),.inl ((7,10,1),none)],[]), [], [(some (.inl ((0,11,1),none)),[],[])])
def q561_P : rfP := (flX9,csX9,lcX9,spX9,[q493_M,q560_M,q513_M],[(76,2)],[(50,0,9),(72,1,9)],([],[(81,0)]))
def q561_U : rfU := []
set_option maxHeartbeats 8000000 in
def q561_N : List rfB := [(0,([(0,.inr (.inl [61])),(1,.inl (((-2147483648),2147483647,1),none)),(2,.inl ((7,10,1),none))],[],[]),(61,[]),0)]
set_option maxRecDepth 100000 in
theorem q561_ok : rf_chkB q561_P q561_U wLay q561_M ddX9_mostOf [(15,[0]),(26,[1]),(53,[1]),(67,[2]),(84,[1])] [] [0] 600 q561_N = true := by decide +kernel
set_option maxHeartbeats 4000000 in
theorem q561_met {G : rfG} (h : okG G) : rf_met G q561_M := rf_methodB h.1 (P := q561_P) (U := q561_U) (N := q561_N) ⟨wflT h flokX9, wcsT h csokX9, wlcT h lcokX9, spokX9 h, List.forall_mem_cons.mpr ⟨q493_met h, List.forall_mem_cons.mpr ⟨q560_met h, List.forall_mem_cons.mpr ⟨q513_met h, fun _ h => absurd h List.not_mem_nil⟩⟩⟩, List.forall_mem_cons.mpr ⟨fun M hM => Option.some.inj (show some q513_M = some M from hM) ▸ wlkS (lkX9_76 h) q513_M rfl rfl, fun _ h => absurd h List.not_mem_nil⟩, List.forall_mem_cons.mpr ⟨fun M hM => Option.some.inj (show some q493_M = some M from hM) ▸ wlkV (lkX9_50 h) q493_M rfl rfl, List.forall_mem_cons.mpr ⟨fun M hM => Option.some.inj (show some q560_M = some M from hM) ▸ wlkV (lkX9_72 h) q560_M rfl rfl, fun _ h => absurd h List.not_mem_nil⟩⟩, fun _ h => absurd h List.not_mem_nil, List.forall_mem_cons.mpr ⟨⟨wmT h (wm130), fun _ => ⟨wmT h (wm1202), wmT h (wm652), wmT h (wm653)⟩, fun h => absurd h (by decide), fun h => absurd h (by decide)⟩, fun _ h => absurd h List.not_mem_nil⟩⟩ dkX9_mostOf (by decide +kernel) (by rw [h.2.2.1]; exact q561_ok)
/-- NearSpell.Web.mostOf -/
def q562_M : rfM := ((⟨"NearSpell$Web", "mostOf", "(II)I"⟩, prog_11_method_14_code, 5, (some .int)), (12,288), ([.inr (.inl [61]),.inl (((-2147483648),2147483647,1),none),.inl ((8,11,1),none)],[]), [], [(some (.inl ((0,12,1),none)),[],[])])
def q562_P : rfP := (flX9,csX9,lcX9,spX9,[q493_M,q561_M,q513_M],[(76,2)],[(50,0,9),(72,1,9)],([],[(81,0)]))
def q562_U : rfU := []
set_option maxHeartbeats 8000000 in
def q562_N : List rfB := [(0,([(0,.inr (.inl [61])),(1,.inl (((-2147483648),2147483647,1),none)),(2,.inl ((8,11,1),none))],[],[]),(61,[]),0)]
set_option maxRecDepth 100000 in
theorem q562_ok : rf_chkB q562_P q562_U wLay q562_M ddX9_mostOf [(15,[0]),(26,[1]),(53,[1]),(67,[2]),(84,[1])] [] [0] 600 q562_N = true := by decide +kernel
set_option maxHeartbeats 4000000 in
theorem q562_met {G : rfG} (h : okG G) : rf_met G q562_M := rf_methodB h.1 (P := q562_P) (U := q562_U) (N := q562_N) ⟨wflT h flokX9, wcsT h csokX9, wlcT h lcokX9, spokX9 h, List.forall_mem_cons.mpr ⟨q493_met h, List.forall_mem_cons.mpr ⟨q561_met h, List.forall_mem_cons.mpr ⟨q513_met h, fun _ h => absurd h List.not_mem_nil⟩⟩⟩, List.forall_mem_cons.mpr ⟨fun M hM => Option.some.inj (show some q513_M = some M from hM) ▸ wlkS (lkX9_76 h) q513_M rfl rfl, fun _ h => absurd h List.not_mem_nil⟩, List.forall_mem_cons.mpr ⟨fun M hM => Option.some.inj (show some q493_M = some M from hM) ▸ wlkV (lkX9_50 h) q493_M rfl rfl, List.forall_mem_cons.mpr ⟨fun M hM => Option.some.inj (show some q561_M = some M from hM) ▸ wlkV (lkX9_72 h) q561_M rfl rfl, fun _ h => absurd h List.not_mem_nil⟩⟩, fun _ h => absurd h List.not_mem_nil, List.forall_mem_cons.mpr ⟨⟨wmT h (wm130), fun _ => ⟨wmT h (wm1202), wmT h (wm652), wmT h (wm653)⟩, fun h => absurd h (by decide), fun h => absurd h (by decide)⟩, fun _ h => absurd h List.not_mem_nil⟩⟩ dkX9_mostOf (by decide +kernel) (by rw [h.2.2.1]; exact q562_ok)
/-- NearSpell.Web.mostOf -/
def q563_M : rfM := ((⟨"NearSpell$Web", "mostOf", "(II)I"⟩, prog_11_method_14_code, 5, (some .int)), (13,312), ([.inr (.inl [61]),.inl (((-2147483648),2147483647,1),none),.inl ((9,12,1),none)],[]), [], [(some (.inl ((0,13,1),none)),[],[])])
def q563_P : rfP := (flX9,csX9,lcX9,spX9,[q493_M,q562_M,q513_M],[(76,2)],[(50,0,9),(72,1,9)],([],[(81,0)]))
def q563_U : rfU := []
set_option maxHeartbeats 8000000 in
def q563_N : List rfB := [(0,([(0,.inr (.inl [61])),(1,.inl (((-2147483648),2147483647,1),none)),(2,.inl ((9,12,1),none))],[],[]),(61,[]),0)]
set_option maxRecDepth 100000 in
theorem q563_ok : rf_chkB q563_P q563_U wLay q563_M ddX9_mostOf [(15,[0]),(26,[1]),(53,[1]),(67,[2]),(84,[1])] [] [0] 600 q563_N = true := by decide +kernel
set_option maxHeartbeats 4000000 in
theorem q563_met {G : rfG} (h : okG G) : rf_met G q563_M := rf_methodB h.1 (P := q563_P) (U := q563_U) (N := q563_N) ⟨wflT h flokX9, wcsT h csokX9, wlcT h lcokX9, spokX9 h, List.forall_mem_cons.mpr ⟨q493_met h, List.forall_mem_cons.mpr ⟨q562_met h, List.forall_mem_cons.mpr ⟨q513_met h, fun _ h => absurd h List.not_mem_nil⟩⟩⟩, List.forall_mem_cons.mpr ⟨fun M hM => Option.some.inj (show some q513_M = some M from hM) ▸ wlkS (lkX9_76 h) q513_M rfl rfl, fun _ h => absurd h List.not_mem_nil⟩, List.forall_mem_cons.mpr ⟨fun M hM => Option.some.inj (show some q493_M = some M from hM) ▸ wlkV (lkX9_50 h) q493_M rfl rfl, List.forall_mem_cons.mpr ⟨fun M hM => Option.some.inj (show some q562_M = some M from hM) ▸ wlkV (lkX9_72 h) q562_M rfl rfl, fun _ h => absurd h List.not_mem_nil⟩⟩, fun _ h => absurd h List.not_mem_nil, List.forall_mem_cons.mpr ⟨⟨wmT h (wm130), fun _ => ⟨wmT h (wm1202), wmT h (wm652), wmT h (wm653)⟩, fun h => absurd h (by decide), fun h => absurd h (by decide)⟩, fun _ h => absurd h List.not_mem_nil⟩⟩ dkX9_mostOf (by decide +kernel) (by rw [h.2.2.1]; exact q563_ok)
/-- NearSpell.Web.mostOf -/
def q564_M : rfM := ((⟨"NearSpell$Web", "mostOf", "(II)I"⟩, prog_11_method_14_code, 5, (some .int)), (4,96), ([.inr (.inl [61]),.inl (((-2147483648),2147483647,1),none),.inl (((-1),3,1),none)],[]), [], [(some (.inl ((0,4,1),none)),[],[])])
def q564_P : rfP := (flX9,csX9,lcX9,spX9,[q493_M,q553_M,q513_M],[(76,2)],[(50,0,9),(72,1,9)],([],[(81,0)]))
def q564_U : rfU := []
set_option maxHeartbeats 8000000 in
def q564_N : List rfB := [(0,([(0,.inr (.inl [61])),(1,.inl (((-2147483648),2147483647,1),none)),(2,.inl (((-1),3,1),none))],[],[]),(63,[]),0)]
set_option maxRecDepth 100000 in
theorem q564_ok : rf_chkB q564_P q564_U wLay q564_M ddX9_mostOf [(15,[0]),(26,[1]),(53,[1]),(67,[2]),(84,[1])] [] [0] 600 q564_N = true := by decide +kernel
set_option maxHeartbeats 4000000 in
theorem q564_met {G : rfG} (h : okG G) : rf_met G q564_M := rf_methodB h.1 (P := q564_P) (U := q564_U) (N := q564_N) ⟨wflT h flokX9, wcsT h csokX9, wlcT h lcokX9, spokX9 h, List.forall_mem_cons.mpr ⟨q493_met h, List.forall_mem_cons.mpr ⟨q553_met h, List.forall_mem_cons.mpr ⟨q513_met h, fun _ h => absurd h List.not_mem_nil⟩⟩⟩, List.forall_mem_cons.mpr ⟨fun M hM => Option.some.inj (show some q513_M = some M from hM) ▸ wlkS (lkX9_76 h) q513_M rfl rfl, fun _ h => absurd h List.not_mem_nil⟩, List.forall_mem_cons.mpr ⟨fun M hM => Option.some.inj (show some q493_M = some M from hM) ▸ wlkV (lkX9_50 h) q493_M rfl rfl, List.forall_mem_cons.mpr ⟨fun M hM => Option.some.inj (show some q553_M = some M from hM) ▸ wlkV (lkX9_72 h) q553_M rfl rfl, fun _ h => absurd h List.not_mem_nil⟩⟩, fun _ h => absurd h List.not_mem_nil, List.forall_mem_cons.mpr ⟨⟨wmT h (wm130), fun _ => ⟨wmT h (wm1202), wmT h (wm652), wmT h (wm653)⟩, fun h => absurd h (by decide), fun h => absurd h (by decide)⟩, fun _ h => absurd h List.not_mem_nil⟩⟩ dkX9_mostOf (by decide +kernel) (by rw [h.2.2.1]; exact q564_ok)
/-- NearSpell.Web.mostOf -/
def q565_M : rfM := ((⟨"NearSpell$Web", "mostOf", "(II)I"⟩, prog_11_method_14_code, 5, (some .int)), (5,120), ([.inr (.inl [61]),.inl (((-2147483648),2147483647,1),none),.inl (((-1),4,1),none)],[]), [], [(some (.inl ((0,5,1),none)),[],[])])
def q565_P : rfP := (flX9,csX9,lcX9,spX9,[q493_M,q564_M,q513_M],[(76,2)],[(50,0,9),(72,1,9)],([],[(81,0)]))
def q565_U : rfU := []
set_option maxHeartbeats 8000000 in
def q565_N : List rfB := [(0,([(0,.inr (.inl [61])),(1,.inl (((-2147483648),2147483647,1),none)),(2,.inl (((-1),4,1),none))],[],[]),(63,[]),0)]
set_option maxRecDepth 100000 in
theorem q565_ok : rf_chkB q565_P q565_U wLay q565_M ddX9_mostOf [(15,[0]),(26,[1]),(53,[1]),(67,[2]),(84,[1])] [] [0] 600 q565_N = true := by decide +kernel
set_option maxHeartbeats 4000000 in
theorem q565_met {G : rfG} (h : okG G) : rf_met G q565_M := rf_methodB h.1 (P := q565_P) (U := q565_U) (N := q565_N) ⟨wflT h flokX9, wcsT h csokX9, wlcT h lcokX9, spokX9 h, List.forall_mem_cons.mpr ⟨q493_met h, List.forall_mem_cons.mpr ⟨q564_met h, List.forall_mem_cons.mpr ⟨q513_met h, fun _ h => absurd h List.not_mem_nil⟩⟩⟩, List.forall_mem_cons.mpr ⟨fun M hM => Option.some.inj (show some q513_M = some M from hM) ▸ wlkS (lkX9_76 h) q513_M rfl rfl, fun _ h => absurd h List.not_mem_nil⟩, List.forall_mem_cons.mpr ⟨fun M hM => Option.some.inj (show some q493_M = some M from hM) ▸ wlkV (lkX9_50 h) q493_M rfl rfl, List.forall_mem_cons.mpr ⟨fun M hM => Option.some.inj (show some q564_M = some M from hM) ▸ wlkV (lkX9_72 h) q564_M rfl rfl, fun _ h => absurd h List.not_mem_nil⟩⟩, fun _ h => absurd h List.not_mem_nil, List.forall_mem_cons.mpr ⟨⟨wmT h (wm130), fun _ => ⟨wmT h (wm1202), wmT h (wm652), wmT h (wm653)⟩, fun h => absurd h (by decide), fun h => absurd h (by decide)⟩, fun _ h => absurd h List.not_mem_nil⟩⟩ dkX9_mostOf (by decide +kernel) (by rw [h.2.2.1]; exact q565_ok)
/-- NearSpell.Web.mostOf -/
def q566_M : rfM := ((⟨"NearSpell$Web", "mostOf", "(II)I"⟩, prog_11_method_14_code, 5, (some .int)), (6,144), ([.inr (.inl [61]),.inl (((-2147483648),2147483647,1),none),.inl (((-1),5,1),none)],[]), [], [(some (.inl ((0,6,1),none)),[],[])])
def q566_P : rfP := (flX9,csX9,lcX9,spX9,[q493_M,q565_M,q513_M],[(76,2)],[(50,0,9),(72,1,9)],([],[(81,0)]))
def q566_U : rfU := []
set_option maxHeartbeats 8000000 in
def q566_N : List rfB := [(0,([(0,.inr (.inl [61])),(1,.inl (((-2147483648),2147483647,1),none)),(2,.inl (((-1),5,1),none))],[],[]),(63,[]),0)]
set_option maxRecDepth 100000 in
theorem q566_ok : rf_chkB q566_P q566_U wLay q566_M ddX9_mostOf [(15,[0]),(26,[1]),(53,[1]),(67,[2]),(84,[1])] [] [0] 600 q566_N = true := by decide +kernel
set_option maxHeartbeats 4000000 in
theorem q566_met {G : rfG} (h : okG G) : rf_met G q566_M := rf_methodB h.1 (P := q566_P) (U := q566_U) (N := q566_N) ⟨wflT h flokX9, wcsT h csokX9, wlcT h lcokX9, spokX9 h, List.forall_mem_cons.mpr ⟨q493_met h, List.forall_mem_cons.mpr ⟨q565_met h, List.forall_mem_cons.mpr ⟨q513_met h, fun _ h => absurd h List.not_mem_nil⟩⟩⟩, List.forall_mem_cons.mpr ⟨fun M hM => Option.some.inj (show some q513_M = some M from hM) ▸ wlkS (lkX9_76 h) q513_M rfl rfl, fun _ h => absurd h List.not_mem_nil⟩, List.forall_mem_cons.mpr ⟨fun M hM => Option.some.inj (show some q493_M = some M from hM) ▸ wlkV (lkX9_50 h) q493_M rfl rfl, List.forall_mem_cons.mpr ⟨fun M hM => Option.some.inj (show some q565_M = some M from hM) ▸ wlkV (lkX9_72 h) q565_M rfl rfl, fun _ h => absurd h List.not_mem_nil⟩⟩, fun _ h => absurd h List.not_mem_nil, List.forall_mem_cons.mpr ⟨⟨wmT h (wm130), fun _ => ⟨wmT h (wm1202), wmT h (wm652), wmT h (wm653)⟩, fun h => absurd h (by decide), fun h => absurd h (by decide)⟩, fun _ h => absurd h List.not_mem_nil⟩⟩ dkX9_mostOf (by decide +kernel) (by rw [h.2.2.1]; exact q566_ok)
/-- NearSpell.Web.mostOf -/
def q567_M : rfM := ((⟨"NearSpell$Web", "mostOf", "(II)I"⟩, prog_11_method_14_code, 5, (some .int)), (7,168), ([.inr (.inl [61]),.inl (((-2147483648),2147483647,1),none),.inl (((-1),6,1),none)],[]), [], [(some (.inl ((0,7,1),none)),[],[])])
def q567_P : rfP := (flX9,csX9,lcX9,spX9,[q493_M,q566_M,q513_M],[(76,2)],[(50,0,9),(72,1,9)],([],[(81,0)]))
def q567_U : rfU := []
set_option maxHeartbeats 8000000 in
def q567_N : List rfB := [(0,([(0,.inr (.inl [61])),(1,.inl (((-2147483648),2147483647,1),none)),(2,.inl (((-1),6,1),none))],[],[]),(63,[]),0)]
set_option maxRecDepth 100000 in
theorem q567_ok : rf_chkB q567_P q567_U wLay q567_M ddX9_mostOf [(15,[0]),(26,[1]),(53,[1]),(67,[2]),(84,[1])] [] [0] 600 q567_N = true := by decide +kernel
set_option maxHeartbeats 4000000 in
theorem q567_met {G : rfG} (h : okG G) : rf_met G q567_M := rf_methodB h.1 (P := q567_P) (U := q567_U) (N := q567_N) ⟨wflT h flokX9, wcsT h csokX9, wlcT h lcokX9, spokX9 h, List.forall_mem_cons.mpr ⟨q493_met h, List.forall_mem_cons.mpr ⟨q566_met h, List.forall_mem_cons.mpr ⟨q513_met h, fun _ h => absurd h List.not_mem_nil⟩⟩⟩, List.forall_mem_cons.mpr ⟨fun M hM => Option.some.inj (show some q513_M = some M from hM) ▸ wlkS (lkX9_76 h) q513_M rfl rfl, fun _ h => absurd h List.not_mem_nil⟩, List.forall_mem_cons.mpr ⟨fun M hM => Option.some.inj (show some q493_M = some M from hM) ▸ wlkV (lkX9_50 h) q493_M rfl rfl, List.forall_mem_cons.mpr ⟨fun M hM => Option.some.inj (show some q566_M = some M from hM) ▸ wlkV (lkX9_72 h) q566_M rfl rfl, fun _ h => absurd h List.not_mem_nil⟩⟩, fun _ h => absurd h List.not_mem_nil, List.forall_mem_cons.mpr ⟨⟨wmT h (wm130), fun _ => ⟨wmT h (wm1202), wmT h (wm652), wmT h (wm653)⟩, fun h => absurd h (by decide), fun h => absurd h (by decide)⟩, fun _ h => absurd h List.not_mem_nil⟩⟩ dkX9_mostOf (by decide +kernel) (by rw [h.2.2.1]; exact q567_ok)
/-- NearSpell.Web.mostOf -/
def q568_M : rfM := ((⟨"NearSpell$Web", "mostOf", "(II)I"⟩, prog_11_method_14_code, 5, (some .int)), (8,192), ([.inr (.inl [61]),.inl (((-2147483648),2147483647,1),none),.inl (((-1),7,1),none)],[]), [], [(some (.inl ((0,8,1),none)),[],[])])
def q568_P : rfP := (flX9,csX9,lcX9,spX9,[q493_M,q567_M,q513_M],[(76,2)],[(50,0,9),(72,1,9)],([],[(81,0)]))
def q568_U : rfU := []
set_option maxHeartbeats 8000000 in
def q568_N : List rfB := [(0,([(0,.inr (.inl [61])),(1,.inl (((-2147483648),2147483647,1),none)),(2,.inl (((-1),7,1),none))],[],[]),(63,[]),0)]
set_option maxRecDepth 100000 in
theorem q568_ok : rf_chkB q568_P q568_U wLay q568_M ddX9_mostOf [(15,[0]),(26,[1]),(53,[1]),(67,[2]),(84,[1])] [] [0] 600 q568_N = true := by decide +kernel
set_option maxHeartbeats 4000000 in
theorem q568_met {G : rfG} (h : okG G) : rf_met G q568_M := rf_methodB h.1 (P := q568_P) (U := q568_U) (N := q568_N) ⟨wflT h flokX9, wcsT h csokX9, wlcT h lcokX9, spokX9 h, List.forall_mem_cons.mpr ⟨q493_met h, List.forall_mem_cons.mpr ⟨q567_met h, List.forall_mem_cons.mpr ⟨q513_met h, fun _ h => absurd h List.not_mem_nil⟩⟩⟩, List.forall_mem_cons.mpr ⟨fun M hM => Option.some.inj (show some q513_M = some M from hM) ▸ wlkS (lkX9_76 h) q513_M rfl rfl, fun _ h => absurd h List.not_mem_nil⟩, List.forall_mem_cons.mpr ⟨fun M hM => Option.some.inj (show some q493_M = some M from hM) ▸ wlkV (lkX9_50 h) q493_M rfl rfl, List.forall_mem_cons.mpr ⟨fun M hM => Option.some.inj (show some q567_M = some M from hM) ▸ wlkV (lkX9_72 h) q567_M rfl rfl, fun _ h => absurd h List.not_mem_nil⟩⟩, fun _ h => absurd h List.not_mem_nil, List.forall_mem_cons.mpr ⟨⟨wmT h (wm130), fun _ => ⟨wmT h (wm1202), wmT h (wm652), wmT h (wm653)⟩, fun h => absurd h (by decide), fun h => absurd h (by decide)⟩, fun _ h => absurd h List.not_mem_nil⟩⟩ dkX9_mostOf (by decide +kernel) (by rw [h.2.2.1]; exact q568_ok)
/-- NearSpell.Web.mostOf -/
def q569_M : rfM := ((⟨"NearSpell$Web", "mostOf", "(II)I"⟩, prog_11_method_14_code, 5, (some .int)), (9,216), ([.inr (.inl [61]),.inl (((-2147483648),2147483647,1),none),.inl (((-1),8,1),none)],[]), [], [(some (.inl ((0,9,1),none)),[],[])])
def q569_P : rfP := (flX9,csX9,lcX9,spX9,[q493_M,q568_M,q513_M],[(76,2)],[(50,0,9),(72,1,9)],([],[(81,0)]))
def q569_U : rfU := []
set_option maxHeartbeats 8000000 in
def q569_N : List rfB := [(0,([(0,.inr (.inl [61])),(1,.inl (((-2147483648),2147483647,1),none)),(2,.inl (((-1),8,1),none))],[],[]),(63,[]),0)]
set_option maxRecDepth 100000 in
theorem q569_ok : rf_chkB q569_P q569_U wLay q569_M ddX9_mostOf [(15,[0]),(26,[1]),(53,[1]),(67,[2]),(84,[1])] [] [0] 600 q569_N = true := by decide +kernel
set_option maxHeartbeats 4000000 in
theorem q569_met {G : rfG} (h : okG G) : rf_met G q569_M := rf_methodB h.1 (P := q569_P) (U := q569_U) (N := q569_N) ⟨wflT h flokX9, wcsT h csokX9, wlcT h lcokX9, spokX9 h, List.forall_mem_cons.mpr ⟨q493_met h, List.forall_mem_cons.mpr ⟨q568_met h, List.forall_mem_cons.mpr ⟨q513_met h, fun _ h => absurd h List.not_mem_nil⟩⟩⟩, List.forall_mem_cons.mpr ⟨fun M hM => Option.some.inj (show some q513_M = some M from hM) ▸ wlkS (lkX9_76 h) q513_M rfl rfl, fun _ h => absurd h List.not_mem_nil⟩, List.forall_mem_cons.mpr ⟨fun M hM => Option.some.inj (show some q493_M = some M from hM) ▸ wlkV (lkX9_50 h) q493_M rfl rfl, List.forall_mem_cons.mpr ⟨fun M hM => Option.some.inj (show some q568_M = some M from hM) ▸ wlkV (lkX9_72 h) q568_M rfl rfl, fun _ h => absurd h List.not_mem_nil⟩⟩, fun _ h => absurd h List.not_mem_nil, List.forall_mem_cons.mpr ⟨⟨wmT h (wm130), fun _ => ⟨wmT h (wm1202), wmT h (wm652), wmT h (wm653)⟩, fun h => absurd h (by decide), fun h => absurd h (by decide)⟩, fun _ h => absurd h List.not_mem_nil⟩⟩ dkX9_mostOf (by decide +kernel) (by rw [h.2.2.1]; exact q569_ok)
/-- NearSpell.Web.mostOf -/
def q570_M : rfM := ((⟨"NearSpell$Web", "mostOf", "(II)I"⟩, prog_11_method_14_code, 5, (some .int)), (10,240), ([.inr (.inl [61]),.inl (((-2147483648),2147483647,1),none),.inl (((-1),9,1),none)],[]), [], [(some (.inl ((0,10,1),none)),[],[])])
def q570_P : rfP := (flX9,csX9,lcX9,spX9,[q493_M,q569_M,q513_M],[(76,2)],[(50,0,9),(72,1,9)],([],[(81,0)]))
def q570_U : rfU := []
set_option maxHeartbeats 8000000 in
def q570_N : List rfB := [(0,([(0,.inr (.inl [61])),(1,.inl (((-2147483648),2147483647,1),none)),(2,.inl (((-1),9,1),none))],[],[]),(63,[]),0)]
set_option maxRecDepth 100000 in
theorem q570_ok : rf_chkB q570_P q570_U wLay q570_M ddX9_mostOf [(15,[0]),(26,[1]),(53,[1]),(67,[2]),(84,[1])] [] [0] 600 q570_N = true := by decide +kernel
set_option maxHeartbeats 4000000 in
theorem q570_met {G : rfG} (h : okG G) : rf_met G q570_M := rf_methodB h.1 (P := q570_P) (U := q570_U) (N := q570_N) ⟨wflT h flokX9, wcsT h csokX9, wlcT h lcokX9, spokX9 h, List.forall_mem_cons.mpr ⟨q493_met h, List.forall_mem_cons.mpr ⟨q569_met h, List.forall_mem_cons.mpr ⟨q513_met h, fun _ h => absurd h List.not_mem_nil⟩⟩⟩, List.forall_mem_cons.mpr ⟨fun M hM => Option.some.inj (show some q513_M = some M from hM) ▸ wlkS (lkX9_76 h) q513_M rfl rfl, fun _ h => absurd h List.not_mem_nil⟩, List.forall_mem_cons.mpr ⟨fun M hM => Option.some.inj (show some q493_M = some M from hM) ▸ wlkV (lkX9_50 h) q493_M rfl rfl, List.forall_mem_cons.mpr ⟨fun M hM => Option.some.inj (show some q569_M = some M from hM) ▸ wlkV (lkX9_72 h) q569_M rfl rfl, fun _ h => absurd h List.not_mem_nil⟩⟩, fun _ h => absurd h List.not_mem_nil, List.forall_mem_cons.mpr ⟨⟨wmT h (wm130), fun _ => ⟨wmT h (wm1202), wmT h (wm652), wmT h (wm653)⟩, fun h => absurd h (by decide), fun h => absurd h (by decide)⟩, fun _ h => absurd h List.not_mem_nil⟩⟩ dkX9_mostOf (by decide +kernel) (by rw [h.2.2.1]; exact q570_ok)
/-- NearSpell.Web.mostOf -/
def q571_M : rfM := ((⟨"NearSpell$Web", "mostOf", "(II)I"⟩, prog_11_method_14_code, 5, (some .int)), (11,264), ([.inr (.inl [61]),.inl (((-2147483648),2147483647,1),none),.inl (((-1),10,1),none)],[]), [], [(some (.inl ((0,11,1),none)),[],[])])
def q571_P : rfP := (flX9,csX9,lcX9,spX9,[q493_M,q570_M,q513_M],[(76,2)],[(50,0,9),(72,1,9)],([],[(81,0)]))
def q571_U : rfU := []
set_option maxHeartbeats 8000000 in
def q571_N : List rfB := [(0,([(0,.inr (.inl [61])),(1,.inl (((-2147483648),2147483647,1),none)),(2,.inl (((-1),10,1),none))],[],[]),(63,[]),0)]
set_option maxRecDepth 100000 in
theorem q571_ok : rf_chkB q571_P q571_U wLay q571_M ddX9_mostOf [(15,[0]),(26,[1]),(53,[1]),(67,[2]),(84,[1])] [] [0] 600 q571_N = true := by decide +kernel
set_option maxHeartbeats 4000000 in
theorem q571_met {G : rfG} (h : okG G) : rf_met G q571_M := rf_methodB h.1 (P := q571_P) (U := q571_U) (N := q571_N) ⟨wflT h flokX9, wcsT h csokX9, wlcT h lcokX9, spokX9 h, List.forall_mem_cons.mpr ⟨q493_met h, List.forall_mem_cons.mpr ⟨q570_met h, List.forall_mem_cons.mpr ⟨q513_met h, fun _ h => absurd h List.not_mem_nil⟩⟩⟩, List.forall_mem_cons.mpr ⟨fun M hM => Option.some.inj (show some q513_M = some M from hM) ▸ wlkS (lkX9_76 h) q513_M rfl rfl, fun _ h => absurd h List.not_mem_nil⟩, List.forall_mem_cons.mpr ⟨fun M hM => Option.some.inj (show some q493_M = some M from hM) ▸ wlkV (lkX9_50 h) q493_M rfl rfl, List.forall_mem_cons.mpr ⟨fun M hM => Option.some.inj (show some q570_M = some M from hM) ▸ wlkV (lkX9_72 h) q570_M rfl rfl, fun _ h => absurd h List.not_mem_nil⟩⟩, fun _ h => absurd h List.not_mem_nil, List.forall_mem_cons.mpr ⟨⟨wmT h (wm130), fun _ => ⟨wmT h (wm1202), wmT h (wm652), wmT h (wm653)⟩, fun h => absurd h (by decide), fun h => absurd h (by decide)⟩, fun _ h => absurd h List.not_mem_nil⟩⟩ dkX9_mostOf (by decide +kernel) (by rw [h.2.2.1]; exact q571_ok)
/-- NearSpell.Web.mostOf -/
def q572_M : rfM := ((⟨"NearSpell$Web", "mostOf", "(II)I"⟩, prog_11_method_14_code, 5, (some .int)), (12,288), ([.inr (.inl [61]),.inl (((-2147483648),2147483647,1),none),.inl ((0,11,1),none)],[]), [], [(some (.inl ((0,12,1),none)),[],[])])
def q572_P : rfP := (flX9,csX9,lcX9,spX9,[q493_M,q571_M,q513_M],[(76,2)],[(50,0,9),(72,1,9)],([],[(81,0)]))
def q572_U : rfU := []
set_option maxHeartbeats 8000000 in
def q572_N : List rfB := [(0,([(0,.inr (.inl [61])),(1,.inl (((-2147483648),2147483647,1),none)),(2,.inl ((0,11,1),none))],[],[]),(61,[]),0)]
set_option maxRecDepth 100000 in
theorem q572_ok : rf_chkB q572_P q572_U wLay q572_M ddX9_mostOf [(15,[0]),(26,[1]),(53,[1]),(67,[2]),(84,[1])] [] [0] 600 q572_N = true := by decide +kernel
set_option maxHeartbeats 4000000 in
theorem q572_met {G : rfG} (h : okG G) : rf_met G q572_M := rf_methodB h.1 (P := q572_P) (U := q572_U) (N := q572_N) ⟨wflT h flokX9, wcsT h csokX9, wlcT h lcokX9, spokX9 h, List.forall_mem_cons.mpr ⟨q493_met h, List.forall_mem_cons.mpr ⟨q571_met h, List.forall_mem_cons.mpr ⟨q513_met h, fun _ h => absurd h List.not_mem_nil⟩⟩⟩, List.forall_mem_cons.mpr ⟨fun M hM => Option.some.inj (show some q513_M = some M from hM) ▸ wlkS (lkX9_76 h) q513_M rfl rfl, fun _ h => absurd h List.not_mem_nil⟩, List.forall_mem_cons.mpr ⟨fun M hM => Option.some.inj (show some q493_M = some M from hM) ▸ wlkV (lkX9_50 h) q493_M rfl rfl, List.forall_mem_cons.mpr ⟨fun M hM => Option.some.inj (show some q571_M = some M from hM) ▸ wlkV (lkX9_72 h) q571_M rfl rfl, fun _ h => absurd h List.not_mem_nil⟩⟩, fun _ h => absurd h List.not_mem_nil, List.forall_mem_cons.mpr ⟨⟨wmT h (wm130), fun _ => ⟨wmT h (wm1202), wmT h (wm652), wmT h (wm653)⟩, fun h => absurd h (by decide), fun h => absurd h (by decide)⟩, fun _ h => absurd h List.not_mem_nil⟩⟩ dkX9_mostOf (by decide +kernel) (by rw [h.2.2.1]; exact q572_ok)
/-- NearSpell.Web.mostOf -/
def q573_M : rfM := ((⟨"NearSpell$Web", "mostOf", "(II)I"⟩, prog_11_method_14_code, 5, (some .int)), (13,312), ([.inr (.inl [61]),.inl (((-2147483648),2147483647,1),none),.inl ((1,12,1),none)],[]), [], [(some (.inl ((0,13,1),none)),[],[])])
def q573_P : rfP := (flX9,csX9,lcX9,spX9,[q493_M,q572_M,q513_M],[(76,2)],[(50,0,9),(72,1,9)],([],[(81,0)]))
def q573_U : rfU := []
set_option maxHeartbeats 8000000 in
def q573_N : List rfB := [(0,([(0,.inr (.inl [61])),(1,.inl (((-2147483648),2147483647,1),none)),(2,.inl ((1,12,1),none))],[],[]),(61,[]),0)]
set_option maxRecDepth 100000 in
theorem q573_ok : rf_chkB q573_P q573_U wLay q573_M ddX9_mostOf [(15,[0]),(26,[1]),(53,[1]),(67,[2]),(84,[1])] [] [0] 600 q573_N = true := by decide +kernel
set_option maxHeartbeats 4000000 in
theorem q573_met {G : rfG} (h : okG G) : rf_met G q573_M := rf_methodB h.1 (P := q573_P) (U := q573_U) (N := q573_N) ⟨wflT h flokX9, wcsT h csokX9, wlcT h lcokX9, spokX9 h, List.forall_mem_cons.mpr ⟨q493_met h, List.forall_mem_cons.mpr ⟨q572_met h, List.forall_mem_cons.mpr ⟨q513_met h, fun _ h => absurd h List.not_mem_nil⟩⟩⟩, List.forall_mem_cons.mpr ⟨fun M hM => Option.some.inj (show some q513_M = some M from hM) ▸ wlkS (lkX9_76 h) q513_M rfl rfl, fun _ h => absurd h List.not_mem_nil⟩, List.forall_mem_cons.mpr ⟨fun M hM => Option.some.inj (show some q493_M = some M from hM) ▸ wlkV (lkX9_50 h) q493_M rfl rfl, List.forall_mem_cons.mpr ⟨fun M hM => Option.some.inj (show some q572_M = some M from hM) ▸ wlkV (lkX9_72 h) q572_M rfl rfl, fun _ h => absurd h List.not_mem_nil⟩⟩, fun _ h => absurd h List.not_mem_nil, List.forall_mem_cons.mpr ⟨⟨wmT h (wm130), fun _ => ⟨wmT h (wm1202), wmT h (wm652), wmT h (wm653)⟩, fun h => absurd h (by decide), fun h => absurd h (by decide)⟩, fun _ h => absurd h List.not_mem_nil⟩⟩ dkX9_mostOf (by decide +kernel) (by rw [h.2.2.1]; exact q573_ok)
/-- NearSpell.Web.mostOf -/
def q574_M : rfM := ((⟨"NearSpell$Web", "mostOf", "(II)I"⟩, prog_11_method_14_code, 5, (some .int)), (12,288), ([.inr (.inl [61]),.inl (((-2147483648),2147483647,1),none),.inl (((-1),11,1),none)],[]), [], [(some (.inl ((0,12,1),none)),[],[])])
def q574_P : rfP := (flX9,csX9,lcX9,spX9,[q493_M,q571_M,q513_M],[(76,2)],[(50,0,9),(72,1,9)],([],[(81,0)]))
def q574_U : rfU := []
set_option maxHeartbeats 8000000 in
def q574_N : List rfB := [(0,([(0,.inr (.inl [61])),(1,.inl (((-2147483648),2147483647,1),none)),(2,.inl (((-1),11,1),none))],[],[]),(63,[]),0)]
set_option maxRecDepth 100000 in
theorem q574_ok : rf_chkB q574_P q574_U wLay q574_M ddX9_mostOf [(15,[0]),(26,[1]),(53,[1]),(67,[2]),(84,[1])] [] [0] 600 q574_N = true := by decide +kernel
set_option maxHeartbeats 4000000 in
theorem q574_met {G : rfG} (h : okG G) : rf_met G q574_M := rf_methodB h.1 (P := q574_P) (U := q574_U) (N := q574_N) ⟨wflT h flokX9, wcsT h csokX9, wlcT h lcokX9, spokX9 h, List.forall_mem_cons.mpr ⟨q493_met h, List.forall_mem_cons.mpr ⟨q571_met h, List.forall_mem_cons.mpr ⟨q513_met h, fun _ h => absurd h List.not_mem_nil⟩⟩⟩, List.forall_mem_cons.mpr ⟨fun M hM => Option.some.inj (show some q513_M = some M from hM) ▸ wlkS (lkX9_76 h) q513_M rfl rfl, fun _ h => absurd h List.not_mem_nil⟩, List.forall_mem_cons.mpr ⟨fun M hM => Option.some.inj (show some q493_M = some M from hM) ▸ wlkV (lkX9_50 h) q493_M rfl rfl, List.forall_mem_cons.mpr ⟨fun M hM => Option.some.inj (show some q571_M = some M from hM) ▸ wlkV (lkX9_72 h) q571_M rfl rfl, fun _ h => absurd h List.not_mem_nil⟩⟩, fun _ h => absurd h List.not_mem_nil, List.forall_mem_cons.mpr ⟨⟨wmT h (wm130), fun _ => ⟨wmT h (wm1202), wmT h (wm652), wmT h (wm653)⟩, fun h => absurd h (by decide), fun h => absurd h (by decide)⟩, fun _ h => absurd h List.not_mem_nil⟩⟩ dkX9_mostOf (by decide +kernel) (by rw [h.2.2.1]; exact q574_ok)
/-- NearSpell.Web.mostOf -/
def q575_M : rfM := ((⟨"NearSpell$Web", "mostOf", "(II)I"⟩, prog_11_method_14_code, 5, (some .int)), (13,312), ([.inr (.inl [61]),.inl (((-2147483648),2147483647,1),none),.inl ((0,12,1),none)],[]), [], [(some (.inl ((0,13,1),none)),[],[])])
def q575_P : rfP := (flX9,csX9,lcX9,spX9,[q493_M,q574_M,q513_M],[(76,2)],[(50,0,9),(72,1,9)],([],[(81,0)]))
def q575_U : rfU := []
set_option maxHeartbeats 8000000 in
def q575_N : List rfB := [(0,([(0,.inr (.inl [61])),(1,.inl (((-2147483648),2147483647,1),none)),(2,.inl ((0,12,1),none))],[],[]),(61,[]),0)]
set_option maxRecDepth 100000 in
theorem q575_ok : rf_chkB q575_P q575_U wLay q575_M ddX9_mostOf [(15,[0]),(26,[1]),(53,[1]),(67,[2]),(84,[1])] [] [0] 600 q575_N = true := by decide +kernel
set_option maxHeartbeats 4000000 in
theorem q575_met {G : rfG} (h : okG G) : rf_met G q575_M := rf_methodB h.1 (P := q575_P) (U := q575_U) (N := q575_N) ⟨wflT h flokX9, wcsT h csokX9, wlcT h lcokX9, spokX9 h, List.forall_mem_cons.mpr ⟨q493_met h, List.forall_mem_cons.mpr ⟨q574_met h, List.forall_mem_cons.mpr ⟨q513_met h, fun _ h => absurd h List.not_mem_nil⟩⟩⟩, List.forall_mem_cons.mpr ⟨fun M hM => Option.some.inj (show some q513_M = some M from hM) ▸ wlkS (lkX9_76 h) q513_M rfl rfl, fun _ h => absurd h List.not_mem_nil⟩, List.forall_mem_cons.mpr ⟨fun M hM => Option.some.inj (show some q493_M = some M from hM) ▸ wlkV (lkX9_50 h) q493_M rfl rfl, List.forall_mem_cons.mpr ⟨fun M hM => Option.some.inj (show some q574_M = some M from hM) ▸ wlkV (lkX9_72 h) q574_M rfl rfl, fun _ h => absurd h List.not_mem_nil⟩⟩, fun _ h => absurd h List.not_mem_nil, List.forall_mem_cons.mpr ⟨⟨wmT h (wm130), fun _ => ⟨wmT h (wm1202), wmT h (wm652), wmT h (wm653)⟩, fun h => absurd h (by decide), fun h => absurd h (by decide)⟩, fun _ h => absurd h List.not_mem_nil⟩⟩ dkX9_mostOf (by decide +kernel) (by rw [h.2.2.1]; exact q575_ok)
/-- NearSpell.Web.mostOf -/
def q576_M : rfM := ((⟨"NearSpell$Web", "mostOf", "(II)I"⟩, prog_11_method_14_code, 5, (some .int)), (13,312), ([.inr (.inl [61]),.inl (((-2147483648),2147483647,1),none),.inl (((-1),12,1),none)],[]), [], [(some (.inl ((0,13,1),none)),[],[])])
def q576_P : rfP := (flX9,csX9,lcX9,spX9,[q493_M,q574_M,q513_M],[(76,2)],[(50,0,9),(72,1,9)],([],[(81,0)]))
def q576_U : rfU := []
set_option maxHeartbeats 8000000 in
def q576_N : List rfB := [(0,([(0,.inr (.inl [61])),(1,.inl (((-2147483648),2147483647,1),none)),(2,.inl (((-1),12,1),none))],[],[]),(63,[]),0)]
set_option maxRecDepth 100000 in
theorem q576_ok : rf_chkB q576_P q576_U wLay q576_M ddX9_mostOf [(15,[0]),(26,[1]),(53,[1]),(67,[2]),(84,[1])] [] [0] 600 q576_N = true := by decide +kernel
set_option maxHeartbeats 4000000 in
theorem q576_met {G : rfG} (h : okG G) : rf_met G q576_M := rf_methodB h.1 (P := q576_P) (U := q576_U) (N := q576_N) ⟨wflT h flokX9, wcsT h csokX9, wlcT h lcokX9, spokX9 h, List.forall_mem_cons.mpr ⟨q493_met h, List.forall_mem_cons.mpr ⟨q574_met h, List.forall_mem_cons.mpr ⟨q513_met h, fun _ h => absurd h List.not_mem_nil⟩⟩⟩, List.forall_mem_cons.mpr ⟨fun M hM => Option.some.inj (show some q513_M = some M from hM) ▸ wlkS (lkX9_76 h) q513_M rfl rfl, fun _ h => absurd h List.not_mem_nil⟩, List.forall_mem_cons.mpr ⟨fun M hM => Option.some.inj (show some q493_M = some M from hM) ▸ wlkV (lkX9_50 h) q493_M rfl rfl, List.forall_mem_cons.mpr ⟨fun M hM => Option.some.inj (show some q574_M = some M from hM) ▸ wlkV (lkX9_72 h) q574_M rfl rfl, fun _ h => absurd h List.not_mem_nil⟩⟩, fun _ h => absurd h List.not_mem_nil, List.forall_mem_cons.mpr ⟨⟨wmT h (wm130), fun _ => ⟨wmT h (wm1202), wmT h (wm652), wmT h (wm653)⟩, fun h => absurd h (by decide), fun h => absurd h (by decide)⟩, fun _ h => absurd h List.not_mem_nil⟩⟩ dkX9_mostOf (by decide +kernel) (by rw [h.2.2.1]; exact q576_ok)
/-- NearSpell.Web.farApart -/
def q577_M : rfM := ((⟨"NearSpell$Web", "farApart", "(I)I"⟩, prog_11_method_13_code, 6, (some .int)), (15,360), ([.inr (.inl [61]),.inl ((0,6,1),none)],[]), [(17,0),(18,0),(19,0),(20,4),(20,5),(59,0),(60,0),(61,5)], [(some (.inl ((0,16383,1),none)),[],[((61,4),(0,16383,1),none)])])
def ddX9_farApart : List (Nat × Instr × Nat) := [(0,.aload_n 0,1),(1,.iload_n 1,1),(2,.invokevirtual 60,3),(5,.aload_n 0,1),(6,.getfield 26,3),(9,.istore_n 2,1),(10,.iconst 0,1),(11,.istore_n 3,1),(12,.aload_n 0,1),(13,.iload_n 2,1),(14,.bipush 13,2),(16,.invokevirtual 72,3),(19,.istore 4,2),(21,.bipush 13,2),(23,.istore 5,2),(25,.iload 5,2),(27,.ifCond .lt 64,3),(30,.aload_n 0,1),(31,.iload_n 2,1),(32,.iload 5,2),(34,.invokevirtual 50,3),(37,.ifCond .eq 48,3),(40,.iload_n 2,1),(41,.iconst 1,1),(42,.iload 5,2),(44,.ishl,1),(45,.iconst (-1),1),(46,.ixor,1),(47,.iand,1),(48,.istore_n 2,1),(49,.aload_n 0,1),(50,.iload_n 2,1),(51,.iload 5,2),(53,.iconst 1,1),(54,.isub,1),(55,.invokevirtual 72,3),(58,.iload 4,2),(60,.if_icmp .ge 25,3),(63,.iload_n 3,1),(64,.iconst 1,1),(65,.iload 5,2),(67,.ishl,1),(68,.ior,1),(69,.istore_n 3,1),(70,.iload_n 2,1),(71,.aload_n 0,1),(72,.getfield 23,3),(75,.iload 5,2),(77,.iaload,1),(78,.iconst (-1),1),(79,.ixor,1),(80,.iand,1),(81,.istore_n 2,1),(82,.iinc 4 (-1),3),(85,.iinc 5 (-1),3),(88,.goto (-63),3),(91,.iload_n 3,1),(92,.ireturn,1)]
set_option maxRecDepth 100000 in
theorem dkX9_farApart : rf_decs prog_11_method_13_code ddX9_farApart := rf_decs_of (by decide +kernel)
def q577_P : rfP := (flX9,csX9,lcX9,spX9,[q498_M,q527_M,q493_M,q576_M],[],[(50,2,9),(60,0,9),(72,1,9),(72,3,9)],([],[]))
def q577_U : rfU := []
set_option maxHeartbeats 8000000 in
def q577_N : List rfB := [(0,([(0,.inr (.inl [61])),(1,.inl ((0,6,1),none))],[],[]),(6346,[0,0]),0),
  (25,([(0,.inr (.inl [61])),(1,.inl ((0,6,1),none)),(2,.inl ((0,16383,1),none)),(3,.inl ((0,16383,1),none)),(4,.inl ((0,14,1),none)),(5,.inl (((-1),13,1),none))],[],[((61,4),(0,16383,1),none)]),(69,[422,27]),0),
  (85,([(0,.inr (.inl [61])),(1,.inl ((0,6,1),none)),(2,.inl ((0,16383,1),none)),(3,.inl ((0,16383,1),none)),(4,.inl ((0,14,1),none)),(5,.inl ((0,13,1),none))],[],[((61,4),(0,16383,1),none)]),(45,[422,27]),0)]
set_option maxRecDepth 100000 in
theorem q577_ok : rf_chkB q577_P q577_U wLay q577_M ddX9_farApart [(2,[0]),(16,[1]),(34,[2]),(55,[3])] [.inl 4,.inl 5] [0,25,85] 600 q577_N = true := by decide +kernel
set_option maxHeartbeats 4000000 in
theorem q577_met {G : rfG} (h : okG G) : rf_met G q577_M := rf_methodB h.1 (P := q577_P) (U := q577_U) (N := q577_N) ⟨wflT h flokX9, wcsT h csokX9, wlcT h lcokX9, spokX9 h, List.forall_mem_cons.mpr ⟨q498_met h, List.forall_mem_cons.mpr ⟨q527_met h, List.forall_mem_cons.mpr ⟨q493_met h, List.forall_mem_cons.mpr ⟨q576_met h, fun _ h => absurd h List.not_mem_nil⟩⟩⟩⟩, fun _ h => absurd h List.not_mem_nil, List.forall_mem_cons.mpr ⟨fun M hM => Option.some.inj (show some q493_M = some M from hM) ▸ wlkV (lkX9_50 h) q493_M rfl rfl, List.forall_mem_cons.mpr ⟨fun M hM => Option.some.inj (show some q498_M = some M from hM) ▸ wlkV (lkX9_60 h) q498_M rfl rfl, List.forall_mem_cons.mpr ⟨fun M hM => Option.some.inj (show some q527_M = some M from hM) ▸ wlkV (lkX9_72 h) q527_M rfl rfl, List.forall_mem_cons.mpr ⟨fun M hM => Option.some.inj (show some q576_M = some M from hM) ▸ wlkV (lkX9_72 h) q576_M rfl rfl, fun _ h => absurd h List.not_mem_nil⟩⟩⟩⟩, fun _ h => absurd h List.not_mem_nil, fun _ h => absurd h List.not_mem_nil⟩ dkX9_farApart (by decide +kernel) (by rw [h.2.2.1]; exact q577_ok)
/-- java/lang/Integer.bitCount -/
def q578_M : rfM := ((⟨"java/lang/Integer", "bitCount", "(I)I"⟩, prog_16_method_49_code, 1, (some .int)), (0,0), ([.inl ((0,16383,1),none)],[]), [], [(some (.inl ((0,63,1),none)),[],[])])
def q578_P : rfP := (flJ6,csJ6,lcJ6,spJ6,[],[],[],([],[]))
def q578_U : rfU := []
set_option maxHeartbeats 8000000 in
def q578_N : List rfB := [(0,([(0,.inl ((0,16383,1),none))],[],[]),(41,[]),0)]
set_option maxRecDepth 100000 in
theorem q578_ok : rf_chkB q578_P q578_U wLay q578_M ddJ6_bitCount_0f7a4 [] [] [0] 600 q578_N = true := by decide +kernel
set_option maxHeartbeats 4000000 in
theorem q578_met {G : rfG} (h : okG G) : rf_met G q578_M := rf_methodB h.1 (P := q578_P) (U := q578_U) (N := q578_N) ⟨wflT h flokJ6, wcsT h csokJ6, wlcT h lcokJ6, spokJ6 h, fun _ h => absurd h List.not_mem_nil, fun _ h => absurd h List.not_mem_nil, fun _ h => absurd h List.not_mem_nil, fun _ h => absurd h List.not_mem_nil, fun _ h => absurd h List.not_mem_nil⟩ dkJ6_bitCount_0f7a4 (by decide +kernel) (by rw [h.2.2.1]; exact q578_ok)
/-- NearSpell.far -/
def q579_M : rfM := ((⟨"NearSpell", "far", "(II)I"⟩, prog_1_method_28_code, 4, (some .int)), (16,385), ([.inr (.inl [70]),.inl (((-2147483648),2147483647,1),none),.inl (((-2147483648),2147483647,1),none)],[]), [(17,0),(18,0),(19,0),(20,4),(20,5),(59,0),(60,0),(61,5)], [(some (.inl (((-1),16383,1),none)),[],[])])
def ddX11_far : List (Nat × Instr × Nat) := [(0,.iload_n 1,1),(1,.invokestatic 232,3),(4,.ifCond .eq 12,3),(7,.iload_n 2,1),(8,.ifCond .lt 8,3),(11,.iload_n 2,1),(12,.iconst 1,1),(13,.if_icmp .le 5,3),(16,.iconst (-1),1),(17,.ireturn,1),(18,.aload_n 0,1),(19,.getfield 83,3),(22,.iload_n 1,1),(23,.invokevirtual 273,3),(26,.istore_n 3,1),(27,.iload_n 2,1),(28,.ifCond .ne 10,3),(31,.iload_n 3,1),(32,.invokestatic 276,3),(35,.goto 4,3),(38,.iload_n 3,1),(39,.ireturn,1)]
set_option maxRecDepth 100000 in
theorem dkX11_far : rf_decs prog_1_method_28_code ddX11_far := rf_decs_of (by decide +kernel)
def q579_P : rfP := (flX11,csX11,lcX11,spX11,[q437_M,q577_M,q578_M],[(232,0),(276,2)],[(273,1,9)],([],[]))
def q579_U : rfU := []
set_option maxHeartbeats 8000000 in
def q579_N : List rfB := [(0,([(0,.inr (.inl [70])),(1,.inl (((-2147483648),2147483647,1),none)),(2,.inl (((-2147483648),2147483647,1),none))],[],[]),(22,[]),0),
  (16,([(0,.inr (.inl [70])),(1,.inl (((-2147483648),2147483647,1),none)),(2,.inl (((-2147483648),2147483647,1),none))],[],[]),(1,[]),0),
  (39,([(0,.inr (.inl [70])),(1,.inl ((0,6,1),none)),(2,.inl ((0,1,1),none)),(3,.inl ((0,16383,1),none))],[.inl ((0,16383,1),none)],[((61,4),(0,16383,1),none)]),(2,[]),0)]
set_option maxRecDepth 100000 in
theorem q579_ok : rf_chkB q579_P q579_U wLay q579_M ddX11_far [(1,[0]),(23,[1]),(32,[2])] [] [0,16,39] 600 q579_N = true := by decide +kernel
set_option maxHeartbeats 4000000 in
theorem q579_met {G : rfG} (h : okG G) : rf_met G q579_M := rf_methodB h.1 (P := q579_P) (U := q579_U) (N := q579_N) ⟨wflT h flokX11, wcsT h csokX11, wlcT h lcokX11, spokX11 h, List.forall_mem_cons.mpr ⟨q437_met h, List.forall_mem_cons.mpr ⟨q577_met h, List.forall_mem_cons.mpr ⟨q578_met h, fun _ h => absurd h List.not_mem_nil⟩⟩⟩, List.forall_mem_cons.mpr ⟨fun M hM => Option.some.inj (show some q437_M = some M from hM) ▸ wlkS (lkX11_232 h) q437_M rfl rfl, List.forall_mem_cons.mpr ⟨fun M hM => Option.some.inj (show some q578_M = some M from hM) ▸ wlkS (lkX11_276 h) q578_M rfl rfl, fun _ h => absurd h List.not_mem_nil⟩⟩, List.forall_mem_cons.mpr ⟨fun M hM => Option.some.inj (show some q577_M = some M from hM) ▸ wlkV (lkX11_273 h) q577_M rfl rfl, fun _ h => absurd h List.not_mem_nil⟩, fun _ h => absurd h List.not_mem_nil, fun _ h => absurd h List.not_mem_nil⟩ dkX11_far (by decide +kernel) (by rw [h.2.2.1]; exact q579_ok)
/-- NearSpell.Web.sumFrom -/
def q580_M : rfM := ((⟨"NearSpell$Web", "sumFrom", "(I)I"⟩, prog_11_method_12_code, 4, (some .int)), (1,22), ([.inr (.inl [61]),.inl ((0,0,0),none)],[]), [], [(some (.inl (((-2147483648),2147483647,1),none)),[],[])])
def ddX9_sumFrom : List (Nat × Instr × Nat) := [(0,.iconst 0,1),(1,.istore_n 2,1),(2,.iconst 0,1),(3,.istore_n 3,1),(4,.iload_n 3,1),(5,.bipush 14,2),(7,.if_icmp .ge 40,3),(10,.iload_n 3,1),(11,.iload_n 1,1),(12,.if_icmp .eq 29,3),(15,.aload_n 0,1),(16,.aload_n 0,1),(17,.getfield 26,3),(20,.iload_n 3,1),(21,.invokevirtual 50,3),(24,.ifCond .eq 17,3),(27,.iload_n 2,1),(28,.aload_n 0,1),(29,.getfield 19,3),(32,.iload_n 1,1),(33,.bipush 14,2),(35,.imul,1),(36,.iload_n 3,1),(37,.iadd,1),(38,.iaload,1),(39,.iadd,1),(40,.istore_n 2,1),(41,.iinc 3 1,3),(44,.goto (-40),3),(47,.iload_n 2,1),(48,.ireturn,1)]
set_option maxRecDepth 100000 in
theorem dkX9_sumFrom : rf_decs prog_11_method_12_code ddX9_sumFrom := rf_decs_of (by decide +kernel)
def q580_P : rfP := (flX9,csX9,lcX9,spX9,[q493_M],[],[(50,0,9)],([],[]))
def q580_U : rfU := []
set_option maxHeartbeats 8000000 in
def q580_N : List rfB := [(0,([(0,.inr (.inl [61])),(1,.inl ((0,0,0),none))],[],[]),(410,[0]),0),
  (4,([(0,.inr (.inl [61])),(1,.inl ((0,0,0),none)),(2,.inl (((-2147483648),2147483647,1),none)),(3,.inl ((0,14,1),none))],[],[]),(404,[(-27)]),0),
  (41,([(0,.inr (.inl [61])),(1,.inl ((0,0,0),none)),(2,.inl (((-2147483648),2147483647,1),none)),(3,.inl ((0,13,1),none))],[],[]),(380,[(-27)]),0)]
set_option maxRecDepth 100000 in
theorem q580_ok : rf_chkB q580_P q580_U wLay q580_M ddX9_sumFrom [(21,[0])] [.inl 3] [0,4,41] 600 q580_N = true := by decide +kernel
set_option maxHeartbeats 4000000 in
theorem q580_met {G : rfG} (h : okG G) : rf_met G q580_M := rf_methodB h.1 (P := q580_P) (U := q580_U) (N := q580_N) ⟨wflT h flokX9, wcsT h csokX9, wlcT h lcokX9, spokX9 h, List.forall_mem_cons.mpr ⟨q493_met h, fun _ h => absurd h List.not_mem_nil⟩, fun _ h => absurd h List.not_mem_nil, List.forall_mem_cons.mpr ⟨fun M hM => Option.some.inj (show some q493_M = some M from hM) ▸ wlkV (lkX9_50 h) q493_M rfl rfl, fun _ h => absurd h List.not_mem_nil⟩, fun _ h => absurd h List.not_mem_nil, fun _ h => absurd h List.not_mem_nil⟩ dkX9_sumFrom (by decide +kernel) (by rw [h.2.2.1]; exact q580_ok)
/-- NearSpell.Web.sumFrom -/
def q581_M : rfM := ((⟨"NearSpell$Web", "sumFrom", "(I)I"⟩, prog_11_method_12_code, 4, (some .int)), (1,22), ([.inr (.inl [61]),.inl ((0,1,1),none)],[]), [], [(some (.inl (((-2147483648),2147483647,1),none)),[],[])])
def q581_P : rfP := (flX9,csX9,lcX9,spX9,[q493_M],[],[(50,0,9)],([],[]))
def q581_U : rfU := []
set_option maxHeartbeats 8000000 in
def q581_N : List rfB := [(0,([(0,.inr (.inl [61])),(1,.inl ((0,1,1),none))],[],[]),(410,[0]),0),
  (4,([(0,.inr (.inl [61])),(1,.inl ((0,1,1),none)),(2,.inl (((-2147483648),2147483647,1),none)),(3,.inl ((0,14,1),none))],[],[]),(404,[(-27)]),0),
  (41,([(0,.inr (.inl [61])),(1,.inl ((0,1,1),none)),(2,.inl (((-2147483648),2147483647,1),none)),(3,.inl ((0,13,1),none))],[],[]),(380,[(-27)]),0)]
set_option maxRecDepth 100000 in
theorem q581_ok : rf_chkB q581_P q581_U wLay q581_M ddX9_sumFrom [(21,[0])] [.inl 3] [0,4,41] 600 q581_N = true := by decide +kernel
set_option maxHeartbeats 4000000 in
theorem q581_met {G : rfG} (h : okG G) : rf_met G q581_M := rf_methodB h.1 (P := q581_P) (U := q581_U) (N := q581_N) ⟨wflT h flokX9, wcsT h csokX9, wlcT h lcokX9, spokX9 h, List.forall_mem_cons.mpr ⟨q493_met h, fun _ h => absurd h List.not_mem_nil⟩, fun _ h => absurd h List.not_mem_nil, List.forall_mem_cons.mpr ⟨fun M hM => Option.some.inj (show some q493_M = some M from hM) ▸ wlkV (lkX9_50 h) q493_M rfl rfl, fun _ h => absurd h List.not_mem_nil⟩, fun _ h => absurd h List.not_mem_nil, fun _ h => absurd h List.not_mem_nil⟩ dkX9_sumFrom (by decide +kernel) (by rw [h.2.2.1]; exact q581_ok)
/-- NearSpell.Web.sumFrom -/
def q582_M : rfM := ((⟨"NearSpell$Web", "sumFrom", "(I)I"⟩, prog_11_method_12_code, 4, (some .int)), (1,22), ([.inr (.inl [61]),.inl ((0,2,1),none)],[]), [], [(some (.inl (((-2147483648),2147483647,1),none)),[],[])])
def q582_P : rfP := (flX9,csX9,lcX9,spX9,[q493_M],[],[(50,0,9)],([],[]))
def q582_U : rfU := []
set_option maxHeartbeats 8000000 in
def q582_N : List rfB := [(0,([(0,.inr (.inl [61])),(1,.inl ((0,2,1),none))],[],[]),(410,[0]),0),
  (4,([(0,.inr (.inl [61])),(1,.inl ((0,2,1),none)),(2,.inl (((-2147483648),2147483647,1),none)),(3,.inl ((0,14,1),none))],[],[]),(404,[(-27)]),0),
  (41,([(0,.inr (.inl [61])),(1,.inl ((0,2,1),none)),(2,.inl (((-2147483648),2147483647,1),none)),(3,.inl ((0,13,1),none))],[],[]),(380,[(-27)]),0)]
set_option maxRecDepth 100000 in
theorem q582_ok : rf_chkB q582_P q582_U wLay q582_M ddX9_sumFrom [(21,[0])] [.inl 3] [0,4,41] 600 q582_N = true := by decide +kernel
set_option maxHeartbeats 4000000 in
theorem q582_met {G : rfG} (h : okG G) : rf_met G q582_M := rf_methodB h.1 (P := q582_P) (U := q582_U) (N := q582_N) ⟨wflT h flokX9, wcsT h csokX9, wlcT h lcokX9, spokX9 h, List.forall_mem_cons.mpr ⟨q493_met h, fun _ h => absurd h List.not_mem_nil⟩, fun _ h => absurd h List.not_mem_nil, List.forall_mem_cons.mpr ⟨fun M hM => Option.some.inj (show some q493_M = some M from hM) ▸ wlkV (lkX9_50 h) q493_M rfl rfl, fun _ h => absurd h List.not_mem_nil⟩, fun _ h => absurd h List.not_mem_nil, fun _ h => absurd h List.not_mem_nil⟩ dkX9_sumFrom (by decide +kernel) (by rw [h.2.2.1]; exact q582_ok)
/-- NearSpell.Web.sumFrom -/
def q583_M : rfM := ((⟨"NearSpell$Web", "sumFrom", "(I)I"⟩, prog_11_method_12_code, 4, (some .int)), (1,22), ([.inr (.inl [61]),.inl ((0,3,1),none)],[]), [], [(some (.inl (((-2147483648),2147483647,1),none)),[],[])])
def q583_P : rfP := (flX9,csX9,lcX9,spX9,[q493_M],[],[(50,0,9)],([],[]))
def q583_U : rfU := []
set_option maxHeartbeats 8000000 in
def q583_N : List rfB := [(0,([(0,.inr (.inl [61])),(1,.inl ((0,3,1),none))],[],[]),(410,[0]),0),
  (4,([(0,.inr (.inl [61])),(1,.inl ((0,3,1),none)),(2,.inl (((-2147483648),2147483647,1),none)),(3,.inl ((0,14,1),none))],[],[]),(404,[(-27)]),0),
  (41,([(0,.inr (.inl [61])),(1,.inl ((0,3,1),none)),(2,.inl (((-2147483648),2147483647,1),none)),(3,.inl ((0,13,1),none))],[],[]),(380,[(-27)]),0)]
set_option maxRecDepth 100000 in
theorem q583_ok : rf_chkB q583_P q583_U wLay q583_M ddX9_sumFrom [(21,[0])] [.inl 3] [0,4,41] 600 q583_N = true := by decide +kernel
set_option maxHeartbeats 4000000 in
theorem q583_met {G : rfG} (h : okG G) : rf_met G q583_M := rf_methodB h.1 (P := q583_P) (U := q583_U) (N := q583_N) ⟨wflT h flokX9, wcsT h csokX9, wlcT h lcokX9, spokX9 h, List.forall_mem_cons.mpr ⟨q493_met h, fun _ h => absurd h List.not_mem_nil⟩, fun _ h => absurd h List.not_mem_nil, List.forall_mem_cons.mpr ⟨fun M hM => Option.some.inj (show some q493_M = some M from hM) ▸ wlkV (lkX9_50 h) q493_M rfl rfl, fun _ h => absurd h List.not_mem_nil⟩, fun _ h => absurd h List.not_mem_nil, fun _ h => absurd h List.not_mem_nil⟩ dkX9_sumFrom (by decide +kernel) (by rw [h.2.2.1]; exact q583_ok)
/-- NearSpell.Web.sumFrom -/
def q584_M : rfM := ((⟨"NearSpell$Web", "sumFrom", "(I)I"⟩, prog_11_method_12_code, 4, (some .int)), (1,22), ([.inr (.inl [61]),.inl ((0,12,1),none)],[]), [], [(some (.inl (((-2147483648),2147483647,1),none)),[],[])])
def q584_P : rfP := (flX9,csX9,lcX9,spX9,[q493_M],[],[(50,0,9)],([],[]))
def q584_U : rfU := []
set_option maxHeartbeats 8000000 in
def q584_N : List rfB := [(0,([(0,.inr (.inl [61])),(1,.inl ((0,12,1),none))],[],[]),(410,[0]),0),
  (4,([(0,.inr (.inl [61])),(1,.inl ((0,12,1),none)),(2,.inl (((-2147483648),2147483647,1),none)),(3,.inl ((0,14,1),none))],[],[]),(404,[(-27)]),0),
  (41,([(0,.inr (.inl [61])),(1,.inl ((0,12,1),none)),(2,.inl (((-2147483648),2147483647,1),none)),(3,.inl ((0,13,1),none))],[],[]),(380,[(-27)]),0)]
set_option maxRecDepth 100000 in
theorem q584_ok : rf_chkB q584_P q584_U wLay q584_M ddX9_sumFrom [(21,[0])] [.inl 3] [0,4,41] 600 q584_N = true := by decide +kernel
set_option maxHeartbeats 4000000 in
theorem q584_met {G : rfG} (h : okG G) : rf_met G q584_M := rf_methodB h.1 (P := q584_P) (U := q584_U) (N := q584_N) ⟨wflT h flokX9, wcsT h csokX9, wlcT h lcokX9, spokX9 h, List.forall_mem_cons.mpr ⟨q493_met h, fun _ h => absurd h List.not_mem_nil⟩, fun _ h => absurd h List.not_mem_nil, List.forall_mem_cons.mpr ⟨fun M hM => Option.some.inj (show some q493_M = some M from hM) ▸ wlkV (lkX9_50 h) q493_M rfl rfl, fun _ h => absurd h List.not_mem_nil⟩, fun _ h => absurd h List.not_mem_nil, fun _ h => absurd h List.not_mem_nil⟩ dkX9_sumFrom (by decide +kernel) (by rw [h.2.2.1]; exact q584_ok)
/-- NearSpell.Web.sumFrom -/
def q585_M : rfM := ((⟨"NearSpell$Web", "sumFrom", "(I)I"⟩, prog_11_method_12_code, 4, (some .int)), (1,22), ([.inr (.inl [61]),.inl ((0,13,1),none)],[]), [], [(some (.inl (((-2147483648),2147483647,1),none)),[],[])])
def q585_P : rfP := (flX9,csX9,lcX9,spX9,[q493_M],[],[(50,0,9)],([],[]))
def q585_U : rfU := []
set_option maxHeartbeats 8000000 in
def q585_N : List rfB := [(0,([(0,.inr (.inl [61])),(1,.inl ((0,13,1),none))],[],[]),(410,[0]),0),
  (4,([(0,.inr (.inl [61])),(1,.inl ((0,13,1),none)),(2,.inl (((-2147483648),2147483647,1),none)),(3,.inl ((0,14,1),none))],[],[]),(404,[(-27)]),0),
  (41,([(0,.inr (.inl [61])),(1,.inl ((0,13,1),none)),(2,.inl (((-2147483648),2147483647,1),none)),(3,.inl ((0,13,1),none))],[],[]),(380,[(-27)]),0)]
set_option maxRecDepth 100000 in
theorem q585_ok : rf_chkB q585_P q585_U wLay q585_M ddX9_sumFrom [(21,[0])] [.inl 3] [0,4,41] 600 q585_N = true := by decide +kernel
set_option maxHeartbeats 4000000 in
theorem q585_met {G : rfG} (h : okG G) : rf_met G q585_M := rf_methodB h.1 (P := q585_P) (U := q585_U) (N := q585_N) ⟨wflT h flokX9, wcsT h csokX9, wlcT h lcokX9, spokX9 h, List.forall_mem_cons.mpr ⟨q493_met h, fun _ h => absurd h List.not_mem_nil⟩, fun _ h => absurd h List.not_mem_nil, List.forall_mem_cons.mpr ⟨fun M hM => Option.some.inj (show some q493_M = some M from hM) ▸ wlkV (lkX9_50 h) q493_M rfl rfl, fun _ h => absurd h List.not_mem_nil⟩, fun _ h => absurd h List.not_mem_nil, fun _ h => absurd h List.not_mem_nil⟩ dkX9_sumFrom (by decide +kernel) (by rw [h.2.2.1]; exact q585_ok)
/-- NearSpell.Web.middleEntry -/
def q586_M : rfM := ((⟨"NearSpell$Web", "middleEntry", "()I"⟩, prog_11_method_11_code, 5, (some .int)), (5,114), ([.inr (.inl [61])],[]), [(17,0),(18,0),(19,0),(20,4),(20,5),(59,0),(61,5)], [(some (.inl (((-1),13,1),none)),[],[((61,4),(0,16383,1),none)])])
def ddX9_middleEntry : List (Nat × Instr × Nat) := [(0,.aload_n 0,1),(1,.invokevirtual 57,3),(4,.iconst (-1),1),(5,.istore_n 1,1),(6,.bipush 85,2),(8,.istore_n 2,1),(9,.iconst 0,1),(10,.istore_n 3,1),(11,.iload_n 3,1),(12,.bipush 14,2),(14,.if_icmp .ge 43,3),(17,.aload_n 0,1),(18,.aload_n 0,1),(19,.getfield 26,3),(22,.iload_n 3,1),(23,.invokevirtual 50,3),(26,.ifCond .eq 11,3),(29,.aload_n 0,1),(30,.iload_n 3,1),(31,.invokevirtual 69,3),(34,.goto 4,3),(37,.iload_n 2,1),(38,.istore 4,2),(40,.iload 4,2),(42,.iload_n 2,1),(43,.if_icmp .ge 8,3),(46,.iload_n 3,1),(47,.istore_n 1,1),(48,.iload 4,2),(50,.istore_n 2,1),(51,.iinc 3 1,3),(54,.goto (-43),3),(57,.iload_n 1,1),(58,.ireturn,1)]
set_option maxRecDepth 100000 in
theorem dkX9_middleEntry : rf_decs prog_11_method_11_code ddX9_middleEntry := rf_decs_of (by decide +kernel)
def q586_P : rfP := (flX9,csX9,lcX9,spX9,[q495_M,q493_M,q585_M],[],[(50,1,9),(57,0,9),(69,2,9)],([],[]))
def q586_U : rfU := []
set_option maxHeartbeats 8000000 in
def q586_N : List rfB := [(0,([(0,.inr (.inl [61]))],[],[]),(399,[0]),0),
  (11,([(0,.inr (.inl [61])),(1,.inl (((-1),13,1),none)),(2,.inl (((-2147483648),85,1),none)),(3,.inl ((0,14,1),none))],[],[((61,4),(0,16383,1),none)]),(389,[(-26)]),0),
  (38,([(0,.inr (.inl [61])),(1,.inl (((-1),13,1),none)),(2,.inl (((-2147483648),85,1),none)),(3,.inl ((0,13,1),none))],[.inl (((-2147483648),2147483647,1),none)],[((61,4),(0,16383,1),none)]),(374,[(-26)]),0),
  (51,([(0,.inr (.inl [61])),(1,.inl (((-1),13,1),none)),(2,.inl (((-2147483648),85,1),none)),(3,.inl ((0,13,1),none)),(4,.inl (((-2147483648),2147483647,1),none))],[],[((61,4),(0,16383,1),none)]),(366,[(-26)]),0)]
set_option maxRecDepth 100000 in
theorem q586_ok : rf_chkB q586_P q586_U wLay q586_M ddX9_middleEntry [(1,[0]),(23,[1]),(31,[2])] [.inl 3] [0,11,38,51] 600 q586_N = true := by decide +kernel
set_option maxHeartbeats 4000000 in
theorem q586_met {G : rfG} (h : okG G) : rf_met G q586_M := rf_methodB h.1 (P := q586_P) (U := q586_U) (N := q586_N) ⟨wflT h flokX9, wcsT h csokX9, wlcT h lcokX9, spokX9 h, List.forall_mem_cons.mpr ⟨q495_met h, List.forall_mem_cons.mpr ⟨q493_met h, List.forall_mem_cons.mpr ⟨q585_met h, fun _ h => absurd h List.not_mem_nil⟩⟩⟩, fun _ h => absurd h List.not_mem_nil, List.forall_mem_cons.mpr ⟨fun M hM => Option.some.inj (show some q493_M = some M from hM) ▸ wlkV (lkX9_50 h) q493_M rfl rfl, List.forall_mem_cons.mpr ⟨fun M hM => Option.some.inj (show some q495_M = some M from hM) ▸ wlkV (lkX9_57 h) q495_M rfl rfl, List.forall_mem_cons.mpr ⟨fun M hM => Option.some.inj (show some q585_M = some M from hM) ▸ wlkV (lkX9_69 h) q585_M rfl rfl, fun _ h => absurd h List.not_mem_nil⟩⟩⟩, fun _ h => absurd h List.not_mem_nil, fun _ h => absurd h List.not_mem_nil⟩ dkX9_middleEntry (by decide +kernel) (by rw [h.2.2.1]; exact q586_ok)
/-- NearSpell.middle -/
def q587_M : rfM := ((⟨"NearSpell", "middle", "()I"⟩, prog_1_method_29_code, 1, (some .int)), (6,138), ([.inr (.inl [70])],[]), [(17,0),(18,0),(19,0),(20,4),(20,5),(59,0),(61,5)], [(some (.inl (((-1),13,1),none)),[],[((61,4),(0,16383,1),none)])])
def ddX11_middle : List (Nat × Instr × Nat) := [(0,.aload_n 0,1),(1,.getfield 83,3),(4,.invokevirtual 281,3),(7,.ireturn,1)]
set_option maxRecDepth 100000 in
theorem dkX11_middle : rf_decs prog_1_method_29_code ddX11_middle := rf_decs_of (by decide +kernel)
def q587_P : rfP := (flX11,csX11,lcX11,spX11,[q586_M],[],[(281,0,9)],([],[]))
def q587_U : rfU := []
set_option maxHeartbeats 8000000 in
def q587_N : List rfB := [(0,([(0,.inr (.inl [70]))],[],[]),(3,[]),0)]
set_option maxRecDepth 100000 in
theorem q587_ok : rf_chkB q587_P q587_U wLay q587_M ddX11_middle [(4,[0])] [] [0] 600 q587_N = true := by decide +kernel
set_option maxHeartbeats 4000000 in
theorem q587_met {G : rfG} (h : okG G) : rf_met G q587_M := rf_methodB h.1 (P := q587_P) (U := q587_U) (N := q587_N) ⟨wflT h flokX11, wcsT h csokX11, wlcT h lcokX11, spokX11 h, List.forall_mem_cons.mpr ⟨q586_met h, fun _ h => absurd h List.not_mem_nil⟩, fun _ h => absurd h List.not_mem_nil, List.forall_mem_cons.mpr ⟨fun M hM => Option.some.inj (show some q586_M = some M from hM) ▸ wlkV (lkX11_281 h) q586_M rfl rfl, fun _ h => absurd h List.not_mem_nil⟩, fun _ h => absurd h List.not_mem_nil, fun _ h => absurd h List.not_mem_nil⟩ dkX11_middle (by decide +kernel) (by rw [h.2.2.1]; exact q587_ok)
/-- NearSpell.Web.stepsBetween -/
def q588_M : rfM := ((⟨"NearSpell$Web", "stepsBetween", "(III)I"⟩, prog_11_method_9_code, 6, (some .int)), (6,138), ([.inr (.inl [61]),.inl ((0,13,1),none),.inl ((0,13,1),none),.inl ((0,6,1),none)],[]), [(17,0),(18,0),(19,0),(20,4),(20,5),(59,0),(60,0),(61,5)], [(some (.inl (((-1),14,1),none)),[],[((61,4),(0,16383,1),none)])])
def ddX9_stepsBetween : List (Nat × Instr × Nat) := [(0,.aload_n 0,1),(1,.iload_n 3,1),(2,.invokevirtual 60,3),(5,.iconst 1,1),(6,.iload_n 1,1),(7,.ishl,1),(8,.istore 4,2),(10,.iconst 0,1),(11,.istore 5,2),(13,.iload 5,2),(15,.bipush 14,2),(17,.if_icmp .gt 30,3),(20,.aload_n 0,1),(21,.iload 4,2),(23,.iload_n 2,1),(24,.invokevirtual 50,3),(27,.ifCond .eq 6,3),(30,.iload 5,2),(32,.ireturn,1),(33,.aload_n 0,1),(34,.iload 4,2),(36,.invokevirtual 66,3),(39,.istore 4,2),(41,.iinc 5 1,3),(44,.goto (-31),3),(47,.iconst (-1),1),(48,.ireturn,1)]
set_option maxRecDepth 100000 in
theorem dkX9_stepsBetween : rf_decs prog_11_method_9_code ddX9_stepsBetween := rf_decs_of (by decide +kernel)
def q588_P : rfP := (flX9,csX9,lcX9,spX9,[q498_M,q493_M,q500_M],[],[(50,1,9),(60,0,9),(66,2,9)],([],[]))
def q588_U : rfU := []
set_option maxHeartbeats 8000000 in
def q588_N : List rfB := [(0,([(0,.inr (.inl [61])),(1,.inl ((0,13,1),none)),(2,.inl ((0,13,1),none)),(3,.inl ((0,6,1),none))],[],[]),(253,[0]),0),
  (13,([(0,.inr (.inl [61])),(1,.inl ((0,13,1),none)),(2,.inl ((0,13,1),none)),(3,.inl ((0,6,1),none)),(4,.inl (((-2147483648),2147483647,1),none)),(5,.inl ((0,15,1),none))],[],[((61,4),(0,16383,1),none)]),(242,[(-15)]),0)]
set_option maxRecDepth 100000 in
theorem q588_ok : rf_chkB q588_P q588_U wLay q588_M ddX9_stepsBetween [(2,[0]),(24,[1]),(36,[2])] [.inl 5] [0,13] 600 q588_N = true := by decide +kernel
set_option maxHeartbeats 4000000 in
theorem q588_met {G : rfG} (h : okG G) : rf_met G q588_M := rf_methodB h.1 (P := q588_P) (U := q588_U) (N := q588_N) ⟨wflT h flokX9, wcsT h csokX9, wlcT h lcokX9, spokX9 h, List.forall_mem_cons.mpr ⟨q498_met h, List.forall_mem_cons.mpr ⟨q493_met h, List.forall_mem_cons.mpr ⟨q500_met h, fun _ h => absurd h List.not_mem_nil⟩⟩⟩, fun _ h => absurd h List.not_mem_nil, List.forall_mem_cons.mpr ⟨fun M hM => Option.some.inj (show some q493_M = some M from hM) ▸ wlkV (lkX9_50 h) q493_M rfl rfl, List.forall_mem_cons.mpr ⟨fun M hM => Option.some.inj (show some q498_M = some M from hM) ▸ wlkV (lkX9_60 h) q498_M rfl rfl, List.forall_mem_cons.mpr ⟨fun M hM => Option.some.inj (show some q500_M = some M from hM) ▸ wlkV (lkX9_66 h) q500_M rfl rfl, fun _ h => absurd h List.not_mem_nil⟩⟩⟩, fun _ h => absurd h List.not_mem_nil, fun _ h => absurd h List.not_mem_nil⟩ dkX9_stepsBetween (by decide +kernel) (by rw [h.2.2.1]; exact q588_ok)
/-- NearSpell.chain -/
def q589_M : rfM := ((⟨"NearSpell", "chain", "(III)I"⟩, prog_1_method_30_code, 4, (some .int)), (7,163), ([.inr (.inl [70]),.inl (((-2147483648),2147483647,1),none),.inl (((-2147483648),2147483647,1),none),.inl (((-2147483648),2147483647,1),none)],[]), [(17,0),(18,0),(19,0),(20,4),(20,5),(59,0),(60,0),(61,5)], [(some (.inl (((-1),14,1),none)),[],[])])
def ddX11_chain : List (Nat × Instr × Nat) := [(0,.aload_n 0,1),(1,.getfield 35,3),(4,.iload_n 1,1),(5,.invokevirtual 141,3),(8,.ifCond .eq 21,3),(11,.aload_n 0,1),(12,.getfield 35,3),(15,.iload_n 2,1),(16,.invokevirtual 141,3),(19,.ifCond .eq 10,3),(22,.iload_n 3,1),(23,.invokestatic 232,3),(26,.ifCond .ne 5,3),(29,.iconst (-1),1),(30,.ireturn,1),(31,.aload_n 0,1),(32,.getfield 83,3),(35,.iload_n 1,1),(36,.iload_n 2,1),(37,.iload_n 3,1),(38,.invokevirtual 284,3),(41,.ireturn,1)]
set_option maxRecDepth 100000 in
theorem dkX11_chain : rf_decs prog_1_method_30_code ddX11_chain := rf_decs_of (by decide +kernel)
def q589_P : rfP := (flX11,csX11,lcX11,spX11,[q109_M,q437_M,q588_M],[(232,1)],[(141,0,8),(284,2,9)],([],[]))
def q589_U : rfU := []
set_option maxHeartbeats 8000000 in
def q589_N : List rfB := [(0,([(0,.inr (.inl [70])),(1,.inl (((-2147483648),2147483647,1),none)),(2,.inl (((-2147483648),2147483647,1),none)),(3,.inl (((-2147483648),2147483647,1),none))],[],[]),(24,[]),0),
  (29,([(0,.inr (.inl [70])),(1,.inl (((-2147483648),2147483647,1),none)),(2,.inl (((-2147483648),2147483647,1),none)),(3,.inl (((-2147483648),2147483647,1),none))],[],[]),(9,[]),0)]
set_option maxRecDepth 100000 in
theorem q589_ok : rf_chkB q589_P q589_U wLay q589_M ddX11_chain [(5,[0]),(16,[0]),(23,[1]),(38,[2])] [] [0,29] 600 q589_N = true := by decide +kernel
set_option maxHeartbeats 4000000 in
theorem q589_met {G : rfG} (h : okG G) : rf_met G q589_M := rf_methodB h.1 (P := q589_P) (U := q589_U) (N := q589_N) ⟨wflT h flokX11, wcsT h csokX11, wlcT h lcokX11, spokX11 h, List.forall_mem_cons.mpr ⟨q109_met h, List.forall_mem_cons.mpr ⟨q437_met h, List.forall_mem_cons.mpr ⟨q588_met h, fun _ h => absurd h List.not_mem_nil⟩⟩⟩, List.forall_mem_cons.mpr ⟨fun M hM => Option.some.inj (show some q437_M = some M from hM) ▸ wlkS (lkX11_232 h) q437_M rfl rfl, fun _ h => absurd h List.not_mem_nil⟩, List.forall_mem_cons.mpr ⟨fun M hM => Option.some.inj (show some q109_M = some M from hM) ▸ wlkV (lkX11_141 h) q109_M rfl rfl, List.forall_mem_cons.mpr ⟨fun M hM => Option.some.inj (show some q588_M = some M from hM) ▸ wlkV (lkX11_284 h) q588_M rfl rfl, fun _ h => absurd h List.not_mem_nil⟩⟩, fun _ h => absurd h List.not_mem_nil, fun _ h => absurd h List.not_mem_nil⟩ dkX11_chain (by decide +kernel) (by rw [h.2.2.1]; exact q589_ok)
/-- NearSpell.beginningOf -/
def q590_M : rfM := ((⟨"NearSpell", "beginningOf", "(II)I"⟩, prog_1_method_55_code, 3, (some .int)), (1,21), ([.inl (((-2147483648),2147483647,1),none),.inl ((0,6,1),none)],[]), [], [(some (.inl (((-2147483648),2147483647,1),none)),[],[])])
def q590_P : rfP := (flX11,csX11,lcX11,spX11,[q111_M],[(148,0)],[],([],[]))
def q590_U : rfU := []
set_option maxHeartbeats 8000000 in
def q590_N : List rfB := [(0,([(0,.inl (((-2147483648),2147483647,1),none)),(1,.inl ((0,6,1),none))],[],[]),(17,[]),0),
  (28,([(0,.inl (((-2147483648),2147483647,1),none)),(1,.inl ((0,6,1),none)),(2,.inl (((-6),6,1),none))],[.inl (((-2147483648),2147483647,1),none)],[]),(0,[]),0)]
set_option maxRecDepth 100000 in
theorem q590_ok : rf_chkB q590_P q590_U wLay q590_M ddX11_beginningOf [(1,[0])] [] [0,28] 600 q590_N = true := by decide +kernel
set_option maxHeartbeats 4000000 in
theorem q590_met {G : rfG} (h : okG G) : rf_met G q590_M := rf_methodB h.1 (P := q590_P) (U := q590_U) (N := q590_N) ⟨wflT h flokX11, wcsT h csokX11, wlcT h lcokX11, spokX11 h, List.forall_mem_cons.mpr ⟨q111_met h, fun _ h => absurd h List.not_mem_nil⟩, List.forall_mem_cons.mpr ⟨fun M hM => Option.some.inj (show some q111_M = some M from hM) ▸ wlkS (lkX11_148 h) q111_M rfl rfl, fun _ h => absurd h List.not_mem_nil⟩, fun _ h => absurd h List.not_mem_nil, fun _ h => absurd h List.not_mem_nil, fun _ h => absurd h List.not_mem_nil⟩ dkX11_beginningOf (by decide +kernel) (by rw [h.2.2.1]; exact q590_ok)
/-- NearSpell.Finder.mostUsedFrom -/
def q591_M : rfM := ((⟨"NearSpell$Finder", "mostUsedFrom", "(I)I"⟩, prog_4_method_9_code, 6, (some .int)), (2,43), ([.inr (.inl [55]),.inl ((0,387420488,1),none)],[]), [], [(some (.inl (((-1),13,1),none)),[],[])])
def ddX2_mostUsedFrom : List (Nat × Instr × Nat) := [(0,.iload_n 1,1),(1,.invokestatic 90,3),(4,.istore_n 2,1),(5,.iconst (-1),1),(6,.istore_n 3,1),(7,.iconst 0,1),(8,.istore 4,2),(10,.iload 4,2),(12,.aload_n 0,1),(13,.getfield 15,3),(16,.invokevirtual 43,3),(19,.if_icmp .ge 78,3),(22,.aload_n 0,1),(23,.getfield 15,3),(26,.iload 4,2),(28,.invokevirtual 49,3),(31,.ifCond .eq 24,3),(34,.aload_n 0,1),(35,.getfield 15,3),(38,.iload 4,2),(40,.invokevirtual 66,3),(43,.iload_n 2,1),(44,.invokestatic 93,3),(47,.iload_n 1,1),(48,.if_icmp .ne 7,3),(51,.iconst 1,1),(52,.goto 4,3),(55,.iconst 0,1),(56,.istore 5,2),(58,.iload 5,2),(60,.ifCond .eq 31,3),(63,.iload_n 3,1),(64,.iconst (-1),1),(65,.if_icmp .eq 23,3),(68,.aload_n 0,1),(69,.getfield 15,3),(72,.iload 4,2),(74,.invokevirtual 87,3),(77,.aload_n 0,1),(78,.getfield 15,3),(81,.iload_n 3,1),(82,.invokevirtual 87,3),(85,.if_icmp .le 6,3),(88,.iload 4,2),(90,.istore_n 3,1),(91,.iinc 4 1,3),(94,.goto (-84),3),(97,.iload_n 3,1),(98,.ireturn,1)]
set_option maxRecDepth 100000 in
theorem dkX2_mostUsedFrom : rf_decs prog_4_method_9_code ddX2_mostUsedFrom := rf_decs_of (by decide +kernel)
def q591_P : rfP := (flX2,csX2,lcX2,spX2,[q198_M,q187_M,q185_M,q110_M,q590_M,q112_M],[(90,0),(93,4)],[(43,1,8),(49,2,8),(66,3,8),(87,5,8)],([],[]))
def q591_U : rfU := []
set_option maxHeartbeats 8000000 in
def q591_N : List rfB := [(0,([(0,.inr (.inl [55])),(1,.inl ((0,387420488,1),none))],[],[]),(653,[0]),0),
  (10,([(0,.inr (.inl [55])),(1,.inl ((0,387420488,1),none)),(2,.inl ((0,6,1),none)),(3,.inl (((-1),13,1),none)),(4,.inl ((0,14,1),none))],[],[]),(644,[(-43)]),0),
  (55,([(0,.inr (.inl [55])),(1,.inl ((0,387420488,1),none)),(2,.inl ((0,6,1),none)),(3,.inl (((-1),13,1),none)),(4,.inl ((0,13,1),none))],[],[]),(622,[(-43)]),0),
  (58,([(0,.inr (.inl [55])),(1,.inl ((0,387420488,1),none)),(2,.inl ((0,6,1),none)),(3,.inl (((-1),13,1),none)),(4,.inl ((0,13,1),none)),(5,.inl ((0,1,1),none))],[],[]),(620,[(-43)]),0),
  (91,([(0,.inr (.inl [55])),(1,.inl ((0,387420488,1),none)),(2,.inl ((0,6,1),none)),(3,.inl (((-1),13,1),none)),(4,.inl ((0,13,1),none)),(5,.inl ((0,1,1),none))],[],[]),(604,[(-43)]),0),
  (88,([(0,.inr (.inl [55])),(1,.inl ((0,387420488,1),none)),(2,.inl ((0,6,1),none)),(3,.inl (((-1),13,1),none)),(4,.inl ((0,13,1),none)),(5,.inl ((1,1,1),none))],[],[]),(606,[(-43)]),0)]
set_option maxRecDepth 100000 in
theorem q591_ok : rf_chkB q591_P q591_U wLay q591_M ddX2_mostUsedFrom [(1,[0]),(16,[1]),(28,[2]),(40,[3]),(44,[4]),(74,[5]),(82,[5])] [.inl 4] [0,10,55,58,88,91] 600 q591_N = true := by decide +kernel
set_option maxHeartbeats 4000000 in
theorem q591_met {G : rfG} (h : okG G) : rf_met G q591_M := rf_methodB h.1 (P := q591_P) (U := q591_U) (N := q591_N) ⟨wflT h flokX2, wcsT h csokX2, wlcT h lcokX2, spokX2 h, List.forall_mem_cons.mpr ⟨q198_met h, List.forall_mem_cons.mpr ⟨q187_met h, List.forall_mem_cons.mpr ⟨q185_met h, List.forall_mem_cons.mpr ⟨q110_met h, List.forall_mem_cons.mpr ⟨q590_met h, List.forall_mem_cons.mpr ⟨q112_met h, fun _ h => absurd h List.not_mem_nil⟩⟩⟩⟩⟩⟩, List.forall_mem_cons.mpr ⟨fun M hM => Option.some.inj (show some q198_M = some M from hM) ▸ wlkS (lkX2_90 h) q198_M rfl rfl, List.forall_mem_cons.mpr ⟨fun M hM => Option.some.inj (show some q590_M = some M from hM) ▸ wlkS (lkX2_93 h) q590_M rfl rfl, fun _ h => absurd h List.not_mem_nil⟩⟩, List.forall_mem_cons.mpr ⟨fun M hM => Option.some.inj (show some q187_M = some M from hM) ▸ wlkV (lkX2_43 h) q187_M rfl rfl, List.forall_mem_cons.mpr ⟨fun M hM => Option.some.inj (show some q185_M = some M from hM) ▸ wlkV (lkX2_49 h) q185_M rfl rfl, List.forall_mem_cons.mpr ⟨fun M hM => Option.some.inj (show some q110_M = some M from hM) ▸ wlkV (lkX2_66 h) q110_M rfl rfl, List.forall_mem_cons.mpr ⟨fun M hM => Option.some.inj (show some q112_M = some M from hM) ▸ wlkV (lkX2_87 h) q112_M rfl rfl, fun _ h => absurd h List.not_mem_nil⟩⟩⟩⟩, fun _ h => absurd h List.not_mem_nil, fun _ h => absurd h List.not_mem_nil⟩ dkX2_mostUsedFrom (by decide +kernel) (by rw [h.2.2.1]; exact q591_ok)
/-- NearSpell.begins -/
def q592_M : rfM := ((⟨"NearSpell", "begins", "(I)I"⟩, prog_1_method_31_code, 2, (some .int)), (3,68), ([.inr (.inl [70]),.inl (((-2147483648),2147483647,1),none)],[]), [], [(some (.inl (((-1),13,1),none)),[],[])])
def ddX11_begins : List (Nat × Instr × Nat) := [(0,.iload_n 1,1),(1,.invokestatic 163,3),(4,.ifCond .eq 14,3),(7,.aload_n 0,1),(8,.getfield 67,3),(11,.iload_n 1,1),(12,.invokevirtual 288,3),(15,.goto 4,3),(18,.iconst (-1),1),(19,.ireturn,1)]
set_option maxRecDepth 100000 in
theorem dkX11_begins : rf_decs prog_1_method_31_code ddX11_begins := rf_decs_of (by decide +kernel)
def q592_P : rfP := (flX11,csX11,lcX11,spX11,[q170_M,q591_M],[(163,0)],[(288,1,2)],([],[]))
def q592_U : rfU := []
set_option maxHeartbeats 8000000 in
def q592_N : List rfB := [(0,([(0,.inr (.inl [70])),(1,.inl (((-2147483648),2147483647,1),none))],[],[]),(11,[]),0)]
set_option maxRecDepth 100000 in
theorem q592_ok : rf_chkB q592_P q592_U wLay q592_M ddX11_begins [(1,[0]),(12,[1])] [] [0] 600 q592_N = true := by decide +kernel
set_option maxHeartbeats 4000000 in
theorem q592_met {G : rfG} (h : okG G) : rf_met G q592_M := rf_methodB h.1 (P := q592_P) (U := q592_U) (N := q592_N) ⟨wflT h flokX11, wcsT h csokX11, wlcT h lcokX11, spokX11 h, List.forall_mem_cons.mpr ⟨q170_met h, List.forall_mem_cons.mpr ⟨q591_met h, fun _ h => absurd h List.not_mem_nil⟩⟩, List.forall_mem_cons.mpr ⟨fun M hM => Option.some.inj (show some q170_M = some M from hM) ▸ wlkS (lkX11_163 h) q170_M rfl rfl, fun _ h => absurd h List.not_mem_nil⟩, List.forall_mem_cons.mpr ⟨fun M hM => Option.some.inj (show some q591_M = some M from hM) ▸ wlkV (lkX11_288 h) q591_M rfl rfl, fun _ h => absurd h List.not_mem_nil⟩, fun _ h => absurd h List.not_mem_nil, fun _ h => absurd h List.not_mem_nil⟩ dkX11_begins (by decide +kernel) (by rw [h.2.2.1]; exact q592_ok)
/-- NearSpell.Web.countCrowded -/
def q593_M : rfM := ((⟨"NearSpell$Web", "countCrowded", "(I)I"⟩, prog_11_method_10_code, 4, (some .int)), (6,138), ([.inr (.inl [61]),.inl ((0,6,1),none)],[]), [(17,0),(18,0),(19,0),(20,4),(20,5),(59,0),(60,0),(61,5)], [(some (.inl (((-2147483648),2147483647,1),none)),[],[((61,4),(0,16383,1),none)])])
def ddX9_countCrowded : List (Nat × Instr × Nat) := [(0,.aload_n 0,1),(1,.iload_n 1,1),(2,.invokevirtual 60,3),(5,.iconst 0,1),(6,.istore_n 2,1),(7,.iconst 0,1),(8,.istore_n 3,1),(9,.iload_n 3,1),(10,.bipush 14,2),(12,.if_icmp .ge 21,3),(15,.aload_n 0,1),(16,.getfield 23,3),(19,.iload_n 3,1),(20,.iaload,1),(21,.ifCond .eq 6,3),(24,.iinc 2 1,3),(27,.iinc 3 1,3),(30,.goto (-21),3),(33,.iload_n 2,1),(34,.ireturn,1)]
set_option maxRecDepth 100000 in
theorem dkX9_countCrowded : rf_decs prog_11_method_10_code ddX9_countCrowded := rf_decs_of (by decide +kernel)
def q593_P : rfP := (flX9,csX9,lcX9,spX9,[q498_M],[],[(60,0,9)],([],[]))
def q593_U : rfU := []
set_option maxHeartbeats 8000000 in
def q593_N : List rfB := [(0,([(0,.inr (.inl [61])),(1,.inl ((0,6,1),none))],[],[]),(188,[0]),0),
  (9,([(0,.inr (.inl [61])),(1,.inl ((0,6,1),none)),(2,.inl (((-2147483648),2147483647,1),none)),(3,.inl ((0,14,1),none))],[],[((61,4),(0,16383,1),none)]),(179,[(-12)]),0),
  (27,([(0,.inr (.inl [61])),(1,.inl ((0,6,1),none)),(2,.inl (((-2147483648),2147483647,1),none)),(3,.inl ((0,13,1),none))],[],[((61,4),(0,16383,1),none)]),(170,[(-12)]),0)]
set_option maxRecDepth 100000 in
theorem q593_ok : rf_chkB q593_P q593_U wLay q593_M ddX9_countCrowded [(2,[0])] [.inl 3] [0,9,27] 600 q593_N = true := by decide +kernel
set_option maxHeartbeats 4000000 in
theorem q593_met {G : rfG} (h : okG G) : rf_met G q593_M := rf_methodB h.1 (P := q593_P) (U := q593_U) (N := q593_N) ⟨wflT h flokX9, wcsT h csokX9, wlcT h lcokX9, spokX9 h, List.forall_mem_cons.mpr ⟨q498_met h, fun _ h => absurd h List.not_mem_nil⟩, fun _ h => absurd h List.not_mem_nil, List.forall_mem_cons.mpr ⟨fun M hM => Option.some.inj (show some q498_M = some M from hM) ▸ wlkV (lkX9_60 h) q498_M rfl rfl, fun _ h => absurd h List.not_mem_nil⟩, fun _ h => absurd h List.not_mem_nil, fun _ h => absurd h List.not_mem_nil⟩ dkX9_countCrowded (by decide +kernel) (by rw [h.2.2.1]; exact q593_ok)
/-- NearSpell.crowded -/
def q594_M : rfM := ((⟨"NearSpell", "crowded", "(I)I"⟩, prog_1_method_32_code, 2, (some .int)), (7,161), ([.inr (.inl [70]),.inl (((-2147483648),2147483647,1),none)],[]), [(17,0),(18,0),(19,0),(20,4),(20,5),(59,0),(60,0),(61,5)], [(some (.inl (((-2147483648),2147483647,1),none)),[],[])])
def ddX11_crowded : List (Nat × Instr × Nat) := [(0,.iload_n 1,1),(1,.invokestatic 232,3),(4,.ifCond .eq 14,3),(7,.aload_n 0,1),(8,.getfield 83,3),(11,.iload_n 1,1),(12,.invokevirtual 291,3),(15,.goto 4,3),(18,.iconst (-1),1),(19,.ireturn,1)]
set_option maxRecDepth 100000 in
theorem dkX11_crowded : rf_decs prog_1_method_32_code ddX11_crowded := rf_decs_of (by decide +kernel)
def q594_P : rfP := (flX11,csX11,lcX11,spX11,[q437_M,q593_M],[(232,0)],[(291,1,9)],([],[]))
def q594_U : rfU := []
set_option maxHeartbeats 8000000 in
def q594_N : List rfB := [(0,([(0,.inr (.inl [70])),(1,.inl (((-2147483648),2147483647,1),none))],[],[]),(11,[]),0)]
set_option maxRecDepth 100000 in
theorem q594_ok : rf_chkB q594_P q594_U wLay q594_M ddX11_crowded [(1,[0]),(12,[1])] [] [0] 600 q594_N = true := by decide +kernel
set_option maxHeartbeats 4000000 in
theorem q594_met {G : rfG} (h : okG G) : rf_met G q594_M := rf_methodB h.1 (P := q594_P) (U := q594_U) (N := q594_N) ⟨wflT h flokX11, wcsT h csokX11, wlcT h lcokX11, spokX11 h, List.forall_mem_cons.mpr ⟨q437_met h, List.forall_mem_cons.mpr ⟨q593_met h, fun _ h => absurd h List.not_mem_nil⟩⟩, List.forall_mem_cons.mpr ⟨fun M hM => Option.some.inj (show some q437_M = some M from hM) ▸ wlkS (lkX11_232 h) q437_M rfl rfl, fun _ h => absurd h List.not_mem_nil⟩, List.forall_mem_cons.mpr ⟨fun M hM => Option.some.inj (show some q593_M = some M from hM) ▸ wlkV (lkX11_291 h) q593_M rfl rfl, fun _ h => absurd h List.not_mem_nil⟩, fun _ h => absurd h List.not_mem_nil, fun _ h => absurd h List.not_mem_nil⟩ dkX11_crowded (by decide +kernel) (by rw [h.2.2.1]; exact q594_ok)
/-- NearSpell.State.spellingOf -/
def q595_M : rfM := ((⟨"NearSpell$State", "spellingOf", "(I)I"⟩, prog_10_method_7_code, 2, (some .int)), (0,0), ([.inr (.inl [13]),.inl ((0,5,1),none)],[]), [], [(some (.inl (((-2147483648),2147483647,1),none)),[],[])])
def q595_P : rfP := (flX8,csX8,lcX8,spX8,[],[],[],([],[]))
def q595_U : rfU := []
set_option maxHeartbeats 8000000 in
def q595_N : List rfB := [(0,([(0,.inr (.inl [13])),(1,.inl ((0,5,1),none))],[],[]),(12,[]),0)]
set_option maxRecDepth 100000 in
theorem q595_ok : rf_chkB q595_P q595_U wLay q595_M ddX8_spellingOf [] [] [0] 600 q595_N = true := by decide +kernel
set_option maxHeartbeats 4000000 in
theorem q595_met {G : rfG} (h : okG G) : rf_met G q595_M := rf_methodB h.1 (P := q595_P) (U := q595_U) (N := q595_N) ⟨wflT h flokX8, wcsT h csokX8, wlcT h lcokX8, spokX8 h, fun _ h => absurd h List.not_mem_nil, fun _ h => absurd h List.not_mem_nil, fun _ h => absurd h List.not_mem_nil, fun _ h => absurd h List.not_mem_nil, fun _ h => absurd h List.not_mem_nil⟩ dkX8_spellingOf (by decide +kernel) (by rw [h.2.2.1]; exact q595_ok)
/-- NearSpell.Laid.refresh -/
def q596_M : rfM := ((⟨"NearSpell$Laid", "refresh", "()V"⟩, prog_6_method_4_code, 2, none), (3,72), ([.inr (.inl [53])],[]), [(21,0),(22,2),(22,3),(22,4),(22,5),(23,0),(24,2),(24,3),(24,4),(24,5),(25,0),(26,2),(26,3),(26,4),(26,5),(27,0),(28,2),(28,3),(28,4),(28,5),(29,0),(30,2),(30,3),(30,4),(30,5),(31,0),(32,2),(32,3),(32,4),(32,5),(33,0),(34,2),(34,3),(34,4),(34,5),(35,0),(36,2),(36,3),(36,4),(36,5),(37,0),(38,2),(38,3),(38,4),(38,5),(39,0),(40,2),(40,3),(40,4),(40,5),(41,0),(42,2),(42,3),(42,4),(42,5),(43,0),(44,2),(44,3),(44,4),(44,5),(45,0),(46,2),(46,3),(46,4),(46,5),(47,0),(48,2),(48,3),(48,4),(48,5)], [(none,[],[])])
def ddX4_refresh : List (Nat × Instr × Nat) := [(0,.iconst 0,1),(1,.istore_n 1,1),(2,.iload_n 1,1),(3,.aload_n 0,1),(4,.getfield 15,3),(7,.invokevirtual 57,3),(10,.if_icmp .ge 49,3),(13,.iload_n 1,1),(14,.aload_n 0,1),(15,.getfield 21,3),(18,.arraylength,1),(19,.if_icmp .ge 40,3),(22,.aload_n 0,1),(23,.getfield 21,3),(26,.iload_n 1,1),(27,.aaload,1),(28,.aload_n 0,1),(29,.getfield 15,3),(32,.iload_n 1,1),(33,.invokevirtual 51,3),(36,.aload_n 0,1),(37,.getfield 9,3),(40,.getfield 34,3),(43,.aload_n 0,1),(44,.getfield 9,3),(47,.getfield 40,3),(50,.invokevirtual 43,3),(53,.iinc 1 1,3),(56,.goto (-54),3),(59,.return_,1)]
set_option maxRecDepth 100000 in
theorem dkX4_refresh : rf_decs prog_6_method_4_code ddX4_refresh := rf_decs_of (by decide +kernel)
def q596_P : rfP := (flX4,csX4,lcX4,spX4,[q187_M,q110_M,q167_M],[],[(43,2,3),(51,1,8),(57,0,8)],([],[]))
def q596_U : rfU := []
set_option maxHeartbeats 8000000 in
def q596_N : List rfB := [(0,([(0,.inr (.inl [53]))],[],[]),(422,[0]),0),
  (2,([(0,.inr (.inl [53])),(1,.inl ((0,14,1),none))],[],[]),(418,[(-28)]),0)]
set_option maxRecDepth 100000 in
theorem q596_ok : rf_chkB q596_P q596_U wLay q596_M ddX4_refresh [(7,[0]),(33,[1]),(50,[2])] [.inl 1] [0,2] 600 q596_N = true := by decide +kernel
set_option maxHeartbeats 4000000 in
theorem q596_met {G : rfG} (h : okG G) : rf_met G q596_M := rf_methodB h.1 (P := q596_P) (U := q596_U) (N := q596_N) ⟨wflT h flokX4, wcsT h csokX4, wlcT h lcokX4, spokX4 h, List.forall_mem_cons.mpr ⟨q187_met h, List.forall_mem_cons.mpr ⟨q110_met h, List.forall_mem_cons.mpr ⟨q167_met h, fun _ h => absurd h List.not_mem_nil⟩⟩⟩, fun _ h => absurd h List.not_mem_nil, List.forall_mem_cons.mpr ⟨fun M hM => Option.some.inj (show some q167_M = some M from hM) ▸ wlkV (lkX4_43 h) q167_M rfl rfl, List.forall_mem_cons.mpr ⟨fun M hM => Option.some.inj (show some q110_M = some M from hM) ▸ wlkV (lkX4_51 h) q110_M rfl rfl, List.forall_mem_cons.mpr ⟨fun M hM => Option.some.inj (show some q187_M = some M from hM) ▸ wlkV (lkX4_57 h) q187_M rfl rfl, fun _ h => absurd h List.not_mem_nil⟩⟩⟩, fun _ h => absurd h List.not_mem_nil, fun _ h => absurd h List.not_mem_nil⟩ dkX4_refresh (by decide +kernel) (by rw [h.2.2.1]; exact q596_ok)
/-- NearSpell.Laid.tallyEntry -/
def q597_M : rfM := ((⟨"NearSpell$Laid", "tallyEntry", "(IZ)V"⟩, prog_6_method_13_code, 7, none), (4,94), ([.inr (.inl [53]),.inl ((0,0,0),none),.inl ((0,0,0),none)],[]), [(4,0),(5,13),(52,0)], [(none,[],[])])
def ddX4_tallyEntry : List (Nat × Instr × Nat) := [(0,.aload_n 0,1),(1,.getfield 21,3),(4,.iload_n 1,1),(5,.aaload,1),(6,.astore_n 3,1),(7,.iconst 0,1),(8,.istore 4,2),(10,.iload 4,2),(12,.aload_n 3,1),(13,.getfield 69,3),(16,.if_icmp .ge 75,3),(19,.aload_n 0,1),(20,.getfield 9,3),(23,.aload_n 3,1),(24,.getfield 78,3),(27,.iload 4,2),(29,.iaload,1),(30,.invokevirtual 92,3),(33,.istore 5,2),(35,.iload_n 2,1),(36,.ifCond .eq 23,3),(39,.aload_n 0,1),(40,.aload_n 3,1),(41,.getfield 78,3),(44,.iload 4,2),(46,.iaload,1),(47,.iload_n 1,1),(48,.iload_n 1,1),(49,.invokevirtual 81,3),(52,.ifCond .eq 7,3),(55,.iconst 1,1),(56,.goto 4,3),(59,.iconst 0,1),(60,.istore 6,2),(62,.iload 6,2),(64,.ifCond .ne 21,3),(67,.iload 5,2),(69,.bipush 31,2),(71,.if_icmp .ge 14,3),(74,.aload_n 0,1),(75,.getfield 30,3),(78,.iload 5,2),(80,.dup2,1),(81,.iaload,1),(82,.iconst 1,1),(83,.iadd,1),(84,.iastore,1),(85,.iinc 4 1,3),(88,.goto (-78),3),(91,.return_,1)]
set_option maxRecDepth 100000 in
theorem dkX4_tallyEntry : rf_decs prog_6_method_13_code ddX4_tallyEntry := rf_decs_of (by decide +kernel)
def q597_P : rfP := (flX4,csX4,lcX4,spX4,[q432_M],[],[(92,0,1)],([],[]))
def q597_U : rfU := []
set_option maxHeartbeats 8000000 in
def q597_N : List rfB := [(0,([(0,.inr (.inl [53])),(1,.inl ((0,0,0),none)),(2,.inl ((0,0,0),none))],[],[]),(743,[0]),0),
  (10,([(0,.inr (.inl [53])),(1,.inl ((0,0,0),none)),(2,.inl ((0,0,0),none)),(3,.inr (.inl [22,24,26,28,30,32,34,36,38,40,42,44,46,48])),(4,.inl ((0,22,1),none))],[],[]),(734,[(-32)]),0)]
set_option maxRecDepth 100000 in
theorem q597_ok : rf_chkB q597_P q597_U wLay q597_M ddX4_tallyEntry [(30,[0])] [.inl 4] [0,10] 600 q597_N = true := by decide +kernel
set_option maxHeartbeats 4000000 in
theorem q597_met {G : rfG} (h : okG G) : rf_met G q597_M := rf_methodB h.1 (P := q597_P) (U := q597_U) (N := q597_N) ⟨wflT h flokX4, wcsT h csokX4, wlcT h lcokX4, spokX4 h, List.forall_mem_cons.mpr ⟨q432_met h, fun _ h => absurd h List.not_mem_nil⟩, fun _ h => absurd h List.not_mem_nil, List.forall_mem_cons.mpr ⟨fun M hM => Option.some.inj (show some q432_M = some M from hM) ▸ wlkV (lkX4_92 h) q432_M rfl rfl, fun _ h => absurd h List.not_mem_nil⟩, fun _ h => absurd h List.not_mem_nil, fun _ h => absurd h List.not_mem_nil⟩ dkX4_tallyEntry (by decide +kernel) (by rw [h.2.2.1]; exact q597_ok)
/-- NearSpell.Laid.tallyEntry -/
def q598_M : rfM := ((⟨"NearSpell$Laid", "tallyEntry", "(IZ)V"⟩, prog_6_method_13_code, 7, none), (4,94), ([.inr (.inl [53]),.inl ((0,1,1),none),.inl ((0,0,0),none)],[]), [(4,0),(5,13),(52,0)], [(none,[],[])])
def q598_P : rfP := (flX4,csX4,lcX4,spX4,[q432_M],[],[(92,0,1)],([],[]))
def q598_U : rfU := []
set_option maxHeartbeats 8000000 in
def q598_N : List rfB := [(0,([(0,.inr (.inl [53])),(1,.inl ((0,1,1),none)),(2,.inl ((0,0,0),none))],[],[]),(743,[0]),0),
  (10,([(0,.inr (.inl [53])),(1,.inl ((0,1,1),none)),(2,.inl ((0,0,0),none)),(3,.inr (.inl [22,24,26,28,30,32,34,36,38,40,42,44,46,48])),(4,.inl ((0,22,1),none))],[],[]),(734,[(-32)]),0)]
set_option maxRecDepth 100000 in
theorem q598_ok : rf_chkB q598_P q598_U wLay q598_M ddX4_tallyEntry [(30,[0])] [.inl 4] [0,10] 600 q598_N = true := by decide +kernel
set_option maxHeartbeats 4000000 in
theorem q598_met {G : rfG} (h : okG G) : rf_met G q598_M := rf_methodB h.1 (P := q598_P) (U := q598_U) (N := q598_N) ⟨wflT h flokX4, wcsT h csokX4, wlcT h lcokX4, spokX4 h, List.forall_mem_cons.mpr ⟨q432_met h, fun _ h => absurd h List.not_mem_nil⟩, fun _ h => absurd h List.not_mem_nil, List.forall_mem_cons.mpr ⟨fun M hM => Option.some.inj (show some q432_M = some M from hM) ▸ wlkV (lkX4_92 h) q432_M rfl rfl, fun _ h => absurd h List.not_mem_nil⟩, fun _ h => absurd h List.not_mem_nil, fun _ h => absurd h List.not_mem_nil⟩ dkX4_tallyEntry (by decide +kernel) (by rw [h.2.2.1]; exact q598_ok)
/-- NearSpell.Laid.tallyEntry -/
def q599_M : rfM := ((⟨"NearSpell$Laid", "tallyEntry", "(IZ)V"⟩, prog_6_method_13_code, 7, none), (4,94), ([.inr (.inl [53]),.inl ((0,2,1),none),.inl ((0,0,0),none)],[]), [(4,0),(5,13),(52,0)], [(none,[],[])])
def q599_P : rfP := (flX4,csX4,lcX4,spX4,[q432_M],[],[(92,0,1)],([],[]))
def q599_U : rfU := []
set_option maxHeartbeats 8000000 in
def q599_N : List rfB := [(0,([(0,.inr (.inl [53])),(1,.inl ((0,2,1),none)),(2,.inl ((0,0,0),none))],[],[]),(743,[0]),0),
  (10,([(0,.inr (.inl [53])),(1,.inl ((0,2,1),none)),(2,.inl ((0,0,0),none)),(3,.inr (.inl [22,24,26,28,30,32,34,36,38,40,42,44,46,48])),(4,.inl ((0,22,1),none))],[],[]),(734,[(-32)]),0)]
set_option maxRecDepth 100000 in
theorem q599_ok : rf_chkB q599_P q599_U wLay q599_M ddX4_tallyEntry [(30,[0])] [.inl 4] [0,10] 600 q599_N = true := by decide +kernel
set_option maxHeartbeats 4000000 in
theorem q599_met {G : rfG} (h : okG G) : rf_met G q599_M := rf_methodB h.1 (P := q599_P) (U := q599_U) (N := q599_N) ⟨wflT h flokX4, wcsT h csokX4, wlcT h lcokX4, spokX4 h, List.forall_mem_cons.mpr ⟨q432_met h, fun _ h => absurd h List.not_mem_nil⟩, fun _ h => absurd h List.not_mem_nil, List.forall_mem_cons.mpr ⟨fun M hM => Option.some.inj (show some q432_M = some M from hM) ▸ wlkV (lkX4_92 h) q432_M rfl rfl, fun _ h => absurd h List.not_mem_nil⟩, fun _ h => absurd h List.not_mem_nil, fun _ h => absurd h List.not_mem_nil⟩ dkX4_tallyEntry (by decide +kernel) (by rw [h.2.2.1]; exact q599_ok)
