/-- NearSpell.Reader.readTerm -/
def q60_M : rfM := ((⟨"NearSpell$Reader", "readTerm", "(I)V"⟩, prog_8_method_13_code, 4, none), (49,2649), ([.inr (.inl [11]),.inl ((3,3,0),none)],[]), [(8,0),(10,11),(10,12),(11,4),(11,5),(11,6),(11,7),(11,9),(11,10)], [(none,[],[])])
def q60_P : rfP := (flX6,csX6,lcX6,spX6,[q59_M,q18_M,q31_M],[],[(46,1,6),(109,2,1),(121,0,6)],([],[]))
def q60_U : rfU := []
set_option maxHeartbeats 8000000 in
def q60_N : List rfB := [(0,([(0,.inr (.inl [11])),(1,.inl ((3,3,0),none))],[],[]),(49636,[0]),0),
  (7,([(0,.inr (.inl [11])),(1,.inl ((3,3,0),none)),(2,.inl ((0,1600,1),none))],[],[]),(49629,[(-31)]),0),
  (41,([(0,.inr (.inl [11])),(1,.inl ((3,3,0),none)),(2,.inl ((0,1599,1),none))],[],[((11,5),(37,47,1),none)]),(49614,[(-31)]),0),
  (70,([(0,.inr (.inl [11])),(1,.inl ((3,3,0),none)),(2,.inl ((0,1600,1),none))],[],[]),(0,[0]),0)]
set_option maxRecDepth 100000 in
theorem q60_ok : rf_chkB q60_P q60_U wLay q60_M ddX6_readTerm [(2,[0]),(47,[1]),(52,[0]),(61,[2])] [.inl 2] [0,7,41,70] 600 q60_N = true := by decide +kernel
set_option maxHeartbeats 4000000 in
theorem q60_met {G : rfG} (h : okG G) (hh : wHandOK G) : rf_met G q60_M := rf_methodB h.1 (P := q60_P) (U := q60_U) (N := q60_N) ⟨wflT h flokX6, wcsT h csokX6, wlcT h lcokX6, spokX6 h, List.forall_mem_cons.mpr ⟨q59_met h hh, List.forall_mem_cons.mpr ⟨q18_met h hh, List.forall_mem_cons.mpr ⟨q31_met h hh, fun _ h => absurd h List.not_mem_nil⟩⟩⟩, fun _ h => absurd h List.not_mem_nil, List.forall_mem_cons.mpr ⟨fun M hM => Option.some.inj (show some q18_M = some M from hM) ▸ wlkV (lkX6_46 h) q18_M rfl rfl, List.forall_mem_cons.mpr ⟨fun M hM => Option.some.inj (show some q31_M = some M from hM) ▸ wlkV (lkX6_109 h) q31_M rfl rfl, List.forall_mem_cons.mpr ⟨fun M hM => Option.some.inj (show some q59_M = some M from hM) ▸ wlkV (lkX6_121 h) q59_M rfl rfl, fun _ h => absurd h List.not_mem_nil⟩⟩⟩, fun _ h => absurd h List.not_mem_nil, fun _ h => absurd h List.not_mem_nil⟩ dkX6_readTerm (by decide +kernel) (by rw [h.2.2.1]; exact q60_ok)
/-- NearSpell.Reader.readSum -/
def q61_M : rfM := ((⟨"NearSpell$Reader", "readSum", "(I)V"⟩, prog_8_method_12_code, 4, none), (50,2672), ([.inr (.inl [11]),.inl ((3,3,0),none)],[]), [(8,0),(10,11),(10,12),(11,4),(11,5),(11,6),(11,7),(11,9),(11,10)], [(none,[],[])])
def q61_P : rfP := (flX6,csX6,lcX6,spX6,[q60_M,q18_M,q31_M],[],[(46,1,6),(109,2,1),(118,0,6)],([],[]))
def q61_U : rfU := []
set_option maxHeartbeats 8000000 in
def q61_N : List rfB := [(0,([(0,.inr (.inl [11])),(1,.inl ((3,3,0),none))],[],[]),(43232,[0]),0),
  (7,([(0,.inr (.inl [11])),(1,.inl ((3,3,0),none)),(2,.inl ((0,1600,1),none))],[],[]),(43225,[(-27)]),0),
  (32,([(0,.inr (.inl [11])),(1,.inl ((3,3,0),none)),(2,.inl ((0,1599,1),none))],[],[((11,5),(43,45,1),none)]),(43214,[(-27)]),0),
  (61,([(0,.inr (.inl [11])),(1,.inl ((3,3,0),none)),(2,.inl ((0,1600,1),none))],[],[]),(0,[0]),0)]
set_option maxRecDepth 100000 in
theorem q61_ok : rf_chkB q61_P q61_U wLay q61_M ddX6_readSum [(2,[0]),(38,[1]),(43,[0]),(52,[2])] [.inl 2] [0,7,32,61] 600 q61_N = true := by decide +kernel
set_option maxHeartbeats 4000000 in
theorem q61_met {G : rfG} (h : okG G) (hh : wHandOK G) : rf_met G q61_M := rf_methodB h.1 (P := q61_P) (U := q61_U) (N := q61_N) ⟨wflT h flokX6, wcsT h csokX6, wlcT h lcokX6, spokX6 h, List.forall_mem_cons.mpr ⟨q60_met h hh, List.forall_mem_cons.mpr ⟨q18_met h hh, List.forall_mem_cons.mpr ⟨q31_met h hh, fun _ h => absurd h List.not_mem_nil⟩⟩⟩, fun _ h => absurd h List.not_mem_nil, List.forall_mem_cons.mpr ⟨fun M hM => Option.some.inj (show some q18_M = some M from hM) ▸ wlkV (lkX6_46 h) q18_M rfl rfl, List.forall_mem_cons.mpr ⟨fun M hM => Option.some.inj (show some q31_M = some M from hM) ▸ wlkV (lkX6_109 h) q31_M rfl rfl, List.forall_mem_cons.mpr ⟨fun M hM => Option.some.inj (show some q60_M = some M from hM) ▸ wlkV (lkX6_118 h) q60_M rfl rfl, fun _ h => absurd h List.not_mem_nil⟩⟩⟩, fun _ h => absurd h List.not_mem_nil, fun _ h => absurd h List.not_mem_nil⟩ dkX6_readSum (by decide +kernel) (by rw [h.2.2.1]; exact q61_ok)
/-- NearSpell.Reader.readOne -/
def q62_M : rfM := ((⟨"NearSpell$Reader", "readOne", "(I)V"⟩, prog_8_method_11_code, 3, none), (51,2695), ([.inr (.inl [11]),.inl ((3,3,0),none)],[]), [(8,0),(10,11),(10,12),(11,4),(11,5),(11,6),(11,7),(11,9),(11,10)], [(none,[],[])])
def q62_P : rfP := (flX6,csX6,lcX6,spX6,[q18_M,q56_M,q35_M,q61_M,q31_M],[],[(46,0,6),(109,2,1),(109,4,1),(112,1,6),(115,3,6)],([],[]))
def q62_U : rfU := []
set_option maxHeartbeats 8000000 in
def q62_N : List rfB := [(0,([(0,.inr (.inl [11])),(1,.inl ((3,3,0),none))],[],[]),(44,[]),0),
  (70,([(0,.inr (.inl [11])),(1,.inl ((3,3,0),none)),(2,.inl ((60,62,1),some (.inr (11,5),some 0)))],[],[((11,5),(60,62,1),none)]),(10,[]),0),
  (88,([(0,.inr (.inl [11])),(1,.inl ((3,3,0),none)),(2,.inl (((-128),127,1),none))],[],[]),(0,[]),0)]
set_option maxRecDepth 100000 in
theorem q62_ok : rf_chkB q62_P q62_U wLay q62_M ddX6_readOne [(22,[0]),(29,[1]),(38,[2]),(44,[3]),(71,[0]),(76,[3]),(85,[4])] [] [0,70,88] 600 q62_N = true := by decide +kernel
set_option maxHeartbeats 4000000 in
theorem q62_met {G : rfG} (h : okG G) (hh : wHandOK G) : rf_met G q62_M := rf_methodB h.1 (P := q62_P) (U := q62_U) (N := q62_N) ⟨wflT h flokX6, wcsT h csokX6, wlcT h lcokX6, spokX6 h, List.forall_mem_cons.mpr ⟨q18_met h hh, List.forall_mem_cons.mpr ⟨q56_met h hh, List.forall_mem_cons.mpr ⟨q35_met h hh, List.forall_mem_cons.mpr ⟨q61_met h hh, List.forall_mem_cons.mpr ⟨q31_met h hh, fun _ h => absurd h List.not_mem_nil⟩⟩⟩⟩⟩, fun _ h => absurd h List.not_mem_nil, List.forall_mem_cons.mpr ⟨fun M hM => Option.some.inj (show some q18_M = some M from hM) ▸ wlkV (lkX6_46 h) q18_M rfl rfl, List.forall_mem_cons.mpr ⟨fun M hM => Option.some.inj (show some q35_M = some M from hM) ▸ wlkV (lkX6_109 h) q35_M rfl rfl, List.forall_mem_cons.mpr ⟨fun M hM => Option.some.inj (show some q31_M = some M from hM) ▸ wlkV (lkX6_109 h) q31_M rfl rfl, List.forall_mem_cons.mpr ⟨fun M hM => Option.some.inj (show some q56_M = some M from hM) ▸ wlkV (lkX6_112 h) q56_M rfl rfl, List.forall_mem_cons.mpr ⟨fun M hM => Option.some.inj (show some q61_M = some M from hM) ▸ wlkV (lkX6_115 h) q61_M rfl rfl, fun _ h => absurd h List.not_mem_nil⟩⟩⟩⟩⟩, fun _ h => absurd h List.not_mem_nil, fun _ h => absurd h List.not_mem_nil⟩ dkX6_readOne (by decide +kernel) (by rw [h.2.2.1]; exact q62_ok)
/-- NearSpell.Reader.readBoth -/
def q63_M : rfM := ((⟨"NearSpell$Reader", "readBoth", "(I)V"⟩, prog_8_method_10_code, 3, none), (52,2717), ([.inr (.inl [11]),.inl ((3,3,0),none)],[]), [(8,0),(10,11),(10,12),(11,4),(11,5),(11,6),(11,7),(11,9),(11,10)], [(none,[],[])])
def q63_P : rfP := (flX6,csX6,lcX6,spX6,[q62_M,q18_M,q36_M],[],[(46,1,6),(109,2,1),(112,0,6)],([],[]))
def q63_U : rfU := []
set_option maxHeartbeats 8000000 in
def q63_N : List rfB := [(0,([(0,.inr (.inl [11])),(1,.inl ((3,3,0),none))],[],[]),(30424,[0]),0),
  (7,([(0,.inr (.inl [11])),(1,.inl ((3,3,0),none)),(2,.inl ((0,1600,1),none))],[],[]),(30417,[(-19)]),0),
  (47,([(0,.inr (.inl [11])),(1,.inl ((3,3,0),none)),(2,.inl ((0,1600,1),none))],[],[]),(0,[0]),0)]
set_option maxRecDepth 100000 in
theorem q63_ok : rf_chkB q63_P q63_U wLay q63_M ddX6_readBoth [(2,[0]),(24,[1]),(29,[0]),(38,[2])] [.inl 2] [0,7,47] 600 q63_N = true := by decide +kernel
set_option maxHeartbeats 4000000 in
theorem q63_met {G : rfG} (h : okG G) (hh : wHandOK G) : rf_met G q63_M := rf_methodB h.1 (P := q63_P) (U := q63_U) (N := q63_N) ⟨wflT h flokX6, wcsT h csokX6, wlcT h lcokX6, spokX6 h, List.forall_mem_cons.mpr ⟨q62_met h hh, List.forall_mem_cons.mpr ⟨q18_met h hh, List.forall_mem_cons.mpr ⟨q36_met h hh, fun _ h => absurd h List.not_mem_nil⟩⟩⟩, fun _ h => absurd h List.not_mem_nil, List.forall_mem_cons.mpr ⟨fun M hM => Option.some.inj (show some q18_M = some M from hM) ▸ wlkV (lkX6_46 h) q18_M rfl rfl, List.forall_mem_cons.mpr ⟨fun M hM => Option.some.inj (show some q36_M = some M from hM) ▸ wlkV (lkX6_109 h) q36_M rfl rfl, List.forall_mem_cons.mpr ⟨fun M hM => Option.some.inj (show some q62_M = some M from hM) ▸ wlkV (lkX6_112 h) q62_M rfl rfl, fun _ h => absurd h List.not_mem_nil⟩⟩⟩, fun _ h => absurd h List.not_mem_nil, fun _ h => absurd h List.not_mem_nil⟩ dkX6_readBoth (by decide +kernel) (by rw [h.2.2.1]; exact q63_ok)
/-- NearSpell.Reader.readEither -/
def q64_M : rfM := ((⟨"NearSpell$Reader", "readEither", "(I)V"⟩, prog_8_method_9_code, 3, none), (53,2739), ([.inr (.inl [11]),.inl ((3,3,0),none)],[]), [(8,0),(10,11),(10,12),(11,4),(11,5),(11,6),(11,7),(11,9),(11,10)], [(none,[],[])])
def q64_P : rfP := (flX6,csX6,lcX6,spX6,[q63_M,q18_M,q38_M],[],[(46,1,6),(106,0,6),(109,2,1)],([],[]))
def q64_U : rfU := []
set_option maxHeartbeats 8000000 in
def q64_N : List rfB := [(0,([(0,.inr (.inl [11])),(1,.inl ((3,3,0),none))],[],[]),(30424,[0]),0),
  (7,([(0,.inr (.inl [11])),(1,.inl ((3,3,0),none)),(2,.inl ((0,1600,1),none))],[],[]),(30417,[(-19)]),0),
  (47,([(0,.inr (.inl [11])),(1,.inl ((3,3,0),none)),(2,.inl ((0,1600,1),none))],[],[]),(0,[0]),0)]
set_option maxRecDepth 100000 in
theorem q64_ok : rf_chkB q64_P q64_U wLay q64_M ddX6_readEither [(2,[0]),(24,[1]),(29,[0]),(38,[2])] [.inl 2] [0,7,47] 600 q64_N = true := by decide +kernel
set_option maxHeartbeats 4000000 in
theorem q64_met {G : rfG} (h : okG G) (hh : wHandOK G) : rf_met G q64_M := rf_methodB h.1 (P := q64_P) (U := q64_U) (N := q64_N) ⟨wflT h flokX6, wcsT h csokX6, wlcT h lcokX6, spokX6 h, List.forall_mem_cons.mpr ⟨q63_met h hh, List.forall_mem_cons.mpr ⟨q18_met h hh, List.forall_mem_cons.mpr ⟨q38_met h hh, fun _ h => absurd h List.not_mem_nil⟩⟩⟩, fun _ h => absurd h List.not_mem_nil, List.forall_mem_cons.mpr ⟨fun M hM => Option.some.inj (show some q18_M = some M from hM) ▸ wlkV (lkX6_46 h) q18_M rfl rfl, List.forall_mem_cons.mpr ⟨fun M hM => Option.some.inj (show some q63_M = some M from hM) ▸ wlkV (lkX6_106 h) q63_M rfl rfl, List.forall_mem_cons.mpr ⟨fun M hM => Option.some.inj (show some q38_M = some M from hM) ▸ wlkV (lkX6_109 h) q38_M rfl rfl, fun _ h => absurd h List.not_mem_nil⟩⟩⟩, fun _ h => absurd h List.not_mem_nil, fun _ h => absurd h List.not_mem_nil⟩ dkX6_readEither (by decide +kernel) (by rw [h.2.2.1]; exact q64_ok)
/-- NearSpell.Reader.readUnit -/
def q65_M : rfM := ((⟨"NearSpell$Reader", "readUnit", "(I)V"⟩, prog_8_method_14_code, 4, none), (54,2761), ([.inr (.inl [11]),.inl ((2,2,0),none)],[]), [(8,0),(10,11),(10,12),(11,4),(11,5),(11,6),(11,7),(11,9),(11,10)], [(none,[],[])])
def q65_P : rfP := (flX6,csX6,lcX6,spX6,[q20_M,q29_M,q18_M,q64_M,q40_M],[],[(46,2,6),(62,0,6),(78,3,6),(90,4,6),(109,1,1)],([],[]))
def q65_U : rfU := []
set_option maxHeartbeats 8000000 in
def q65_N : List rfB := [(0,([(0,.inr (.inl [11])),(1,.inl ((2,2,0),none))],[],[]),(81,[]),0),
  (15,([(0,.inr (.inl [11])),(1,.inl ((2,2,0),none)),(2,.inl ((0,1,1),none))],[],[]),(72,[]),0),
  (37,([(0,.inr (.inl [11])),(1,.inl ((2,2,0),none)),(2,.inl ((0,1,1),none))],[],[]),(61,[]),0),
  (39,([(0,.inr (.inl [11])),(1,.inl ((2,2,0),none)),(2,.inl ((0,1,1),none)),(3,.inl ((0,1,1),none))],[],[]),(59,[]),0),
  (62,([(0,.inr (.inl [11])),(1,.inl ((2,2,0),none)),(2,.inl ((0,1,1),none)),(3,.inl ((0,1,1),none))],[],[]),(47,[]),0),
  (90,([(0,.inr (.inl [11])),(1,.inl ((2,2,0),none)),(2,.inl ((0,1,1),none)),(3,.inl ((0,1,1),none))],[],[((10,10),(0,29,1),none)]),(37,[]),0),
  (127,([(0,.inr (.inl [11])),(1,.inl ((2,2,0),none)),(2,.inl ((0,0,1),none)),(3,.inl ((0,1,1),none))],[.inl (((-2147483648),2147483647,1),none),.inr (.inl [10])],[((10,10),(1,30,1),none)]),(18,[]),0)]
set_option maxRecDepth 100000 in
theorem q65_ok : rf_chkB q65_P q65_U wLay q65_M ddX6_readUnit [(58,[0]),(86,[0]),(127,[1]),(131,[2]),(136,[2]),(143,[3]),(149,[4])] [] [0,15,37,39,62,90,127] 600 q65_N = true := by decide +kernel
set_option maxHeartbeats 4000000 in
theorem q65_met {G : rfG} (h : okG G) (hh : wHandOK G) : rf_met G q65_M := rf_methodB h.1 (P := q65_P) (U := q65_U) (N := q65_N) ⟨wflT h flokX6, wcsT h csokX6, wlcT h lcokX6, spokX6 h, List.forall_mem_cons.mpr ⟨q20_met h hh, List.forall_mem_cons.mpr ⟨q29_met h hh, List.forall_mem_cons.mpr ⟨q18_met h hh, List.forall_mem_cons.mpr ⟨q64_met h hh, List.forall_mem_cons.mpr ⟨q40_met h hh, fun _ h => absurd h List.not_mem_nil⟩⟩⟩⟩⟩, fun _ h => absurd h List.not_mem_nil, List.forall_mem_cons.mpr ⟨fun M hM => Option.some.inj (show some q18_M = some M from hM) ▸ wlkV (lkX6_46 h) q18_M rfl rfl, List.forall_mem_cons.mpr ⟨fun M hM => Option.some.inj (show some q20_M = some M from hM) ▸ wlkV (lkX6_62 h) q20_M rfl rfl, List.forall_mem_cons.mpr ⟨fun M hM => Option.some.inj (show some q64_M = some M from hM) ▸ wlkV (lkX6_78 h) q64_M rfl rfl, List.forall_mem_cons.mpr ⟨fun M hM => Option.some.inj (show some q40_M = some M from hM) ▸ wlkV (lkX6_90 h) q40_M rfl rfl, List.forall_mem_cons.mpr ⟨fun M hM => Option.some.inj (show some q29_M = some M from hM) ▸ wlkV (lkX6_109 h) q29_M rfl rfl, fun _ h => absurd h List.not_mem_nil⟩⟩⟩⟩⟩, fun _ h => absurd h List.not_mem_nil, fun _ h => absurd h List.not_mem_nil⟩ dkX6_readUnit (by decide +kernel) (by rw [h.2.2.1]; exact q65_ok)
/-- NearSpell.Reader.readTerm -/
def q66_M : rfM := ((⟨"NearSpell$Reader", "readTerm", "(I)V"⟩, prog_8_method_13_code, 4, none), (55,2784), ([.inr (.inl [11]),.inl ((2,2,0),none)],[]), [(8,0),(10,11),(10,12),(11,4),(11,5),(11,6),(11,7),(11,9),(11,10)], [(none,[],[])])
def q66_P : rfP := (flX6,csX6,lcX6,spX6,[q65_M,q18_M,q31_M],[],[(46,1,6),(109,2,1),(121,0,6)],([],[]))
def q66_U : rfU := []
set_option maxHeartbeats 8000000 in
def q66_N : List rfB := [(0,([(0,.inr (.inl [11])),(1,.inl ((2,2,0),none))],[],[]),(49636,[0]),0),
  (7,([(0,.inr (.inl [11])),(1,.inl ((2,2,0),none)),(2,.inl ((0,1600,1),none))],[],[]),(49629,[(-31)]),0),
  (41,([(0,.inr (.inl [11])),(1,.inl ((2,2,0),none)),(2,.inl ((0,1599,1),none))],[],[((11,5),(37,47,1),none)]),(49614,[(-31)]),0),
  (70,([(0,.inr (.inl [11])),(1,.inl ((2,2,0),none)),(2,.inl ((0,1600,1),none))],[],[]),(0,[0]),0)]
set_option maxRecDepth 100000 in
theorem q66_ok : rf_chkB q66_P q66_U wLay q66_M ddX6_readTerm [(2,[0]),(47,[1]),(52,[0]),(61,[2])] [.inl 2] [0,7,41,70] 600 q66_N = true := by decide +kernel
set_option maxHeartbeats 4000000 in
theorem q66_met {G : rfG} (h : okG G) (hh : wHandOK G) : rf_met G q66_M := rf_methodB h.1 (P := q66_P) (U := q66_U) (N := q66_N) ⟨wflT h flokX6, wcsT h csokX6, wlcT h lcokX6, spokX6 h, List.forall_mem_cons.mpr ⟨q65_met h hh, List.forall_mem_cons.mpr ⟨q18_met h hh, List.forall_mem_cons.mpr ⟨q31_met h hh, fun _ h => absurd h List.not_mem_nil⟩⟩⟩, fun _ h => absurd h List.not_mem_nil, List.forall_mem_cons.mpr ⟨fun M hM => Option.some.inj (show some q18_M = some M from hM) ▸ wlkV (lkX6_46 h) q18_M rfl rfl, List.forall_mem_cons.mpr ⟨fun M hM => Option.some.inj (show some q31_M = some M from hM) ▸ wlkV (lkX6_109 h) q31_M rfl rfl, List.forall_mem_cons.mpr ⟨fun M hM => Option.some.inj (show some q65_M = some M from hM) ▸ wlkV (lkX6_121 h) q65_M rfl rfl, fun _ h => absurd h List.not_mem_nil⟩⟩⟩, fun _ h => absurd h List.not_mem_nil, fun _ h => absurd h List.not_mem_nil⟩ dkX6_readTerm (by decide +kernel) (by rw [h.2.2.1]; exact q66_ok)
/-- NearSpell.Reader.readSum -/
def q67_M : rfM := ((⟨"NearSpell$Reader", "readSum", "(I)V"⟩, prog_8_method_12_code, 4, none), (56,2807), ([.inr (.inl [11]),.inl ((2,2,0),none)],[]), [(8,0),(10,11),(10,12),(11,4),(11,5),(11,6),(11,7),(11,9),(11,10)], [(none,[],[])])
def q67_P : rfP := (flX6,csX6,lcX6,spX6,[q66_M,q18_M,q31_M],[],[(46,1,6),(109,2,1),(118,0,6)],([],[]))
def q67_U : rfU := []
set_option maxHeartbeats 8000000 in
def q67_N : List rfB := [(0,([(0,.inr (.inl [11])),(1,.inl ((2,2,0),none))],[],[]),(43232,[0]),0),
  (7,([(0,.inr (.inl [11])),(1,.inl ((2,2,0),none)),(2,.inl ((0,1600,1),none))],[],[]),(43225,[(-27)]),0),
  (32,([(0,.inr (.inl [11])),(1,.inl ((2,2,0),none)),(2,.inl ((0,1599,1),none))],[],[((11,5),(43,45,1),none)]),(43214,[(-27)]),0),
  (61,([(0,.inr (.inl [11])),(1,.inl ((2,2,0),none)),(2,.inl ((0,1600,1),none))],[],[]),(0,[0]),0)]
set_option maxRecDepth 100000 in
theorem q67_ok : rf_chkB q67_P q67_U wLay q67_M ddX6_readSum [(2,[0]),(38,[1]),(43,[0]),(52,[2])] [.inl 2] [0,7,32,61] 600 q67_N = true := by decide +kernel
set_option maxHeartbeats 4000000 in
theorem q67_met {G : rfG} (h : okG G) (hh : wHandOK G) : rf_met G q67_M := rf_methodB h.1 (P := q67_P) (U := q67_U) (N := q67_N) ⟨wflT h flokX6, wcsT h csokX6, wlcT h lcokX6, spokX6 h, List.forall_mem_cons.mpr ⟨q66_met h hh, List.forall_mem_cons.mpr ⟨q18_met h hh, List.forall_mem_cons.mpr ⟨q31_met h hh, fun _ h => absurd h List.not_mem_nil⟩⟩⟩, fun _ h => absurd h List.not_mem_nil, List.forall_mem_cons.mpr ⟨fun M hM => Option.some.inj (show some q18_M = some M from hM) ▸ wlkV (lkX6_46 h) q18_M rfl rfl, List.forall_mem_cons.mpr ⟨fun M hM => Option.some.inj (show some q31_M = some M from hM) ▸ wlkV (lkX6_109 h) q31_M rfl rfl, List.forall_mem_cons.mpr ⟨fun M hM => Option.some.inj (show some q66_M = some M from hM) ▸ wlkV (lkX6_118 h) q66_M rfl rfl, fun _ h => absurd h List.not_mem_nil⟩⟩⟩, fun _ h => absurd h List.not_mem_nil, fun _ h => absurd h List.not_mem_nil⟩ dkX6_readSum (by decide +kernel) (by rw [h.2.2.1]; exact q67_ok)
/-- NearSpell.Reader.readOne -/
def q68_M : rfM := ((⟨"NearSpell$Reader", "readOne", "(I)V"⟩, prog_8_method_11_code, 3, none), (57,2830), ([.inr (.inl [11]),.inl ((2,2,0),none)],[]), [(8,0),(10,11),(10,12),(11,4),(11,5),(11,6),(11,7),(11,9),(11,10)], [(none,[],[])])
def q68_P : rfP := (flX6,csX6,lcX6,spX6,[q18_M,q62_M,q35_M,q67_M,q31_M],[],[(46,0,6),(109,2,1),(109,4,1),(112,1,6),(115,3,6)],([],[]))
def q68_U : rfU := []
set_option maxHeartbeats 8000000 in
def q68_N : List rfB := [(0,([(0,.inr (.inl [11])),(1,.inl ((2,2,0),none))],[],[]),(44,[]),0),
  (70,([(0,.inr (.inl [11])),(1,.inl ((2,2,0),none)),(2,.inl ((60,62,1),some (.inr (11,5),some 0)))],[],[((11,5),(60,62,1),none)]),(10,[]),0),
  (88,([(0,.inr (.inl [11])),(1,.inl ((2,2,0),none)),(2,.inl (((-128),127,1),none))],[],[]),(0,[]),0)]
set_option maxRecDepth 100000 in
theorem q68_ok : rf_chkB q68_P q68_U wLay q68_M ddX6_readOne [(22,[0]),(29,[1]),(38,[2]),(44,[3]),(71,[0]),(76,[3]),(85,[4])] [] [0,70,88] 600 q68_N = true := by decide +kernel
set_option maxHeartbeats 4000000 in
theorem q68_met {G : rfG} (h : okG G) (hh : wHandOK G) : rf_met G q68_M := rf_methodB h.1 (P := q68_P) (U := q68_U) (N := q68_N) ⟨wflT h flokX6, wcsT h csokX6, wlcT h lcokX6, spokX6 h, List.forall_mem_cons.mpr ⟨q18_met h hh, List.forall_mem_cons.mpr ⟨q62_met h hh, List.forall_mem_cons.mpr ⟨q35_met h hh, List.forall_mem_cons.mpr ⟨q67_met h hh, List.forall_mem_cons.mpr ⟨q31_met h hh, fun _ h => absurd h List.not_mem_nil⟩⟩⟩⟩⟩, fun _ h => absurd h List.not_mem_nil, List.forall_mem_cons.mpr ⟨fun M hM => Option.some.inj (show some q18_M = some M from hM) ▸ wlkV (lkX6_46 h) q18_M rfl rfl, List.forall_mem_cons.mpr ⟨fun M hM => Option.some.inj (show some q35_M = some M from hM) ▸ wlkV (lkX6_109 h) q35_M rfl rfl, List.forall_mem_cons.mpr ⟨fun M hM => Option.some.inj (show some q31_M = some M from hM) ▸ wlkV (lkX6_109 h) q31_M rfl rfl, List.forall_mem_cons.mpr ⟨fun M hM => Option.some.inj (show some q62_M = some M from hM) ▸ wlkV (lkX6_112 h) q62_M rfl rfl, List.forall_mem_cons.mpr ⟨fun M hM => Option.some.inj (show some q67_M = some M from hM) ▸ wlkV (lkX6_115 h) q67_M rfl rfl, fun _ h => absurd h List.not_mem_nil⟩⟩⟩⟩⟩, fun _ h => absurd h List.not_mem_nil, fun _ h => absurd h List.not_mem_nil⟩ dkX6_readOne (by decide +kernel) (by rw [h.2.2.1]; exact q68_ok)
/-- NearSpell.Reader.readBoth -/
def q69_M : rfM := ((⟨"NearSpell$Reader", "readBoth", "(I)V"⟩, prog_8_method_10_code, 3, none), (58,2852), ([.inr (.inl [11]),.inl ((2,2,0),none)],[]), [(8,0),(10,11),(10,12),(11,4),(11,5),(11,6),(11,7),(11,9),(11,10)], [(none,[],[])])
def q69_P : rfP := (flX6,csX6,lcX6,spX6,[q68_M,q18_M,q36_M],[],[(46,1,6),(109,2,1),(112,0,6)],([],[]))
def q69_U : rfU := []
set_option maxHeartbeats 8000000 in
def q69_N : List rfB := [(0,([(0,.inr (.inl [11])),(1,.inl ((2,2,0),none))],[],[]),(30424,[0]),0),
  (7,([(0,.inr (.inl [11])),(1,.inl ((2,2,0),none)),(2,.inl ((0,1600,1),none))],[],[]),(30417,[(-19)]),0),
  (47,([(0,.inr (.inl [11])),(1,.inl ((2,2,0),none)),(2,.inl ((0,1600,1),none))],[],[]),(0,[0]),0)]
set_option maxRecDepth 100000 in
theorem q69_ok : rf_chkB q69_P q69_U wLay q69_M ddX6_readBoth [(2,[0]),(24,[1]),(29,[0]),(38,[2])] [.inl 2] [0,7,47] 600 q69_N = true := by decide +kernel
set_option maxHeartbeats 4000000 in
theorem q69_met {G : rfG} (h : okG G) (hh : wHandOK G) : rf_met G q69_M := rf_methodB h.1 (P := q69_P) (U := q69_U) (N := q69_N) ⟨wflT h flokX6, wcsT h csokX6, wlcT h lcokX6, spokX6 h, List.forall_mem_cons.mpr ⟨q68_met h hh, List.forall_mem_cons.mpr ⟨q18_met h hh, List.forall_mem_cons.mpr ⟨q36_met h hh, fun _ h => absurd h List.not_mem_nil⟩⟩⟩, fun _ h => absurd h List.not_mem_nil, List.forall_mem_cons.mpr ⟨fun M hM => Option.some.inj (show some q18_M = some M from hM) ▸ wlkV (lkX6_46 h) q18_M rfl rfl, List.forall_mem_cons.mpr ⟨fun M hM => Option.some.inj (show some q36_M = some M from hM) ▸ wlkV (lkX6_109 h) q36_M rfl rfl, List.forall_mem_cons.mpr ⟨fun M hM => Option.some.inj (show some q68_M = some M from hM) ▸ wlkV (lkX6_112 h) q68_M rfl rfl, fun _ h => absurd h List.not_mem_nil⟩⟩⟩, fun _ h => absurd h List.not_mem_nil, fun _ h => absurd h List.not_mem_nil⟩ dkX6_readBoth (by decide +kernel) (by rw [h.2.2.1]; exact q69_ok)
/-- NearSpell.Reader.readEither -/
def q70_M : rfM := ((⟨"NearSpell$Reader", "readEither", "(I)V"⟩, prog_8_method_9_code, 3, none), (59,2874), ([.inr (.inl [11]),.inl ((2,2,0),none)],[]), [(8,0),(10,11),(10,12),(11,4),(11,5),(11,6),(11,7),(11,9),(11,10)], [(none,[],[])])
def q70_P : rfP := (flX6,csX6,lcX6,spX6,[q69_M,q18_M,q38_M],[],[(46,1,6),(106,0,6),(109,2,1)],([],[]))
def q70_U : rfU := []
set_option maxHeartbeats 8000000 in
def q70_N : List rfB := [(0,([(0,.inr (.inl [11])),(1,.inl ((2,2,0),none))],[],[]),(30424,[0]),0),
  (7,([(0,.inr (.inl [11])),(1,.inl ((2,2,0),none)),(2,.inl ((0,1600,1),none))],[],[]),(30417,[(-19)]),0),
  (47,([(0,.inr (.inl [11])),(1,.inl ((2,2,0),none)),(2,.inl ((0,1600,1),none))],[],[]),(0,[0]),0)]
set_option maxRecDepth 100000 in
theorem q70_ok : rf_chkB q70_P q70_U wLay q70_M ddX6_readEither [(2,[0]),(24,[1]),(29,[0]),(38,[2])] [.inl 2] [0,7,47] 600 q70_N = true := by decide +kernel
set_option maxHeartbeats 4000000 in
theorem q70_met {G : rfG} (h : okG G) (hh : wHandOK G) : rf_met G q70_M := rf_methodB h.1 (P := q70_P) (U := q70_U) (N := q70_N) ⟨wflT h flokX6, wcsT h csokX6, wlcT h lcokX6, spokX6 h, List.forall_mem_cons.mpr ⟨q69_met h hh, List.forall_mem_cons.mpr ⟨q18_met h hh, List.forall_mem_cons.mpr ⟨q38_met h hh, fun _ h => absurd h List.not_mem_nil⟩⟩⟩, fun _ h => absurd h List.not_mem_nil, List.forall_mem_cons.mpr ⟨fun M hM => Option.some.inj (show some q18_M = some M from hM) ▸ wlkV (lkX6_46 h) q18_M rfl rfl, List.forall_mem_cons.mpr ⟨fun M hM => Option.some.inj (show some q69_M = some M from hM) ▸ wlkV (lkX6_106 h) q69_M rfl rfl, List.forall_mem_cons.mpr ⟨fun M hM => Option.some.inj (show some q38_M = some M from hM) ▸ wlkV (lkX6_109 h) q38_M rfl rfl, fun _ h => absurd h List.not_mem_nil⟩⟩⟩, fun _ h => absurd h List.not_mem_nil, fun _ h => absurd h List.not_mem_nil⟩ dkX6_readEither (by decide +kernel) (by rw [h.2.2.1]; exact q70_ok)
/-- NearSpell.Reader.readUnit -/
def q71_M : rfM := ((⟨"NearSpell$Reader", "readUnit", "(I)V"⟩, prog_8_method_14_code, 4, none), (60,2896), ([.inr (.inl [11]),.inl ((1,1,0),none)],[]), [(8,0),(10,11),(10,12),(11,4),(11,5),(11,6),(11,7),(11,9),(11,10)], [(none,[],[])])
def q71_P : rfP := (flX6,csX6,lcX6,spX6,[q20_M,q29_M,q18_M,q70_M,q40_M],[],[(46,2,6),(62,0,6),(78,3,6),(90,4,6),(109,1,1)],([],[]))
def q71_U : rfU := []
set_option maxHeartbeats 8000000 in
def q71_N : List rfB := [(0,([(0,.inr (.inl [11])),(1,.inl ((1,1,0),none))],[],[]),(81,[]),0),
  (15,([(0,.inr (.inl [11])),(1,.inl ((1,1,0),none)),(2,.inl ((0,1,1),none))],[],[]),(72,[]),0),
  (37,([(0,.inr (.inl [11])),(1,.inl ((1,1,0),none)),(2,.inl ((0,1,1),none))],[],[]),(61,[]),0),
  (39,([(0,.inr (.inl [11])),(1,.inl ((1,1,0),none)),(2,.inl ((0,1,1),none)),(3,.inl ((0,1,1),none))],[],[]),(59,[]),0),
  (62,([(0,.inr (.inl [11])),(1,.inl ((1,1,0),none)),(2,.inl ((0,1,1),none)),(3,.inl ((0,1,1),none))],[],[]),(47,[]),0),
  (90,([(0,.inr (.inl [11])),(1,.inl ((1,1,0),none)),(2,.inl ((0,1,1),none)),(3,.inl ((0,1,1),none))],[],[((10,10),(0,29,1),none)]),(37,[]),0),
  (127,([(0,.inr (.inl [11])),(1,.inl ((1,1,0),none)),(2,.inl ((0,0,1),none)),(3,.inl ((0,1,1),none))],[.inl (((-2147483648),2147483647,1),none),.inr (.inl [10])],[((10,10),(1,30,1),none)]),(18,[]),0)]
set_option maxRecDepth 100000 in
theorem q71_ok : rf_chkB q71_P q71_U wLay q71_M ddX6_readUnit [(58,[0]),(86,[0]),(127,[1]),(131,[2]),(136,[2]),(143,[3]),(149,[4])] [] [0,15,37,39,62,90,127] 600 q71_N = true := by decide +kernel
set_option maxHeartbeats 4000000 in
theorem q71_met {G : rfG} (h : okG G) (hh : wHandOK G) : rf_met G q71_M := rf_methodB h.1 (P := q71_P) (U := q71_U) (N := q71_N) ⟨wflT h flokX6, wcsT h csokX6, wlcT h lcokX6, spokX6 h, List.forall_mem_cons.mpr ⟨q20_met h hh, List.forall_mem_cons.mpr ⟨q29_met h hh, List.forall_mem_cons.mpr ⟨q18_met h hh, List.forall_mem_cons.mpr ⟨q70_met h hh, List.forall_mem_cons.mpr ⟨q40_met h hh, fun _ h => absurd h List.not_mem_nil⟩⟩⟩⟩⟩, fun _ h => absurd h List.not_mem_nil, List.forall_mem_cons.mpr ⟨fun M hM => Option.some.inj (show some q18_M = some M from hM) ▸ wlkV (lkX6_46 h) q18_M rfl rfl, List.forall_mem_cons.mpr ⟨fun M hM => Option.some.inj (show some q20_M = some M from hM) ▸ wlkV (lkX6_62 h) q20_M rfl rfl, List.forall_mem_cons.mpr ⟨fun M hM => Option.some.inj (show some q70_M = some M from hM) ▸ wlkV (lkX6_78 h) q70_M rfl rfl, List.forall_mem_cons.mpr ⟨fun M hM => Option.some.inj (show some q40_M = some M from hM) ▸ wlkV (lkX6_90 h) q40_M rfl rfl, List.forall_mem_cons.mpr ⟨fun M hM => Option.some.inj (show some q29_M = some M from hM) ▸ wlkV (lkX6_109 h) q29_M rfl rfl, fun _ h => absurd h List.not_mem_nil⟩⟩⟩⟩⟩, fun _ h => absurd h List.not_mem_nil, fun _ h => absurd h List.not_mem_nil⟩ dkX6_readUnit (by decide +kernel) (by rw [h.2.2.1]; exact q71_ok)
/-- NearSpell.Reader.readTerm -/
def q72_M : rfM := ((⟨"NearSpell$Reader", "readTerm", "(I)V"⟩, prog_8_method_13_code, 4, none), (61,2919), ([.inr (.inl [11]),.inl ((1,1,0),none)],[]), [(8,0),(10,11),(10,12),(11,4),(11,5),(11,6),(11,7),(11,9),(11,10)], [(none,[],[])])
def q72_P : rfP := (flX6,csX6,lcX6,spX6,[q71_M,q18_M,q31_M],[],[(46,1,6),(109,2,1),(121,0,6)],([],[]))
def q72_U : rfU := []
set_option maxHeartbeats 8000000 in
def q72_N : List rfB := [(0,([(0,.inr (.inl [11])),(1,.inl ((1,1,0),none))],[],[]),(49636,[0]),0),
  (7,([(0,.inr (.inl [11])),(1,.inl ((1,1,0),none)),(2,.inl ((0,1600,1),none))],[],[]),(49629,[(-31)]),0),
  (41,([(0,.inr (.inl [11])),(1,.inl ((1,1,0),none)),(2,.inl ((0,1599,1),none))],[],[((11,5),(37,47,1),none)]),(49614,[(-31)]),0),
  (70,([(0,.inr (.inl [11])),(1,.inl ((1,1,0),none)),(2,.inl ((0,1600,1),none))],[],[]),(0,[0]),0)]
set_option maxRecDepth 100000 in
theorem q72_ok : rf_chkB q72_P q72_U wLay q72_M ddX6_readTerm [(2,[0]),(47,[1]),(52,[0]),(61,[2])] [.inl 2] [0,7,41,70] 600 q72_N = true := by decide +kernel
set_option maxHeartbeats 4000000 in
theorem q72_met {G : rfG} (h : okG G) (hh : wHandOK G) : rf_met G q72_M := rf_methodB h.1 (P := q72_P) (U := q72_U) (N := q72_N) ⟨wflT h flokX6, wcsT h csokX6, wlcT h lcokX6, spokX6 h, List.forall_mem_cons.mpr ⟨q71_met h hh, List.forall_mem_cons.mpr ⟨q18_met h hh, List.forall_mem_cons.mpr ⟨q31_met h hh, fun _ h => absurd h List.not_mem_nil⟩⟩⟩, fun _ h => absurd h List.not_mem_nil, List.forall_mem_cons.mpr ⟨fun M hM => Option.some.inj (show some q18_M = some M from hM) ▸ wlkV (lkX6_46 h) q18_M rfl rfl, List.forall_mem_cons.mpr ⟨fun M hM => Option.some.inj (show some q31_M = some M from hM) ▸ wlkV (lkX6_109 h) q31_M rfl rfl, List.forall_mem_cons.mpr ⟨fun M hM => Option.some.inj (show some q71_M = some M from hM) ▸ wlkV (lkX6_121 h) q71_M rfl rfl, fun _ h => absurd h List.not_mem_nil⟩⟩⟩, fun _ h => absurd h List.not_mem_nil, fun _ h => absurd h List.not_mem_nil⟩ dkX6_readTerm (by decide +kernel) (by rw [h.2.2.1]; exact q72_ok)
/-- NearSpell.Reader.readSum -/
def q73_M : rfM := ((⟨"NearSpell$Reader", "readSum", "(I)V"⟩, prog_8_method_12_code, 4, none), (62,2942), ([.inr (.inl [11]),.inl ((1,1,0),none)],[]), [(8,0),(10,11),(10,12),(11,4),(11,5),(11,6),(11,7),(11,9),(11,10)], [(none,[],[])])
def q73_P : rfP := (flX6,csX6,lcX6,spX6,[q72_M,q18_M,q31_M],[],[(46,1,6),(109,2,1),(118,0,6)],([],[]))
def q73_U : rfU := []
set_option maxHeartbeats 8000000 in
def q73_N : List rfB := [(0,([(0,.inr (.inl [11])),(1,.inl ((1,1,0),none))],[],[]),(43232,[0]),0),
  (7,([(0,.inr (.inl [11])),(1,.inl ((1,1,0),none)),(2,.inl ((0,1600,1),none))],[],[]),(43225,[(-27)]),0),
  (32,([(0,.inr (.inl [11])),(1,.inl ((1,1,0),none)),(2,.inl ((0,1599,1),none))],[],[((11,5),(43,45,1),none)]),(43214,[(-27)]),0),
  (61,([(0,.inr (.inl [11])),(1,.inl ((1,1,0),none)),(2,.inl ((0,1600,1),none))],[],[]),(0,[0]),0)]
set_option maxRecDepth 100000 in
theorem q73_ok : rf_chkB q73_P q73_U wLay q73_M ddX6_readSum [(2,[0]),(38,[1]),(43,[0]),(52,[2])] [.inl 2] [0,7,32,61] 600 q73_N = true := by decide +kernel
set_option maxHeartbeats 4000000 in
theorem q73_met {G : rfG} (h : okG G) (hh : wHandOK G) : rf_met G q73_M := rf_methodB h.1 (P := q73_P) (U := q73_U) (N := q73_N) ⟨wflT h flokX6, wcsT h csokX6, wlcT h lcokX6, spokX6 h, List.forall_mem_cons.mpr ⟨q72_met h hh, List.forall_mem_cons.mpr ⟨q18_met h hh, List.forall_mem_cons.mpr ⟨q31_met h hh, fun _ h => absurd h List.not_mem_nil⟩⟩⟩, fun _ h => absurd h List.not_mem_nil, List.forall_mem_cons.mpr ⟨fun M hM => Option.some.inj (show some q18_M = some M from hM) ▸ wlkV (lkX6_46 h) q18_M rfl rfl, List.forall_mem_cons.mpr ⟨fun M hM => Option.some.inj (show some q31_M = some M from hM) ▸ wlkV (lkX6_109 h) q31_M rfl rfl, List.forall_mem_cons.mpr ⟨fun M hM => Option.some.inj (show some q72_M = some M from hM) ▸ wlkV (lkX6_118 h) q72_M rfl rfl, fun _ h => absurd h List.not_mem_nil⟩⟩⟩, fun _ h => absurd h List.not_mem_nil, fun _ h => absurd h List.not_mem_nil⟩ dkX6_readSum (by decide +kernel) (by rw [h.2.2.1]; exact q73_ok)
/-- NearSpell.Reader.readOne -/
def q74_M : rfM := ((⟨"NearSpell$Reader", "readOne", "(I)V"⟩, prog_8_method_11_code, 3, none), (63,2965), ([.inr (.inl [11]),.inl ((1,1,0),none)],[]), [(8,0),(10,11),(10,12),(11,4),(11,5),(11,6),(11,7),(11,9),(11,10)], [(none,[],[])])
def q74_P : rfP := (flX6,csX6,lcX6,spX6,[q18_M,q68_M,q35_M,q73_M,q31_M],[],[(46,0,6),(109,2,1),(109,4,1),(112,1,6),(115,3,6)],([],[]))
def q74_U : rfU := []
set_option maxHeartbeats 8000000 in
def q74_N : List rfB := [(0,([(0,.inr (.inl [11])),(1,.inl ((1,1,0),none))],[],[]),(44,[]),0),
  (70,([(0,.inr (.inl [11])),(1,.inl ((1,1,0),none)),(2,.inl ((60,62,1),some (.inr (11,5),some 0)))],[],[((11,5),(60,62,1),none)]),(10,[]),0),
  (88,([(0,.inr (.inl [11])),(1,.inl ((1,1,0),none)),(2,.inl (((-128),127,1),none))],[],[]),(0,[]),0)]
set_option maxRecDepth 100000 in
theorem q74_ok : rf_chkB q74_P q74_U wLay q74_M ddX6_readOne [(22,[0]),(29,[1]),(38,[2]),(44,[3]),(71,[0]),(76,[3]),(85,[4])] [] [0,70,88] 600 q74_N = true := by decide +kernel
set_option maxHeartbeats 4000000 in
theorem q74_met {G : rfG} (h : okG G) (hh : wHandOK G) : rf_met G q74_M := rf_methodB h.1 (P := q74_P) (U := q74_U) (N := q74_N) ⟨wflT h flokX6, wcsT h csokX6, wlcT h lcokX6, spokX6 h, List.forall_mem_cons.mpr ⟨q18_met h hh, List.forall_mem_cons.mpr ⟨q68_met h hh, List.forall_mem_cons.mpr ⟨q35_met h hh, List.forall_mem_cons.mpr ⟨q73_met h hh, List.forall_mem_cons.mpr ⟨q31_met h hh, fun _ h => absurd h List.not_mem_nil⟩⟩⟩⟩⟩, fun _ h => absurd h List.not_mem_nil, List.forall_mem_cons.mpr ⟨fun M hM => Option.some.inj (show some q18_M = some M from hM) ▸ wlkV (lkX6_46 h) q18_M rfl rfl, List.forall_mem_cons.mpr ⟨fun M hM => Option.some.inj (show some q35_M = some M from hM) ▸ wlkV (lkX6_109 h) q35_M rfl rfl, List.forall_mem_cons.mpr ⟨fun M hM => Option.some.inj (show some q31_M = some M from hM) ▸ wlkV (lkX6_109 h) q31_M rfl rfl, List.forall_mem_cons.mpr ⟨fun M hM => Option.some.inj (show some q68_M = some M from hM) ▸ wlkV (lkX6_112 h) q68_M rfl rfl, List.forall_mem_cons.mpr ⟨fun M hM => Option.some.inj (show some q73_M = some M from hM) ▸ wlkV (lkX6_115 h) q73_M rfl rfl, fun _ h => absurd h List.not_mem_nil⟩⟩⟩⟩⟩, fun _ h => absurd h List.not_mem_nil, fun _ h => absurd h List.not_mem_nil⟩ dkX6_readOne (by decide +kernel) (by rw [h.2.2.1]; exact q74_ok)
/-- NearSpell.Reader.readBoth -/
def q75_M : rfM := ((⟨"NearSpell$Reader", "readBoth", "(I)V"⟩, prog_8_method_10_code, 3, none), (64,2987), ([.inr (.inl [11]),.inl ((1,1,0),none)],[]), [(8,0),(10,11),(10,12),(11,4),(11,5),(11,6),(11,7),(11,9),(11,10)], [(none,[],[])])
def q75_P : rfP := (flX6,csX6,lcX6,spX6,[q74_M,q18_M,q36_M],[],[(46,1,6),(109,2,1),(112,0,6)],([],[]))
def q75_U : rfU := []
set_option maxHeartbeats 8000000 in
def q75_N : List rfB := [(0,([(0,.inr (.inl [11])),(1,.inl ((1,1,0),none))],[],[]),(30424,[0]),0),
  (7,([(0,.inr (.inl [11])),(1,.inl ((1,1,0),none)),(2,.inl ((0,1600,1),none))],[],[]),(30417,[(-19)]),0),
  (47,([(0,.inr (.inl [11])),(1,.inl ((1,1,0),none)),(2,.inl ((0,1600,1),none))],[],[]),(0,[0]),0)]
set_option maxRecDepth 100000 in
theorem q75_ok : rf_chkB q75_P q75_U wLay q75_M ddX6_readBoth [(2,[0]),(24,[1]),(29,[0]),(38,[2])] [.inl 2] [0,7,47] 600 q75_N = true := by decide +kernel
set_option maxHeartbeats 4000000 in
theorem q75_met {G : rfG} (h : okG G) (hh : wHandOK G) : rf_met G q75_M := rf_methodB h.1 (P := q75_P) (U := q75_U) (N := q75_N) ⟨wflT h flokX6, wcsT h csokX6, wlcT h lcokX6, spokX6 h, List.forall_mem_cons.mpr ⟨q74_met h hh, List.forall_mem_cons.mpr ⟨q18_met h hh, List.forall_mem_cons.mpr ⟨q36_met h hh, fun _ h => absurd h List.not_mem_nil⟩⟩⟩, fun _ h => absurd h List.not_mem_nil, List.forall_mem_cons.mpr ⟨fun M hM => Option.some.inj (show some q18_M = some M from hM) ▸ wlkV (lkX6_46 h) q18_M rfl rfl, List.forall_mem_cons.mpr ⟨fun M hM => Option.some.inj (show some q36_M = some M from hM) ▸ wlkV (lkX6_109 h) q36_M rfl rfl, List.forall_mem_cons.mpr ⟨fun M hM => Option.some.inj (show some q74_M = some M from hM) ▸ wlkV (lkX6_112 h) q74_M rfl rfl, fun _ h => absurd h List.not_mem_nil⟩⟩⟩, fun _ h => absurd h List.not_mem_nil, fun _ h => absurd h List.not_mem_nil⟩ dkX6_readBoth (by decide +kernel) (by rw [h.2.2.1]; exact q75_ok)
/-- NearSpell.Reader.readEither -/
def q76_M : rfM := ((⟨"NearSpell$Reader", "readEither", "(I)V"⟩, prog_8_method_9_code, 3, none), (65,3009), ([.inr (.inl [11]),.inl ((1,1,0),none)],[]), [(8,0),(10,11),(10,12),(11,4),(11,5),(11,6),(11,7),(11,9),(11,10)], [(none,[],[])])
def q76_P : rfP := (flX6,csX6,lcX6,spX6,[q75_M,q18_M,q38_M],[],[(46,1,6),(106,0,6),(109,2,1)],([],[]))
def q76_U : rfU := []
set_option maxHeartbeats 8000000 in
def q76_N : List rfB := [(0,([(0,.inr (.inl [11])),(1,.inl ((1,1,0),none))],[],[]),(30424,[0]),0),
  (7,([(0,.inr (.inl [11])),(1,.inl ((1,1,0),none)),(2,.inl ((0,1600,1),none))],[],[]),(30417,[(-19)]),0),
  (47,([(0,.inr (.inl [11])),(1,.inl ((1,1,0),none)),(2,.inl ((0,1600,1),none))],[],[]),(0,[0]),0)]
set_option maxRecDepth 100000 in
theorem q76_ok : rf_chkB q76_P q76_U wLay q76_M ddX6_readEither [(2,[0]),(24,[1]),(29,[0]),(38,[2])] [.inl 2] [0,7,47] 600 q76_N = true := by decide +kernel
set_option maxHeartbeats 4000000 in
theorem q76_met {G : rfG} (h : okG G) (hh : wHandOK G) : rf_met G q76_M := rf_methodB h.1 (P := q76_P) (U := q76_U) (N := q76_N) ⟨wflT h flokX6, wcsT h csokX6, wlcT h lcokX6, spokX6 h, List.forall_mem_cons.mpr ⟨q75_met h hh, List.forall_mem_cons.mpr ⟨q18_met h hh, List.forall_mem_cons.mpr ⟨q38_met h hh, fun _ h => absurd h List.not_mem_nil⟩⟩⟩, fun _ h => absurd h List.not_mem_nil, List.forall_mem_cons.mpr ⟨fun M hM => Option.some.inj (show some q18_M = some M from hM) ▸ wlkV (lkX6_46 h) q18_M rfl rfl, List.forall_mem_cons.mpr ⟨fun M hM => Option.some.inj (show some q75_M = some M from hM) ▸ wlkV (lkX6_106 h) q75_M rfl rfl, List.forall_mem_cons.mpr ⟨fun M hM => Option.some.inj (show some q38_M = some M from hM) ▸ wlkV (lkX6_109 h) q38_M rfl rfl, fun _ h => absurd h List.not_mem_nil⟩⟩⟩, fun _ h => absurd h List.not_mem_nil, fun _ h => absurd h List.not_mem_nil⟩ dkX6_readEither (by decide +kernel) (by rw [h.2.2.1]; exact q76_ok)
/-- NearSpell.Reader.readUnit -/
def q77_M : rfM := ((⟨"NearSpell$Reader", "readUnit", "(I)V"⟩, prog_8_method_14_code, 4, none), (66,3031), ([.inr (.inl [11]),.inl ((0,0,0),none)],[]), [(8,0),(10,11),(10,12),(11,4),(11,5),(11,6),(11,7),(11,9),(11,10)], [(none,[],[])])
def q77_P : rfP := (flX6,csX6,lcX6,spX6,[q20_M,q29_M,q18_M,q76_M,q40_M],[],[(46,2,6),(62,0,6),(78,3,6),(90,4,6),(109,1,1)],([],[]))
def q77_U : rfU := []
set_option maxHeartbeats 8000000 in
def q77_N : List rfB := [(0,([(0,.inr (.inl [11])),(1,.inl ((0,0,0),none))],[],[]),(81,[]),0),
  (15,([(0,.inr (.inl [11])),(1,.inl ((0,0,0),none)),(2,.inl ((0,1,1),none))],[],[]),(72,[]),0),
  (37,([(0,.inr (.inl [11])),(1,.inl ((0,0,0),none)),(2,.inl ((0,1,1),none))],[],[]),(61,[]),0),
  (39,([(0,.inr (.inl [11])),(1,.inl ((0,0,0),none)),(2,.inl ((0,1,1),none)),(3,.inl ((0,1,1),none))],[],[]),(59,[]),0),
  (62,([(0,.inr (.inl [11])),(1,.inl ((0,0,0),none)),(2,.inl ((0,1,1),none)),(3,.inl ((0,1,1),none))],[],[]),(47,[]),0),
  (90,([(0,.inr (.inl [11])),(1,.inl ((0,0,0),none)),(2,.inl ((0,1,1),none)),(3,.inl ((0,1,1),none))],[],[((10,10),(0,29,1),none)]),(37,[]),0),
  (127,([(0,.inr (.inl [11])),(1,.inl ((0,0,0),none)),(2,.inl ((0,0,1),none)),(3,.inl ((0,1,1),none))],[.inl (((-2147483648),2147483647,1),none),.inr (.inl [10])],[((10,10),(1,30,1),none)]),(18,[]),0)]
set_option maxRecDepth 100000 in
theorem q77_ok : rf_chkB q77_P q77_U wLay q77_M ddX6_readUnit [(58,[0]),(86,[0]),(127,[1]),(131,[2]),(136,[2]),(143,[3]),(149,[4])] [] [0,15,37,39,62,90,127] 600 q77_N = true := by decide +kernel
set_option maxHeartbeats 4000000 in
theorem q77_met {G : rfG} (h : okG G) (hh : wHandOK G) : rf_met G q77_M := rf_methodB h.1 (P := q77_P) (U := q77_U) (N := q77_N) ⟨wflT h flokX6, wcsT h csokX6, wlcT h lcokX6, spokX6 h, List.forall_mem_cons.mpr ⟨q20_met h hh, List.forall_mem_cons.mpr ⟨q29_met h hh, List.forall_mem_cons.mpr ⟨q18_met h hh, List.forall_mem_cons.mpr ⟨q76_met h hh, List.forall_mem_cons.mpr ⟨q40_met h hh, fun _ h => absurd h List.not_mem_nil⟩⟩⟩⟩⟩, fun _ h => absurd h List.not_mem_nil, List.forall_mem_cons.mpr ⟨fun M hM => Option.some.inj (show some q18_M = some M from hM) ▸ wlkV (lkX6_46 h) q18_M rfl rfl, List.forall_mem_cons.mpr ⟨fun M hM => Option.some.inj (show some q20_M = some M from hM) ▸ wlkV (lkX6_62 h) q20_M rfl rfl, List.forall_mem_cons.mpr ⟨fun M hM => Option.some.inj (show some q76_M = some M from hM) ▸ wlkV (lkX6_78 h) q76_M rfl rfl, List.forall_mem_cons.mpr ⟨fun M hM => Option.some.inj (show some q40_M = some M from hM) ▸ wlkV (lkX6_90 h) q40_M rfl rfl, List.forall_mem_cons.mpr ⟨fun M hM => Option.some.inj (show some q29_M = some M from hM) ▸ wlkV (lkX6_109 h) q29_M rfl rfl, fun _ h => absurd h List.not_mem_nil⟩⟩⟩⟩⟩, fun _ h => absurd h List.not_mem_nil, fun _ h => absurd h List.not_mem_nil⟩ dkX6_readUnit (by decide +kernel) (by rw [h.2.2.1]; exact q77_ok)
/-- NearSpell.Reader.readTerm -/
def q78_M : rfM := ((⟨"NearSpell$Reader", "readTerm", "(I)V"⟩, prog_8_method_13_code, 4, none), (67,3054), ([.inr (.inl [11]),.inl ((0,0,0),none)],[]), [(8,0),(10,11),(10,12),(11,4),(11,5),(11,6),(11,7),(11,9),(11,10)], [(none,[],[])])
def q78_P : rfP := (flX6,csX6,lcX6,spX6,[q77_M,q18_M,q31_M],[],[(46,1,6),(109,2,1),(121,0,6)],([],[]))
def q78_U : rfU := []
set_option maxHeartbeats 8000000 in
def q78_N : List rfB := [(0,([(0,.inr (.inl [11])),(1,.inl ((0,0,0),none))],[],[]),(49636,[0]),0),
  (7,([(0,.inr (.inl [11])),(1,.inl ((0,0,0),none)),(2,.inl ((0,1600,1),none))],[],[]),(49629,[(-31)]),0),
  (41,([(0,.inr (.inl [11])),(1,.inl ((0,0,0),none)),(2,.inl ((0,1599,1),none))],[],[((11,5),(37,47,1),none)]),(49614,[(-31)]),0),
  (70,([(0,.inr (.inl [11])),(1,.inl ((0,0,0),none)),(2,.inl ((0,1600,1),none))],[],[]),(0,[0]),0)]
set_option maxRecDepth 100000 in
theorem q78_ok : rf_chkB q78_P q78_U wLay q78_M ddX6_readTerm [(2,[0]),(47,[1]),(52,[0]),(61,[2])] [.inl 2] [0,7,41,70] 600 q78_N = true := by decide +kernel
set_option maxHeartbeats 4000000 in
theorem q78_met {G : rfG} (h : okG G) (hh : wHandOK G) : rf_met G q78_M := rf_methodB h.1 (P := q78_P) (U := q78_U) (N := q78_N) ⟨wflT h flokX6, wcsT h csokX6, wlcT h lcokX6, spokX6 h, List.forall_mem_cons.mpr ⟨q77_met h hh, List.forall_mem_cons.mpr ⟨q18_met h hh, List.forall_mem_cons.mpr ⟨q31_met h hh, fun _ h => absurd h List.not_mem_nil⟩⟩⟩, fun _ h => absurd h List.not_mem_nil, List.forall_mem_cons.mpr ⟨fun M hM => Option.some.inj (show some q18_M = some M from hM) ▸ wlkV (lkX6_46 h) q18_M rfl rfl, List.forall_mem_cons.mpr ⟨fun M hM => Option.some.inj (show some q31_M = some M from hM) ▸ wlkV (lkX6_109 h) q31_M rfl rfl, List.forall_mem_cons.mpr ⟨fun M hM => Option.some.inj (show some q77_M = some M from hM) ▸ wlkV (lkX6_121 h) q77_M rfl rfl, fun _ h => absurd h List.not_mem_nil⟩⟩⟩, fun _ h => absurd h List.not_mem_nil, fun _ h => absurd h List.not_mem_nil⟩ dkX6_readTerm (by decide +kernel) (by rw [h.2.2.1]; exact q78_ok)
/-- NearSpell.Reader.readSum -/
def q79_M : rfM := ((⟨"NearSpell$Reader", "readSum", "(I)V"⟩, prog_8_method_12_code, 4, none), (68,3077), ([.inr (.inl [11]),.inl ((0,0,0),none)],[]), [(8,0),(10,11),(10,12),(11,4),(11,5),(11,6),(11,7),(11,9),(11,10)], [(none,[],[])])
def q79_P : rfP := (flX6,csX6,lcX6,spX6,[q78_M,q18_M,q31_M],[],[(46,1,6),(109,2,1),(118,0,6)],([],[]))
def q79_U : rfU := []
set_option maxHeartbeats 8000000 in
def q79_N : List rfB := [(0,([(0,.inr (.inl [11])),(1,.inl ((0,0,0),none))],[],[]),(43232,[0]),0),
  (7,([(0,.inr (.inl [11])),(1,.inl ((0,0,0),none)),(2,.inl ((0,1600,1),none))],[],[]),(43225,[(-27)]),0),
  (32,([(0,.inr (.inl [11])),(1,.inl ((0,0,0),none)),(2,.inl ((0,1599,1),none))],[],[((11,5),(43,45,1),none)]),(43214,[(-27)]),0),
  (61,([(0,.inr (.inl [11])),(1,.inl ((0,0,0),none)),(2,.inl ((0,1600,1),none))],[],[]),(0,[0]),0)]
set_option maxRecDepth 100000 in
theorem q79_ok : rf_chkB q79_P q79_U wLay q79_M ddX6_readSum [(2,[0]),(38,[1]),(43,[0]),(52,[2])] [.inl 2] [0,7,32,61] 600 q79_N = true := by decide +kernel
set_option maxHeartbeats 4000000 in
theorem q79_met {G : rfG} (h : okG G) (hh : wHandOK G) : rf_met G q79_M := rf_methodB h.1 (P := q79_P) (U := q79_U) (N := q79_N) ⟨wflT h flokX6, wcsT h csokX6, wlcT h lcokX6, spokX6 h, List.forall_mem_cons.mpr ⟨q78_met h hh, List.forall_mem_cons.mpr ⟨q18_met h hh, List.forall_mem_cons.mpr ⟨q31_met h hh, fun _ h => absurd h List.not_mem_nil⟩⟩⟩, fun _ h => absurd h List.not_mem_nil, List.forall_mem_cons.mpr ⟨fun M hM => Option.some.inj (show some q18_M = some M from hM) ▸ wlkV (lkX6_46 h) q18_M rfl rfl, List.forall_mem_cons.mpr ⟨fun M hM => Option.some.inj (show some q31_M = some M from hM) ▸ wlkV (lkX6_109 h) q31_M rfl rfl, List.forall_mem_cons.mpr ⟨fun M hM => Option.some.inj (show some q78_M = some M from hM) ▸ wlkV (lkX6_118 h) q78_M rfl rfl, fun _ h => absurd h List.not_mem_nil⟩⟩⟩, fun _ h => absurd h List.not_mem_nil, fun _ h => absurd h List.not_mem_nil⟩ dkX6_readSum (by decide +kernel) (by rw [h.2.2.1]; exact q79_ok)
/-- NearSpell.Reader.readOne -/
def q80_M : rfM := ((⟨"NearSpell$Reader", "readOne", "(I)V"⟩, prog_8_method_11_code, 3, none), (69,3100), ([.inr (.inl [11]),.inl ((0,0,0),none)],[]), [(8,0),(10,11),(10,12),(11,4),(11,5),(11,6),(11,7),(11,9),(11,10)], [(none,[],[])])
def q80_P : rfP := (flX6,csX6,lcX6,spX6,[q18_M,q74_M,q35_M,q79_M,q31_M],[],[(46,0,6),(109,2,1),(109,4,1),(112,1,6),(115,3,6)],([],[]))
def q80_U : rfU := []
set_option maxHeartbeats 8000000 in
def q80_N : List rfB := [(0,([(0,.inr (.inl [11])),(1,.inl ((0,0,0),none))],[],[]),(44,[]),0),
  (70,([(0,.inr (.inl [11])),(1,.inl ((0,0,0),none)),(2,.inl ((60,62,1),some (.inr (11,5),some 0)))],[],[((11,5),(60,62,1),none)]),(10,[]),0),
  (88,([(0,.inr (.inl [11])),(1,.inl ((0,0,0),none)),(2,.inl (((-128),127,1),none))],[],[]),(0,[]),0)]
set_option maxRecDepth 100000 in
theorem q80_ok : rf_chkB q80_P q80_U wLay q80_M ddX6_readOne [(22,[0]),(29,[1]),(38,[2]),(44,[3]),(71,[0]),(76,[3]),(85,[4])] [] [0,70,88] 600 q80_N = true := by decide +kernel
set_option maxHeartbeats 4000000 in
theorem q80_met {G : rfG} (h : okG G) (hh : wHandOK G) : rf_met G q80_M := rf_methodB h.1 (P := q80_P) (U := q80_U) (N := q80_N) ⟨wflT h flokX6, wcsT h csokX6, wlcT h lcokX6, spokX6 h, List.forall_mem_cons.mpr ⟨q18_met h hh, List.forall_mem_cons.mpr ⟨q74_met h hh, List.forall_mem_cons.mpr ⟨q35_met h hh, List.forall_mem_cons.mpr ⟨q79_met h hh, List.forall_mem_cons.mpr ⟨q31_met h hh, fun _ h => absurd h List.not_mem_nil⟩⟩⟩⟩⟩, fun _ h => absurd h List.not_mem_nil, List.forall_mem_cons.mpr ⟨fun M hM => Option.some.inj (show some q18_M = some M from hM) ▸ wlkV (lkX6_46 h) q18_M rfl rfl, List.forall_mem_cons.mpr ⟨fun M hM => Option.some.inj (show some q35_M = some M from hM) ▸ wlkV (lkX6_109 h) q35_M rfl rfl, List.forall_mem_cons.mpr ⟨fun M hM => Option.some.inj (show some q31_M = some M from hM) ▸ wlkV (lkX6_109 h) q31_M rfl rfl, List.forall_mem_cons.mpr ⟨fun M hM => Option.some.inj (show some q74_M = some M from hM) ▸ wlkV (lkX6_112 h) q74_M rfl rfl, List.forall_mem_cons.mpr ⟨fun M hM => Option.some.inj (show some q79_M = some M from hM) ▸ wlkV (lkX6_115 h) q79_M rfl rfl, fun _ h => absurd h List.not_mem_nil⟩⟩⟩⟩⟩, fun _ h => absurd h List.not_mem_nil, fun _ h => absurd h List.not_mem_nil⟩ dkX6_readOne (by decide +kernel) (by rw [h.2.2.1]; exact q80_ok)
/-- NearSpell.Reader.readBoth -/
def q81_M : rfM := ((⟨"NearSpell$Reader", "readBoth", "(I)V"⟩, prog_8_method_10_code, 3, none), (70,3122), ([.inr (.inl [11]),.inl ((0,0,0),none)],[]), [(8,0),(10,11),(10,12),(11,4),(11,5),(11,6),(11,7),(11,9),(11,10)], [(none,[],[])])
def q81_P : rfP := (flX6,csX6,lcX6,spX6,[q80_M,q18_M,q36_M],[],[(46,1,6),(109,2,1),(112,0,6)],([],[]))
def q81_U : rfU := []
set_option maxHeartbeats 8000000 in
def q81_N : List rfB := [(0,([(0,.inr (.inl [11])),(1,.inl ((0,0,0),none))],[],[]),(30424,[0]),0),
  (7,([(0,.inr (.inl [11])),(1,.inl ((0,0,0),none)),(2,.inl ((0,1600,1),none))],[],[]),(30417,[(-19)]),0),
  (47,([(0,.inr (.inl [11])),(1,.inl ((0,0,0),none)),(2,.inl ((0,1600,1),none))],[],[]),(0,[0]),0)]
set_option maxRecDepth 100000 in
theorem q81_ok : rf_chkB q81_P q81_U wLay q81_M ddX6_readBoth [(2,[0]),(24,[1]),(29,[0]),(38,[2])] [.inl 2] [0,7,47] 600 q81_N = true := by decide +kernel
set_option maxHeartbeats 4000000 in
theorem q81_met {G : rfG} (h : okG G) (hh : wHandOK G) : rf_met G q81_M := rf_methodB h.1 (P := q81_P) (U := q81_U) (N := q81_N) ⟨wflT h flokX6, wcsT h csokX6, wlcT h lcokX6, spokX6 h, List.forall_mem_cons.mpr ⟨q80_met h hh, List.forall_mem_cons.mpr ⟨q18_met h hh, List.forall_mem_cons.mpr ⟨q36_met h hh, fun _ h => absurd h List.not_mem_nil⟩⟩⟩, fun _ h => absurd h List.not_mem_nil, List.forall_mem_cons.mpr ⟨fun M hM => Option.some.inj (show some q18_M = some M from hM) ▸ wlkV (lkX6_46 h) q18_M rfl rfl, List.forall_mem_cons.mpr ⟨fun M hM => Option.some.inj (show some q36_M = some M from hM) ▸ wlkV (lkX6_109 h) q36_M rfl rfl, List.forall_mem_cons.mpr ⟨fun M hM => Option.some.inj (show some q80_M = some M from hM) ▸ wlkV (lkX6_112 h) q80_M rfl rfl, fun _ h => absurd h List.not_mem_nil⟩⟩⟩, fun _ h => absurd h List.not_mem_nil, fun _ h => absurd h List.not_mem_nil⟩ dkX6_readBoth (by decide +kernel) (by rw [h.2.2.1]; exact q81_ok)
/-- NearSpell.Reader.readEither -/
def q82_M : rfM := ((⟨"NearSpell$Reader", "readEither", "(I)V"⟩, prog_8_method_9_code, 3, none), (71,3144), ([.inr (.inl [11]),.inl ((0,0,0),none)],[]), [(8,0),(10,11),(10,12),(11,4),(11,5),(11,6),(11,7),(11,9),(11,10)], [(none,[],[])])
def q82_P : rfP := (flX6,csX6,lcX6,spX6,[q81_M,q18_M,q38_M],[],[(46,1,6),(106,0,6),(109,2,1)],([],[]))
def q82_U : rfU := []
set_option maxHeartbeats 8000000 in
def q82_N : List rfB := [(0,([(0,.inr (.inl [11])),(1,.inl ((0,0,0),none))],[],[]),(30424,[0]),0),
  (7,([(0,.inr (.inl [11])),(1,.inl ((0,0,0),none)),(2,.inl ((0,1600,1),none))],[],[]),(30417,[(-19)]),0),
  (47,([(0,.inr (.inl [11])),(1,.inl ((0,0,0),none)),(2,.inl ((0,1600,1),none))],[],[]),(0,[0]),0)]
set_option maxRecDepth 100000 in
theorem q82_ok : rf_chkB q82_P q82_U wLay q82_M ddX6_readEither [(2,[0]),(24,[1]),(29,[0]),(38,[2])] [.inl 2] [0,7,47] 600 q82_N = true := by decide +kernel
set_option maxHeartbeats 4000000 in
theorem q82_met {G : rfG} (h : okG G) (hh : wHandOK G) : rf_met G q82_M := rf_methodB h.1 (P := q82_P) (U := q82_U) (N := q82_N) ⟨wflT h flokX6, wcsT h csokX6, wlcT h lcokX6, spokX6 h, List.forall_mem_cons.mpr ⟨q81_met h hh, List.forall_mem_cons.mpr ⟨q18_met h hh, List.forall_mem_cons.mpr ⟨q38_met h hh, fun _ h => absurd h List.not_mem_nil⟩⟩⟩, fun _ h => absurd h List.not_mem_nil, List.forall_mem_cons.mpr ⟨fun M hM => Option.some.inj (show some q18_M = some M from hM) ▸ wlkV (lkX6_46 h) q18_M rfl rfl, List.forall_mem_cons.mpr ⟨fun M hM => Option.some.inj (show some q81_M = some M from hM) ▸ wlkV (lkX6_106 h) q81_M rfl rfl, List.forall_mem_cons.mpr ⟨fun M hM => Option.some.inj (show some q38_M = some M from hM) ▸ wlkV (lkX6_109 h) q38_M rfl rfl, fun _ h => absurd h List.not_mem_nil⟩⟩⟩, fun _ h => absurd h List.not_mem_nil, fun _ h => absurd h List.not_mem_nil⟩ dkX6_readEither (by decide +kernel) (by rw [h.2.2.1]; exact q82_ok)
/-- NearSpell.Reader.readNumber -/
def q83_M : rfM := ((⟨"NearSpell$Reader", "readNumber", "(II)I"⟩, prog_8_method_7_code, 4, (some .int)), (24,2086), ([.inr (.inl [11]),.inl ((1,1,0),none),.inl ((31,31,0),none)],[]), [(11,4),(11,5),(11,6),(11,7),(11,9),(11,10)], [(some (.inl ((1,31,1),none)),[],[])])
def q83_P : rfP := (flX6,csX6,lcX6,spX6,[q20_M,q21_M,q18_M],[],[(46,2,6),(62,0,6),(62,1,6)],([],[]))
def q83_U : rfU := []
set_option maxHeartbeats 8000000 in
def q83_N : List rfB := [(0,([(0,.inr (.inl [11])),(1,.inl ((1,1,0),none)),(2,.inl ((31,31,0),none))],[],[]),(26,[]),0),
  (31,([(0,.inr (.inl [11])),(1,.inl ((1,1,0),none)),(2,.inl ((31,31,0),none)),(3,.inl (((-2147483648),2147483647,1),some (.inr (11,6),some 0)))],[],[((11,5),(15,15,1),none)]),(4,[]),0)]
set_option maxRecDepth 100000 in
theorem q83_ok : rf_chkB q83_P q83_U wLay q83_M ddX6_readNumber [(16,[0]),(33,[1]),(39,[2])] [] [0,31] 600 q83_N = true := by decide +kernel
set_option maxHeartbeats 4000000 in
theorem q83_met {G : rfG} (h : okG G) (hh : wHandOK G) : rf_met G q83_M := rf_methodB h.1 (P := q83_P) (U := q83_U) (N := q83_N) ⟨wflT h flokX6, wcsT h csokX6, wlcT h lcokX6, spokX6 h, List.forall_mem_cons.mpr ⟨q20_met h hh, List.forall_mem_cons.mpr ⟨q21_met h hh, List.forall_mem_cons.mpr ⟨q18_met h hh, fun _ h => absurd h List.not_mem_nil⟩⟩⟩, fun _ h => absurd h List.not_mem_nil, List.forall_mem_cons.mpr ⟨fun M hM => Option.some.inj (show some q18_M = some M from hM) ▸ wlkV (lkX6_46 h) q18_M rfl rfl, List.forall_mem_cons.mpr ⟨fun M hM => Option.some.inj (show some q20_M = some M from hM) ▸ wlkV (lkX6_62 h) q20_M rfl rfl, List.forall_mem_cons.mpr ⟨fun M hM => Option.some.inj (show some q21_M = some M from hM) ▸ wlkV (lkX6_62 h) q21_M rfl rfl, fun _ h => absurd h List.not_mem_nil⟩⟩⟩, fun _ h => absurd h List.not_mem_nil, fun _ h => absurd h List.not_mem_nil⟩ dkX6_readNumber (by decide +kernel) (by rw [h.2.2.1]; exact q83_ok)
/-- NearSpell.Reader.readNumber -/
def q84_M : rfM := ((⟨"NearSpell$Reader", "readNumber", "(II)I"⟩, prog_8_method_7_code, 4, (some .int)), (24,2086), ([.inr (.inl [11]),.inl ((0,0,0),none),.inl ((100,100,0),none)],[]), [(11,4),(11,5),(11,6),(11,7),(11,9),(11,10)], [(some (.inl ((0,100,1),none)),[],[])])
def q84_P : rfP := (flX6,csX6,lcX6,spX6,[q20_M,q21_M,q18_M],[],[(46,2,6),(62,0,6),(62,1,6)],([],[]))
def q84_U : rfU := []
set_option maxHeartbeats 8000000 in
def q84_N : List rfB := [(0,([(0,.inr (.inl [11])),(1,.inl ((0,0,0),none)),(2,.inl ((100,100,0),none))],[],[]),(26,[]),0),
  (31,([(0,.inr (.inl [11])),(1,.inl ((0,0,0),none)),(2,.inl ((100,100,0),none)),(3,.inl (((-2147483648),2147483647,1),some (.inr (11,6),some 0)))],[],[((11,5),(15,15,1),none)]),(4,[]),0)]
set_option maxRecDepth 100000 in
theorem q84_ok : rf_chkB q84_P q84_U wLay q84_M ddX6_readNumber [(16,[0]),(33,[1]),(39,[2])] [] [0,31] 600 q84_N = true := by decide +kernel
set_option maxHeartbeats 4000000 in
theorem q84_met {G : rfG} (h : okG G) (hh : wHandOK G) : rf_met G q84_M := rf_methodB h.1 (P := q84_P) (U := q84_U) (N := q84_N) ⟨wflT h flokX6, wcsT h csokX6, wlcT h lcokX6, spokX6 h, List.forall_mem_cons.mpr ⟨q20_met h hh, List.forall_mem_cons.mpr ⟨q21_met h hh, List.forall_mem_cons.mpr ⟨q18_met h hh, fun _ h => absurd h List.not_mem_nil⟩⟩⟩, fun _ h => absurd h List.not_mem_nil, List.forall_mem_cons.mpr ⟨fun M hM => Option.some.inj (show some q18_M = some M from hM) ▸ wlkV (lkX6_46 h) q18_M rfl rfl, List.forall_mem_cons.mpr ⟨fun M hM => Option.some.inj (show some q20_M = some M from hM) ▸ wlkV (lkX6_62 h) q20_M rfl rfl, List.forall_mem_cons.mpr ⟨fun M hM => Option.some.inj (show some q21_M = some M from hM) ▸ wlkV (lkX6_62 h) q21_M rfl rfl, fun _ h => absurd h List.not_mem_nil⟩⟩⟩, fun _ h => absurd h List.not_mem_nil, fun _ h => absurd h List.not_mem_nil⟩ dkX6_readNumber (by decide +kernel) (by rw [h.2.2.1]; exact q84_ok)
/-- NearSpell.Reader.expect -/
def q85_M : rfM := ((⟨"NearSpell$Reader", "expect", "(I)V"⟩, prog_8_method_8_code, 2, none), (24,2086), ([.inr (.inl [11]),.inl ((59,59,0),none)],[]), [(11,4),(11,5),(11,6),(11,7),(11,9),(11,10)], [(none,[],[])])
def q85_P : rfP := (flX6,csX6,lcX6,spX6,[q18_M,q20_M],[],[(46,0,6),(62,1,6)],([],[]))
def q85_U : rfU := []
set_option maxHeartbeats 8000000 in
def q85_N : List rfB := [(0,([(0,.inr (.inl [11])),(1,.inl ((59,59,0),none))],[],[]),(10,[]),0),
  (20,([(0,.inr (.inl [11])),(1,.inl ((59,59,0),none))],[],[]),(0,[]),0)]
set_option maxRecDepth 100000 in
theorem q85_ok : rf_chkB q85_P q85_U wLay q85_M ddX6_expect [(9,[0]),(17,[1])] [] [0,20] 600 q85_N = true := by decide +kernel
set_option maxHeartbeats 4000000 in
theorem q85_met {G : rfG} (h : okG G) (hh : wHandOK G) : rf_met G q85_M := rf_methodB h.1 (P := q85_P) (U := q85_U) (N := q85_N) ⟨wflT h flokX6, wcsT h csokX6, wlcT h lcokX6, spokX6 h, List.forall_mem_cons.mpr ⟨q18_met h hh, List.forall_mem_cons.mpr ⟨q20_met h hh, fun _ h => absurd h List.not_mem_nil⟩⟩, fun _ h => absurd h List.not_mem_nil, List.forall_mem_cons.mpr ⟨fun M hM => Option.some.inj (show some q18_M = some M from hM) ▸ wlkV (lkX6_46 h) q18_M rfl rfl, List.forall_mem_cons.mpr ⟨fun M hM => Option.some.inj (show some q20_M = some M from hM) ▸ wlkV (lkX6_62 h) q20_M rfl rfl, fun _ h => absurd h List.not_mem_nil⟩⟩, fun _ h => absurd h List.not_mem_nil, fun _ h => absurd h List.not_mem_nil⟩ dkX6_expect (by decide +kernel) (by rw [h.2.2.1]; exact q85_ok)
/-- NearSpell.Reader.readLine -/
def q86_M : rfM := ((⟨"NearSpell$Reader", "readLine", "()V"⟩, prog_8_method_4_code, 2, none), (72,3166), ([.inr (.inl [11])],[]), [(6,0),(7,0),(8,0),(10,5),(10,6),(10,7),(10,8),(10,9),(10,10),(10,11),(10,12),(11,4),(11,5),(11,6),(11,7),(11,8),(11,9),(11,10)], [(none,[],[])])
def ddX6_readLine : List (Nat × Instr × Nat) := [(0,.aload_n 0,1),(1,.getfield 49,3),(4,.istore_n 1,1),(5,.iload_n 1,1),(6,.ifCond .lt 17,3),(9,.iload_n 1,1),(10,.bipush 6,2),(12,.if_icmp .gt 11,3),(15,.aload_n 0,1),(16,.iload_n 1,1),(17,.invokevirtual 58,3),(20,.ifCond .eq 9,3),(23,.aload_n 0,1),(24,.iconst 2,1),(25,.invokevirtual 62,3),(28,.return_,1),(29,.aload_n 0,1),(30,.dup,1),(31,.getfield 43,3),(34,.iconst 1,1),(35,.iload_n 1,1),(36,.ishl,1),(37,.ior,1),(38,.putfield 43,3),(41,.aload_n 0,1),(42,.invokevirtual 46,3),(45,.iload_n 1,1),(46,.tableswitch 120 0 5 #[38, 45, 62, 78, 86, 103],38),(84,.aload_n 0,1),(85,.invokevirtual 66,3),(88,.goto 93,3),(91,.aload_n 0,1),(92,.getfield 15,3),(95,.aload_n 0,1),(96,.iconst 1,1),(97,.bipush 6,2),(99,.invokevirtual 69,3),(102,.putfield 72,3),(105,.goto 76,3),(108,.aload_n 0,1),(109,.getfield 15,3),(112,.aload_n 0,1),(113,.iconst 0,1),(114,.iconst 2,1),(115,.invokevirtual 69,3),(118,.putfield 75,3),(121,.goto 60,3),(124,.aload_n 0,1),(125,.iconst 0,1),(126,.invokevirtual 78,3),(129,.goto 52,3),(132,.aload_n 0,1),(133,.getfield 15,3),(136,.aload_n 0,1),(137,.iconst 1,1),(138,.bipush 31,2),(140,.invokevirtual 69,3),(143,.putfield 81,3),(146,.goto 35,3),(149,.aload_n 0,1),(150,.getfield 15,3),(153,.aload_n 0,1),(154,.iconst 0,1),(155,.bipush 100,2),(157,.invokevirtual 69,3),(160,.putfield 84,3),(163,.goto 18,3),(166,.aload_n 0,1),(167,.getfield 15,3),(170,.aload_n 0,1),(171,.iconst 0,1),(172,.sipush 999,3),(175,.invokevirtual 69,3),(178,.putfield 87,3),(181,.aload_n 0,1),(182,.bipush 59,2),(184,.invokevirtual 90,3),(187,.return_,1)]
set_option maxRecDepth 100000 in
theorem dkX6_readLine : rf_decs prog_8_method_4_code ddX6_readLine := rf_decs_of (by decide +kernel)
def q86_P : rfP := (flX6,csX6,lcX6,spX6,[q19_M,q20_M,q18_M,q26_M,q27_M,q28_M,q82_M,q83_M,q84_M,q24_M,q85_M],[],[(46,2,6),(58,0,6),(62,1,6),(66,3,6),(69,4,6),(69,5,6),(69,7,6),(69,8,6),(69,9,6),(78,6,6),(90,10,6)],([],[]))
def q86_U : rfU := []
set_option maxHeartbeats 8000000 in
def q86_N : List rfB := [(0,([(0,.inr (.inl [11]))],[],[]),(78,[]),0),
  (23,([(0,.inr (.inl [11])),(1,.inl (((-128),127,1),some (.inr (11,5),some 0)))],[],[]),(3,[]),0),
  (181,([(0,.inr (.inl [11])),(1,.inl ((0,6,1),none))],[],[]),(8,[]),0)]
set_option maxRecDepth 100000 in
theorem q86_ok : rf_chkB q86_P q86_U wLay q86_M ddX6_readLine [(17,[0]),(25,[1]),(42,[2]),(85,[3]),(99,[4]),(115,[5]),(126,[6]),(140,[7]),(157,[8]),(175,[9]),(184,[10])] [] [0,23,181] 600 q86_N = true := by decide +kernel
set_option maxHeartbeats 4000000 in
theorem q86_met {G : rfG} (h : okG G) (hh : wHandOK G) : rf_met G q86_M := rf_methodB h.1 (P := q86_P) (U := q86_U) (N := q86_N) ⟨wflT h flokX6, wcsT h csokX6, wlcT h lcokX6, spokX6 h, List.forall_mem_cons.mpr ⟨q19_met h hh, List.forall_mem_cons.mpr ⟨q20_met h hh, List.forall_mem_cons.mpr ⟨q18_met h hh, List.forall_mem_cons.mpr ⟨q26_met h hh, List.forall_mem_cons.mpr ⟨q27_met h hh, List.forall_mem_cons.mpr ⟨q28_met h hh, List.forall_mem_cons.mpr ⟨q82_met h hh, List.forall_mem_cons.mpr ⟨q83_met h hh, List.forall_mem_cons.mpr ⟨q84_met h hh, List.forall_mem_cons.mpr ⟨q24_met h hh, List.forall_mem_cons.mpr ⟨q85_met h hh, fun _ h => absurd h List.not_mem_nil⟩⟩⟩⟩⟩⟩⟩⟩⟩⟩⟩, fun _ h => absurd h List.not_mem_nil, List.forall_mem_cons.mpr ⟨fun M hM => Option.some.inj (show some q18_M = some M from hM) ▸ wlkV (lkX6_46 h) q18_M rfl rfl, List.forall_mem_cons.mpr ⟨fun M hM => Option.some.inj (show some q19_M = some M from hM) ▸ wlkV (lkX6_58 h) q19_M rfl rfl, List.forall_mem_cons.mpr ⟨fun M hM => Option.some.inj (show some q20_M = some M from hM) ▸ wlkV (lkX6_62 h) q20_M rfl rfl, List.forall_mem_cons.mpr ⟨fun M hM => Option.some.inj (show some q26_M = some M from hM) ▸ wlkV (lkX6_66 h) q26_M rfl rfl, List.forall_mem_cons.mpr ⟨fun M hM => Option.some.inj (show some q27_M = some M from hM) ▸ wlkV (lkX6_69 h) q27_M rfl rfl, List.forall_mem_cons.mpr ⟨fun M hM => Option.some.inj (show some q28_M = some M from hM) ▸ wlkV (lkX6_69 h) q28_M rfl rfl, List.forall_mem_cons.mpr ⟨fun M hM => Option.some.inj (show some q83_M = some M from hM) ▸ wlkV (lkX6_69 h) q83_M rfl rfl, List.forall_mem_cons.mpr ⟨fun M hM => Option.some.inj (show some q84_M = some M from hM) ▸ wlkV (lkX6_69 h) q84_M rfl rfl, List.forall_mem_cons.mpr ⟨fun M hM => Option.some.inj (show some q24_M = some M from hM) ▸ wlkV (lkX6_69 h) q24_M rfl rfl, List.forall_mem_cons.mpr ⟨fun M hM => Option.some.inj (show some q82_M = some M from hM) ▸ wlkV (lkX6_78 h) q82_M rfl rfl, List.forall_mem_cons.mpr ⟨fun M hM => Option.some.inj (show some q85_M = some M from hM) ▸ wlkV (lkX6_90 h) q85_M rfl rfl, fun _ h => absurd h List.not_mem_nil⟩⟩⟩⟩⟩⟩⟩⟩⟩⟩⟩, fun _ h => absurd h List.not_mem_nil, fun _ h => absurd h List.not_mem_nil⟩ dkX6_readLine (by decide +kernel) (by rw [h.2.2.1]; exact q86_ok)
/-- NearSpell.Reader.readText -/
def q87_M : rfM := ((⟨"NearSpell$Reader", "readText", "(I)Z"⟩, prog_8_method_2_code, 3, (some .boolean)), (73,3187), ([.inr (.inl [11]),.inl ((0,1600,1),none)],[]), [(6,0),(7,0),(8,0),(10,5),(10,6),(10,7),(10,8),(10,9),(10,10),(10,11),(10,12),(10,13),(11,3),(11,4),(11,5),(11,6),(11,7),(11,8),(11,9),(11,10)], [(some (.inl ((1,1,0),none)),[],[((10,12),(0,0,0),none),((11,8),(0,0,1),none)]),(some (.inl ((0,0,0),none)),[],[((10,12),(0,0,0),none),((11,8),(1,4,1),none)])])
def ddX6_readText : List (Nat × Instr × Nat) := [(0,.aload_n 0,1),(1,.getfield 15,3),(4,.invokevirtual 26,3),(7,.aload_n 0,1),(8,.iload_n 1,1),(9,.aload_n 0,1),(10,.getfield 9,3),(13,.arraylength,1),(14,.invokestatic 31,3),(17,.putfield 37,3),(20,.aload_n 0,1),(21,.iconst 0,1),(22,.putfield 40,3),(25,.aload_n 0,1),(26,.iconst 0,1),(27,.putfield 43,3),(30,.aload_n 0,1),(31,.iconst 0,1),(32,.putfield 19,3),(35,.aload_n 0,1),(36,.iconst (-1),1),(37,.putfield 23,3),(40,.aload_n 0,1),(41,.invokevirtual 46,3),(44,.iconst 0,1),(45,.istore_n 2,1),(46,.iload_n 2,1),(47,.sipush 1600,3),(50,.if_icmp .gt 29,3),(53,.aload_n 0,1),(54,.getfield 49,3),(57,.bipush 16,2),(59,.if_icmp .eq 20,3),(62,.aload_n 0,1),(63,.getfield 19,3),(66,.ifCond .ne 13,3),(69,.aload_n 0,1),(70,.invokevirtual 52,3),(73,.iinc 2 1,3),(76,.goto (-30),3),(79,.aload_n 0,1),(80,.getfield 19,3),(83,.ifCond .ne 7,3),(86,.iconst 1,1),(87,.goto 4,3),(90,.iconst 0,1),(91,.ireturn,1)]
set_option maxRecDepth 100000 in
theorem dkX6_readText : rf_decs prog_8_method_2_code ddX6_readText := rf_decs_of (by decide +kernel)
def q87_P : rfP := (flX6,csX6,lcX6,spX6,[q3_M,q18_M,q86_M],[],[(26,0,1),(46,1,6),(52,2,6)],([],[(31,1)]))
def q87_U : rfU := []
set_option maxHeartbeats 8000000 in
def q87_N : List rfB := [(0,([(0,.inr (.inl [11])),(1,.inl ((0,1600,1),none))],[],[]),(24063,[0]),0),
  (46,([(0,.inr (.inl [11])),(1,.inl ((0,1600,1),none)),(2,.inl ((0,1601,1),none))],[],[((10,12),(0,0,0),none)]),(24035,[(-15)]),0),
  (79,([(0,.inr (.inl [11])),(1,.inl ((0,1600,1),none)),(2,.inl ((0,1601,1),none))],[],[((10,12),(0,0,0),none)]),(7,[0]),0)]
set_option maxRecDepth 100000 in
theorem q87_ok : rf_chkB q87_P q87_U wLay q87_M ddX6_readText [(4,[0]),(41,[1]),(70,[2])] [.inl 2] [0,46,79] 600 q87_N = true := by decide +kernel
set_option maxHeartbeats 4000000 in
theorem q87_met {G : rfG} (h : okG G) (hh : wHandOK G) : rf_met G q87_M := rf_methodB h.1 (P := q87_P) (U := q87_U) (N := q87_N) ⟨wflT h flokX6, wcsT h csokX6, wlcT h lcokX6, spokX6 h, List.forall_mem_cons.mpr ⟨q3_met h hh, List.forall_mem_cons.mpr ⟨q18_met h hh, List.forall_mem_cons.mpr ⟨q86_met h hh, fun _ h => absurd h List.not_mem_nil⟩⟩⟩, fun _ h => absurd h List.not_mem_nil, List.forall_mem_cons.mpr ⟨fun M hM => Option.some.inj (show some q3_M = some M from hM) ▸ wlkV (lkX6_26 h) q3_M rfl rfl, List.forall_mem_cons.mpr ⟨fun M hM => Option.some.inj (show some q18_M = some M from hM) ▸ wlkV (lkX6_46 h) q18_M rfl rfl, List.forall_mem_cons.mpr ⟨fun M hM => Option.some.inj (show some q86_M = some M from hM) ▸ wlkV (lkX6_52 h) q86_M rfl rfl, fun _ h => absurd h List.not_mem_nil⟩⟩⟩, fun _ h => absurd h List.not_mem_nil, List.forall_mem_cons.mpr ⟨⟨wmT h (wmem (i := 130) (by decide +kernel) (by decide +kernel)), fun h => absurd h (by decide), fun _ => ⟨wmT h (wmem (i := 556) (by decide +kernel) (by decide +kernel)), wmT h (wmem (i := 557) (by decide +kernel) (by decide +kernel)), wmT h (wmem (i := 558) (by decide +kernel) (by decide +kernel))⟩, fun h => absurd h (by decide)⟩, fun _ h => absurd h List.not_mem_nil⟩⟩ dkX6_readText (by decide +kernel) (by rw [h.2.2.1]; exact q87_ok)
/-- NearSpell.Book.takeOver -/
def q88_M : rfM := ((⟨"NearSpell$Book", "takeOver", "(LNearSpell$Book;)V"⟩, prog_3_method_3_code, 2, none), (1,18), ([.inr (.inl [5]),.inr (.inl [10])],[]), [(1,0),(2,0),(3,0),(5,5),(5,6),(5,7),(5,8),(5,9),(5,10),(5,11),(5,12)], [(none,[],[])])
def ddX1_takeOver : List (Nat × Instr × Nat) := [(0,.aload_n 1,1),(1,.getfield 9,3),(4,.iconst 0,1),(5,.aload_n 0,1),(6,.getfield 9,3),(9,.iconst 0,1),(10,.bipush 10,2),(12,.invokestatic 55,3),(15,.aload_n 1,1),(16,.getfield 15,3),(19,.iconst 0,1),(20,.aload_n 0,1),(21,.getfield 15,3),(24,.iconst 0,1),(25,.bipush 10,2),(27,.invokestatic 55,3),(30,.aload_n 1,1),(31,.getfield 18,3),(34,.iconst 0,1),(35,.aload_n 0,1),(36,.getfield 18,3),(39,.iconst 0,1),(40,.sipush 300,3),(43,.invokestatic 55,3),(46,.aload_n 0,1),(47,.aload_n 1,1),(48,.getfield 27,3),(51,.putfield 27,3),(54,.aload_n 0,1),(55,.aload_n 1,1),(56,.getfield 31,3),(59,.putfield 31,3),(62,.aload_n 0,1),(63,.aload_n 1,1),(64,.getfield 34,3),(67,.putfield 34,3),(70,.aload_n 0,1),(71,.aload_n 1,1),(72,.getfield 37,3),(75,.putfield 37,3),(78,.aload_n 0,1),(79,.aload_n 1,1),(80,.getfield 40,3),(83,.putfield 40,3),(86,.aload_n 0,1),(87,.aload_n 1,1),(88,.getfield 43,3),(91,.putfield 43,3),(94,.aload_n 0,1),(95,.aload_n 1,1),(96,.getfield 46,3),(99,.putfield 46,3),(102,.aload_n 0,1),(103,.aload_n 1,1),(104,.getfield 49,3),(107,.putfield 49,3),(110,.return_,1)]
set_option maxRecDepth 100000 in
theorem dkX1_takeOver : rf_decs prog_3_method_3_code ddX1_takeOver := rf_decs_of (by decide +kernel)
def q88_P : rfP := (flX1,csX1,lcX1,spX1,[],[],[],([55],[]))
def q88_U : rfU := []
set_option maxHeartbeats 8000000 in
def q88_N : List rfB := [(0,([(0,.inr (.inl [5])),(1,.inr (.inl [10]))],[],[]),(56,[]),0)]
set_option maxRecDepth 100000 in
theorem q88_ok : rf_chkB q88_P q88_U wLay q88_M ddX1_takeOver [] [] [0] 600 q88_N = true := by decide +kernel
set_option maxHeartbeats 4000000 in
theorem q88_met {G : rfG} (h : okG G) (hh : wHandOK G) : rf_met G q88_M := rf_methodB h.1 (P := q88_P) (U := q88_U) (N := q88_N) ⟨wflT h flokX1, wcsT h csokX1, wlcT h lcokX1, spokX1 h, fun _ h => absurd h List.not_mem_nil, fun _ h => absurd h List.not_mem_nil, fun _ h => absurd h List.not_mem_nil, List.forall_mem_cons.mpr ⟨⟨wmT h (wmem (i := 753) (by decide +kernel) (by decide +kernel)), wmT h (wmem (i := 755) (by decide +kernel) (by decide +kernel)), wmT h (wmem (i := 754) (by decide +kernel) (by decide +kernel)), wmT h (wmem (i := 136) (by decide +kernel) (by decide +kernel))⟩, fun _ h => absurd h List.not_mem_nil⟩, fun _ h => absurd h List.not_mem_nil⟩ dkX1_takeOver (by decide +kernel) (by rw [h.2.2.1]; exact q88_ok)
/-- NearSpell.State.addEntry -/
def q89_M : rfM := ((⟨"NearSpell$State", "addEntry", "(II)I"⟩, prog_10_method_12_code, 4, (some .int)), (0,0), ([.inr (.inl [13]),.inl (((-2147483648),2147483647,1),none),.inl (((-2147483648),2147483647,1),none)],[]), [(12,0)], [(some (.inl (((-1),13,1),none)),[],[((12,34),(1,14,1),none)])])
def ddX8_addEntry : List (Nat × Instr × Nat) := [(0,.aload_n 0,1),(1,.getfield 11,3),(4,.bipush 34,2),(6,.iaload,1),(7,.istore_n 3,1),(8,.iload_n 3,1),(9,.bipush 14,2),(11,.if_icmp .lt 5,3),(14,.iconst (-1),1),(15,.ireturn,1),(16,.aload_n 0,1),(17,.getfield 11,3),(20,.iconst 0,1),(21,.iload_n 3,1),(22,.iadd,1),(23,.iload_n 1,1),(24,.iastore,1),(25,.aload_n 0,1),(26,.getfield 11,3),(29,.bipush 14,2),(31,.iload_n 3,1),(32,.iadd,1),(33,.iload_n 2,1),(34,.iastore,1),(35,.aload_n 0,1),(36,.getfield 11,3),(39,.bipush 34,2),(41,.dup2,1),(42,.iaload,1),(43,.iconst 1,1),(44,.iadd,1),(45,.iastore,1),(46,.iload_n 3,1),(47,.ireturn,1)]
set_option maxRecDepth 100000 in
theorem dkX8_addEntry : rf_decs prog_10_method_12_code ddX8_addEntry := rf_decs_of (by decide +kernel)
def q89_P : rfP := (flX8,csX8,lcX8,spX8,[],[],[],([],[]))
def q89_U : rfU := []
set_option maxHeartbeats 8000000 in
def q89_N : List rfB := [(0,([(0,.inr (.inl [13])),(1,.inl (((-2147483648),2147483647,1),none)),(2,.inl (((-2147483648),2147483647,1),none))],[],[]),(33,[]),0)]
set_option maxRecDepth 100000 in
theorem q89_ok : rf_chkB q89_P q89_U wLay q89_M ddX8_addEntry [] [] [0] 600 q89_N = true := by decide +kernel
set_option maxHeartbeats 4000000 in
theorem q89_met {G : rfG} (h : okG G) (hh : wHandOK G) : rf_met G q89_M := rf_methodB h.1 (P := q89_P) (U := q89_U) (N := q89_N) ⟨wflT h flokX8, wcsT h csokX8, wlcT h lcokX8, spokX8 h, fun _ h => absurd h List.not_mem_nil, fun _ h => absurd h List.not_mem_nil, fun _ h => absurd h List.not_mem_nil, fun _ h => absurd h List.not_mem_nil, fun _ h => absurd h List.not_mem_nil⟩ dkX8_addEntry (by decide +kernel) (by rw [h.2.2.1]; exact q89_ok)
/-- NearSpell.State.begin -/
def q90_M : rfM := ((⟨"NearSpell$State", "begin", "(LNearSpell$Book;)V"⟩, prog_10_method_2_code, 3, none), (1,23), ([.inr (.inl [13]),.inr (.inl [5])],[]), [(12,0)], [(none,[],[((12,36),(0,999,1),none)])])
def ddX8_begin : List (Nat × Instr × Nat) := [(0,.iconst 0,1),(1,.istore_n 2,1),(2,.iload_n 2,1),(3,.bipush 37,2),(5,.if_icmp .ge 16,3),(8,.aload_n 0,1),(9,.getfield 11,3),(12,.iload_n 2,1),(13,.iconst 0,1),(14,.iastore,1),(15,.iinc 2 1,3),(18,.goto (-16),3),(21,.iconst 0,1),(22,.istore_n 2,1),(23,.iload_n 2,1),(24,.aload_n 1,1),(25,.getfield 15,3),(28,.if_icmp .ge 26,3),(31,.aload_n 0,1),(32,.aload_n 1,1),(33,.getfield 21,3),(36,.iload_n 2,1),(37,.iaload,1),(38,.aload_n 1,1),(39,.getfield 24,3),(42,.iload_n 2,1),(43,.iaload,1),(44,.invokevirtual 27,3),(47,.pop,1),(48,.iinc 2 1,3),(51,.goto (-28),3),(54,.aload_n 0,1),(55,.getfield 11,3),(58,.bipush 36,2),(60,.aload_n 1,1),(61,.getfield 31,3),(64,.iastore,1),(65,.return_,1)]
set_option maxRecDepth 100000 in
theorem dkX8_begin : rf_decs prog_10_method_2_code ddX8_begin := rf_decs_of (by decide +kernel)
def q90_P : rfP := (flX8,csX8,lcX8,spX8,[q89_M],[],[(27,0,8)],([],[]))
def q90_U : rfU := []
set_option maxHeartbeats 8000000 in
def q90_N : List rfB := [(0,([(0,.inr (.inl [13])),(1,.inr (.inl [5]))],[],[]),(626,[0]),0),
  (2,([(0,.inr (.inl [13])),(1,.inr (.inl [5])),(2,.inl ((0,37,1),none))],[],[]),(622,[(-11)]),0),
  (23,([(0,.inr (.inl [13])),(1,.inr (.inl [5])),(2,.inl ((0,10,1),none))],[],[]),(202,[(-18)]),0)]
set_option maxRecDepth 100000 in
theorem q90_ok : rf_chkB q90_P q90_U wLay q90_M ddX8_begin [(44,[0])] [.inl 2] [0,2,23] 600 q90_N = true := by decide +kernel
set_option maxHeartbeats 4000000 in
theorem q90_met {G : rfG} (h : okG G) (hh : wHandOK G) : rf_met G q90_M := rf_methodB h.1 (P := q90_P) (U := q90_U) (N := q90_N) ⟨wflT h flokX8, wcsT h csokX8, wlcT h lcokX8, spokX8 h, List.forall_mem_cons.mpr ⟨q89_met h hh, fun _ h => absurd h List.not_mem_nil⟩, fun _ h => absurd h List.not_mem_nil, List.forall_mem_cons.mpr ⟨fun M hM => Option.some.inj (show some q89_M = some M from hM) ▸ wlkV (lkX8_27 h) q89_M rfl rfl, fun _ h => absurd h List.not_mem_nil⟩, fun _ h => absurd h List.not_mem_nil, fun _ h => absurd h List.not_mem_nil⟩ dkX8_begin (by decide +kernel) (by rw [h.2.2.1]; exact q90_ok)
/-- NearSpell.Archive.rowPlace -/
def q91_M : rfM := ((⟨"NearSpell$Archive", "rowPlace", "()I"⟩, prog_2_method_6_code, 1, (some .int)), (0,0), ([.inr (.inl [16])],[]), [], [(some (.inl ((0,1480,37),none)),[],[])])
def ddX0_rowPlace : List (Nat × Instr × Nat) := [(0,.aload_n 0,1),(1,.getfield 24,3),(4,.aload_n 0,1),(5,.getfield 27,3),(8,.iadd,1),(9,.bipush 41,2),(11,.irem,1),(12,.bipush 37,2),(14,.imul,1),(15,.ireturn,1)]
set_option maxRecDepth 100000 in
theorem dkX0_rowPlace : rf_decs prog_2_method_6_code ddX0_rowPlace := rf_decs_of (by decide +kernel)
def q91_P : rfP := (flX0,csX0,lcX0,spX0,[],[],[],([],[]))
def q91_U : rfU := []
set_option maxHeartbeats 8000000 in
def q91_N : List rfB := [(0,([(0,.inr (.inl [16]))],[],[]),(9,[]),0)]
set_option maxRecDepth 100000 in
theorem q91_ok : rf_chkB q91_P q91_U wLay q91_M ddX0_rowPlace [] [] [0] 600 q91_N = true := by decide +kernel
set_option maxHeartbeats 4000000 in
theorem q91_met {G : rfG} (h : okG G) (hh : wHandOK G) : rf_met G q91_M := rf_methodB h.1 (P := q91_P) (U := q91_U) (N := q91_N) ⟨wflT h flokX0, wcsT h csokX0, wlcT h lcokX0, spokX0 h, fun _ h => absurd h List.not_mem_nil, fun _ h => absurd h List.not_mem_nil, fun _ h => absurd h List.not_mem_nil, fun _ h => absurd h List.not_mem_nil, fun _ h => absurd h List.not_mem_nil⟩ dkX0_rowPlace (by decide +kernel) (by rw [h.2.2.1]; exact q91_ok)
/-- NearSpell.Archive.keepRow -/
def q92_M : rfM := ((⟨"NearSpell$Archive", "keepRow", "(LNearSpell$State;)V"⟩, prog_2_method_7_code, 2, none), (1,20), ([.inr (.inl [16]),.inr (.inl [13])],[]), [(14,0)], [(none,[],[])])
def ddX0_keepRow : List (Nat × Instr × Nat) := [(0,.aload_n 1,1),(1,.getfield 40,3),(4,.iconst 0,1),(5,.aload_n 0,1),(6,.getfield 13,3),(9,.aload_n 0,1),(10,.invokevirtual 43,3),(13,.bipush 37,2),(15,.invokestatic 47,3),(18,.return_,1)]
set_option maxRecDepth 100000 in
theorem dkX0_keepRow : rf_decs prog_2_method_7_code ddX0_keepRow := rf_decs_of (by decide +kernel)
def q92_P : rfP := (flX0,csX0,lcX0,spX0,[q91_M],[],[(43,0,0)],([47],[]))
def q92_U : rfU := []
set_option maxHeartbeats 8000000 in
def q92_N : List rfB := [(0,([(0,.inr (.inl [16])),(1,.inr (.inl [13]))],[],[]),(9,[]),0)]
set_option maxRecDepth 100000 in
theorem q92_ok : rf_chkB q92_P q92_U wLay q92_M ddX0_keepRow [(10,[0])] [] [0] 600 q92_N = true := by decide +kernel
set_option maxHeartbeats 4000000 in
theorem q92_met {G : rfG} (h : okG G) (hh : wHandOK G) : rf_met G q92_M := rf_methodB h.1 (P := q92_P) (U := q92_U) (N := q92_N) ⟨wflT h flokX0, wcsT h csokX0, wlcT h lcokX0, spokX0 h, List.forall_mem_cons.mpr ⟨q91_met h hh, fun _ h => absurd h List.not_mem_nil⟩, fun _ h => absurd h List.not_mem_nil, List.forall_mem_cons.mpr ⟨fun M hM => Option.some.inj (show some q91_M = some M from hM) ▸ wlkV (lkX0_43 h) q91_M rfl rfl, fun _ h => absurd h List.not_mem_nil⟩, List.forall_mem_cons.mpr ⟨⟨wmT h (wmem (i := 776) (by decide +kernel) (by decide +kernel)), wmT h (wmem (i := 755) (by decide +kernel) (by decide +kernel)), wmT h (wmem (i := 754) (by decide +kernel) (by decide +kernel)), wmT h (wmem (i := 136) (by decide +kernel) (by decide +kernel))⟩, fun _ h => absurd h List.not_mem_nil⟩, fun _ h => absurd h List.not_mem_nil⟩ dkX0_keepRow (by decide +kernel) (by rw [h.2.2.1]; exact q92_ok)
/-- NearSpell.Archive.dropActs -/
def q93_M : rfM := ((⟨"NearSpell$Archive", "dropActs", "(LNearSpell$State;)V"⟩, prog_2_method_2_code, 2, none), (2,41), ([.inr (.inl [16]),.inr (.inl [13])],[]), [(14,0),(16,4),(16,5),(16,6)], [(none,[],[((16,3),(0,0,0),none),((16,4),(0,0,0),none),((16,5),(0,0,0),none)])])
def ddX0_dropActs : List (Nat × Instr × Nat) := [(0,.aload_n 0,1),(1,.iconst 0,1),(2,.putfield 24,3),(5,.aload_n 0,1),(6,.iconst 0,1),(7,.putfield 27,3),(10,.aload_n 0,1),(11,.iconst 0,1),(12,.putfield 30,3),(15,.aload_n 0,1),(16,.aload_n 1,1),(17,.invokevirtual 33,3),(20,.return_,1)]
set_option maxRecDepth 100000 in
theorem dkX0_dropActs : rf_decs prog_2_method_2_code ddX0_dropActs := rf_decs_of (by decide +kernel)
def q93_P : rfP := (flX0,csX0,lcX0,spX0,[q92_M],[],[(33,0,0)],([],[]))
def q93_U : rfU := []
set_option maxHeartbeats 8000000 in
def q93_N : List rfB := [(0,([(0,.inr (.inl [16])),(1,.inr (.inl [13]))],[],[]),(12,[]),0)]
set_option maxRecDepth 100000 in
theorem q93_ok : rf_chkB q93_P q93_U wLay q93_M ddX0_dropActs [(17,[0])] [] [0] 600 q93_N = true := by decide +kernel
set_option maxHeartbeats 4000000 in
theorem q93_met {G : rfG} (h : okG G) (hh : wHandOK G) : rf_met G q93_M := rf_methodB h.1 (P := q93_P) (U := q93_U) (N := q93_N) ⟨wflT h flokX0, wcsT h csokX0, wlcT h lcokX0, spokX0 h, List.forall_mem_cons.mpr ⟨q92_met h hh, fun _ h => absurd h List.not_mem_nil⟩, fun _ h => absurd h List.not_mem_nil, List.forall_mem_cons.mpr ⟨fun M hM => Option.some.inj (show some q92_M = some M from hM) ▸ wlkV (lkX0_33 h) q92_M rfl rfl, fun _ h => absurd h List.not_mem_nil⟩, fun _ h => absurd h List.not_mem_nil, fun _ h => absurd h List.not_mem_nil⟩ dkX0_dropActs (by decide +kernel) (by rw [h.2.2.1]; exact q93_ok)
/-- NearSpell.Archive.dropBoxes -/
def q94_M : rfM := ((⟨"NearSpell$Archive", "dropBoxes", "()V"⟩, prog_2_method_9_code, 1, none), (0,0), ([.inr (.inl [16])],[]), [(16,3)], [(none,[],[((16,2),(0,0,0),none)])])
def ddX0_dropBoxes : List (Nat × Instr × Nat) := [(0,.aload_n 0,1),(1,.iconst 0,1),(2,.putfield 20,3),(5,.return_,1)]
set_option maxRecDepth 100000 in
theorem dkX0_dropBoxes : rf_decs prog_2_method_9_code ddX0_dropBoxes := rf_decs_of (by decide +kernel)
def q94_P : rfP := (flX0,csX0,lcX0,spX0,[],[],[],([],[]))
def q94_U : rfU := []
set_option maxHeartbeats 8000000 in
def q94_N : List rfB := [(0,([(0,.inr (.inl [16]))],[],[]),(3,[]),0)]
set_option maxRecDepth 100000 in
theorem q94_ok : rf_chkB q94_P q94_U wLay q94_M ddX0_dropBoxes [] [] [0] 600 q94_N = true := by decide +kernel
set_option maxHeartbeats 4000000 in
theorem q94_met {G : rfG} (h : okG G) (hh : wHandOK G) : rf_met G q94_M := rf_methodB h.1 (P := q94_P) (U := q94_U) (N := q94_N) ⟨wflT h flokX0, wcsT h csokX0, wlcT h lcokX0, spokX0 h, fun _ h => absurd h List.not_mem_nil, fun _ h => absurd h List.not_mem_nil, fun _ h => absurd h List.not_mem_nil, fun _ h => absurd h List.not_mem_nil, fun _ h => absurd h List.not_mem_nil⟩ dkX0_dropBoxes (by decide +kernel) (by rw [h.2.2.1]; exact q94_ok)
/-- NearSpell.Witness.dropSeen -/
def q95_M : rfM := ((⟨"NearSpell$Witness", "dropSeen", "()V"⟩, prog_12_method_2_code, 1, none), (0,0), ([.inr (.inl [68])],[]), [(68,9)], [(none,[],[((68,8),(0,0,0),none)])])
def ddX10_dropSeen : List (Nat × Instr × Nat) := [(0,.aload_n 0,1),(1,.iconst 0,1),(2,.putfield 31,3),(5,.return_,1)]
set_option maxRecDepth 100000 in
theorem dkX10_dropSeen : rf_decs prog_12_method_2_code ddX10_dropSeen := rf_decs_of (by decide +kernel)
def q95_P : rfP := (flX10,csX10,lcX10,spX10,[],[],[],([],[]))
def q95_U : rfU := []
set_option maxHeartbeats 8000000 in
def q95_N : List rfB := [(0,([(0,.inr (.inl [68]))],[],[]),(3,[]),0)]
set_option maxRecDepth 100000 in
theorem q95_ok : rf_chkB q95_P q95_U wLay q95_M ddX10_dropSeen [] [] [0] 600 q95_N = true := by decide +kernel
set_option maxHeartbeats 4000000 in
theorem q95_met {G : rfG} (h : okG G) (hh : wHandOK G) : rf_met G q95_M := rf_methodB h.1 (P := q95_P) (U := q95_U) (N := q95_N) ⟨wflT h flokX10, wcsT h csokX10, wlcT h lcokX10, spokX10 h, fun _ h => absurd h List.not_mem_nil, fun _ h => absurd h List.not_mem_nil, fun _ h => absurd h List.not_mem_nil, fun _ h => absurd h List.not_mem_nil, fun _ h => absurd h List.not_mem_nil⟩ dkX10_dropSeen (by decide +kernel) (by rw [h.2.2.1]; exact q95_ok)
/-- NearSpell.book -/
def q96_M : rfM := ((⟨"NearSpell", "book", "()I"⟩, prog_1_method_4_code, 1, (some .int)), (74,3209), ([.inr (.inl [70])],[]), [(1,0),(2,0),(3,0),(5,5),(5,6),(5,7),(5,8),(5,9),(5,10),(5,11),(5,12),(6,0),(7,0),(8,0),(10,5),(10,6),(10,7),(10,8),(10,9),(10,10),(10,11),(10,12),(10,13),(11,3),(11,4),(11,5),(11,6),(11,7),(11,8),(11,9),(11,10),(12,0),(14,0),(16,3),(16,4),(16,5),(16,6),(68,9),(70,2),(70,15)], [(some (.inl (((-1),10,1),none)),[],[((10,12),(0,0,0),none)])])
def ddX11_book : List (Nat × Instr × Nat) := [(0,.aload_n 0,1),(1,.getfield 28,3),(4,.aload_n 0,1),(5,.getfield 100,3),(8,.invokevirtual 111,3),(11,.ifCond .ne 5,3),(14,.iconst (-1),1),(15,.ireturn,1),(16,.aload_n 0,1),(17,.getfield 16,3),(20,.aload_n 0,1),(21,.getfield 20,3),(24,.invokevirtual 115,3),(27,.aload_n 0,1),(28,.getfield 35,3),(31,.aload_n 0,1),(32,.getfield 16,3),(35,.invokevirtual 119,3),(38,.aload_n 0,1),(39,.getfield 42,3),(42,.aload_n 0,1),(43,.getfield 35,3),(46,.invokevirtual 122,3),(49,.aload_n 0,1),(50,.getfield 42,3),(53,.invokevirtual 126,3),(56,.aload_n 0,1),(57,.getfield 92,3),(60,.invokevirtual 129,3),(63,.aload_n 0,1),(64,.iconst 0,1),(65,.putfield 100,3),(68,.aload_n 0,1),(69,.iconst 0,1),(70,.putfield 104,3),(73,.aload_n 0,1),(74,.getfield 16,3),(77,.getfield 132,3),(80,.ireturn,1)]
set_option maxRecDepth 100000 in
theorem dkX11_book : rf_decs prog_1_method_4_code ddX11_book := rf_decs_of (by decide +kernel)
def q96_P : rfP := (flX11,csX11,lcX11,spX11,[q87_M,q88_M,q90_M,q93_M,q94_M,q95_M],[],[(111,0,6),(115,1,1),(119,2,8),(122,3,0),(126,4,0),(129,5,10)],([],[]))
def q96_U : rfU := []
set_option maxHeartbeats 8000000 in
def q96_N : List rfB := [(0,([(0,.inr (.inl [70]))],[],[]),(39,[]),0)]
set_option maxRecDepth 100000 in
theorem q96_ok : rf_chkB q96_P q96_U wLay q96_M ddX11_book [(8,[0]),(24,[1]),(35,[2]),(46,[3]),(53,[4]),(60,[5])] [] [0] 600 q96_N = true := by decide +kernel
set_option maxHeartbeats 4000000 in
theorem q96_met {G : rfG} (h : okG G) (hh : wHandOK G) : rf_met G q96_M := rf_methodB h.1 (P := q96_P) (U := q96_U) (N := q96_N) ⟨wflT h flokX11, wcsT h csokX11, wlcT h lcokX11, spokX11 h, List.forall_mem_cons.mpr ⟨q87_met h hh, List.forall_mem_cons.mpr ⟨q88_met h hh, List.forall_mem_cons.mpr ⟨q90_met h hh, List.forall_mem_cons.mpr ⟨q93_met h hh, List.forall_mem_cons.mpr ⟨q94_met h hh, List.forall_mem_cons.mpr ⟨q95_met h hh, fun _ h => absurd h List.not_mem_nil⟩⟩⟩⟩⟩⟩, fun _ h => absurd h List.not_mem_nil, List.forall_mem_cons.mpr ⟨fun M hM => Option.some.inj (show some q87_M = some M from hM) ▸ wlkV (lkX11_111 h) q87_M rfl rfl, List.forall_mem_cons.mpr ⟨fun M hM => Option.some.inj (show some q88_M = some M from hM) ▸ wlkV (lkX11_115 h) q88_M rfl rfl, List.forall_mem_cons.mpr ⟨fun M hM => Option.some.inj (show some q90_M = some M from hM) ▸ wlkV (lkX11_119 h) q90_M rfl rfl, List.forall_mem_cons.mpr ⟨fun M hM => Option.some.inj (show some q93_M = some M from hM) ▸ wlkV (lkX11_122 h) q93_M rfl rfl, List.forall_mem_cons.mpr ⟨fun M hM => Option.some.inj (show some q94_M = some M from hM) ▸ wlkV (lkX11_126 h) q94_M rfl rfl, List.forall_mem_cons.mpr ⟨fun M hM => Option.some.inj (show some q95_M = some M from hM) ▸ wlkV (lkX11_129 h) q95_M rfl rfl, fun _ h => absurd h List.not_mem_nil⟩⟩⟩⟩⟩⟩, fun _ h => absurd h List.not_mem_nil, fun _ h => absurd h List.not_mem_nil⟩ dkX11_book (by decide +kernel) (by rw [h.2.2.1]; exact q96_ok)
/-- NearSpell.fault -/
def q97_M : rfM := ((⟨"NearSpell", "fault", "(I)I"⟩, prog_1_method_5_code, 2, (some .int)), (0,0), ([.inr (.inl [70]),.inl (((-2147483648),2147483647,1),none)],[]), [], [(some (.inl (((-1),1600,1),none)),[],[])])
def ddX11_fault : List (Nat × Instr × Nat) := [(0,.iload_n 1,1),(1,.ifCond .ne 11,3),(4,.aload_n 0,1),(5,.getfield 28,3),(8,.getfield 135,3),(11,.ireturn,1),(12,.iload_n 1,1),(13,.iconst 1,1),(14,.if_icmp .ne 13,3),(17,.aload_n 0,1),(18,.getfield 28,3),(21,.getfield 138,3),(24,.goto 4,3),(27,.iconst (-1),1),(28,.ireturn,1)]
set_option maxRecDepth 100000 in
theorem dkX11_fault : rf_decs prog_1_method_5_code ddX11_fault := rf_decs_of (by decide +kernel)
def q97_P : rfP := (flX11,csX11,lcX11,spX11,[],[],[],([],[]))
def q97_U : rfU := []
set_option maxHeartbeats 8000000 in
def q97_N : List rfB := [(0,([(0,.inr (.inl [70])),(1,.inl (((-2147483648),2147483647,1),none))],[],[]),(15,[]),0)]
set_option maxRecDepth 100000 in
theorem q97_ok : rf_chkB q97_P q97_U wLay q97_M ddX11_fault [] [] [0] 600 q97_N = true := by decide +kernel
set_option maxHeartbeats 4000000 in
theorem q97_met {G : rfG} (h : okG G) (hh : wHandOK G) : rf_met G q97_M := rf_methodB h.1 (P := q97_P) (U := q97_U) (N := q97_N) ⟨wflT h flokX11, wcsT h csokX11, wlcT h lcokX11, spokX11 h, fun _ h => absurd h List.not_mem_nil, fun _ h => absurd h List.not_mem_nil, fun _ h => absurd h List.not_mem_nil, fun _ h => absurd h List.not_mem_nil, fun _ h => absurd h List.not_mem_nil⟩ dkX11_fault (by decide +kernel) (by rw [h.2.2.1]; exact q97_ok)
/-- NearSpell.State.isEntry -/
def q98_M : rfM := ((⟨"NearSpell$State", "isEntry", "(I)Z"⟩, prog_10_method_6_code, 2, (some .boolean)), (0,0), ([.inr (.inl [13]),.inl (((-2147483648),2147483647,1),none)],[]), [], [(some (.inl ((1,1,0),none)),[(1,0,13)],[((12,34),(1,14,1),none)]),(some (.inl ((0,0,0),none)),[],[])])
def ddX8_isEntry : List (Nat × Instr × Nat) := [(0,.iload_n 1,1),(1,.ifCond .lt 31,3),(4,.iload_n 1,1),(5,.aload_n 0,1),(6,.getfield 11,3),(9,.bipush 34,2),(11,.iaload,1),(12,.if_icmp .ge 20,3),(15,.aload_n 0,1),(16,.getfield 11,3),(19,.bipush 14,2),(21,.iload_n 1,1),(22,.iadd,1),(23,.iaload,1),(24,.iconst (-1),1),(25,.if_icmp .eq 7,3),(28,.iconst 1,1),(29,.goto 4,3),(32,.iconst 0,1),(33,.ireturn,1)]
set_option maxRecDepth 100000 in
theorem dkX8_isEntry : rf_decs prog_10_method_6_code ddX8_isEntry := rf_decs_of (by decide +kernel)
def q98_P : rfP := (flX8,csX8,lcX8,spX8,[],[],[],([],[]))
def q98_U : rfU := []
set_option maxHeartbeats 8000000 in
def q98_N : List rfB := [(0,([(0,.inr (.inl [13])),(1,.inl (((-2147483648),2147483647,1),none))],[],[]),(20,[]),0),
  (32,([(0,.inr (.inl [13])),(1,.inl (((-2147483648),2147483647,1),none))],[],[]),(1,[]),0)]
set_option maxRecDepth 100000 in
theorem q98_ok : rf_chkB q98_P q98_U wLay q98_M ddX8_isEntry [] [] [0,32] 600 q98_N = true := by decide +kernel
set_option maxHeartbeats 4000000 in
theorem q98_met {G : rfG} (h : okG G) (hh : wHandOK G) : rf_met G q98_M := rf_methodB h.1 (P := q98_P) (U := q98_U) (N := q98_N) ⟨wflT h flokX8, wcsT h csokX8, wlcT h lcokX8, spokX8 h, fun _ h => absurd h List.not_mem_nil, fun _ h => absurd h List.not_mem_nil, fun _ h => absurd h List.not_mem_nil, fun _ h => absurd h List.not_mem_nil, fun _ h => absurd h List.not_mem_nil⟩ dkX8_isEntry (by decide +kernel) (by rw [h.2.2.1]; exact q98_ok)
/-- NearSpell.State.spellingOf -/
def q99_M : rfM := ((⟨"NearSpell$State", "spellingOf", "(I)I"⟩, prog_10_method_7_code, 2, (some .int)), (0,0), ([.inr (.inl [13]),.inl ((0,13,1),none)],[]), [], [(some (.inl (((-2147483648),2147483647,1),none)),[],[])])
def ddX8_spellingOf : List (Nat × Instr × Nat) := [(0,.iload_n 1,1),(1,.ifCond .lt 20,3),(4,.iload_n 1,1),(5,.bipush 14,2),(7,.if_icmp .ge 14,3),(10,.aload_n 0,1),(11,.getfield 11,3),(14,.iconst 0,1),(15,.iload_n 1,1),(16,.iadd,1),(17,.iaload,1),(18,.goto 4,3),(21,.iconst 0,1),(22,.ireturn,1)]
set_option maxRecDepth 100000 in
theorem dkX8_spellingOf : rf_decs prog_10_method_7_code ddX8_spellingOf := rf_decs_of (by decide +kernel)
def q99_P : rfP := (flX8,csX8,lcX8,spX8,[],[],[],([],[]))
def q99_U : rfU := []
set_option maxHeartbeats 8000000 in
def q99_N : List rfB := [(0,([(0,.inr (.inl [13])),(1,.inl ((0,13,1),none))],[],[]),(12,[]),0)]
set_option maxRecDepth 100000 in
theorem q99_ok : rf_chkB q99_P q99_U wLay q99_M ddX8_spellingOf [] [] [0] 600 q99_N = true := by decide +kernel
set_option maxHeartbeats 4000000 in
theorem q99_met {G : rfG} (h : okG G) (hh : wHandOK G) : rf_met G q99_M := rf_methodB h.1 (P := q99_P) (U := q99_U) (N := q99_N) ⟨wflT h flokX8, wcsT h csokX8, wlcT h lcokX8, spokX8 h, fun _ h => absurd h List.not_mem_nil, fun _ h => absurd h List.not_mem_nil, fun _ h => absurd h List.not_mem_nil, fun _ h => absurd h List.not_mem_nil, fun _ h => absurd h List.not_mem_nil⟩ dkX8_spellingOf (by decide +kernel) (by rw [h.2.2.1]; exact q99_ok)
/-- NearSpell.lengthOf -/
def q100_M : rfM := ((⟨"NearSpell", "lengthOf", "(I)I"⟩, prog_1_method_53_code, 2, (some .int)), (0,0), ([.inl (((-2147483648),2147483647,1),none)],[]), [], [(some (.inl ((0,6,1),none)),[],[])])
def ddX11_lengthOf : List (Nat × Instr × Nat) := [(0,.iconst 0,1),(1,.istore_n 1,1),(2,.iload_n 1,1),(3,.bipush 6,2),(5,.if_icmp .ge 18,3),(8,.iload_n 0,1),(9,.getstatic 360,3),(12,.iload_n 1,1),(13,.iaload,1),(14,.if_icmp .lt 9,3),(17,.iinc 1 1,3),(20,.goto (-18),3),(23,.iload_n 1,1),(24,.ireturn,1)]
set_option maxRecDepth 100000 in
theorem dkX11_lengthOf : rf_decs prog_1_method_53_code ddX11_lengthOf := rf_decs_of (by decide +kernel)
def q100_P : rfP := (flX11,csX11,lcX11,spX11,[],[],[],([],[]))
def q100_U : rfU := []
set_option maxHeartbeats 8000000 in
def q100_N : List rfB := [(0,([(0,.inl (((-2147483648),2147483647,1),none))],[],[]),(80,[0]),0),
  (2,([(0,.inl (((-2147483648),2147483647,1),none)),(1,.inl ((0,6,1),none))],[],[]),(76,[(-11)]),0),
  (23,([(0,.inl (((-2147483648),2147483647,1),none)),(1,.inl ((0,6,1),none))],[],[]),(1,[0]),0)]
set_option maxRecDepth 100000 in
theorem q100_ok : rf_chkB q100_P q100_U wLay q100_M ddX11_lengthOf [] [.inl 1] [0,2,23] 600 q100_N = true := by decide +kernel
set_option maxHeartbeats 4000000 in
theorem q100_met {G : rfG} (h : okG G) (hh : wHandOK G) : rf_met G q100_M := rf_methodB h.1 (P := q100_P) (U := q100_U) (N := q100_N) ⟨wflT h flokX11, wcsT h csokX11, wlcT h lcokX11, spokX11 h, fun _ h => absurd h List.not_mem_nil, fun _ h => absurd h List.not_mem_nil, fun _ h => absurd h List.not_mem_nil, fun _ h => absurd h List.not_mem_nil, fun _ h => absurd h List.not_mem_nil⟩ dkX11_lengthOf (by decide +kernel) (by rw [h.2.2.1]; exact q100_ok)
/-- NearSpell.State.usesOf -/
def q101_M : rfM := ((⟨"NearSpell$State", "usesOf", "(I)I"⟩, prog_10_method_8_code, 2, (some .int)), (0,0), ([.inr (.inl [13]),.inl ((0,13,1),none)],[]), [], [(some (.inl (((-2147483648),2147483647,1),none)),[],[])])
def ddX8_usesOf : List (Nat × Instr × Nat) := [(0,.iload_n 1,1),(1,.ifCond .lt 21,3),(4,.iload_n 1,1),(5,.bipush 14,2),(7,.if_icmp .ge 15,3),(10,.aload_n 0,1),(11,.getfield 11,3),(14,.bipush 14,2),(16,.iload_n 1,1),(17,.iadd,1),(18,.iaload,1),(19,.goto 4,3),(22,.iconst 0,1),(23,.ireturn,1)]
set_option maxRecDepth 100000 in
theorem dkX8_usesOf : rf_decs prog_10_method_8_code ddX8_usesOf := rf_decs_of (by decide +kernel)
def q101_P : rfP := (flX8,csX8,lcX8,spX8,[],[],[],([],[]))
def q101_U : rfU := []
set_option maxHeartbeats 8000000 in
def q101_N : List rfB := [(0,([(0,.inr (.inl [13])),(1,.inl ((0,13,1),none))],[],[]),(12,[]),0)]
set_option maxRecDepth 100000 in
theorem q101_ok : rf_chkB q101_P q101_U wLay q101_M ddX8_usesOf [] [] [0] 600 q101_N = true := by decide +kernel
set_option maxHeartbeats 4000000 in
theorem q101_met {G : rfG} (h : okG G) (hh : wHandOK G) : rf_met G q101_M := rf_methodB h.1 (P := q101_P) (U := q101_U) (N := q101_N) ⟨wflT h flokX8, wcsT h csokX8, wlcT h lcokX8, spokX8 h, fun _ h => absurd h List.not_mem_nil, fun _ h => absurd h List.not_mem_nil, fun _ h => absurd h List.not_mem_nil, fun _ h => absurd h List.not_mem_nil, fun _ h => absurd h List.not_mem_nil⟩ dkX8_usesOf (by decide +kernel) (by rw [h.2.2.1]; exact q101_ok)
/-- NearSpell.beginningOf -/
def q102_M : rfM := ((⟨"NearSpell", "beginningOf", "(II)I"⟩, prog_1_method_55_code, 3, (some .int)), (1,21), ([.inl (((-2147483648),2147483647,1),none),.inl ((1,6,1),none)],[]), [], [(some (.inl (((-2147483648),2147483647,1),none)),[],[])])
def ddX11_beginningOf : List (Nat × Instr × Nat) := [(0,.iload_n 0,1),(1,.invokestatic 148,3),(4,.iload_n 1,1),(5,.isub,1),(6,.istore_n 2,1),(7,.iload_n 2,1),(8,.ifCond .le 19,3),(11,.iload_n 2,1),(12,.bipush 6,2),(14,.if_icmp .gt 13,3),(17,.iload_n 0,1),(18,.getstatic 360,3),(21,.iload_n 2,1),(22,.iaload,1),(23,.idiv,1),(24,.goto 4,3),(27,.iload_n 0,1),(28,.ireturn,1)]
set_option maxRecDepth 100000 in
theorem dkX11_beginningOf : rf_decs prog_1_method_55_code ddX11_beginningOf := rf_decs_of (by decide +kernel)
def q102_P : rfP := (flX11,csX11,lcX11,spX11,[q100_M],[(148,0)],[],([],[]))
def q102_U : rfU := []
set_option maxHeartbeats 8000000 in
def q102_N : List rfB := [(0,([(0,.inl (((-2147483648),2147483647,1),none)),(1,.inl ((1,6,1),none))],[],[]),(17,[]),0),
  (28,([(0,.inl (((-2147483648),2147483647,1),none)),(1,.inl ((1,6,1),none)),(2,.inl (((-6),5,1),none))],[.inl (((-2147483648),2147483647,1),none)],[]),(0,[]),0)]
set_option maxRecDepth 100000 in
theorem q102_ok : rf_chkB q102_P q102_U wLay q102_M ddX11_beginningOf [(1,[0])] [] [0,28] 600 q102_N = true := by decide +kernel
set_option maxHeartbeats 4000000 in
theorem q102_met {G : rfG} (h : okG G) (hh : wHandOK G) : rf_met G q102_M := rf_methodB h.1 (P := q102_P) (U := q102_U) (N := q102_N) ⟨wflT h flokX11, wcsT h csokX11, wlcT h lcokX11, spokX11 h, List.forall_mem_cons.mpr ⟨q100_met h hh, fun _ h => absurd h List.not_mem_nil⟩, List.forall_mem_cons.mpr ⟨fun M hM => Option.some.inj (show some q100_M = some M from hM) ▸ wlkS (lkX11_148 h) q100_M rfl rfl, fun _ h => absurd h List.not_mem_nil⟩, fun _ h => absurd h List.not_mem_nil, fun _ h => absurd h List.not_mem_nil, fun _ h => absurd h List.not_mem_nil⟩ dkX11_beginningOf (by decide +kernel) (by rw [h.2.2.1]; exact q102_ok)
/-- NearSpell.FormList.add -/
def q103_M : rfM := ((⟨"NearSpell$FormList", "add", "(I)V"⟩, prog_5_method_4_code, 4, none), (0,0), ([.inr (.inl [40]),.inl (((-2147483648),2147483647,1),none)],[]), [(39,0),(40,2)], [(none,[],[])])
def ddX3_add : List (Nat × Instr × Nat) := [(0,.aload_n 0,1),(1,.getfield 15,3),(4,.istore_n 2,1),(5,.iload_n 2,1),(6,.ifCond .le 21,3),(9,.aload_n 0,1),(10,.getfield 9,3),(13,.iload_n 2,1),(14,.iconst 1,1),(15,.isub,1),(16,.iaload,1),(17,.iload_n 1,1),(18,.if_icmp .le 9,3),(21,.iinc 2 (-1),3),(24,.goto (-19),3),(27,.iload_n 2,1),(28,.ifCond .le 15,3),(31,.aload_n 0,1),(32,.getfield 9,3),(35,.iload_n 2,1),(36,.iconst 1,1),(37,.isub,1),(38,.iaload,1),(39,.iload_n 1,1),(40,.if_icmp .eq 15,3),(43,.aload_n 0,1),(44,.getfield 15,3),(47,.aload_n 0,1),(48,.getfield 9,3),(51,.arraylength,1),(52,.if_icmp .lt 4,3),(55,.return_,1),(56,.aload_n 0,1),(57,.getfield 15,3),(60,.istore_n 3,1),(61,.iload_n 3,1),(62,.iload_n 2,1),(63,.if_icmp .le 23,3),(66,.aload_n 0,1),(67,.getfield 9,3),(70,.iload_n 3,1),(71,.aload_n 0,1),(72,.getfield 9,3),(75,.iload_n 3,1),(76,.iconst 1,1),(77,.isub,1),(78,.iaload,1),(79,.iastore,1),(80,.iinc 3 (-1),3),(83,.goto (-22),3),(86,.aload_n 0,1),(87,.getfield 9,3),(90,.iload_n 2,1),(91,.iload_n 1,1),(92,.iastore,1),(93,.aload_n 0,1),(94,.dup,1),(95,.getfield 15,3),(98,.iconst 1,1),(99,.iadd,1),(100,.putfield 15,3),(103,.return_,1)]
set_option maxRecDepth 100000 in
theorem dkX3_add : rf_decs prog_5_method_4_code ddX3_add := rf_decs_of (by decide +kernel)
def q103_P : rfP := (flX3,csX3,lcX3,spX3,[],[],[],([],[]))
def q103_U : rfU := [(.inr (40,1),[(0,21),(22,22)])]
set_option maxHeartbeats 8000000 in
def q103_N : List rfB := [(0,([(0,.inr (.inl [40])),(1,.inl (((-2147483648),2147483647,1),none))],[],[]),(992,[0,0]),1000000),
  (5,([(0,.inr (.inl [40])),(1,.inl (((-2147483648),2147483647,1),none)),(2,.inl ((0,21,1),none))],[],[((40,1),(0,21,1),none)]),(394,[13,0]),0),
  (5,([(0,.inr (.inl [40])),(1,.inl (((-2147483648),2147483647,1),none)),(2,.inl ((0,22,1),none))],[],[((40,1),(22,22,1),none)]),(700,[13,0]),0),
  (27,([(0,.inr (.inl [40])),(1,.inl (((-2147483648),2147483647,1),none)),(2,.inl ((0,21,1),none))],[],[((40,1),(0,21,1),none)]),(383,[0,0]),0),
  (27,([(0,.inr (.inl [40])),(1,.inl (((-2147483648),2147483647,1),none)),(2,.inl ((0,22,1),none))],[],[((40,1),(22,22,1),none)]),(689,[0,0]),0),
  (43,([(0,.inr (.inl [40])),(1,.inl (((-2147483648),2147483647,1),none)),(2,.inl ((0,21,1),none))],[],[((40,1),(0,21,1),none)]),(372,[0,0]),0),
  (43,([(0,.inr (.inl [40])),(1,.inl (((-2147483648),2147483647,1),none)),(2,.inl ((0,22,1),none))],[],[((40,1),(22,22,1),none)]),(679,[0,0]),0),
  (55,([(0,.inr (.inl [40])),(1,.inl (((-2147483648),2147483647,1),none)),(2,.inl ((1,21,1),none))],[],[((40,1),(0,21,1),none)]),(373,[0,0]),0),
  (55,([(0,.inr (.inl [40])),(1,.inl (((-2147483648),2147483647,1),none)),(2,.inl ((0,22,1),none))],[],[((40,1),(22,22,1),none)]),(673,[0,0]),0),
  (61,([(0,.inr (.inl [40])),(1,.inl (((-2147483648),2147483647,1),none)),(2,.inl ((0,21,1),none)),(3,.inl ((0,21,1),none))],[],[((40,1),(0,21,1),none)]),(25,[0,16]),0)]
set_option maxRecDepth 100000 in
theorem q103_ok : rf_chkB q103_P q103_U wLay q103_M ddX3_add [] [.inl 2,.inl 3] [0,5,27,43,55,61] 600 q103_N = true := by decide +kernel
set_option maxHeartbeats 4000000 in
theorem q103_met {G : rfG} (h : okG G) (hh : wHandOK G) : rf_met G q103_M := rf_methodB h.1 (P := q103_P) (U := q103_U) (N := q103_N) ⟨wflT h flokX3, wcsT h csokX3, wlcT h lcokX3, spokX3 h, fun _ h => absurd h List.not_mem_nil, fun _ h => absurd h List.not_mem_nil, fun _ h => absurd h List.not_mem_nil, fun _ h => absurd h List.not_mem_nil, fun _ h => absurd h List.not_mem_nil⟩ dkX3_add (by decide +kernel) (by rw [h.2.2.1]; exact q103_ok)
/-- NearSpell.FormList.add -/
def q104_M : rfM := ((⟨"NearSpell$FormList", "add", "(I)V"⟩, prog_5_method_4_code, 4, none), (0,0), ([.inr (.inl [24]),.inl (((-2147483648),2147483647,1),none)],[]), [(23,0),(24,2)], [(none,[],[])])
def q104_P : rfP := (flX3,csX3,lcX3,spX3,[],[],[],([],[]))
def q104_U : rfU := [(.inr (24,1),[(0,21),(22,22)])]
set_option maxHeartbeats 8000000 in
def q104_N : List rfB := [(0,([(0,.inr (.inl [24])),(1,.inl (((-2147483648),2147483647,1),none))],[],[]),(992,[0,0]),1000000),
  (5,([(0,.inr (.inl [24])),(1,.inl (((-2147483648),2147483647,1),none)),(2,.inl ((0,21,1),none))],[],[((24,1),(0,21,1),none)]),(394,[13,0]),0),
  (5,([(0,.inr (.inl [24])),(1,.inl (((-2147483648),2147483647,1),none)),(2,.inl ((0,22,1),none))],[],[((24,1),(22,22,1),none)]),(700,[13,0]),0),
  (27,([(0,.inr (.inl [24])),(1,.inl (((-2147483648),2147483647,1),none)),(2,.inl ((0,21,1),none))],[],[((24,1),(0,21,1),none)]),(383,[0,0]),0),
  (27,([(0,.inr (.inl [24])),(1,.inl (((-2147483648),2147483647,1),none)),(2,.inl ((0,22,1),none))],[],[((24,1),(22,22,1),none)]),(689,[0,0]),0),
  (43,([(0,.inr (.inl [24])),(1,.inl (((-2147483648),2147483647,1),none)),(2,.inl ((0,21,1),none))],[],[((24,1),(0,21,1),none)]),(372,[0,0]),0),
  (43,([(0,.inr (.inl [24])),(1,.inl (((-2147483648),2147483647,1),none)),(2,.inl ((0,22,1),none))],[],[((24,1),(22,22,1),none)]),(679,[0,0]),0),
  (55,([(0,.inr (.inl [24])),(1,.inl (((-2147483648),2147483647,1),none)),(2,.inl ((1,21,1),none))],[],[((24,1),(0,21,1),none)]),(373,[0,0]),0),
  (55,([(0,.inr (.inl [24])),(1,.inl (((-2147483648),2147483647,1),none)),(2,.inl ((0,22,1),none))],[],[((24,1),(22,22,1),none)]),(673,[0,0]),0),
  (61,([(0,.inr (.inl [24])),(1,.inl (((-2147483648),2147483647,1),none)),(2,.inl ((0,21,1),none)),(3,.inl ((0,21,1),none))],[],[((24,1),(0,21,1),none)]),(25,[0,16]),0)]
set_option maxRecDepth 100000 in
theorem q104_ok : rf_chkB q104_P q104_U wLay q104_M ddX3_add [] [.inl 2,.inl 3] [0,5,27,43,55,61] 600 q104_N = true := by decide +kernel
set_option maxHeartbeats 4000000 in
theorem q104_met {G : rfG} (h : okG G) (hh : wHandOK G) : rf_met G q104_M := rf_methodB h.1 (P := q104_P) (U := q104_U) (N := q104_N) ⟨wflT h flokX3, wcsT h csokX3, wlcT h lcokX3, spokX3 h, fun _ h => absurd h List.not_mem_nil, fun _ h => absurd h List.not_mem_nil, fun _ h => absurd h List.not_mem_nil, fun _ h => absurd h List.not_mem_nil, fun _ h => absurd h List.not_mem_nil⟩ dkX3_add (by decide +kernel) (by rw [h.2.2.1]; exact q104_ok)
/-- NearSpell.FormList.add -/
def q105_M : rfM := ((⟨"NearSpell$FormList", "add", "(I)V"⟩, prog_5_method_4_code, 4, none), (0,0), ([.inr (.inl [34]),.inl (((-2147483648),2147483647,1),none)],[]), [(33,0),(34,2)], [(none,[],[])])
def q105_P : rfP := (flX3,csX3,lcX3,spX3,[],[],[],([],[]))
def q105_U : rfU := [(.inr (34,1),[(0,21),(22,22)])]
set_option maxHeartbeats 8000000 in
def q105_N : List rfB := [(0,([(0,.inr (.inl [34])),(1,.inl (((-2147483648),2147483647,1),none))],[],[]),(992,[0,0]),1000000),
  (5,([(0,.inr (.inl [34])),(1,.inl (((-2147483648),2147483647,1),none)),(2,.inl ((0,22,1),none))],[],[((34,1),(22,22,1),none)]),(700,[13,0]),0),
  (5,([(0,.inr (.inl [34])),(1,.inl (((-2147483648),2147483647,1),none)),(2,.inl ((0,21,1),none))],[],[((34,1),(0,21,1),none)]),(394,[13,0]),0),
  (27,([(0,.inr (.inl [34])),(1,.inl (((-2147483648),2147483647,1),none)),(2,.inl ((0,21,1),none))],[],[((34,1),(0,21,1),none)]),(383,[0,0]),0),
  (27,([(0,.inr (.inl [34])),(1,.inl (((-2147483648),2147483647,1),none)),(2,.inl ((0,22,1),none))],[],[((34,1),(22,22,1),none)]),(689,[0,0]),0),
  (43,([(0,.inr (.inl [34])),(1,.inl (((-2147483648),2147483647,1),none)),(2,.inl ((0,21,1),none))],[],[((34,1),(0,21,1),none)]),(372,[0,0]),0),
  (43,([(0,.inr (.inl [34])),(1,.inl (((-2147483648),2147483647,1),none)),(2,.inl ((0,22,1),none))],[],[((34,1),(22,22,1),none)]),(679,[0,0]),0),
  (55,([(0,.inr (.inl [34])),(1,.inl (((-2147483648),2147483647,1),none)),(2,.inl ((1,21,1),none))],[],[((34,1),(0,21,1),none)]),(373,[0,0]),0),
  (55,([(0,.inr (.inl [34])),(1,.inl (((-2147483648),2147483647,1),none)),(2,.inl ((0,22,1),none))],[],[((34,1),(22,22,1),none)]),(673,[0,0]),0),
  (61,([(0,.inr (.inl [34])),(1,.inl (((-2147483648),2147483647,1),none)),(2,.inl ((0,21,1),none)),(3,.inl ((0,21,1),none))],[],[((34,1),(0,21,1),none)]),(25,[0,16]),0)]
set_option maxRecDepth 100000 in
theorem q105_ok : rf_chkB q105_P q105_U wLay q105_M ddX3_add [] [.inl 2,.inl 3] [0,5,27,43,55,61] 600 q105_N = true := by decide +kernel
set_option maxHeartbeats 4000000 in
theorem q105_met {G : rfG} (h : okG G) (hh : wHandOK G) : rf_met G q105_M := rf_methodB h.1 (P := q105_P) (U := q105_U) (N := q105_N) ⟨wflT h flokX3, wcsT h csokX3, wlcT h lcokX3, spokX3 h, fun _ h => absurd h List.not_mem_nil, fun _ h => absurd h List.not_mem_nil, fun _ h => absurd h List.not_mem_nil, fun _ h => absurd h List.not_mem_nil, fun _ h => absurd h List.not_mem_nil⟩ dkX3_add (by decide +kernel) (by rw [h.2.2.1]; exact q105_ok)
/-- NearSpell.FormList.add -/
def q106_M : rfM := ((⟨"NearSpell$FormList", "add", "(I)V"⟩, prog_5_method_4_code, 4, none), (0,0), ([.inr (.inl [42]),.inl (((-2147483648),2147483647,1),none)],[]), [(41,0),(42,2)], [(none,[],[])])
def q106_P : rfP := (flX3,csX3,lcX3,spX3,[],[],[],([],[]))
def q106_U : rfU := [(.inr (42,1),[(0,21),(22,22)])]
set_option maxHeartbeats 8000000 in
def q106_N : List rfB := [(0,([(0,.inr (.inl [42])),(1,.inl (((-2147483648),2147483647,1),none))],[],[]),(992,[0,0]),1000000),
  (5,([(0,.inr (.inl [42])),(1,.inl (((-2147483648),2147483647,1),none)),(2,.inl ((0,21,1),none))],[],[((42,1),(0,21,1),none)]),(394,[13,0]),0),
  (5,([(0,.inr (.inl [42])),(1,.inl (((-2147483648),2147483647,1),none)),(2,.inl ((0,22,1),none))],[],[((42,1),(22,22,1),none)]),(700,[13,0]),0),
  (27,([(0,.inr (.inl [42])),(1,.inl (((-2147483648),2147483647,1),none)),(2,.inl ((0,21,1),none))],[],[((42,1),(0,21,1),none)]),(383,[0,0]),0),
  (27,([(0,.inr (.inl [42])),(1,.inl (((-2147483648),2147483647,1),none)),(2,.inl ((0,22,1),none))],[],[((42,1),(22,22,1),none)]),(689,[0,0]),0),
  (43,([(0,.inr (.inl [42])),(1,.inl (((-2147483648),2147483647,1),none)),(2,.inl ((0,21,1),none))],[],[((42,1),(0,21,1),none)]),(372,[0,0]),0),
  (43,([(0,.inr (.inl [42])),(1,.inl (((-2147483648),2147483647,1),none)),(2,.inl ((0,22,1),none))],[],[((42,1),(22,22,1),none)]),(679,[0,0]),0),
  (55,([(0,.inr (.inl [42])),(1,.inl (((-2147483648),2147483647,1),none)),(2,.inl ((1,21,1),none))],[],[((42,1),(0,21,1),none)]),(373,[0,0]),0),
  (55,([(0,.inr (.inl [42])),(1,.inl (((-2147483648),2147483647,1),none)),(2,.inl ((0,22,1),none))],[],[((42,1),(22,22,1),none)]),(673,[0,0]),0),
  (61,([(0,.inr (.inl [42])),(1,.inl (((-2147483648),2147483647,1),none)),(2,.inl ((0,21,1),none)),(3,.inl ((0,21,1),none))],[],[((42,1),(0,21,1),none)]),(25,[0,16]),0)]
set_option maxRecDepth 100000 in
theorem q106_ok : rf_chkB q106_P q106_U wLay q106_M ddX3_add [] [.inl 2,.inl 3] [0,5,27,43,55,61] 600 q106_N = true := by decide +kernel
set_option maxHeartbeats 4000000 in
theorem q106_met {G : rfG} (h : okG G) (hh : wHandOK G) : rf_met G q106_M := rf_methodB h.1 (P := q106_P) (U := q106_U) (N := q106_N) ⟨wflT h flokX3, wcsT h csokX3, wlcT h lcokX3, spokX3 h, fun _ h => absurd h List.not_mem_nil, fun _ h => absurd h List.not_mem_nil, fun _ h => absurd h List.not_mem_nil, fun _ h => absurd h List.not_mem_nil, fun _ h => absurd h List.not_mem_nil⟩ dkX3_add (by decide +kernel) (by rw [h.2.2.1]; exact q106_ok)
/-- NearSpell.FormList.add -/
def q107_M : rfM := ((⟨"NearSpell$FormList", "add", "(I)V"⟩, prog_5_method_4_code, 4, none), (0,0), ([.inr (.inl [32]),.inl (((-2147483648),2147483647,1),none)],[]), [(31,0),(32,2)], [(none,[],[])])
def q107_P : rfP := (flX3,csX3,lcX3,spX3,[],[],[],([],[]))
def q107_U : rfU := [(.inr (32,1),[(0,21),(22,22)])]
set_option maxHeartbeats 8000000 in
def q107_N : List rfB := [(0,([(0,.inr (.inl [32])),(1,.inl (((-2147483648),2147483647,1),none))],[],[]),(992,[0,0]),1000000),
  (5,([(0,.inr (.inl [32])),(1,.inl (((-2147483648),2147483647,1),none)),(2,.inl ((0,22,1),none))],[],[((32,1),(22,22,1),none)]),(700,[13,0]),0),
  (5,([(0,.inr (.inl [32])),(1,.inl (((-2147483648),2147483647,1),none)),(2,.inl ((0,21,1),none))],[],[((32,1),(0,21,1),none)]),(394,[13,0]),0),
  (27,([(0,.inr (.inl [32])),(1,.inl (((-2147483648),2147483647,1),none)),(2,.inl ((0,21,1),none))],[],[((32,1),(0,21,1),none)]),(383,[0,0]),0),
  (27,([(0,.inr (.inl [32])),(1,.inl (((-2147483648),2147483647,1),none)),(2,.inl ((0,22,1),none))],[],[((32,1),(22,22,1),none)]),(689,[0,0]),0),
  (43,([(0,.inr (.inl [32])),(1,.inl (((-2147483648),2147483647,1),none)),(2,.inl ((0,21,1),none))],[],[((32,1),(0,21,1),none)]),(372,[0,0]),0),
  (43,([(0,.inr (.inl [32])),(1,.inl (((-2147483648),2147483647,1),none)),(2,.inl ((0,22,1),none))],[],[((32,1),(22,22,1),none)]),(679,[0,0]),0),
  (55,([(0,.inr (.inl [32])),(1,.inl (((-2147483648),2147483647,1),none)),(2,.inl ((1,21,1),none))],[],[((32,1),(0,21,1),none)]),(373,[0,0]),0),
  (55,([(0,.inr (.inl [32])),(1,.inl (((-2147483648),2147483647,1),none)),(2,.inl ((0,22,1),none))],[],[((32,1),(22,22,1),none)]),(673,[0,0]),0),
  (61,([(0,.inr (.inl [32])),(1,.inl (((-2147483648),2147483647,1),none)),(2,.inl ((0,21,1),none)),(3,.inl ((0,21,1),none))],[],[((32,1),(0,21,1),none)]),(25,[0,16]),0)]
set_option maxRecDepth 100000 in
theorem q107_ok : rf_chkB q107_P q107_U wLay q107_M ddX3_add [] [.inl 2,.inl 3] [0,5,27,43,55,61] 600 q107_N = true := by decide +kernel
set_option maxHeartbeats 4000000 in
theorem q107_met {G : rfG} (h : okG G) (hh : wHandOK G) : rf_met G q107_M := rf_methodB h.1 (P := q107_P) (U := q107_U) (N := q107_N) ⟨wflT h flokX3, wcsT h csokX3, wlcT h lcokX3, spokX3 h, fun _ h => absurd h List.not_mem_nil, fun _ h => absurd h List.not_mem_nil, fun _ h => absurd h List.not_mem_nil, fun _ h => absurd h List.not_mem_nil, fun _ h => absurd h List.not_mem_nil⟩ dkX3_add (by decide +kernel) (by rw [h.2.2.1]; exact q107_ok)
/-- NearSpell.FormList.add -/
def q108_M : rfM := ((⟨"NearSpell$FormList", "add", "(I)V"⟩, prog_5_method_4_code, 4, none), (0,0), ([.inr (.inl [26]),.inl (((-2147483648),2147483647,1),none)],[]), [(25,0),(26,2)], [(none,[],[])])
def q108_P : rfP := (flX3,csX3,lcX3,spX3,[],[],[],([],[]))
def q108_U : rfU := [(.inr (26,1),[(0,21),(22,22)])]
set_option maxHeartbeats 8000000 in
def q108_N : List rfB := [(0,([(0,.inr (.inl [26])),(1,.inl (((-2147483648),2147483647,1),none))],[],[]),(992,[0,0]),1000000),
  (5,([(0,.inr (.inl [26])),(1,.inl (((-2147483648),2147483647,1),none)),(2,.inl ((0,21,1),none))],[],[((26,1),(0,21,1),none)]),(394,[13,0]),0),
  (5,([(0,.inr (.inl [26])),(1,.inl (((-2147483648),2147483647,1),none)),(2,.inl ((0,22,1),none))],[],[((26,1),(22,22,1),none)]),(700,[13,0]),0),
  (27,([(0,.inr (.inl [26])),(1,.inl (((-2147483648),2147483647,1),none)),(2,.inl ((0,21,1),none))],[],[((26,1),(0,21,1),none)]),(383,[0,0]),0),
  (27,([(0,.inr (.inl [26])),(1,.inl (((-2147483648),2147483647,1),none)),(2,.inl ((0,22,1),none))],[],[((26,1),(22,22,1),none)]),(689,[0,0]),0),
  (43,([(0,.inr (.inl [26])),(1,.inl (((-2147483648),2147483647,1),none)),(2,.inl ((0,21,1),none))],[],[((26,1),(0,21,1),none)]),(372,[0,0]),0),
  (43,([(0,.inr (.inl [26])),(1,.inl (((-2147483648),2147483647,1),none)),(2,.inl ((0,22,1),none))],[],[((26,1),(22,22,1),none)]),(679,[0,0]),0),
  (55,([(0,.inr (.inl [26])),(1,.inl (((-2147483648),2147483647,1),none)),(2,.inl ((1,21,1),none))],[],[((26,1),(0,21,1),none)]),(373,[0,0]),0),
  (55,([(0,.inr (.inl [26])),(1,.inl (((-2147483648),2147483647,1),none)),(2,.inl ((0,22,1),none))],[],[((26,1),(22,22,1),none)]),(673,[0,0]),0),
  (61,([(0,.inr (.inl [26])),(1,.inl (((-2147483648),2147483647,1),none)),(2,.inl ((0,21,1),none)),(3,.inl ((0,21,1),none))],[],[((26,1),(0,21,1),none)]),(25,[0,16]),0)]
set_option maxRecDepth 100000 in
theorem q108_ok : rf_chkB q108_P q108_U wLay q108_M ddX3_add [] [.inl 2,.inl 3] [0,5,27,43,55,61] 600 q108_N = true := by decide +kernel
set_option maxHeartbeats 4000000 in
theorem q108_met {G : rfG} (h : okG G) (hh : wHandOK G) : rf_met G q108_M := rf_methodB h.1 (P := q108_P) (U := q108_U) (N := q108_N) ⟨wflT h flokX3, wcsT h csokX3, wlcT h lcokX3, spokX3 h, fun _ h => absurd h List.not_mem_nil, fun _ h => absurd h List.not_mem_nil, fun _ h => absurd h List.not_mem_nil, fun _ h => absurd h List.not_mem_nil, fun _ h => absurd h List.not_mem_nil⟩ dkX3_add (by decide +kernel) (by rw [h.2.2.1]; exact q108_ok)
/-- NearSpell.FormList.add -/
def q109_M : rfM := ((⟨"NearSpell$FormList", "add", "(I)V"⟩, prog_5_method_4_code, 4, none), (0,0), ([.inr (.inl [44]),.inl (((-2147483648),2147483647,1),none)],[]), [(43,0),(44,2)], [(none,[],[])])
def q109_P : rfP := (flX3,csX3,lcX3,spX3,[],[],[],([],[]))
def q109_U : rfU := [(.inr (44,1),[(0,21),(22,22)])]
set_option maxHeartbeats 8000000 in
def q109_N : List rfB := [(0,([(0,.inr (.inl [44])),(1,.inl (((-2147483648),2147483647,1),none))],[],[]),(992,[0,0]),1000000),
  (5,([(0,.inr (.inl [44])),(1,.inl (((-2147483648),2147483647,1),none)),(2,.inl ((0,21,1),none))],[],[((44,1),(0,21,1),none)]),(394,[13,0]),0),
  (5,([(0,.inr (.inl [44])),(1,.inl (((-2147483648),2147483647,1),none)),(2,.inl ((0,22,1),none))],[],[((44,1),(22,22,1),none)]),(700,[13,0]),0),
  (27,([(0,.inr (.inl [44])),(1,.inl (((-2147483648),2147483647,1),none)),(2,.inl ((0,21,1),none))],[],[((44,1),(0,21,1),none)]),(383,[0,0]),0),
  (27,([(0,.inr (.inl [44])),(1,.inl (((-2147483648),2147483647,1),none)),(2,.inl ((0,22,1),none))],[],[((44,1),(22,22,1),none)]),(689,[0,0]),0),
  (43,([(0,.inr (.inl [44])),(1,.inl (((-2147483648),2147483647,1),none)),(2,.inl ((0,21,1),none))],[],[((44,1),(0,21,1),none)]),(372,[0,0]),0),
  (43,([(0,.inr (.inl [44])),(1,.inl (((-2147483648),2147483647,1),none)),(2,.inl ((0,22,1),none))],[],[((44,1),(22,22,1),none)]),(679,[0,0]),0),
  (55,([(0,.inr (.inl [44])),(1,.inl (((-2147483648),2147483647,1),none)),(2,.inl ((1,21,1),none))],[],[((44,1),(0,21,1),none)]),(373,[0,0]),0),
  (55,([(0,.inr (.inl [44])),(1,.inl (((-2147483648),2147483647,1),none)),(2,.inl ((0,22,1),none))],[],[((44,1),(22,22,1),none)]),(673,[0,0]),0),
  (61,([(0,.inr (.inl [44])),(1,.inl (((-2147483648),2147483647,1),none)),(2,.inl ((0,21,1),none)),(3,.inl ((0,21,1),none))],[],[((44,1),(0,21,1),none)]),(25,[0,16]),0)]
set_option maxRecDepth 100000 in
theorem q109_ok : rf_chkB q109_P q109_U wLay q109_M ddX3_add [] [.inl 2,.inl 3] [0,5,27,43,55,61] 600 q109_N = true := by decide +kernel
set_option maxHeartbeats 4000000 in
theorem q109_met {G : rfG} (h : okG G) (hh : wHandOK G) : rf_met G q109_M := rf_methodB h.1 (P := q109_P) (U := q109_U) (N := q109_N) ⟨wflT h flokX3, wcsT h csokX3, wlcT h lcokX3, spokX3 h, fun _ h => absurd h List.not_mem_nil, fun _ h => absurd h List.not_mem_nil, fun _ h => absurd h List.not_mem_nil, fun _ h => absurd h List.not_mem_nil, fun _ h => absurd h List.not_mem_nil⟩ dkX3_add (by decide +kernel) (by rw [h.2.2.1]; exact q109_ok)
