/-- NearSpell.Web.mostOf -/
def q300_M : rfM := ((⟨"NearSpell$Web", "mostOf", "(II)I"⟩, prog_11_method_14_code, 5, (some .int)), (3,72), ([.inr (.inl [61]),.inl (((-2147483648),2147483647,1),none),.inl (((-1),2,1),none)],[]), [], [(some (.inl ((0,3,1),none)),[],[])])
def q300_P : rfP := (flX9,csX9,lcX9,spX9,[q226_M,q288_M,q246_M,q251_M],[(76,2),(81,3)],[(50,0,9),(72,1,9)],[])
def q300_U : rfU := []
set_option maxHeartbeats 4000000 in
def q300_N : List rfB := [(0,([(0,.inr (.inl [61])),(1,.inl (((-2147483648),2147483647,1),none)),(2,.inl (((-1),2,1),none))],[],[]),(63,[]),0)]
set_option maxRecDepth 100000 in
theorem q300_ok : rf_chkB q300_P q300_U wLay q300_M ddX9_mostOf [(15,[0]),(26,[1]),(53,[1]),(67,[2]),(84,[1]),(87,[3])] [] [0] 600 q300_N = true := by decide +kernel
/-- NearSpell.Web.mostOf -/
def q301_M : rfM := ((⟨"NearSpell$Web", "mostOf", "(II)I"⟩, prog_11_method_14_code, 5, (some .int)), (4,96), ([.inr (.inl [61]),.inl (((-2147483648),2147483647,1),none),.inl ((0,3,1),none)],[]), [], [(some (.inl ((0,4,1),none)),[],[])])
def q301_P : rfP := (flX9,csX9,lcX9,spX9,[q226_M,q300_M,q246_M,q253_M],[(76,2),(81,3)],[(50,0,9),(72,1,9)],[])
def q301_U : rfU := []
set_option maxHeartbeats 4000000 in
def q301_N : List rfB := [(0,([(0,.inr (.inl [61])),(1,.inl (((-2147483648),2147483647,1),none)),(2,.inl ((0,3,1),none))],[],[]),(61,[]),0)]
set_option maxRecDepth 100000 in
theorem q301_ok : rf_chkB q301_P q301_U wLay q301_M ddX9_mostOf [(15,[0]),(26,[1]),(53,[1]),(67,[2]),(84,[1]),(87,[3])] [] [0] 600 q301_N = true := by decide +kernel
/-- NearSpell.Web.mostOf -/
def q302_M : rfM := ((⟨"NearSpell$Web", "mostOf", "(II)I"⟩, prog_11_method_14_code, 5, (some .int)), (5,120), ([.inr (.inl [61]),.inl (((-2147483648),2147483647,1),none),.inl ((1,4,1),none)],[]), [], [(some (.inl ((0,5,1),none)),[],[])])
def q302_P : rfP := (flX9,csX9,lcX9,spX9,[q226_M,q301_M,q246_M,q255_M],[(76,2),(81,3)],[(50,0,9),(72,1,9)],[])
def q302_U : rfU := []
set_option maxHeartbeats 4000000 in
def q302_N : List rfB := [(0,([(0,.inr (.inl [61])),(1,.inl (((-2147483648),2147483647,1),none)),(2,.inl ((1,4,1),none))],[],[]),(61,[]),0)]
set_option maxRecDepth 100000 in
theorem q302_ok : rf_chkB q302_P q302_U wLay q302_M ddX9_mostOf [(15,[0]),(26,[1]),(53,[1]),(67,[2]),(84,[1]),(87,[3])] [] [0] 600 q302_N = true := by decide +kernel
/-- NearSpell.Web.mostOf -/
def q303_M : rfM := ((⟨"NearSpell$Web", "mostOf", "(II)I"⟩, prog_11_method_14_code, 5, (some .int)), (6,144), ([.inr (.inl [61]),.inl (((-2147483648),2147483647,1),none),.inl ((2,5,1),none)],[]), [], [(some (.inl ((0,6,1),none)),[],[])])
def q303_P : rfP := (flX9,csX9,lcX9,spX9,[q226_M,q302_M,q246_M,q257_M],[(76,2),(81,3)],[(50,0,9),(72,1,9)],[])
def q303_U : rfU := []
set_option maxHeartbeats 4000000 in
def q303_N : List rfB := [(0,([(0,.inr (.inl [61])),(1,.inl (((-2147483648),2147483647,1),none)),(2,.inl ((2,5,1),none))],[],[]),(61,[]),0)]
set_option maxRecDepth 100000 in
theorem q303_ok : rf_chkB q303_P q303_U wLay q303_M ddX9_mostOf [(15,[0]),(26,[1]),(53,[1]),(67,[2]),(84,[1]),(87,[3])] [] [0] 600 q303_N = true := by decide +kernel
/-- NearSpell.Web.mostOf -/
def q304_M : rfM := ((⟨"NearSpell$Web", "mostOf", "(II)I"⟩, prog_11_method_14_code, 5, (some .int)), (7,168), ([.inr (.inl [61]),.inl (((-2147483648),2147483647,1),none),.inl ((3,6,1),none)],[]), [], [(some (.inl ((0,9,1),none)),[],[])])
def q304_P : rfP := (flX9,csX9,lcX9,spX9,[q226_M,q303_M,q246_M,q259_M],[(76,2),(81,3)],[(50,0,9),(72,1,9)],[])
def q304_U : rfU := []
set_option maxHeartbeats 4000000 in
def q304_N : List rfB := [(0,([(0,.inr (.inl [61])),(1,.inl (((-2147483648),2147483647,1),none)),(2,.inl ((3,6,1),none))],[],[]),(61,[]),0)]
set_option maxRecDepth 100000 in
theorem q304_ok : rf_chkB q304_P q304_U wLay q304_M ddX9_mostOf [(15,[0]),(26,[1]),(53,[1]),(67,[2]),(84,[1]),(87,[3])] [] [0] 600 q304_N = true := by decide +kernel
/-- NearSpell.Web.mostOf -/
def q305_M : rfM := ((⟨"NearSpell$Web", "mostOf", "(II)I"⟩, prog_11_method_14_code, 5, (some .int)), (8,192), ([.inr (.inl [61]),.inl (((-2147483648),2147483647,1),none),.inl ((4,7,1),none)],[]), [], [(some (.inl ((0,10,1),none)),[],[])])
def q305_P : rfP := (flX9,csX9,lcX9,spX9,[q226_M,q304_M,q246_M,q261_M],[(76,2),(81,3)],[(50,0,9),(72,1,9)],[])
def q305_U : rfU := []
set_option maxHeartbeats 4000000 in
def q305_N : List rfB := [(0,([(0,.inr (.inl [61])),(1,.inl (((-2147483648),2147483647,1),none)),(2,.inl ((4,7,1),none))],[],[]),(61,[]),0)]
set_option maxRecDepth 100000 in
theorem q305_ok : rf_chkB q305_P q305_U wLay q305_M ddX9_mostOf [(15,[0]),(26,[1]),(53,[1]),(67,[2]),(84,[1]),(87,[3])] [] [0] 600 q305_N = true := by decide +kernel
/-- NearSpell.Web.mostOf -/
def q306_M : rfM := ((⟨"NearSpell$Web", "mostOf", "(II)I"⟩, prog_11_method_14_code, 5, (some .int)), (9,216), ([.inr (.inl [61]),.inl (((-2147483648),2147483647,1),none),.inl ((5,8,1),none)],[]), [], [(some (.inl ((0,12,1),none)),[],[])])
def q306_P : rfP := (flX9,csX9,lcX9,spX9,[q226_M,q305_M,q246_M,q263_M],[(76,2),(81,3)],[(50,0,9),(72,1,9)],[])
def q306_U : rfU := []
set_option maxHeartbeats 4000000 in
def q306_N : List rfB := [(0,([(0,.inr (.inl [61])),(1,.inl (((-2147483648),2147483647,1),none)),(2,.inl ((5,8,1),none))],[],[]),(61,[]),0)]
set_option maxRecDepth 100000 in
theorem q306_ok : rf_chkB q306_P q306_U wLay q306_M ddX9_mostOf [(15,[0]),(26,[1]),(53,[1]),(67,[2]),(84,[1]),(87,[3])] [] [0] 600 q306_N = true := by decide +kernel
/-- NearSpell.Web.mostOf -/
def q307_M : rfM := ((⟨"NearSpell$Web", "mostOf", "(II)I"⟩, prog_11_method_14_code, 5, (some .int)), (10,240), ([.inr (.inl [61]),.inl (((-2147483648),2147483647,1),none),.inl ((6,9,1),none)],[]), [], [(some (.inl ((0,13,1),none)),[],[])])
def q307_P : rfP := (flX9,csX9,lcX9,spX9,[q226_M,q306_M,q246_M,q265_M],[(76,2),(81,3)],[(50,0,9),(72,1,9)],[])
def q307_U : rfU := []
set_option maxHeartbeats 4000000 in
def q307_N : List rfB := [(0,([(0,.inr (.inl [61])),(1,.inl (((-2147483648),2147483647,1),none)),(2,.inl ((6,9,1),none))],[],[]),(61,[]),0)]
set_option maxRecDepth 100000 in
theorem q307_ok : rf_chkB q307_P q307_U wLay q307_M ddX9_mostOf [(15,[0]),(26,[1]),(53,[1]),(67,[2]),(84,[1]),(87,[3])] [] [0] 600 q307_N = true := by decide +kernel
/-- NearSpell.Web.mostOf -/
def q308_M : rfM := ((⟨"NearSpell$Web", "mostOf", "(II)I"⟩, prog_11_method_14_code, 5, (some .int)), (11,264), ([.inr (.inl [61]),.inl (((-2147483648),2147483647,1),none),.inl ((7,10,1),none)],[]), [], [(some (.inl ((0,14,1),none)),[],[])])
def q308_P : rfP := (flX9,csX9,lcX9,spX9,[q226_M,q307_M,q246_M,q267_M],[(76,2),(81,3)],[(50,0,9),(72,1,9)],[])
def q308_U : rfU := []
set_option maxHeartbeats 4000000 in
def q308_N : List rfB := [(0,([(0,.inr (.inl [61])),(1,.inl (((-2147483648),2147483647,1),none)),(2,.inl ((7,10,1),none))],[],[]),(61,[]),0)]
set_option maxRecDepth 100000 in
theorem q308_ok : rf_chkB q308_P q308_U wLay q308_M ddX9_mostOf [(15,[0]),(26,[1]),(53,[1]),(67,[2]),(84,[1]),(87,[3])] [] [0] 600 q308_N = true := by decide +kernel
/-- NearSpell.Web.mostOf -/
def q309_M : rfM := ((⟨"NearSpell$Web", "mostOf", "(II)I"⟩, prog_11_method_14_code, 5, (some .int)), (12,288), ([.inr (.inl [61]),.inl (((-2147483648),2147483647,1),none),.inl ((8,11,1),none)],[]), [], [(some (.inl ((0,15,1),none)),[],[])])
def q309_P : rfP := (flX9,csX9,lcX9,spX9,[q226_M,q308_M,q246_M,q269_M],[(76,2),(81,3)],[(50,0,9),(72,1,9)],[])
def q309_U : rfU := []
set_option maxHeartbeats 4000000 in
def q309_N : List rfB := [(0,([(0,.inr (.inl [61])),(1,.inl (((-2147483648),2147483647,1),none)),(2,.inl ((8,11,1),none))],[],[]),(61,[]),0)]
set_option maxRecDepth 100000 in
theorem q309_ok : rf_chkB q309_P q309_U wLay q309_M ddX9_mostOf [(15,[0]),(26,[1]),(53,[1]),(67,[2]),(84,[1]),(87,[3])] [] [0] 600 q309_N = true := by decide +kernel
/-- NearSpell.Web.mostOf -/
def q310_M : rfM := ((⟨"NearSpell$Web", "mostOf", "(II)I"⟩, prog_11_method_14_code, 5, (some .int)), (13,312), ([.inr (.inl [61]),.inl (((-2147483648),2147483647,1),none),.inl ((9,12,1),none)],[]), [], [(some (.inl ((0,21,1),none)),[],[])])
def q310_P : rfP := (flX9,csX9,lcX9,spX9,[q226_M,q309_M,q246_M,q271_M],[(76,2),(81,3)],[(50,0,9),(72,1,9)],[])
def q310_U : rfU := []
set_option maxHeartbeats 4000000 in
def q310_N : List rfB := [(0,([(0,.inr (.inl [61])),(1,.inl (((-2147483648),2147483647,1),none)),(2,.inl ((9,12,1),none))],[],[]),(61,[]),0)]
set_option maxRecDepth 100000 in
theorem q310_ok : rf_chkB q310_P q310_U wLay q310_M ddX9_mostOf [(15,[0]),(26,[1]),(53,[1]),(67,[2]),(84,[1]),(87,[3])] [] [0] 600 q310_N = true := by decide +kernel
/-- NearSpell.Web.mostOf -/
def q311_M : rfM := ((⟨"NearSpell$Web", "mostOf", "(II)I"⟩, prog_11_method_14_code, 5, (some .int)), (4,96), ([.inr (.inl [61]),.inl (((-2147483648),2147483647,1),none),.inl (((-1),3,1),none)],[]), [], [(some (.inl ((0,4,1),none)),[],[])])
def q311_P : rfP := (flX9,csX9,lcX9,spX9,[q226_M,q300_M,q246_M,q253_M],[(76,2),(81,3)],[(50,0,9),(72,1,9)],[])
def q311_U : rfU := []
set_option maxHeartbeats 4000000 in
def q311_N : List rfB := [(0,([(0,.inr (.inl [61])),(1,.inl (((-2147483648),2147483647,1),none)),(2,.inl (((-1),3,1),none))],[],[]),(63,[]),0)]
set_option maxRecDepth 100000 in
theorem q311_ok : rf_chkB q311_P q311_U wLay q311_M ddX9_mostOf [(15,[0]),(26,[1]),(53,[1]),(67,[2]),(84,[1]),(87,[3])] [] [0] 600 q311_N = true := by decide +kernel
/-- NearSpell.Web.mostOf -/
def q312_M : rfM := ((⟨"NearSpell$Web", "mostOf", "(II)I"⟩, prog_11_method_14_code, 5, (some .int)), (5,120), ([.inr (.inl [61]),.inl (((-2147483648),2147483647,1),none),.inl (((-1),4,1),none)],[]), [], [(some (.inl ((0,5,1),none)),[],[])])
def q312_P : rfP := (flX9,csX9,lcX9,spX9,[q226_M,q311_M,q246_M,q255_M],[(76,2),(81,3)],[(50,0,9),(72,1,9)],[])
def q312_U : rfU := []
set_option maxHeartbeats 4000000 in
def q312_N : List rfB := [(0,([(0,.inr (.inl [61])),(1,.inl (((-2147483648),2147483647,1),none)),(2,.inl (((-1),4,1),none))],[],[]),(63,[]),0)]
set_option maxRecDepth 100000 in
theorem q312_ok : rf_chkB q312_P q312_U wLay q312_M ddX9_mostOf [(15,[0]),(26,[1]),(53,[1]),(67,[2]),(84,[1]),(87,[3])] [] [0] 600 q312_N = true := by decide +kernel
/-- NearSpell.Web.mostOf -/
def q313_M : rfM := ((⟨"NearSpell$Web", "mostOf", "(II)I"⟩, prog_11_method_14_code, 5, (some .int)), (6,144), ([.inr (.inl [61]),.inl (((-2147483648),2147483647,1),none),.inl (((-1),5,1),none)],[]), [], [(some (.inl ((0,6,1),none)),[],[])])
def q313_P : rfP := (flX9,csX9,lcX9,spX9,[q226_M,q312_M,q246_M,q257_M],[(76,2),(81,3)],[(50,0,9),(72,1,9)],[])
def q313_U : rfU := []
set_option maxHeartbeats 4000000 in
def q313_N : List rfB := [(0,([(0,.inr (.inl [61])),(1,.inl (((-2147483648),2147483647,1),none)),(2,.inl (((-1),5,1),none))],[],[]),(63,[]),0)]
set_option maxRecDepth 100000 in
theorem q313_ok : rf_chkB q313_P q313_U wLay q313_M ddX9_mostOf [(15,[0]),(26,[1]),(53,[1]),(67,[2]),(84,[1]),(87,[3])] [] [0] 600 q313_N = true := by decide +kernel
/-- NearSpell.Web.mostOf -/
def q314_M : rfM := ((⟨"NearSpell$Web", "mostOf", "(II)I"⟩, prog_11_method_14_code, 5, (some .int)), (7,168), ([.inr (.inl [61]),.inl (((-2147483648),2147483647,1),none),.inl (((-1),6,1),none)],[]), [], [(some (.inl ((0,9,1),none)),[],[])])
def q314_P : rfP := (flX9,csX9,lcX9,spX9,[q226_M,q313_M,q246_M,q259_M],[(76,2),(81,3)],[(50,0,9),(72,1,9)],[])
def q314_U : rfU := []
set_option maxHeartbeats 4000000 in
def q314_N : List rfB := [(0,([(0,.inr (.inl [61])),(1,.inl (((-2147483648),2147483647,1),none)),(2,.inl (((-1),6,1),none))],[],[]),(63,[]),0)]
set_option maxRecDepth 100000 in
theorem q314_ok : rf_chkB q314_P q314_U wLay q314_M ddX9_mostOf [(15,[0]),(26,[1]),(53,[1]),(67,[2]),(84,[1]),(87,[3])] [] [0] 600 q314_N = true := by decide +kernel
/-- NearSpell.Web.mostOf -/
def q315_M : rfM := ((⟨"NearSpell$Web", "mostOf", "(II)I"⟩, prog_11_method_14_code, 5, (some .int)), (8,192), ([.inr (.inl [61]),.inl (((-2147483648),2147483647,1),none),.inl (((-1),7,1),none)],[]), [], [(some (.inl ((0,10,1),none)),[],[])])
def q315_P : rfP := (flX9,csX9,lcX9,spX9,[q226_M,q314_M,q246_M,q261_M],[(76,2),(81,3)],[(50,0,9),(72,1,9)],[])
def q315_U : rfU := []
set_option maxHeartbeats 4000000 in
def q315_N : List rfB := [(0,([(0,.inr (.inl [61])),(1,.inl (((-2147483648),2147483647,1),none)),(2,.inl (((-1),7,1),none))],[],[]),(63,[]),0)]
set_option maxRecDepth 100000 in
theorem q315_ok : rf_chkB q315_P q315_U wLay q315_M ddX9_mostOf [(15,[0]),(26,[1]),(53,[1]),(67,[2]),(84,[1]),(87,[3])] [] [0] 600 q315_N = true := by decide +kernel
/-- NearSpell.Web.mostOf -/
def q316_M : rfM := ((⟨"NearSpell$Web", "mostOf", "(II)I"⟩, prog_11_method_14_code, 5, (some .int)), (9,216), ([.inr (.inl [61]),.inl (((-2147483648),2147483647,1),none),.inl (((-1),8,1),none)],[]), [], [(some (.inl ((0,12,1),none)),[],[])])
def q316_P : rfP := (flX9,csX9,lcX9,spX9,[q226_M,q315_M,q246_M,q263_M],[(76,2),(81,3)],[(50,0,9),(72,1,9)],[])
def q316_U : rfU := []
set_option maxHeartbeats 4000000 in
def q316_N : List rfB := [(0,([(0,.inr (.inl [61])),(1,.inl (((-2147483648),2147483647,1),none)),(2,.inl (((-1),8,1),none))],[],[]),(63,[]),0)]
set_option maxRecDepth 100000 in
theorem q316_ok : rf_chkB q316_P q316_U wLay q316_M ddX9_mostOf [(15,[0]),(26,[1]),(53,[1]),(67,[2]),(84,[1]),(87,[3])] [] [0] 600 q316_N = true := by decide +kernel
/-- NearSpell.Web.mostOf -/
def q317_M : rfM := ((⟨"NearSpell$Web", "mostOf", "(II)I"⟩, prog_11_method_14_code, 5, (some .int)), (10,240), ([.inr (.inl [61]),.inl (((-2147483648),2147483647,1),none),.inl (((-1),9,1),none)],[]), [], [(some (.inl ((0,13,1),none)),[],[])])
def q317_P : rfP := (flX9,csX9,lcX9,spX9,[q226_M,q316_M,q246_M,q265_M],[(76,2),(81,3)],[(50,0,9),(72,1,9)],[])
def q317_U : rfU := []
set_option maxHeartbeats 4000000 in
def q317_N : List rfB := [(0,([(0,.inr (.inl [61])),(1,.inl (((-2147483648),2147483647,1),none)),(2,.inl (((-1),9,1),none))],[],[]),(63,[]),0)]
set_option maxRecDepth 100000 in
theorem q317_ok : rf_chkB q317_P q317_U wLay q317_M ddX9_mostOf [(15,[0]),(26,[1]),(53,[1]),(67,[2]),(84,[1]),(87,[3])] [] [0] 600 q317_N = true := by decide +kernel
/-- NearSpell.Web.mostOf -/
def q318_M : rfM := ((⟨"NearSpell$Web", "mostOf", "(II)I"⟩, prog_11_method_14_code, 5, (some .int)), (11,264), ([.inr (.inl [61]),.inl (((-2147483648),2147483647,1),none),.inl (((-1),10,1),none)],[]), [], [(some (.inl ((0,14,1),none)),[],[])])
def q318_P : rfP := (flX9,csX9,lcX9,spX9,[q226_M,q317_M,q246_M,q267_M],[(76,2),(81,3)],[(50,0,9),(72,1,9)],[])
def q318_U : rfU := []
set_option maxHeartbeats 4000000 in
def q318_N : List rfB := [(0,([(0,.inr (.inl [61])),(1,.inl (((-2147483648),2147483647,1),none)),(2,.inl (((-1),10,1),none))],[],[]),(63,[]),0)]
set_option maxRecDepth 100000 in
theorem q318_ok : rf_chkB q318_P q318_U wLay q318_M ddX9_mostOf [(15,[0]),(26,[1]),(53,[1]),(67,[2]),(84,[1]),(87,[3])] [] [0] 600 q318_N = true := by decide +kernel
/-- NearSpell.Web.mostOf -/
def q319_M : rfM := ((⟨"NearSpell$Web", "mostOf", "(II)I"⟩, prog_11_method_14_code, 5, (some .int)), (12,288), ([.inr (.inl [61]),.inl (((-2147483648),2147483647,1),none),.inl ((0,11,1),none)],[]), [], [(some (.inl ((0,15,1),none)),[],[])])
def q319_P : rfP := (flX9,csX9,lcX9,spX9,[q226_M,q318_M,q246_M,q269_M],[(76,2),(81,3)],[(50,0,9),(72,1,9)],[])
def q319_U : rfU := []
set_option maxHeartbeats 4000000 in
def q319_N : List rfB := [(0,([(0,.inr (.inl [61])),(1,.inl (((-2147483648),2147483647,1),none)),(2,.inl ((0,11,1),none))],[],[]),(61,[]),0)]
set_option maxRecDepth 100000 in
theorem q319_ok : rf_chkB q319_P q319_U wLay q319_M ddX9_mostOf [(15,[0]),(26,[1]),(53,[1]),(67,[2]),(84,[1]),(87,[3])] [] [0] 600 q319_N = true := by decide +kernel
/-- NearSpell.Web.mostOf -/
def q320_M : rfM := ((⟨"NearSpell$Web", "mostOf", "(II)I"⟩, prog_11_method_14_code, 5, (some .int)), (13,312), ([.inr (.inl [61]),.inl (((-2147483648),2147483647,1),none),.inl ((1,12,1),none)],[]), [], [(some (.inl ((0,21,1),none)),[],[])])
def q320_P : rfP := (flX9,csX9,lcX9,spX9,[q226_M,q319_M,q246_M,q271_M],[(76,2),(81,3)],[(50,0,9),(72,1,9)],[])
def q320_U : rfU := []
set_option maxHeartbeats 4000000 in
def q320_N : List rfB := [(0,([(0,.inr (.inl [61])),(1,.inl (((-2147483648),2147483647,1),none)),(2,.inl ((1,12,1),none))],[],[]),(61,[]),0)]
set_option maxRecDepth 100000 in
theorem q320_ok : rf_chkB q320_P q320_U wLay q320_M ddX9_mostOf [(15,[0]),(26,[1]),(53,[1]),(67,[2]),(84,[1]),(87,[3])] [] [0] 600 q320_N = true := by decide +kernel
/-- NearSpell.Web.mostOf -/
def q321_M : rfM := ((⟨"NearSpell$Web", "mostOf", "(II)I"⟩, prog_11_method_14_code, 5, (some .int)), (12,288), ([.inr (.inl [61]),.inl (((-2147483648),2147483647,1),none),.inl (((-1),11,1),none)],[]), [], [(some (.inl ((0,15,1),none)),[],[])])
def q321_P : rfP := (flX9,csX9,lcX9,spX9,[q226_M,q318_M,q246_M,q269_M],[(76,2),(81,3)],[(50,0,9),(72,1,9)],[])
def q321_U : rfU := []
set_option maxHeartbeats 4000000 in
def q321_N : List rfB := [(0,([(0,.inr (.inl [61])),(1,.inl (((-2147483648),2147483647,1),none)),(2,.inl (((-1),11,1),none))],[],[]),(63,[]),0)]
set_option maxRecDepth 100000 in
theorem q321_ok : rf_chkB q321_P q321_U wLay q321_M ddX9_mostOf [(15,[0]),(26,[1]),(53,[1]),(67,[2]),(84,[1]),(87,[3])] [] [0] 600 q321_N = true := by decide +kernel
/-- NearSpell.Web.mostOf -/
def q322_M : rfM := ((⟨"NearSpell$Web", "mostOf", "(II)I"⟩, prog_11_method_14_code, 5, (some .int)), (13,312), ([.inr (.inl [61]),.inl (((-2147483648),2147483647,1),none),.inl ((0,12,1),none)],[]), [], [(some (.inl ((0,21,1),none)),[],[])])
def q322_P : rfP := (flX9,csX9,lcX9,spX9,[q226_M,q321_M,q246_M,q271_M],[(76,2),(81,3)],[(50,0,9),(72,1,9)],[])
def q322_U : rfU := []
set_option maxHeartbeats 4000000 in
def q322_N : List rfB := [(0,([(0,.inr (.inl [61])),(1,.inl (((-2147483648),2147483647,1),none)),(2,.inl ((0,12,1),none))],[],[]),(61,[]),0)]
set_option maxRecDepth 100000 in
theorem q322_ok : rf_chkB q322_P q322_U wLay q322_M ddX9_mostOf [(15,[0]),(26,[1]),(53,[1]),(67,[2]),(84,[1]),(87,[3])] [] [0] 600 q322_N = true := by decide +kernel
/-- NearSpell.Web.mostOf -/
def q323_M : rfM := ((⟨"NearSpell$Web", "mostOf", "(II)I"⟩, prog_11_method_14_code, 5, (some .int)), (13,312), ([.inr (.inl [61]),.inl (((-2147483648),2147483647,1),none),.inl (((-1),12,1),none)],[]), [], [(some (.inl ((0,21,1),none)),[],[])])
def q323_P : rfP := (flX9,csX9,lcX9,spX9,[q226_M,q321_M,q246_M,q271_M],[(76,2),(81,3)],[(50,0,9),(72,1,9)],[])
def q323_U : rfU := []
set_option maxHeartbeats 4000000 in
def q323_N : List rfB := [(0,([(0,.inr (.inl [61])),(1,.inl (((-2147483648),2147483647,1),none)),(2,.inl (((-1),12,1),none))],[],[]),(63,[]),0)]
set_option maxRecDepth 100000 in
theorem q323_ok : rf_chkB q323_P q323_U wLay q323_M ddX9_mostOf [(15,[0]),(26,[1]),(53,[1]),(67,[2]),(84,[1]),(87,[3])] [] [0] 600 q323_N = true := by decide +kernel
/-- NearSpell.Web.farApart -/
def q324_M : rfM := ((⟨"NearSpell$Web", "farApart", "(I)I"⟩, prog_11_method_13_code, 6, (some .int)), (15,360), ([.inr (.inl [61]),.inl ((0,6,1),none)],[]), [(17,0),(18,0),(19,0),(20,4),(20,5),(59,0),(60,0),(61,5)], [(some (.inl ((0,16383,1),none)),[],[((61,4),(0,2147483647,1),none)])])
def ddX9_farApart : List (Nat × Instr × Nat) := [(0,.aload_n 0,1),(1,.iload_n 1,1),(2,.invokevirtual 60,3),(5,.aload_n 0,1),(6,.getfield 26,3),(9,.istore_n 2,1),(10,.iconst 0,1),(11,.istore_n 3,1),(12,.aload_n 0,1),(13,.iload_n 2,1),(14,.bipush 13,2),(16,.invokevirtual 72,3),(19,.istore 4,2),(21,.bipush 13,2),(23,.istore 5,2),(25,.iload 5,2),(27,.ifCond .lt 64,3),(30,.aload_n 0,1),(31,.iload_n 2,1),(32,.iload 5,2),(34,.invokevirtual 50,3),(37,.ifCond .eq 48,3),(40,.iload_n 2,1),(41,.iconst 1,1),(42,.iload 5,2),(44,.ishl,1),(45,.iconst (-1),1),(46,.ixor,1),(47,.iand,1),(48,.istore_n 2,1),(49,.aload_n 0,1),(50,.iload_n 2,1),(51,.iload 5,2),(53,.iconst 1,1),(54,.isub,1),(55,.invokevirtual 72,3),(58,.iload 4,2),(60,.if_icmp .ge 25,3),(63,.iload_n 3,1),(64,.iconst 1,1),(65,.iload 5,2),(67,.ishl,1),(68,.ior,1),(69,.istore_n 3,1),(70,.iload_n 2,1),(71,.aload_n 0,1),(72,.getfield 23,3),(75,.iload 5,2),(77,.iaload,1),(78,.iconst (-1),1),(79,.ixor,1),(80,.iand,1),(81,.istore_n 2,1),(82,.iinc 4 (-1),3),(85,.iinc 5 (-1),3),(88,.goto (-63),3),(91,.iload_n 3,1),(92,.ireturn,1)]
def q324_P : rfP := (flX9,csX9,lcX9,spX9,[q231_M,q274_M,q226_M,q323_M],[],[(50,2,9),(60,0,9),(72,1,9),(72,3,9)],[])
def q324_U : rfU := []
set_option maxHeartbeats 4000000 in
def q324_N : List rfB := [(0,([(0,.inr (.inl [61])),(1,.inl ((0,6,1),none))],[],[]),(9722,[0,0]),0),
  (25,([(0,.inr (.inl [61])),(1,.inl ((0,6,1),none)),(2,.inl ((0,2147483647,1),none)),(3,.inl ((0,16383,1),none)),(4,.inl ((0,22,1),none)),(5,.inl (((-1),13,1),none))],[],[((61,4),(0,2147483647,1),none)]),(69,[422,27]),0),
  (85,([(0,.inr (.inl [61])),(1,.inl ((0,6,1),none)),(2,.inl ((0,2147483647,1),none)),(3,.inl ((0,16383,1),none)),(4,.inl ((0,22,1),none)),(5,.inl ((0,13,1),none))],[],[((61,4),(0,2147483647,1),none)]),(45,[422,27]),0)]
set_option maxRecDepth 100000 in
theorem q324_ok : rf_chkB q324_P q324_U wLay q324_M ddX9_farApart [(2,[0]),(16,[1]),(34,[2]),(55,[3])] [.inl 4,.inl 5] [0,25,85] 600 q324_N = true := by decide +kernel
/-- java/lang/Integer.bitCount -/
def q325_M : rfM := ((⟨"java/lang/Integer", "bitCount", "(I)I"⟩, prog_16_method_49_code, 1, (some .int)), (0,0), ([.inl ((0,16383,1),none)],[]), [], [(some (.inl ((0,63,1),none)),[],[])])
def q325_P : rfP := (flJ6,csJ6,lcJ6,spJ6,[],[],[],[])
def q325_U : rfU := []
set_option maxHeartbeats 4000000 in
def q325_N : List rfB := [(0,([(0,.inl ((0,16383,1),none))],[],[]),(41,[]),0)]
set_option maxRecDepth 100000 in
theorem q325_ok : rf_chkB q325_P q325_U wLay q325_M ddJ6_bitCount_0f7a4 [] [] [0] 600 q325_N = true := by decide +kernel
/-- NearSpell.far -/
def q326_M : rfM := ((⟨"NearSpell", "far", "(II)I"⟩, prog_1_method_28_code, 4, (some .int)), (16,385), ([.inr (.inl [70]),.inl (((-2147483648),2147483647,1),none),.inl (((-2147483648),2147483647,1),none)],[]), [(17,0),(18,0),(19,0),(20,4),(20,5),(59,0),(60,0),(61,5)], [(some (.inl (((-1),16383,1),none)),[],[])])
def ddX11_far : List (Nat × Instr × Nat) := [(0,.iload_n 1,1),(1,.invokestatic 232,3),(4,.ifCond .eq 12,3),(7,.iload_n 2,1),(8,.ifCond .lt 8,3),(11,.iload_n 2,1),(12,.iconst 1,1),(13,.if_icmp .le 5,3),(16,.iconst (-1),1),(17,.ireturn,1),(18,.aload_n 0,1),(19,.getfield 83,3),(22,.iload_n 1,1),(23,.invokevirtual 273,3),(26,.istore_n 3,1),(27,.iload_n 2,1),(28,.ifCond .ne 10,3),(31,.iload_n 3,1),(32,.invokestatic 276,3),(35,.goto 4,3),(38,.iload_n 3,1),(39,.ireturn,1)]
def q326_P : rfP := (flX11,csX11,lcX11,spX11,[q166_M,q324_M,q325_M],[(232,0),(276,2)],[(273,1,9)],[])
def q326_U : rfU := []
set_option maxHeartbeats 4000000 in
def q326_N : List rfB := [(0,([(0,.inr (.inl [70])),(1,.inl (((-2147483648),2147483647,1),none)),(2,.inl (((-2147483648),2147483647,1),none))],[],[]),(22,[]),0),
  (16,([(0,.inr (.inl [70])),(1,.inl (((-2147483648),2147483647,1),none)),(2,.inl (((-2147483648),2147483647,1),none))],[],[]),(1,[]),0),
  (39,([(0,.inr (.inl [70])),(1,.inl ((0,6,1),none)),(2,.inl ((0,1,1),none)),(3,.inl ((0,16383,1),none))],[.inl ((0,16383,1),none)],[((61,4),(0,2147483647,1),none)]),(2,[]),0)]
set_option maxRecDepth 100000 in
theorem q326_ok : rf_chkB q326_P q326_U wLay q326_M ddX11_far [(1,[0]),(23,[1]),(32,[2])] [] [0,16,39] 600 q326_N = true := by decide +kernel
/-- NearSpell.Web.sumFrom -/
def q327_M : rfM := ((⟨"NearSpell$Web", "sumFrom", "(I)I"⟩, prog_11_method_12_code, 4, (some .int)), (1,22), ([.inr (.inl [61]),.inl ((0,0,0),none)],[]), [], [(some (.inl (((-2147483648),2147483647,1),none)),[],[])])
def ddX9_sumFrom : List (Nat × Instr × Nat) := [(0,.iconst 0,1),(1,.istore_n 2,1),(2,.iconst 0,1),(3,.istore_n 3,1),(4,.iload_n 3,1),(5,.bipush 14,2),(7,.if_icmp .ge 40,3),(10,.iload_n 3,1),(11,.iload_n 1,1),(12,.if_icmp .eq 29,3),(15,.aload_n 0,1),(16,.aload_n 0,1),(17,.getfield 26,3),(20,.iload_n 3,1),(21,.invokevirtual 50,3),(24,.ifCond .eq 17,3),(27,.iload_n 2,1),(28,.aload_n 0,1),(29,.getfield 19,3),(32,.iload_n 1,1),(33,.bipush 14,2),(35,.imul,1),(36,.iload_n 3,1),(37,.iadd,1),(38,.iaload,1),(39,.iadd,1),(40,.istore_n 2,1),(41,.iinc 3 1,3),(44,.goto (-40),3),(47,.iload_n 2,1),(48,.ireturn,1)]
def q327_P : rfP := (flX9,csX9,lcX9,spX9,[q226_M],[],[(50,0,9)],[])
def q327_U : rfU := []
set_option maxHeartbeats 4000000 in
def q327_N : List rfB := [(0,([(0,.inr (.inl [61])),(1,.inl ((0,0,0),none))],[],[]),(410,[0]),0),
  (4,([(0,.inr (.inl [61])),(1,.inl ((0,0,0),none)),(2,.inl (((-2147483648),2147483647,1),none)),(3,.inl ((0,14,1),none))],[],[]),(404,[(-27)]),0),
  (41,([(0,.inr (.inl [61])),(1,.inl ((0,0,0),none)),(2,.inl (((-2147483648),2147483647,1),none)),(3,.inl ((0,13,1),none))],[],[]),(380,[(-27)]),0)]
set_option maxRecDepth 100000 in
theorem q327_ok : rf_chkB q327_P q327_U wLay q327_M ddX9_sumFrom [(21,[0])] [.inl 3] [0,4,41] 600 q327_N = true := by decide +kernel
/-- NearSpell.Web.sumFrom -/
def q328_M : rfM := ((⟨"NearSpell$Web", "sumFrom", "(I)I"⟩, prog_11_method_12_code, 4, (some .int)), (1,22), ([.inr (.inl [61]),.inl ((0,1,1),none)],[]), [], [(some (.inl (((-2147483648),2147483647,1),none)),[],[])])
def q328_P : rfP := (flX9,csX9,lcX9,spX9,[q226_M],[],[(50,0,9)],[])
def q328_U : rfU := []
set_option maxHeartbeats 4000000 in
def q328_N : List rfB := [(0,([(0,.inr (.inl [61])),(1,.inl ((0,1,1),none))],[],[]),(410,[0]),0),
  (4,([(0,.inr (.inl [61])),(1,.inl ((0,1,1),none)),(2,.inl (((-2147483648),2147483647,1),none)),(3,.inl ((0,14,1),none))],[],[]),(404,[(-27)]),0),
  (41,([(0,.inr (.inl [61])),(1,.inl ((0,1,1),none)),(2,.inl (((-2147483648),2147483647,1),none)),(3,.inl ((0,13,1),none))],[],[]),(380,[(-27)]),0)]
set_option maxRecDepth 100000 in
theorem q328_ok : rf_chkB q328_P q328_U wLay q328_M ddX9_sumFrom [(21,[0])] [.inl 3] [0,4,41] 600 q328_N = true := by decide +kernel
/-- NearSpell.Web.sumFrom -/
def q329_M : rfM := ((⟨"NearSpell$Web", "sumFrom", "(I)I"⟩, prog_11_method_12_code, 4, (some .int)), (1,22), ([.inr (.inl [61]),.inl ((0,2,1),none)],[]), [], [(some (.inl (((-2147483648),2147483647,1),none)),[],[])])
def q329_P : rfP := (flX9,csX9,lcX9,spX9,[q226_M],[],[(50,0,9)],[])
def q329_U : rfU := []
set_option maxHeartbeats 4000000 in
def q329_N : List rfB := [(0,([(0,.inr (.inl [61])),(1,.inl ((0,2,1),none))],[],[]),(410,[0]),0),
  (4,([(0,.inr (.inl [61])),(1,.inl ((0,2,1),none)),(2,.inl (((-2147483648),2147483647,1),none)),(3,.inl ((0,14,1),none))],[],[]),(404,[(-27)]),0),
  (41,([(0,.inr (.inl [61])),(1,.inl ((0,2,1),none)),(2,.inl (((-2147483648),2147483647,1),none)),(3,.inl ((0,13,1),none))],[],[]),(380,[(-27)]),0)]
set_option maxRecDepth 100000 in
theorem q329_ok : rf_chkB q329_P q329_U wLay q329_M ddX9_sumFrom [(21,[0])] [.inl 3] [0,4,41] 600 q329_N = true := by decide +kernel
/-- NearSpell.Web.sumFrom -/
def q330_M : rfM := ((⟨"NearSpell$Web", "sumFrom", "(I)I"⟩, prog_11_method_12_code, 4, (some .int)), (1,22), ([.inr (.inl [61]),.inl ((0,3,1),none)],[]), [], [(some (.inl (((-2147483648),2147483647,1),none)),[],[])])
def q330_P : rfP := (flX9,csX9,lcX9,spX9,[q226_M],[],[(50,0,9)],[])
def q330_U : rfU := []
set_option maxHeartbeats 4000000 in
def q330_N : List rfB := [(0,([(0,.inr (.inl [61])),(1,.inl ((0,3,1),none))],[],[]),(410,[0]),0),
  (4,([(0,.inr (.inl [61])),(1,.inl ((0,3,1),none)),(2,.inl (((-2147483648),2147483647,1),none)),(3,.inl ((0,14,1),none))],[],[]),(404,[(-27)]),0),
  (41,([(0,.inr (.inl [61])),(1,.inl ((0,3,1),none)),(2,.inl (((-2147483648),2147483647,1),none)),(3,.inl ((0,13,1),none))],[],[]),(380,[(-27)]),0)]
set_option maxRecDepth 100000 in
theorem q330_ok : rf_chkB q330_P q330_U wLay q330_M ddX9_sumFrom [(21,[0])] [.inl 3] [0,4,41] 600 q330_N = true := by decide +kernel
/-- NearSpell.Web.sumFrom -/
def q331_M : rfM := ((⟨"NearSpell$Web", "sumFrom", "(I)I"⟩, prog_11_method_12_code, 4, (some .int)), (1,22), ([.inr (.inl [61]),.inl ((0,12,1),none)],[]), [], [(some (.inl (((-2147483648),2147483647,1),none)),[],[])])
def q331_P : rfP := (flX9,csX9,lcX9,spX9,[q226_M],[],[(50,0,9)],[])
def q331_U : rfU := []
set_option maxHeartbeats 4000000 in
def q331_N : List rfB := [(0,([(0,.inr (.inl [61])),(1,.inl ((0,12,1),none))],[],[]),(410,[0]),0),
  (4,([(0,.inr (.inl [61])),(1,.inl ((0,12,1),none)),(2,.inl (((-2147483648),2147483647,1),none)),(3,.inl ((0,14,1),none))],[],[]),(404,[(-27)]),0),
  (41,([(0,.inr (.inl [61])),(1,.inl ((0,12,1),none)),(2,.inl (((-2147483648),2147483647,1),none)),(3,.inl ((0,13,1),none))],[],[]),(380,[(-27)]),0)]
set_option maxRecDepth 100000 in
theorem q331_ok : rf_chkB q331_P q331_U wLay q331_M ddX9_sumFrom [(21,[0])] [.inl 3] [0,4,41] 600 q331_N = true := by decide +kernel
/-- NearSpell.Web.sumFrom -/
def q332_M : rfM := ((⟨"NearSpell$Web", "sumFrom", "(I)I"⟩, prog_11_method_12_code, 4, (some .int)), (1,22), ([.inr (.inl [61]),.inl ((0,13,1),none)],[]), [], [(some (.inl (((-2147483648),2147483647,1),none)),[],[])])
def q332_P : rfP := (flX9,csX9,lcX9,spX9,[q226_M],[],[(50,0,9)],[])
def q332_U : rfU := []
set_option maxHeartbeats 4000000 in
def q332_N : List rfB := [(0,([(0,.inr (.inl [61])),(1,.inl ((0,13,1),none))],[],[]),(410,[0]),0),
  (4,([(0,.inr (.inl [61])),(1,.inl ((0,13,1),none)),(2,.inl (((-2147483648),2147483647,1),none)),(3,.inl ((0,14,1),none))],[],[]),(404,[(-27)]),0),
  (41,([(0,.inr (.inl [61])),(1,.inl ((0,13,1),none)),(2,.inl (((-2147483648),2147483647,1),none)),(3,.inl ((0,13,1),none))],[],[]),(380,[(-27)]),0)]
set_option maxRecDepth 100000 in
theorem q332_ok : rf_chkB q332_P q332_U wLay q332_M ddX9_sumFrom [(21,[0])] [.inl 3] [0,4,41] 600 q332_N = true := by decide +kernel
/-- NearSpell.Web.middleEntry -/
def q333_M : rfM := ((⟨"NearSpell$Web", "middleEntry", "()I"⟩, prog_11_method_11_code, 5, (some .int)), (5,115), ([.inr (.inl [61])],[]), [(17,0),(18,0),(19,0),(20,4),(20,5),(59,0),(61,5)], [(some (.inl (((-1),13,1),none)),[],[((61,4),(0,2147483647,1),none)])])
def ddX9_middleEntry : List (Nat × Instr × Nat) := [(0,.aload_n 0,1),(1,.invokevirtual 57,3),(4,.iconst (-1),1),(5,.istore_n 1,1),(6,.bipush 85,2),(8,.istore_n 2,1),(9,.iconst 0,1),(10,.istore_n 3,1),(11,.iload_n 3,1),(12,.bipush 14,2),(14,.if_icmp .ge 43,3),(17,.aload_n 0,1),(18,.aload_n 0,1),(19,.getfield 26,3),(22,.iload_n 3,1),(23,.invokevirtual 50,3),(26,.ifCond .eq 11,3),(29,.aload_n 0,1),(30,.iload_n 3,1),(31,.invokevirtual 69,3),(34,.goto 4,3),(37,.iload_n 2,1),(38,.istore 4,2),(40,.iload 4,2),(42,.iload_n 2,1),(43,.if_icmp .ge 8,3),(46,.iload_n 3,1),(47,.istore_n 1,1),(48,.iload 4,2),(50,.istore_n 2,1),(51,.iinc 3 1,3),(54,.goto (-43),3),(57,.iload_n 1,1),(58,.ireturn,1)]
def q333_P : rfP := (flX9,csX9,lcX9,spX9,[q228_M,q226_M,q332_M],[],[(50,1,9),(57,0,9),(69,2,9)],[])
def q333_U : rfU := []
set_option maxHeartbeats 4000000 in
def q333_N : List rfB := [(0,([(0,.inr (.inl [61]))],[],[]),(399,[0]),0),
  (11,([(0,.inr (.inl [61])),(1,.inl (((-1),13,1),none)),(2,.inl (((-2147483648),85,1),none)),(3,.inl ((0,14,1),none))],[],[((61,4),(0,2147483647,1),none)]),(389,[(-26)]),0),
  (38,([(0,.inr (.inl [61])),(1,.inl (((-1),13,1),none)),(2,.inl (((-2147483648),85,1),none)),(3,.inl ((0,13,1),none))],[.inl (((-2147483648),2147483647,1),none)],[((61,4),(0,2147483647,1),none)]),(374,[(-26)]),0),
  (51,([(0,.inr (.inl [61])),(1,.inl (((-1),13,1),none)),(2,.inl (((-2147483648),85,1),none)),(3,.inl ((0,13,1),none)),(4,.inl (((-2147483648),2147483647,1),none))],[],[((61,4),(0,2147483647,1),none)]),(366,[(-26)]),0)]
set_option maxRecDepth 100000 in
theorem q333_ok : rf_chkB q333_P q333_U wLay q333_M ddX9_middleEntry [(1,[0]),(23,[1]),(31,[2])] [.inl 3] [0,11,38,51] 600 q333_N = true := by decide +kernel
/-- NearSpell.middle -/
def q334_M : rfM := ((⟨"NearSpell", "middle", "()I"⟩, prog_1_method_29_code, 1, (some .int)), (6,139), ([.inr (.inl [70])],[]), [(17,0),(18,0),(19,0),(20,4),(20,5),(59,0),(61,5)], [(some (.inl (((-1),13,1),none)),[],[((61,4),(0,2147483647,1),none)])])
def ddX11_middle : List (Nat × Instr × Nat) := [(0,.aload_n 0,1),(1,.getfield 83,3),(4,.invokevirtual 281,3),(7,.ireturn,1)]
def q334_P : rfP := (flX11,csX11,lcX11,spX11,[q333_M],[],[(281,0,9)],[])
def q334_U : rfU := []
set_option maxHeartbeats 4000000 in
def q334_N : List rfB := [(0,([(0,.inr (.inl [70]))],[],[]),(3,[]),0)]
set_option maxRecDepth 100000 in
theorem q334_ok : rf_chkB q334_P q334_U wLay q334_M ddX11_middle [(4,[0])] [] [0] 600 q334_N = true := by decide +kernel
/-- NearSpell.Web.stepsBetween -/
def q335_M : rfM := ((⟨"NearSpell$Web", "stepsBetween", "(III)I"⟩, prog_11_method_9_code, 6, (some .int)), (6,139), ([.inr (.inl [61]),.inl ((0,13,1),none),.inl ((0,13,1),none),.inl ((0,6,1),none)],[]), [(17,0),(18,0),(19,0),(20,4),(20,5),(59,0),(60,0),(61,5)], [(some (.inl (((-1),14,1),none)),[],[((61,4),(0,2147483647,1),none)])])
def ddX9_stepsBetween : List (Nat × Instr × Nat) := [(0,.aload_n 0,1),(1,.iload_n 3,1),(2,.invokevirtual 60,3),(5,.iconst 1,1),(6,.iload_n 1,1),(7,.ishl,1),(8,.istore 4,2),(10,.iconst 0,1),(11,.istore 5,2),(13,.iload 5,2),(15,.bipush 14,2),(17,.if_icmp .gt 30,3),(20,.aload_n 0,1),(21,.iload 4,2),(23,.iload_n 2,1),(24,.invokevirtual 50,3),(27,.ifCond .eq 6,3),(30,.iload 5,2),(32,.ireturn,1),(33,.aload_n 0,1),(34,.iload 4,2),(36,.invokevirtual 66,3),(39,.istore 4,2),(41,.iinc 5 1,3),(44,.goto (-31),3),(47,.iconst (-1),1),(48,.ireturn,1)]
def q335_P : rfP := (flX9,csX9,lcX9,spX9,[q231_M,q226_M,q233_M],[],[(50,1,9),(60,0,9),(66,2,9)],[])
def q335_U : rfU := []
set_option maxHeartbeats 4000000 in
def q335_N : List rfB := [(0,([(0,.inr (.inl [61])),(1,.inl ((0,13,1),none)),(2,.inl ((0,13,1),none)),(3,.inl ((0,6,1),none))],[],[]),(253,[0]),0),
  (13,([(0,.inr (.inl [61])),(1,.inl ((0,13,1),none)),(2,.inl ((0,13,1),none)),(3,.inl ((0,6,1),none)),(4,.inl (((-2147483648),2147483647,1),none)),(5,.inl ((0,15,1),none))],[],[((61,4),(0,2147483647,1),none)]),(242,[(-15)]),0)]
set_option maxRecDepth 100000 in
theorem q335_ok : rf_chkB q335_P q335_U wLay q335_M ddX9_stepsBetween [(2,[0]),(24,[1]),(36,[2])] [.inl 5] [0,13] 600 q335_N = true := by decide +kernel
/-- NearSpell.chain -/
def q336_M : rfM := ((⟨"NearSpell", "chain", "(III)I"⟩, prog_1_method_30_code, 4, (some .int)), (7,164), ([.inr (.inl [70]),.inl (((-2147483648),2147483647,1),none),.inl (((-2147483648),2147483647,1),none),.inl (((-2147483648),2147483647,1),none)],[]), [(17,0),(18,0),(19,0),(20,4),(20,5),(59,0),(60,0),(61,5)], [(some (.inl (((-1),14,1),none)),[],[])])
def ddX11_chain : List (Nat × Instr × Nat) := [(0,.aload_n 0,1),(1,.getfield 35,3),(4,.iload_n 1,1),(5,.invokevirtual 141,3),(8,.ifCond .eq 21,3),(11,.aload_n 0,1),(12,.getfield 35,3),(15,.iload_n 2,1),(16,.invokevirtual 141,3),(19,.ifCond .eq 10,3),(22,.iload_n 3,1),(23,.invokestatic 232,3),(26,.ifCond .ne 5,3),(29,.iconst (-1),1),(30,.ireturn,1),(31,.aload_n 0,1),(32,.getfield 83,3),(35,.iload_n 1,1),(36,.iload_n 2,1),(37,.iload_n 3,1),(38,.invokevirtual 284,3),(41,.ireturn,1)]
def q336_P : rfP := (flX11,csX11,lcX11,spX11,[q10_M,q166_M,q335_M],[(232,1)],[(141,0,8),(284,2,9)],[])
def q336_U : rfU := []
set_option maxHeartbeats 4000000 in
def q336_N : List rfB := [(0,([(0,.inr (.inl [70])),(1,.inl (((-2147483648),2147483647,1),none)),(2,.inl (((-2147483648),2147483647,1),none)),(3,.inl (((-2147483648),2147483647,1),none))],[],[]),(24,[]),0),
  (29,([(0,.inr (.inl [70])),(1,.inl (((-2147483648),2147483647,1),none)),(2,.inl (((-2147483648),2147483647,1),none)),(3,.inl (((-2147483648),2147483647,1),none))],[],[]),(9,[]),0)]
set_option maxRecDepth 100000 in
theorem q336_ok : rf_chkB q336_P q336_U wLay q336_M ddX11_chain [(5,[0]),(16,[0]),(23,[1]),(38,[2])] [] [0,29] 600 q336_N = true := by decide +kernel
/-- NearSpell.beginningOf -/
def q337_M : rfM := ((⟨"NearSpell", "beginningOf", "(II)I"⟩, prog_1_method_55_code, 3, (some .int)), (1,21), ([.inl (((-2147483648),2147483647,1),none),.inl ((0,6,1),none)],[]), [], [(some (.inl (((-2147483648),2147483647,1),none)),[],[])])
def q337_P : rfP := (flX11,csX11,lcX11,spX11,[q12_M],[(148,0)],[],[])
def q337_U : rfU := []
set_option maxHeartbeats 4000000 in
def q337_N : List rfB := [(0,([(0,.inl (((-2147483648),2147483647,1),none)),(1,.inl ((0,6,1),none))],[],[]),(17,[]),0),
  (28,([(0,.inl (((-2147483648),2147483647,1),none)),(1,.inl ((0,6,1),none)),(2,.inl (((-6),6,1),none))],[.inl (((-2147483648),2147483647,1),none)],[]),(0,[]),0)]
set_option maxRecDepth 100000 in
theorem q337_ok : rf_chkB q337_P q337_U wLay q337_M ddX11_beginningOf [(1,[0])] [] [0,28] 600 q337_N = true := by decide +kernel
/-- NearSpell.Finder.mostUsedFrom -/
def q338_M : rfM := ((⟨"NearSpell$Finder", "mostUsedFrom", "(I)I"⟩, prog_4_method_9_code, 6, (some .int)), (2,43), ([.inr (.inl [55]),.inl ((0,387420488,1),none)],[]), [], [(some (.inl (((-1),13,1),none)),[],[])])
def ddX2_mostUsedFrom : List (Nat × Instr × Nat) := [(0,.iload_n 1,1),(1,.invokestatic 90,3),(4,.istore_n 2,1),(5,.iconst (-1),1),(6,.istore_n 3,1),(7,.iconst 0,1),(8,.istore 4,2),(10,.iload 4,2),(12,.aload_n 0,1),(13,.getfield 15,3),(16,.invokevirtual 43,3),(19,.if_icmp .ge 78,3),(22,.aload_n 0,1),(23,.getfield 15,3),(26,.iload 4,2),(28,.invokevirtual 49,3),(31,.ifCond .eq 24,3),(34,.aload_n 0,1),(35,.getfield 15,3),(38,.iload 4,2),(40,.invokevirtual 66,3),(43,.iload_n 2,1),(44,.invokestatic 93,3),(47,.iload_n 1,1),(48,.if_icmp .ne 7,3),(51,.iconst 1,1),(52,.goto 4,3),(55,.iconst 0,1),(56,.istore 5,2),(58,.iload 5,2),(60,.ifCond .eq 31,3),(63,.iload_n 3,1),(64,.iconst (-1),1),(65,.if_icmp .eq 23,3),(68,.aload_n 0,1),(69,.getfield 15,3),(72,.iload 4,2),(74,.invokevirtual 87,3),(77,.aload_n 0,1),(78,.getfield 15,3),(81,.iload_n 3,1),(82,.invokevirtual 87,3),(85,.if_icmp .le 6,3),(88,.iload 4,2),(90,.istore_n 3,1),(91,.iinc 4 1,3),(94,.goto (-84),3),(97,.iload_n 3,1),(98,.ireturn,1)]
def q338_P : rfP := (flX2,csX2,lcX2,spX2,[q82_M,q337_M,q69_M,q67_M,q11_M,q13_M],[(90,0),(93,1)],[(43,2,8),(49,3,8),(66,4,8),(87,5,8)],[])
def q338_U : rfU := []
set_option maxHeartbeats 4000000 in
def q338_N : List rfB := [(0,([(0,.inr (.inl [55])),(1,.inl ((0,387420488,1),none))],[],[]),(653,[0]),0),
  (10,([(0,.inr (.inl [55])),(1,.inl ((0,387420488,1),none)),(2,.inl ((0,6,1),none)),(3,.inl (((-1),13,1),none)),(4,.inl ((0,14,1),none))],[],[]),(644,[(-43)]),0),
  (55,([(0,.inr (.inl [55])),(1,.inl ((0,387420488,1),none)),(2,.inl ((0,6,1),none)),(3,.inl (((-1),13,1),none)),(4,.inl ((0,13,1),none))],[],[]),(622,[(-43)]),0),
  (58,([(0,.inr (.inl [55])),(1,.inl ((0,387420488,1),none)),(2,.inl ((0,6,1),none)),(3,.inl (((-1),13,1),none)),(4,.inl ((0,13,1),none)),(5,.inl ((0,1,1),none))],[],[]),(620,[(-43)]),0),
  (91,([(0,.inr (.inl [55])),(1,.inl ((0,387420488,1),none)),(2,.inl ((0,6,1),none)),(3,.inl (((-1),13,1),none)),(4,.inl ((0,13,1),none)),(5,.inl ((0,1,1),none))],[],[]),(604,[(-43)]),0),
  (88,([(0,.inr (.inl [55])),(1,.inl ((0,387420488,1),none)),(2,.inl ((0,6,1),none)),(3,.inl (((-1),13,1),none)),(4,.inl ((0,13,1),none)),(5,.inl ((1,1,1),none))],[],[]),(606,[(-43)]),0)]
set_option maxRecDepth 100000 in
theorem q338_ok : rf_chkB q338_P q338_U wLay q338_M ddX2_mostUsedFrom [(1,[0]),(16,[2]),(28,[3]),(40,[4]),(44,[1]),(74,[5]),(82,[5])] [.inl 4] [0,10,55,58,88,91] 600 q338_N = true := by decide +kernel
/-- NearSpell.begins -/
def q339_M : rfM := ((⟨"NearSpell", "begins", "(I)I"⟩, prog_1_method_31_code, 2, (some .int)), (3,68), ([.inr (.inl [70]),.inl (((-2147483648),2147483647,1),none)],[]), [], [(some (.inl (((-1),13,1),none)),[],[])])
def ddX11_begins : List (Nat × Instr × Nat) := [(0,.iload_n 1,1),(1,.invokestatic 163,3),(4,.ifCond .eq 14,3),(7,.aload_n 0,1),(8,.getfield 67,3),(11,.iload_n 1,1),(12,.invokevirtual 288,3),(15,.goto 4,3),(18,.iconst (-1),1),(19,.ireturn,1)]
def q339_P : rfP := (flX11,csX11,lcX11,spX11,[q52_M,q338_M],[(163,0)],[(288,1,2)],[])
def q339_U : rfU := []
set_option maxHeartbeats 4000000 in
def q339_N : List rfB := [(0,([(0,.inr (.inl [70])),(1,.inl (((-2147483648),2147483647,1),none))],[],[]),(11,[]),0)]
set_option maxRecDepth 100000 in
theorem q339_ok : rf_chkB q339_P q339_U wLay q339_M ddX11_begins [(1,[0]),(12,[1])] [] [0] 600 q339_N = true := by decide +kernel
/-- NearSpell.Web.countCrowded -/
def q340_M : rfM := ((⟨"NearSpell$Web", "countCrowded", "(I)I"⟩, prog_11_method_10_code, 4, (some .int)), (6,139), ([.inr (.inl [61]),.inl ((0,6,1),none)],[]), [(17,0),(18,0),(19,0),(20,4),(20,5),(59,0),(60,0),(61,5)], [(some (.inl (((-2147483648),2147483647,1),none)),[],[((61,4),(0,2147483647,1),none)])])
def ddX9_countCrowded : List (Nat × Instr × Nat) := [(0,.aload_n 0,1),(1,.iload_n 1,1),(2,.invokevirtual 60,3),(5,.iconst 0,1),(6,.istore_n 2,1),(7,.iconst 0,1),(8,.istore_n 3,1),(9,.iload_n 3,1),(10,.bipush 14,2),(12,.if_icmp .ge 21,3),(15,.aload_n 0,1),(16,.getfield 23,3),(19,.iload_n 3,1),(20,.iaload,1),(21,.ifCond .eq 6,3),(24,.iinc 2 1,3),(27,.iinc 3 1,3),(30,.goto (-21),3),(33,.iload_n 2,1),(34,.ireturn,1)]
def q340_P : rfP := (flX9,csX9,lcX9,spX9,[q231_M],[],[(60,0,9)],[])
def q340_U : rfU := []
set_option maxHeartbeats 4000000 in
def q340_N : List rfB := [(0,([(0,.inr (.inl [61])),(1,.inl ((0,6,1),none))],[],[]),(188,[0]),0),
  (9,([(0,.inr (.inl [61])),(1,.inl ((0,6,1),none)),(2,.inl (((-2147483648),2147483647,1),none)),(3,.inl ((0,14,1),none))],[],[((61,4),(0,2147483647,1),none)]),(179,[(-12)]),0),
  (27,([(0,.inr (.inl [61])),(1,.inl ((0,6,1),none)),(2,.inl (((-2147483648),2147483647,1),none)),(3,.inl ((0,13,1),none))],[],[((61,4),(0,2147483647,1),none)]),(170,[(-12)]),0)]
set_option maxRecDepth 100000 in
theorem q340_ok : rf_chkB q340_P q340_U wLay q340_M ddX9_countCrowded [(2,[0])] [.inl 3] [0,9,27] 600 q340_N = true := by decide +kernel
/-- NearSpell.crowded -/
def q341_M : rfM := ((⟨"NearSpell", "crowded", "(I)I"⟩, prog_1_method_32_code, 2, (some .int)), (7,162), ([.inr (.inl [70]),.inl (((-2147483648),2147483647,1),none)],[]), [(17,0),(18,0),(19,0),(20,4),(20,5),(59,0),(60,0),(61,5)], [(some (.inl (((-2147483648),2147483647,1),none)),[],[])])
def ddX11_crowded : List (Nat × Instr × Nat) := [(0,.iload_n 1,1),(1,.invokestatic 232,3),(4,.ifCond .eq 14,3),(7,.aload_n 0,1),(8,.getfield 83,3),(11,.iload_n 1,1),(12,.invokevirtual 291,3),(15,.goto 4,3),(18,.iconst (-1),1),(19,.ireturn,1)]
def q341_P : rfP := (flX11,csX11,lcX11,spX11,[q166_M,q340_M],[(232,0)],[(291,1,9)],[])
def q341_U : rfU := []
set_option maxHeartbeats 4000000 in
def q341_N : List rfB := [(0,([(0,.inr (.inl [70])),(1,.inl (((-2147483648),2147483647,1),none))],[],[]),(11,[]),0)]
set_option maxRecDepth 100000 in
theorem q341_ok : rf_chkB q341_P q341_U wLay q341_M ddX11_crowded [(1,[0]),(12,[1])] [] [0] 600 q341_N = true := by decide +kernel
/-- NearSpell.State.spellingOf -/
def q342_M : rfM := ((⟨"NearSpell$State", "spellingOf", "(I)I"⟩, prog_10_method_7_code, 2, (some .int)), (0,0), ([.inr (.inl [13]),.inl ((0,5,1),none)],[]), [], [(some (.inl (((-2147483648),2147483647,1),none)),[],[])])
def q342_P : rfP := (flX8,csX8,lcX8,spX8,[],[],[],[])
def q342_U : rfU := []
set_option maxHeartbeats 4000000 in
def q342_N : List rfB := [(0,([(0,.inr (.inl [13])),(1,.inl ((0,5,1),none))],[],[]),(12,[]),0)]
set_option maxRecDepth 100000 in
theorem q342_ok : rf_chkB q342_P q342_U wLay q342_M ddX8_spellingOf [] [] [0] 600 q342_N = true := by decide +kernel
/-- NearSpell.Laid.refresh -/
def q343_M : rfM := ((⟨"NearSpell$Laid", "refresh", "()V"⟩, prog_6_method_4_code, 2, none), (3,72), ([.inr (.inl [53])],[]), [(21,0),(22,2),(22,3),(22,4),(22,5),(23,0),(24,2),(24,3),(24,4),(24,5),(25,0),(26,2),(26,3),(26,4),(26,5),(27,0),(28,2),(28,3),(28,4),(28,5),(29,0),(30,2),(30,3),(30,4),(30,5),(31,0),(32,2),(32,3),(32,4),(32,5),(33,0),(34,2),(34,3),(34,4),(34,5),(35,0),(36,2),(36,3),(36,4),(36,5),(37,0),(38,2),(38,3),(38,4),(38,5),(39,0),(40,2),(40,3),(40,4),(40,5),(41,0),(42,2),(42,3),(42,4),(42,5),(43,0),(44,2),(44,3),(44,4),(44,5),(45,0),(46,2),(46,3),(46,4),(46,5),(47,0),(48,2),(48,3),(48,4),(48,5)], [(none,[],[])])
def ddX4_refresh : List (Nat × Instr × Nat) := [(0,.iconst 0,1),(1,.istore_n 1,1),(2,.iload_n 1,1),(3,.aload_n 0,1),(4,.getfield 15,3),(7,.invokevirtual 57,3),(10,.if_icmp .ge 49,3),(13,.iload_n 1,1),(14,.aload_n 0,1),(15,.getfield 21,3),(18,.arraylength,1),(19,.if_icmp .ge 40,3),(22,.aload_n 0,1),(23,.getfield 21,3),(26,.iload_n 1,1),(27,.aaload,1),(28,.aload_n 0,1),(29,.getfield 15,3),(32,.iload_n 1,1),(33,.invokevirtual 51,3),(36,.aload_n 0,1),(37,.getfield 9,3),(40,.getfield 34,3),(43,.aload_n 0,1),(44,.getfield 9,3),(47,.getfield 40,3),(50,.invokevirtual 43,3),(53,.iinc 1 1,3),(56,.goto (-54),3),(59,.return_,1)]
def q343_P : rfP := (flX4,csX4,lcX4,spX4,[q49_M,q69_M,q11_M],[],[(43,0,3),(51,2,8),(57,1,8)],[])
def q343_U : rfU := []
set_option maxHeartbeats 4000000 in
def q343_N : List rfB := [(0,([(0,.inr (.inl [53]))],[],[]),(422,[0]),0),
  (2,([(0,.inr (.inl [53])),(1,.inl ((0,14,1),none))],[],[]),(418,[(-28)]),0)]
set_option maxRecDepth 100000 in
theorem q343_ok : rf_chkB q343_P q343_U wLay q343_M ddX4_refresh [(7,[1]),(33,[2]),(50,[0])] [.inl 1] [0,2] 600 q343_N = true := by decide +kernel
/-- NearSpell.Laid.tallyEntry -/
def q344_M : rfM := ((⟨"NearSpell$Laid", "tallyEntry", "(IZ)V"⟩, prog_6_method_13_code, 7, none), (4,94), ([.inr (.inl [53]),.inl ((0,0,0),none),.inl ((0,0,0),none)],[]), [(4,0),(5,13),(52,0)], [(none,[],[])])
def ddX4_tallyEntry : List (Nat × Instr × Nat) := [(0,.aload_n 0,1),(1,.getfield 21,3),(4,.iload_n 1,1),(5,.aaload,1),(6,.astore_n 3,1),(7,.iconst 0,1),(8,.istore 4,2),(10,.iload 4,2),(12,.aload_n 3,1),(13,.getfield 69,3),(16,.if_icmp .ge 75,3),(19,.aload_n 0,1),(20,.getfield 9,3),(23,.aload_n 3,1),(24,.getfield 78,3),(27,.iload 4,2),(29,.iaload,1),(30,.invokevirtual 92,3),(33,.istore 5,2),(35,.iload_n 2,1),(36,.ifCond .eq 23,3),(39,.aload_n 0,1),(40,.aload_n 3,1),(41,.getfield 78,3),(44,.iload 4,2),(46,.iaload,1),(47,.iload_n 1,1),(48,.iload_n 1,1),(49,.invokevirtual 81,3),(52,.ifCond .eq 7,3),(55,.iconst 1,1),(56,.goto 4,3),(59,.iconst 0,1),(60,.istore 6,2),(62,.iload 6,2),(64,.ifCond .ne 21,3),(67,.iload 5,2),(69,.bipush 31,2),(71,.if_icmp .ge 14,3),(74,.aload_n 0,1),(75,.getfield 30,3),(78,.iload 5,2),(80,.dup2,1),(81,.iaload,1),(82,.iconst 1,1),(83,.iadd,1),(84,.iastore,1),(85,.iinc 4 1,3),(88,.goto (-78),3),(91,.return_,1)]
def q344_P : rfP := (flX4,csX4,lcX4,spX4,[q161_M],[],[(92,0,1)],[])
def q344_U : rfU := []
set_option maxHeartbeats 4000000 in
def q344_N : List rfB := [(0,([(0,.inr (.inl [53])),(1,.inl ((0,0,0),none)),(2,.inl ((0,0,0),none))],[],[]),(743,[0]),0),
  (10,([(0,.inr (.inl [53])),(1,.inl ((0,0,0),none)),(2,.inl ((0,0,0),none)),(3,.inr (.inl [22,24,26,28,30,32,34,36,38,40,42,44,46,48])),(4,.inl ((0,22,1),none))],[],[]),(734,[(-32)]),0)]
set_option maxRecDepth 100000 in
theorem q344_ok : rf_chkB q344_P q344_U wLay q344_M ddX4_tallyEntry [(30,[0])] [.inl 4] [0,10] 600 q344_N = true := by decide +kernel
/-- NearSpell.Laid.tallyEntry -/
def q345_M : rfM := ((⟨"NearSpell$Laid", "tallyEntry", "(IZ)V"⟩, prog_6_method_13_code, 7, none), (4,94), ([.inr (.inl [53]),.inl ((0,1,1),none),.inl ((0,0,0),none)],[]), [(4,0),(5,13),(52,0)], [(none,[],[])])
def q345_P : rfP := (flX4,csX4,lcX4,spX4,[q161_M],[],[(92,0,1)],[])
def q345_U : rfU := []
set_option maxHeartbeats 4000000 in
def q345_N : List rfB := [(0,([(0,.inr (.inl [53])),(1,.inl ((0,1,1),none)),(2,.inl ((0,0,0),none))],[],[]),(743,[0]),0),
  (10,([(0,.inr (.inl [53])),(1,.inl ((0,1,1),none)),(2,.inl ((0,0,0),none)),(3,.inr (.inl [22,24,26,28,30,32,34,36,38,40,42,44,46,48])),(4,.inl ((0,22,1),none))],[],[]),(734,[(-32)]),0)]
set_option maxRecDepth 100000 in
theorem q345_ok : rf_chkB q345_P q345_U wLay q345_M ddX4_tallyEntry [(30,[0])] [.inl 4] [0,10] 600 q345_N = true := by decide +kernel
/-- NearSpell.Laid.tallyEntry -/
def q346_M : rfM := ((⟨"NearSpell$Laid", "tallyEntry", "(IZ)V"⟩, prog_6_method_13_code, 7, none), (4,94), ([.inr (.inl [53]),.inl ((0,2,1),none),.inl ((0,0,0),none)],[]), [(4,0),(5,13),(52,0)], [(none,[],[])])
def q346_P : rfP := (flX4,csX4,lcX4,spX4,[q161_M],[],[(92,0,1)],[])
def q346_U : rfU := []
set_option maxHeartbeats 4000000 in
def q346_N : List rfB := [(0,([(0,.inr (.inl [53])),(1,.inl ((0,2,1),none)),(2,.inl ((0,0,0),none))],[],[]),(743,[0]),0),
  (10,([(0,.inr (.inl [53])),(1,.inl ((0,2,1),none)),(2,.inl ((0,0,0),none)),(3,.inr (.inl [22,24,26,28,30,32,34,36,38,40,42,44,46,48])),(4,.inl ((0,22,1),none))],[],[]),(734,[(-32)]),0)]
set_option maxRecDepth 100000 in
theorem q346_ok : rf_chkB q346_P q346_U wLay q346_M ddX4_tallyEntry [(30,[0])] [.inl 4] [0,10] 600 q346_N = true := by decide +kernel
/-- NearSpell.Laid.tallyEntry -/
def q347_M : rfM := ((⟨"NearSpell$Laid", "tallyEntry", "(IZ)V"⟩, prog_6_method_13_code, 7, none), (4,94), ([.inr (.inl [53]),.inl ((0,3,1),none),.inl ((0,0,0),none)],[]), [(4,0),(5,13),(52,0)], [(none,[],[])])
def q347_P : rfP := (flX4,csX4,lcX4,spX4,[q161_M],[],[(92,0,1)],[])
def q347_U : rfU := []
set_option maxHeartbeats 4000000 in
def q347_N : List rfB := [(0,([(0,.inr (.inl [53])),(1,.inl ((0,3,1),none)),(2,.inl ((0,0,0),none))],[],[]),(743,[0]),0),
  (10,([(0,.inr (.inl [53])),(1,.inl ((0,3,1),none)),(2,.inl ((0,0,0),none)),(3,.inr (.inl [22,24,26,28,30,32,34,36,38,40,42,44,46,48])),(4,.inl ((0,22,1),none))],[],[]),(734,[(-32)]),0)]
set_option maxRecDepth 100000 in
theorem q347_ok : rf_chkB q347_P q347_U wLay q347_M ddX4_tallyEntry [(30,[0])] [.inl 4] [0,10] 600 q347_N = true := by decide +kernel
/-- NearSpell.Laid.tallyEntry -/
def q348_M : rfM := ((⟨"NearSpell$Laid", "tallyEntry", "(IZ)V"⟩, prog_6_method_13_code, 7, none), (4,94), ([.inr (.inl [53]),.inl ((0,12,1),none),.inl ((0,0,0),none)],[]), [(4,0),(5,13),(52,0)], [(none,[],[])])
def q348_P : rfP := (flX4,csX4,lcX4,spX4,[q161_M],[],[(92,0,1)],[])
def q348_U : rfU := []
set_option maxHeartbeats 4000000 in
def q348_N : List rfB := [(0,([(0,.inr (.inl [53])),(1,.inl ((0,12,1),none)),(2,.inl ((0,0,0),none))],[],[]),(743,[0]),0),
  (10,([(0,.inr (.inl [53])),(1,.inl ((0,12,1),none)),(2,.inl ((0,0,0),none)),(3,.inr (.inl [22,24,26,28,30,32,34,36,38,40,42,44,46,48])),(4,.inl ((0,22,1),none))],[],[]),(734,[(-32)]),0)]
set_option maxRecDepth 100000 in
theorem q348_ok : rf_chkB q348_P q348_U wLay q348_M ddX4_tallyEntry [(30,[0])] [.inl 4] [0,10] 600 q348_N = true := by decide +kernel
/-- NearSpell.Laid.tallyEntry -/
def q349_M : rfM := ((⟨"NearSpell$Laid", "tallyEntry", "(IZ)V"⟩, prog_6_method_13_code, 7, none), (4,94), ([.inr (.inl [53]),.inl ((0,13,1),none),.inl ((0,0,0),none)],[]), [(4,0),(5,13),(52,0)], [(none,[],[])])
def q349_P : rfP := (flX4,csX4,lcX4,spX4,[q161_M],[],[(92,0,1)],[])
def q349_U : rfU := []
set_option maxHeartbeats 4000000 in
def q349_N : List rfB := [(0,([(0,.inr (.inl [53])),(1,.inl ((0,13,1),none)),(2,.inl ((0,0,0),none))],[],[]),(743,[0]),0),
  (10,([(0,.inr (.inl [53])),(1,.inl ((0,13,1),none)),(2,.inl ((0,0,0),none)),(3,.inr (.inl [22,24,26,28,30,32,34,36,38,40,42,44,46,48])),(4,.inl ((0,22,1),none))],[],[]),(734,[(-32)]),0)]
set_option maxRecDepth 100000 in
theorem q349_ok : rf_chkB q349_P q349_U wLay q349_M ddX4_tallyEntry [(30,[0])] [.inl 4] [0,10] 600 q349_N = true := by decide +kernel
/-- NearSpell.Laid.tally -/
def q350_M : rfM := ((⟨"NearSpell$Laid", "tally", "(Z)V"⟩, prog_6_method_12_code, 3, none), (5,120), ([.inr (.inl [53]),.inl ((0,0,0),none)],[]), [(4,0),(5,13),(21,0),(22,2),(22,3),(22,4),(22,5),(23,0),(24,2),(24,3),(24,4),(24,5),(25,0),(26,2),(26,3),(26,4),(26,5),(27,0),(28,2),(28,3),(28,4),(28,5),(29,0),(30,2),(30,3),(30,4),(30,5),(31,0),(32,2),(32,3),(32,4),(32,5),(33,0),(34,2),(34,3),(34,4),(34,5),(35,0),(36,2),(36,3),(36,4),(36,5),(37,0),(38,2),(38,3),(38,4),(38,5),(39,0),(40,2),(40,3),(40,4),(40,5),(41,0),(42,2),(42,3),(42,4),(42,5),(43,0),(44,2),(44,3),(44,4),(44,5),(45,0),(46,2),(46,3),(46,4),(46,5),(47,0),(48,2),(48,3),(48,4),(48,5),(52,0)], [(none,[],[])])
def ddX4_tally : List (Nat × Instr × Nat) := [(0,.aload_n 0,1),(1,.invokevirtual 72,3),(4,.iconst 0,1),(5,.istore_n 2,1),(6,.iload_n 2,1),(7,.bipush 31,2),(9,.if_icmp .ge 16,3),(12,.aload_n 0,1),(13,.getfield 30,3),(16,.iload_n 2,1),(17,.iconst 0,1),(18,.iastore,1),(19,.iinc 2 1,3),(22,.goto (-16),3),(25,.iconst 0,1),(26,.istore_n 2,1),(27,.iload_n 2,1),(28,.aload_n 0,1),(29,.getfield 15,3),(32,.invokevirtual 57,3),(35,.if_icmp .ge 26,3),(38,.aload_n 0,1),(39,.getfield 15,3),(42,.iload_n 2,1),(43,.invokevirtual 65,3),(46,.ifCond .eq 9,3),(49,.aload_n 0,1),(50,.iload_n 2,1),(51,.iload_n 1,1),(52,.invokevirtual 88,3),(55,.iinc 2 1,3),(58,.goto (-31),3),(61,.return_,1)]
def q350_P : rfP := (flX4,csX4,lcX4,spX4,[q343_M,q69_M,q67_M,q349_M],[],[(57,1,8),(65,2,8),(72,0,4),(88,3,4)],[])
def q350_U : rfU := []
set_option maxHeartbeats 4000000 in
def q350_N : List rfB := [(0,([(0,.inr (.inl [53])),(1,.inl ((0,0,0),none))],[],[]),(628,[0]),0),
  (6,([(0,.inr (.inl [53])),(1,.inl ((0,0,0),none)),(2,.inl ((0,31,1),none))],[],[]),(622,[(-11)]),0),
  (27,([(0,.inr (.inl [53])),(1,.inl ((0,0,0),none)),(2,.inl ((0,14,1),none))],[],[]),(268,[(-18)]),0),
  (55,([(0,.inr (.inl [53])),(1,.inl ((0,0,0),none)),(2,.inl ((0,13,1),none))],[],[]),(253,[(-18)]),0)]
set_option maxRecDepth 100000 in
theorem q350_ok : rf_chkB q350_P q350_U wLay q350_M ddX4_tally [(1,[0]),(32,[1]),(43,[2]),(52,[3])] [.inl 2] [0,6,27,55] 600 q350_N = true := by decide +kernel
/-- NearSpell.Laid.countIn -/
def q351_M : rfM := ((⟨"NearSpell$Laid", "countIn", "(I)I"⟩, prog_6_method_5_code, 2, (some .int)), (6,142), ([.inr (.inl [53]),.inl ((0,30,1),none)],[]), [(4,0),(5,13),(21,0),(22,2),(22,3),(22,4),(22,5),(23,0),(24,2),(24,3),(24,4),(24,5),(25,0),(26,2),(26,3),(26,4),(26,5),(27,0),(28,2),(28,3),(28,4),(28,5),(29,0),(30,2),(30,3),(30,4),(30,5),(31,0),(32,2),(32,3),(32,4),(32,5),(33,0),(34,2),(34,3),(34,4),(34,5),(35,0),(36,2),(36,3),(36,4),(36,5),(37,0),(38,2),(38,3),(38,4),(38,5),(39,0),(40,2),(40,3),(40,4),(40,5),(41,0),(42,2),(42,3),(42,4),(42,5),(43,0),(44,2),(44,3),(44,4),(44,5),(45,0),(46,2),(46,3),(46,4),(46,5),(47,0),(48,2),(48,3),(48,4),(48,5),(52,0)], [(some (.inl (((-2147483648),2147483647,1),none)),[],[])])
def ddX4_countIn : List (Nat × Instr × Nat) := [(0,.aload_n 0,1),(1,.iconst 0,1),(2,.invokevirtual 61,3),(5,.iload_n 1,1),(6,.ifCond .lt 18,3),(9,.iload_n 1,1),(10,.bipush 31,2),(12,.if_icmp .ge 12,3),(15,.aload_n 0,1),(16,.getfield 30,3),(19,.iload_n 1,1),(20,.iaload,1),(21,.goto 4,3),(24,.iconst 0,1),(25,.ireturn,1)]
def q351_P : rfP := (flX4,csX4,lcX4,spX4,[q350_M],[],[(61,0,4)],[])
def q351_U : rfU := []
set_option maxHeartbeats 4000000 in
def q351_N : List rfB := [(0,([(0,.inr (.inl [53])),(1,.inl ((0,30,1),none))],[],[]),(13,[]),0)]
set_option maxRecDepth 100000 in
theorem q351_ok : rf_chkB q351_P q351_U wLay q351_M ddX4_countIn [(2,[0])] [] [0] 600 q351_N = true := by decide +kernel
/-- NearSpell.load -/
def q352_M : rfM := ((⟨"NearSpell", "load", "(I)I"⟩, prog_1_method_33_code, 2, (some .int)), (7,163), ([.inr (.inl [70]),.inl (((-2147483648),2147483647,1),none)],[]), [(4,0),(5,13),(21,0),(22,2),(22,3),(22,4),(22,5),(23,0),(24,2),(24,3),(24,4),(24,5),(25,0),(26,2),(26,3),(26,4),(26,5),(27,0),(28,2),(28,3),(28,4),(28,5),(29,0),(30,2),(30,3),(30,4),(30,5),(31,0),(32,2),(32,3),(32,4),(32,5),(33,0),(34,2),(34,3),(34,4),(34,5),(35,0),(36,2),(36,3),(36,4),(36,5),(37,0),(38,2),(38,3),(38,4),(38,5),(39,0),(40,2),(40,3),(40,4),(40,5),(41,0),(42,2),(42,3),(42,4),(42,5),(43,0),(44,2),(44,3),(44,4),(44,5),(45,0),(46,2),(46,3),(46,4),(46,5),(47,0),(48,2),(48,3),(48,4),(48,5),(52,0)], [(some (.inl (((-2147483648),2147483647,1),none)),[],[])])
def ddX11_load : List (Nat × Instr × Nat) := [(0,.iload_n 1,1),(1,.ifCond .lt 25,3),(4,.iload_n 1,1),(5,.aload_n 0,1),(6,.getfield 16,3),(9,.getfield 294,3),(12,.if_icmp .ge 14,3),(15,.aload_n 0,1),(16,.getfield 58,3),(19,.iload_n 1,1),(20,.invokevirtual 297,3),(23,.goto 4,3),(26,.iconst (-1),1),(27,.ireturn,1)]
def q352_P : rfP := (flX11,csX11,lcX11,spX11,[q351_M],[],[(297,0,4)],[])
def q352_U : rfU := []
set_option maxHeartbeats 4000000 in
def q352_N : List rfB := [(0,([(0,.inr (.inl [70])),(1,.inl (((-2147483648),2147483647,1),none))],[],[]),(14,[]),0),
  (26,([(0,.inr (.inl [70])),(1,.inl (((-2147483648),2147483647,1),none))],[],[]),(1,[]),0)]
set_option maxRecDepth 100000 in
theorem q352_ok : rf_chkB q352_P q352_U wLay q352_M ddX11_load [(20,[0])] [] [0,26] 600 q352_N = true := by decide +kernel
/-- NearSpell.Laid.fullestBucket -/
def q353_M : rfM := ((⟨"NearSpell$Laid", "fullestBucket", "()I"⟩, prog_6_method_6_code, 3, (some .int)), (6,142), ([.inr (.inl [53])],[]), [(4,0),(5,13),(21,0),(22,2),(22,3),(22,4),(22,5),(23,0),(24,2),(24,3),(24,4),(24,5),(25,0),(26,2),(26,3),(26,4),(26,5),(27,0),(28,2),(28,3),(28,4),(28,5),(29,0),(30,2),(30,3),(30,4),(30,5),(31,0),(32,2),(32,3),(32,4),(32,5),(33,0),(34,2),(34,3),(34,4),(34,5),(35,0),(36,2),(36,3),(36,4),(36,5),(37,0),(38,2),(38,3),(38,4),(38,5),(39,0),(40,2),(40,3),(40,4),(40,5),(41,0),(42,2),(42,3),(42,4),(42,5),(43,0),(44,2),(44,3),(44,4),(44,5),(45,0),(46,2),(46,3),(46,4),(46,5),(47,0),(48,2),(48,3),(48,4),(48,5),(52,0)], [(some (.inl ((0,30,1),none)),[],[])])
def ddX4_fullestBucket : List (Nat × Instr × Nat) := [(0,.aload_n 0,1),(1,.iconst 0,1),(2,.invokevirtual 61,3),(5,.iconst 0,1),(6,.istore_n 1,1),(7,.iconst 1,1),(8,.istore_n 2,1),(9,.iload_n 2,1),(10,.bipush 31,2),(12,.if_icmp .ge 26,3),(15,.aload_n 0,1),(16,.getfield 30,3),(19,.iload_n 2,1),(20,.iaload,1),(21,.aload_n 0,1),(22,.getfield 30,3),(25,.iload_n 1,1),(26,.iaload,1),(27,.if_icmp .le 5,3),(30,.iload_n 2,1),(31,.istore_n 1,1),(32,.iinc 2 1,3),(35,.goto (-26),3),(38,.iload_n 1,1),(39,.ireturn,1)]
def q353_P : rfP := (flX4,csX4,lcX4,spX4,[q350_M],[],[(61,0,4)],[])
def q353_U : rfU := []
set_option maxHeartbeats 4000000 in
def q353_N : List rfB := [(0,([(0,.inr (.inl [53]))],[],[]),(535,[0]),0),
  (9,([(0,.inr (.inl [53])),(1,.inl ((0,30,1),none)),(2,.inl ((1,31,1),none))],[],[]),(543,[(-17)]),0),
  (32,([(0,.inr (.inl [53])),(1,.inl ((0,30,1),none)),(2,.inl ((1,30,1),none))],[],[]),(529,[(-17)]),0)]
set_option maxRecDepth 100000 in
theorem q353_ok : rf_chkB q353_P q353_U wLay q353_M ddX4_fullestBucket [(2,[0])] [.inl 2] [0,9,32] 600 q353_N = true := by decide +kernel
/-- NearSpell.fullest -/
def q354_M : rfM := ((⟨"NearSpell", "fullest", "()I"⟩, prog_1_method_34_code, 1, (some .int)), (7,164), ([.inr (.inl [70])],[]), [(4,0),(5,13),(21,0),(22,2),(22,3),(22,4),(22,5),(23,0),(24,2),(24,3),(24,4),(24,5),(25,0),(26,2),(26,3),(26,4),(26,5),(27,0),(28,2),(28,3),(28,4),(28,5),(29,0),(30,2),(30,3),(30,4),(30,5),(31,0),(32,2),(32,3),(32,4),(32,5),(33,0),(34,2),(34,3),(34,4),(34,5),(35,0),(36,2),(36,3),(36,4),(36,5),(37,0),(38,2),(38,3),(38,4),(38,5),(39,0),(40,2),(40,3),(40,4),(40,5),(41,0),(42,2),(42,3),(42,4),(42,5),(43,0),(44,2),(44,3),(44,4),(44,5),(45,0),(46,2),(46,3),(46,4),(46,5),(47,0),(48,2),(48,3),(48,4),(48,5),(52,0)], [(some (.inl ((0,30,1),none)),[],[])])
def ddX11_fullest : List (Nat × Instr × Nat) := [(0,.aload_n 0,1),(1,.getfield 58,3),(4,.invokevirtual 300,3),(7,.ireturn,1)]
def q354_P : rfP := (flX11,csX11,lcX11,spX11,[q353_M],[],[(300,0,4)],[])
def q354_U : rfU := []
set_option maxHeartbeats 4000000 in
def q354_N : List rfB := [(0,([(0,.inr (.inl [70]))],[],[]),(3,[]),0)]
set_option maxRecDepth 100000 in
theorem q354_ok : rf_chkB q354_P q354_U wLay q354_M ddX11_fullest [(4,[0])] [] [0] 600 q354_N = true := by decide +kernel
/-- NearSpell.FormList.fill -/
def q355_M : rfM := ((⟨"NearSpell$FormList", "fill", "(III)V"⟩, prog_5_method_2_code, 5, none), (2,48), ([.inr (.inl [50]),.inl (((-2147483648),2147483647,1),none),.inl ((1,6,1),none),.inl ((0,2,1),none)],[]), [(49,0),(50,2),(50,3),(50,4),(50,5)], [(none,[],[((50,3),(1,6,1),none),((50,4),(0,2,1),none)])])
def q355_P : rfP := (flX3,csX3,lcX3,spX3,[q14_M,q102_M,q103_M],[(28,0)],[(32,1,3),(36,2,3)],[])
def q355_U : rfU := []
set_option maxHeartbeats 4000000 in
def q355_N : List rfB := [(0,([(0,.inr (.inl [50])),(1,.inl (((-2147483648),2147483647,1),none)),(2,.inl ((1,6,1),none)),(3,.inl ((0,2,1),none))],[],[]),(40,[]),0),
  (25,([(0,.inr (.inl [50])),(1,.inl (((-2147483648),2147483647,1),none)),(2,.inl ((1,6,1),none)),(3,.inl ((0,2,1),none))],[],[]),(27,[]),0),
  (77,([(0,.inr (.inl [50])),(1,.inl (((-2147483648),2147483647,1),none)),(2,.inl ((1,6,1),none)),(3,.inl ((0,2,1),none)),(4,.inl (((-2147483648),2147483647,1),none))],[],[((50,3),(1,6,1),none),((50,4),(0,2,1),none)]),(0,[]),0)]
set_option maxRecDepth 100000 in
theorem q355_ok : rf_chkB q355_P q355_U wLay q355_M ddX3_fill [(53,[0]),(61,[1]),(74,[2])] [] [0,25,77] 600 q355_N = true := by decide +kernel
/-- NearSpell.State.isEntry -/
def q356_M : rfM := ((⟨"NearSpell$State", "isEntry", "(I)Z"⟩, prog_10_method_6_code, 2, (some .boolean)), (0,0), ([.inr (.inl [13]),.inl ((0,5,1),none)],[]), [], [(some (.inl ((1,1,0),none)),[],[((12,34),(1,14,1),none)]),(some (.inl ((0,0,0),none)),[],[])])
def q356_P : rfP := (flX8,csX8,lcX8,spX8,[],[],[],[])
def q356_U : rfU := []
set_option maxHeartbeats 4000000 in
def q356_N : List rfB := [(0,([(0,.inr (.inl [13])),(1,.inl ((0,5,1),none))],[],[]),(20,[]),0),
  (32,([(0,.inr (.inl [13])),(1,.inl ((0,5,1),none))],[],[]),(1,[]),0)]
set_option maxRecDepth 100000 in
theorem q356_ok : rf_chkB q356_P q356_U wLay q356_M ddX8_isEntry [] [] [0,32] 600 q356_N = true := by decide +kernel
/-- NearSpell.Laid.countAll -/
def q357_M : rfM := ((⟨"NearSpell$Laid", "countAll", "(I)I"⟩, prog_6_method_7_code, 4, (some .int)), (3,72), ([.inr (.inl [53]),.inl ((0,2,1),none)],[]), [(49,0),(50,2),(50,3),(50,4),(50,5)], [(some (.inl (((-2147483648),2147483647,1),none)),[],[])])
def ddX4_countAll : List (Nat × Instr × Nat) := [(0,.iconst 0,1),(1,.istore_n 2,1),(2,.iconst 0,1),(3,.istore_n 3,1),(4,.iload_n 3,1),(5,.aload_n 0,1),(6,.getfield 15,3),(9,.invokevirtual 57,3),(12,.if_icmp .ge 53,3),(15,.aload_n 0,1),(16,.getfield 15,3),(19,.iload_n 3,1),(20,.invokevirtual 65,3),(23,.ifCond .eq 36,3),(26,.aload_n 0,1),(27,.getfield 26,3),(30,.aload_n 0,1),(31,.getfield 15,3),(34,.iload_n 3,1),(35,.invokevirtual 51,3),(38,.aload_n 0,1),(39,.getfield 9,3),(42,.getfield 34,3),(45,.iload_n 1,1),(46,.invokevirtual 43,3),(49,.iload_n 2,1),(50,.aload_n 0,1),(51,.getfield 26,3),(54,.getfield 69,3),(57,.iadd,1),(58,.istore_n 2,1),(59,.iinc 3 1,3),(62,.goto (-58),3),(65,.iload_n 2,1),(66,.ireturn,1)]
def q357_P : rfP := (flX4,csX4,lcX4,spX4,[q355_M,q69_M,q67_M,q11_M],[],[(43,0,3),(51,3,8),(57,1,8),(65,2,8)],[])
def q357_U : rfU := []
set_option maxHeartbeats 4000000 in
def q357_N : List rfB := [(0,([(0,.inr (.inl [53])),(1,.inl ((0,2,1),none))],[],[]),(470,[0]),0),
  (4,([(0,.inr (.inl [53])),(1,.inl ((0,2,1),none)),(2,.inl (((-2147483648),2147483647,1),none)),(3,.inl ((0,14,1),none))],[],[]),(464,[(-31)]),0),
  (59,([(0,.inr (.inl [53])),(1,.inl ((0,2,1),none)),(2,.inl (((-2147483648),2147483647,1),none)),(3,.inl ((0,13,1),none))],[],[]),(436,[(-31)]),0)]
set_option maxRecDepth 100000 in
theorem q357_ok : rf_chkB q357_P q357_U wLay q357_M ddX4_countAll [(9,[1]),(20,[2]),(35,[3]),(46,[0])] [.inl 3] [0,4,59] 600 q357_N = true := by decide +kernel
/-- NearSpell.store -/
def q358_M : rfM := ((⟨"NearSpell", "store", "()I"⟩, prog_1_method_35_code, 1, (some .int)), (4,95), ([.inr (.inl [70])],[]), [(49,0),(50,2),(50,3),(50,4),(50,5)], [(some (.inl (((-2147483648),2147483647,1),none)),[],[])])
def ddX11_store : List (Nat × Instr × Nat) := [(0,.aload_n 0,1),(1,.getfield 58,3),(4,.aload_n 0,1),(5,.getfield 16,3),(8,.getfield 303,3),(11,.invokevirtual 306,3),(14,.ireturn,1)]
def q358_P : rfP := (flX11,csX11,lcX11,spX11,[q357_M],[],[(306,0,4)],[])
def q358_U : rfU := []
set_option maxHeartbeats 4000000 in
def q358_N : List rfB := [(0,([(0,.inr (.inl [70]))],[],[]),(6,[]),0)]
set_option maxRecDepth 100000 in
theorem q358_ok : rf_chkB q358_P q358_U wLay q358_M ddX11_store [(11,[0])] [] [0] 600 q358_N = true := by decide +kernel
/-- NearSpell.Laid.isOfOthers -/
def q359_M : rfM := ((⟨"NearSpell$Laid", "isOfOthers", "(III)Z"⟩, prog_6_method_11_code, 5, (some .boolean)), (0,0), ([.inr (.inl [53]),.inl (((-2147483648),2147483647,1),none),.inl ((0,0,0),none),.inl ((0,0,0),none)],[]), [], [(some (.inl ((0,0,0),none)),[],[])])
def ddX4_isOfOthers : List (Nat × Instr × Nat) := [(0,.iconst 0,1),(1,.istore 4,2),(3,.iload 4,2),(5,.iload_n 3,1),(6,.if_icmp .ge 43,3),(9,.iload 4,2),(11,.iload_n 2,1),(12,.if_icmp .eq 31,3),(15,.aload_n 0,1),(16,.getfield 15,3),(19,.iload 4,2),(21,.invokevirtual 65,3),(24,.ifCond .eq 19,3),(27,.aload_n 0,1),(28,.getfield 21,3),(31,.iload 4,2),(33,.aaload,1),(34,.iload_n 1,1),(35,.invokevirtual 85,3),(38,.ifCond .eq 5,3),(41,.iconst 1,1),(42,.ireturn,1),(43,.iinc 4 1,3),(46,.goto (-43),3),(49,.iconst 0,1),(50,.ireturn,1)]
def q359_P : rfP := (flX4,csX4,lcX4,spX4,[],[],[],[])
def q359_U : rfU := []
set_option maxHeartbeats 4000000 in
def q359_N : List rfB := [(0,([(0,.inr (.inl [53])),(1,.inl (((-2147483648),2147483647,1),none)),(2,.inl ((0,0,0),none)),(3,.inl ((0,0,0),none))],[],[]),(6,[]),0)]
set_option maxRecDepth 100000 in
theorem q359_ok : rf_chkB q359_P q359_U wLay q359_M ddX4_isOfOthers [] [] [0] 600 q359_N = true := by decide +kernel
