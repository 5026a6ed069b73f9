/-- NearSpell.Laid.tallyEntry -/
def q360_M : rfM := ((⟨"NearSpell$Laid", "tallyEntry", "(IZ)V"⟩, prog_6_method_13_code, 7, none), (4,94), ([.inr (.inl [53]),.inl ((0,0,0),none),.inl ((1,1,0),none)],[]), [(4,0),(5,13),(52,0)], [(none,[],[])])
def q360_P : rfP := (flX4,csX4,lcX4,spX4,[q161_M,q359_M],[],[(81,1,4),(92,0,1)],[])
def q360_U : rfU := []
set_option maxHeartbeats 4000000 in
def q360_N : List rfB := [(0,([(0,.inr (.inl [53])),(1,.inl ((0,0,0),none)),(2,.inl ((1,1,0),none))],[],[]),(950,[0]),0),
  (10,([(0,.inr (.inl [53])),(1,.inl ((0,0,0),none)),(2,.inl ((1,1,0),none)),(3,.inr (.inl [22,24,26,28,30,32,34,36,38,40,42,44,46,48])),(4,.inl ((0,22,1),none))],[],[]),(941,[(-41)]),0)]
set_option maxRecDepth 100000 in
theorem q360_ok : rf_chkB q360_P q360_U wLay q360_M ddX4_tallyEntry [(30,[0]),(49,[1])] [.inl 4] [0,10] 600 q360_N = true := by decide +kernel
/-- NearSpell.FormList.has -/
def q361_M : rfM := ((⟨"NearSpell$FormList", "has", "(I)Z"⟩, prog_5_method_5_code, 3, (some .boolean)), (0,0), ([.inr (.inl [22,24,26,28,30,32,34,36,38,40,42,44,46,48]),.inl (((-2147483648),2147483647,1),none)],[]), [], [(some (.inl ((1,1,0),none)),[],[]),(some (.inl ((0,0,0),none)),[],[])])
def q361_P : rfP := (flX3,csX3,lcX3,spX3,[],[],[],[])
def q361_U : rfU := []
set_option maxHeartbeats 4000000 in
def q361_N : List rfB := [(0,([(0,.inr (.inl [22,24,26,28,30,32,34,36,38,40,42,44,46,48])),(1,.inl (((-2147483648),2147483647,1),none))],[],[]),(6202,[0]),2000000),
  (2,([(0,.inr (.inl [40])),(1,.inl (((-2147483648),2147483647,1),none)),(2,.inl ((0,22,1),none))],[],[]),(4425,[(-19)]),0),
  (2,([(0,.inr (.inl [24])),(1,.inl (((-2147483648),2147483647,1),none)),(2,.inl ((0,22,1),none))],[],[]),(881,[(-19)]),0),
  (2,([(0,.inr (.inl [34])),(1,.inl (((-2147483648),2147483647,1),none)),(2,.inl ((0,22,1),none))],[],[]),(3096,[(-19)]),0),
  (2,([(0,.inr (.inl [42])),(1,.inl (((-2147483648),2147483647,1),none)),(2,.inl ((0,22,1),none))],[],[]),(4868,[(-19)]),0),
  (2,([(0,.inr (.inl [32])),(1,.inl (((-2147483648),2147483647,1),none)),(2,.inl ((0,22,1),none))],[],[]),(2653,[(-19)]),0),
  (2,([(0,.inr (.inl [26])),(1,.inl (((-2147483648),2147483647,1),none)),(2,.inl ((0,22,1),none))],[],[]),(1324,[(-19)]),0),
  (2,([(0,.inr (.inl [44])),(1,.inl (((-2147483648),2147483647,1),none)),(2,.inl ((0,22,1),none))],[],[]),(5311,[(-19)]),0),
  (2,([(0,.inr (.inl [22])),(1,.inl (((-2147483648),2147483647,1),none)),(2,.inl ((0,22,1),none))],[],[]),(438,[(-19)]),0),
  (2,([(0,.inr (.inl [46])),(1,.inl (((-2147483648),2147483647,1),none)),(2,.inl ((0,22,1),none))],[],[]),(5754,[(-19)]),0),
  (2,([(0,.inr (.inl [48])),(1,.inl (((-2147483648),2147483647,1),none)),(2,.inl ((0,22,1),none))],[],[]),(6197,[(-19)]),0),
  (2,([(0,.inr (.inl [38])),(1,.inl (((-2147483648),2147483647,1),none)),(2,.inl ((0,22,1),none))],[],[]),(3982,[(-19)]),0),
  (2,([(0,.inr (.inl [30])),(1,.inl (((-2147483648),2147483647,1),none)),(2,.inl ((0,22,1),none))],[],[]),(2210,[(-19)]),0),
  (2,([(0,.inr (.inl [28])),(1,.inl (((-2147483648),2147483647,1),none)),(2,.inl ((0,22,1),none))],[],[]),(1767,[(-19)]),0),
  (2,([(0,.inr (.inl [36])),(1,.inl (((-2147483648),2147483647,1),none)),(2,.inl ((0,22,1),none))],[],[]),(3539,[(-19)]),0),
  (38,([(0,.inr (.inl [40])),(1,.inl (((-2147483648),2147483647,1),none)),(2,.inl ((0,22,1),none))],[],[]),(3988,[0]),0),
  (38,([(0,.inr (.inl [24])),(1,.inl (((-2147483648),2147483647,1),none)),(2,.inl ((0,22,1),none))],[],[]),(444,[0]),0),
  (38,([(0,.inr (.inl [34])),(1,.inl (((-2147483648),2147483647,1),none)),(2,.inl ((0,22,1),none))],[],[]),(2659,[0]),0),
  (38,([(0,.inr (.inl [42])),(1,.inl (((-2147483648),2147483647,1),none)),(2,.inl ((0,22,1),none))],[],[]),(4431,[0]),0),
  (38,([(0,.inr (.inl [32])),(1,.inl (((-2147483648),2147483647,1),none)),(2,.inl ((0,22,1),none))],[],[]),(2216,[0]),0),
  (38,([(0,.inr (.inl [26])),(1,.inl (((-2147483648),2147483647,1),none)),(2,.inl ((0,22,1),none))],[],[]),(887,[0]),0),
  (38,([(0,.inr (.inl [44])),(1,.inl (((-2147483648),2147483647,1),none)),(2,.inl ((0,22,1),none))],[],[]),(4874,[0]),0),
  (38,([(0,.inr (.inl [22])),(1,.inl (((-2147483648),2147483647,1),none)),(2,.inl ((0,22,1),none))],[],[]),(1,[0]),0),
  (38,([(0,.inr (.inl [46])),(1,.inl (((-2147483648),2147483647,1),none)),(2,.inl ((0,22,1),none))],[],[]),(5317,[0]),0),
  (38,([(0,.inr (.inl [48])),(1,.inl (((-2147483648),2147483647,1),none)),(2,.inl ((0,22,1),none))],[],[]),(5760,[0]),0),
  (38,([(0,.inr (.inl [38])),(1,.inl (((-2147483648),2147483647,1),none)),(2,.inl ((0,22,1),none))],[],[]),(3545,[0]),0),
  (38,([(0,.inr (.inl [30])),(1,.inl (((-2147483648),2147483647,1),none)),(2,.inl ((0,22,1),none))],[],[]),(1773,[0]),0),
  (38,([(0,.inr (.inl [28])),(1,.inl (((-2147483648),2147483647,1),none)),(2,.inl ((0,22,1),none))],[],[]),(1330,[0]),0),
  (38,([(0,.inr (.inl [36])),(1,.inl (((-2147483648),2147483647,1),none)),(2,.inl ((0,22,1),none))],[],[]),(3102,[0]),0)]
set_option maxRecDepth 100000 in
theorem q361_ok : rf_chkB q361_P q361_U wLay q361_M ddX3_has [] [.inl 2] [0,2,38] 600 q361_N = true := by decide +kernel
/-- NearSpell.Laid.isOfOthers -/
def q362_M : rfM := ((⟨"NearSpell$Laid", "isOfOthers", "(III)Z"⟩, prog_6_method_11_code, 5, (some .boolean)), (1,22), ([.inr (.inl [53]),.inl (((-2147483648),2147483647,1),none),.inl ((0,1,1),none),.inl ((0,1,1),none)],[]), [], [(some (.inl ((1,1,0),none)),[(2,1,1),(3,1,1)],[((12,34),(1,14,1),none)]),(some (.inl ((0,0,0),none)),[],[])])
def q362_P : rfP := (flX4,csX4,lcX4,spX4,[q53_M,q361_M],[],[(65,0,8),(85,1,3)],[])
def q362_U : rfU := []
set_option maxHeartbeats 4000000 in
def q362_N : List rfB := [(0,([(0,.inr (.inl [53])),(1,.inl (((-2147483648),2147483647,1),none)),(2,.inl ((0,1,1),none)),(3,.inl ((0,1,1),none))],[],[]),(50,[0]),0),
  (3,([(0,.inr (.inl [53])),(1,.inl (((-2147483648),2147483647,1),none)),(2,.inl ((0,1,1),none)),(3,.inl ((0,1,1),none)),(4,.inl ((0,1,1),none))],[],[]),(46,[(-22)]),0),
  (43,([(0,.inr (.inl [53])),(1,.inl (((-2147483648),2147483647,1),none)),(2,.inl ((0,1,1),none)),(3,.inl ((1,1,1),none)),(4,.inl ((0,0,1),none))],[],[]),(27,[(-22)]),0)]
set_option maxRecDepth 100000 in
theorem q362_ok : rf_chkB q362_P q362_U wLay q362_M ddX4_isOfOthers [(21,[0]),(35,[1])] [.inl 4] [0,3,43] 600 q362_N = true := by decide +kernel
/-- NearSpell.Laid.tallyEntry -/
def q363_M : rfM := ((⟨"NearSpell$Laid", "tallyEntry", "(IZ)V"⟩, prog_6_method_13_code, 7, none), (4,94), ([.inr (.inl [53]),.inl ((0,1,1),none),.inl ((1,1,0),none)],[]), [(4,0),(5,13),(52,0)], [(none,[],[])])
def q363_P : rfP := (flX4,csX4,lcX4,spX4,[q161_M,q362_M],[],[(81,1,4),(92,0,1)],[])
def q363_U : rfU := []
set_option maxHeartbeats 4000000 in
def q363_N : List rfB := [(0,([(0,.inr (.inl [53])),(1,.inl ((0,1,1),none)),(2,.inl ((1,1,0),none))],[],[]),(1042,[0]),0),
  (10,([(0,.inr (.inl [53])),(1,.inl ((0,1,1),none)),(2,.inl ((1,1,0),none)),(3,.inr (.inl [22,24,26,28,30,32,34,36,38,40,42,44,46,48])),(4,.inl ((0,22,1),none))],[],[]),(1033,[(-45)]),0),
  (62,([(0,.inr (.inl [53])),(1,.inl ((0,1,1),none)),(2,.inl ((1,1,0),none)),(3,.inr (.inl [22,24,26,28,30,32,34,36,38,40,42,44,46,48])),(4,.inl ((0,21,1),none)),(5,.inl ((0,30,1),none)),(6,.inl ((0,1,1),none))],[],[]),(1004,[(-45)]),0),
  (85,([(0,.inr (.inl [53])),(1,.inl ((0,1,1),none)),(2,.inl ((1,1,0),none)),(3,.inr (.inl [22,24,26,28,30,32,34,36,38,40,42,44,46,48])),(4,.inl ((0,21,1),none)),(5,.inl ((0,30,1),none)),(6,.inl ((0,1,1),none))],[],[]),(991,[(-45)]),0)]
set_option maxRecDepth 100000 in
theorem q363_ok : rf_chkB q363_P q363_U wLay q363_M ddX4_tallyEntry [(30,[0]),(49,[1])] [.inl 4] [0,10,62,85] 600 q363_N = true := by decide +kernel
/-- NearSpell.Laid.isOfOthers -/
def q364_M : rfM := ((⟨"NearSpell$Laid", "isOfOthers", "(III)Z"⟩, prog_6_method_11_code, 5, (some .boolean)), (1,22), ([.inr (.inl [53]),.inl (((-2147483648),2147483647,1),none),.inl ((0,2,1),none),.inl ((0,2,1),none)],[]), [], [(some (.inl ((1,1,0),none)),[(3,1,2)],[((12,34),(1,14,1),none)]),(some (.inl ((0,0,0),none)),[],[])])
def q364_P : rfP := (flX4,csX4,lcX4,spX4,[q361_M,q55_M],[],[(65,1,8),(85,0,3)],[])
def q364_U : rfU := []
set_option maxHeartbeats 4000000 in
def q364_N : List rfB := [(0,([(0,.inr (.inl [53])),(1,.inl (((-2147483648),2147483647,1),none)),(2,.inl ((0,2,1),none)),(3,.inl ((0,2,1),none))],[],[]),(72,[0]),0),
  (3,([(0,.inr (.inl [53])),(1,.inl (((-2147483648),2147483647,1),none)),(2,.inl ((0,2,1),none)),(3,.inl ((0,2,1),none)),(4,.inl ((0,2,1),none))],[],[]),(68,[(-22)]),0),
  (43,([(0,.inr (.inl [53])),(1,.inl (((-2147483648),2147483647,1),none)),(2,.inl ((0,2,1),none)),(3,.inl ((1,2,1),none)),(4,.inl ((0,1,1),none))],[],[]),(49,[(-22)]),0)]
set_option maxRecDepth 100000 in
theorem q364_ok : rf_chkB q364_P q364_U wLay q364_M ddX4_isOfOthers [(21,[1]),(35,[0])] [.inl 4] [0,3,43] 600 q364_N = true := by decide +kernel
/-- NearSpell.Laid.tallyEntry -/
def q365_M : rfM := ((⟨"NearSpell$Laid", "tallyEntry", "(IZ)V"⟩, prog_6_method_13_code, 7, none), (4,94), ([.inr (.inl [53]),.inl ((0,2,1),none),.inl ((1,1,0),none)],[]), [(4,0),(5,13),(52,0)], [(none,[],[])])
def q365_P : rfP := (flX4,csX4,lcX4,spX4,[q161_M,q364_M],[],[(81,1,4),(92,0,1)],[])
def q365_U : rfU := []
set_option maxHeartbeats 4000000 in
def q365_N : List rfB := [(0,([(0,.inr (.inl [53])),(1,.inl ((0,2,1),none)),(2,.inl ((1,1,0),none))],[],[]),(1042,[0]),0),
  (10,([(0,.inr (.inl [53])),(1,.inl ((0,2,1),none)),(2,.inl ((1,1,0),none)),(3,.inr (.inl [22,24,26,28,30,32,34,36,38,40,42,44,46,48])),(4,.inl ((0,22,1),none))],[],[]),(1033,[(-45)]),0),
  (62,([(0,.inr (.inl [53])),(1,.inl ((0,2,1),none)),(2,.inl ((1,1,0),none)),(3,.inr (.inl [22,24,26,28,30,32,34,36,38,40,42,44,46,48])),(4,.inl ((0,21,1),none)),(5,.inl ((0,30,1),none)),(6,.inl ((0,1,1),none))],[],[]),(1004,[(-45)]),0),
  (85,([(0,.inr (.inl [53])),(1,.inl ((0,2,1),none)),(2,.inl ((1,1,0),none)),(3,.inr (.inl [22,24,26,28,30,32,34,36,38,40,42,44,46,48])),(4,.inl ((0,21,1),none)),(5,.inl ((0,30,1),none)),(6,.inl ((0,1,1),none))],[],[]),(991,[(-45)]),0)]
set_option maxRecDepth 100000 in
theorem q365_ok : rf_chkB q365_P q365_U wLay q365_M ddX4_tallyEntry [(30,[0]),(49,[1])] [.inl 4] [0,10,62,85] 600 q365_N = true := by decide +kernel
/-- NearSpell.Laid.isOfOthers -/
def q366_M : rfM := ((⟨"NearSpell$Laid", "isOfOthers", "(III)Z"⟩, prog_6_method_11_code, 5, (some .boolean)), (1,22), ([.inr (.inl [53]),.inl (((-2147483648),2147483647,1),none),.inl ((0,3,1),none),.inl ((0,3,1),none)],[]), [], [(some (.inl ((1,1,0),none)),[(3,1,3)],[((12,34),(1,14,1),none)]),(some (.inl ((0,0,0),none)),[],[])])
def q366_P : rfP := (flX4,csX4,lcX4,spX4,[q361_M,q57_M],[],[(65,1,8),(85,0,3)],[])
def q366_U : rfU := []
set_option maxHeartbeats 4000000 in
def q366_N : List rfB := [(0,([(0,.inr (.inl [53])),(1,.inl (((-2147483648),2147483647,1),none)),(2,.inl ((0,3,1),none)),(3,.inl ((0,3,1),none))],[],[]),(94,[0]),0),
  (3,([(0,.inr (.inl [53])),(1,.inl (((-2147483648),2147483647,1),none)),(2,.inl ((0,3,1),none)),(3,.inl ((0,3,1),none)),(4,.inl ((0,3,1),none))],[],[]),(90,[(-22)]),0),
  (43,([(0,.inr (.inl [53])),(1,.inl (((-2147483648),2147483647,1),none)),(2,.inl ((0,3,1),none)),(3,.inl ((1,3,1),none)),(4,.inl ((0,2,1),none))],[],[]),(71,[(-22)]),0)]
set_option maxRecDepth 100000 in
theorem q366_ok : rf_chkB q366_P q366_U wLay q366_M ddX4_isOfOthers [(21,[1]),(35,[0])] [.inl 4] [0,3,43] 600 q366_N = true := by decide +kernel
/-- NearSpell.Laid.tallyEntry -/
def q367_M : rfM := ((⟨"NearSpell$Laid", "tallyEntry", "(IZ)V"⟩, prog_6_method_13_code, 7, none), (4,94), ([.inr (.inl [53]),.inl ((0,3,1),none),.inl ((1,1,0),none)],[]), [(4,0),(5,13),(52,0)], [(none,[],[])])
def q367_P : rfP := (flX4,csX4,lcX4,spX4,[q161_M,q366_M],[],[(81,1,4),(92,0,1)],[])
def q367_U : rfU := []
set_option maxHeartbeats 4000000 in
def q367_N : List rfB := [(0,([(0,.inr (.inl [53])),(1,.inl ((0,3,1),none)),(2,.inl ((1,1,0),none))],[],[]),(1042,[0]),0),
  (10,([(0,.inr (.inl [53])),(1,.inl ((0,3,1),none)),(2,.inl ((1,1,0),none)),(3,.inr (.inl [22,24,26,28,30,32,34,36,38,40,42,44,46,48])),(4,.inl ((0,22,1),none))],[],[]),(1033,[(-45)]),0),
  (62,([(0,.inr (.inl [53])),(1,.inl ((0,3,1),none)),(2,.inl ((1,1,0),none)),(3,.inr (.inl [22,24,26,28,30,32,34,36,38,40,42,44,46,48])),(4,.inl ((0,21,1),none)),(5,.inl ((0,30,1),none)),(6,.inl ((0,1,1),none))],[],[]),(1004,[(-45)]),0),
  (85,([(0,.inr (.inl [53])),(1,.inl ((0,3,1),none)),(2,.inl ((1,1,0),none)),(3,.inr (.inl [22,24,26,28,30,32,34,36,38,40,42,44,46,48])),(4,.inl ((0,21,1),none)),(5,.inl ((0,30,1),none)),(6,.inl ((0,1,1),none))],[],[]),(991,[(-45)]),0)]
set_option maxRecDepth 100000 in
theorem q367_ok : rf_chkB q367_P q367_U wLay q367_M ddX4_tallyEntry [(30,[0]),(49,[1])] [.inl 4] [0,10,62,85] 600 q367_N = true := by decide +kernel
/-- NearSpell.Laid.isOfOthers -/
def q368_M : rfM := ((⟨"NearSpell$Laid", "isOfOthers", "(III)Z"⟩, prog_6_method_11_code, 5, (some .boolean)), (1,22), ([.inr (.inl [53]),.inl (((-2147483648),2147483647,1),none),.inl ((0,12,1),none),.inl ((0,12,1),none)],[]), [], [(some (.inl ((1,1,0),none)),[(3,1,12)],[((12,34),(1,14,1),none)]),(some (.inl ((0,0,0),none)),[],[])])
def q368_P : rfP := (flX4,csX4,lcX4,spX4,[q361_M,q65_M],[],[(65,1,8),(85,0,3)],[])
def q368_U : rfU := []
set_option maxHeartbeats 4000000 in
def q368_N : List rfB := [(0,([(0,.inr (.inl [53])),(1,.inl (((-2147483648),2147483647,1),none)),(2,.inl ((0,12,1),none)),(3,.inl ((0,12,1),none))],[],[]),(292,[0]),0),
  (3,([(0,.inr (.inl [53])),(1,.inl (((-2147483648),2147483647,1),none)),(2,.inl ((0,12,1),none)),(3,.inl ((0,12,1),none)),(4,.inl ((0,12,1),none))],[],[]),(288,[(-22)]),0),
  (43,([(0,.inr (.inl [53])),(1,.inl (((-2147483648),2147483647,1),none)),(2,.inl ((0,12,1),none)),(3,.inl ((1,12,1),none)),(4,.inl ((0,11,1),none))],[],[]),(269,[(-22)]),0)]
set_option maxRecDepth 100000 in
theorem q368_ok : rf_chkB q368_P q368_U wLay q368_M ddX4_isOfOthers [(21,[1]),(35,[0])] [.inl 4] [0,3,43] 600 q368_N = true := by decide +kernel
/-- NearSpell.Laid.tallyEntry -/
def q369_M : rfM := ((⟨"NearSpell$Laid", "tallyEntry", "(IZ)V"⟩, prog_6_method_13_code, 7, none), (4,94), ([.inr (.inl [53]),.inl ((0,12,1),none),.inl ((1,1,0),none)],[]), [(4,0),(5,13),(52,0)], [(none,[],[])])
def q369_P : rfP := (flX4,csX4,lcX4,spX4,[q161_M,q368_M],[],[(81,1,4),(92,0,1)],[])
def q369_U : rfU := []
set_option maxHeartbeats 4000000 in
def q369_N : List rfB := [(0,([(0,.inr (.inl [53])),(1,.inl ((0,12,1),none)),(2,.inl ((1,1,0),none))],[],[]),(1042,[0]),0),
  (10,([(0,.inr (.inl [53])),(1,.inl ((0,12,1),none)),(2,.inl ((1,1,0),none)),(3,.inr (.inl [22,24,26,28,30,32,34,36,38,40,42,44,46,48])),(4,.inl ((0,22,1),none))],[],[]),(1033,[(-45)]),0),
  (62,([(0,.inr (.inl [53])),(1,.inl ((0,12,1),none)),(2,.inl ((1,1,0),none)),(3,.inr (.inl [22,24,26,28,30,32,34,36,38,40,42,44,46,48])),(4,.inl ((0,21,1),none)),(5,.inl ((0,30,1),none)),(6,.inl ((0,1,1),none))],[],[]),(1004,[(-45)]),0),
  (85,([(0,.inr (.inl [53])),(1,.inl ((0,12,1),none)),(2,.inl ((1,1,0),none)),(3,.inr (.inl [22,24,26,28,30,32,34,36,38,40,42,44,46,48])),(4,.inl ((0,21,1),none)),(5,.inl ((0,30,1),none)),(6,.inl ((0,1,1),none))],[],[]),(991,[(-45)]),0)]
set_option maxRecDepth 100000 in
theorem q369_ok : rf_chkB q369_P q369_U wLay q369_M ddX4_tallyEntry [(30,[0]),(49,[1])] [.inl 4] [0,10,62,85] 600 q369_N = true := by decide +kernel
/-- NearSpell.Laid.isOfOthers -/
def q370_M : rfM := ((⟨"NearSpell$Laid", "isOfOthers", "(III)Z"⟩, prog_6_method_11_code, 5, (some .boolean)), (1,22), ([.inr (.inl [53]),.inl (((-2147483648),2147483647,1),none),.inl ((0,13,1),none),.inl ((0,13,1),none)],[]), [], [(some (.inl ((1,1,0),none)),[(3,1,13)],[((12,34),(1,14,1),none)]),(some (.inl ((0,0,0),none)),[],[])])
def q370_P : rfP := (flX4,csX4,lcX4,spX4,[q361_M,q65_M],[],[(65,1,8),(85,0,3)],[])
def q370_U : rfU := []
set_option maxHeartbeats 4000000 in
def q370_N : List rfB := [(0,([(0,.inr (.inl [53])),(1,.inl (((-2147483648),2147483647,1),none)),(2,.inl ((0,13,1),none)),(3,.inl ((0,13,1),none))],[],[]),(314,[0]),0),
  (3,([(0,.inr (.inl [53])),(1,.inl (((-2147483648),2147483647,1),none)),(2,.inl ((0,13,1),none)),(3,.inl ((0,13,1),none)),(4,.inl ((0,13,1),none))],[],[]),(310,[(-22)]),0),
  (43,([(0,.inr (.inl [53])),(1,.inl (((-2147483648),2147483647,1),none)),(2,.inl ((0,13,1),none)),(3,.inl ((1,13,1),none)),(4,.inl ((0,12,1),none))],[],[]),(291,[(-22)]),0)]
set_option maxRecDepth 100000 in
theorem q370_ok : rf_chkB q370_P q370_U wLay q370_M ddX4_isOfOthers [(21,[1]),(35,[0])] [.inl 4] [0,3,43] 600 q370_N = true := by decide +kernel
/-- NearSpell.Laid.tallyEntry -/
def q371_M : rfM := ((⟨"NearSpell$Laid", "tallyEntry", "(IZ)V"⟩, prog_6_method_13_code, 7, none), (4,94), ([.inr (.inl [53]),.inl ((0,13,1),none),.inl ((1,1,0),none)],[]), [(4,0),(5,13),(52,0)], [(none,[],[])])
def q371_P : rfP := (flX4,csX4,lcX4,spX4,[q161_M,q370_M],[],[(81,1,4),(92,0,1)],[])
def q371_U : rfU := []
set_option maxHeartbeats 4000000 in
def q371_N : List rfB := [(0,([(0,.inr (.inl [53])),(1,.inl ((0,13,1),none)),(2,.inl ((1,1,0),none))],[],[]),(1042,[0]),0),
  (10,([(0,.inr (.inl [53])),(1,.inl ((0,13,1),none)),(2,.inl ((1,1,0),none)),(3,.inr (.inl [22,24,26,28,30,32,34,36,38,40,42,44,46,48])),(4,.inl ((0,22,1),none))],[],[]),(1033,[(-45)]),0),
  (62,([(0,.inr (.inl [53])),(1,.inl ((0,13,1),none)),(2,.inl ((1,1,0),none)),(3,.inr (.inl [22,24,26,28,30,32,34,36,38,40,42,44,46,48])),(4,.inl ((0,21,1),none)),(5,.inl ((0,30,1),none)),(6,.inl ((0,1,1),none))],[],[]),(1004,[(-45)]),0),
  (85,([(0,.inr (.inl [53])),(1,.inl ((0,13,1),none)),(2,.inl ((1,1,0),none)),(3,.inr (.inl [22,24,26,28,30,32,34,36,38,40,42,44,46,48])),(4,.inl ((0,21,1),none)),(5,.inl ((0,30,1),none)),(6,.inl ((0,1,1),none))],[],[]),(991,[(-45)]),0)]
set_option maxRecDepth 100000 in
theorem q371_ok : rf_chkB q371_P q371_U wLay q371_M ddX4_tallyEntry [(30,[0]),(49,[1])] [.inl 4] [0,10,62,85] 600 q371_N = true := by decide +kernel
/-- NearSpell.Laid.tally -/
def q372_M : rfM := ((⟨"NearSpell$Laid", "tally", "(Z)V"⟩, prog_6_method_12_code, 3, none), (5,120), ([.inr (.inl [53]),.inl ((1,1,0),none)],[]), [(4,0),(5,13),(21,0),(22,2),(22,3),(22,4),(22,5),(23,0),(24,2),(24,3),(24,4),(24,5),(25,0),(26,2),(26,3),(26,4),(26,5),(27,0),(28,2),(28,3),(28,4),(28,5),(29,0),(30,2),(30,3),(30,4),(30,5),(31,0),(32,2),(32,3),(32,4),(32,5),(33,0),(34,2),(34,3),(34,4),(34,5),(35,0),(36,2),(36,3),(36,4),(36,5),(37,0),(38,2),(38,3),(38,4),(38,5),(39,0),(40,2),(40,3),(40,4),(40,5),(41,0),(42,2),(42,3),(42,4),(42,5),(43,0),(44,2),(44,3),(44,4),(44,5),(45,0),(46,2),(46,3),(46,4),(46,5),(47,0),(48,2),(48,3),(48,4),(48,5),(52,0)], [(none,[],[])])
def q372_P : rfP := (flX4,csX4,lcX4,spX4,[q343_M,q69_M,q67_M,q371_M],[],[(57,1,8),(65,2,8),(72,0,4),(88,3,4)],[])
def q372_U : rfU := []
set_option maxHeartbeats 4000000 in
def q372_N : List rfB := [(0,([(0,.inr (.inl [53])),(1,.inl ((1,1,0),none))],[],[]),(628,[0]),0),
  (6,([(0,.inr (.inl [53])),(1,.inl ((1,1,0),none)),(2,.inl ((0,31,1),none))],[],[]),(622,[(-11)]),0),
  (27,([(0,.inr (.inl [53])),(1,.inl ((1,1,0),none)),(2,.inl ((0,14,1),none))],[],[]),(268,[(-18)]),0),
  (55,([(0,.inr (.inl [53])),(1,.inl ((1,1,0),none)),(2,.inl ((0,13,1),none))],[],[]),(253,[(-18)]),0)]
set_option maxRecDepth 100000 in
theorem q372_ok : rf_chkB q372_P q372_U wLay q372_M ddX4_tally [(1,[0]),(32,[1]),(43,[2]),(52,[3])] [.inl 2] [0,6,27,55] 600 q372_N = true := by decide +kernel
/-- NearSpell.Laid.countClashes -/
def q373_M : rfM := ((⟨"NearSpell$Laid", "countClashes", "()I"⟩, prog_6_method_8_code, 3, (some .int)), (6,142), ([.inr (.inl [53])],[]), [(4,0),(5,13),(21,0),(22,2),(22,3),(22,4),(22,5),(23,0),(24,2),(24,3),(24,4),(24,5),(25,0),(26,2),(26,3),(26,4),(26,5),(27,0),(28,2),(28,3),(28,4),(28,5),(29,0),(30,2),(30,3),(30,4),(30,5),(31,0),(32,2),(32,3),(32,4),(32,5),(33,0),(34,2),(34,3),(34,4),(34,5),(35,0),(36,2),(36,3),(36,4),(36,5),(37,0),(38,2),(38,3),(38,4),(38,5),(39,0),(40,2),(40,3),(40,4),(40,5),(41,0),(42,2),(42,3),(42,4),(42,5),(43,0),(44,2),(44,3),(44,4),(44,5),(45,0),(46,2),(46,3),(46,4),(46,5),(47,0),(48,2),(48,3),(48,4),(48,5),(52,0)], [(some (.inl (((-2147483648),2147483647,1),none)),[],[])])
def ddX4_countClashes : List (Nat × Instr × Nat) := [(0,.aload_n 0,1),(1,.iconst 1,1),(2,.invokevirtual 61,3),(5,.iconst 0,1),(6,.istore_n 1,1),(7,.iconst 0,1),(8,.istore_n 2,1),(9,.iload_n 2,1),(10,.bipush 31,2),(12,.if_icmp .ge 29,3),(15,.iload_n 1,1),(16,.aload_n 0,1),(17,.getfield 30,3),(20,.iload_n 2,1),(21,.iaload,1),(22,.aload_n 0,1),(23,.getfield 30,3),(26,.iload_n 2,1),(27,.iaload,1),(28,.iconst 1,1),(29,.isub,1),(30,.imul,1),(31,.iconst 2,1),(32,.idiv,1),(33,.iadd,1),(34,.istore_n 1,1),(35,.iinc 2 1,3),(38,.goto (-29),3),(41,.iload_n 1,1),(42,.ireturn,1)]
def q373_P : rfP := (flX4,csX4,lcX4,spX4,[q372_M],[],[(61,0,4)],[])
def q373_U : rfU := []
set_option maxHeartbeats 4000000 in
def q373_N : List rfB := [(0,([(0,.inr (.inl [53]))],[],[]),(712,[0]),0),
  (9,([(0,.inr (.inl [53])),(1,.inl (((-2147483648),2147483647,1),none)),(2,.inl ((0,31,1),none))],[],[]),(703,[(-22)]),0)]
set_option maxRecDepth 100000 in
theorem q373_ok : rf_chkB q373_P q373_U wLay q373_M ddX4_countClashes [(2,[0])] [.inl 2] [0,9] 600 q373_N = true := by decide +kernel
/-- NearSpell.clashes -/
def q374_M : rfM := ((⟨"NearSpell", "clashes", "()I"⟩, prog_1_method_36_code, 1, (some .int)), (7,164), ([.inr (.inl [70])],[]), [(4,0),(5,13),(21,0),(22,2),(22,3),(22,4),(22,5),(23,0),(24,2),(24,3),(24,4),(24,5),(25,0),(26,2),(26,3),(26,4),(26,5),(27,0),(28,2),(28,3),(28,4),(28,5),(29,0),(30,2),(30,3),(30,4),(30,5),(31,0),(32,2),(32,3),(32,4),(32,5),(33,0),(34,2),(34,3),(34,4),(34,5),(35,0),(36,2),(36,3),(36,4),(36,5),(37,0),(38,2),(38,3),(38,4),(38,5),(39,0),(40,2),(40,3),(40,4),(40,5),(41,0),(42,2),(42,3),(42,4),(42,5),(43,0),(44,2),(44,3),(44,4),(44,5),(45,0),(46,2),(46,3),(46,4),(46,5),(47,0),(48,2),(48,3),(48,4),(48,5),(52,0)], [(some (.inl (((-2147483648),2147483647,1),none)),[],[])])
def ddX11_clashes : List (Nat × Instr × Nat) := [(0,.aload_n 0,1),(1,.getfield 58,3),(4,.invokevirtual 309,3),(7,.ireturn,1)]
def q374_P : rfP := (flX11,csX11,lcX11,spX11,[q373_M],[],[(309,0,4)],[])
def q374_U : rfU := []
set_option maxHeartbeats 4000000 in
def q374_N : List rfB := [(0,([(0,.inr (.inl [70]))],[],[]),(3,[]),0)]
set_option maxRecDepth 100000 in
theorem q374_ok : rf_chkB q374_P q374_U wLay q374_M ddX11_clashes [(4,[0])] [] [0] 600 q374_N = true := by decide +kernel
/-- NearSpell.State.isEntry -/
def q375_M : rfM := ((⟨"NearSpell$State", "isEntry", "(I)Z"⟩, prog_10_method_6_code, 2, (some .boolean)), (0,0), ([.inr (.inl [13]),.inl ((1,1,0),none)],[]), [], [(some (.inl ((1,1,0),none)),[],[((12,34),(2,14,1),none)]),(some (.inl ((0,0,0),none)),[],[])])
def q375_P : rfP := (flX8,csX8,lcX8,spX8,[],[],[],[])
def q375_U : rfU := []
set_option maxHeartbeats 4000000 in
def q375_N : List rfB := [(0,([(0,.inr (.inl [13])),(1,.inl ((1,1,0),none))],[],[]),(20,[]),0),
  (32,([(0,.inr (.inl [13])),(1,.inl ((1,1,0),none))],[],[]),(1,[]),0)]
set_option maxRecDepth 100000 in
theorem q375_ok : rf_chkB q375_P q375_U wLay q375_M ddX8_isEntry [] [] [0,32] 600 q375_N = true := by decide +kernel
/-- NearSpell.State.isEntry -/
def q376_M : rfM := ((⟨"NearSpell$State", "isEntry", "(I)Z"⟩, prog_10_method_6_code, 2, (some .boolean)), (0,0), ([.inr (.inl [13]),.inl ((1,2,1),none)],[]), [], [(some (.inl ((1,1,0),none)),[],[((12,34),(2,14,1),none)]),(some (.inl ((0,0,0),none)),[],[])])
def q376_P : rfP := (flX8,csX8,lcX8,spX8,[],[],[],[])
def q376_U : rfU := []
set_option maxHeartbeats 4000000 in
def q376_N : List rfB := [(0,([(0,.inr (.inl [13])),(1,.inl ((1,2,1),none))],[],[]),(20,[]),0),
  (32,([(0,.inr (.inl [13])),(1,.inl ((1,2,1),none))],[],[]),(1,[]),0)]
set_option maxRecDepth 100000 in
theorem q376_ok : rf_chkB q376_P q376_U wLay q376_M ddX8_isEntry [] [] [0,32] 600 q376_N = true := by decide +kernel
/-- NearSpell.State.isEntry -/
def q377_M : rfM := ((⟨"NearSpell$State", "isEntry", "(I)Z"⟩, prog_10_method_6_code, 2, (some .boolean)), (0,0), ([.inr (.inl [13]),.inl ((1,3,1),none)],[]), [], [(some (.inl ((1,1,0),none)),[],[((12,34),(2,14,1),none)]),(some (.inl ((0,0,0),none)),[],[])])
def q377_P : rfP := (flX8,csX8,lcX8,spX8,[],[],[],[])
def q377_U : rfU := []
set_option maxHeartbeats 4000000 in
def q377_N : List rfB := [(0,([(0,.inr (.inl [13])),(1,.inl ((1,3,1),none))],[],[]),(20,[]),0),
  (32,([(0,.inr (.inl [13])),(1,.inl ((1,3,1),none))],[],[]),(1,[]),0)]
set_option maxRecDepth 100000 in
theorem q377_ok : rf_chkB q377_P q377_U wLay q377_M ddX8_isEntry [] [] [0,32] 600 q377_N = true := by decide +kernel
/-- NearSpell.State.isEntry -/
def q378_M : rfM := ((⟨"NearSpell$State", "isEntry", "(I)Z"⟩, prog_10_method_6_code, 2, (some .boolean)), (0,0), ([.inr (.inl [13]),.inl ((1,12,1),none)],[]), [], [(some (.inl ((1,1,0),none)),[],[((12,34),(2,14,1),none)]),(some (.inl ((0,0,0),none)),[],[])])
def q378_P : rfP := (flX8,csX8,lcX8,spX8,[],[],[],[])
def q378_U : rfU := []
set_option maxHeartbeats 4000000 in
def q378_N : List rfB := [(0,([(0,.inr (.inl [13])),(1,.inl ((1,12,1),none))],[],[]),(20,[]),0),
  (32,([(0,.inr (.inl [13])),(1,.inl ((1,12,1),none))],[],[]),(1,[]),0)]
set_option maxRecDepth 100000 in
theorem q378_ok : rf_chkB q378_P q378_U wLay q378_M ddX8_isEntry [] [] [0,32] 600 q378_N = true := by decide +kernel
/-- NearSpell.State.isEntry -/
def q379_M : rfM := ((⟨"NearSpell$State", "isEntry", "(I)Z"⟩, prog_10_method_6_code, 2, (some .boolean)), (0,0), ([.inr (.inl [13]),.inl ((1,13,1),none)],[]), [], [(some (.inl ((1,1,0),none)),[],[((12,34),(2,14,1),none)]),(some (.inl ((0,0,0),none)),[],[])])
def q379_P : rfP := (flX8,csX8,lcX8,spX8,[],[],[],[])
def q379_U : rfU := []
set_option maxHeartbeats 4000000 in
def q379_N : List rfB := [(0,([(0,.inr (.inl [13])),(1,.inl ((1,13,1),none))],[],[]),(20,[]),0),
  (32,([(0,.inr (.inl [13])),(1,.inl ((1,13,1),none))],[],[]),(1,[]),0)]
set_option maxRecDepth 100000 in
theorem q379_ok : rf_chkB q379_P q379_U wLay q379_M ddX8_isEntry [] [] [0,32] 600 q379_N = true := by decide +kernel
/-- NearSpell.Laid.isOfOthers -/
def q380_M : rfM := ((⟨"NearSpell$Laid", "isOfOthers", "(III)Z"⟩, prog_6_method_11_code, 5, (some .boolean)), (1,22), ([.inr (.inl [53]),.inl (((-2147483648),2147483647,1),none),.inl ((0,0,0),none),.inl ((0,14,1),none)],[]), [], [(some (.inl ((1,1,0),none)),[(3,1,14)],[((12,34),(2,14,1),none)]),(some (.inl ((0,0,0),none)),[],[])])
def q380_P : rfP := (flX4,csX4,lcX4,spX4,[q361_M,q379_M],[],[(65,1,8),(85,0,3)],[])
def q380_U : rfU := []
set_option maxHeartbeats 4000000 in
def q380_N : List rfB := [(0,([(0,.inr (.inl [53])),(1,.inl (((-2147483648),2147483647,1),none)),(2,.inl ((0,0,0),none)),(3,.inl ((0,14,1),none))],[],[]),(336,[0]),0),
  (3,([(0,.inr (.inl [53])),(1,.inl (((-2147483648),2147483647,1),none)),(2,.inl ((0,0,0),none)),(3,.inl ((0,14,1),none)),(4,.inl ((0,14,1),none))],[],[]),(332,[(-22)]),0),
  (43,([(0,.inr (.inl [53])),(1,.inl (((-2147483648),2147483647,1),none)),(2,.inl ((0,0,0),none)),(3,.inl ((1,14,1),none)),(4,.inl ((0,13,1),none))],[],[]),(313,[(-22)]),0)]
set_option maxRecDepth 100000 in
theorem q380_ok : rf_chkB q380_P q380_U wLay q380_M ddX4_isOfOthers [(21,[1]),(35,[0])] [.inl 4] [0,3,43] 600 q380_N = true := by decide +kernel
/-- NearSpell.Laid.countOwn -/
def q381_M : rfM := ((⟨"NearSpell$Laid", "countOwn", "(I)I"⟩, prog_6_method_10_code, 5, (some .int)), (2,46), ([.inr (.inl [53]),.inl ((0,0,0),none)],[]), [], [(some (.inl (((-2147483648),2147483647,1),none)),[],[])])
def ddX4_countOwn : List (Nat × Instr × Nat) := [(0,.aload_n 0,1),(1,.getfield 21,3),(4,.iload_n 1,1),(5,.aaload,1),(6,.astore_n 2,1),(7,.iconst 0,1),(8,.istore_n 3,1),(9,.iconst 0,1),(10,.istore 4,2),(12,.iload 4,2),(14,.aload_n 2,1),(15,.getfield 69,3),(18,.if_icmp .ge 34,3),(21,.aload_n 0,1),(22,.aload_n 2,1),(23,.getfield 78,3),(26,.iload 4,2),(28,.iaload,1),(29,.iload_n 1,1),(30,.aload_n 0,1),(31,.getfield 15,3),(34,.invokevirtual 57,3),(37,.invokevirtual 81,3),(40,.ifCond .ne 6,3),(43,.iinc 3 1,3),(46,.iinc 4 1,3),(49,.goto (-37),3),(52,.iload_n 3,1),(53,.ireturn,1)]
def q381_P : rfP := (flX4,csX4,lcX4,spX4,[q69_M,q380_M],[],[(57,0,8),(81,1,4)],[])
def q381_U : rfU := []
set_option maxHeartbeats 4000000 in
def q381_N : List rfB := [(0,([(0,.inr (.inl [53])),(1,.inl ((0,0,0),none))],[],[]),(470,[0]),0),
  (12,([(0,.inr (.inl [53])),(1,.inl ((0,0,0),none)),(2,.inr (.inl [22,24,26,28,30,32,34,36,38,40,42,44,46,48])),(3,.inl (((-2147483648),2147483647,1),none)),(4,.inl ((0,22,1),none))],[],[]),(459,[(-20)]),0),
  (46,([(0,.inr (.inl [53])),(1,.inl ((0,0,0),none)),(2,.inr (.inl [22,24,26,28,30,32,34,36,38,40,42,44,46,48])),(3,.inl (((-2147483648),2147483647,1),none)),(4,.inl ((0,21,1),none))],[],[]),(442,[(-20)]),0)]
set_option maxRecDepth 100000 in
theorem q381_ok : rf_chkB q381_P q381_U wLay q381_M ddX4_countOwn [(34,[0]),(37,[1])] [.inl 4] [0,12,46] 600 q381_N = true := by decide +kernel
/-- NearSpell.Laid.isOfOthers -/
def q382_M : rfM := ((⟨"NearSpell$Laid", "isOfOthers", "(III)Z"⟩, prog_6_method_11_code, 5, (some .boolean)), (1,22), ([.inr (.inl [53]),.inl (((-2147483648),2147483647,1),none),.inl ((0,1,1),none),.inl ((0,14,1),none)],[]), [], [(some (.inl ((1,1,0),none)),[(3,1,14)],[((12,34),(1,14,1),none)]),(some (.inl ((0,0,0),none)),[],[])])
def q382_P : rfP := (flX4,csX4,lcX4,spX4,[q361_M,q67_M],[],[(65,1,8),(85,0,3)],[])
def q382_U : rfU := []
set_option maxHeartbeats 4000000 in
def q382_N : List rfB := [(0,([(0,.inr (.inl [53])),(1,.inl (((-2147483648),2147483647,1),none)),(2,.inl ((0,1,1),none)),(3,.inl ((0,14,1),none))],[],[]),(336,[0]),0),
  (3,([(0,.inr (.inl [53])),(1,.inl (((-2147483648),2147483647,1),none)),(2,.inl ((0,1,1),none)),(3,.inl ((0,14,1),none)),(4,.inl ((0,14,1),none))],[],[]),(332,[(-22)]),0),
  (43,([(0,.inr (.inl [53])),(1,.inl (((-2147483648),2147483647,1),none)),(2,.inl ((0,1,1),none)),(3,.inl ((1,14,1),none)),(4,.inl ((0,13,1),none))],[],[]),(313,[(-22)]),0)]
set_option maxRecDepth 100000 in
theorem q382_ok : rf_chkB q382_P q382_U wLay q382_M ddX4_isOfOthers [(21,[1]),(35,[0])] [.inl 4] [0,3,43] 600 q382_N = true := by decide +kernel
/-- NearSpell.Laid.countOwn -/
def q383_M : rfM := ((⟨"NearSpell$Laid", "countOwn", "(I)I"⟩, prog_6_method_10_code, 5, (some .int)), (2,46), ([.inr (.inl [53]),.inl ((0,1,1),none)],[]), [], [(some (.inl (((-2147483648),2147483647,1),none)),[],[])])
def q383_P : rfP := (flX4,csX4,lcX4,spX4,[q69_M,q382_M],[],[(57,0,8),(81,1,4)],[])
def q383_U : rfU := []
set_option maxHeartbeats 4000000 in
def q383_N : List rfB := [(0,([(0,.inr (.inl [53])),(1,.inl ((0,1,1),none))],[],[]),(470,[0]),0),
  (12,([(0,.inr (.inl [53])),(1,.inl ((0,1,1),none)),(2,.inr (.inl [22,24,26,28,30,32,34,36,38,40,42,44,46,48])),(3,.inl (((-2147483648),2147483647,1),none)),(4,.inl ((0,22,1),none))],[],[]),(459,[(-20)]),0),
  (46,([(0,.inr (.inl [53])),(1,.inl ((0,1,1),none)),(2,.inr (.inl [22,24,26,28,30,32,34,36,38,40,42,44,46,48])),(3,.inl (((-2147483648),2147483647,1),none)),(4,.inl ((0,21,1),none))],[],[]),(442,[(-20)]),0)]
set_option maxRecDepth 100000 in
theorem q383_ok : rf_chkB q383_P q383_U wLay q383_M ddX4_countOwn [(34,[0]),(37,[1])] [.inl 4] [0,12,46] 600 q383_N = true := by decide +kernel
/-- NearSpell.Laid.isOfOthers -/
def q384_M : rfM := ((⟨"NearSpell$Laid", "isOfOthers", "(III)Z"⟩, prog_6_method_11_code, 5, (some .boolean)), (1,22), ([.inr (.inl [53]),.inl (((-2147483648),2147483647,1),none),.inl ((0,2,1),none),.inl ((0,14,1),none)],[]), [], [(some (.inl ((1,1,0),none)),[(3,1,14)],[((12,34),(1,14,1),none)]),(some (.inl ((0,0,0),none)),[],[])])
def q384_P : rfP := (flX4,csX4,lcX4,spX4,[q361_M,q67_M],[],[(65,1,8),(85,0,3)],[])
def q384_U : rfU := []
set_option maxHeartbeats 4000000 in
def q384_N : List rfB := [(0,([(0,.inr (.inl [53])),(1,.inl (((-2147483648),2147483647,1),none)),(2,.inl ((0,2,1),none)),(3,.inl ((0,14,1),none))],[],[]),(336,[0]),0),
  (3,([(0,.inr (.inl [53])),(1,.inl (((-2147483648),2147483647,1),none)),(2,.inl ((0,2,1),none)),(3,.inl ((0,14,1),none)),(4,.inl ((0,14,1),none))],[],[]),(332,[(-22)]),0),
  (43,([(0,.inr (.inl [53])),(1,.inl (((-2147483648),2147483647,1),none)),(2,.inl ((0,2,1),none)),(3,.inl ((1,14,1),none)),(4,.inl ((0,13,1),none))],[],[]),(313,[(-22)]),0)]
set_option maxRecDepth 100000 in
theorem q384_ok : rf_chkB q384_P q384_U wLay q384_M ddX4_isOfOthers [(21,[1]),(35,[0])] [.inl 4] [0,3,43] 600 q384_N = true := by decide +kernel
/-- NearSpell.Laid.countOwn -/
def q385_M : rfM := ((⟨"NearSpell$Laid", "countOwn", "(I)I"⟩, prog_6_method_10_code, 5, (some .int)), (2,46), ([.inr (.inl [53]),.inl ((0,2,1),none)],[]), [], [(some (.inl (((-2147483648),2147483647,1),none)),[],[])])
def q385_P : rfP := (flX4,csX4,lcX4,spX4,[q69_M,q384_M],[],[(57,0,8),(81,1,4)],[])
def q385_U : rfU := []
set_option maxHeartbeats 4000000 in
def q385_N : List rfB := [(0,([(0,.inr (.inl [53])),(1,.inl ((0,2,1),none))],[],[]),(470,[0]),0),
  (12,([(0,.inr (.inl [53])),(1,.inl ((0,2,1),none)),(2,.inr (.inl [22,24,26,28,30,32,34,36,38,40,42,44,46,48])),(3,.inl (((-2147483648),2147483647,1),none)),(4,.inl ((0,22,1),none))],[],[]),(459,[(-20)]),0),
  (46,([(0,.inr (.inl [53])),(1,.inl ((0,2,1),none)),(2,.inr (.inl [22,24,26,28,30,32,34,36,38,40,42,44,46,48])),(3,.inl (((-2147483648),2147483647,1),none)),(4,.inl ((0,21,1),none))],[],[]),(442,[(-20)]),0)]
set_option maxRecDepth 100000 in
theorem q385_ok : rf_chkB q385_P q385_U wLay q385_M ddX4_countOwn [(34,[0]),(37,[1])] [.inl 4] [0,12,46] 600 q385_N = true := by decide +kernel
/-- NearSpell.Laid.isOfOthers -/
def q386_M : rfM := ((⟨"NearSpell$Laid", "isOfOthers", "(III)Z"⟩, prog_6_method_11_code, 5, (some .boolean)), (1,22), ([.inr (.inl [53]),.inl (((-2147483648),2147483647,1),none),.inl ((0,3,1),none),.inl ((0,14,1),none)],[]), [], [(some (.inl ((1,1,0),none)),[(3,1,14)],[((12,34),(1,14,1),none)]),(some (.inl ((0,0,0),none)),[],[])])
def q386_P : rfP := (flX4,csX4,lcX4,spX4,[q361_M,q67_M],[],[(65,1,8),(85,0,3)],[])
def q386_U : rfU := []
set_option maxHeartbeats 4000000 in
def q386_N : List rfB := [(0,([(0,.inr (.inl [53])),(1,.inl (((-2147483648),2147483647,1),none)),(2,.inl ((0,3,1),none)),(3,.inl ((0,14,1),none))],[],[]),(336,[0]),0),
  (3,([(0,.inr (.inl [53])),(1,.inl (((-2147483648),2147483647,1),none)),(2,.inl ((0,3,1),none)),(3,.inl ((0,14,1),none)),(4,.inl ((0,14,1),none))],[],[]),(332,[(-22)]),0),
  (43,([(0,.inr (.inl [53])),(1,.inl (((-2147483648),2147483647,1),none)),(2,.inl ((0,3,1),none)),(3,.inl ((1,14,1),none)),(4,.inl ((0,13,1),none))],[],[]),(313,[(-22)]),0)]
set_option maxRecDepth 100000 in
theorem q386_ok : rf_chkB q386_P q386_U wLay q386_M ddX4_isOfOthers [(21,[1]),(35,[0])] [.inl 4] [0,3,43] 600 q386_N = true := by decide +kernel
/-- NearSpell.Laid.countOwn -/
def q387_M : rfM := ((⟨"NearSpell$Laid", "countOwn", "(I)I"⟩, prog_6_method_10_code, 5, (some .int)), (2,46), ([.inr (.inl [53]),.inl ((0,3,1),none)],[]), [], [(some (.inl (((-2147483648),2147483647,1),none)),[],[])])
def q387_P : rfP := (flX4,csX4,lcX4,spX4,[q69_M,q386_M],[],[(57,0,8),(81,1,4)],[])
def q387_U : rfU := []
set_option maxHeartbeats 4000000 in
def q387_N : List rfB := [(0,([(0,.inr (.inl [53])),(1,.inl ((0,3,1),none))],[],[]),(470,[0]),0),
  (12,([(0,.inr (.inl [53])),(1,.inl ((0,3,1),none)),(2,.inr (.inl [22,24,26,28,30,32,34,36,38,40,42,44,46,48])),(3,.inl (((-2147483648),2147483647,1),none)),(4,.inl ((0,22,1),none))],[],[]),(459,[(-20)]),0),
  (46,([(0,.inr (.inl [53])),(1,.inl ((0,3,1),none)),(2,.inr (.inl [22,24,26,28,30,32,34,36,38,40,42,44,46,48])),(3,.inl (((-2147483648),2147483647,1),none)),(4,.inl ((0,21,1),none))],[],[]),(442,[(-20)]),0)]
set_option maxRecDepth 100000 in
theorem q387_ok : rf_chkB q387_P q387_U wLay q387_M ddX4_countOwn [(34,[0]),(37,[1])] [.inl 4] [0,12,46] 600 q387_N = true := by decide +kernel
/-- NearSpell.Laid.isOfOthers -/
def q388_M : rfM := ((⟨"NearSpell$Laid", "isOfOthers", "(III)Z"⟩, prog_6_method_11_code, 5, (some .boolean)), (1,22), ([.inr (.inl [53]),.inl (((-2147483648),2147483647,1),none),.inl ((0,12,1),none),.inl ((0,14,1),none)],[]), [], [(some (.inl ((1,1,0),none)),[(3,1,14)],[((12,34),(1,14,1),none)]),(some (.inl ((0,0,0),none)),[],[])])
def q388_P : rfP := (flX4,csX4,lcX4,spX4,[q361_M,q67_M],[],[(65,1,8),(85,0,3)],[])
def q388_U : rfU := []
set_option maxHeartbeats 4000000 in
def q388_N : List rfB := [(0,([(0,.inr (.inl [53])),(1,.inl (((-2147483648),2147483647,1),none)),(2,.inl ((0,12,1),none)),(3,.inl ((0,14,1),none))],[],[]),(336,[0]),0),
  (3,([(0,.inr (.inl [53])),(1,.inl (((-2147483648),2147483647,1),none)),(2,.inl ((0,12,1),none)),(3,.inl ((0,14,1),none)),(4,.inl ((0,14,1),none))],[],[]),(332,[(-22)]),0),
  (43,([(0,.inr (.inl [53])),(1,.inl (((-2147483648),2147483647,1),none)),(2,.inl ((0,12,1),none)),(3,.inl ((1,14,1),none)),(4,.inl ((0,13,1),none))],[],[]),(313,[(-22)]),0)]
set_option maxRecDepth 100000 in
theorem q388_ok : rf_chkB q388_P q388_U wLay q388_M ddX4_isOfOthers [(21,[1]),(35,[0])] [.inl 4] [0,3,43] 600 q388_N = true := by decide +kernel
/-- NearSpell.Laid.countOwn -/
def q389_M : rfM := ((⟨"NearSpell$Laid", "countOwn", "(I)I"⟩, prog_6_method_10_code, 5, (some .int)), (2,46), ([.inr (.inl [53]),.inl ((0,12,1),none)],[]), [], [(some (.inl (((-2147483648),2147483647,1),none)),[],[])])
def q389_P : rfP := (flX4,csX4,lcX4,spX4,[q69_M,q388_M],[],[(57,0,8),(81,1,4)],[])
def q389_U : rfU := []
set_option maxHeartbeats 4000000 in
def q389_N : List rfB := [(0,([(0,.inr (.inl [53])),(1,.inl ((0,12,1),none))],[],[]),(470,[0]),0),
  (12,([(0,.inr (.inl [53])),(1,.inl ((0,12,1),none)),(2,.inr (.inl [22,24,26,28,30,32,34,36,38,40,42,44,46,48])),(3,.inl (((-2147483648),2147483647,1),none)),(4,.inl ((0,22,1),none))],[],[]),(459,[(-20)]),0),
  (46,([(0,.inr (.inl [53])),(1,.inl ((0,12,1),none)),(2,.inr (.inl [22,24,26,28,30,32,34,36,38,40,42,44,46,48])),(3,.inl (((-2147483648),2147483647,1),none)),(4,.inl ((0,21,1),none))],[],[]),(442,[(-20)]),0)]
set_option maxRecDepth 100000 in
theorem q389_ok : rf_chkB q389_P q389_U wLay q389_M ddX4_countOwn [(34,[0]),(37,[1])] [.inl 4] [0,12,46] 600 q389_N = true := by decide +kernel
/-- NearSpell.Laid.isOfOthers -/
def q390_M : rfM := ((⟨"NearSpell$Laid", "isOfOthers", "(III)Z"⟩, prog_6_method_11_code, 5, (some .boolean)), (1,22), ([.inr (.inl [53]),.inl (((-2147483648),2147483647,1),none),.inl ((0,13,1),none),.inl ((0,14,1),none)],[]), [], [(some (.inl ((1,1,0),none)),[(3,1,14)],[((12,34),(1,14,1),none)]),(some (.inl ((0,0,0),none)),[],[])])
def q390_P : rfP := (flX4,csX4,lcX4,spX4,[q361_M,q67_M],[],[(65,1,8),(85,0,3)],[])
def q390_U : rfU := []
set_option maxHeartbeats 4000000 in
def q390_N : List rfB := [(0,([(0,.inr (.inl [53])),(1,.inl (((-2147483648),2147483647,1),none)),(2,.inl ((0,13,1),none)),(3,.inl ((0,14,1),none))],[],[]),(336,[0]),0),
  (3,([(0,.inr (.inl [53])),(1,.inl (((-2147483648),2147483647,1),none)),(2,.inl ((0,13,1),none)),(3,.inl ((0,14,1),none)),(4,.inl ((0,14,1),none))],[],[]),(332,[(-22)]),0),
  (43,([(0,.inr (.inl [53])),(1,.inl (((-2147483648),2147483647,1),none)),(2,.inl ((0,13,1),none)),(3,.inl ((1,14,1),none)),(4,.inl ((0,13,1),none))],[],[]),(313,[(-22)]),0)]
set_option maxRecDepth 100000 in
theorem q390_ok : rf_chkB q390_P q390_U wLay q390_M ddX4_isOfOthers [(21,[1]),(35,[0])] [.inl 4] [0,3,43] 600 q390_N = true := by decide +kernel
/-- NearSpell.Laid.countOwn -/
def q391_M : rfM := ((⟨"NearSpell$Laid", "countOwn", "(I)I"⟩, prog_6_method_10_code, 5, (some .int)), (2,46), ([.inr (.inl [53]),.inl ((0,13,1),none)],[]), [], [(some (.inl (((-2147483648),2147483647,1),none)),[],[])])
def q391_P : rfP := (flX4,csX4,lcX4,spX4,[q69_M,q390_M],[],[(57,0,8),(81,1,4)],[])
def q391_U : rfU := []
set_option maxHeartbeats 4000000 in
def q391_N : List rfB := [(0,([(0,.inr (.inl [53])),(1,.inl ((0,13,1),none))],[],[]),(470,[0]),0),
  (12,([(0,.inr (.inl [53])),(1,.inl ((0,13,1),none)),(2,.inr (.inl [22,24,26,28,30,32,34,36,38,40,42,44,46,48])),(3,.inl (((-2147483648),2147483647,1),none)),(4,.inl ((0,22,1),none))],[],[]),(459,[(-20)]),0),
  (46,([(0,.inr (.inl [53])),(1,.inl ((0,13,1),none)),(2,.inr (.inl [22,24,26,28,30,32,34,36,38,40,42,44,46,48])),(3,.inl (((-2147483648),2147483647,1),none)),(4,.inl ((0,21,1),none))],[],[]),(442,[(-20)]),0)]
set_option maxRecDepth 100000 in
theorem q391_ok : rf_chkB q391_P q391_U wLay q391_M ddX4_countOwn [(34,[0]),(37,[1])] [.inl 4] [0,12,46] 600 q391_N = true := by decide +kernel
/-- NearSpell.Laid.rarestEntry -/
def q392_M : rfM := ((⟨"NearSpell$Laid", "rarestEntry", "()I"⟩, prog_6_method_9_code, 5, (some .int)), (4,93), ([.inr (.inl [53])],[]), [(21,0),(22,2),(22,3),(22,4),(22,5),(23,0),(24,2),(24,3),(24,4),(24,5),(25,0),(26,2),(26,3),(26,4),(26,5),(27,0),(28,2),(28,3),(28,4),(28,5),(29,0),(30,2),(30,3),(30,4),(30,5),(31,0),(32,2),(32,3),(32,4),(32,5),(33,0),(34,2),(34,3),(34,4),(34,5),(35,0),(36,2),(36,3),(36,4),(36,5),(37,0),(38,2),(38,3),(38,4),(38,5),(39,0),(40,2),(40,3),(40,4),(40,5),(41,0),(42,2),(42,3),(42,4),(42,5),(43,0),(44,2),(44,3),(44,4),(44,5),(45,0),(46,2),(46,3),(46,4),(46,5),(47,0),(48,2),(48,3),(48,4),(48,5)], [(some (.inl (((-1),13,1),none)),[],[])])
def ddX4_rarestEntry : List (Nat × Instr × Nat) := [(0,.aload_n 0,1),(1,.invokevirtual 72,3),(4,.iconst (-1),1),(5,.istore_n 1,1),(6,.iconst (-1),1),(7,.istore_n 2,1),(8,.iconst 0,1),(9,.istore_n 3,1),(10,.iload_n 3,1),(11,.aload_n 0,1),(12,.getfield 15,3),(15,.invokevirtual 57,3),(18,.if_icmp .ge 42,3),(21,.aload_n 0,1),(22,.getfield 15,3),(25,.iload_n 3,1),(26,.invokevirtual 65,3),(29,.ifCond .eq 11,3),(32,.aload_n 0,1),(33,.iload_n 3,1),(34,.invokevirtual 75,3),(37,.goto 4,3),(40,.iconst (-1),1),(41,.istore 4,2),(43,.iload 4,2),(45,.iload_n 2,1),(46,.if_icmp .le 8,3),(49,.iload_n 3,1),(50,.istore_n 1,1),(51,.iload 4,2),(53,.istore_n 2,1),(54,.iinc 3 1,3),(57,.goto (-47),3),(60,.iload_n 1,1),(61,.ireturn,1)]
def q392_P : rfP := (flX4,csX4,lcX4,spX4,[q343_M,q69_M,q67_M,q391_M],[],[(57,1,8),(65,2,8),(72,0,4),(75,3,4)],[])
def q392_U : rfU := []
set_option maxHeartbeats 4000000 in
def q392_N : List rfB := [(0,([(0,.inr (.inl [53]))],[],[]),(429,[0]),0),
  (10,([(0,.inr (.inl [53])),(1,.inl (((-1),13,1),none)),(2,.inl (((-1),2147483647,1),none)),(3,.inl ((0,14,1),none))],[],[]),(419,[(-28)]),0),
  (43,([(0,.inr (.inl [53])),(1,.inl (((-1),13,1),none)),(2,.inl (((-1),2147483647,1),none)),(3,.inl ((0,13,1),none)),(4,.inl (((-2147483648),2147483647,1),none))],[],[]),(401,[(-28)]),0),
  (54,([(0,.inr (.inl [53])),(1,.inl (((-1),13,1),none)),(2,.inl (((-1),2147483647,1),none)),(3,.inl ((0,13,1),none)),(4,.inl (((-2147483648),2147483647,1),none))],[],[]),(394,[(-28)]),0)]
set_option maxRecDepth 100000 in
theorem q392_ok : rf_chkB q392_P q392_U wLay q392_M ddX4_rarestEntry [(1,[0]),(15,[1]),(26,[2]),(34,[3])] [.inl 3] [0,10,43,54] 600 q392_N = true := by decide +kernel
/-- NearSpell.rarest -/
def q393_M : rfM := ((⟨"NearSpell", "rarest", "()I"⟩, prog_1_method_37_code, 1, (some .int)), (5,117), ([.inr (.inl [70])],[]), [(21,0),(22,2),(22,3),(22,4),(22,5),(23,0),(24,2),(24,3),(24,4),(24,5),(25,0),(26,2),(26,3),(26,4),(26,5),(27,0),(28,2),(28,3),(28,4),(28,5),(29,0),(30,2),(30,3),(30,4),(30,5),(31,0),(32,2),(32,3),(32,4),(32,5),(33,0),(34,2),(34,3),(34,4),(34,5),(35,0),(36,2),(36,3),(36,4),(36,5),(37,0),(38,2),(38,3),(38,4),(38,5),(39,0),(40,2),(40,3),(40,4),(40,5),(41,0),(42,2),(42,3),(42,4),(42,5),(43,0),(44,2),(44,3),(44,4),(44,5),(45,0),(46,2),(46,3),(46,4),(46,5),(47,0),(48,2),(48,3),(48,4),(48,5)], [(some (.inl (((-1),13,1),none)),[],[])])
def ddX11_rarest : List (Nat × Instr × Nat) := [(0,.aload_n 0,1),(1,.getfield 58,3),(4,.invokevirtual 312,3),(7,.ireturn,1)]
def q393_P : rfP := (flX11,csX11,lcX11,spX11,[q392_M],[],[(312,0,4)],[])
def q393_U : rfU := []
set_option maxHeartbeats 4000000 in
def q393_N : List rfB := [(0,([(0,.inr (.inl [70]))],[],[]),(3,[]),0)]
set_option maxRecDepth 100000 in
theorem q393_ok : rf_chkB q393_P q393_U wLay q393_M ddX11_rarest [(4,[0])] [] [0] 600 q393_N = true := by decide +kernel
/-- NearSpell.law -/
def q394_M : rfM := ((⟨"NearSpell", "law", "(I)I"⟩, prog_1_method_38_code, 2, (some .int)), (4,95), ([.inr (.inl [70]),.inl (((-2147483648),2147483647,1),none)],[]), [(49,0),(50,2),(50,3),(50,4),(50,5)], [(some (.inl (((-2147483648),2147483647,1),none)),[],[])])
def ddX11_law : List (Nat × Instr × Nat) := [(0,.iload_n 1,1),(1,.ifCond .lt 19,3),(4,.iload_n 1,1),(5,.iconst 2,1),(6,.if_icmp .gt 14,3),(9,.aload_n 0,1),(10,.getfield 58,3),(13,.iload_n 1,1),(14,.invokevirtual 306,3),(17,.goto 4,3),(20,.iconst (-1),1),(21,.ireturn,1)]
def q394_P : rfP := (flX11,csX11,lcX11,spX11,[q357_M],[],[(306,0,4)],[])
def q394_U : rfU := []
set_option maxHeartbeats 4000000 in
def q394_N : List rfB := [(0,([(0,.inr (.inl [70])),(1,.inl (((-2147483648),2147483647,1),none))],[],[]),(12,[]),0),
  (20,([(0,.inr (.inl [70])),(1,.inl (((-2147483648),2147483647,1),none))],[],[]),(1,[]),0)]
set_option maxRecDepth 100000 in
theorem q394_ok : rf_chkB q394_P q394_U wLay q394_M ddX11_law [(14,[0])] [] [0,20] 600 q394_N = true := by decide +kernel
/-- NearSpell.commonDivisor -/
def q395_M : rfM := ((⟨"NearSpell", "commonDivisor", "(II)I"⟩, prog_1_method_51_code, 6, (some .int)), (0,0), ([.inl ((100,100,0),none),.inl ((0,100,1),none)],[]), [], [(some (.inl ((1,100,1),none)),[],[])])
def ddX11_commonDivisor : List (Nat × Instr × Nat) := [(0,.iload_n 0,1),(1,.istore_n 2,1),(2,.iload_n 1,1),(3,.istore_n 3,1),(4,.iconst 0,1),(5,.istore 4,2),(7,.iload 4,2),(9,.bipush 100,2),(11,.if_icmp .ge 23,3),(14,.iload_n 3,1),(15,.ifCond .eq 19,3),(18,.iload_n 2,1),(19,.iload_n 3,1),(20,.irem,1),(21,.istore 5,2),(23,.iload_n 3,1),(24,.istore_n 2,1),(25,.iload 5,2),(27,.istore_n 3,1),(28,.iinc 4 1,3),(31,.goto (-24),3),(34,.iload_n 2,1),(35,.ireturn,1)]
def q395_P : rfP := (flX11,csX11,lcX11,spX11,[],[],[],[])
def q395_U : rfU := []
set_option maxHeartbeats 4000000 in
def q395_N : List rfB := [(0,([(0,.inl ((100,100,0),none)),(1,.inl ((0,100,1),none))],[],[]),(1623,[0]),0),
  (7,([(0,.inl ((100,100,0),none)),(1,.inl ((0,100,1),none)),(2,.inl ((1,100,1),none)),(3,.inl ((0,100,1),none)),(4,.inl ((0,100,1),none))],[],[]),(14,[16]),0),
  (34,([(0,.inl ((100,100,0),none)),(1,.inl ((0,100,1),none)),(2,.inl ((1,100,1),none)),(3,.inl ((0,100,1),none)),(4,.inl ((0,100,1),none))],[],[]),(1,[0]),0)]
set_option maxRecDepth 100000 in
theorem q395_ok : rf_chkB q395_P q395_U wLay q395_M ddX11_commonDivisor [] [.inl 3] [0,7,34] 600 q395_N = true := by decide +kernel
/-- NearSpell.odds -/
def q396_M : rfM := ((⟨"NearSpell", "odds", "(II)I"⟩, prog_1_method_39_code, 8, (some .int)), (1,25), ([.inr (.inl [70]),.inl (((-2147483648),2147483647,1),none),.inl (((-2147483648),2147483647,1),none)],[]), [], [(some (.inl (((-2147483648),2147483647,1),none)),[],[])])
def ddX11_odds : List (Nat × Instr × Nat) := [(0,.iload_n 1,1),(1,.ifCond .lt 17,3),(4,.iload_n 1,1),(5,.iconst 4,1),(6,.if_icmp .gt 12,3),(9,.iload_n 2,1),(10,.ifCond .lt 8,3),(13,.iload_n 2,1),(14,.iconst 1,1),(15,.if_icmp .le 5,3),(18,.iconst (-1),1),(19,.ireturn,1),(20,.bipush 100,2),(22,.aload_n 0,1),(23,.getfield 16,3),(26,.getfield 192,3),(29,.isub,1),(30,.istore_n 3,1),(31,.bipush 100,2),(33,.iload_n 3,1),(34,.invokestatic 315,3),(37,.istore 4,2),(39,.iload_n 2,1),(40,.ifCond .ne 7,3),(43,.iload_n 3,1),(44,.goto 5,3),(47,.bipush 100,2),(49,.istore 5,2),(51,.iload 4,2),(53,.ifCond .le 10,3),(56,.iload 5,2),(58,.iload 4,2),(60,.idiv,1),(61,.istore 5,2),(63,.iconst 1,1),(64,.istore 6,2),(66,.iconst 0,1),(67,.istore 7,2),(69,.iload 7,2),(71,.iload_n 1,1),(72,.if_icmp .ge 16,3),(75,.iload 6,2),(77,.iload 5,2),(79,.imul,1),(80,.istore 6,2),(82,.iinc 7 1,3),(85,.goto (-16),3),(88,.iload 6,2),(90,.ireturn,1)]
def q396_P : rfP := (flX11,csX11,lcX11,spX11,[q395_M],[(315,0)],[],[])
def q396_U : rfU := []
set_option maxHeartbeats 4000000 in
def q396_N : List rfB := [(0,([(0,.inr (.inl [70])),(1,.inl (((-2147483648),2147483647,1),none)),(2,.inl (((-2147483648),2147483647,1),none))],[],[]),(89,[0]),0),
  (18,([(0,.inr (.inl [70])),(1,.inl (((-2147483648),2147483647,1),none)),(2,.inl (((-2147483648),2147483647,1),none))],[],[]),(1,[0]),0),
  (49,([(0,.inr (.inl [70])),(1,.inl ((0,4,1),none)),(2,.inl ((0,1,1),none)),(3,.inl ((0,100,1),none)),(4,.inl ((1,100,1),none))],[.inl ((0,100,1),none)],[]),(64,[0]),0),
  (69,([(0,.inr (.inl [70])),(1,.inl ((0,4,1),none)),(2,.inl ((0,1,1),none)),(3,.inl ((0,100,1),none)),(4,.inl ((1,100,1),none)),(5,.inl (((-2147483648),2147483647,1),none)),(6,.inl (((-2147483648),2147483647,1),none)),(7,.inl ((0,4,1),none))],[],[]),(51,[(-10)]),0)]
set_option maxRecDepth 100000 in
theorem q396_ok : rf_chkB q396_P q396_U wLay q396_M ddX11_odds [(34,[0])] [.inl 7] [0,18,49,69] 600 q396_N = true := by decide +kernel
/-- NearSpell.lies -/
def q397_M : rfM := ((⟨"NearSpell", "lies", "(I)I"⟩, prog_1_method_40_code, 2, (some .int)), (0,0), ([.inr (.inl [70]),.inl (((-2147483648),2147483647,1),none)],[]), [], [(some (.inl (((-2147483648),2147483647,1),none)),[],[])])
def ddX11_lies : List (Nat × Instr × Nat) := [(0,.iload_n 1,1),(1,.ifCond .lt 29,3),(4,.iload_n 1,1),(5,.aload_n 0,1),(6,.getfield 104,3),(9,.if_icmp .ge 21,3),(12,.iload_n 1,1),(13,.aload_n 0,1),(14,.getfield 96,3),(17,.arraylength,1),(18,.if_icmp .ge 12,3),(21,.aload_n 0,1),(22,.getfield 96,3),(25,.iload_n 1,1),(26,.iaload,1),(27,.goto 5,3),(30,.bipush (-2),2),(32,.ireturn,1)]
def q397_P : rfP := (flX11,csX11,lcX11,spX11,[],[],[],[])
def q397_U : rfU := []
set_option maxHeartbeats 4000000 in
def q397_N : List rfB := [(0,([(0,.inr (.inl [70])),(1,.inl (((-2147483648),2147483647,1),none))],[],[]),(18,[]),0),
  (30,([(0,.inr (.inl [70])),(1,.inl (((-2147483648),2147483647,1),none))],[],[]),(1,[]),0)]
set_option maxRecDepth 100000 in
theorem q397_ok : rf_chkB q397_P q397_U wLay q397_M ddX11_lies [] [] [0,30] 600 q397_N = true := by decide +kernel
/-- NearSpell.Witness.tell -/
def q398_M : rfM := ((⟨"NearSpell$Witness", "tell", "(IIZ)I"⟩, prog_12_method_4_code, 5, (some .int)), (0,0), ([.inr (.inl [68]),.inl ((0,387420488,1),none),.inl ((0,6,1),none),.inl ((0,1,1),none)],[]), [(62,0),(63,0),(64,0),(65,0),(66,0),(68,9)], [(some (.inl (((-1),29,1),none)),[],[])])
def ddX10_tell : List (Nat × Instr × Nat) := [(0,.aload_n 0,1),(1,.getfield 31,3),(4,.istore 4,2),(6,.aload_n 0,1),(7,.getfield 38,3),(10,.getfield 47,3),(13,.ifCond .eq 10,3),(16,.iload 4,2),(18,.bipush 30,2),(20,.if_icmp .lt 5,3),(23,.iconst (-1),1),(24,.ireturn,1),(25,.aload_n 0,1),(26,.getfield 11,3),(29,.iload 4,2),(31,.iload_n 1,1),(32,.iastore,1),(33,.aload_n 0,1),(34,.getfield 15,3),(37,.iload 4,2),(39,.iload_n 2,1),(40,.iastore,1),(41,.aload_n 0,1),(42,.getfield 18,3),(45,.iload 4,2),(47,.iload_n 3,1),(48,.bastore,1),(49,.aload_n 0,1),(50,.getfield 22,3),(53,.iload 4,2),(55,.aload_n 0,1),(56,.getfield 35,3),(59,.iastore,1),(60,.aload_n 0,1),(61,.getfield 25,3),(64,.iload 4,2),(66,.iconst (-1),1),(67,.iastore,1),(68,.aload_n 0,1),(69,.dup,1),(70,.getfield 31,3),(73,.iconst 1,1),(74,.iadd,1),(75,.putfield 31,3),(78,.iload 4,2),(80,.ireturn,1)]
def q398_P : rfP := (flX10,csX10,lcX10,spX10,[],[],[],[])
def q398_U : rfU := []
set_option maxHeartbeats 4000000 in
def q398_N : List rfB := [(0,([(0,.inr (.inl [68])),(1,.inl ((0,387420488,1),none)),(2,.inl ((0,6,1),none)),(3,.inl ((0,1,1),none))],[],[]),(45,[]),0),
  (23,([(0,.inr (.inl [68])),(1,.inl ((0,387420488,1),none)),(2,.inl ((0,6,1),none)),(3,.inl ((0,1,1),none)),(4,.inl ((0,30,1),some (.inr (68,8),some 0)))],[],[]),(1,[]),0)]
set_option maxRecDepth 100000 in
theorem q398_ok : rf_chkB q398_P q398_U wLay q398_M ddX10_tell [] [] [0,23] 600 q398_N = true := by decide +kernel
/-- NearSpell.seen -/
def q399_M : rfM := ((⟨"NearSpell", "seen", "(IIZ)I"⟩, prog_1_method_41_code, 4, (some .int)), (1,24), ([.inr (.inl [70]),.inl (((-2147483648),2147483647,1),none),.inl (((-2147483648),2147483647,1),none),.inl ((0,1,1),none)],[]), [(62,0),(63,0),(64,0),(65,0),(66,0),(68,9)], [(some (.inl (((-1),29,1),none)),[],[])])
def ddX11_seen : List (Nat × Instr × Nat) := [(0,.iload_n 1,1),(1,.invokestatic 163,3),(4,.ifCond .eq 10,3),(7,.iload_n 2,1),(8,.invokestatic 232,3),(11,.ifCond .ne 5,3),(14,.iconst (-1),1),(15,.ireturn,1),(16,.aload_n 0,1),(17,.getfield 92,3),(20,.iload_n 1,1),(21,.iload_n 2,1),(22,.iload_n 3,1),(23,.invokevirtual 318,3),(26,.ireturn,1)]
def q399_P : rfP := (flX11,csX11,lcX11,spX11,[q52_M,q166_M,q398_M],[(163,0),(232,1)],[(318,2,10)],[])
def q399_U : rfU := []
set_option maxHeartbeats 4000000 in
def q399_N : List rfB := [(0,([(0,.inr (.inl [70])),(1,.inl (((-2147483648),2147483647,1),none)),(2,.inl (((-2147483648),2147483647,1),none)),(3,.inl ((0,1,1),none))],[],[]),(16,[]),0),
  (14,([(0,.inr (.inl [70])),(1,.inl (((-2147483648),2147483647,1),none)),(2,.inl (((-2147483648),2147483647,1),none)),(3,.inl ((0,1,1),none))],[],[]),(1,[]),0)]
set_option maxRecDepth 100000 in
theorem q399_ok : rf_chkB q399_P q399_U wLay q399_M ddX11_seen [(1,[0]),(8,[1]),(23,[2])] [] [0,14] 600 q399_N = true := by decide +kernel
/-- NearSpell.Witness.takeBack -/
def q400_M : rfM := ((⟨"NearSpell$Witness", "takeBack", "(I)Z"⟩, prog_12_method_5_code, 2, (some .boolean)), (0,0), ([.inr (.inl [68]),.inl (((-2147483648),2147483647,1),none)],[]), [(66,0)], [(some (.inl ((0,0,0),none)),[],[]),(some (.inl ((1,1,0),none)),[(1,0,29)],[((68,8),(1,30,1),none)])])
def ddX10_takeBack : List (Nat × Instr × Nat) := [(0,.iload_n 1,1),(1,.ifCond .lt 21,3),(4,.iload_n 1,1),(5,.aload_n 0,1),(6,.getfield 31,3),(9,.if_icmp .ge 13,3),(12,.aload_n 0,1),(13,.getfield 25,3),(16,.iload_n 1,1),(17,.iaload,1),(18,.iconst (-1),1),(19,.if_icmp .eq 5,3),(22,.iconst 0,1),(23,.ireturn,1),(24,.aload_n 0,1),(25,.getfield 25,3),(28,.iload_n 1,1),(29,.aload_n 0,1),(30,.getfield 35,3),(33,.iastore,1),(34,.iconst 1,1),(35,.ireturn,1)]
def q400_P : rfP := (flX10,csX10,lcX10,spX10,[],[],[],[])
def q400_U : rfU := []
set_option maxHeartbeats 4000000 in
def q400_N : List rfB := [(0,([(0,.inr (.inl [68])),(1,.inl (((-2147483648),2147483647,1),none))],[],[]),(21,[]),0),
  (22,([(0,.inr (.inl [68])),(1,.inl (((-2147483648),2147483647,1),none))],[],[]),(1,[]),0)]
set_option maxRecDepth 100000 in
theorem q400_ok : rf_chkB q400_P q400_U wLay q400_M ddX10_takeBack [] [] [0,22] 600 q400_N = true := by decide +kernel
/-- NearSpell.untell -/
def q401_M : rfM := ((⟨"NearSpell", "untell", "(I)Z"⟩, prog_1_method_42_code, 2, (some .boolean)), (1,21), ([.inr (.inl [70]),.inl (((-2147483648),2147483647,1),none)],[]), [(66,0)], [(some (.inl ((1,1,0),none)),[(1,0,29)],[((68,8),(1,30,1),none)]),(some (.inl ((0,0,0),none)),[],[])])
def ddX11_untell : List (Nat × Instr × Nat) := [(0,.aload_n 0,1),(1,.getfield 92,3),(4,.iload_n 1,1),(5,.invokevirtual 322,3),(8,.ireturn,1)]
def q401_P : rfP := (flX11,csX11,lcX11,spX11,[q400_M],[],[(322,0,10)],[])
def q401_U : rfU := []
set_option maxHeartbeats 4000000 in
def q401_N : List rfB := [(0,([(0,.inr (.inl [70])),(1,.inl (((-2147483648),2147483647,1),none))],[],[]),(5,[]),0)]
set_option maxRecDepth 100000 in
theorem q401_ok : rf_chkB q401_P q401_U wLay q401_M ddX11_untell [(5,[0])] [] [0] 600 q401_N = true := by decide +kernel
/-- NearSpell.Witness.goOn -/
def q402_M : rfM := ((⟨"NearSpell$Witness", "goOn", "(I)I"⟩, prog_12_method_3_code, 2, (some .int)), (20,2000), ([.inr (.inl [68]),.inl (((-2147483648),2147483647,1),none)],[]), [(68,10)], [(some (.inl (((-1),100000,1),none)),[],[])])
/-- NearSpell.later -/
def q403_M : rfM := ((⟨"NearSpell", "later", "(I)I"⟩, prog_1_method_43_code, 2, (some .int)), (21,2021), ([.inr (.inl [70]),.inl (((-2147483648),2147483647,1),none)],[]), [(68,10)], [(some (.inl (((-1),100000,1),none)),[],[])])
def ddX11_later : List (Nat × Instr × Nat) := [(0,.aload_n 0,1),(1,.getfield 92,3),(4,.iload_n 1,1),(5,.invokevirtual 324,3),(8,.ireturn,1)]
def q403_P : rfP := (flX11,csX11,lcX11,spX11,[q402_M],[],[(324,0,10)],[])
def q403_U : rfU := []
set_option maxHeartbeats 4000000 in
def q403_N : List rfB := [(0,([(0,.inr (.inl [70])),(1,.inl (((-2147483648),2147483647,1),none))],[],[]),(4,[]),0)]
set_option maxRecDepth 100000 in
theorem q403_ok : rf_chkB q403_P q403_U wLay q403_M ddX11_later [(5,[0])] [] [0] 600 q403_N = true := by decide +kernel
/-- NearSpell.Witness.countsAt -/
def q404_M : rfM := ((⟨"NearSpell$Witness", "countsAt", "(II)Z"⟩, prog_12_method_6_code, 4, (some .boolean)), (0,0), ([.inr (.inl [68]),.inl ((0,0,0),none),.inl (((-2147483648),2147483647,1),none)],[]), [], [(some (.inl ((1,1,0),none)),[],[]),(some (.inl ((0,0,0),none)),[],[])])
def ddX10_countsAt : List (Nat × Instr × Nat) := [(0,.aload_n 0,1),(1,.getfield 25,3),(4,.iload_n 1,1),(5,.iaload,1),(6,.iconst (-1),1),(7,.if_icmp .eq 17,3),(10,.aload_n 0,1),(11,.getfield 25,3),(14,.iload_n 1,1),(15,.iaload,1),(16,.iload_n 2,1),(17,.if_icmp .gt 7,3),(20,.iconst 1,1),(21,.goto 4,3),(24,.iconst 0,1),(25,.istore_n 3,1),(26,.aload_n 0,1),(27,.getfield 22,3),(30,.iload_n 1,1),(31,.iaload,1),(32,.iload_n 2,1),(33,.if_icmp .gt 11,3),(36,.iload_n 3,1),(37,.ifCond .ne 7,3),(40,.iconst 1,1),(41,.goto 4,3),(44,.iconst 0,1),(45,.ireturn,1)]
def q404_P : rfP := (flX10,csX10,lcX10,spX10,[],[],[],[])
def q404_U : rfU := []
set_option maxHeartbeats 4000000 in
def q404_N : List rfB := [(0,([(0,.inr (.inl [68])),(1,.inl ((0,0,0),none)),(2,.inl (((-2147483648),2147483647,1),none))],[],[]),(29,[]),0),
  (24,([(0,.inr (.inl [68])),(1,.inl ((0,0,0),none)),(2,.inl (((-2147483648),2147483647,1),none))],[],[((66,0),((-2147483647),2147483647,1),none)]),(14,[]),0),
  (26,([(0,.inr (.inl [68])),(1,.inl ((0,0,0),none)),(2,.inl (((-2147483648),2147483647,1),none)),(3,.inl ((0,1,1),none))],[],[]),(12,[]),0),
  (44,([(0,.inr (.inl [68])),(1,.inl ((0,0,0),none)),(2,.inl (((-2147483648),2147483647,1),none)),(3,.inl ((0,1,1),none))],[],[]),(1,[]),0)]
set_option maxRecDepth 100000 in
theorem q404_ok : rf_chkB q404_P q404_U wLay q404_M ddX10_countsAt [] [] [0,24,26,44] 600 q404_N = true := by decide +kernel
/-- NearSpell.Witness.countsAt -/
def q405_M : rfM := ((⟨"NearSpell$Witness", "countsAt", "(II)Z"⟩, prog_12_method_6_code, 4, (some .boolean)), (0,0), ([.inr (.inl [68]),.inl ((0,1,1),none),.inl (((-2147483648),2147483647,1),none)],[]), [], [(some (.inl ((1,1,0),none)),[],[]),(some (.inl ((0,0,0),none)),[],[])])
def q405_P : rfP := (flX10,csX10,lcX10,spX10,[],[],[],[])
def q405_U : rfU := []
set_option maxHeartbeats 4000000 in
def q405_N : List rfB := [(0,([(0,.inr (.inl [68])),(1,.inl ((0,1,1),none)),(2,.inl (((-2147483648),2147483647,1),none))],[],[]),(29,[]),0),
  (24,([(0,.inr (.inl [68])),(1,.inl ((0,1,1),none)),(2,.inl (((-2147483648),2147483647,1),none))],[],[]),(14,[]),0),
  (26,([(0,.inr (.inl [68])),(1,.inl ((0,1,1),none)),(2,.inl (((-2147483648),2147483647,1),none)),(3,.inl ((0,1,1),none))],[],[]),(12,[]),0),
  (44,([(0,.inr (.inl [68])),(1,.inl ((0,1,1),none)),(2,.inl (((-2147483648),2147483647,1),none)),(3,.inl ((0,1,1),none))],[],[]),(1,[]),0)]
set_option maxRecDepth 100000 in
theorem q405_ok : rf_chkB q405_P q405_U wLay q405_M ddX10_countsAt [] [] [0,24,26,44] 600 q405_N = true := by decide +kernel
/-- NearSpell.Witness.countsAt -/
def q406_M : rfM := ((⟨"NearSpell$Witness", "countsAt", "(II)Z"⟩, prog_12_method_6_code, 4, (some .boolean)), (0,0), ([.inr (.inl [68]),.inl ((0,2,1),none),.inl (((-2147483648),2147483647,1),none)],[]), [], [(some (.inl ((1,1,0),none)),[],[]),(some (.inl ((0,0,0),none)),[],[])])
def q406_P : rfP := (flX10,csX10,lcX10,spX10,[],[],[],[])
def q406_U : rfU := []
set_option maxHeartbeats 4000000 in
def q406_N : List rfB := [(0,([(0,.inr (.inl [68])),(1,.inl ((0,2,1),none)),(2,.inl (((-2147483648),2147483647,1),none))],[],[]),(29,[]),0),
  (24,([(0,.inr (.inl [68])),(1,.inl ((0,2,1),none)),(2,.inl (((-2147483648),2147483647,1),none))],[],[]),(14,[]),0),
  (26,([(0,.inr (.inl [68])),(1,.inl ((0,2,1),none)),(2,.inl (((-2147483648),2147483647,1),none)),(3,.inl ((0,1,1),none))],[],[]),(12,[]),0),
  (44,([(0,.inr (.inl [68])),(1,.inl ((0,2,1),none)),(2,.inl (((-2147483648),2147483647,1),none)),(3,.inl ((0,1,1),none))],[],[]),(1,[]),0)]
set_option maxRecDepth 100000 in
theorem q406_ok : rf_chkB q406_P q406_U wLay q406_M ddX10_countsAt [] [] [0,24,26,44] 600 q406_N = true := by decide +kernel
/-- NearSpell.Witness.countsAt -/
def q407_M : rfM := ((⟨"NearSpell$Witness", "countsAt", "(II)Z"⟩, prog_12_method_6_code, 4, (some .boolean)), (0,0), ([.inr (.inl [68]),.inl ((0,3,1),none),.inl (((-2147483648),2147483647,1),none)],[]), [], [(some (.inl ((1,1,0),none)),[],[]),(some (.inl ((0,0,0),none)),[],[])])
def q407_P : rfP := (flX10,csX10,lcX10,spX10,[],[],[],[])
def q407_U : rfU := []
set_option maxHeartbeats 4000000 in
def q407_N : List rfB := [(0,([(0,.inr (.inl [68])),(1,.inl ((0,3,1),none)),(2,.inl (((-2147483648),2147483647,1),none))],[],[]),(29,[]),0),
  (24,([(0,.inr (.inl [68])),(1,.inl ((0,3,1),none)),(2,.inl (((-2147483648),2147483647,1),none))],[],[]),(14,[]),0),
  (26,([(0,.inr (.inl [68])),(1,.inl ((0,3,1),none)),(2,.inl (((-2147483648),2147483647,1),none)),(3,.inl ((0,1,1),none))],[],[]),(12,[]),0),
  (44,([(0,.inr (.inl [68])),(1,.inl ((0,3,1),none)),(2,.inl (((-2147483648),2147483647,1),none)),(3,.inl ((0,1,1),none))],[],[]),(1,[]),0)]
set_option maxRecDepth 100000 in
theorem q407_ok : rf_chkB q407_P q407_U wLay q407_M ddX10_countsAt [] [] [0,24,26,44] 600 q407_N = true := by decide +kernel
/-- NearSpell.Witness.countsAt -/
def q408_M : rfM := ((⟨"NearSpell$Witness", "countsAt", "(II)Z"⟩, prog_12_method_6_code, 4, (some .boolean)), (0,0), ([.inr (.inl [68]),.inl ((0,12,1),none),.inl (((-2147483648),2147483647,1),none)],[]), [], [(some (.inl ((1,1,0),none)),[],[]),(some (.inl ((0,0,0),none)),[],[])])
def q408_P : rfP := (flX10,csX10,lcX10,spX10,[],[],[],[])
def q408_U : rfU := []
set_option maxHeartbeats 4000000 in
def q408_N : List rfB := [(0,([(0,.inr (.inl [68])),(1,.inl ((0,12,1),none)),(2,.inl (((-2147483648),2147483647,1),none))],[],[]),(29,[]),0),
  (24,([(0,.inr (.inl [68])),(1,.inl ((0,12,1),none)),(2,.inl (((-2147483648),2147483647,1),none))],[],[]),(14,[]),0),
  (26,([(0,.inr (.inl [68])),(1,.inl ((0,12,1),none)),(2,.inl (((-2147483648),2147483647,1),none)),(3,.inl ((0,1,1),none))],[],[]),(12,[]),0),
  (44,([(0,.inr (.inl [68])),(1,.inl ((0,12,1),none)),(2,.inl (((-2147483648),2147483647,1),none)),(3,.inl ((0,1,1),none))],[],[]),(1,[]),0)]
set_option maxRecDepth 100000 in
theorem q408_ok : rf_chkB q408_P q408_U wLay q408_M ddX10_countsAt [] [] [0,24,26,44] 600 q408_N = true := by decide +kernel
/-- NearSpell.Witness.countsAt -/
def q409_M : rfM := ((⟨"NearSpell$Witness", "countsAt", "(II)Z"⟩, prog_12_method_6_code, 4, (some .boolean)), (0,0), ([.inr (.inl [68]),.inl ((0,13,1),none),.inl (((-2147483648),2147483647,1),none)],[]), [], [(some (.inl ((1,1,0),none)),[],[]),(some (.inl ((0,0,0),none)),[],[])])
def q409_P : rfP := (flX10,csX10,lcX10,spX10,[],[],[],[])
def q409_U : rfU := []
set_option maxHeartbeats 4000000 in
def q409_N : List rfB := [(0,([(0,.inr (.inl [68])),(1,.inl ((0,13,1),none)),(2,.inl (((-2147483648),2147483647,1),none))],[],[]),(29,[]),0),
  (24,([(0,.inr (.inl [68])),(1,.inl ((0,13,1),none)),(2,.inl (((-2147483648),2147483647,1),none))],[],[]),(14,[]),0),
  (26,([(0,.inr (.inl [68])),(1,.inl ((0,13,1),none)),(2,.inl (((-2147483648),2147483647,1),none)),(3,.inl ((0,1,1),none))],[],[]),(12,[]),0),
  (44,([(0,.inr (.inl [68])),(1,.inl ((0,13,1),none)),(2,.inl (((-2147483648),2147483647,1),none)),(3,.inl ((0,1,1),none))],[],[]),(1,[]),0)]
set_option maxRecDepth 100000 in
theorem q409_ok : rf_chkB q409_P q409_U wLay q409_M ddX10_countsAt [] [] [0,24,26,44] 600 q409_N = true := by decide +kernel
/-- NearSpell.Witness.countsAt -/
def q410_M : rfM := ((⟨"NearSpell$Witness", "countsAt", "(II)Z"⟩, prog_12_method_6_code, 4, (some .boolean)), (0,0), ([.inr (.inl [68]),.inl ((0,14,1),none),.inl (((-2147483648),2147483647,1),none)],[]), [], [(some (.inl ((1,1,0),none)),[],[]),(some (.inl ((0,0,0),none)),[],[])])
def q410_P : rfP := (flX10,csX10,lcX10,spX10,[],[],[],[])
def q410_U : rfU := []
set_option maxHeartbeats 4000000 in
def q410_N : List rfB := [(0,([(0,.inr (.inl [68])),(1,.inl ((0,14,1),none)),(2,.inl (((-2147483648),2147483647,1),none))],[],[]),(29,[]),0),
  (24,([(0,.inr (.inl [68])),(1,.inl ((0,14,1),none)),(2,.inl (((-2147483648),2147483647,1),none))],[],[]),(14,[]),0),
  (26,([(0,.inr (.inl [68])),(1,.inl ((0,14,1),none)),(2,.inl (((-2147483648),2147483647,1),none)),(3,.inl ((0,1,1),none))],[],[]),(12,[]),0),
  (44,([(0,.inr (.inl [68])),(1,.inl ((0,14,1),none)),(2,.inl (((-2147483648),2147483647,1),none)),(3,.inl ((0,1,1),none))],[],[]),(1,[]),0)]
set_option maxRecDepth 100000 in
theorem q410_ok : rf_chkB q410_P q410_U wLay q410_M ddX10_countsAt [] [] [0,24,26,44] 600 q410_N = true := by decide +kernel
/-- NearSpell.Witness.countsAt -/
def q411_M : rfM := ((⟨"NearSpell$Witness", "countsAt", "(II)Z"⟩, prog_12_method_6_code, 4, (some .boolean)), (0,0), ([.inr (.inl [68]),.inl ((0,26,1),none),.inl (((-2147483648),2147483647,1),none)],[]), [], [(some (.inl ((1,1,0),none)),[],[]),(some (.inl ((0,0,0),none)),[],[])])
def q411_P : rfP := (flX10,csX10,lcX10,spX10,[],[],[],[])
def q411_U : rfU := []
set_option maxHeartbeats 4000000 in
def q411_N : List rfB := [(0,([(0,.inr (.inl [68])),(1,.inl ((0,26,1),none)),(2,.inl (((-2147483648),2147483647,1),none))],[],[]),(29,[]),0),
  (24,([(0,.inr (.inl [68])),(1,.inl ((0,26,1),none)),(2,.inl (((-2147483648),2147483647,1),none))],[],[]),(14,[]),0),
  (26,([(0,.inr (.inl [68])),(1,.inl ((0,26,1),none)),(2,.inl (((-2147483648),2147483647,1),none)),(3,.inl ((0,1,1),none))],[],[]),(12,[]),0),
  (44,([(0,.inr (.inl [68])),(1,.inl ((0,26,1),none)),(2,.inl (((-2147483648),2147483647,1),none)),(3,.inl ((0,1,1),none))],[],[]),(1,[]),0)]
set_option maxRecDepth 100000 in
theorem q411_ok : rf_chkB q411_P q411_U wLay q411_M ddX10_countsAt [] [] [0,24,26,44] 600 q411_N = true := by decide +kernel
/-- NearSpell.Witness.countsAt -/
def q412_M : rfM := ((⟨"NearSpell$Witness", "countsAt", "(II)Z"⟩, prog_12_method_6_code, 4, (some .boolean)), (0,0), ([.inr (.inl [68]),.inl ((0,29,1),none),.inl (((-2147483648),2147483647,1),none)],[]), [], [(some (.inl ((1,1,0),none)),[],[]),(some (.inl ((0,0,0),none)),[],[])])
def q412_P : rfP := (flX10,csX10,lcX10,spX10,[],[],[],[])
def q412_U : rfU := []
set_option maxHeartbeats 4000000 in
def q412_N : List rfB := [(0,([(0,.inr (.inl [68])),(1,.inl ((0,29,1),none)),(2,.inl (((-2147483648),2147483647,1),none))],[],[]),(29,[]),0),
  (24,([(0,.inr (.inl [68])),(1,.inl ((0,29,1),none)),(2,.inl (((-2147483648),2147483647,1),none))],[],[]),(14,[]),0),
  (26,([(0,.inr (.inl [68])),(1,.inl ((0,29,1),none)),(2,.inl (((-2147483648),2147483647,1),none)),(3,.inl ((0,1,1),none))],[],[]),(12,[]),0),
  (44,([(0,.inr (.inl [68])),(1,.inl ((0,29,1),none)),(2,.inl (((-2147483648),2147483647,1),none)),(3,.inl ((0,1,1),none))],[],[]),(1,[]),0)]
set_option maxRecDepth 100000 in
theorem q412_ok : rf_chkB q412_P q412_U wLay q412_M ddX10_countsAt [] [] [0,24,26,44] 600 q412_N = true := by decide +kernel
/-- NearSpell.Witness.isFitting -/
def q413_M : rfM := ((⟨"NearSpell$Witness", "isFitting", "(II)Z"⟩, prog_12_method_8_code, 4, (some .boolean)), (4,92), ([.inr (.inl [68]),.inl (((-2147483648),2147483647,1),none),.inl (((-2147483648),2147483647,1),none)],[]), [(17,0),(18,0),(19,0),(20,4),(20,5)], [(some (.inl ((0,0,0),none)),[],[((20,3),(0,6,1),none),((20,4),(0,6,1),none),((68,8),(1,30,1),none)]),(some (.inl ((1,1,0),none)),[],[((20,3),(0,6,1),none),((20,4),(0,6,1),none)])])
def ddX10_isFitting : List (Nat × Instr × Nat) := [(0,.aload_n 0,1),(1,.getfield 42,3),(4,.iload_n 1,1),(5,.invokevirtual 59,3),(8,.iconst 0,1),(9,.istore_n 3,1),(10,.iload_n 3,1),(11,.aload_n 0,1),(12,.getfield 31,3),(15,.if_icmp .ge 56,3),(18,.aload_n 0,1),(19,.iload_n 3,1),(20,.iload_n 2,1),(21,.invokevirtual 65,3),(24,.ifCond .eq 41,3),(27,.aload_n 0,1),(28,.getfield 42,3),(31,.aload_n 0,1),(32,.getfield 11,3),(35,.iload_n 3,1),(36,.iaload,1),(37,.invokevirtual 68,3),(40,.aload_n 0,1),(41,.getfield 15,3),(44,.iload_n 3,1),(45,.iaload,1),(46,.if_icmp .gt 7,3),(49,.iconst 1,1),(50,.goto 4,3),(53,.iconst 0,1),(54,.aload_n 0,1),(55,.getfield 18,3),(58,.iload_n 3,1),(59,.baload,1),(60,.if_icmp .eq 5,3),(63,.iconst 0,1),(64,.ireturn,1),(65,.iinc 3 1,3),(68,.goto (-58),3),(71,.iconst 1,1),(72,.ireturn,1)]
def q413_P : rfP := (flX10,csX10,lcX10,spX10,[q189_M,q99_M,q412_M],[],[(59,0,7),(65,2,10),(68,1,7)],[])
def q413_U : rfU := []
set_option maxHeartbeats 4000000 in
def q413_N : List rfB := [(0,([(0,.inr (.inl [68])),(1,.inl (((-2147483648),2147483647,1),none)),(2,.inl (((-2147483648),2147483647,1),none))],[],[]),(1187,[0]),0),
  (10,([(0,.inr (.inl [68])),(1,.inl (((-2147483648),2147483647,1),none)),(2,.inl (((-2147483648),2147483647,1),none)),(3,.inl ((0,30,1),none))],[],[((20,3),(0,6,1),none),((20,4),(0,6,1),none)]),(1179,[(-38)]),0),
  (65,([(0,.inr (.inl [68])),(1,.inl (((-2147483648),2147483647,1),none)),(2,.inl (((-2147483648),2147483647,1),none)),(3,.inl ((0,29,1),none))],[],[((20,3),(0,6,1),none),((20,4),(0,6,1),none),((68,8),(1,30,1),none)]),(1144,[(-38)]),0),
  (63,([(0,.inr (.inl [68])),(1,.inl (((-2147483648),2147483647,1),none)),(2,.inl (((-2147483648),2147483647,1),none)),(3,.inl ((0,29,1),none))],[],[((20,3),(0,6,1),none),((20,4),(0,6,1),none),((68,8),(1,30,1),none)]),(3,[0]),0)]
set_option maxRecDepth 100000 in
theorem q413_ok : rf_chkB q413_P q413_U wLay q413_M ddX10_isFitting [(5,[0]),(21,[2]),(37,[1])] [.inl 3] [0,10,63,65] 600 q413_N = true := by decide +kernel
/-- NearSpell.Witness.fitting -/
def q414_M : rfM := ((⟨"NearSpell$Witness", "fitting", "(I)I"⟩, prog_12_method_7_code, 4, (some .int)), (5,115), ([.inr (.inl [68]),.inl (((-2147483648),2147483647,1),none)],[]), [(17,0),(18,0),(19,0),(20,4),(20,5)], [(some (.inl ((0,2147483647,1),none)),[],[])])
def ddX10_fitting : List (Nat × Instr × Nat) := [(0,.iconst 0,1),(1,.istore_n 2,1),(2,.iconst 0,1),(3,.istore_n 3,1),(4,.iload_n 3,1),(5,.aload_n 0,1),(6,.getfield 38,3),(9,.getfield 47,3),(12,.if_icmp .ge 32,3),(15,.aload_n 0,1),(16,.aload_n 0,1),(17,.getfield 38,3),(20,.getfield 52,3),(23,.iload_n 3,1),(24,.iaload,1),(25,.iload_n 1,1),(26,.invokevirtual 55,3),(29,.ifCond .eq 9,3),(32,.iload_n 2,1),(33,.iconst 1,1),(34,.iload_n 3,1),(35,.ishl,1),(36,.ior,1),(37,.istore_n 2,1),(38,.iinc 3 1,3),(41,.goto (-37),3),(44,.iload_n 2,1),(45,.ireturn,1)]
def q414_P : rfP := (flX10,csX10,lcX10,spX10,[q413_M],[],[(55,0,10)],[])
def q414_U : rfU := []
set_option maxHeartbeats 4000000 in
def q414_N : List rfB := [(0,([(0,.inr (.inl [68])),(1,.inl (((-2147483648),2147483647,1),none))],[],[]),(269,[0]),0),
  (4,([(0,.inr (.inl [68])),(1,.inl (((-2147483648),2147483647,1),none)),(2,.inl ((0,2147483647,1),none)),(3,.inl ((0,10,1),none))],[],[]),(263,[(-24)]),0),
  (38,([(0,.inr (.inl [68])),(1,.inl (((-2147483648),2147483647,1),none)),(2,.inl ((0,2147483647,1),none)),(3,.inl ((0,9,1),none))],[],[((5,4),(1,10,1),none),((20,3),(0,6,1),none),((20,4),(0,6,1),none)]),(242,[(-24)]),0)]
set_option maxRecDepth 100000 in
theorem q414_ok : rf_chkB q414_P q414_U wLay q414_M ddX10_fitting [(26,[0])] [.inl 3] [0,4,38] 600 q414_N = true := by decide +kernel
/-- NearSpell.fits -/
def q415_M : rfM := ((⟨"NearSpell", "fits", "(I)I"⟩, prog_1_method_44_code, 2, (some .int)), (6,138), ([.inr (.inl [70]),.inl (((-2147483648),2147483647,1),none)],[]), [(17,0),(18,0),(19,0),(20,4),(20,5)], [(some (.inl ((0,2147483647,1),none)),[],[])])
def ddX11_fits : List (Nat × Instr × Nat) := [(0,.aload_n 0,1),(1,.getfield 92,3),(4,.iload_n 1,1),(5,.invokevirtual 327,3),(8,.ireturn,1)]
def q415_P : rfP := (flX11,csX11,lcX11,spX11,[q414_M],[],[(327,0,10)],[])
def q415_U : rfU := []
set_option maxHeartbeats 4000000 in
def q415_N : List rfB := [(0,([(0,.inr (.inl [70])),(1,.inl (((-2147483648),2147483647,1),none))],[],[]),(4,[]),0)]
set_option maxRecDepth 100000 in
theorem q415_ok : rf_chkB q415_P q415_U wLay q415_M ddX11_fits [(5,[0])] [] [0] 600 q415_N = true := by decide +kernel
/-- java/lang/Math.max -/
def q416_M : rfM := ((⟨"java/lang/Math", "max", "(II)I"⟩, prog_17_method_65_code, 2, (some .int)), (0,0), ([.inl ((0,0,0),none),.inl (((-2147483648),2147483647,1),none)],[]), [], [(some (.inl ((0,2147483647,1),none)),[],[])])
def q416_P : rfP := (flJ9,csJ9,lcJ9,spJ9,[],[],[],[])
def q416_U : rfU := []
set_option maxHeartbeats 4000000 in
def q416_N : List rfB := [(0,([(0,.inl ((0,0,0),none)),(1,.inl (((-2147483648),2147483647,1),none))],[],[]),(7,[]),0)]
set_option maxRecDepth 100000 in
theorem q416_ok : rf_chkB q416_P q416_U wLay q416_M ddJ9_max_7cf53 [] [] [0] 600 q416_N = true := by decide +kernel
/-- java/lang/Math.max -/
def q417_M : rfM := ((⟨"java/lang/Math", "max", "(II)I"⟩, prog_17_method_65_code, 2, (some .int)), (0,0), ([.inl ((0,2147483647,1),none),.inl (((-2147483648),2147483647,1),none)],[]), [], [(some (.inl ((0,2147483647,1),none)),[],[])])
def q417_P : rfP := (flJ9,csJ9,lcJ9,spJ9,[],[],[],[])
def q417_U : rfU := []
set_option maxHeartbeats 4000000 in
def q417_N : List rfB := [(0,([(0,.inl ((0,2147483647,1),none)),(1,.inl (((-2147483648),2147483647,1),none))],[],[]),(6,[]),0),
  (10,([(0,.inl ((0,2147483647,1),none)),(1,.inl (((-2147483648),2147483647,1),none))],[.inl ((0,2147483647,1),none)],[]),(0,[]),0)]
set_option maxRecDepth 100000 in
theorem q417_ok : rf_chkB q417_P q417_U wLay q417_M ddJ9_max_7cf53 [] [] [0,10] 600 q417_N = true := by decide +kernel
/-- NearSpell.Witness.mostLeftBy -/
def q418_M : rfM := ((⟨"NearSpell$Witness", "mostLeftBy", "(II)I"⟩, prog_12_method_10_code, 6, (some .int)), (4,92), ([.inr (.inl [68]),.inl (((-2147483648),2147483647,1),none),.inl ((1,2147483647,1),none)],[]), [(17,0),(18,0),(19,0),(20,4),(20,5),(67,0)], [(some (.inl ((0,2147483647,1),none)),[],[((20,3),(0,6,1),none),((20,4),(0,6,1),none)])])
def ddX10_mostLeftBy : List (Nat × Instr × Nat) := [(0,.iconst 0,1),(1,.istore_n 3,1),(2,.iload_n 3,1),(3,.aload_n 0,1),(4,.getfield 28,3),(7,.arraylength,1),(8,.if_icmp .ge 16,3),(11,.aload_n 0,1),(12,.getfield 28,3),(15,.iload_n 3,1),(16,.iconst 0,1),(17,.iastore,1),(18,.iinc 3 1,3),(21,.goto (-19),3),(24,.aload_n 0,1),(25,.getfield 42,3),(28,.iload_n 1,1),(29,.invokevirtual 59,3),(32,.iconst 0,1),(33,.istore_n 3,1),(34,.iconst 0,1),(35,.istore 4,2),(37,.iload 4,2),(39,.aload_n 0,1),(40,.getfield 38,3),(43,.getfield 47,3),(46,.if_icmp .ge 79,3),(49,.iload_n 2,1),(50,.iload 4,2),(52,.ishr,1),(53,.iconst 1,1),(54,.iand,1),(55,.ifCond .eq 23,3),(58,.aload_n 0,1),(59,.getfield 42,3),(62,.aload_n 0,1),(63,.getfield 38,3),(66,.getfield 52,3),(69,.iload 4,2),(71,.iaload,1),(72,.invokevirtual 68,3),(75,.goto 4,3),(78,.iconst (-1),1),(79,.istore 5,2),(81,.iload 5,2),(83,.ifCond .lt 36,3),(86,.iload 5,2),(88,.aload_n 0,1),(89,.getfield 28,3),(92,.arraylength,1),(93,.if_icmp .ge 26,3),(96,.aload_n 0,1),(97,.getfield 28,3),(100,.iload 5,2),(102,.dup2,1),(103,.iaload,1),(104,.iconst 1,1),(105,.iadd,1),(106,.iastore,1),(107,.iload_n 3,1),(108,.aload_n 0,1),(109,.getfield 28,3),(112,.iload 5,2),(114,.iaload,1),(115,.invokestatic 79,3),(118,.istore_n 3,1),(119,.iinc 4 1,3),(122,.goto (-85),3),(125,.iload_n 3,1),(126,.ireturn,1)]
def q418_P : rfP := (flX10,csX10,lcX10,spX10,[q189_M,q99_M,q417_M],[(79,2)],[(59,0,7),(68,1,7)],[])
def q418_U : rfU := []
set_option maxHeartbeats 4000000 in
def q418_N : List rfB := [(0,([(0,.inr (.inl [68])),(1,.inl (((-2147483648),2147483647,1),none)),(2,.inl ((1,2147483647,1),none))],[],[]),(643,[0,0]),0),
  (2,([(0,.inr (.inl [68])),(1,.inl (((-2147483648),2147483647,1),none)),(2,.inl ((1,2147483647,1),none)),(3,.inl ((0,7,1),none))],[],[]),(639,[(-13),0]),0),
  (37,([(0,.inr (.inl [68])),(1,.inl (((-2147483648),2147483647,1),none)),(2,.inl ((1,2147483647,1),none)),(3,.inl ((0,2147483647,1),none)),(4,.inl ((0,10,1),none))],[],[((20,3),(0,6,1),none),((20,4),(0,6,1),none)]),(527,[0,(-48)]),0),
  (81,([(0,.inr (.inl [68])),(1,.inl (((-2147483648),2147483647,1),none)),(2,.inl ((1,2147483647,1),none)),(3,.inl ((0,2147483647,1),none)),(4,.inl ((0,9,1),none)),(5,.inl (((-2147483648),2147483647,1),none))],[],[((5,4),(1,10,1),none),((20,3),(0,6,1),none),((20,4),(0,6,1),none)]),(504,[0,(-48)]),0),
  (119,([(0,.inr (.inl [68])),(1,.inl (((-2147483648),2147483647,1),none)),(2,.inl ((1,2147483647,1),none)),(3,.inl ((0,2147483647,1),none)),(4,.inl ((0,9,1),none)),(5,.inl (((-2147483648),2147483647,1),none))],[],[((5,4),(1,10,1),none),((20,3),(0,6,1),none),((20,4),(0,6,1),none)]),(482,[0,(-48)]),0)]
set_option maxRecDepth 100000 in
theorem q418_ok : rf_chkB q418_P q418_U wLay q418_M ddX10_mostLeftBy [(29,[0]),(72,[1]),(115,[2])] [.inl 3,.inl 4] [0,2,37,81,119] 600 q418_N = true := by decide +kernel
/-- NearSpell.Witness.bestToAsk -/
def q419_M : rfM := ((⟨"NearSpell$Witness", "bestToAsk", "(II)I"⟩, prog_12_method_9_code, 8, (some .int)), (6,138), ([.inr (.inl [68]),.inl ((0,1,1),none),.inl (((-2147483648),2147483647,1),none)],[]), [(17,0),(18,0),(19,0),(20,4),(20,5),(67,0)], [(some (.inl (((-1),11,1),none)),[],[])])
def ddX10_bestToAsk : List (Nat × Instr × Nat) := [(0,.aload_n 0,1),(1,.iload_n 2,1),(2,.invokevirtual 72,3),(5,.istore_n 3,1),(6,.iload_n 3,1),(7,.ifCond .ne 5,3),(10,.iconst (-1),1),(11,.ireturn,1),(12,.iconst (-1),1),(13,.istore 4,2),(15,.bipush 11,2),(17,.istore 5,2),(19,.iconst 0,1),(20,.istore 6,2),(22,.iload 6,2),(24,.aload_n 0,1),(25,.getfield 38,3),(28,.getfield 47,3),(31,.if_icmp .ge 41,3),(34,.aload_n 0,1),(35,.aload_n 0,1),(36,.getfield 38,3),(39,.getfield 52,3),(42,.iload 6,2),(44,.iaload,1),(45,.iload_n 3,1),(46,.invokevirtual 75,3),(49,.istore 7,2),(51,.iload 7,2),(53,.iload 5,2),(55,.if_icmp .ge 11,3),(58,.iload 6,2),(60,.istore 4,2),(62,.iload 7,2),(64,.istore 5,2),(66,.iinc 6 1,3),(69,.goto (-47),3),(72,.iload_n 1,1),(73,.ifCond .ne 8,3),(76,.iload 4,2),(78,.goto 5,3),(81,.iload 5,2),(83,.ireturn,1)]
def q419_P : rfP := (flX10,csX10,lcX10,spX10,[q414_M,q418_M],[],[(72,0,10),(75,1,10)],[])
def q419_U : rfU := []
set_option maxHeartbeats 4000000 in
def q419_N : List rfB := [(0,([(0,.inr (.inl [68])),(1,.inl ((0,1,1),none)),(2,.inl (((-2147483648),2147483647,1),none))],[],[]),(283,[0]),0),
  (22,([(0,.inr (.inl [68])),(1,.inl ((0,1,1),none)),(2,.inl (((-2147483648),2147483647,1),none)),(3,.inl ((1,2147483647,1),none)),(4,.inl (((-1),9,1),none)),(5,.inl ((0,11,1),none)),(6,.inl ((0,10,1),none))],[],[]),(267,[(-24)]),0),
  (66,([(0,.inr (.inl [68])),(1,.inl ((0,1,1),none)),(2,.inl (((-2147483648),2147483647,1),none)),(3,.inl ((1,2147483647,1),none)),(4,.inl (((-1),9,1),none)),(5,.inl ((0,11,1),none)),(6,.inl ((0,9,1),none)),(7,.inl ((0,2147483647,1),none))],[],[((5,4),(1,10,1),none),((20,3),(0,6,1),none),((20,4),(0,6,1),none)]),(246,[(-24)]),0),
  (83,([(0,.inr (.inl [68])),(1,.inl ((0,1,1),none)),(2,.inl (((-2147483648),2147483647,1),none)),(3,.inl ((1,2147483647,1),none)),(4,.inl (((-1),9,1),none)),(5,.inl ((0,11,1),none)),(6,.inl ((0,10,1),none))],[.inl (((-1),11,1),none)],[]),(0,[0]),0)]
set_option maxRecDepth 100000 in
theorem q419_ok : rf_chkB q419_P q419_U wLay q419_M ddX10_bestToAsk [(2,[0]),(46,[1])] [.inl 6] [0,22,66,83] 600 q419_N = true := by decide +kernel
