/-! CONTRACTS that are proved by hand (or wait for it) -/
/-- NearSpell.Reader.isOwnWord -/
def q7_M : rfM := ((⟨"NearSpell$Reader", "isOwnWord", "(I)Z"⟩, prog_8_method_18_code, 5, (some .boolean)), (21,2021), ([.inr (.inl [11]),.inl ((0,0,0),none)],[]), [], [(some (.inl ((0,0,0),none)),[],[]),(some (.inl ((1,1,0),none)),[],[])])
/-- NearSpell.Reader.isOwnWord -/
def q8_M : rfM := ((⟨"NearSpell$Reader", "isOwnWord", "(I)Z"⟩, prog_8_method_18_code, 5, (some .boolean)), (21,2021), ([.inr (.inl [11]),.inl ((0,1,1),none)],[]), [], [(some (.inl ((0,0,0),none)),[],[]),(some (.inl ((1,1,0),none)),[],[])])
/-- NearSpell.Reader.isOwnWord -/
def q9_M : rfM := ((⟨"NearSpell$Reader", "isOwnWord", "(I)Z"⟩, prog_8_method_18_code, 5, (some .boolean)), (21,2021), ([.inr (.inl [11]),.inl ((0,2,1),none)],[]), [], [(some (.inl ((0,0,0),none)),[],[]),(some (.inl ((1,1,0),none)),[],[])])
/-- NearSpell.Reader.isOwnWord -/
def q10_M : rfM := ((⟨"NearSpell$Reader", "isOwnWord", "(I)Z"⟩, prog_8_method_18_code, 5, (some .boolean)), (21,2021), ([.inr (.inl [11]),.inl ((0,3,1),none)],[]), [], [(some (.inl ((0,0,0),none)),[],[]),(some (.inl ((1,1,0),none)),[],[])])
/-- NearSpell.Reader.isOwnWord -/
def q11_M : rfM := ((⟨"NearSpell$Reader", "isOwnWord", "(I)Z"⟩, prog_8_method_18_code, 5, (some .boolean)), (21,2021), ([.inr (.inl [11]),.inl ((0,9,1),none)],[]), [], [(some (.inl ((0,0,0),none)),[],[]),(some (.inl ((1,1,0),none)),[],[])])
/-- NearSpell.Reader.isOwnWord -/
def q12_M : rfM := ((⟨"NearSpell$Reader", "isOwnWord", "(I)Z"⟩, prog_8_method_18_code, 5, (some .boolean)), (21,2021), ([.inr (.inl [11]),.inl ((0,12,1),none)],[]), [], [(some (.inl ((0,0,0),none)),[],[]),(some (.inl ((1,1,0),none)),[],[])])
/-- NearSpell.Reader.isOwnWord -/
def q13_M : rfM := ((⟨"NearSpell$Reader", "isOwnWord", "(I)Z"⟩, prog_8_method_18_code, 5, (some .boolean)), (21,2021), ([.inr (.inl [11]),.inl ((0,13,1),none)],[]), [], [(some (.inl ((0,0,0),none)),[],[]),(some (.inl ((1,1,0),none)),[],[])])
/-- NearSpell.Reader.takeToken -/
def q18_M : rfM := ((⟨"NearSpell$Reader", "takeToken", "()V"⟩, prog_8_method_15_code, 1, none), (23,2066), ([.inr (.inl [11])],[]), [(11,4),(11,5),(11,6),(11,7),(11,9),(11,10)], [(none,[],[])])
/-- NearSpell.Archive.takeBack -/
def q229_M : rfM := ((⟨"NearSpell$Archive", "takeBack", "(LNearSpell$State;)Z"⟩, prog_2_method_4_code, 2, (some .boolean)), (20,2000), ([.inr (.inl [16]),.inr (.inl [13])],[]), [(12,0),(16,5),(16,6)], [(some (.inl ((0,0,0),none)),[],[]),(some (.inl ((1,1,0),none)),[],[])])
/-- NearSpell.Archive.doAgain -/
def q231_M : rfM := ((⟨"NearSpell$Archive", "doAgain", "(LNearSpell$State;)Z"⟩, prog_2_method_5_code, 2, (some .boolean)), (20,2000), ([.inr (.inl [16]),.inr (.inl [13])],[]), [(12,0),(16,5),(16,6)], [(some (.inl ((0,0,0),none)),[],[]),(some (.inl ((1,1,0),none)),[],[])])
/-- NearSpell.Witness.goOn -/
def q483_M : rfM := ((⟨"NearSpell$Witness", "goOn", "(I)I"⟩, prog_12_method_3_code, 2, (some .int)), (20,2000), ([.inr (.inl [68]),.inl (((-2147483648),2147483647,1),none)],[]), [(68,10)], [(some (.inl (((-1),100000,1),none)),[],[])])
/-- NearSpellModel.readWord -/
def q528_M : rfM := ((⟨"NearSpellModel", "readWord", "()V"⟩, prog_14_method_20_code, 3, none), (20,2000), ([.inr (.inl [114])],[((114,4),(0,0,1),none),((114,7),(0,1600,1),none),((114,8),(1,5,1),none)]), [(73,0),(81,0),(82,0),(114,5),(114,6),(114,7),(114,8),(114,9),(114,10),(114,11)], [(none,[],[((114,7),(0,1600,1),none),((114,4),(1,4,1),none)]),(none,[],[((114,7),(0,1600,1),some ((114,7),0,4294967296)),((114,4),(0,0,1),none),((114,8),(1,4,1),none)]),(none,[],[((114,7),(0,1600,1),some ((114,7),1,4294967296)),((114,4),(0,0,1),none),((114,8),(5,5,1),none)]),(none,[],[((114,7),(0,1600,1),none),((114,4),(0,0,1),none),((114,8),(0,0,1),none)])])
/-- NearSpellModel.readWord -/
def q529_M : rfM := ((⟨"NearSpellModel", "readWord", "()V"⟩, prog_14_method_20_code, 3, none), (20,2000), ([.inr (.inl [114])],[((114,4),(0,0,1),none),((114,7),(0,1600,1),none),((114,8),(0,0,1),none)]), [(73,0),(81,0),(82,0),(114,5),(114,6),(114,7),(114,8),(114,9),(114,10),(114,11)], [(none,[],[((114,7),(0,1600,1),none),((114,4),(1,4,1),none)])])
/-- NearSpellModel.e -/
def q548_M : rfM := ((⟨"NearSpellModel", "e", "()V"⟩, prog_14_method_24_code, 2, none), (20,2000), ([.inr (.inl [114])],[((114,4),(0,0,1),none),((114,7),(0,1600,1),none),((114,8),(1,5,1),none)]), [(74,0),(85,0),(86,0),(87,0),(88,0),(114,5),(114,6),(114,7),(114,8),(114,9),(114,10),(114,11),(114,31),(114,32),(114,33),(114,34)], [(none,[],[((114,7),(0,1600,1),none),((114,4),(1,4,1),none)]),(none,[],[((114,7),(0,1600,1),some ((114,7),0,4294967296)),((114,4),(0,0,1),none),((114,8),(1,4,1),none)]),(none,[],[((114,7),(0,1600,1),some ((114,7),1,4294967296)),((114,4),(0,0,1),none),((114,8),(5,5,1),none)]),(none,[],[((114,7),(0,1600,1),none),((114,4),(0,0,1),none),((114,8),(0,0,1),none)])])
/-- NearSpellModel.e -/
def q550_M : rfM := ((⟨"NearSpellModel", "e", "()V"⟩, prog_14_method_24_code, 2, none), (20,2000), ([.inr (.inl [114])],[((114,4),(0,0,1),none),((114,7),(0,1600,1),none),((114,8),(0,0,1),none)]), [(74,0),(85,0),(86,0),(87,0),(88,0),(114,5),(114,6),(114,7),(114,8),(114,9),(114,10),(114,11),(114,31),(114,32),(114,33),(114,34)], [(none,[],[((114,7),(0,1600,1),none),((114,4),(1,4,1),none)])])
/-- NearSpellModel.e -/
def q552_M : rfM := ((⟨"NearSpellModel", "e", "()V"⟩, prog_14_method_24_code, 2, none), (20,2000), ([.inr (.inl [114])],[((114,4),(1,4,1),none),((114,7),(0,1600,1),none)]), [(74,0),(85,0),(86,0),(87,0),(88,0),(114,5),(114,6),(114,7),(114,8),(114,9),(114,10),(114,11),(114,31),(114,32),(114,33),(114,34)], [(none,[],[((114,7),(0,1600,1),none),((114,4),(1,4,1),none)])])
/-- NearSpellModel.e -/
def q554_M : rfM := ((⟨"NearSpellModel", "e", "()V"⟩, prog_14_method_24_code, 2, none), (20,2000), ([.inr (.inl [114])],[((114,4),(1,4,1),none),((114,7),(0,1600,1),none),((114,8),(1,5,1),none)]), [(74,0),(85,0),(86,0),(87,0),(88,0),(114,5),(114,6),(114,7),(114,8),(114,9),(114,10),(114,11),(114,31),(114,32),(114,33),(114,34)], [(none,[],[((114,7),(0,1600,1),none),((114,4),(1,4,1),none)])])
/-- NearSpellModel.e -/
def q556_M : rfM := ((⟨"NearSpellModel", "e", "()V"⟩, prog_14_method_24_code, 2, none), (20,2000), ([.inr (.inl [114])],[((114,4),(1,4,1),none),((114,7),(0,1600,1),none),((114,8),(0,0,1),none)]), [(74,0),(85,0),(86,0),(87,0),(88,0),(114,5),(114,6),(114,7),(114,8),(114,9),(114,10),(114,11),(114,31),(114,32),(114,33),(114,34)], [(none,[],[((114,7),(0,1600,1),none),((114,4),(1,4,1),none)])])
/-- NearSpellModel.comes -/
def q670_M : rfM := ((⟨"NearSpellModel", "comes", "()I"⟩, prog_14_method_32_code, 4, (some .int)), (20,2000), ([.inr (.inl [114])],[]), [(89,0)], [(some (.inl (((-2147483648),2147483647,1),none)),[],[])])
/-- NearSpellModel.stepsNow -/
def q683_M : rfM := ((⟨"NearSpellModel", "stepsNow", "()I"⟩, prog_14_method_61_code, 2, (some .int)), (20,2000), ([.inr (.inl [114])],[]), [(96,0),(97,0)], [(some (.inl ((0,12,1),none)),[],[])])
/-- NearSpellModel.undo -/
def q699_M : rfM := ((⟨"NearSpellModel", "undo", "()Z"⟩, prog_14_method_113_code, 1, (some .boolean)), (20,2000), ([.inr (.inl [114])],[((114,28),(0,0,0),none)]), [(90,0),(105,0),(114,56),(114,57)], [(some (.inl ((0,1,1),none)),[],[])])
/-- NearSpellModel.undo -/
def q700_M : rfM := ((⟨"NearSpellModel", "undo", "()Z"⟩, prog_14_method_113_code, 1, (some .boolean)), (20,2000), ([.inr (.inl [114])],[((77,1),(1,31,1),none),((114,28),(1,1,0),none)]), [(90,0),(105,0),(114,56),(114,57)], [(some (.inl ((0,1,1),none)),[],[])])
/-- NearSpellModel.redo -/
def q701_M : rfM := ((⟨"NearSpellModel", "redo", "()Z"⟩, prog_14_method_114_code, 1, (some .boolean)), (20,2000), ([.inr (.inl [114])],[((114,28),(0,0,0),none)]), [(90,0),(105,0),(114,56),(114,57)], [(some (.inl ((0,1,1),none)),[],[])])
/-- NearSpellModel.redo -/
def q702_M : rfM := ((⟨"NearSpellModel", "redo", "()Z"⟩, prog_14_method_114_code, 1, (some .boolean)), (20,2000), ([.inr (.inl [114])],[((77,1),(1,31,1),none),((114,28),(1,1,0),none)]), [(90,0),(105,0),(114,56),(114,57)], [(some (.inl ((0,1,1),none)),[],[])])
/-- NearSpellModel.near -/
def q740_M : rfM := ((⟨"NearSpellModel", "near", "(II)I"⟩, prog_14_method_77_code, 5, (some .int)), (20,2000), ([.inr (.inl [114]),.inl (((-2147483648),2147483647,1),none),.inl (((-2147483648),2147483647,1),none)],[((114,28),(0,0,0),none)]), [(89,0),(91,0),(92,0),(93,0),(94,0),(95,0),(96,0),(97,0),(98,0),(99,0),(114,35),(114,40),(114,45),(114,46),(114,49)], [(some (.inl (((-2147483648),2147483647,1),none)),[],[])])
/-- NearSpellModel.near -/
def q741_M : rfM := ((⟨"NearSpellModel", "near", "(II)I"⟩, prog_14_method_77_code, 5, (some .int)), (20,2000), ([.inr (.inl [114]),.inl (((-2147483648),2147483647,1),none),.inl (((-2147483648),2147483647,1),none)],[((77,1),(1,31,1),none),((114,28),(1,1,0),none)]), [(89,0),(91,0),(92,0),(93,0),(94,0),(95,0),(96,0),(97,0),(98,0),(99,0),(114,35),(114,40),(114,45),(114,46),(114,49)], [(some (.inl (((-2147483648),2147483647,1),none)),[],[])])
/-- NearSpellModel.groups -/
def q794_M : rfM := ((⟨"NearSpellModel", "groups", "(I)I"⟩, prog_14_method_90_code, 6, (some .int)), (20,2000), ([.inr (.inl [114]),.inl (((-2147483648),2147483647,1),none)],[((114,28),(0,0,0),none)]), [(94,0),(95,0),(96,0),(97,0),(102,0),(103,0),(114,45),(114,46)], [(some (.inl (((-2147483648),2147483647,1),none)),[],[])])
/-- NearSpellModel.groups -/
def q795_M : rfM := ((⟨"NearSpellModel", "groups", "(I)I"⟩, prog_14_method_90_code, 6, (some .int)), (20,2000), ([.inr (.inl [114]),.inl (((-2147483648),2147483647,1),none)],[((77,1),(1,31,1),none),((114,28),(1,1,0),none)]), [(94,0),(95,0),(96,0),(97,0),(102,0),(103,0),(114,45),(114,46)], [(some (.inl (((-2147483648),2147483647,1),none)),[],[])])
/-- NearSpellModel.later -/
def q896_M : rfM := ((⟨"NearSpellModel", "later", "(I)I"⟩, prog_14_method_119_code, 2, (some .int)), (20,2000), ([.inr (.inl [114]),.inl (((-2147483648),2147483647,1),none)],[((114,28),(0,0,0),none)]), [(114,65)], [(some (.inl (((-2147483648),2147483647,1),none)),[],[])])
/-- NearSpellModel.later -/
def q897_M : rfM := ((⟨"NearSpellModel", "later", "(I)I"⟩, prog_14_method_119_code, 2, (some .int)), (20,2000), ([.inr (.inl [114]),.inl (((-2147483648),2147483647,1),none)],[((77,1),(1,31,1),none),((114,28),(1,1,0),none)]), [(114,65)], [(some (.inl (((-2147483648),2147483647,1),none)),[],[])])
def wHand : List rfM := [q7_M, q8_M, q9_M, q10_M, q11_M, q12_M, q13_M, q18_M, q229_M, q231_M, q483_M, q528_M, q529_M, q548_M, q550_M, q552_M, q554_M, q556_M, q670_M, q683_M, q699_M, q700_M, q701_M, q702_M, q740_M, q741_M, q794_M, q795_M, q896_M, q897_M]
def wHandOK (G : rfG) : Prop := ∀ M ∈ wHand, rf_met G M
theorem q7_met {G : rfG} (h : okG G) (hh : wHandOK G) : rf_met G q7_M := hh _ (List.mem_of_getElem? (i := 0) rfl)
theorem q8_met {G : rfG} (h : okG G) (hh : wHandOK G) : rf_met G q8_M := hh _ (List.mem_of_getElem? (i := 1) rfl)
theorem q9_met {G : rfG} (h : okG G) (hh : wHandOK G) : rf_met G q9_M := hh _ (List.mem_of_getElem? (i := 2) rfl)
theorem q10_met {G : rfG} (h : okG G) (hh : wHandOK G) : rf_met G q10_M := hh _ (List.mem_of_getElem? (i := 3) rfl)
theorem q11_met {G : rfG} (h : okG G) (hh : wHandOK G) : rf_met G q11_M := hh _ (List.mem_of_getElem? (i := 4) rfl)
theorem q12_met {G : rfG} (h : okG G) (hh : wHandOK G) : rf_met G q12_M := hh _ (List.mem_of_getElem? (i := 5) rfl)
theorem q13_met {G : rfG} (h : okG G) (hh : wHandOK G) : rf_met G q13_M := hh _ (List.mem_of_getElem? (i := 6) rfl)
theorem q18_met {G : rfG} (h : okG G) (hh : wHandOK G) : rf_met G q18_M := hh _ (List.mem_of_getElem? (i := 7) rfl)
theorem q229_met {G : rfG} (h : okG G) (hh : wHandOK G) : rf_met G q229_M := hh _ (List.mem_of_getElem? (i := 8) rfl)
theorem q231_met {G : rfG} (h : okG G) (hh : wHandOK G) : rf_met G q231_M := hh _ (List.mem_of_getElem? (i := 9) rfl)
theorem q483_met {G : rfG} (h : okG G) (hh : wHandOK G) : rf_met G q483_M := hh _ (List.mem_of_getElem? (i := 10) rfl)
theorem q528_met {G : rfG} (h : okG G) (hh : wHandOK G) : rf_met G q528_M := hh _ (List.mem_of_getElem? (i := 11) rfl)
theorem q529_met {G : rfG} (h : okG G) (hh : wHandOK G) : rf_met G q529_M := hh _ (List.mem_of_getElem? (i := 12) rfl)
theorem q548_met {G : rfG} (h : okG G) (hh : wHandOK G) : rf_met G q548_M := hh _ (List.mem_of_getElem? (i := 13) rfl)
theorem q550_met {G : rfG} (h : okG G) (hh : wHandOK G) : rf_met G q550_M := hh _ (List.mem_of_getElem? (i := 14) rfl)
theorem q552_met {G : rfG} (h : okG G) (hh : wHandOK G) : rf_met G q552_M := hh _ (List.mem_of_getElem? (i := 15) rfl)
theorem q554_met {G : rfG} (h : okG G) (hh : wHandOK G) : rf_met G q554_M := hh _ (List.mem_of_getElem? (i := 16) rfl)
theorem q556_met {G : rfG} (h : okG G) (hh : wHandOK G) : rf_met G q556_M := hh _ (List.mem_of_getElem? (i := 17) rfl)
theorem q670_met {G : rfG} (h : okG G) (hh : wHandOK G) : rf_met G q670_M := hh _ (List.mem_of_getElem? (i := 18) rfl)
theorem q683_met {G : rfG} (h : okG G) (hh : wHandOK G) : rf_met G q683_M := hh _ (List.mem_of_getElem? (i := 19) rfl)
theorem q699_met {G : rfG} (h : okG G) (hh : wHandOK G) : rf_met G q699_M := hh _ (List.mem_of_getElem? (i := 20) rfl)
theorem q700_met {G : rfG} (h : okG G) (hh : wHandOK G) : rf_met G q700_M := hh _ (List.mem_of_getElem? (i := 21) rfl)
theorem q701_met {G : rfG} (h : okG G) (hh : wHandOK G) : rf_met G q701_M := hh _ (List.mem_of_getElem? (i := 22) rfl)
theorem q702_met {G : rfG} (h : okG G) (hh : wHandOK G) : rf_met G q702_M := hh _ (List.mem_of_getElem? (i := 23) rfl)
theorem q740_met {G : rfG} (h : okG G) (hh : wHandOK G) : rf_met G q740_M := hh _ (List.mem_of_getElem? (i := 24) rfl)
theorem q741_met {G : rfG} (h : okG G) (hh : wHandOK G) : rf_met G q741_M := hh _ (List.mem_of_getElem? (i := 25) rfl)
theorem q794_met {G : rfG} (h : okG G) (hh : wHandOK G) : rf_met G q794_M := hh _ (List.mem_of_getElem? (i := 26) rfl)
theorem q795_met {G : rfG} (h : okG G) (hh : wHandOK G) : rf_met G q795_M := hh _ (List.mem_of_getElem? (i := 27) rfl)
theorem q896_met {G : rfG} (h : okG G) (hh : wHandOK G) : rf_met G q896_M := hh _ (List.mem_of_getElem? (i := 28) rfl)
theorem q897_met {G : rfG} (h : okG G) (hh : wHandOK G) : rf_met G q897_M := hh _ (List.mem_of_getElem? (i := 29) rfl)
def rf_decb (cc : ByteArray) (dec : List (Nat × Instr × Nat)) : Bool := dec.all (fun q => decide (decode cc q.1 = .ok (q.2.1, q.2.2)))
theorem rf_decs_of {cc : ByteArray} {dec : List (Nat × Instr × Nat)} (h : rf_decb cc dec = true) : rf_decs cc dec := fun q hq => by
  have := List.all_eq_true.mp h q hq
  simpa using this
