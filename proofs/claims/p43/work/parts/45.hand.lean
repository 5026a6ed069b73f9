/-! CONTRACTS that are proved by hand -/
/-- NearSpellModel.clearBank -/
def q680_M : rfM := ((⟨"NearSpellModel", "clearBank", "()V"⟩, prog_14_method_15_code, 1, none), (20,2000), ([.inr (.inl [114])],[((114,29),(1,1,0),none)]), [(73,0),(74,0),(75,0),(76,0),(77,0),(78,0),(79,0),(80,0),(114,31),(998,3)], [(none,[],[((73,1),(0,0,0),none),((74,1),(0,0,0),none),((75,1),(4,4,0),none),((76,1),(2,2,0),none),((77,1),(13,13,0),none),((78,1),(0,0,0),none),((79,1),(0,0,0),none),((80,1),(0,0,0),none),((114,30),(560,560,0),none),((998,2),(1,1,0),none)])])
/-- NearSpellModel.goOn -/
def q681_M : rfM := ((⟨"NearSpellModel", "goOn", "()V"⟩, prog_14_method_9_code, 3, none), (4,300), ([.inr (.inl [114])],[((114,7),(0,1600,1),none)]), [(114,7),(114,8),(114,9),(114,10),(114,11),(998,2)], [(none,[],[((114,7),(0,1600,1),none),((114,8),(0,0,0),none),((998,1),(1,1,0),none)]),(none,[],[((114,7),(1,1600,1),some ((114,7),1,4294967296)),((114,8),(5,5,0),none),((998,1),(1,1,0),none)]),(none,[],[((114,7),(1,1600,1),some ((114,7),1,4294967296)),((114,8),(1,4,1),none),((998,1),(1,1,0),none)])])
/-- NearSpellModel.readWord -/
def q690_M : rfM := ((⟨"NearSpellModel", "readWord", "()V"⟩, prog_14_method_20_code, 3, none), (20,2000), ([.inr (.inl [114])],[((114,7),(0,1600,1),none),((998,1),(1,1,0),none)]), [(73,0),(81,0),(82,0),(114,5),(114,6),(114,7),(114,8),(114,9),(114,10),(114,11),(998,2)], [(none,[],[((114,7),(0,1600,1),none),((114,4),(1,4,1),none)]),(none,[],[((114,7),(0,1600,1),some ((114,7),0,4294967296)),((114,4),(0,0,1),none),((114,8),(1,4,1),none)]),(none,[],[((114,7),(0,1600,1),some ((114,7),1,4294967296)),((114,4),(0,0,1),none),((114,8),(5,5,1),none)]),(none,[],[((114,7),(0,1600,1),none),((114,4),(0,0,1),none),((114,8),(0,0,1),none)])])
/-- NearSpellModel.readWord -/
def q691_M : rfM := ((⟨"NearSpellModel", "readWord", "()V"⟩, prog_14_method_20_code, 3, none), (20,2000), ([.inr (.inl [114])],[((114,7),(0,1600,1),none),((114,8),(0,0,1),none),((998,1),(1,1,0),none)]), [(73,0),(81,0),(82,0),(114,5),(114,6),(114,7),(114,8),(114,9),(114,10),(114,11),(998,2)], [(none,[],[((114,7),(0,1600,1),none),((114,4),(1,4,1),none)])])
/-- NearSpellModel.readRule -/
def q710_M : rfM := ((⟨"NearSpellModel", "readRule", "()V"⟩, prog_14_method_21_code, 1, none), (20,2000), ([.inr (.inl [114])],[((114,7),(0,1600,1),none),((998,0),(1,1,0),none),((998,2),(1,1,0),none)]), [(74,0),(80,0),(83,0),(84,0),(85,0),(86,0),(87,0),(88,0),(114,5),(114,6),(114,7),(114,8),(114,9),(114,10),(114,11),(114,31),(114,32),(114,33),(114,34),(998,1),(998,2),(998,3)], [(none,[],[((114,7),(0,1600,1),none),((114,4),(1,4,1),none),((998,0),(1,1,0),none)]),(none,[],[((114,7),(0,1600,1),some ((114,7),0,4294967296)),((114,4),(0,0,1),none),((114,8),(1,4,1),none),((998,0),(1,1,0),none),((998,2),(1,1,0),none)]),(none,[],[((114,7),(0,1600,1),some ((114,7),1,4294967296)),((114,4),(0,0,1),none),((114,8),(5,5,1),none),((998,0),(1,1,0),none),((998,2),(1,1,0),none)]),(none,[],[((114,7),(0,1600,1),none),((114,4),(0,0,1),none),((114,8),(0,0,1),none),((998,0),(1,1,0),none),((998,2),(1,1,0),none)])])
/-- NearSpellModel.readRule -/
def q711_M : rfM := ((⟨"NearSpellModel", "readRule", "()V"⟩, prog_14_method_21_code, 1, none), (20,2000), ([.inr (.inl [114])],[((114,7),(0,1600,1),none),((114,8),(0,0,1),none),((998,0),(1,1,0),none),((998,2),(1,1,0),none)]), [(74,0),(80,0),(83,0),(84,0),(85,0),(86,0),(87,0),(88,0),(114,5),(114,6),(114,7),(114,8),(114,9),(114,10),(114,11),(114,31),(114,32),(114,33),(114,34),(998,1),(998,2),(998,3)], [(none,[],[((114,7),(0,1600,1),none),((114,4),(1,4,1),none),((998,0),(1,1,0),none)])])
/-- NearSpellModel.readRule -/
def q712_M : rfM := ((⟨"NearSpellModel", "readRule", "()V"⟩, prog_14_method_21_code, 1, none), (20,2000), ([.inr (.inl [114])],[((114,4),(1,4,1),none),((114,7),(0,1600,1),none),((998,0),(1,1,0),none),((998,2),(1,1,0),none)]), [(74,0),(80,0),(83,0),(84,0),(85,0),(86,0),(87,0),(88,0),(114,5),(114,6),(114,7),(114,8),(114,9),(114,10),(114,11),(114,31),(114,32),(114,33),(114,34),(998,1),(998,2),(998,3)], [(none,[],[((114,7),(0,1600,1),none),((114,4),(1,4,1),none),((998,0),(1,1,0),none)])])
/-- NearSpellModel.clearBank -/
def q757_M : rfM := ((⟨"NearSpellModel", "clearBank", "()V"⟩, prog_14_method_15_code, 1, none), (20,2000), ([.inr (.inl [114])],[((77,1),(1,31,1),none),((114,29),(0,0,0),none)]), [(73,0),(74,0),(75,0),(76,0),(77,0),(78,0),(79,0),(80,0),(114,31),(998,3)], [(none,[],[((73,0),(0,0,0),none),((74,0),(0,0,0),none),((75,0),(4,4,0),none),((76,0),(2,2,0),none),((77,0),(13,13,0),none),((77,1),(1,31,1),none),((78,0),(0,0,0),none),((79,0),(0,0,0),none),((80,0),(0,0,0),none),((114,30),(0,0,0),none),((998,2),(1,1,0),none)])])
/-- NearSpellModel.comes -/
def q851_M : rfM := ((⟨"NearSpellModel", "comes", "()I"⟩, prog_14_method_32_code, 4, (some .int)), (20,2000), ([.inr (.inl [114])],[((998,0),(1,1,0),none)]), [(89,0)], [(some (.inl (((-2147483648),2147483647,1),none)),[],[])])
/-- NearSpellModel.stepsNow -/
def q864_M : rfM := ((⟨"NearSpellModel", "stepsNow", "()I"⟩, prog_14_method_61_code, 2, (some .int)), (20,2000), ([.inr (.inl [114])],[]), [(96,0),(97,0)], [(some (.inl ((0,12,1),none)),[],[])])
/-- NearSpellModel.near -/
def q1000_M : rfM := ((⟨"NearSpellModel", "near", "(II)I"⟩, prog_14_method_77_code, 5, (some .int)), (40,4000), ([.inr (.inl [114]),.inl (((-2147483648),2147483647,1),none),.inl (((-2147483648),2147483647,1),none)],[((114,28),(0,0,0),none),((998,0),(1,1,0),none)]), [(89,0),(91,0),(92,0),(93,0),(94,0),(95,0),(96,0),(97,0),(98,0),(99,0),(114,35),(114,40),(114,45),(114,46),(114,49)], [(some (.inl (((-2147483648),2147483647,1),none)),[],[])])
/-- NearSpellModel.near -/
def q1001_M : rfM := ((⟨"NearSpellModel", "near", "(II)I"⟩, prog_14_method_77_code, 5, (some .int)), (40,4000), ([.inr (.inl [114]),.inl (((-2147483648),2147483647,1),none),.inl (((-2147483648),2147483647,1),none)],[((77,1),(1,31,1),none),((114,28),(1,1,0),none),((998,0),(1,1,0),none)]), [(89,0),(91,0),(92,0),(93,0),(94,0),(95,0),(96,0),(97,0),(98,0),(99,0),(114,35),(114,40),(114,45),(114,46),(114,49)], [(some (.inl (((-2147483648),2147483647,1),none)),[],[])])
/-- NearSpellModel.groups -/
def q1054_M : rfM := ((⟨"NearSpellModel", "groups", "(I)I"⟩, prog_14_method_90_code, 6, (some .int)), (40,4000), ([.inr (.inl [114]),.inl (((-2147483648),2147483647,1),none)],[]), [(94,0),(95,0),(96,0),(97,0),(102,0),(103,0),(114,45),(114,46)], [(some (.inl (((-2147483648),2147483647,1),none)),[],[])])
def w1 : List rfM := [q680_M, q681_M, q757_M, q851_M, q864_M]
def w1OK (G : rfG) : Prop := ∀ M ∈ w1, rf_met G M
theorem q680_met {G : rfG} (h : okG G) (hh : w1OK G) : rf_met G q680_M := hh _ (List.mem_of_getElem? (i := 0) rfl)
theorem q681_met {G : rfG} (h : okG G) (hh : w1OK G) : rf_met G q681_M := hh _ (List.mem_of_getElem? (i := 1) rfl)
theorem q757_met {G : rfG} (h : okG G) (hh : w1OK G) : rf_met G q757_M := hh _ (List.mem_of_getElem? (i := 2) rfl)
theorem q851_met {G : rfG} (h : okG G) (hh : w1OK G) : rf_met G q851_M := hh _ (List.mem_of_getElem? (i := 3) rfl)
theorem q864_met {G : rfG} (h : okG G) (hh : w1OK G) : rf_met G q864_M := hh _ (List.mem_of_getElem? (i := 4) rfl)
def w2 : List rfM := [q690_M, q691_M, q710_M, q711_M, q712_M, q1000_M, q1001_M, q1054_M]
def w2OK (G : rfG) : Prop := ∀ M ∈ w2, rf_met G M
theorem q690_met {G : rfG} (h : okG G) (hh : w1OK G) (h2 : w2OK G) : rf_met G q690_M := h2 _ (List.mem_of_getElem? (i := 0) rfl)
theorem q691_met {G : rfG} (h : okG G) (hh : w1OK G) (h2 : w2OK G) : rf_met G q691_M := h2 _ (List.mem_of_getElem? (i := 1) rfl)
theorem q710_met {G : rfG} (h : okG G) (hh : w1OK G) (h2 : w2OK G) : rf_met G q710_M := h2 _ (List.mem_of_getElem? (i := 2) rfl)
theorem q711_met {G : rfG} (h : okG G) (hh : w1OK G) (h2 : w2OK G) : rf_met G q711_M := h2 _ (List.mem_of_getElem? (i := 3) rfl)
theorem q712_met {G : rfG} (h : okG G) (hh : w1OK G) (h2 : w2OK G) : rf_met G q712_M := h2 _ (List.mem_of_getElem? (i := 4) rfl)
theorem q1000_met {G : rfG} (h : okG G) (hh : w1OK G) (h2 : w2OK G) : rf_met G q1000_M := h2 _ (List.mem_of_getElem? (i := 5) rfl)
theorem q1001_met {G : rfG} (h : okG G) (hh : w1OK G) (h2 : w2OK G) : rf_met G q1001_M := h2 _ (List.mem_of_getElem? (i := 6) rfl)
theorem q1054_met {G : rfG} (h : okG G) (hh : w1OK G) (h2 : w2OK G) : rf_met G q1054_M := h2 _ (List.mem_of_getElem? (i := 7) rfl)
def rf_decb (cc : ByteArray) (dec : List (Nat × Instr × Nat)) : Bool := dec.all (fun q => decide (decode cc q.1 = .ok (q.2.1, q.2.2)))
theorem rf_decs_of {cc : ByteArray} {dec : List (Nat × Instr × Nat)} (h : rf_decb cc dec = true) : rf_decs cc dec := fun q hq => by
  have := List.all_eq_true.mp h q hq
  simpa using this
