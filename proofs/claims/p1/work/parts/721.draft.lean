set_option maxRecDepth 20000 in
theorem wm535 : (Jvm.Cond.methodLink "NearSpellLaw" (13 : Nat) ({ cls := "NearSpell", name := "feed", desc := "(IIIII)I" } : Jvm.MethodName)) ∈ wTs := wmem (i := 535) (by decide +kernel) (by decide +kernel)
set_option maxRecDepth 20000 in
theorem wm538 : (Jvm.Cond.code ({ cls := "NearSpell", name := "feed", desc := "(IIIII)I" } : Jvm.MethodName) prog_1_method_2_code (6 : Nat) (Option.some Jvm.ClassFile.FieldType.int)) ∈ wTs := wmem (i := 538) (by decide +kernel) (by decide +kernel)
set_option maxRecDepth 20000 in
theorem wm536 : (Jvm.Cond.instanceMethod ({ cls := "NearSpell", name := "feed", desc := "(IIIII)I" } : Jvm.MethodName)) ∈ wTs := wmem (i := 536) (by decide +kernel) (by decide +kernel)
set_option maxRecDepth 20000 in
theorem wm537 : (Jvm.Cond.selects "NearSpell" ({ cls := "NearSpell", name := "feed", desc := "(IIIII)I" } : Jvm.MethodName) ({ cls := "NearSpell", name := "feed", desc := "(IIIII)I" } : Jvm.MethodName)) ∈ wTs := wmem (i := 537) (by decide +kernel) (by decide +kernel)
set_option maxRecDepth 20000 in
theorem wm2115 : (Jvm.Cond.methodLink "NearSpellLaw" (17 : Nat) ({ cls := "NearSpellModel", name := "feed", desc := "(IIIII)I" } : Jvm.MethodName)) ∈ wTs := wmem (i := 2115) (by decide +kernel) (by decide +kernel)
set_option maxRecDepth 20000 in
theorem wm2118 : (Jvm.Cond.code ({ cls := "NearSpellModel", name := "feed", desc := "(IIIII)I" } : Jvm.MethodName) prog_14_method_128_code (8 : Nat) (Option.some Jvm.ClassFile.FieldType.int)) ∈ wTs := wmem (i := 2118) (by decide +kernel) (by decide +kernel)
set_option maxRecDepth 20000 in
theorem wm2116 : (Jvm.Cond.instanceMethod ({ cls := "NearSpellModel", name := "feed", desc := "(IIIII)I" } : Jvm.MethodName)) ∈ wTs := wmem (i := 2116) (by decide +kernel) (by decide +kernel)
set_option maxRecDepth 20000 in
theorem wm2117 : (Jvm.Cond.selects "NearSpellModel" ({ cls := "NearSpellModel", name := "feed", desc := "(IIIII)I" } : Jvm.MethodName) ({ cls := "NearSpellModel", name := "feed", desc := "(IIIII)I" } : Jvm.MethodName)) ∈ wTs := wmem (i := 2117) (by decide +kernel) (by decide +kernel)
set_option maxRecDepth 20000 in
theorem wm543 : (Jvm.Cond.methodLink "NearSpellLaw" (18 : Nat) ({ cls := "NearSpell", name := "end", desc := "(I)I" } : Jvm.MethodName)) ∈ wTs := wmem (i := 543) (by decide +kernel) (by decide +kernel)
set_option maxRecDepth 20000 in
theorem wm546 : (Jvm.Cond.code ({ cls := "NearSpell", name := "end", desc := "(I)I" } : Jvm.MethodName) prog_1_method_3_code (2 : Nat) (Option.some Jvm.ClassFile.FieldType.int)) ∈ wTs := wmem (i := 546) (by decide +kernel) (by decide +kernel)
set_option maxRecDepth 20000 in
theorem wm544 : (Jvm.Cond.instanceMethod ({ cls := "NearSpell", name := "end", desc := "(I)I" } : Jvm.MethodName)) ∈ wTs := wmem (i := 544) (by decide +kernel) (by decide +kernel)
set_option maxRecDepth 20000 in
theorem wm545 : (Jvm.Cond.selects "NearSpell" ({ cls := "NearSpell", name := "end", desc := "(I)I" } : Jvm.MethodName) ({ cls := "NearSpell", name := "end", desc := "(I)I" } : Jvm.MethodName)) ∈ wTs := wmem (i := 545) (by decide +kernel) (by decide +kernel)
set_option maxRecDepth 20000 in
theorem wm2119 : (Jvm.Cond.methodLink "NearSpellLaw" (22 : Nat) ({ cls := "NearSpellModel", name := "end", desc := "(I)I" } : Jvm.MethodName)) ∈ wTs := wmem (i := 2119) (by decide +kernel) (by decide +kernel)
set_option maxRecDepth 20000 in
theorem wm2122 : (Jvm.Cond.code ({ cls := "NearSpellModel", name := "end", desc := "(I)I" } : Jvm.MethodName) prog_14_method_129_code (2 : Nat) (Option.some Jvm.ClassFile.FieldType.int)) ∈ wTs := wmem (i := 2122) (by decide +kernel) (by decide +kernel)
set_option maxRecDepth 20000 in
theorem wm2120 : (Jvm.Cond.instanceMethod ({ cls := "NearSpellModel", name := "end", desc := "(I)I" } : Jvm.MethodName)) ∈ wTs := wmem (i := 2120) (by decide +kernel) (by decide +kernel)
set_option maxRecDepth 20000 in
theorem wm2121 : (Jvm.Cond.selects "NearSpellModel" ({ cls := "NearSpellModel", name := "end", desc := "(I)I" } : Jvm.MethodName) ({ cls := "NearSpellModel", name := "end", desc := "(I)I" } : Jvm.MethodName)) ∈ wTs := wmem (i := 2121) (by decide +kernel) (by decide +kernel)
set_option maxRecDepth 20000 in
theorem wm547 : (Jvm.Cond.methodLink "NearSpellLaw" (23 : Nat) ({ cls := "NearSpell", name := "book", desc := "()I" } : Jvm.MethodName)) ∈ wTs := wmem (i := 547) (by decide +kernel) (by decide +kernel)
set_option maxRecDepth 20000 in
theorem wm550 : (Jvm.Cond.code ({ cls := "NearSpell", name := "book", desc := "()I" } : Jvm.MethodName) prog_1_method_4_code (1 : Nat) (Option.some Jvm.ClassFile.FieldType.int)) ∈ wTs := wmem (i := 550) (by decide +kernel) (by decide +kernel)
set_option maxRecDepth 20000 in
theorem wm548 : (Jvm.Cond.instanceMethod ({ cls := "NearSpell", name := "book", desc := "()I" } : Jvm.MethodName)) ∈ wTs := wmem (i := 548) (by decide +kernel) (by decide +kernel)
set_option maxRecDepth 20000 in
theorem wm549 : (Jvm.Cond.selects "NearSpell" ({ cls := "NearSpell", name := "book", desc := "()I" } : Jvm.MethodName) ({ cls := "NearSpell", name := "book", desc := "()I" } : Jvm.MethodName)) ∈ wTs := wmem (i := 549) (by decide +kernel) (by decide +kernel)
set_option maxRecDepth 20000 in
theorem wm1618 : (Jvm.Cond.methodLink "NearSpellLaw" (27 : Nat) ({ cls := "NearSpellModel", name := "book", desc := "()I" } : Jvm.MethodName)) ∈ wTs := wmem (i := 1618) (by decide +kernel) (by decide +kernel)
set_option maxRecDepth 20000 in
theorem wm1621 : (Jvm.Cond.code ({ cls := "NearSpellModel", name := "book", desc := "()I" } : Jvm.MethodName) prog_14_method_16_code (2 : Nat) (Option.some Jvm.ClassFile.FieldType.int)) ∈ wTs := wmem (i := 1621) (by decide +kernel) (by decide +kernel)
set_option maxRecDepth 20000 in
theorem wm1619 : (Jvm.Cond.instanceMethod ({ cls := "NearSpellModel", name := "book", desc := "()I" } : Jvm.MethodName)) ∈ wTs := wmem (i := 1619) (by decide +kernel) (by decide +kernel)
set_option maxRecDepth 20000 in
theorem wm1620 : (Jvm.Cond.selects "NearSpellModel" ({ cls := "NearSpellModel", name := "book", desc := "()I" } : Jvm.MethodName) ({ cls := "NearSpellModel", name := "book", desc := "()I" } : Jvm.MethodName)) ∈ wTs := wmem (i := 1620) (by decide +kernel) (by decide +kernel)
set_option maxRecDepth 20000 in
theorem wm785 : (Jvm.Cond.methodLink "NearSpellLaw" (28 : Nat) ({ cls := "NearSpell", name := "fault", desc := "(I)I" } : Jvm.MethodName)) ∈ wTs := wmem (i := 785) (by decide +kernel) (by decide +kernel)
set_option maxRecDepth 20000 in
theorem wm788 : (Jvm.Cond.code ({ cls := "NearSpell", name := "fault", desc := "(I)I" } : Jvm.MethodName) prog_1_method_5_code (2 : Nat) (Option.some Jvm.ClassFile.FieldType.int)) ∈ wTs := wmem (i := 788) (by decide +kernel) (by decide +kernel)
set_option maxRecDepth 20000 in
theorem wm786 : (Jvm.Cond.instanceMethod ({ cls := "NearSpell", name := "fault", desc := "(I)I" } : Jvm.MethodName)) ∈ wTs := wmem (i := 786) (by decide +kernel) (by decide +kernel)
set_option maxRecDepth 20000 in
theorem wm787 : (Jvm.Cond.selects "NearSpell" ({ cls := "NearSpell", name := "fault", desc := "(I)I" } : Jvm.MethodName) ({ cls := "NearSpell", name := "fault", desc := "(I)I" } : Jvm.MethodName)) ∈ wTs := wmem (i := 787) (by decide +kernel) (by decide +kernel)
set_option maxRecDepth 20000 in
theorem wm1739 : (Jvm.Cond.methodLink "NearSpellLaw" (31 : Nat) ({ cls := "NearSpellModel", name := "fault", desc := "(I)I" } : Jvm.MethodName)) ∈ wTs := wmem (i := 1739) (by decide +kernel) (by decide +kernel)
set_option maxRecDepth 20000 in
theorem wm1742 : (Jvm.Cond.code ({ cls := "NearSpellModel", name := "fault", desc := "(I)I" } : Jvm.MethodName) prog_14_method_34_code (2 : Nat) (Option.some Jvm.ClassFile.FieldType.int)) ∈ wTs := wmem (i := 1742) (by decide +kernel) (by decide +kernel)
set_option maxRecDepth 20000 in
theorem wm1740 : (Jvm.Cond.instanceMethod ({ cls := "NearSpellModel", name := "fault", desc := "(I)I" } : Jvm.MethodName)) ∈ wTs := wmem (i := 1740) (by decide +kernel) (by decide +kernel)
set_option maxRecDepth 20000 in
theorem wm1741 : (Jvm.Cond.selects "NearSpellModel" ({ cls := "NearSpellModel", name := "fault", desc := "(I)I" } : Jvm.MethodName) ({ cls := "NearSpellModel", name := "fault", desc := "(I)I" } : Jvm.MethodName)) ∈ wTs := wmem (i := 1741) (by decide +kernel) (by decide +kernel)
set_option maxRecDepth 20000 in
theorem wm789 : (Jvm.Cond.methodLink "NearSpellLaw" (32 : Nat) ({ cls := "NearSpell", name := "entry", desc := "(II)I" } : Jvm.MethodName)) ∈ wTs := wmem (i := 789) (by decide +kernel) (by decide +kernel)
set_option maxRecDepth 20000 in
theorem wm792 : (Jvm.Cond.code ({ cls := "NearSpell", name := "entry", desc := "(II)I" } : Jvm.MethodName) prog_1_method_6_code (3 : Nat) (Option.some Jvm.ClassFile.FieldType.int)) ∈ wTs := wmem (i := 792) (by decide +kernel) (by decide +kernel)
set_option maxRecDepth 20000 in
theorem wm790 : (Jvm.Cond.instanceMethod ({ cls := "NearSpell", name := "entry", desc := "(II)I" } : Jvm.MethodName)) ∈ wTs := wmem (i := 790) (by decide +kernel) (by decide +kernel)
set_option maxRecDepth 20000 in
theorem wm791 : (Jvm.Cond.selects "NearSpell" ({ cls := "NearSpell", name := "entry", desc := "(II)I" } : Jvm.MethodName) ({ cls := "NearSpell", name := "entry", desc := "(II)I" } : Jvm.MethodName)) ∈ wTs := wmem (i := 791) (by decide +kernel) (by decide +kernel)
set_option maxRecDepth 20000 in
theorem wm1743 : (Jvm.Cond.methodLink "NearSpellLaw" (36 : Nat) ({ cls := "NearSpellModel", name := "entry", desc := "(II)I" } : Jvm.MethodName)) ∈ wTs := wmem (i := 1743) (by decide +kernel) (by decide +kernel)
set_option maxRecDepth 20000 in
theorem wm1746 : (Jvm.Cond.code ({ cls := "NearSpellModel", name := "entry", desc := "(II)I" } : Jvm.MethodName) prog_14_method_68_code (3 : Nat) (Option.some Jvm.ClassFile.FieldType.int)) ∈ wTs := wmem (i := 1746) (by decide +kernel) (by decide +kernel)
set_option maxRecDepth 20000 in
theorem wm1744 : (Jvm.Cond.instanceMethod ({ cls := "NearSpellModel", name := "entry", desc := "(II)I" } : Jvm.MethodName)) ∈ wTs := wmem (i := 1744) (by decide +kernel) (by decide +kernel)
set_option maxRecDepth 20000 in
theorem wm1745 : (Jvm.Cond.selects "NearSpellModel" ({ cls := "NearSpellModel", name := "entry", desc := "(II)I" } : Jvm.MethodName) ({ cls := "NearSpellModel", name := "entry", desc := "(II)I" } : Jvm.MethodName)) ∈ wTs := wmem (i := 1745) (by decide +kernel) (by decide +kernel)
set_option maxRecDepth 20000 in
theorem wm838 : (Jvm.Cond.methodLink "NearSpellLaw" (37 : Nat) ({ cls := "NearSpell", name := "learn", desc := "(II)I" } : Jvm.MethodName)) ∈ wTs := wmem (i := 838) (by decide +kernel) (by decide +kernel)
set_option maxRecDepth 20000 in
theorem wm841 : (Jvm.Cond.code ({ cls := "NearSpell", name := "learn", desc := "(II)I" } : Jvm.MethodName) prog_1_method_7_code (4 : Nat) (Option.some Jvm.ClassFile.FieldType.int)) ∈ wTs := wmem (i := 841) (by decide +kernel) (by decide +kernel)
set_option maxRecDepth 20000 in
theorem wm839 : (Jvm.Cond.instanceMethod ({ cls := "NearSpell", name := "learn", desc := "(II)I" } : Jvm.MethodName)) ∈ wTs := wmem (i := 839) (by decide +kernel) (by decide +kernel)
set_option maxRecDepth 20000 in
theorem wm840 : (Jvm.Cond.selects "NearSpell" ({ cls := "NearSpell", name := "learn", desc := "(II)I" } : Jvm.MethodName) ({ cls := "NearSpell", name := "learn", desc := "(II)I" } : Jvm.MethodName)) ∈ wTs := wmem (i := 840) (by decide +kernel) (by decide +kernel)
set_option maxRecDepth 20000 in
theorem wm2015 : (Jvm.Cond.methodLink "NearSpellLaw" (40 : Nat) ({ cls := "NearSpellModel", name := "learn", desc := "(II)I" } : Jvm.MethodName)) ∈ wTs := wmem (i := 2015) (by decide +kernel) (by decide +kernel)
set_option maxRecDepth 20000 in
theorem wm2018 : (Jvm.Cond.code ({ cls := "NearSpellModel", name := "learn", desc := "(II)I" } : Jvm.MethodName) prog_14_method_108_code (4 : Nat) (Option.some Jvm.ClassFile.FieldType.int)) ∈ wTs := wmem (i := 2018) (by decide +kernel) (by decide +kernel)
set_option maxRecDepth 20000 in
theorem wm2016 : (Jvm.Cond.instanceMethod ({ cls := "NearSpellModel", name := "learn", desc := "(II)I" } : Jvm.MethodName)) ∈ wTs := wmem (i := 2016) (by decide +kernel) (by decide +kernel)
set_option maxRecDepth 20000 in
theorem wm2017 : (Jvm.Cond.selects "NearSpellModel" ({ cls := "NearSpellModel", name := "learn", desc := "(II)I" } : Jvm.MethodName) ({ cls := "NearSpellModel", name := "learn", desc := "(II)I" } : Jvm.MethodName)) ∈ wTs := wmem (i := 2017) (by decide +kernel) (by decide +kernel)
set_option maxRecDepth 20000 in
theorem wm860 : (Jvm.Cond.methodLink "NearSpellLaw" (41 : Nat) ({ cls := "NearSpell", name := "forget", desc := "(I)I" } : Jvm.MethodName)) ∈ wTs := wmem (i := 860) (by decide +kernel) (by decide +kernel)
set_option maxRecDepth 20000 in
theorem wm863 : (Jvm.Cond.code ({ cls := "NearSpell", name := "forget", desc := "(I)I" } : Jvm.MethodName) prog_1_method_8_code (2 : Nat) (Option.some Jvm.ClassFile.FieldType.int)) ∈ wTs := wmem (i := 863) (by decide +kernel) (by decide +kernel)
set_option maxRecDepth 20000 in
theorem wm861 : (Jvm.Cond.instanceMethod ({ cls := "NearSpell", name := "forget", desc := "(I)I" } : Jvm.MethodName)) ∈ wTs := wmem (i := 861) (by decide +kernel) (by decide +kernel)
set_option maxRecDepth 20000 in
theorem wm862 : (Jvm.Cond.selects "NearSpell" ({ cls := "NearSpell", name := "forget", desc := "(I)I" } : Jvm.MethodName) ({ cls := "NearSpell", name := "forget", desc := "(I)I" } : Jvm.MethodName)) ∈ wTs := wmem (i := 862) (by decide +kernel) (by decide +kernel)
set_option maxRecDepth 20000 in
theorem wm2027 : (Jvm.Cond.methodLink "NearSpellLaw" (44 : Nat) ({ cls := "NearSpellModel", name := "forget", desc := "(I)I" } : Jvm.MethodName)) ∈ wTs := wmem (i := 2027) (by decide +kernel) (by decide +kernel)
set_option maxRecDepth 20000 in
theorem wm2030 : (Jvm.Cond.code ({ cls := "NearSpellModel", name := "forget", desc := "(I)I" } : Jvm.MethodName) prog_14_method_109_code (2 : Nat) (Option.some Jvm.ClassFile.FieldType.int)) ∈ wTs := wmem (i := 2030) (by decide +kernel) (by decide +kernel)
set_option maxRecDepth 20000 in
theorem wm2028 : (Jvm.Cond.instanceMethod ({ cls := "NearSpellModel", name := "forget", desc := "(I)I" } : Jvm.MethodName)) ∈ wTs := wmem (i := 2028) (by decide +kernel) (by decide +kernel)
set_option maxRecDepth 20000 in
theorem wm2029 : (Jvm.Cond.selects "NearSpellModel" ({ cls := "NearSpellModel", name := "forget", desc := "(I)I" } : Jvm.MethodName) ({ cls := "NearSpellModel", name := "forget", desc := "(I)I" } : Jvm.MethodName)) ∈ wTs := wmem (i := 2029) (by decide +kernel) (by decide +kernel)
set_option maxRecDepth 20000 in
theorem wm872 : (Jvm.Cond.methodLink "NearSpellLaw" (45 : Nat) ({ cls := "NearSpell", name := "use", desc := "(I)I" } : Jvm.MethodName)) ∈ wTs := wmem (i := 872) (by decide +kernel) (by decide +kernel)
set_option maxRecDepth 20000 in
theorem wm875 : (Jvm.Cond.code ({ cls := "NearSpell", name := "use", desc := "(I)I" } : Jvm.MethodName) prog_1_method_9_code (2 : Nat) (Option.some Jvm.ClassFile.FieldType.int)) ∈ wTs := wmem (i := 875) (by decide +kernel) (by decide +kernel)
set_option maxRecDepth 20000 in
theorem wm873 : (Jvm.Cond.instanceMethod ({ cls := "NearSpell", name := "use", desc := "(I)I" } : Jvm.MethodName)) ∈ wTs := wmem (i := 873) (by decide +kernel) (by decide +kernel)
set_option maxRecDepth 20000 in
theorem wm874 : (Jvm.Cond.selects "NearSpell" ({ cls := "NearSpell", name := "use", desc := "(I)I" } : Jvm.MethodName) ({ cls := "NearSpell", name := "use", desc := "(I)I" } : Jvm.MethodName)) ∈ wTs := wmem (i := 874) (by decide +kernel) (by decide +kernel)
set_option maxRecDepth 20000 in
theorem wm2031 : (Jvm.Cond.methodLink "NearSpellLaw" (48 : Nat) ({ cls := "NearSpellModel", name := "use", desc := "(I)I" } : Jvm.MethodName)) ∈ wTs := wmem (i := 2031) (by decide +kernel) (by decide +kernel)
set_option maxRecDepth 20000 in
theorem wm2034 : (Jvm.Cond.code ({ cls := "NearSpellModel", name := "use", desc := "(I)I" } : Jvm.MethodName) prog_14_method_110_code (2 : Nat) (Option.some Jvm.ClassFile.FieldType.int)) ∈ wTs := wmem (i := 2034) (by decide +kernel) (by decide +kernel)
set_option maxRecDepth 20000 in
theorem wm2032 : (Jvm.Cond.instanceMethod ({ cls := "NearSpellModel", name := "use", desc := "(I)I" } : Jvm.MethodName)) ∈ wTs := wmem (i := 2032) (by decide +kernel) (by decide +kernel)
set_option maxRecDepth 20000 in
theorem wm2033 : (Jvm.Cond.selects "NearSpellModel" ({ cls := "NearSpellModel", name := "use", desc := "(I)I" } : Jvm.MethodName) ({ cls := "NearSpellModel", name := "use", desc := "(I)I" } : Jvm.MethodName)) ∈ wTs := wmem (i := 2033) (by decide +kernel) (by decide +kernel)
set_option maxRecDepth 20000 in
theorem wm880 : (Jvm.Cond.methodLink "NearSpellLaw" (49 : Nat) ({ cls := "NearSpell", name := "type", desc := "(I)I" } : Jvm.MethodName)) ∈ wTs := wmem (i := 880) (by decide +kernel) (by decide +kernel)
set_option maxRecDepth 20000 in
theorem wm883 : (Jvm.Cond.code ({ cls := "NearSpell", name := "type", desc := "(I)I" } : Jvm.MethodName) prog_1_method_10_code (3 : Nat) (Option.some Jvm.ClassFile.FieldType.int)) ∈ wTs := wmem (i := 883) (by decide +kernel) (by decide +kernel)
set_option maxRecDepth 20000 in
theorem wm881 : (Jvm.Cond.instanceMethod ({ cls := "NearSpell", name := "type", desc := "(I)I" } : Jvm.MethodName)) ∈ wTs := wmem (i := 881) (by decide +kernel) (by decide +kernel)
set_option maxRecDepth 20000 in
theorem wm882 : (Jvm.Cond.selects "NearSpell" ({ cls := "NearSpell", name := "type", desc := "(I)I" } : Jvm.MethodName) ({ cls := "NearSpell", name := "type", desc := "(I)I" } : Jvm.MethodName)) ∈ wTs := wmem (i := 882) (by decide +kernel) (by decide +kernel)
set_option maxRecDepth 20000 in
theorem wm2035 : (Jvm.Cond.methodLink "NearSpellLaw" (52 : Nat) ({ cls := "NearSpellModel", name := "type", desc := "(I)I" } : Jvm.MethodName)) ∈ wTs := wmem (i := 2035) (by decide +kernel) (by decide +kernel)
set_option maxRecDepth 20000 in
theorem wm2038 : (Jvm.Cond.code ({ cls := "NearSpellModel", name := "type", desc := "(I)I" } : Jvm.MethodName) prog_14_method_111_code (3 : Nat) (Option.some Jvm.ClassFile.FieldType.int)) ∈ wTs := wmem (i := 2038) (by decide +kernel) (by decide +kernel)
set_option maxRecDepth 20000 in
theorem wm2036 : (Jvm.Cond.instanceMethod ({ cls := "NearSpellModel", name := "type", desc := "(I)I" } : Jvm.MethodName)) ∈ wTs := wmem (i := 2036) (by decide +kernel) (by decide +kernel)
set_option maxRecDepth 20000 in
theorem wm2037 : (Jvm.Cond.selects "NearSpellModel" ({ cls := "NearSpellModel", name := "type", desc := "(I)I" } : Jvm.MethodName) ({ cls := "NearSpellModel", name := "type", desc := "(I)I" } : Jvm.MethodName)) ∈ wTs := wmem (i := 2037) (by decide +kernel) (by decide +kernel)
set_option maxRecDepth 20000 in
theorem wm948 : (Jvm.Cond.methodLink "NearSpellLaw" (53 : Nat) ({ cls := "NearSpell", name := "wipe", desc := "()I" } : Jvm.MethodName)) ∈ wTs := wmem (i := 948) (by decide +kernel) (by decide +kernel)
set_option maxRecDepth 20000 in
theorem wm951 : (Jvm.Cond.code ({ cls := "NearSpell", name := "wipe", desc := "()I" } : Jvm.MethodName) prog_1_method_11_code (2 : Nat) (Option.some Jvm.ClassFile.FieldType.int)) ∈ wTs := wmem (i := 951) (by decide +kernel) (by decide +kernel)
set_option maxRecDepth 20000 in
theorem wm949 : (Jvm.Cond.instanceMethod ({ cls := "NearSpell", name := "wipe", desc := "()I" } : Jvm.MethodName)) ∈ wTs := wmem (i := 949) (by decide +kernel) (by decide +kernel)
set_option maxRecDepth 20000 in
theorem wm950 : (Jvm.Cond.selects "NearSpell" ({ cls := "NearSpell", name := "wipe", desc := "()I" } : Jvm.MethodName) ({ cls := "NearSpell", name := "wipe", desc := "()I" } : Jvm.MethodName)) ∈ wTs := wmem (i := 950) (by decide +kernel) (by decide +kernel)
set_option maxRecDepth 20000 in
theorem wm2039 : (Jvm.Cond.methodLink "NearSpellLaw" (56 : Nat) ({ cls := "NearSpellModel", name := "wipe", desc := "()I" } : Jvm.MethodName)) ∈ wTs := wmem (i := 2039) (by decide +kernel) (by decide +kernel)
set_option maxRecDepth 20000 in
theorem wm2042 : (Jvm.Cond.code ({ cls := "NearSpellModel", name := "wipe", desc := "()I" } : Jvm.MethodName) prog_14_method_112_code (2 : Nat) (Option.some Jvm.ClassFile.FieldType.int)) ∈ wTs := wmem (i := 2042) (by decide +kernel) (by decide +kernel)
set_option maxRecDepth 20000 in
theorem wm2040 : (Jvm.Cond.instanceMethod ({ cls := "NearSpellModel", name := "wipe", desc := "()I" } : Jvm.MethodName)) ∈ wTs := wmem (i := 2040) (by decide +kernel) (by decide +kernel)
set_option maxRecDepth 20000 in
theorem wm2041 : (Jvm.Cond.selects "NearSpellModel" ({ cls := "NearSpellModel", name := "wipe", desc := "()I" } : Jvm.MethodName) ({ cls := "NearSpellModel", name := "wipe", desc := "()I" } : Jvm.MethodName)) ∈ wTs := wmem (i := 2041) (by decide +kernel) (by decide +kernel)
set_option maxRecDepth 20000 in
theorem wm956 : (Jvm.Cond.methodLink "NearSpellLaw" (57 : Nat) ({ cls := "NearSpell", name := "undo", desc := "()Z" } : Jvm.MethodName)) ∈ wTs := wmem (i := 956) (by decide +kernel) (by decide +kernel)
set_option maxRecDepth 20000 in
theorem wm959 : (Jvm.Cond.code ({ cls := "NearSpell", name := "undo", desc := "()Z" } : Jvm.MethodName) prog_1_method_12_code (1 : Nat) (Option.some Jvm.ClassFile.FieldType.boolean)) ∈ wTs := wmem (i := 959) (by decide +kernel) (by decide +kernel)
set_option maxRecDepth 20000 in
theorem wm957 : (Jvm.Cond.instanceMethod ({ cls := "NearSpell", name := "undo", desc := "()Z" } : Jvm.MethodName)) ∈ wTs := wmem (i := 957) (by decide +kernel) (by decide +kernel)
set_option maxRecDepth 20000 in
theorem wm958 : (Jvm.Cond.selects "NearSpell" ({ cls := "NearSpell", name := "undo", desc := "()Z" } : Jvm.MethodName) ({ cls := "NearSpell", name := "undo", desc := "()Z" } : Jvm.MethodName)) ∈ wTs := wmem (i := 958) (by decide +kernel) (by decide +kernel)
set_option maxRecDepth 20000 in
theorem wm2043 : (Jvm.Cond.methodLink "NearSpellLaw" (61 : Nat) ({ cls := "NearSpellModel", name := "undo", desc := "()Z" } : Jvm.MethodName)) ∈ wTs := wmem (i := 2043) (by decide +kernel) (by decide +kernel)
set_option maxRecDepth 20000 in
theorem wm2046 : (Jvm.Cond.code ({ cls := "NearSpellModel", name := "undo", desc := "()Z" } : Jvm.MethodName) prog_14_method_113_code (1 : Nat) (Option.some Jvm.ClassFile.FieldType.boolean)) ∈ wTs := wmem (i := 2046) (by decide +kernel) (by decide +kernel)
set_option maxRecDepth 20000 in
theorem wm2044 : (Jvm.Cond.instanceMethod ({ cls := "NearSpellModel", name := "undo", desc := "()Z" } : Jvm.MethodName)) ∈ wTs := wmem (i := 2044) (by decide +kernel) (by decide +kernel)
set_option maxRecDepth 20000 in
theorem wm2045 : (Jvm.Cond.selects "NearSpellModel" ({ cls := "NearSpellModel", name := "undo", desc := "()Z" } : Jvm.MethodName) ({ cls := "NearSpellModel", name := "undo", desc := "()Z" } : Jvm.MethodName)) ∈ wTs := wmem (i := 2045) (by decide +kernel) (by decide +kernel)
set_option maxRecDepth 20000 in
theorem wm968 : (Jvm.Cond.methodLink "NearSpellLaw" (62 : Nat) ({ cls := "NearSpell", name := "redo", desc := "()Z" } : Jvm.MethodName)) ∈ wTs := wmem (i := 968) (by decide +kernel) (by decide +kernel)
set_option maxRecDepth 20000 in
theorem wm971 : (Jvm.Cond.code ({ cls := "NearSpell", name := "redo", desc := "()Z" } : Jvm.MethodName) prog_1_method_13_code (1 : Nat) (Option.some Jvm.ClassFile.FieldType.boolean)) ∈ wTs := wmem (i := 971) (by decide +kernel) (by decide +kernel)
set_option maxRecDepth 20000 in
theorem wm969 : (Jvm.Cond.instanceMethod ({ cls := "NearSpell", name := "redo", desc := "()Z" } : Jvm.MethodName)) ∈ wTs := wmem (i := 969) (by decide +kernel) (by decide +kernel)
set_option maxRecDepth 20000 in
theorem wm970 : (Jvm.Cond.selects "NearSpell" ({ cls := "NearSpell", name := "redo", desc := "()Z" } : Jvm.MethodName) ({ cls := "NearSpell", name := "redo", desc := "()Z" } : Jvm.MethodName)) ∈ wTs := wmem (i := 970) (by decide +kernel) (by decide +kernel)
set_option maxRecDepth 20000 in
theorem wm2051 : (Jvm.Cond.methodLink "NearSpellLaw" (65 : Nat) ({ cls := "NearSpellModel", name := "redo", desc := "()Z" } : Jvm.MethodName)) ∈ wTs := wmem (i := 2051) (by decide +kernel) (by decide +kernel)
set_option maxRecDepth 20000 in
theorem wm2054 : (Jvm.Cond.code ({ cls := "NearSpellModel", name := "redo", desc := "()Z" } : Jvm.MethodName) prog_14_method_114_code (1 : Nat) (Option.some Jvm.ClassFile.FieldType.boolean)) ∈ wTs := wmem (i := 2054) (by decide +kernel) (by decide +kernel)
set_option maxRecDepth 20000 in
theorem wm2052 : (Jvm.Cond.instanceMethod ({ cls := "NearSpellModel", name := "redo", desc := "()Z" } : Jvm.MethodName)) ∈ wTs := wmem (i := 2052) (by decide +kernel) (by decide +kernel)
set_option maxRecDepth 20000 in
theorem wm2053 : (Jvm.Cond.selects "NearSpellModel" ({ cls := "NearSpellModel", name := "redo", desc := "()Z" } : Jvm.MethodName) ({ cls := "NearSpellModel", name := "redo", desc := "()Z" } : Jvm.MethodName)) ∈ wTs := wmem (i := 2053) (by decide +kernel) (by decide +kernel)
set_option maxRecDepth 20000 in
theorem wm976 : (Jvm.Cond.methodLink "NearSpellLaw" (66 : Nat) ({ cls := "NearSpell", name := "typed", desc := "(I)I" } : Jvm.MethodName)) ∈ wTs := wmem (i := 976) (by decide +kernel) (by decide +kernel)
set_option maxRecDepth 20000 in
theorem wm979 : (Jvm.Cond.code ({ cls := "NearSpell", name := "typed", desc := "(I)I" } : Jvm.MethodName) prog_1_method_14_code (2 : Nat) (Option.some Jvm.ClassFile.FieldType.int)) ∈ wTs := wmem (i := 979) (by decide +kernel) (by decide +kernel)
set_option maxRecDepth 20000 in
theorem wm977 : (Jvm.Cond.instanceMethod ({ cls := "NearSpell", name := "typed", desc := "(I)I" } : Jvm.MethodName)) ∈ wTs := wmem (i := 977) (by decide +kernel) (by decide +kernel)
set_option maxRecDepth 20000 in
theorem wm978 : (Jvm.Cond.selects "NearSpell" ({ cls := "NearSpell", name := "typed", desc := "(I)I" } : Jvm.MethodName) ({ cls := "NearSpell", name := "typed", desc := "(I)I" } : Jvm.MethodName)) ∈ wTs := wmem (i := 978) (by decide +kernel) (by decide +kernel)
set_option maxRecDepth 20000 in
theorem wm1778 : (Jvm.Cond.methodLink "NearSpellLaw" (69 : Nat) ({ cls := "NearSpellModel", name := "typed", desc := "(I)I" } : Jvm.MethodName)) ∈ wTs := wmem (i := 1778) (by decide +kernel) (by decide +kernel)
set_option maxRecDepth 20000 in
theorem wm1781 : (Jvm.Cond.code ({ cls := "NearSpellModel", name := "typed", desc := "(I)I" } : Jvm.MethodName) prog_14_method_69_code (2 : Nat) (Option.some Jvm.ClassFile.FieldType.int)) ∈ wTs := wmem (i := 1781) (by decide +kernel) (by decide +kernel)
set_option maxRecDepth 20000 in
theorem wm1779 : (Jvm.Cond.instanceMethod ({ cls := "NearSpellModel", name := "typed", desc := "(I)I" } : Jvm.MethodName)) ∈ wTs := wmem (i := 1779) (by decide +kernel) (by decide +kernel)
set_option maxRecDepth 20000 in
theorem wm1780 : (Jvm.Cond.selects "NearSpellModel" ({ cls := "NearSpellModel", name := "typed", desc := "(I)I" } : Jvm.MethodName) ({ cls := "NearSpellModel", name := "typed", desc := "(I)I" } : Jvm.MethodName)) ∈ wTs := wmem (i := 1780) (by decide +kernel) (by decide +kernel)
set_option maxRecDepth 20000 in
theorem wm984 : (Jvm.Cond.methodLink "NearSpellLaw" (70 : Nat) ({ cls := "NearSpell", name := "distance", desc := "(II)I" } : Jvm.MethodName)) ∈ wTs := wmem (i := 984) (by decide +kernel) (by decide +kernel)
set_option maxRecDepth 20000 in
theorem wm987 : (Jvm.Cond.code ({ cls := "NearSpell", name := "distance", desc := "(II)I" } : Jvm.MethodName) prog_1_method_15_code (3 : Nat) (Option.some Jvm.ClassFile.FieldType.int)) ∈ wTs := wmem (i := 987) (by decide +kernel) (by decide +kernel)
set_option maxRecDepth 20000 in
theorem wm985 : (Jvm.Cond.instanceMethod ({ cls := "NearSpell", name := "distance", desc := "(II)I" } : Jvm.MethodName)) ∈ wTs := wmem (i := 985) (by decide +kernel) (by decide +kernel)
set_option maxRecDepth 20000 in
theorem wm986 : (Jvm.Cond.selects "NearSpell" ({ cls := "NearSpell", name := "distance", desc := "(II)I" } : Jvm.MethodName) ({ cls := "NearSpell", name := "distance", desc := "(II)I" } : Jvm.MethodName)) ∈ wTs := wmem (i := 986) (by decide +kernel) (by decide +kernel)
set_option maxRecDepth 20000 in
theorem wm1782 : (Jvm.Cond.methodLink "NearSpellLaw" (73 : Nat) ({ cls := "NearSpellModel", name := "distance", desc := "(II)I" } : Jvm.MethodName)) ∈ wTs := wmem (i := 1782) (by decide +kernel) (by decide +kernel)
set_option maxRecDepth 20000 in
theorem wm1785 : (Jvm.Cond.code ({ cls := "NearSpellModel", name := "distance", desc := "(II)I" } : Jvm.MethodName) prog_14_method_70_code (3 : Nat) (Option.some Jvm.ClassFile.FieldType.int)) ∈ wTs := wmem (i := 1785) (by decide +kernel) (by decide +kernel)
set_option maxRecDepth 20000 in
theorem wm1783 : (Jvm.Cond.instanceMethod ({ cls := "NearSpellModel", name := "distance", desc := "(II)I" } : Jvm.MethodName)) ∈ wTs := wmem (i := 1783) (by decide +kernel) (by decide +kernel)
set_option maxRecDepth 20000 in
theorem wm1784 : (Jvm.Cond.selects "NearSpellModel" ({ cls := "NearSpellModel", name := "distance", desc := "(II)I" } : Jvm.MethodName) ({ cls := "NearSpellModel", name := "distance", desc := "(II)I" } : Jvm.MethodName)) ∈ wTs := wmem (i := 1784) (by decide +kernel) (by decide +kernel)
set_option maxRecDepth 20000 in
theorem wm994 : (Jvm.Cond.methodLink "NearSpellLaw" (74 : Nat) ({ cls := "NearSpell", name := "forms", desc := "(I)I" } : Jvm.MethodName)) ∈ wTs := wmem (i := 994) (by decide +kernel) (by decide +kernel)
set_option maxRecDepth 20000 in
theorem wm997 : (Jvm.Cond.code ({ cls := "NearSpell", name := "forms", desc := "(I)I" } : Jvm.MethodName) prog_1_method_16_code (4 : Nat) (Option.some Jvm.ClassFile.FieldType.int)) ∈ wTs := wmem (i := 997) (by decide +kernel) (by decide +kernel)
set_option maxRecDepth 20000 in
theorem wm995 : (Jvm.Cond.instanceMethod ({ cls := "NearSpell", name := "forms", desc := "(I)I" } : Jvm.MethodName)) ∈ wTs := wmem (i := 995) (by decide +kernel) (by decide +kernel)
set_option maxRecDepth 20000 in
theorem wm996 : (Jvm.Cond.selects "NearSpell" ({ cls := "NearSpell", name := "forms", desc := "(I)I" } : Jvm.MethodName) ({ cls := "NearSpell", name := "forms", desc := "(I)I" } : Jvm.MethodName)) ∈ wTs := wmem (i := 996) (by decide +kernel) (by decide +kernel)
set_option maxRecDepth 20000 in
theorem wm1822 : (Jvm.Cond.methodLink "NearSpellLaw" (77 : Nat) ({ cls := "NearSpellModel", name := "forms", desc := "(I)I" } : Jvm.MethodName)) ∈ wTs := wmem (i := 1822) (by decide +kernel) (by decide +kernel)
set_option maxRecDepth 20000 in
theorem wm1825 : (Jvm.Cond.code ({ cls := "NearSpellModel", name := "forms", desc := "(I)I" } : Jvm.MethodName) prog_14_method_72_code (3 : Nat) (Option.some Jvm.ClassFile.FieldType.int)) ∈ wTs := wmem (i := 1825) (by decide +kernel) (by decide +kernel)
set_option maxRecDepth 20000 in
theorem wm1823 : (Jvm.Cond.instanceMethod ({ cls := "NearSpellModel", name := "forms", desc := "(I)I" } : Jvm.MethodName)) ∈ wTs := wmem (i := 1823) (by decide +kernel) (by decide +kernel)
set_option maxRecDepth 20000 in
theorem wm1824 : (Jvm.Cond.selects "NearSpellModel" ({ cls := "NearSpellModel", name := "forms", desc := "(I)I" } : Jvm.MethodName) ({ cls := "NearSpellModel", name := "forms", desc := "(I)I" } : Jvm.MethodName)) ∈ wTs := wmem (i := 1824) (by decide +kernel) (by decide +kernel)
set_option maxRecDepth 20000 in
theorem wm999 : (Jvm.Cond.methodLink "NearSpellLaw" (78 : Nat) ({ cls := "NearSpell", name := "bucket", desc := "(I)I" } : Jvm.MethodName)) ∈ wTs := wmem (i := 999) (by decide +kernel) (by decide +kernel)
set_option maxRecDepth 20000 in
theorem wm1002 : (Jvm.Cond.code ({ cls := "NearSpell", name := "bucket", desc := "(I)I" } : Jvm.MethodName) prog_1_method_17_code (2 : Nat) (Option.some Jvm.ClassFile.FieldType.int)) ∈ wTs := wmem (i := 1002) (by decide +kernel) (by decide +kernel)
set_option maxRecDepth 20000 in
theorem wm1000 : (Jvm.Cond.instanceMethod ({ cls := "NearSpell", name := "bucket", desc := "(I)I" } : Jvm.MethodName)) ∈ wTs := wmem (i := 1000) (by decide +kernel) (by decide +kernel)
set_option maxRecDepth 20000 in
theorem wm1001 : (Jvm.Cond.selects "NearSpell" ({ cls := "NearSpell", name := "bucket", desc := "(I)I" } : Jvm.MethodName) ({ cls := "NearSpell", name := "bucket", desc := "(I)I" } : Jvm.MethodName)) ∈ wTs := wmem (i := 1001) (by decide +kernel) (by decide +kernel)
set_option maxRecDepth 20000 in
theorem wm1826 : (Jvm.Cond.methodLink "NearSpellLaw" (81 : Nat) ({ cls := "NearSpellModel", name := "bucket", desc := "(I)I" } : Jvm.MethodName)) ∈ wTs := wmem (i := 1826) (by decide +kernel) (by decide +kernel)
set_option maxRecDepth 20000 in
theorem wm1829 : (Jvm.Cond.code ({ cls := "NearSpellModel", name := "bucket", desc := "(I)I" } : Jvm.MethodName) prog_14_method_73_code (2 : Nat) (Option.some Jvm.ClassFile.FieldType.int)) ∈ wTs := wmem (i := 1829) (by decide +kernel) (by decide +kernel)
set_option maxRecDepth 20000 in
theorem wm1827 : (Jvm.Cond.instanceMethod ({ cls := "NearSpellModel", name := "bucket", desc := "(I)I" } : Jvm.MethodName)) ∈ wTs := wmem (i := 1827) (by decide +kernel) (by decide +kernel)
set_option maxRecDepth 20000 in
theorem wm1828 : (Jvm.Cond.selects "NearSpellModel" ({ cls := "NearSpellModel", name := "bucket", desc := "(I)I" } : Jvm.MethodName) ({ cls := "NearSpellModel", name := "bucket", desc := "(I)I" } : Jvm.MethodName)) ∈ wTs := wmem (i := 1828) (by decide +kernel) (by decide +kernel)
set_option maxRecDepth 20000 in
theorem wm1030 : (Jvm.Cond.methodLink "NearSpellLaw" (82 : Nat) ({ cls := "NearSpell", name := "met", desc := "(II)I" } : Jvm.MethodName)) ∈ wTs := wmem (i := 1030) (by decide +kernel) (by decide +kernel)
set_option maxRecDepth 20000 in
theorem wm1033 : (Jvm.Cond.code ({ cls := "NearSpell", name := "met", desc := "(II)I" } : Jvm.MethodName) prog_1_method_18_code (3 : Nat) (Option.some Jvm.ClassFile.FieldType.int)) ∈ wTs := wmem (i := 1033) (by decide +kernel) (by decide +kernel)
set_option maxRecDepth 20000 in
theorem wm1031 : (Jvm.Cond.instanceMethod ({ cls := "NearSpell", name := "met", desc := "(II)I" } : Jvm.MethodName)) ∈ wTs := wmem (i := 1031) (by decide +kernel) (by decide +kernel)
set_option maxRecDepth 20000 in
theorem wm1032 : (Jvm.Cond.selects "NearSpell" ({ cls := "NearSpell", name := "met", desc := "(II)I" } : Jvm.MethodName) ({ cls := "NearSpell", name := "met", desc := "(II)I" } : Jvm.MethodName)) ∈ wTs := wmem (i := 1032) (by decide +kernel) (by decide +kernel)
set_option maxRecDepth 20000 in
theorem wm1848 : (Jvm.Cond.methodLink "NearSpellLaw" (85 : Nat) ({ cls := "NearSpellModel", name := "met", desc := "(II)I" } : Jvm.MethodName)) ∈ wTs := wmem (i := 1848) (by decide +kernel) (by decide +kernel)
set_option maxRecDepth 20000 in
theorem wm1851 : (Jvm.Cond.code ({ cls := "NearSpellModel", name := "met", desc := "(II)I" } : Jvm.MethodName) prog_14_method_74_code (3 : Nat) (Option.some Jvm.ClassFile.FieldType.int)) ∈ wTs := wmem (i := 1851) (by decide +kernel) (by decide +kernel)
set_option maxRecDepth 20000 in
theorem wm1849 : (Jvm.Cond.instanceMethod ({ cls := "NearSpellModel", name := "met", desc := "(II)I" } : Jvm.MethodName)) ∈ wTs := wmem (i := 1849) (by decide +kernel) (by decide +kernel)
set_option maxRecDepth 20000 in
theorem wm1850 : (Jvm.Cond.selects "NearSpellModel" ({ cls := "NearSpellModel", name := "met", desc := "(II)I" } : Jvm.MethodName) ({ cls := "NearSpellModel", name := "met", desc := "(II)I" } : Jvm.MethodName)) ∈ wTs := wmem (i := 1850) (by decide +kernel) (by decide +kernel)
set_option maxRecDepth 20000 in
theorem wm1044 : (Jvm.Cond.methodLink "NearSpellLaw" (86 : Nat) ({ cls := "NearSpell", name := "missed", desc := "(II)I" } : Jvm.MethodName)) ∈ wTs := wmem (i := 1044) (by decide +kernel) (by decide +kernel)
set_option maxRecDepth 20000 in
theorem wm1047 : (Jvm.Cond.code ({ cls := "NearSpell", name := "missed", desc := "(II)I" } : Jvm.MethodName) prog_1_method_19_code (3 : Nat) (Option.some Jvm.ClassFile.FieldType.int)) ∈ wTs := wmem (i := 1047) (by decide +kernel) (by decide +kernel)
set_option maxRecDepth 20000 in
theorem wm1045 : (Jvm.Cond.instanceMethod ({ cls := "NearSpell", name := "missed", desc := "(II)I" } : Jvm.MethodName)) ∈ wTs := wmem (i := 1045) (by decide +kernel) (by decide +kernel)
set_option maxRecDepth 20000 in
theorem wm1046 : (Jvm.Cond.selects "NearSpell" ({ cls := "NearSpell", name := "missed", desc := "(II)I" } : Jvm.MethodName) ({ cls := "NearSpell", name := "missed", desc := "(II)I" } : Jvm.MethodName)) ∈ wTs := wmem (i := 1046) (by decide +kernel) (by decide +kernel)
set_option maxRecDepth 20000 in
theorem wm1868 : (Jvm.Cond.methodLink "NearSpellLaw" (89 : Nat) ({ cls := "NearSpellModel", name := "missed", desc := "(II)I" } : Jvm.MethodName)) ∈ wTs := wmem (i := 1868) (by decide +kernel) (by decide +kernel)
set_option maxRecDepth 20000 in
theorem wm1871 : (Jvm.Cond.code ({ cls := "NearSpellModel", name := "missed", desc := "(II)I" } : Jvm.MethodName) prog_14_method_75_code (4 : Nat) (Option.some Jvm.ClassFile.FieldType.int)) ∈ wTs := wmem (i := 1871) (by decide +kernel) (by decide +kernel)
set_option maxRecDepth 20000 in
theorem wm1869 : (Jvm.Cond.instanceMethod ({ cls := "NearSpellModel", name := "missed", desc := "(II)I" } : Jvm.MethodName)) ∈ wTs := wmem (i := 1869) (by decide +kernel) (by decide +kernel)
set_option maxRecDepth 20000 in
theorem wm1870 : (Jvm.Cond.selects "NearSpellModel" ({ cls := "NearSpellModel", name := "missed", desc := "(II)I" } : Jvm.MethodName) ({ cls := "NearSpellModel", name := "missed", desc := "(II)I" } : Jvm.MethodName)) ∈ wTs := wmem (i := 1870) (by decide +kernel) (by decide +kernel)
set_option maxRecDepth 20000 in
theorem wm1052 : (Jvm.Cond.methodLink "NearSpellLaw" (90 : Nat) ({ cls := "NearSpell", name := "nearest", desc := "(I)I" } : Jvm.MethodName)) ∈ wTs := wmem (i := 1052) (by decide +kernel) (by decide +kernel)
set_option maxRecDepth 20000 in
theorem wm1055 : (Jvm.Cond.code ({ cls := "NearSpell", name := "nearest", desc := "(I)I" } : Jvm.MethodName) prog_1_method_20_code (2 : Nat) (Option.some Jvm.ClassFile.FieldType.int)) ∈ wTs := wmem (i := 1055) (by decide +kernel) (by decide +kernel)
set_option maxRecDepth 20000 in
theorem wm1053 : (Jvm.Cond.instanceMethod ({ cls := "NearSpell", name := "nearest", desc := "(I)I" } : Jvm.MethodName)) ∈ wTs := wmem (i := 1053) (by decide +kernel) (by decide +kernel)
set_option maxRecDepth 20000 in
theorem wm1054 : (Jvm.Cond.selects "NearSpell" ({ cls := "NearSpell", name := "nearest", desc := "(I)I" } : Jvm.MethodName) ({ cls := "NearSpell", name := "nearest", desc := "(I)I" } : Jvm.MethodName)) ∈ wTs := wmem (i := 1054) (by decide +kernel) (by decide +kernel)
set_option maxRecDepth 20000 in
theorem wm1884 : (Jvm.Cond.methodLink "NearSpellLaw" (93 : Nat) ({ cls := "NearSpellModel", name := "nearest", desc := "(I)I" } : Jvm.MethodName)) ∈ wTs := wmem (i := 1884) (by decide +kernel) (by decide +kernel)
set_option maxRecDepth 20000 in
theorem wm1887 : (Jvm.Cond.code ({ cls := "NearSpellModel", name := "nearest", desc := "(I)I" } : Jvm.MethodName) prog_14_method_76_code (2 : Nat) (Option.some Jvm.ClassFile.FieldType.int)) ∈ wTs := wmem (i := 1887) (by decide +kernel) (by decide +kernel)
set_option maxRecDepth 20000 in
theorem wm1885 : (Jvm.Cond.instanceMethod ({ cls := "NearSpellModel", name := "nearest", desc := "(I)I" } : Jvm.MethodName)) ∈ wTs := wmem (i := 1885) (by decide +kernel) (by decide +kernel)
set_option maxRecDepth 20000 in
theorem wm1886 : (Jvm.Cond.selects "NearSpellModel" ({ cls := "NearSpellModel", name := "nearest", desc := "(I)I" } : Jvm.MethodName) ({ cls := "NearSpellModel", name := "nearest", desc := "(I)I" } : Jvm.MethodName)) ∈ wTs := wmem (i := 1886) (by decide +kernel) (by decide +kernel)
set_option maxRecDepth 20000 in
theorem wm1056 : (Jvm.Cond.methodLink "NearSpellLaw" (94 : Nat) ({ cls := "NearSpell", name := "near", desc := "(II)I" } : Jvm.MethodName)) ∈ wTs := wmem (i := 1056) (by decide +kernel) (by decide +kernel)
set_option maxRecDepth 20000 in
theorem wm1059 : (Jvm.Cond.code ({ cls := "NearSpell", name := "near", desc := "(II)I" } : Jvm.MethodName) prog_1_method_21_code (3 : Nat) (Option.some Jvm.ClassFile.FieldType.int)) ∈ wTs := wmem (i := 1059) (by decide +kernel) (by decide +kernel)
set_option maxRecDepth 20000 in
theorem wm1057 : (Jvm.Cond.instanceMethod ({ cls := "NearSpell", name := "near", desc := "(II)I" } : Jvm.MethodName)) ∈ wTs := wmem (i := 1057) (by decide +kernel) (by decide +kernel)
set_option maxRecDepth 20000 in
theorem wm1058 : (Jvm.Cond.selects "NearSpell" ({ cls := "NearSpell", name := "near", desc := "(II)I" } : Jvm.MethodName) ({ cls := "NearSpell", name := "near", desc := "(II)I" } : Jvm.MethodName)) ∈ wTs := wmem (i := 1058) (by decide +kernel) (by decide +kernel)
set_option maxRecDepth 20000 in
theorem wm1896 : (Jvm.Cond.methodLink "NearSpellLaw" (97 : Nat) ({ cls := "NearSpellModel", name := "near", desc := "(II)I" } : Jvm.MethodName)) ∈ wTs := wmem (i := 1896) (by decide +kernel) (by decide +kernel)
set_option maxRecDepth 20000 in
theorem wm1899 : (Jvm.Cond.code ({ cls := "NearSpellModel", name := "near", desc := "(II)I" } : Jvm.MethodName) prog_14_method_77_code (5 : Nat) (Option.some Jvm.ClassFile.FieldType.int)) ∈ wTs := wmem (i := 1899) (by decide +kernel) (by decide +kernel)
set_option maxRecDepth 20000 in
theorem wm1897 : (Jvm.Cond.instanceMethod ({ cls := "NearSpellModel", name := "near", desc := "(II)I" } : Jvm.MethodName)) ∈ wTs := wmem (i := 1897) (by decide +kernel) (by decide +kernel)
set_option maxRecDepth 20000 in
theorem wm1898 : (Jvm.Cond.selects "NearSpellModel" ({ cls := "NearSpellModel", name := "near", desc := "(II)I" } : Jvm.MethodName) ({ cls := "NearSpellModel", name := "near", desc := "(II)I" } : Jvm.MethodName)) ∈ wTs := wmem (i := 1898) (by decide +kernel) (by decide +kernel)
set_option maxRecDepth 20000 in
theorem wm1064 : (Jvm.Cond.methodLink "NearSpellLaw" (98 : Nat) ({ cls := "NearSpell", name := "split", desc := "(II)I" } : Jvm.MethodName)) ∈ wTs := wmem (i := 1064) (by decide +kernel) (by decide +kernel)
set_option maxRecDepth 20000 in
theorem wm1067 : (Jvm.Cond.code ({ cls := "NearSpell", name := "split", desc := "(II)I" } : Jvm.MethodName) prog_1_method_22_code (3 : Nat) (Option.some Jvm.ClassFile.FieldType.int)) ∈ wTs := wmem (i := 1067) (by decide +kernel) (by decide +kernel)
set_option maxRecDepth 20000 in
theorem wm1065 : (Jvm.Cond.instanceMethod ({ cls := "NearSpell", name := "split", desc := "(II)I" } : Jvm.MethodName)) ∈ wTs := wmem (i := 1065) (by decide +kernel) (by decide +kernel)
set_option maxRecDepth 20000 in
theorem wm1066 : (Jvm.Cond.selects "NearSpell" ({ cls := "NearSpell", name := "split", desc := "(II)I" } : Jvm.MethodName) ({ cls := "NearSpell", name := "split", desc := "(II)I" } : Jvm.MethodName)) ∈ wTs := wmem (i := 1066) (by decide +kernel) (by decide +kernel)
set_option maxRecDepth 20000 in
theorem wm1900 : (Jvm.Cond.methodLink "NearSpellLaw" (101 : Nat) ({ cls := "NearSpellModel", name := "split", desc := "(II)I" } : Jvm.MethodName)) ∈ wTs := wmem (i := 1900) (by decide +kernel) (by decide +kernel)
set_option maxRecDepth 20000 in
theorem wm1903 : (Jvm.Cond.code ({ cls := "NearSpellModel", name := "split", desc := "(II)I" } : Jvm.MethodName) prog_14_method_78_code (7 : Nat) (Option.some Jvm.ClassFile.FieldType.int)) ∈ wTs := wmem (i := 1903) (by decide +kernel) (by decide +kernel)
set_option maxRecDepth 20000 in
theorem wm1901 : (Jvm.Cond.instanceMethod ({ cls := "NearSpellModel", name := "split", desc := "(II)I" } : Jvm.MethodName)) ∈ wTs := wmem (i := 1901) (by decide +kernel) (by decide +kernel)
set_option maxRecDepth 20000 in
theorem wm1902 : (Jvm.Cond.selects "NearSpellModel" ({ cls := "NearSpellModel", name := "split", desc := "(II)I" } : Jvm.MethodName) ({ cls := "NearSpellModel", name := "split", desc := "(II)I" } : Jvm.MethodName)) ∈ wTs := wmem (i := 1902) (by decide +kernel) (by decide +kernel)
set_option maxRecDepth 20000 in
theorem wm1093 : (Jvm.Cond.methodLink "NearSpellLaw" (102 : Nat) ({ cls := "NearSpell", name := "join", desc := "(II)I" } : Jvm.MethodName)) ∈ wTs := wmem (i := 1093) (by decide +kernel) (by decide +kernel)
set_option maxRecDepth 20000 in
theorem wm1096 : (Jvm.Cond.code ({ cls := "NearSpell", name := "join", desc := "(II)I" } : Jvm.MethodName) prog_1_method_23_code (3 : Nat) (Option.some Jvm.ClassFile.FieldType.int)) ∈ wTs := wmem (i := 1096) (by decide +kernel) (by decide +kernel)
set_option maxRecDepth 20000 in
theorem wm1094 : (Jvm.Cond.instanceMethod ({ cls := "NearSpell", name := "join", desc := "(II)I" } : Jvm.MethodName)) ∈ wTs := wmem (i := 1094) (by decide +kernel) (by decide +kernel)
set_option maxRecDepth 20000 in
theorem wm1095 : (Jvm.Cond.selects "NearSpell" ({ cls := "NearSpell", name := "join", desc := "(II)I" } : Jvm.MethodName) ({ cls := "NearSpell", name := "join", desc := "(II)I" } : Jvm.MethodName)) ∈ wTs := wmem (i := 1095) (by decide +kernel) (by decide +kernel)
set_option maxRecDepth 20000 in
theorem wm1904 : (Jvm.Cond.methodLink "NearSpellLaw" (105 : Nat) ({ cls := "NearSpellModel", name := "join", desc := "(II)I" } : Jvm.MethodName)) ∈ wTs := wmem (i := 1904) (by decide +kernel) (by decide +kernel)
set_option maxRecDepth 20000 in
theorem wm1907 : (Jvm.Cond.code ({ cls := "NearSpellModel", name := "join", desc := "(II)I" } : Jvm.MethodName) prog_14_method_79_code (7 : Nat) (Option.some Jvm.ClassFile.FieldType.int)) ∈ wTs := wmem (i := 1907) (by decide +kernel) (by decide +kernel)
set_option maxRecDepth 20000 in
theorem wm1905 : (Jvm.Cond.instanceMethod ({ cls := "NearSpellModel", name := "join", desc := "(II)I" } : Jvm.MethodName)) ∈ wTs := wmem (i := 1905) (by decide +kernel) (by decide +kernel)
set_option maxRecDepth 20000 in
theorem wm1906 : (Jvm.Cond.selects "NearSpellModel" ({ cls := "NearSpellModel", name := "join", desc := "(II)I" } : Jvm.MethodName) ({ cls := "NearSpellModel", name := "join", desc := "(II)I" } : Jvm.MethodName)) ∈ wTs := wmem (i := 1906) (by decide +kernel) (by decide +kernel)
set_option maxRecDepth 20000 in
theorem wm1111 : (Jvm.Cond.methodLink "NearSpellLaw" (106 : Nat) ({ cls := "NearSpell", name := "reading", desc := "()I" } : Jvm.MethodName)) ∈ wTs := wmem (i := 1111) (by decide +kernel) (by decide +kernel)
set_option maxRecDepth 20000 in
theorem wm1114 : (Jvm.Cond.code ({ cls := "NearSpell", name := "reading", desc := "()I" } : Jvm.MethodName) prog_1_method_24_code (1 : Nat) (Option.some Jvm.ClassFile.FieldType.int)) ∈ wTs := wmem (i := 1114) (by decide +kernel) (by decide +kernel)
set_option maxRecDepth 20000 in
theorem wm1112 : (Jvm.Cond.instanceMethod ({ cls := "NearSpell", name := "reading", desc := "()I" } : Jvm.MethodName)) ∈ wTs := wmem (i := 1112) (by decide +kernel) (by decide +kernel)
set_option maxRecDepth 20000 in
theorem wm1113 : (Jvm.Cond.selects "NearSpell" ({ cls := "NearSpell", name := "reading", desc := "()I" } : Jvm.MethodName) ({ cls := "NearSpell", name := "reading", desc := "()I" } : Jvm.MethodName)) ∈ wTs := wmem (i := 1113) (by decide +kernel) (by decide +kernel)
set_option maxRecDepth 20000 in
theorem wm1908 : (Jvm.Cond.methodLink "NearSpellLaw" (109 : Nat) ({ cls := "NearSpellModel", name := "reading", desc := "()I" } : Jvm.MethodName)) ∈ wTs := wmem (i := 1908) (by decide +kernel) (by decide +kernel)
set_option maxRecDepth 20000 in
theorem wm1911 : (Jvm.Cond.code ({ cls := "NearSpellModel", name := "reading", desc := "()I" } : Jvm.MethodName) prog_14_method_84_code (1 : Nat) (Option.some Jvm.ClassFile.FieldType.int)) ∈ wTs := wmem (i := 1911) (by decide +kernel) (by decide +kernel)
set_option maxRecDepth 20000 in
theorem wm1909 : (Jvm.Cond.instanceMethod ({ cls := "NearSpellModel", name := "reading", desc := "()I" } : Jvm.MethodName)) ∈ wTs := wmem (i := 1909) (by decide +kernel) (by decide +kernel)
set_option maxRecDepth 20000 in
theorem wm1910 : (Jvm.Cond.selects "NearSpellModel" ({ cls := "NearSpellModel", name := "reading", desc := "()I" } : Jvm.MethodName) ({ cls := "NearSpellModel", name := "reading", desc := "()I" } : Jvm.MethodName)) ∈ wTs := wmem (i := 1910) (by decide +kernel) (by decide +kernel)
set_option maxRecDepth 20000 in
theorem wm1135 : (Jvm.Cond.methodLink "NearSpellLaw" (110 : Nat) ({ cls := "NearSpell", name := "readings", desc := "()I" } : Jvm.MethodName)) ∈ wTs := wmem (i := 1135) (by decide +kernel) (by decide +kernel)
set_option maxRecDepth 20000 in
theorem wm1138 : (Jvm.Cond.code ({ cls := "NearSpell", name := "readings", desc := "()I" } : Jvm.MethodName) prog_1_method_25_code (1 : Nat) (Option.some Jvm.ClassFile.FieldType.int)) ∈ wTs := wmem (i := 1138) (by decide +kernel) (by decide +kernel)
set_option maxRecDepth 20000 in
theorem wm1136 : (Jvm.Cond.instanceMethod ({ cls := "NearSpell", name := "readings", desc := "()I" } : Jvm.MethodName)) ∈ wTs := wmem (i := 1136) (by decide +kernel) (by decide +kernel)
set_option maxRecDepth 20000 in
theorem wm1137 : (Jvm.Cond.selects "NearSpell" ({ cls := "NearSpell", name := "readings", desc := "()I" } : Jvm.MethodName) ({ cls := "NearSpell", name := "readings", desc := "()I" } : Jvm.MethodName)) ∈ wTs := wmem (i := 1137) (by decide +kernel) (by decide +kernel)
set_option maxRecDepth 20000 in
theorem wm1928 : (Jvm.Cond.methodLink "NearSpellLaw" (113 : Nat) ({ cls := "NearSpellModel", name := "readings", desc := "()I" } : Jvm.MethodName)) ∈ wTs := wmem (i := 1928) (by decide +kernel) (by decide +kernel)
set_option maxRecDepth 20000 in
theorem wm1931 : (Jvm.Cond.code ({ cls := "NearSpellModel", name := "readings", desc := "()I" } : Jvm.MethodName) prog_14_method_85_code (1 : Nat) (Option.some Jvm.ClassFile.FieldType.int)) ∈ wTs := wmem (i := 1931) (by decide +kernel) (by decide +kernel)
set_option maxRecDepth 20000 in
theorem wm1929 : (Jvm.Cond.instanceMethod ({ cls := "NearSpellModel", name := "readings", desc := "()I" } : Jvm.MethodName)) ∈ wTs := wmem (i := 1929) (by decide +kernel) (by decide +kernel)
set_option maxRecDepth 20000 in
theorem wm1930 : (Jvm.Cond.selects "NearSpellModel" ({ cls := "NearSpellModel", name := "readings", desc := "()I" } : Jvm.MethodName) ({ cls := "NearSpellModel", name := "readings", desc := "()I" } : Jvm.MethodName)) ∈ wTs := wmem (i := 1930) (by decide +kernel) (by decide +kernel)
set_option maxRecDepth 20000 in
theorem wm1143 : (Jvm.Cond.methodLink "NearSpellLaw" (114 : Nat) ({ cls := "NearSpell", name := "closest", desc := "(I)I" } : Jvm.MethodName)) ∈ wTs := wmem (i := 1143) (by decide +kernel) (by decide +kernel)
set_option maxRecDepth 20000 in
theorem wm1146 : (Jvm.Cond.code ({ cls := "NearSpell", name := "closest", desc := "(I)I" } : Jvm.MethodName) prog_1_method_26_code (2 : Nat) (Option.some Jvm.ClassFile.FieldType.int)) ∈ wTs := wmem (i := 1146) (by decide +kernel) (by decide +kernel)
set_option maxRecDepth 20000 in
theorem wm1144 : (Jvm.Cond.instanceMethod ({ cls := "NearSpell", name := "closest", desc := "(I)I" } : Jvm.MethodName)) ∈ wTs := wmem (i := 1144) (by decide +kernel) (by decide +kernel)
set_option maxRecDepth 20000 in
theorem wm1145 : (Jvm.Cond.selects "NearSpell" ({ cls := "NearSpell", name := "closest", desc := "(I)I" } : Jvm.MethodName) ({ cls := "NearSpell", name := "closest", desc := "(I)I" } : Jvm.MethodName)) ∈ wTs := wmem (i := 1145) (by decide +kernel) (by decide +kernel)
set_option maxRecDepth 20000 in
theorem wm1932 : (Jvm.Cond.methodLink "NearSpellLaw" (117 : Nat) ({ cls := "NearSpellModel", name := "closest", desc := "(I)I" } : Jvm.MethodName)) ∈ wTs := wmem (i := 1932) (by decide +kernel) (by decide +kernel)
set_option maxRecDepth 20000 in
theorem wm1935 : (Jvm.Cond.code ({ cls := "NearSpellModel", name := "closest", desc := "(I)I" } : Jvm.MethodName) prog_14_method_88_code (5 : Nat) (Option.some Jvm.ClassFile.FieldType.int)) ∈ wTs := wmem (i := 1935) (by decide +kernel) (by decide +kernel)
set_option maxRecDepth 20000 in
theorem wm1933 : (Jvm.Cond.instanceMethod ({ cls := "NearSpellModel", name := "closest", desc := "(I)I" } : Jvm.MethodName)) ∈ wTs := wmem (i := 1933) (by decide +kernel) (by decide +kernel)
set_option maxRecDepth 20000 in
theorem wm1934 : (Jvm.Cond.selects "NearSpellModel" ({ cls := "NearSpellModel", name := "closest", desc := "(I)I" } : Jvm.MethodName) ({ cls := "NearSpellModel", name := "closest", desc := "(I)I" } : Jvm.MethodName)) ∈ wTs := wmem (i := 1934) (by decide +kernel) (by decide +kernel)
set_option maxRecDepth 20000 in
theorem wm1164 : (Jvm.Cond.methodLink "NearSpellLaw" (118 : Nat) ({ cls := "NearSpell", name := "groups", desc := "(I)I" } : Jvm.MethodName)) ∈ wTs := wmem (i := 1164) (by decide +kernel) (by decide +kernel)
set_option maxRecDepth 20000 in
theorem wm1167 : (Jvm.Cond.code ({ cls := "NearSpell", name := "groups", desc := "(I)I" } : Jvm.MethodName) prog_1_method_27_code (2 : Nat) (Option.some Jvm.ClassFile.FieldType.int)) ∈ wTs := wmem (i := 1167) (by decide +kernel) (by decide +kernel)
set_option maxRecDepth 20000 in
theorem wm1165 : (Jvm.Cond.instanceMethod ({ cls := "NearSpell", name := "groups", desc := "(I)I" } : Jvm.MethodName)) ∈ wTs := wmem (i := 1165) (by decide +kernel) (by decide +kernel)
set_option maxRecDepth 20000 in
theorem wm1166 : (Jvm.Cond.selects "NearSpell" ({ cls := "NearSpell", name := "groups", desc := "(I)I" } : Jvm.MethodName) ({ cls := "NearSpell", name := "groups", desc := "(I)I" } : Jvm.MethodName)) ∈ wTs := wmem (i := 1166) (by decide +kernel) (by decide +kernel)
set_option maxRecDepth 20000 in
theorem wm1944 : (Jvm.Cond.methodLink "NearSpellLaw" (121 : Nat) ({ cls := "NearSpellModel", name := "groups", desc := "(I)I" } : Jvm.MethodName)) ∈ wTs := wmem (i := 1944) (by decide +kernel) (by decide +kernel)
set_option maxRecDepth 20000 in
theorem wm1947 : (Jvm.Cond.code ({ cls := "NearSpellModel", name := "groups", desc := "(I)I" } : Jvm.MethodName) prog_14_method_90_code (6 : Nat) (Option.some Jvm.ClassFile.FieldType.int)) ∈ wTs := wmem (i := 1947) (by decide +kernel) (by decide +kernel)
set_option maxRecDepth 20000 in
theorem wm1945 : (Jvm.Cond.instanceMethod ({ cls := "NearSpellModel", name := "groups", desc := "(I)I" } : Jvm.MethodName)) ∈ wTs := wmem (i := 1945) (by decide +kernel) (by decide +kernel)
set_option maxRecDepth 20000 in
theorem wm1946 : (Jvm.Cond.selects "NearSpellModel" ({ cls := "NearSpellModel", name := "groups", desc := "(I)I" } : Jvm.MethodName) ({ cls := "NearSpellModel", name := "groups", desc := "(I)I" } : Jvm.MethodName)) ∈ wTs := wmem (i := 1946) (by decide +kernel) (by decide +kernel)
set_option maxRecDepth 20000 in
theorem wm1184 : (Jvm.Cond.methodLink "NearSpellLaw" (122 : Nat) ({ cls := "NearSpell", name := "far", desc := "(II)I" } : Jvm.MethodName)) ∈ wTs := wmem (i := 1184) (by decide +kernel) (by decide +kernel)
set_option maxRecDepth 20000 in
theorem wm1187 : (Jvm.Cond.code ({ cls := "NearSpell", name := "far", desc := "(II)I" } : Jvm.MethodName) prog_1_method_28_code (4 : Nat) (Option.some Jvm.ClassFile.FieldType.int)) ∈ wTs := wmem (i := 1187) (by decide +kernel) (by decide +kernel)
set_option maxRecDepth 20000 in
theorem wm1185 : (Jvm.Cond.instanceMethod ({ cls := "NearSpell", name := "far", desc := "(II)I" } : Jvm.MethodName)) ∈ wTs := wmem (i := 1185) (by decide +kernel) (by decide +kernel)
set_option maxRecDepth 20000 in
theorem wm1186 : (Jvm.Cond.selects "NearSpell" ({ cls := "NearSpell", name := "far", desc := "(II)I" } : Jvm.MethodName) ({ cls := "NearSpell", name := "far", desc := "(II)I" } : Jvm.MethodName)) ∈ wTs := wmem (i := 1186) (by decide +kernel) (by decide +kernel)
set_option maxRecDepth 20000 in
theorem wm1959 : (Jvm.Cond.methodLink "NearSpellLaw" (125 : Nat) ({ cls := "NearSpellModel", name := "far", desc := "(II)I" } : Jvm.MethodName)) ∈ wTs := wmem (i := 1959) (by decide +kernel) (by decide +kernel)
set_option maxRecDepth 20000 in
theorem wm1962 : (Jvm.Cond.code ({ cls := "NearSpellModel", name := "far", desc := "(II)I" } : Jvm.MethodName) prog_14_method_92_code (7 : Nat) (Option.some Jvm.ClassFile.FieldType.int)) ∈ wTs := wmem (i := 1962) (by decide +kernel) (by decide +kernel)
set_option maxRecDepth 20000 in
theorem wm1960 : (Jvm.Cond.instanceMethod ({ cls := "NearSpellModel", name := "far", desc := "(II)I" } : Jvm.MethodName)) ∈ wTs := wmem (i := 1960) (by decide +kernel) (by decide +kernel)
set_option maxRecDepth 20000 in
theorem wm1961 : (Jvm.Cond.selects "NearSpellModel" ({ cls := "NearSpellModel", name := "far", desc := "(II)I" } : Jvm.MethodName) ({ cls := "NearSpellModel", name := "far", desc := "(II)I" } : Jvm.MethodName)) ∈ wTs := wmem (i := 1961) (by decide +kernel) (by decide +kernel)
set_option maxRecDepth 20000 in
theorem wm1204 : (Jvm.Cond.methodLink "NearSpellLaw" (126 : Nat) ({ cls := "NearSpell", name := "middle", desc := "()I" } : Jvm.MethodName)) ∈ wTs := wmem (i := 1204) (by decide +kernel) (by decide +kernel)
set_option maxRecDepth 20000 in
theorem wm1207 : (Jvm.Cond.code ({ cls := "NearSpell", name := "middle", desc := "()I" } : Jvm.MethodName) prog_1_method_29_code (1 : Nat) (Option.some Jvm.ClassFile.FieldType.int)) ∈ wTs := wmem (i := 1207) (by decide +kernel) (by decide +kernel)
set_option maxRecDepth 20000 in
theorem wm1205 : (Jvm.Cond.instanceMethod ({ cls := "NearSpell", name := "middle", desc := "()I" } : Jvm.MethodName)) ∈ wTs := wmem (i := 1205) (by decide +kernel) (by decide +kernel)
set_option maxRecDepth 20000 in
theorem wm1206 : (Jvm.Cond.selects "NearSpell" ({ cls := "NearSpell", name := "middle", desc := "()I" } : Jvm.MethodName) ({ cls := "NearSpell", name := "middle", desc := "()I" } : Jvm.MethodName)) ∈ wTs := wmem (i := 1206) (by decide +kernel) (by decide +kernel)
set_option maxRecDepth 20000 in
theorem wm1967 : (Jvm.Cond.methodLink "NearSpellLaw" (129 : Nat) ({ cls := "NearSpellModel", name := "middle", desc := "()I" } : Jvm.MethodName)) ∈ wTs := wmem (i := 1967) (by decide +kernel) (by decide +kernel)
set_option maxRecDepth 20000 in
theorem wm1970 : (Jvm.Cond.code ({ cls := "NearSpellModel", name := "middle", desc := "()I" } : Jvm.MethodName) prog_14_method_93_code (6 : Nat) (Option.some Jvm.ClassFile.FieldType.int)) ∈ wTs := wmem (i := 1970) (by decide +kernel) (by decide +kernel)
set_option maxRecDepth 20000 in
theorem wm1968 : (Jvm.Cond.instanceMethod ({ cls := "NearSpellModel", name := "middle", desc := "()I" } : Jvm.MethodName)) ∈ wTs := wmem (i := 1968) (by decide +kernel) (by decide +kernel)
set_option maxRecDepth 20000 in
theorem wm1969 : (Jvm.Cond.selects "NearSpellModel" ({ cls := "NearSpellModel", name := "middle", desc := "()I" } : Jvm.MethodName) ({ cls := "NearSpellModel", name := "middle", desc := "()I" } : Jvm.MethodName)) ∈ wTs := wmem (i := 1969) (by decide +kernel) (by decide +kernel)
set_option maxRecDepth 20000 in
theorem wm1216 : (Jvm.Cond.methodLink "NearSpellLaw" (130 : Nat) ({ cls := "NearSpell", name := "chain", desc := "(III)I" } : Jvm.MethodName)) ∈ wTs := wmem (i := 1216) (by decide +kernel) (by decide +kernel)
set_option maxRecDepth 20000 in
theorem wm1219 : (Jvm.Cond.code ({ cls := "NearSpell", name := "chain", desc := "(III)I" } : Jvm.MethodName) prog_1_method_30_code (4 : Nat) (Option.some Jvm.ClassFile.FieldType.int)) ∈ wTs := wmem (i := 1219) (by decide +kernel) (by decide +kernel)
set_option maxRecDepth 20000 in
theorem wm1217 : (Jvm.Cond.instanceMethod ({ cls := "NearSpell", name := "chain", desc := "(III)I" } : Jvm.MethodName)) ∈ wTs := wmem (i := 1217) (by decide +kernel) (by decide +kernel)
set_option maxRecDepth 20000 in
theorem wm1218 : (Jvm.Cond.selects "NearSpell" ({ cls := "NearSpell", name := "chain", desc := "(III)I" } : Jvm.MethodName) ({ cls := "NearSpell", name := "chain", desc := "(III)I" } : Jvm.MethodName)) ∈ wTs := wmem (i := 1218) (by decide +kernel) (by decide +kernel)
set_option maxRecDepth 20000 in
theorem wm1971 : (Jvm.Cond.methodLink "NearSpellLaw" (134 : Nat) ({ cls := "NearSpellModel", name := "chain", desc := "(III)I" } : Jvm.MethodName)) ∈ wTs := wmem (i := 1971) (by decide +kernel) (by decide +kernel)
set_option maxRecDepth 20000 in
theorem wm1974 : (Jvm.Cond.code ({ cls := "NearSpellModel", name := "chain", desc := "(III)I" } : Jvm.MethodName) prog_14_method_94_code (6 : Nat) (Option.some Jvm.ClassFile.FieldType.int)) ∈ wTs := wmem (i := 1974) (by decide +kernel) (by decide +kernel)
set_option maxRecDepth 20000 in
theorem wm1972 : (Jvm.Cond.instanceMethod ({ cls := "NearSpellModel", name := "chain", desc := "(III)I" } : Jvm.MethodName)) ∈ wTs := wmem (i := 1972) (by decide +kernel) (by decide +kernel)
set_option maxRecDepth 20000 in
theorem wm1973 : (Jvm.Cond.selects "NearSpellModel" ({ cls := "NearSpellModel", name := "chain", desc := "(III)I" } : Jvm.MethodName) ({ cls := "NearSpellModel", name := "chain", desc := "(III)I" } : Jvm.MethodName)) ∈ wTs := wmem (i := 1973) (by decide +kernel) (by decide +kernel)
set_option maxRecDepth 20000 in
theorem wm1224 : (Jvm.Cond.methodLink "NearSpellLaw" (135 : Nat) ({ cls := "NearSpell", name := "begins", desc := "(I)I" } : Jvm.MethodName)) ∈ wTs := wmem (i := 1224) (by decide +kernel) (by decide +kernel)
set_option maxRecDepth 20000 in
theorem wm1227 : (Jvm.Cond.code ({ cls := "NearSpell", name := "begins", desc := "(I)I" } : Jvm.MethodName) prog_1_method_31_code (2 : Nat) (Option.some Jvm.ClassFile.FieldType.int)) ∈ wTs := wmem (i := 1227) (by decide +kernel) (by decide +kernel)
set_option maxRecDepth 20000 in
theorem wm1225 : (Jvm.Cond.instanceMethod ({ cls := "NearSpell", name := "begins", desc := "(I)I" } : Jvm.MethodName)) ∈ wTs := wmem (i := 1225) (by decide +kernel) (by decide +kernel)
set_option maxRecDepth 20000 in
theorem wm1226 : (Jvm.Cond.selects "NearSpell" ({ cls := "NearSpell", name := "begins", desc := "(I)I" } : Jvm.MethodName) ({ cls := "NearSpell", name := "begins", desc := "(I)I" } : Jvm.MethodName)) ∈ wTs := wmem (i := 1226) (by decide +kernel) (by decide +kernel)
set_option maxRecDepth 20000 in
theorem wm1975 : (Jvm.Cond.methodLink "NearSpellLaw" (138 : Nat) ({ cls := "NearSpellModel", name := "begins", desc := "(I)I" } : Jvm.MethodName)) ∈ wTs := wmem (i := 1975) (by decide +kernel) (by decide +kernel)
set_option maxRecDepth 20000 in
theorem wm1978 : (Jvm.Cond.code ({ cls := "NearSpellModel", name := "begins", desc := "(I)I" } : Jvm.MethodName) prog_14_method_95_code (5 : Nat) (Option.some Jvm.ClassFile.FieldType.int)) ∈ wTs := wmem (i := 1978) (by decide +kernel) (by decide +kernel)
set_option maxRecDepth 20000 in
theorem wm1976 : (Jvm.Cond.instanceMethod ({ cls := "NearSpellModel", name := "begins", desc := "(I)I" } : Jvm.MethodName)) ∈ wTs := wmem (i := 1976) (by decide +kernel) (by decide +kernel)
set_option maxRecDepth 20000 in
theorem wm1977 : (Jvm.Cond.selects "NearSpellModel" ({ cls := "NearSpellModel", name := "begins", desc := "(I)I" } : Jvm.MethodName) ({ cls := "NearSpellModel", name := "begins", desc := "(I)I" } : Jvm.MethodName)) ∈ wTs := wmem (i := 1977) (by decide +kernel) (by decide +kernel)
set_option maxRecDepth 20000 in
theorem wm1234 : (Jvm.Cond.methodLink "NearSpellLaw" (139 : Nat) ({ cls := "NearSpell", name := "crowded", desc := "(I)I" } : Jvm.MethodName)) ∈ wTs := wmem (i := 1234) (by decide +kernel) (by decide +kernel)
set_option maxRecDepth 20000 in
theorem wm1237 : (Jvm.Cond.code ({ cls := "NearSpell", name := "crowded", desc := "(I)I" } : Jvm.MethodName) prog_1_method_32_code (2 : Nat) (Option.some Jvm.ClassFile.FieldType.int)) ∈ wTs := wmem (i := 1237) (by decide +kernel) (by decide +kernel)
set_option maxRecDepth 20000 in
theorem wm1235 : (Jvm.Cond.instanceMethod ({ cls := "NearSpell", name := "crowded", desc := "(I)I" } : Jvm.MethodName)) ∈ wTs := wmem (i := 1235) (by decide +kernel) (by decide +kernel)
set_option maxRecDepth 20000 in
theorem wm1236 : (Jvm.Cond.selects "NearSpell" ({ cls := "NearSpell", name := "crowded", desc := "(I)I" } : Jvm.MethodName) ({ cls := "NearSpell", name := "crowded", desc := "(I)I" } : Jvm.MethodName)) ∈ wTs := wmem (i := 1236) (by decide +kernel) (by decide +kernel)
set_option maxRecDepth 20000 in
theorem wm1979 : (Jvm.Cond.methodLink "NearSpellLaw" (142 : Nat) ({ cls := "NearSpellModel", name := "crowded", desc := "(I)I" } : Jvm.MethodName)) ∈ wTs := wmem (i := 1979) (by decide +kernel) (by decide +kernel)
set_option maxRecDepth 20000 in
theorem wm1982 : (Jvm.Cond.code ({ cls := "NearSpellModel", name := "crowded", desc := "(I)I" } : Jvm.MethodName) prog_14_method_96_code (4 : Nat) (Option.some Jvm.ClassFile.FieldType.int)) ∈ wTs := wmem (i := 1982) (by decide +kernel) (by decide +kernel)
set_option maxRecDepth 20000 in
theorem wm1980 : (Jvm.Cond.instanceMethod ({ cls := "NearSpellModel", name := "crowded", desc := "(I)I" } : Jvm.MethodName)) ∈ wTs := wmem (i := 1980) (by decide +kernel) (by decide +kernel)
set_option maxRecDepth 20000 in
theorem wm1981 : (Jvm.Cond.selects "NearSpellModel" ({ cls := "NearSpellModel", name := "crowded", desc := "(I)I" } : Jvm.MethodName) ({ cls := "NearSpellModel", name := "crowded", desc := "(I)I" } : Jvm.MethodName)) ∈ wTs := wmem (i := 1981) (by decide +kernel) (by decide +kernel)
set_option maxRecDepth 20000 in
theorem wm1242 : (Jvm.Cond.methodLink "NearSpellLaw" (143 : Nat) ({ cls := "NearSpell", name := "load", desc := "(I)I" } : Jvm.MethodName)) ∈ wTs := wmem (i := 1242) (by decide +kernel) (by decide +kernel)
set_option maxRecDepth 20000 in
theorem wm1245 : (Jvm.Cond.code ({ cls := "NearSpell", name := "load", desc := "(I)I" } : Jvm.MethodName) prog_1_method_33_code (2 : Nat) (Option.some Jvm.ClassFile.FieldType.int)) ∈ wTs := wmem (i := 1245) (by decide +kernel) (by decide +kernel)
set_option maxRecDepth 20000 in
theorem wm1243 : (Jvm.Cond.instanceMethod ({ cls := "NearSpell", name := "load", desc := "(I)I" } : Jvm.MethodName)) ∈ wTs := wmem (i := 1243) (by decide +kernel) (by decide +kernel)
set_option maxRecDepth 20000 in
theorem wm1244 : (Jvm.Cond.selects "NearSpell" ({ cls := "NearSpell", name := "load", desc := "(I)I" } : Jvm.MethodName) ({ cls := "NearSpell", name := "load", desc := "(I)I" } : Jvm.MethodName)) ∈ wTs := wmem (i := 1244) (by decide +kernel) (by decide +kernel)
set_option maxRecDepth 20000 in
theorem wm1983 : (Jvm.Cond.methodLink "NearSpellLaw" (146 : Nat) ({ cls := "NearSpellModel", name := "load", desc := "(I)I" } : Jvm.MethodName)) ∈ wTs := wmem (i := 1983) (by decide +kernel) (by decide +kernel)
set_option maxRecDepth 20000 in
theorem wm1986 : (Jvm.Cond.code ({ cls := "NearSpellModel", name := "load", desc := "(I)I" } : Jvm.MethodName) prog_14_method_98_code (3 : Nat) (Option.some Jvm.ClassFile.FieldType.int)) ∈ wTs := wmem (i := 1986) (by decide +kernel) (by decide +kernel)
set_option maxRecDepth 20000 in
theorem wm1984 : (Jvm.Cond.instanceMethod ({ cls := "NearSpellModel", name := "load", desc := "(I)I" } : Jvm.MethodName)) ∈ wTs := wmem (i := 1984) (by decide +kernel) (by decide +kernel)
set_option maxRecDepth 20000 in
theorem wm1985 : (Jvm.Cond.selects "NearSpellModel" ({ cls := "NearSpellModel", name := "load", desc := "(I)I" } : Jvm.MethodName) ({ cls := "NearSpellModel", name := "load", desc := "(I)I" } : Jvm.MethodName)) ∈ wTs := wmem (i := 1985) (by decide +kernel) (by decide +kernel)
set_option maxRecDepth 20000 in
theorem wm1270 : (Jvm.Cond.methodLink "NearSpellLaw" (147 : Nat) ({ cls := "NearSpell", name := "fullest", desc := "()I" } : Jvm.MethodName)) ∈ wTs := wmem (i := 1270) (by decide +kernel) (by decide +kernel)
set_option maxRecDepth 20000 in
theorem wm1273 : (Jvm.Cond.code ({ cls := "NearSpell", name := "fullest", desc := "()I" } : Jvm.MethodName) prog_1_method_34_code (1 : Nat) (Option.some Jvm.ClassFile.FieldType.int)) ∈ wTs := wmem (i := 1273) (by decide +kernel) (by decide +kernel)
set_option maxRecDepth 20000 in
theorem wm1271 : (Jvm.Cond.instanceMethod ({ cls := "NearSpell", name := "fullest", desc := "()I" } : Jvm.MethodName)) ∈ wTs := wmem (i := 1271) (by decide +kernel) (by decide +kernel)
set_option maxRecDepth 20000 in
theorem wm1272 : (Jvm.Cond.selects "NearSpell" ({ cls := "NearSpell", name := "fullest", desc := "()I" } : Jvm.MethodName) ({ cls := "NearSpell", name := "fullest", desc := "()I" } : Jvm.MethodName)) ∈ wTs := wmem (i := 1272) (by decide +kernel) (by decide +kernel)
set_option maxRecDepth 20000 in
theorem wm1991 : (Jvm.Cond.methodLink "NearSpellLaw" (150 : Nat) ({ cls := "NearSpellModel", name := "fullest", desc := "()I" } : Jvm.MethodName)) ∈ wTs := wmem (i := 1991) (by decide +kernel) (by decide +kernel)
set_option maxRecDepth 20000 in
theorem wm1994 : (Jvm.Cond.code ({ cls := "NearSpellModel", name := "fullest", desc := "()I" } : Jvm.MethodName) prog_14_method_99_code (6 : Nat) (Option.some Jvm.ClassFile.FieldType.int)) ∈ wTs := wmem (i := 1994) (by decide +kernel) (by decide +kernel)
set_option maxRecDepth 20000 in
theorem wm1992 : (Jvm.Cond.instanceMethod ({ cls := "NearSpellModel", name := "fullest", desc := "()I" } : Jvm.MethodName)) ∈ wTs := wmem (i := 1992) (by decide +kernel) (by decide +kernel)
set_option maxRecDepth 20000 in
theorem wm1993 : (Jvm.Cond.selects "NearSpellModel" ({ cls := "NearSpellModel", name := "fullest", desc := "()I" } : Jvm.MethodName) ({ cls := "NearSpellModel", name := "fullest", desc := "()I" } : Jvm.MethodName)) ∈ wTs := wmem (i := 1993) (by decide +kernel) (by decide +kernel)
set_option maxRecDepth 20000 in
theorem wm1278 : (Jvm.Cond.methodLink "NearSpellLaw" (151 : Nat) ({ cls := "NearSpell", name := "store", desc := "()I" } : Jvm.MethodName)) ∈ wTs := wmem (i := 1278) (by decide +kernel) (by decide +kernel)
set_option maxRecDepth 20000 in
theorem wm1281 : (Jvm.Cond.code ({ cls := "NearSpell", name := "store", desc := "()I" } : Jvm.MethodName) prog_1_method_35_code (1 : Nat) (Option.some Jvm.ClassFile.FieldType.int)) ∈ wTs := wmem (i := 1281) (by decide +kernel) (by decide +kernel)
set_option maxRecDepth 20000 in
theorem wm1279 : (Jvm.Cond.instanceMethod ({ cls := "NearSpell", name := "store", desc := "()I" } : Jvm.MethodName)) ∈ wTs := wmem (i := 1279) (by decide +kernel) (by decide +kernel)
set_option maxRecDepth 20000 in
theorem wm1280 : (Jvm.Cond.selects "NearSpell" ({ cls := "NearSpell", name := "store", desc := "()I" } : Jvm.MethodName) ({ cls := "NearSpell", name := "store", desc := "()I" } : Jvm.MethodName)) ∈ wTs := wmem (i := 1280) (by decide +kernel) (by decide +kernel)
set_option maxRecDepth 20000 in
theorem wm1995 : (Jvm.Cond.methodLink "NearSpellLaw" (154 : Nat) ({ cls := "NearSpellModel", name := "store", desc := "()I" } : Jvm.MethodName)) ∈ wTs := wmem (i := 1995) (by decide +kernel) (by decide +kernel)
set_option maxRecDepth 20000 in
theorem wm1998 : (Jvm.Cond.code ({ cls := "NearSpellModel", name := "store", desc := "()I" } : Jvm.MethodName) prog_14_method_100_code (1 : Nat) (Option.some Jvm.ClassFile.FieldType.int)) ∈ wTs := wmem (i := 1998) (by decide +kernel) (by decide +kernel)
set_option maxRecDepth 20000 in
theorem wm1996 : (Jvm.Cond.instanceMethod ({ cls := "NearSpellModel", name := "store", desc := "()I" } : Jvm.MethodName)) ∈ wTs := wmem (i := 1996) (by decide +kernel) (by decide +kernel)
set_option maxRecDepth 20000 in
theorem wm1997 : (Jvm.Cond.selects "NearSpellModel" ({ cls := "NearSpellModel", name := "store", desc := "()I" } : Jvm.MethodName) ({ cls := "NearSpellModel", name := "store", desc := "()I" } : Jvm.MethodName)) ∈ wTs := wmem (i := 1997) (by decide +kernel) (by decide +kernel)
set_option maxRecDepth 20000 in
theorem wm1286 : (Jvm.Cond.methodLink "NearSpellLaw" (155 : Nat) ({ cls := "NearSpell", name := "clashes", desc := "()I" } : Jvm.MethodName)) ∈ wTs := wmem (i := 1286) (by decide +kernel) (by decide +kernel)
set_option maxRecDepth 20000 in
theorem wm1289 : (Jvm.Cond.code ({ cls := "NearSpell", name := "clashes", desc := "()I" } : Jvm.MethodName) prog_1_method_36_code (1 : Nat) (Option.some Jvm.ClassFile.FieldType.int)) ∈ wTs := wmem (i := 1289) (by decide +kernel) (by decide +kernel)
set_option maxRecDepth 20000 in
theorem wm1287 : (Jvm.Cond.instanceMethod ({ cls := "NearSpell", name := "clashes", desc := "()I" } : Jvm.MethodName)) ∈ wTs := wmem (i := 1287) (by decide +kernel) (by decide +kernel)
set_option maxRecDepth 20000 in
theorem wm1288 : (Jvm.Cond.selects "NearSpell" ({ cls := "NearSpell", name := "clashes", desc := "()I" } : Jvm.MethodName) ({ cls := "NearSpell", name := "clashes", desc := "()I" } : Jvm.MethodName)) ∈ wTs := wmem (i := 1288) (by decide +kernel) (by decide +kernel)
set_option maxRecDepth 20000 in
theorem wm2003 : (Jvm.Cond.methodLink "NearSpellLaw" (158 : Nat) ({ cls := "NearSpellModel", name := "clashes", desc := "()I" } : Jvm.MethodName)) ∈ wTs := wmem (i := 2003) (by decide +kernel) (by decide +kernel)
set_option maxRecDepth 20000 in
theorem wm2006 : (Jvm.Cond.code ({ cls := "NearSpellModel", name := "clashes", desc := "()I" } : Jvm.MethodName) prog_14_method_103_code (7 : Nat) (Option.some Jvm.ClassFile.FieldType.int)) ∈ wTs := wmem (i := 2006) (by decide +kernel) (by decide +kernel)
set_option maxRecDepth 20000 in
theorem wm2004 : (Jvm.Cond.instanceMethod ({ cls := "NearSpellModel", name := "clashes", desc := "()I" } : Jvm.MethodName)) ∈ wTs := wmem (i := 2004) (by decide +kernel) (by decide +kernel)
set_option maxRecDepth 20000 in
theorem wm2005 : (Jvm.Cond.selects "NearSpellModel" ({ cls := "NearSpellModel", name := "clashes", desc := "()I" } : Jvm.MethodName) ({ cls := "NearSpellModel", name := "clashes", desc := "()I" } : Jvm.MethodName)) ∈ wTs := wmem (i := 2005) (by decide +kernel) (by decide +kernel)
set_option maxRecDepth 20000 in
theorem wm1294 : (Jvm.Cond.methodLink "NearSpellLaw" (159 : Nat) ({ cls := "NearSpell", name := "rarest", desc := "()I" } : Jvm.MethodName)) ∈ wTs := wmem (i := 1294) (by decide +kernel) (by decide +kernel)
set_option maxRecDepth 20000 in
theorem wm1297 : (Jvm.Cond.code ({ cls := "NearSpell", name := "rarest", desc := "()I" } : Jvm.MethodName) prog_1_method_37_code (1 : Nat) (Option.some Jvm.ClassFile.FieldType.int)) ∈ wTs := wmem (i := 1297) (by decide +kernel) (by decide +kernel)
set_option maxRecDepth 20000 in
theorem wm1295 : (Jvm.Cond.instanceMethod ({ cls := "NearSpell", name := "rarest", desc := "()I" } : Jvm.MethodName)) ∈ wTs := wmem (i := 1295) (by decide +kernel) (by decide +kernel)
set_option maxRecDepth 20000 in
theorem wm1296 : (Jvm.Cond.selects "NearSpell" ({ cls := "NearSpell", name := "rarest", desc := "()I" } : Jvm.MethodName) ({ cls := "NearSpell", name := "rarest", desc := "()I" } : Jvm.MethodName)) ∈ wTs := wmem (i := 1296) (by decide +kernel) (by decide +kernel)
set_option maxRecDepth 20000 in
theorem wm2011 : (Jvm.Cond.methodLink "NearSpellLaw" (162 : Nat) ({ cls := "NearSpellModel", name := "rarest", desc := "()I" } : Jvm.MethodName)) ∈ wTs := wmem (i := 2011) (by decide +kernel) (by decide +kernel)
set_option maxRecDepth 20000 in
theorem wm2014 : (Jvm.Cond.code ({ cls := "NearSpellModel", name := "rarest", desc := "()I" } : Jvm.MethodName) prog_14_method_104_code (8 : Nat) (Option.some Jvm.ClassFile.FieldType.int)) ∈ wTs := wmem (i := 2014) (by decide +kernel) (by decide +kernel)
set_option maxRecDepth 20000 in
theorem wm2012 : (Jvm.Cond.instanceMethod ({ cls := "NearSpellModel", name := "rarest", desc := "()I" } : Jvm.MethodName)) ∈ wTs := wmem (i := 2012) (by decide +kernel) (by decide +kernel)
set_option maxRecDepth 20000 in
theorem wm2013 : (Jvm.Cond.selects "NearSpellModel" ({ cls := "NearSpellModel", name := "rarest", desc := "()I" } : Jvm.MethodName) ({ cls := "NearSpellModel", name := "rarest", desc := "()I" } : Jvm.MethodName)) ∈ wTs := wmem (i := 2013) (by decide +kernel) (by decide +kernel)
set_option maxRecDepth 20000 in
theorem wm1306 : (Jvm.Cond.methodLink "NearSpellLaw" (163 : Nat) ({ cls := "NearSpell", name := "law", desc := "(I)I" } : Jvm.MethodName)) ∈ wTs := wmem (i := 1306) (by decide +kernel) (by decide +kernel)
set_option maxRecDepth 20000 in
theorem wm1309 : (Jvm.Cond.code ({ cls := "NearSpell", name := "law", desc := "(I)I" } : Jvm.MethodName) prog_1_method_38_code (2 : Nat) (Option.some Jvm.ClassFile.FieldType.int)) ∈ wTs := wmem (i := 1309) (by decide +kernel) (by decide +kernel)
set_option maxRecDepth 20000 in
theorem wm1307 : (Jvm.Cond.instanceMethod ({ cls := "NearSpell", name := "law", desc := "(I)I" } : Jvm.MethodName)) ∈ wTs := wmem (i := 1307) (by decide +kernel) (by decide +kernel)
set_option maxRecDepth 20000 in
theorem wm1308 : (Jvm.Cond.selects "NearSpell" ({ cls := "NearSpell", name := "law", desc := "(I)I" } : Jvm.MethodName) ({ cls := "NearSpell", name := "law", desc := "(I)I" } : Jvm.MethodName)) ∈ wTs := wmem (i := 1308) (by decide +kernel) (by decide +kernel)
set_option maxRecDepth 20000 in
theorem wm1999 : (Jvm.Cond.methodLink "NearSpellLaw" (166 : Nat) ({ cls := "NearSpellModel", name := "law", desc := "(I)I" } : Jvm.MethodName)) ∈ wTs := wmem (i := 1999) (by decide +kernel) (by decide +kernel)
set_option maxRecDepth 20000 in
theorem wm2002 : (Jvm.Cond.code ({ cls := "NearSpellModel", name := "law", desc := "(I)I" } : Jvm.MethodName) prog_14_method_101_code (2 : Nat) (Option.some Jvm.ClassFile.FieldType.int)) ∈ wTs := wmem (i := 2002) (by decide +kernel) (by decide +kernel)
set_option maxRecDepth 20000 in
theorem wm2000 : (Jvm.Cond.instanceMethod ({ cls := "NearSpellModel", name := "law", desc := "(I)I" } : Jvm.MethodName)) ∈ wTs := wmem (i := 2000) (by decide +kernel) (by decide +kernel)
set_option maxRecDepth 20000 in
theorem wm2001 : (Jvm.Cond.selects "NearSpellModel" ({ cls := "NearSpellModel", name := "law", desc := "(I)I" } : Jvm.MethodName) ({ cls := "NearSpellModel", name := "law", desc := "(I)I" } : Jvm.MethodName)) ∈ wTs := wmem (i := 2001) (by decide +kernel) (by decide +kernel)
set_option maxRecDepth 20000 in
theorem wm1310 : (Jvm.Cond.methodLink "NearSpellLaw" (167 : Nat) ({ cls := "NearSpell", name := "odds", desc := "(II)I" } : Jvm.MethodName)) ∈ wTs := wmem (i := 1310) (by decide +kernel) (by decide +kernel)
set_option maxRecDepth 20000 in
theorem wm1313 : (Jvm.Cond.code ({ cls := "NearSpell", name := "odds", desc := "(II)I" } : Jvm.MethodName) prog_1_method_39_code (8 : Nat) (Option.some Jvm.ClassFile.FieldType.int)) ∈ wTs := wmem (i := 1313) (by decide +kernel) (by decide +kernel)
set_option maxRecDepth 20000 in
theorem wm1311 : (Jvm.Cond.instanceMethod ({ cls := "NearSpell", name := "odds", desc := "(II)I" } : Jvm.MethodName)) ∈ wTs := wmem (i := 1311) (by decide +kernel) (by decide +kernel)
set_option maxRecDepth 20000 in
theorem wm1312 : (Jvm.Cond.selects "NearSpell" ({ cls := "NearSpell", name := "odds", desc := "(II)I" } : Jvm.MethodName) ({ cls := "NearSpell", name := "odds", desc := "(II)I" } : Jvm.MethodName)) ∈ wTs := wmem (i := 1312) (by decide +kernel) (by decide +kernel)
set_option maxRecDepth 20000 in
theorem wm2055 : (Jvm.Cond.methodLink "NearSpellLaw" (170 : Nat) ({ cls := "NearSpellModel", name := "odds", desc := "(II)I" } : Jvm.MethodName)) ∈ wTs := wmem (i := 2055) (by decide +kernel) (by decide +kernel)
set_option maxRecDepth 20000 in
theorem wm2058 : (Jvm.Cond.code ({ cls := "NearSpellModel", name := "odds", desc := "(II)I" } : Jvm.MethodName) prog_14_method_115_code (5 : Nat) (Option.some Jvm.ClassFile.FieldType.int)) ∈ wTs := wmem (i := 2058) (by decide +kernel) (by decide +kernel)
set_option maxRecDepth 20000 in
theorem wm2056 : (Jvm.Cond.instanceMethod ({ cls := "NearSpellModel", name := "odds", desc := "(II)I" } : Jvm.MethodName)) ∈ wTs := wmem (i := 2056) (by decide +kernel) (by decide +kernel)
set_option maxRecDepth 20000 in
theorem wm2057 : (Jvm.Cond.selects "NearSpellModel" ({ cls := "NearSpellModel", name := "odds", desc := "(II)I" } : Jvm.MethodName) ({ cls := "NearSpellModel", name := "odds", desc := "(II)I" } : Jvm.MethodName)) ∈ wTs := wmem (i := 2057) (by decide +kernel) (by decide +kernel)
set_option maxRecDepth 20000 in
theorem wm1317 : (Jvm.Cond.methodLink "NearSpellLaw" (171 : Nat) ({ cls := "NearSpell", name := "lies", desc := "(I)I" } : Jvm.MethodName)) ∈ wTs := wmem (i := 1317) (by decide +kernel) (by decide +kernel)
set_option maxRecDepth 20000 in
theorem wm1320 : (Jvm.Cond.code ({ cls := "NearSpell", name := "lies", desc := "(I)I" } : Jvm.MethodName) prog_1_method_40_code (2 : Nat) (Option.some Jvm.ClassFile.FieldType.int)) ∈ wTs := wmem (i := 1320) (by decide +kernel) (by decide +kernel)
set_option maxRecDepth 20000 in
theorem wm1318 : (Jvm.Cond.instanceMethod ({ cls := "NearSpell", name := "lies", desc := "(I)I" } : Jvm.MethodName)) ∈ wTs := wmem (i := 1318) (by decide +kernel) (by decide +kernel)
set_option maxRecDepth 20000 in
theorem wm1319 : (Jvm.Cond.selects "NearSpell" ({ cls := "NearSpell", name := "lies", desc := "(I)I" } : Jvm.MethodName) ({ cls := "NearSpell", name := "lies", desc := "(I)I" } : Jvm.MethodName)) ∈ wTs := wmem (i := 1319) (by decide +kernel) (by decide +kernel)
set_option maxRecDepth 20000 in
theorem wm1818 : (Jvm.Cond.methodLink "NearSpellLaw" (174 : Nat) ({ cls := "NearSpellModel", name := "lies", desc := "(I)I" } : Jvm.MethodName)) ∈ wTs := wmem (i := 1818) (by decide +kernel) (by decide +kernel)
set_option maxRecDepth 20000 in
theorem wm1821 : (Jvm.Cond.code ({ cls := "NearSpellModel", name := "lies", desc := "(I)I" } : Jvm.MethodName) prog_14_method_71_code (2 : Nat) (Option.some Jvm.ClassFile.FieldType.int)) ∈ wTs := wmem (i := 1821) (by decide +kernel) (by decide +kernel)
set_option maxRecDepth 20000 in
theorem wm1819 : (Jvm.Cond.instanceMethod ({ cls := "NearSpellModel", name := "lies", desc := "(I)I" } : Jvm.MethodName)) ∈ wTs := wmem (i := 1819) (by decide +kernel) (by decide +kernel)
set_option maxRecDepth 20000 in
theorem wm1820 : (Jvm.Cond.selects "NearSpellModel" ({ cls := "NearSpellModel", name := "lies", desc := "(I)I" } : Jvm.MethodName) ({ cls := "NearSpellModel", name := "lies", desc := "(I)I" } : Jvm.MethodName)) ∈ wTs := wmem (i := 1820) (by decide +kernel) (by decide +kernel)
set_option maxRecDepth 20000 in
theorem wm1321 : (Jvm.Cond.methodLink "NearSpellLaw" (175 : Nat) ({ cls := "NearSpell", name := "seen", desc := "(IIZ)I" } : Jvm.MethodName)) ∈ wTs := wmem (i := 1321) (by decide +kernel) (by decide +kernel)
set_option maxRecDepth 20000 in
theorem wm1324 : (Jvm.Cond.code ({ cls := "NearSpell", name := "seen", desc := "(IIZ)I" } : Jvm.MethodName) prog_1_method_41_code (4 : Nat) (Option.some Jvm.ClassFile.FieldType.int)) ∈ wTs := wmem (i := 1324) (by decide +kernel) (by decide +kernel)
set_option maxRecDepth 20000 in
theorem wm1322 : (Jvm.Cond.instanceMethod ({ cls := "NearSpell", name := "seen", desc := "(IIZ)I" } : Jvm.MethodName)) ∈ wTs := wmem (i := 1322) (by decide +kernel) (by decide +kernel)
set_option maxRecDepth 20000 in
theorem wm1323 : (Jvm.Cond.selects "NearSpell" ({ cls := "NearSpell", name := "seen", desc := "(IIZ)I" } : Jvm.MethodName) ({ cls := "NearSpell", name := "seen", desc := "(IIZ)I" } : Jvm.MethodName)) ∈ wTs := wmem (i := 1323) (by decide +kernel) (by decide +kernel)
set_option maxRecDepth 20000 in
theorem wm2065 : (Jvm.Cond.methodLink "NearSpellLaw" (179 : Nat) ({ cls := "NearSpellModel", name := "seen", desc := "(IIZ)I" } : Jvm.MethodName)) ∈ wTs := wmem (i := 2065) (by decide +kernel) (by decide +kernel)
set_option maxRecDepth 20000 in
theorem wm2068 : (Jvm.Cond.code ({ cls := "NearSpellModel", name := "seen", desc := "(IIZ)I" } : Jvm.MethodName) prog_14_method_117_code (4 : Nat) (Option.some Jvm.ClassFile.FieldType.int)) ∈ wTs := wmem (i := 2068) (by decide +kernel) (by decide +kernel)
set_option maxRecDepth 20000 in
theorem wm2066 : (Jvm.Cond.instanceMethod ({ cls := "NearSpellModel", name := "seen", desc := "(IIZ)I" } : Jvm.MethodName)) ∈ wTs := wmem (i := 2066) (by decide +kernel) (by decide +kernel)
set_option maxRecDepth 20000 in
theorem wm2067 : (Jvm.Cond.selects "NearSpellModel" ({ cls := "NearSpellModel", name := "seen", desc := "(IIZ)I" } : Jvm.MethodName) ({ cls := "NearSpellModel", name := "seen", desc := "(IIZ)I" } : Jvm.MethodName)) ∈ wTs := wmem (i := 2067) (by decide +kernel) (by decide +kernel)
set_option maxRecDepth 20000 in
theorem wm1329 : (Jvm.Cond.methodLink "NearSpellLaw" (180 : Nat) ({ cls := "NearSpell", name := "untell", desc := "(I)Z" } : Jvm.MethodName)) ∈ wTs := wmem (i := 1329) (by decide +kernel) (by decide +kernel)
set_option maxRecDepth 20000 in
theorem wm1332 : (Jvm.Cond.code ({ cls := "NearSpell", name := "untell", desc := "(I)Z" } : Jvm.MethodName) prog_1_method_42_code (2 : Nat) (Option.some Jvm.ClassFile.FieldType.boolean)) ∈ wTs := wmem (i := 1332) (by decide +kernel) (by decide +kernel)
set_option maxRecDepth 20000 in
theorem wm1330 : (Jvm.Cond.instanceMethod ({ cls := "NearSpell", name := "untell", desc := "(I)Z" } : Jvm.MethodName)) ∈ wTs := wmem (i := 1330) (by decide +kernel) (by decide +kernel)
set_option maxRecDepth 20000 in
theorem wm1331 : (Jvm.Cond.selects "NearSpell" ({ cls := "NearSpell", name := "untell", desc := "(I)Z" } : Jvm.MethodName) ({ cls := "NearSpell", name := "untell", desc := "(I)Z" } : Jvm.MethodName)) ∈ wTs := wmem (i := 1331) (by decide +kernel) (by decide +kernel)
set_option maxRecDepth 20000 in
theorem wm2069 : (Jvm.Cond.methodLink "NearSpellLaw" (184 : Nat) ({ cls := "NearSpellModel", name := "untell", desc := "(I)Z" } : Jvm.MethodName)) ∈ wTs := wmem (i := 2069) (by decide +kernel) (by decide +kernel)
set_option maxRecDepth 20000 in
theorem wm2072 : (Jvm.Cond.code ({ cls := "NearSpellModel", name := "untell", desc := "(I)Z" } : Jvm.MethodName) prog_14_method_118_code (2 : Nat) (Option.some Jvm.ClassFile.FieldType.boolean)) ∈ wTs := wmem (i := 2072) (by decide +kernel) (by decide +kernel)
set_option maxRecDepth 20000 in
theorem wm2070 : (Jvm.Cond.instanceMethod ({ cls := "NearSpellModel", name := "untell", desc := "(I)Z" } : Jvm.MethodName)) ∈ wTs := wmem (i := 2070) (by decide +kernel) (by decide +kernel)
set_option maxRecDepth 20000 in
theorem wm2071 : (Jvm.Cond.selects "NearSpellModel" ({ cls := "NearSpellModel", name := "untell", desc := "(I)Z" } : Jvm.MethodName) ({ cls := "NearSpellModel", name := "untell", desc := "(I)Z" } : Jvm.MethodName)) ∈ wTs := wmem (i := 2071) (by decide +kernel) (by decide +kernel)
set_option maxRecDepth 20000 in
theorem wm1337 : (Jvm.Cond.methodLink "NearSpellLaw" (185 : Nat) ({ cls := "NearSpell", name := "later", desc := "(I)I" } : Jvm.MethodName)) ∈ wTs := wmem (i := 1337) (by decide +kernel) (by decide +kernel)
set_option maxRecDepth 20000 in
theorem wm1340 : (Jvm.Cond.code ({ cls := "NearSpell", name := "later", desc := "(I)I" } : Jvm.MethodName) prog_1_method_43_code (2 : Nat) (Option.some Jvm.ClassFile.FieldType.int)) ∈ wTs := wmem (i := 1340) (by decide +kernel) (by decide +kernel)
set_option maxRecDepth 20000 in
theorem wm1338 : (Jvm.Cond.instanceMethod ({ cls := "NearSpell", name := "later", desc := "(I)I" } : Jvm.MethodName)) ∈ wTs := wmem (i := 1338) (by decide +kernel) (by decide +kernel)
set_option maxRecDepth 20000 in
theorem wm1339 : (Jvm.Cond.selects "NearSpell" ({ cls := "NearSpell", name := "later", desc := "(I)I" } : Jvm.MethodName) ({ cls := "NearSpell", name := "later", desc := "(I)I" } : Jvm.MethodName)) ∈ wTs := wmem (i := 1339) (by decide +kernel) (by decide +kernel)
set_option maxRecDepth 20000 in
theorem wm2073 : (Jvm.Cond.methodLink "NearSpellLaw" (188 : Nat) ({ cls := "NearSpellModel", name := "later", desc := "(I)I" } : Jvm.MethodName)) ∈ wTs := wmem (i := 2073) (by decide +kernel) (by decide +kernel)
set_option maxRecDepth 20000 in
theorem wm2076 : (Jvm.Cond.code ({ cls := "NearSpellModel", name := "later", desc := "(I)I" } : Jvm.MethodName) prog_14_method_119_code (2 : Nat) (Option.some Jvm.ClassFile.FieldType.int)) ∈ wTs := wmem (i := 2076) (by decide +kernel) (by decide +kernel)
set_option maxRecDepth 20000 in
theorem wm2074 : (Jvm.Cond.instanceMethod ({ cls := "NearSpellModel", name := "later", desc := "(I)I" } : Jvm.MethodName)) ∈ wTs := wmem (i := 2074) (by decide +kernel) (by decide +kernel)
set_option maxRecDepth 20000 in
theorem wm2075 : (Jvm.Cond.selects "NearSpellModel" ({ cls := "NearSpellModel", name := "later", desc := "(I)I" } : Jvm.MethodName) ({ cls := "NearSpellModel", name := "later", desc := "(I)I" } : Jvm.MethodName)) ∈ wTs := wmem (i := 2075) (by decide +kernel) (by decide +kernel)
set_option maxRecDepth 20000 in
theorem wm1346 : (Jvm.Cond.methodLink "NearSpellLaw" (189 : Nat) ({ cls := "NearSpell", name := "fits", desc := "(I)I" } : Jvm.MethodName)) ∈ wTs := wmem (i := 1346) (by decide +kernel) (by decide +kernel)
set_option maxRecDepth 20000 in
theorem wm1349 : (Jvm.Cond.code ({ cls := "NearSpell", name := "fits", desc := "(I)I" } : Jvm.MethodName) prog_1_method_44_code (2 : Nat) (Option.some Jvm.ClassFile.FieldType.int)) ∈ wTs := wmem (i := 1349) (by decide +kernel) (by decide +kernel)
set_option maxRecDepth 20000 in
theorem wm1347 : (Jvm.Cond.instanceMethod ({ cls := "NearSpell", name := "fits", desc := "(I)I" } : Jvm.MethodName)) ∈ wTs := wmem (i := 1347) (by decide +kernel) (by decide +kernel)
set_option maxRecDepth 20000 in
theorem wm1348 : (Jvm.Cond.selects "NearSpell" ({ cls := "NearSpell", name := "fits", desc := "(I)I" } : Jvm.MethodName) ({ cls := "NearSpell", name := "fits", desc := "(I)I" } : Jvm.MethodName)) ∈ wTs := wmem (i := 1348) (by decide +kernel) (by decide +kernel)
set_option maxRecDepth 20000 in
theorem wm2078 : (Jvm.Cond.methodLink "NearSpellLaw" (192 : Nat) ({ cls := "NearSpellModel", name := "fits", desc := "(I)I" } : Jvm.MethodName)) ∈ wTs := wmem (i := 2078) (by decide +kernel) (by decide +kernel)
set_option maxRecDepth 20000 in
theorem wm1364 : (Jvm.Cond.methodLink "NearSpellLaw" (193 : Nat) ({ cls := "NearSpell", name := "ask", desc := "(II)I" } : Jvm.MethodName)) ∈ wTs := wmem (i := 1364) (by decide +kernel) (by decide +kernel)
set_option maxRecDepth 20000 in
theorem wm1367 : (Jvm.Cond.code ({ cls := "NearSpell", name := "ask", desc := "(II)I" } : Jvm.MethodName) prog_1_method_45_code (3 : Nat) (Option.some Jvm.ClassFile.FieldType.int)) ∈ wTs := wmem (i := 1367) (by decide +kernel) (by decide +kernel)
set_option maxRecDepth 20000 in
theorem wm1365 : (Jvm.Cond.instanceMethod ({ cls := "NearSpell", name := "ask", desc := "(II)I" } : Jvm.MethodName)) ∈ wTs := wmem (i := 1365) (by decide +kernel) (by decide +kernel)
set_option maxRecDepth 20000 in
theorem wm1366 : (Jvm.Cond.selects "NearSpell" ({ cls := "NearSpell", name := "ask", desc := "(II)I" } : Jvm.MethodName) ({ cls := "NearSpell", name := "ask", desc := "(II)I" } : Jvm.MethodName)) ∈ wTs := wmem (i := 1366) (by decide +kernel) (by decide +kernel)
set_option maxRecDepth 20000 in
theorem wm2094 : (Jvm.Cond.methodLink "NearSpellLaw" (196 : Nat) ({ cls := "NearSpellModel", name := "ask", desc := "(II)I" } : Jvm.MethodName)) ∈ wTs := wmem (i := 2094) (by decide +kernel) (by decide +kernel)
set_option maxRecDepth 20000 in
theorem wm2097 : (Jvm.Cond.code ({ cls := "NearSpellModel", name := "ask", desc := "(II)I" } : Jvm.MethodName) prog_14_method_124_code (8 : Nat) (Option.some Jvm.ClassFile.FieldType.int)) ∈ wTs := wmem (i := 2097) (by decide +kernel) (by decide +kernel)
set_option maxRecDepth 20000 in
theorem wm2095 : (Jvm.Cond.instanceMethod ({ cls := "NearSpellModel", name := "ask", desc := "(II)I" } : Jvm.MethodName)) ∈ wTs := wmem (i := 2095) (by decide +kernel) (by decide +kernel)
set_option maxRecDepth 20000 in
theorem wm2096 : (Jvm.Cond.selects "NearSpellModel" ({ cls := "NearSpellModel", name := "ask", desc := "(II)I" } : Jvm.MethodName) ({ cls := "NearSpellModel", name := "ask", desc := "(II)I" } : Jvm.MethodName)) ∈ wTs := wmem (i := 2096) (by decide +kernel) (by decide +kernel)
set_option maxRecDepth 20000 in
theorem wm1378 : (Jvm.Cond.methodLink "NearSpellLaw" (197 : Nat) ({ cls := "NearSpell", name := "image", desc := "(I)I" } : Jvm.MethodName)) ∈ wTs := wmem (i := 1378) (by decide +kernel) (by decide +kernel)
set_option maxRecDepth 20000 in
theorem wm1381 : (Jvm.Cond.code ({ cls := "NearSpell", name := "image", desc := "(I)I" } : Jvm.MethodName) prog_1_method_46_code (2 : Nat) (Option.some Jvm.ClassFile.FieldType.int)) ∈ wTs := wmem (i := 1381) (by decide +kernel) (by decide +kernel)
set_option maxRecDepth 20000 in
theorem wm1379 : (Jvm.Cond.instanceMethod ({ cls := "NearSpell", name := "image", desc := "(I)I" } : Jvm.MethodName)) ∈ wTs := wmem (i := 1379) (by decide +kernel) (by decide +kernel)
set_option maxRecDepth 20000 in
theorem wm1380 : (Jvm.Cond.selects "NearSpell" ({ cls := "NearSpell", name := "image", desc := "(I)I" } : Jvm.MethodName) ({ cls := "NearSpell", name := "image", desc := "(I)I" } : Jvm.MethodName)) ∈ wTs := wmem (i := 1380) (by decide +kernel) (by decide +kernel)
set_option maxRecDepth 20000 in
theorem wm2103 : (Jvm.Cond.methodLink "NearSpellLaw" (200 : Nat) ({ cls := "NearSpellModel", name := "image", desc := "(I)I" } : Jvm.MethodName)) ∈ wTs := wmem (i := 2103) (by decide +kernel) (by decide +kernel)
set_option maxRecDepth 20000 in
theorem wm2106 : (Jvm.Cond.code ({ cls := "NearSpellModel", name := "image", desc := "(I)I" } : Jvm.MethodName) prog_14_method_125_code (3 : Nat) (Option.some Jvm.ClassFile.FieldType.int)) ∈ wTs := wmem (i := 2106) (by decide +kernel) (by decide +kernel)
set_option maxRecDepth 20000 in
theorem wm2104 : (Jvm.Cond.instanceMethod ({ cls := "NearSpellModel", name := "image", desc := "(I)I" } : Jvm.MethodName)) ∈ wTs := wmem (i := 2104) (by decide +kernel) (by decide +kernel)
set_option maxRecDepth 20000 in
theorem wm2105 : (Jvm.Cond.selects "NearSpellModel" ({ cls := "NearSpellModel", name := "image", desc := "(I)I" } : Jvm.MethodName) ({ cls := "NearSpellModel", name := "image", desc := "(I)I" } : Jvm.MethodName)) ∈ wTs := wmem (i := 2105) (by decide +kernel) (by decide +kernel)
set_option maxRecDepth 20000 in
theorem wm1386 : (Jvm.Cond.methodLink "NearSpellLaw" (201 : Nat) ({ cls := "NearSpell", name := "back", desc := "(I)I" } : Jvm.MethodName)) ∈ wTs := wmem (i := 1386) (by decide +kernel) (by decide +kernel)
set_option maxRecDepth 20000 in
theorem wm1389 : (Jvm.Cond.code ({ cls := "NearSpell", name := "back", desc := "(I)I" } : Jvm.MethodName) prog_1_method_47_code (2 : Nat) (Option.some Jvm.ClassFile.FieldType.int)) ∈ wTs := wmem (i := 1389) (by decide +kernel) (by decide +kernel)
set_option maxRecDepth 20000 in
theorem wm1387 : (Jvm.Cond.instanceMethod ({ cls := "NearSpell", name := "back", desc := "(I)I" } : Jvm.MethodName)) ∈ wTs := wmem (i := 1387) (by decide +kernel) (by decide +kernel)
set_option maxRecDepth 20000 in
theorem wm1388 : (Jvm.Cond.selects "NearSpell" ({ cls := "NearSpell", name := "back", desc := "(I)I" } : Jvm.MethodName) ({ cls := "NearSpell", name := "back", desc := "(I)I" } : Jvm.MethodName)) ∈ wTs := wmem (i := 1388) (by decide +kernel) (by decide +kernel)
set_option maxRecDepth 20000 in
theorem wm2107 : (Jvm.Cond.methodLink "NearSpellLaw" (204 : Nat) ({ cls := "NearSpellModel", name := "back", desc := "(I)I" } : Jvm.MethodName)) ∈ wTs := wmem (i := 2107) (by decide +kernel) (by decide +kernel)
set_option maxRecDepth 20000 in
theorem wm2110 : (Jvm.Cond.code ({ cls := "NearSpellModel", name := "back", desc := "(I)I" } : Jvm.MethodName) prog_14_method_126_code (3 : Nat) (Option.some Jvm.ClassFile.FieldType.int)) ∈ wTs := wmem (i := 2110) (by decide +kernel) (by decide +kernel)
set_option maxRecDepth 20000 in
theorem wm2108 : (Jvm.Cond.instanceMethod ({ cls := "NearSpellModel", name := "back", desc := "(I)I" } : Jvm.MethodName)) ∈ wTs := wmem (i := 2108) (by decide +kernel) (by decide +kernel)
set_option maxRecDepth 20000 in
theorem wm2109 : (Jvm.Cond.selects "NearSpellModel" ({ cls := "NearSpellModel", name := "back", desc := "(I)I" } : Jvm.MethodName) ({ cls := "NearSpellModel", name := "back", desc := "(I)I" } : Jvm.MethodName)) ∈ wTs := wmem (i := 2109) (by decide +kernel) (by decide +kernel)
set_option maxRecDepth 20000 in
theorem wm1394 : (Jvm.Cond.methodLink "NearSpellLaw" (205 : Nat) ({ cls := "NearSpell", name := "about", desc := "(I)I" } : Jvm.MethodName)) ∈ wTs := wmem (i := 1394) (by decide +kernel) (by decide +kernel)
set_option maxRecDepth 20000 in
theorem wm1397 : (Jvm.Cond.code ({ cls := "NearSpell", name := "about", desc := "(I)I" } : Jvm.MethodName) prog_1_method_48_code (2 : Nat) (Option.some Jvm.ClassFile.FieldType.int)) ∈ wTs := wmem (i := 1397) (by decide +kernel) (by decide +kernel)
set_option maxRecDepth 20000 in
theorem wm1395 : (Jvm.Cond.instanceMethod ({ cls := "NearSpell", name := "about", desc := "(I)I" } : Jvm.MethodName)) ∈ wTs := wmem (i := 1395) (by decide +kernel) (by decide +kernel)
set_option maxRecDepth 20000 in
theorem wm1396 : (Jvm.Cond.selects "NearSpell" ({ cls := "NearSpell", name := "about", desc := "(I)I" } : Jvm.MethodName) ({ cls := "NearSpell", name := "about", desc := "(I)I" } : Jvm.MethodName)) ∈ wTs := wmem (i := 1396) (by decide +kernel) (by decide +kernel)
set_option maxRecDepth 20000 in
theorem wm2111 : (Jvm.Cond.methodLink "NearSpellLaw" (208 : Nat) ({ cls := "NearSpellModel", name := "about", desc := "(I)I" } : Jvm.MethodName)) ∈ wTs := wmem (i := 2111) (by decide +kernel) (by decide +kernel)
set_option maxRecDepth 20000 in
theorem wm2114 : (Jvm.Cond.code ({ cls := "NearSpellModel", name := "about", desc := "(I)I" } : Jvm.MethodName) prog_14_method_127_code (2 : Nat) (Option.some Jvm.ClassFile.FieldType.int)) ∈ wTs := wmem (i := 2114) (by decide +kernel) (by decide +kernel)
set_option maxRecDepth 20000 in
theorem wm2112 : (Jvm.Cond.instanceMethod ({ cls := "NearSpellModel", name := "about", desc := "(I)I" } : Jvm.MethodName)) ∈ wTs := wmem (i := 2112) (by decide +kernel) (by decide +kernel)
set_option maxRecDepth 20000 in
theorem wm2113 : (Jvm.Cond.selects "NearSpellModel" ({ cls := "NearSpellModel", name := "about", desc := "(I)I" } : Jvm.MethodName) ({ cls := "NearSpellModel", name := "about", desc := "(I)I" } : Jvm.MethodName)) ∈ wTs := wmem (i := 2113) (by decide +kernel) (by decide +kernel)
theorem lkL_13 {G : rfG} (h : okG G) : wlk G "NearSpellLaw" 13 (⟨"NearSpell", "feed", "(IIIII)I"⟩, prog_1_method_2_code, 6, (some .int)) 5 ∧ Cond.instanceMethod ⟨"NearSpell", "feed", "(IIIII)I"⟩ ∈ G.2.2.1 ∧ Cond.selects "NearSpell" ⟨"NearSpell", "feed", "(IIIII)I"⟩ ⟨"NearSpell", "feed", "(IIIII)I"⟩ ∈ G.2.2.1 ∧ ((¬ 11 = 1000 ∧ ∃ T N, G.1.2.2.1[11]? = some ("NearSpell", T, N)) ∨ (11 = 1000 ∧ "NearSpell" = "java/lang/String" ∧ ∀ s, G.2.2.2 s → ∀ n, (n = 1 ∨ n = 2) → va_O "java/lang/String" (G.2.1.2.1 n) G.1.2.2.2 s s.heap)) := ⟨⟨Or.inl (wmT h (wm535)), wmT h (wm117), wmT h (wm538), by decide +kernel, by decide +kernel, by decide +kernel⟩, wmT h (wm536), wmT h (wm537), Or.inl ⟨by decide, TX11, 15, by rw [h.2.1]; rfl⟩⟩
theorem lkL_17 {G : rfG} (h : okG G) : wlk G "NearSpellLaw" 17 (⟨"NearSpellModel", "feed", "(IIIII)I"⟩, prog_14_method_128_code, 8, (some .int)) 5 ∧ Cond.instanceMethod ⟨"NearSpellModel", "feed", "(IIIII)I"⟩ ∈ G.2.2.1 ∧ Cond.selects "NearSpellModel" ⟨"NearSpellModel", "feed", "(IIIII)I"⟩ ⟨"NearSpellModel", "feed", "(IIIII)I"⟩ ∈ G.2.2.1 ∧ ((¬ 12 = 1000 ∧ ∃ T N, G.1.2.2.1[12]? = some ("NearSpellModel", T, N)) ∨ (12 = 1000 ∧ "NearSpellModel" = "java/lang/String" ∧ ∀ s, G.2.2.2 s → ∀ n, (n = 1 ∨ n = 2) → va_O "java/lang/String" (G.2.1.2.1 n) G.1.2.2.2 s s.heap)) := ⟨⟨Or.inl (wmT h (wm2115)), wmT h (wm129), wmT h (wm2118), by decide +kernel, by decide +kernel, by decide +kernel⟩, wmT h (wm2116), wmT h (wm2117), Or.inl ⟨by decide, TX12, 67, by rw [h.2.1]; rfl⟩⟩
theorem lkL_18 {G : rfG} (h : okG G) : wlk G "NearSpellLaw" 18 (⟨"NearSpell", "end", "(I)I"⟩, prog_1_method_3_code, 2, (some .int)) 1 ∧ Cond.instanceMethod ⟨"NearSpell", "end", "(I)I"⟩ ∈ G.2.2.1 ∧ Cond.selects "NearSpell" ⟨"NearSpell", "end", "(I)I"⟩ ⟨"NearSpell", "end", "(I)I"⟩ ∈ G.2.2.1 ∧ ((¬ 11 = 1000 ∧ ∃ T N, G.1.2.2.1[11]? = some ("NearSpell", T, N)) ∨ (11 = 1000 ∧ "NearSpell" = "java/lang/String" ∧ ∀ s, G.2.2.2 s → ∀ n, (n = 1 ∨ n = 2) → va_O "java/lang/String" (G.2.1.2.1 n) G.1.2.2.2 s s.heap)) := ⟨⟨Or.inl (wmT h (wm543)), wmT h (wm117), wmT h (wm546), by decide +kernel, by decide +kernel, by decide +kernel⟩, wmT h (wm544), wmT h (wm545), Or.inl ⟨by decide, TX11, 15, by rw [h.2.1]; rfl⟩⟩
theorem lkL_22 {G : rfG} (h : okG G) : wlk G "NearSpellLaw" 22 (⟨"NearSpellModel", "end", "(I)I"⟩, prog_14_method_129_code, 2, (some .int)) 1 ∧ Cond.instanceMethod ⟨"NearSpellModel", "end", "(I)I"⟩ ∈ G.2.2.1 ∧ Cond.selects "NearSpellModel" ⟨"NearSpellModel", "end", "(I)I"⟩ ⟨"NearSpellModel", "end", "(I)I"⟩ ∈ G.2.2.1 ∧ ((¬ 12 = 1000 ∧ ∃ T N, G.1.2.2.1[12]? = some ("NearSpellModel", T, N)) ∨ (12 = 1000 ∧ "NearSpellModel" = "java/lang/String" ∧ ∀ s, G.2.2.2 s → ∀ n, (n = 1 ∨ n = 2) → va_O "java/lang/String" (G.2.1.2.1 n) G.1.2.2.2 s s.heap)) := ⟨⟨Or.inl (wmT h (wm2119)), wmT h (wm129), wmT h (wm2122), by decide +kernel, by decide +kernel, by decide +kernel⟩, wmT h (wm2120), wmT h (wm2121), Or.inl ⟨by decide, TX12, 67, by rw [h.2.1]; rfl⟩⟩
theorem lkL_23 {G : rfG} (h : okG G) : wlk G "NearSpellLaw" 23 (⟨"NearSpell", "book", "()I"⟩, prog_1_method_4_code, 1, (some .int)) 0 ∧ Cond.instanceMethod ⟨"NearSpell", "book", "()I"⟩ ∈ G.2.2.1 ∧ Cond.selects "NearSpell" ⟨"NearSpell", "book", "()I"⟩ ⟨"NearSpell", "book", "()I"⟩ ∈ G.2.2.1 ∧ ((¬ 11 = 1000 ∧ ∃ T N, G.1.2.2.1[11]? = some ("NearSpell", T, N)) ∨ (11 = 1000 ∧ "NearSpell" = "java/lang/String" ∧ ∀ s, G.2.2.2 s → ∀ n, (n = 1 ∨ n = 2) → va_O "java/lang/String" (G.2.1.2.1 n) G.1.2.2.2 s s.heap)) := ⟨⟨Or.inl (wmT h (wm547)), wmT h (wm117), wmT h (wm550), by decide +kernel, by decide +kernel, by decide +kernel⟩, wmT h (wm548), wmT h (wm549), Or.inl ⟨by decide, TX11, 15, by rw [h.2.1]; rfl⟩⟩
theorem lkL_27 {G : rfG} (h : okG G) : wlk G "NearSpellLaw" 27 (⟨"NearSpellModel", "book", "()I"⟩, prog_14_method_16_code, 2, (some .int)) 0 ∧ Cond.instanceMethod ⟨"NearSpellModel", "book", "()I"⟩ ∈ G.2.2.1 ∧ Cond.selects "NearSpellModel" ⟨"NearSpellModel", "book", "()I"⟩ ⟨"NearSpellModel", "book", "()I"⟩ ∈ G.2.2.1 ∧ ((¬ 12 = 1000 ∧ ∃ T N, G.1.2.2.1[12]? = some ("NearSpellModel", T, N)) ∨ (12 = 1000 ∧ "NearSpellModel" = "java/lang/String" ∧ ∀ s, G.2.2.2 s → ∀ n, (n = 1 ∨ n = 2) → va_O "java/lang/String" (G.2.1.2.1 n) G.1.2.2.2 s s.heap)) := ⟨⟨Or.inl (wmT h (wm1618)), wmT h (wm129), wmT h (wm1621), by decide +kernel, by decide +kernel, by decide +kernel⟩, wmT h (wm1619), wmT h (wm1620), Or.inl ⟨by decide, TX12, 67, by rw [h.2.1]; rfl⟩⟩
theorem lkL_28 {G : rfG} (h : okG G) : wlk G "NearSpellLaw" 28 (⟨"NearSpell", "fault", "(I)I"⟩, prog_1_method_5_code, 2, (some .int)) 1 ∧ Cond.instanceMethod ⟨"NearSpell", "fault", "(I)I"⟩ ∈ G.2.2.1 ∧ Cond.selects "NearSpell" ⟨"NearSpell", "fault", "(I)I"⟩ ⟨"NearSpell", "fault", "(I)I"⟩ ∈ G.2.2.1 ∧ ((¬ 11 = 1000 ∧ ∃ T N, G.1.2.2.1[11]? = some ("NearSpell", T, N)) ∨ (11 = 1000 ∧ "NearSpell" = "java/lang/String" ∧ ∀ s, G.2.2.2 s → ∀ n, (n = 1 ∨ n = 2) → va_O "java/lang/String" (G.2.1.2.1 n) G.1.2.2.2 s s.heap)) := ⟨⟨Or.inl (wmT h (wm785)), wmT h (wm117), wmT h (wm788), by decide +kernel, by decide +kernel, by decide +kernel⟩, wmT h (wm786), wmT h (wm787), Or.inl ⟨by decide, TX11, 15, by rw [h.2.1]; rfl⟩⟩
theorem lkL_31 {G : rfG} (h : okG G) : wlk G "NearSpellLaw" 31 (⟨"NearSpellModel", "fault", "(I)I"⟩, prog_14_method_34_code, 2, (some .int)) 1 ∧ Cond.instanceMethod ⟨"NearSpellModel", "fault", "(I)I"⟩ ∈ G.2.2.1 ∧ Cond.selects "NearSpellModel" ⟨"NearSpellModel", "fault", "(I)I"⟩ ⟨"NearSpellModel", "fault", "(I)I"⟩ ∈ G.2.2.1 ∧ ((¬ 12 = 1000 ∧ ∃ T N, G.1.2.2.1[12]? = some ("NearSpellModel", T, N)) ∨ (12 = 1000 ∧ "NearSpellModel" = "java/lang/String" ∧ ∀ s, G.2.2.2 s → ∀ n, (n = 1 ∨ n = 2) → va_O "java/lang/String" (G.2.1.2.1 n) G.1.2.2.2 s s.heap)) := ⟨⟨Or.inl (wmT h (wm1739)), wmT h (wm129), wmT h (wm1742), by decide +kernel, by decide +kernel, by decide +kernel⟩, wmT h (wm1740), wmT h (wm1741), Or.inl ⟨by decide, TX12, 67, by rw [h.2.1]; rfl⟩⟩
theorem lkL_32 {G : rfG} (h : okG G) : wlk G "NearSpellLaw" 32 (⟨"NearSpell", "entry", "(II)I"⟩, prog_1_method_6_code, 3, (some .int)) 2 ∧ Cond.instanceMethod ⟨"NearSpell", "entry", "(II)I"⟩ ∈ G.2.2.1 ∧ Cond.selects "NearSpell" ⟨"NearSpell", "entry", "(II)I"⟩ ⟨"NearSpell", "entry", "(II)I"⟩ ∈ G.2.2.1 ∧ ((¬ 11 = 1000 ∧ ∃ T N, G.1.2.2.1[11]? = some ("NearSpell", T, N)) ∨ (11 = 1000 ∧ "NearSpell" = "java/lang/String" ∧ ∀ s, G.2.2.2 s → ∀ n, (n = 1 ∨ n = 2) → va_O "java/lang/String" (G.2.1.2.1 n) G.1.2.2.2 s s.heap)) := ⟨⟨Or.inl (wmT h (wm789)), wmT h (wm117), wmT h (wm792), by decide +kernel, by decide +kernel, by decide +kernel⟩, wmT h (wm790), wmT h (wm791), Or.inl ⟨by decide, TX11, 15, by rw [h.2.1]; rfl⟩⟩
theorem lkL_36 {G : rfG} (h : okG G) : wlk G "NearSpellLaw" 36 (⟨"NearSpellModel", "entry", "(II)I"⟩, prog_14_method_68_code, 3, (some .int)) 2 ∧ Cond.instanceMethod ⟨"NearSpellModel", "entry", "(II)I"⟩ ∈ G.2.2.1 ∧ Cond.selects "NearSpellModel" ⟨"NearSpellModel", "entry", "(II)I"⟩ ⟨"NearSpellModel", "entry", "(II)I"⟩ ∈ G.2.2.1 ∧ ((¬ 12 = 1000 ∧ ∃ T N, G.1.2.2.1[12]? = some ("NearSpellModel", T, N)) ∨ (12 = 1000 ∧ "NearSpellModel" = "java/lang/String" ∧ ∀ s, G.2.2.2 s → ∀ n, (n = 1 ∨ n = 2) → va_O "java/lang/String" (G.2.1.2.1 n) G.1.2.2.2 s s.heap)) := ⟨⟨Or.inl (wmT h (wm1743)), wmT h (wm129), wmT h (wm1746), by decide +kernel, by decide +kernel, by decide +kernel⟩, wmT h (wm1744), wmT h (wm1745), Or.inl ⟨by decide, TX12, 67, by rw [h.2.1]; rfl⟩⟩
theorem lkL_37 {G : rfG} (h : okG G) : wlk G "NearSpellLaw" 37 (⟨"NearSpell", "learn", "(II)I"⟩, prog_1_method_7_code, 4, (some .int)) 2 ∧ Cond.instanceMethod ⟨"NearSpell", "learn", "(II)I"⟩ ∈ G.2.2.1 ∧ Cond.selects "NearSpell" ⟨"NearSpell", "learn", "(II)I"⟩ ⟨"NearSpell", "learn", "(II)I"⟩ ∈ G.2.2.1 ∧ ((¬ 11 = 1000 ∧ ∃ T N, G.1.2.2.1[11]? = some ("NearSpell", T, N)) ∨ (11 = 1000 ∧ "NearSpell" = "java/lang/String" ∧ ∀ s, G.2.2.2 s → ∀ n, (n = 1 ∨ n = 2) → va_O "java/lang/String" (G.2.1.2.1 n) G.1.2.2.2 s s.heap)) := ⟨⟨Or.inl (wmT h (wm838)), wmT h (wm117), wmT h (wm841), by decide +kernel, by decide +kernel, by decide +kernel⟩, wmT h (wm839), wmT h (wm840), Or.inl ⟨by decide, TX11, 15, by rw [h.2.1]; rfl⟩⟩
theorem lkL_40 {G : rfG} (h : okG G) : wlk G "NearSpellLaw" 40 (⟨"NearSpellModel", "learn", "(II)I"⟩, prog_14_method_108_code, 4, (some .int)) 2 ∧ Cond.instanceMethod ⟨"NearSpellModel", "learn", "(II)I"⟩ ∈ G.2.2.1 ∧ Cond.selects "NearSpellModel" ⟨"NearSpellModel", "learn", "(II)I"⟩ ⟨"NearSpellModel", "learn", "(II)I"⟩ ∈ G.2.2.1 ∧ ((¬ 12 = 1000 ∧ ∃ T N, G.1.2.2.1[12]? = some ("NearSpellModel", T, N)) ∨ (12 = 1000 ∧ "NearSpellModel" = "java/lang/String" ∧ ∀ s, G.2.2.2 s → ∀ n, (n = 1 ∨ n = 2) → va_O "java/lang/String" (G.2.1.2.1 n) G.1.2.2.2 s s.heap)) := ⟨⟨Or.inl (wmT h (wm2015)), wmT h (wm129), wmT h (wm2018), by decide +kernel, by decide +kernel, by decide +kernel⟩, wmT h (wm2016), wmT h (wm2017), Or.inl ⟨by decide, TX12, 67, by rw [h.2.1]; rfl⟩⟩
theorem lkL_41 {G : rfG} (h : okG G) : wlk G "NearSpellLaw" 41 (⟨"NearSpell", "forget", "(I)I"⟩, prog_1_method_8_code, 2, (some .int)) 1 ∧ Cond.instanceMethod ⟨"NearSpell", "forget", "(I)I"⟩ ∈ G.2.2.1 ∧ Cond.selects "NearSpell" ⟨"NearSpell", "forget", "(I)I"⟩ ⟨"NearSpell", "forget", "(I)I"⟩ ∈ G.2.2.1 ∧ ((¬ 11 = 1000 ∧ ∃ T N, G.1.2.2.1[11]? = some ("NearSpell", T, N)) ∨ (11 = 1000 ∧ "NearSpell" = "java/lang/String" ∧ ∀ s, G.2.2.2 s → ∀ n, (n = 1 ∨ n = 2) → va_O "java/lang/String" (G.2.1.2.1 n) G.1.2.2.2 s s.heap)) := ⟨⟨Or.inl (wmT h (wm860)), wmT h (wm117), wmT h (wm863), by decide +kernel, by decide +kernel, by decide +kernel⟩, wmT h (wm861), wmT h (wm862), Or.inl ⟨by decide, TX11, 15, by rw [h.2.1]; rfl⟩⟩
theorem lkL_44 {G : rfG} (h : okG G) : wlk G "NearSpellLaw" 44 (⟨"NearSpellModel", "forget", "(I)I"⟩, prog_14_method_109_code, 2, (some .int)) 1 ∧ Cond.instanceMethod ⟨"NearSpellModel", "forget", "(I)I"⟩ ∈ G.2.2.1 ∧ Cond.selects "NearSpellModel" ⟨"NearSpellModel", "forget", "(I)I"⟩ ⟨"NearSpellModel", "forget", "(I)I"⟩ ∈ G.2.2.1 ∧ ((¬ 12 = 1000 ∧ ∃ T N, G.1.2.2.1[12]? = some ("NearSpellModel", T, N)) ∨ (12 = 1000 ∧ "NearSpellModel" = "java/lang/String" ∧ ∀ s, G.2.2.2 s → ∀ n, (n = 1 ∨ n = 2) → va_O "java/lang/String" (G.2.1.2.1 n) G.1.2.2.2 s s.heap)) := ⟨⟨Or.inl (wmT h (wm2027)), wmT h (wm129), wmT h (wm2030), by decide +kernel, by decide +kernel, by decide +kernel⟩, wmT h (wm2028), wmT h (wm2029), Or.inl ⟨by decide, TX12, 67, by rw [h.2.1]; rfl⟩⟩
theorem lkL_45 {G : rfG} (h : okG G) : wlk G "NearSpellLaw" 45 (⟨"NearSpell", "use", "(I)I"⟩, prog_1_method_9_code, 2, (some .int)) 1 ∧ Cond.instanceMethod ⟨"NearSpell", "use", "(I)I"⟩ ∈ G.2.2.1 ∧ Cond.selects "NearSpell" ⟨"NearSpell", "use", "(I)I"⟩ ⟨"NearSpell", "use", "(I)I"⟩ ∈ G.2.2.1 ∧ ((¬ 11 = 1000 ∧ ∃ T N, G.1.2.2.1[11]? = some ("NearSpell", T, N)) ∨ (11 = 1000 ∧ "NearSpell" = "java/lang/String" ∧ ∀ s, G.2.2.2 s → ∀ n, (n = 1 ∨ n = 2) → va_O "java/lang/String" (G.2.1.2.1 n) G.1.2.2.2 s s.heap)) := ⟨⟨Or.inl (wmT h (wm872)), wmT h (wm117), wmT h (wm875), by decide +kernel, by decide +kernel, by decide +kernel⟩, wmT h (wm873), wmT h (wm874), Or.inl ⟨by decide, TX11, 15, by rw [h.2.1]; rfl⟩⟩
theorem lkL_48 {G : rfG} (h : okG G) : wlk G "NearSpellLaw" 48 (⟨"NearSpellModel", "use", "(I)I"⟩, prog_14_method_110_code, 2, (some .int)) 1 ∧ Cond.instanceMethod ⟨"NearSpellModel", "use", "(I)I"⟩ ∈ G.2.2.1 ∧ Cond.selects "NearSpellModel" ⟨"NearSpellModel", "use", "(I)I"⟩ ⟨"NearSpellModel", "use", "(I)I"⟩ ∈ G.2.2.1 ∧ ((¬ 12 = 1000 ∧ ∃ T N, G.1.2.2.1[12]? = some ("NearSpellModel", T, N)) ∨ (12 = 1000 ∧ "NearSpellModel" = "java/lang/String" ∧ ∀ s, G.2.2.2 s → ∀ n, (n = 1 ∨ n = 2) → va_O "java/lang/String" (G.2.1.2.1 n) G.1.2.2.2 s s.heap)) := ⟨⟨Or.inl (wmT h (wm2031)), wmT h (wm129), wmT h (wm2034), by decide +kernel, by decide +kernel, by decide +kernel⟩, wmT h (wm2032), wmT h (wm2033), Or.inl ⟨by decide, TX12, 67, by rw [h.2.1]; rfl⟩⟩
theorem lkL_49 {G : rfG} (h : okG G) : wlk G "NearSpellLaw" 49 (⟨"NearSpell", "type", "(I)I"⟩, prog_1_method_10_code, 3, (some .int)) 1 ∧ Cond.instanceMethod ⟨"NearSpell", "type", "(I)I"⟩ ∈ G.2.2.1 ∧ Cond.selects "NearSpell" ⟨"NearSpell", "type", "(I)I"⟩ ⟨"NearSpell", "type", "(I)I"⟩ ∈ G.2.2.1 ∧ ((¬ 11 = 1000 ∧ ∃ T N, G.1.2.2.1[11]? = some ("NearSpell", T, N)) ∨ (11 = 1000 ∧ "NearSpell" = "java/lang/String" ∧ ∀ s, G.2.2.2 s → ∀ n, (n = 1 ∨ n = 2) → va_O "java/lang/String" (G.2.1.2.1 n) G.1.2.2.2 s s.heap)) := ⟨⟨Or.inl (wmT h (wm880)), wmT h (wm117), wmT h (wm883), by decide +kernel, by decide +kernel, by decide +kernel⟩, wmT h (wm881), wmT h (wm882), Or.inl ⟨by decide, TX11, 15, by rw [h.2.1]; rfl⟩⟩
theorem lkL_52 {G : rfG} (h : okG G) : wlk G "NearSpellLaw" 52 (⟨"NearSpellModel", "type", "(I)I"⟩, prog_14_method_111_code, 3, (some .int)) 1 ∧ Cond.instanceMethod ⟨"NearSpellModel", "type", "(I)I"⟩ ∈ G.2.2.1 ∧ Cond.selects "NearSpellModel" ⟨"NearSpellModel", "type", "(I)I"⟩ ⟨"NearSpellModel", "type", "(I)I"⟩ ∈ G.2.2.1 ∧ ((¬ 12 = 1000 ∧ ∃ T N, G.1.2.2.1[12]? = some ("NearSpellModel", T, N)) ∨ (12 = 1000 ∧ "NearSpellModel" = "java/lang/String" ∧ ∀ s, G.2.2.2 s → ∀ n, (n = 1 ∨ n = 2) → va_O "java/lang/String" (G.2.1.2.1 n) G.1.2.2.2 s s.heap)) := ⟨⟨Or.inl (wmT h (wm2035)), wmT h (wm129), wmT h (wm2038), by decide +kernel, by decide +kernel, by decide +kernel⟩, wmT h (wm2036), wmT h (wm2037), Or.inl ⟨by decide, TX12, 67, by rw [h.2.1]; rfl⟩⟩
theorem lkL_53 {G : rfG} (h : okG G) : wlk G "NearSpellLaw" 53 (⟨"NearSpell", "wipe", "()I"⟩, prog_1_method_11_code, 2, (some .int)) 0 ∧ Cond.instanceMethod ⟨"NearSpell", "wipe", "()I"⟩ ∈ G.2.2.1 ∧ Cond.selects "NearSpell" ⟨"NearSpell", "wipe", "()I"⟩ ⟨"NearSpell", "wipe", "()I"⟩ ∈ G.2.2.1 ∧ ((¬ 11 = 1000 ∧ ∃ T N, G.1.2.2.1[11]? = some ("NearSpell", T, N)) ∨ (11 = 1000 ∧ "NearSpell" = "java/lang/String" ∧ ∀ s, G.2.2.2 s → ∀ n, (n = 1 ∨ n = 2) → va_O "java/lang/String" (G.2.1.2.1 n) G.1.2.2.2 s s.heap)) := ⟨⟨Or.inl (wmT h (wm948)), wmT h (wm117), wmT h (wm951), by decide +kernel, by decide +kernel, by decide +kernel⟩, wmT h (wm949), wmT h (wm950), Or.inl ⟨by decide, TX11, 15, by rw [h.2.1]; rfl⟩⟩
theorem lkL_56 {G : rfG} (h : okG G) : wlk G "NearSpellLaw" 56 (⟨"NearSpellModel", "wipe", "()I"⟩, prog_14_method_112_code, 2, (some .int)) 0 ∧ Cond.instanceMethod ⟨"NearSpellModel", "wipe", "()I"⟩ ∈ G.2.2.1 ∧ Cond.selects "NearSpellModel" ⟨"NearSpellModel", "wipe", "()I"⟩ ⟨"NearSpellModel", "wipe", "()I"⟩ ∈ G.2.2.1 ∧ ((¬ 12 = 1000 ∧ ∃ T N, G.1.2.2.1[12]? = some ("NearSpellModel", T, N)) ∨ (12 = 1000 ∧ "NearSpellModel" = "java/lang/String" ∧ ∀ s, G.2.2.2 s → ∀ n, (n = 1 ∨ n = 2) → va_O "java/lang/String" (G.2.1.2.1 n) G.1.2.2.2 s s.heap)) := ⟨⟨Or.inl (wmT h (wm2039)), wmT h (wm129), wmT h (wm2042), by decide +kernel, by decide +kernel, by decide +kernel⟩, wmT h (wm2040), wmT h (wm2041), Or.inl ⟨by decide, TX12, 67, by rw [h.2.1]; rfl⟩⟩
theorem lkL_57 {G : rfG} (h : okG G) : wlk G "NearSpellLaw" 57 (⟨"NearSpell", "undo", "()Z"⟩, prog_1_method_12_code, 1, (some .boolean)) 0 ∧ Cond.instanceMethod ⟨"NearSpell", "undo", "()Z"⟩ ∈ G.2.2.1 ∧ Cond.selects "NearSpell" ⟨"NearSpell", "undo", "()Z"⟩ ⟨"NearSpell", "undo", "()Z"⟩ ∈ G.2.2.1 ∧ ((¬ 11 = 1000 ∧ ∃ T N, G.1.2.2.1[11]? = some ("NearSpell", T, N)) ∨ (11 = 1000 ∧ "NearSpell" = "java/lang/String" ∧ ∀ s, G.2.2.2 s → ∀ n, (n = 1 ∨ n = 2) → va_O "java/lang/String" (G.2.1.2.1 n) G.1.2.2.2 s s.heap)) := ⟨⟨Or.inl (wmT h (wm956)), wmT h (wm117), wmT h (wm959), by decide +kernel, by decide +kernel, by decide +kernel⟩, wmT h (wm957), wmT h (wm958), Or.inl ⟨by decide, TX11, 15, by rw [h.2.1]; rfl⟩⟩
theorem lkL_61 {G : rfG} (h : okG G) : wlk G "NearSpellLaw" 61 (⟨"NearSpellModel", "undo", "()Z"⟩, prog_14_method_113_code, 1, (some .boolean)) 0 ∧ Cond.instanceMethod ⟨"NearSpellModel", "undo", "()Z"⟩ ∈ G.2.2.1 ∧ Cond.selects "NearSpellModel" ⟨"NearSpellModel", "undo", "()Z"⟩ ⟨"NearSpellModel", "undo", "()Z"⟩ ∈ G.2.2.1 ∧ ((¬ 12 = 1000 ∧ ∃ T N, G.1.2.2.1[12]? = some ("NearSpellModel", T, N)) ∨ (12 = 1000 ∧ "NearSpellModel" = "java/lang/String" ∧ ∀ s, G.2.2.2 s → ∀ n, (n = 1 ∨ n = 2) → va_O "java/lang/String" (G.2.1.2.1 n) G.1.2.2.2 s s.heap)) := ⟨⟨Or.inl (wmT h (wm2043)), wmT h (wm129), wmT h (wm2046), by decide +kernel, by decide +kernel, by decide +kernel⟩, wmT h (wm2044), wmT h (wm2045), Or.inl ⟨by decide, TX12, 67, by rw [h.2.1]; rfl⟩⟩
theorem lkL_62 {G : rfG} (h : okG G) : wlk G "NearSpellLaw" 62 (⟨"NearSpell", "redo", "()Z"⟩, prog_1_method_13_code, 1, (some .boolean)) 0 ∧ Cond.instanceMethod ⟨"NearSpell", "redo", "()Z"⟩ ∈ G.2.2.1 ∧ Cond.selects "NearSpell" ⟨"NearSpell", "redo", "()Z"⟩ ⟨"NearSpell", "redo", "()Z"⟩ ∈ G.2.2.1 ∧ ((¬ 11 = 1000 ∧ ∃ T N, G.1.2.2.1[11]? = some ("NearSpell", T, N)) ∨ (11 = 1000 ∧ "NearSpell" = "java/lang/String" ∧ ∀ s, G.2.2.2 s → ∀ n, (n = 1 ∨ n = 2) → va_O "java/lang/String" (G.2.1.2.1 n) G.1.2.2.2 s s.heap)) := ⟨⟨Or.inl (wmT h (wm968)), wmT h (wm117), wmT h (wm971), by decide +kernel, by decide +kernel, by decide +kernel⟩, wmT h (wm969), wmT h (wm970), Or.inl ⟨by decide, TX11, 15, by rw [h.2.1]; rfl⟩⟩
theorem lkL_65 {G : rfG} (h : okG G) : wlk G "NearSpellLaw" 65 (⟨"NearSpellModel", "redo", "()Z"⟩, prog_14_method_114_code, 1, (some .boolean)) 0 ∧ Cond.instanceMethod ⟨"NearSpellModel", "redo", "()Z"⟩ ∈ G.2.2.1 ∧ Cond.selects "NearSpellModel" ⟨"NearSpellModel", "redo", "()Z"⟩ ⟨"NearSpellModel", "redo", "()Z"⟩ ∈ G.2.2.1 ∧ ((¬ 12 = 1000 ∧ ∃ T N, G.1.2.2.1[12]? = some ("NearSpellModel", T, N)) ∨ (12 = 1000 ∧ "NearSpellModel" = "java/lang/String" ∧ ∀ s, G.2.2.2 s → ∀ n, (n = 1 ∨ n = 2) → va_O "java/lang/String" (G.2.1.2.1 n) G.1.2.2.2 s s.heap)) := ⟨⟨Or.inl (wmT h (wm2051)), wmT h (wm129), wmT h (wm2054), by decide +kernel, by decide +kernel, by decide +kernel⟩, wmT h (wm2052), wmT h (wm2053), Or.inl ⟨by decide, TX12, 67, by rw [h.2.1]; rfl⟩⟩
theorem lkL_66 {G : rfG} (h : okG G) : wlk G "NearSpellLaw" 66 (⟨"NearSpell", "typed", "(I)I"⟩, prog_1_method_14_code, 2, (some .int)) 1 ∧ Cond.instanceMethod ⟨"NearSpell", "typed", "(I)I"⟩ ∈ G.2.2.1 ∧ Cond.selects "NearSpell" ⟨"NearSpell", "typed", "(I)I"⟩ ⟨"NearSpell", "typed", "(I)I"⟩ ∈ G.2.2.1 ∧ ((¬ 11 = 1000 ∧ ∃ T N, G.1.2.2.1[11]? = some ("NearSpell", T, N)) ∨ (11 = 1000 ∧ "NearSpell" = "java/lang/String" ∧ ∀ s, G.2.2.2 s → ∀ n, (n = 1 ∨ n = 2) → va_O "java/lang/String" (G.2.1.2.1 n) G.1.2.2.2 s s.heap)) := ⟨⟨Or.inl (wmT h (wm976)), wmT h (wm117), wmT h (wm979), by decide +kernel, by decide +kernel, by decide +kernel⟩, wmT h (wm977), wmT h (wm978), Or.inl ⟨by decide, TX11, 15, by rw [h.2.1]; rfl⟩⟩
theorem lkL_69 {G : rfG} (h : okG G) : wlk G "NearSpellLaw" 69 (⟨"NearSpellModel", "typed", "(I)I"⟩, prog_14_method_69_code, 2, (some .int)) 1 ∧ Cond.instanceMethod ⟨"NearSpellModel", "typed", "(I)I"⟩ ∈ G.2.2.1 ∧ Cond.selects "NearSpellModel" ⟨"NearSpellModel", "typed", "(I)I"⟩ ⟨"NearSpellModel", "typed", "(I)I"⟩ ∈ G.2.2.1 ∧ ((¬ 12 = 1000 ∧ ∃ T N, G.1.2.2.1[12]? = some ("NearSpellModel", T, N)) ∨ (12 = 1000 ∧ "NearSpellModel" = "java/lang/String" ∧ ∀ s, G.2.2.2 s → ∀ n, (n = 1 ∨ n = 2) → va_O "java/lang/String" (G.2.1.2.1 n) G.1.2.2.2 s s.heap)) := ⟨⟨Or.inl (wmT h (wm1778)), wmT h (wm129), wmT h (wm1781), by decide +kernel, by decide +kernel, by decide +kernel⟩, wmT h (wm1779), wmT h (wm1780), Or.inl ⟨by decide, TX12, 67, by rw [h.2.1]; rfl⟩⟩
theorem lkL_70 {G : rfG} (h : okG G) : wlk G "NearSpellLaw" 70 (⟨"NearSpell", "distance", "(II)I"⟩, prog_1_method_15_code, 3, (some .int)) 2 ∧ Cond.instanceMethod ⟨"NearSpell", "distance", "(II)I"⟩ ∈ G.2.2.1 ∧ Cond.selects "NearSpell" ⟨"NearSpell", "distance", "(II)I"⟩ ⟨"NearSpell", "distance", "(II)I"⟩ ∈ G.2.2.1 ∧ ((¬ 11 = 1000 ∧ ∃ T N, G.1.2.2.1[11]? = some ("NearSpell", T, N)) ∨ (11 = 1000 ∧ "NearSpell" = "java/lang/String" ∧ ∀ s, G.2.2.2 s → ∀ n, (n = 1 ∨ n = 2) → va_O "java/lang/String" (G.2.1.2.1 n) G.1.2.2.2 s s.heap)) := ⟨⟨Or.inl (wmT h (wm984)), wmT h (wm117), wmT h (wm987), by decide +kernel, by decide +kernel, by decide +kernel⟩, wmT h (wm985), wmT h (wm986), Or.inl ⟨by decide, TX11, 15, by rw [h.2.1]; rfl⟩⟩
theorem lkL_73 {G : rfG} (h : okG G) : wlk G "NearSpellLaw" 73 (⟨"NearSpellModel", "distance", "(II)I"⟩, prog_14_method_70_code, 3, (some .int)) 2 ∧ Cond.instanceMethod ⟨"NearSpellModel", "distance", "(II)I"⟩ ∈ G.2.2.1 ∧ Cond.selects "NearSpellModel" ⟨"NearSpellModel", "distance", "(II)I"⟩ ⟨"NearSpellModel", "distance", "(II)I"⟩ ∈ G.2.2.1 ∧ ((¬ 12 = 1000 ∧ ∃ T N, G.1.2.2.1[12]? = some ("NearSpellModel", T, N)) ∨ (12 = 1000 ∧ "NearSpellModel" = "java/lang/String" ∧ ∀ s, G.2.2.2 s → ∀ n, (n = 1 ∨ n = 2) → va_O "java/lang/String" (G.2.1.2.1 n) G.1.2.2.2 s s.heap)) := ⟨⟨Or.inl (wmT h (wm1782)), wmT h (wm129), wmT h (wm1785), by decide +kernel, by decide +kernel, by decide +kernel⟩, wmT h (wm1783), wmT h (wm1784), Or.inl ⟨by decide, TX12, 67, by rw [h.2.1]; rfl⟩⟩
theorem lkL_74 {G : rfG} (h : okG G) : wlk G "NearSpellLaw" 74 (⟨"NearSpell", "forms", "(I)I"⟩, prog_1_method_16_code, 4, (some .int)) 1 ∧ Cond.instanceMethod ⟨"NearSpell", "forms", "(I)I"⟩ ∈ G.2.2.1 ∧ Cond.selects "NearSpell" ⟨"NearSpell", "forms", "(I)I"⟩ ⟨"NearSpell", "forms", "(I)I"⟩ ∈ G.2.2.1 ∧ ((¬ 11 = 1000 ∧ ∃ T N, G.1.2.2.1[11]? = some ("NearSpell", T, N)) ∨ (11 = 1000 ∧ "NearSpell" = "java/lang/String" ∧ ∀ s, G.2.2.2 s → ∀ n, (n = 1 ∨ n = 2) → va_O "java/lang/String" (G.2.1.2.1 n) G.1.2.2.2 s s.heap)) := ⟨⟨Or.inl (wmT h (wm994)), wmT h (wm117), wmT h (wm997), by decide +kernel, by decide +kernel, by decide +kernel⟩, wmT h (wm995), wmT h (wm996), Or.inl ⟨by decide, TX11, 15, by rw [h.2.1]; rfl⟩⟩
theorem lkL_77 {G : rfG} (h : okG G) : wlk G "NearSpellLaw" 77 (⟨"NearSpellModel", "forms", "(I)I"⟩, prog_14_method_72_code, 3, (some .int)) 1 ∧ Cond.instanceMethod ⟨"NearSpellModel", "forms", "(I)I"⟩ ∈ G.2.2.1 ∧ Cond.selects "NearSpellModel" ⟨"NearSpellModel", "forms", "(I)I"⟩ ⟨"NearSpellModel", "forms", "(I)I"⟩ ∈ G.2.2.1 ∧ ((¬ 12 = 1000 ∧ ∃ T N, G.1.2.2.1[12]? = some ("NearSpellModel", T, N)) ∨ (12 = 1000 ∧ "NearSpellModel" = "java/lang/String" ∧ ∀ s, G.2.2.2 s → ∀ n, (n = 1 ∨ n = 2) → va_O "java/lang/String" (G.2.1.2.1 n) G.1.2.2.2 s s.heap)) := ⟨⟨Or.inl (wmT h (wm1822)), wmT h (wm129), wmT h (wm1825), by decide +kernel, by decide +kernel, by decide +kernel⟩, wmT h (wm1823), wmT h (wm1824), Or.inl ⟨by decide, TX12, 67, by rw [h.2.1]; rfl⟩⟩
theorem lkL_78 {G : rfG} (h : okG G) : wlk G "NearSpellLaw" 78 (⟨"NearSpell", "bucket", "(I)I"⟩, prog_1_method_17_code, 2, (some .int)) 1 ∧ Cond.instanceMethod ⟨"NearSpell", "bucket", "(I)I"⟩ ∈ G.2.2.1 ∧ Cond.selects "NearSpell" ⟨"NearSpell", "bucket", "(I)I"⟩ ⟨"NearSpell", "bucket", "(I)I"⟩ ∈ G.2.2.1 ∧ ((¬ 11 = 1000 ∧ ∃ T N, G.1.2.2.1[11]? = some ("NearSpell", T, N)) ∨ (11 = 1000 ∧ "NearSpell" = "java/lang/String" ∧ ∀ s, G.2.2.2 s → ∀ n, (n = 1 ∨ n = 2) → va_O "java/lang/String" (G.2.1.2.1 n) G.1.2.2.2 s s.heap)) := ⟨⟨Or.inl (wmT h (wm999)), wmT h (wm117), wmT h (wm1002), by decide +kernel, by decide +kernel, by decide +kernel⟩, wmT h (wm1000), wmT h (wm1001), Or.inl ⟨by decide, TX11, 15, by rw [h.2.1]; rfl⟩⟩
theorem lkL_81 {G : rfG} (h : okG G) : wlk G "NearSpellLaw" 81 (⟨"NearSpellModel", "bucket", "(I)I"⟩, prog_14_method_73_code, 2, (some .int)) 1 ∧ Cond.instanceMethod ⟨"NearSpellModel", "bucket", "(I)I"⟩ ∈ G.2.2.1 ∧ Cond.selects "NearSpellModel" ⟨"NearSpellModel", "bucket", "(I)I"⟩ ⟨"NearSpellModel", "bucket", "(I)I"⟩ ∈ G.2.2.1 ∧ ((¬ 12 = 1000 ∧ ∃ T N, G.1.2.2.1[12]? = some ("NearSpellModel", T, N)) ∨ (12 = 1000 ∧ "NearSpellModel" = "java/lang/String" ∧ ∀ s, G.2.2.2 s → ∀ n, (n = 1 ∨ n = 2) → va_O "java/lang/String" (G.2.1.2.1 n) G.1.2.2.2 s s.heap)) := ⟨⟨Or.inl (wmT h (wm1826)), wmT h (wm129), wmT h (wm1829), by decide +kernel, by decide +kernel, by decide +kernel⟩, wmT h (wm1827), wmT h (wm1828), Or.inl ⟨by decide, TX12, 67, by rw [h.2.1]; rfl⟩⟩
theorem lkL_82 {G : rfG} (h : okG G) : wlk G "NearSpellLaw" 82 (⟨"NearSpell", "met", "(II)I"⟩, prog_1_method_18_code, 3, (some .int)) 2 ∧ Cond.instanceMethod ⟨"NearSpell", "met", "(II)I"⟩ ∈ G.2.2.1 ∧ Cond.selects "NearSpell" ⟨"NearSpell", "met", "(II)I"⟩ ⟨"NearSpell", "met", "(II)I"⟩ ∈ G.2.2.1 ∧ ((¬ 11 = 1000 ∧ ∃ T N, G.1.2.2.1[11]? = some ("NearSpell", T, N)) ∨ (11 = 1000 ∧ "NearSpell" = "java/lang/String" ∧ ∀ s, G.2.2.2 s → ∀ n, (n = 1 ∨ n = 2) → va_O "java/lang/String" (G.2.1.2.1 n) G.1.2.2.2 s s.heap)) := ⟨⟨Or.inl (wmT h (wm1030)), wmT h (wm117), wmT h (wm1033), by decide +kernel, by decide +kernel, by decide +kernel⟩, wmT h (wm1031), wmT h (wm1032), Or.inl ⟨by decide, TX11, 15, by rw [h.2.1]; rfl⟩⟩
theorem lkL_85 {G : rfG} (h : okG G) : wlk G "NearSpellLaw" 85 (⟨"NearSpellModel", "met", "(II)I"⟩, prog_14_method_74_code, 3, (some .int)) 2 ∧ Cond.instanceMethod ⟨"NearSpellModel", "met", "(II)I"⟩ ∈ G.2.2.1 ∧ Cond.selects "NearSpellModel" ⟨"NearSpellModel", "met", "(II)I"⟩ ⟨"NearSpellModel", "met", "(II)I"⟩ ∈ G.2.2.1 ∧ ((¬ 12 = 1000 ∧ ∃ T N, G.1.2.2.1[12]? = some ("NearSpellModel", T, N)) ∨ (12 = 1000 ∧ "NearSpellModel" = "java/lang/String" ∧ ∀ s, G.2.2.2 s → ∀ n, (n = 1 ∨ n = 2) → va_O "java/lang/String" (G.2.1.2.1 n) G.1.2.2.2 s s.heap)) := ⟨⟨Or.inl (wmT h (wm1848)), wmT h (wm129), wmT h (wm1851), by decide +kernel, by decide +kernel, by decide +kernel⟩, wmT h (wm1849), wmT h (wm1850), Or.inl ⟨by decide, TX12, 67, by rw [h.2.1]; rfl⟩⟩
theorem lkL_86 {G : rfG} (h : okG G) : wlk G "NearSpellLaw" 86 (⟨"NearSpell", "missed", "(II)I"⟩, prog_1_method_19_code, 3, (some .int)) 2 ∧ Cond.instanceMethod ⟨"NearSpell", "missed", "(II)I"⟩ ∈ G.2.2.1 ∧ Cond.selects "NearSpell" ⟨"NearSpell", "missed", "(II)I"⟩ ⟨"NearSpell", "missed", "(II)I"⟩ ∈ G.2.2.1 ∧ ((¬ 11 = 1000 ∧ ∃ T N, G.1.2.2.1[11]? = some ("NearSpell", T, N)) ∨ (11 = 1000 ∧ "NearSpell" = "java/lang/String" ∧ ∀ s, G.2.2.2 s → ∀ n, (n = 1 ∨ n = 2) → va_O "java/lang/String" (G.2.1.2.1 n) G.1.2.2.2 s s.heap)) := ⟨⟨Or.inl (wmT h (wm1044)), wmT h (wm117), wmT h (wm1047), by decide +kernel, by decide +kernel, by decide +kernel⟩, wmT h (wm1045), wmT h (wm1046), Or.inl ⟨by decide, TX11, 15, by rw [h.2.1]; rfl⟩⟩
theorem lkL_89 {G : rfG} (h : okG G) : wlk G "NearSpellLaw" 89 (⟨"NearSpellModel", "missed", "(II)I"⟩, prog_14_method_75_code, 4, (some .int)) 2 ∧ Cond.instanceMethod ⟨"NearSpellModel", "missed", "(II)I"⟩ ∈ G.2.2.1 ∧ Cond.selects "NearSpellModel" ⟨"NearSpellModel", "missed", "(II)I"⟩ ⟨"NearSpellModel", "missed", "(II)I"⟩ ∈ G.2.2.1 ∧ ((¬ 12 = 1000 ∧ ∃ T N, G.1.2.2.1[12]? = some ("NearSpellModel", T, N)) ∨ (12 = 1000 ∧ "NearSpellModel" = "java/lang/String" ∧ ∀ s, G.2.2.2 s → ∀ n, (n = 1 ∨ n = 2) → va_O "java/lang/String" (G.2.1.2.1 n) G.1.2.2.2 s s.heap)) := ⟨⟨Or.inl (wmT h (wm1868)), wmT h (wm129), wmT h (wm1871), by decide +kernel, by decide +kernel, by decide +kernel⟩, wmT h (wm1869), wmT h (wm1870), Or.inl ⟨by decide, TX12, 67, by rw [h.2.1]; rfl⟩⟩
theorem lkL_90 {G : rfG} (h : okG G) : wlk G "NearSpellLaw" 90 (⟨"NearSpell", "nearest", "(I)I"⟩, prog_1_method_20_code, 2, (some .int)) 1 ∧ Cond.instanceMethod ⟨"NearSpell", "nearest", "(I)I"⟩ ∈ G.2.2.1 ∧ Cond.selects "NearSpell" ⟨"NearSpell", "nearest", "(I)I"⟩ ⟨"NearSpell", "nearest", "(I)I"⟩ ∈ G.2.2.1 ∧ ((¬ 11 = 1000 ∧ ∃ T N, G.1.2.2.1[11]? = some ("NearSpell", T, N)) ∨ (11 = 1000 ∧ "NearSpell" = "java/lang/String" ∧ ∀ s, G.2.2.2 s → ∀ n, (n = 1 ∨ n = 2) → va_O "java/lang/String" (G.2.1.2.1 n) G.1.2.2.2 s s.heap)) := ⟨⟨Or.inl (wmT h (wm1052)), wmT h (wm117), wmT h (wm1055), by decide +kernel, by decide +kernel, by decide +kernel⟩, wmT h (wm1053), wmT h (wm1054), Or.inl ⟨by decide, TX11, 15, by rw [h.2.1]; rfl⟩⟩
theorem lkL_93 {G : rfG} (h : okG G) : wlk G "NearSpellLaw" 93 (⟨"NearSpellModel", "nearest", "(I)I"⟩, prog_14_method_76_code, 2, (some .int)) 1 ∧ Cond.instanceMethod ⟨"NearSpellModel", "nearest", "(I)I"⟩ ∈ G.2.2.1 ∧ Cond.selects "NearSpellModel" ⟨"NearSpellModel", "nearest", "(I)I"⟩ ⟨"NearSpellModel", "nearest", "(I)I"⟩ ∈ G.2.2.1 ∧ ((¬ 12 = 1000 ∧ ∃ T N, G.1.2.2.1[12]? = some ("NearSpellModel", T, N)) ∨ (12 = 1000 ∧ "NearSpellModel" = "java/lang/String" ∧ ∀ s, G.2.2.2 s → ∀ n, (n = 1 ∨ n = 2) → va_O "java/lang/String" (G.2.1.2.1 n) G.1.2.2.2 s s.heap)) := ⟨⟨Or.inl (wmT h (wm1884)), wmT h (wm129), wmT h (wm1887), by decide +kernel, by decide +kernel, by decide +kernel⟩, wmT h (wm1885), wmT h (wm1886), Or.inl ⟨by decide, TX12, 67, by rw [h.2.1]; rfl⟩⟩
theorem lkL_94 {G : rfG} (h : okG G) : wlk G "NearSpellLaw" 94 (⟨"NearSpell", "near", "(II)I"⟩, prog_1_method_21_code, 3, (some .int)) 2 ∧ Cond.instanceMethod ⟨"NearSpell", "near", "(II)I"⟩ ∈ G.2.2.1 ∧ Cond.selects "NearSpell" ⟨"NearSpell", "near", "(II)I"⟩ ⟨"NearSpell", "near", "(II)I"⟩ ∈ G.2.2.1 ∧ ((¬ 11 = 1000 ∧ ∃ T N, G.1.2.2.1[11]? = some ("NearSpell", T, N)) ∨ (11 = 1000 ∧ "NearSpell" = "java/lang/String" ∧ ∀ s, G.2.2.2 s → ∀ n, (n = 1 ∨ n = 2) → va_O "java/lang/String" (G.2.1.2.1 n) G.1.2.2.2 s s.heap)) := ⟨⟨Or.inl (wmT h (wm1056)), wmT h (wm117), wmT h (wm1059), by decide +kernel, by decide +kernel, by decide +kernel⟩, wmT h (wm1057), wmT h (wm1058), Or.inl ⟨by decide, TX11, 15, by rw [h.2.1]; rfl⟩⟩
theorem lkL_97 {G : rfG} (h : okG G) : wlk G "NearSpellLaw" 97 (⟨"NearSpellModel", "near", "(II)I"⟩, prog_14_method_77_code, 5, (some .int)) 2 ∧ Cond.instanceMethod ⟨"NearSpellModel", "near", "(II)I"⟩ ∈ G.2.2.1 ∧ Cond.selects "NearSpellModel" ⟨"NearSpellModel", "near", "(II)I"⟩ ⟨"NearSpellModel", "near", "(II)I"⟩ ∈ G.2.2.1 ∧ ((¬ 12 = 1000 ∧ ∃ T N, G.1.2.2.1[12]? = some ("NearSpellModel", T, N)) ∨ (12 = 1000 ∧ "NearSpellModel" = "java/lang/String" ∧ ∀ s, G.2.2.2 s → ∀ n, (n = 1 ∨ n = 2) → va_O "java/lang/String" (G.2.1.2.1 n) G.1.2.2.2 s s.heap)) := ⟨⟨Or.inl (wmT h (wm1896)), wmT h (wm129), wmT h (wm1899), by decide +kernel, by decide +kernel, by decide +kernel⟩, wmT h (wm1897), wmT h (wm1898), Or.inl ⟨by decide, TX12, 67, by rw [h.2.1]; rfl⟩⟩
theorem lkL_98 {G : rfG} (h : okG G) : wlk G "NearSpellLaw" 98 (⟨"NearSpell", "split", "(II)I"⟩, prog_1_method_22_code, 3, (some .int)) 2 ∧ Cond.instanceMethod ⟨"NearSpell", "split", "(II)I"⟩ ∈ G.2.2.1 ∧ Cond.selects "NearSpell" ⟨"NearSpell", "split", "(II)I"⟩ ⟨"NearSpell", "split", "(II)I"⟩ ∈ G.2.2.1 ∧ ((¬ 11 = 1000 ∧ ∃ T N, G.1.2.2.1[11]? = some ("NearSpell", T, N)) ∨ (11 = 1000 ∧ "NearSpell" = "java/lang/String" ∧ ∀ s, G.2.2.2 s → ∀ n, (n = 1 ∨ n = 2) → va_O "java/lang/String" (G.2.1.2.1 n) G.1.2.2.2 s s.heap)) := ⟨⟨Or.inl (wmT h (wm1064)), wmT h (wm117), wmT h (wm1067), by decide +kernel, by decide +kernel, by decide +kernel⟩, wmT h (wm1065), wmT h (wm1066), Or.inl ⟨by decide, TX11, 15, by rw [h.2.1]; rfl⟩⟩
theorem lkL_101 {G : rfG} (h : okG G) : wlk G "NearSpellLaw" 101 (⟨"NearSpellModel", "split", "(II)I"⟩, prog_14_method_78_code, 7, (some .int)) 2 ∧ Cond.instanceMethod ⟨"NearSpellModel", "split", "(II)I"⟩ ∈ G.2.2.1 ∧ Cond.selects "NearSpellModel" ⟨"NearSpellModel", "split", "(II)I"⟩ ⟨"NearSpellModel", "split", "(II)I"⟩ ∈ G.2.2.1 ∧ ((¬ 12 = 1000 ∧ ∃ T N, G.1.2.2.1[12]? = some ("NearSpellModel", T, N)) ∨ (12 = 1000 ∧ "NearSpellModel" = "java/lang/String" ∧ ∀ s, G.2.2.2 s → ∀ n, (n = 1 ∨ n = 2) → va_O "java/lang/String" (G.2.1.2.1 n) G.1.2.2.2 s s.heap)) := ⟨⟨Or.inl (wmT h (wm1900)), wmT h (wm129), wmT h (wm1903), by decide +kernel, by decide +kernel, by decide +kernel⟩, wmT h (wm1901), wmT h (wm1902), Or.inl ⟨by decide, TX12, 67, by rw [h.2.1]; rfl⟩⟩
theorem lkL_102 {G : rfG} (h : okG G) : wlk G "NearSpellLaw" 102 (⟨"NearSpell", "join", "(II)I"⟩, prog_1_method_23_code, 3, (some .int)) 2 ∧ Cond.instanceMethod ⟨"NearSpell", "join", "(II)I"⟩ ∈ G.2.2.1 ∧ Cond.selects "NearSpell" ⟨"NearSpell", "join", "(II)I"⟩ ⟨"NearSpell", "join", "(II)I"⟩ ∈ G.2.2.1 ∧ ((¬ 11 = 1000 ∧ ∃ T N, G.1.2.2.1[11]? = some ("NearSpell", T, N)) ∨ (11 = 1000 ∧ "NearSpell" = "java/lang/String" ∧ ∀ s, G.2.2.2 s → ∀ n, (n = 1 ∨ n = 2) → va_O "java/lang/String" (G.2.1.2.1 n) G.1.2.2.2 s s.heap)) := ⟨⟨Or.inl (wmT h (wm1093)), wmT h (wm117), wmT h (wm1096), by decide +kernel, by decide +kernel, by decide +kernel⟩, wmT h (wm1094), wmT h (wm1095), Or.inl ⟨by decide, TX11, 15, by rw [h.2.1]; rfl⟩⟩
theorem lkL_105 {G : rfG} (h : okG G) : wlk G "NearSpellLaw" 105 (⟨"NearSpellModel", "join", "(II)I"⟩, prog_14_method_79_code, 7, (some .int)) 2 ∧ Cond.instanceMethod ⟨"NearSpellModel", "join", "(II)I"⟩ ∈ G.2.2.1 ∧ Cond.selects "NearSpellModel" ⟨"NearSpellModel", "join", "(II)I"⟩ ⟨"NearSpellModel", "join", "(II)I"⟩ ∈ G.2.2.1 ∧ ((¬ 12 = 1000 ∧ ∃ T N, G.1.2.2.1[12]? = some ("NearSpellModel", T, N)) ∨ (12 = 1000 ∧ "NearSpellModel" = "java/lang/String" ∧ ∀ s, G.2.2.2 s → ∀ n, (n = 1 ∨ n = 2) → va_O "java/lang/String" (G.2.1.2.1 n) G.1.2.2.2 s s.heap)) := ⟨⟨Or.inl (wmT h (wm1904)), wmT h (wm129), wmT h (wm1907), by decide +kernel, by decide +kernel, by decide +kernel⟩, wmT h (wm1905), wmT h (wm1906), Or.inl ⟨by decide, TX12, 67, by rw [h.2.1]; rfl⟩⟩
theorem lkL_106 {G : rfG} (h : okG G) : wlk G "NearSpellLaw" 106 (⟨"NearSpell", "reading", "()I"⟩, prog_1_method_24_code, 1, (some .int)) 0 ∧ Cond.instanceMethod ⟨"NearSpell", "reading", "()I"⟩ ∈ G.2.2.1 ∧ Cond.selects "NearSpell" ⟨"NearSpell", "reading", "()I"⟩ ⟨"NearSpell", "reading", "()I"⟩ ∈ G.2.2.1 ∧ ((¬ 11 = 1000 ∧ ∃ T N, G.1.2.2.1[11]? = some ("NearSpell", T, N)) ∨ (11 = 1000 ∧ "NearSpell" = "java/lang/String" ∧ ∀ s, G.2.2.2 s → ∀ n, (n = 1 ∨ n = 2) → va_O "java/lang/String" (G.2.1.2.1 n) G.1.2.2.2 s s.heap)) := ⟨⟨Or.inl (wmT h (wm1111)), wmT h (wm117), wmT h (wm1114), by decide +kernel, by decide +kernel, by decide +kernel⟩, wmT h (wm1112), wmT h (wm1113), Or.inl ⟨by decide, TX11, 15, by rw [h.2.1]; rfl⟩⟩
theorem lkL_109 {G : rfG} (h : okG G) : wlk G "NearSpellLaw" 109 (⟨"NearSpellModel", "reading", "()I"⟩, prog_14_method_84_code, 1, (some .int)) 0 ∧ Cond.instanceMethod ⟨"NearSpellModel", "reading", "()I"⟩ ∈ G.2.2.1 ∧ Cond.selects "NearSpellModel" ⟨"NearSpellModel", "reading", "()I"⟩ ⟨"NearSpellModel", "reading", "()I"⟩ ∈ G.2.2.1 ∧ ((¬ 12 = 1000 ∧ ∃ T N, G.1.2.2.1[12]? = some ("NearSpellModel", T, N)) ∨ (12 = 1000 ∧ "NearSpellModel" = "java/lang/String" ∧ ∀ s, G.2.2.2 s → ∀ n, (n = 1 ∨ n = 2) → va_O "java/lang/String" (G.2.1.2.1 n) G.1.2.2.2 s s.heap)) := ⟨⟨Or.inl (wmT h (wm1908)), wmT h (wm129), wmT h (wm1911), by decide +kernel, by decide +kernel, by decide +kernel⟩, wmT h (wm1909), wmT h (wm1910), Or.inl ⟨by decide, TX12, 67, by rw [h.2.1]; rfl⟩⟩
theorem lkL_110 {G : rfG} (h : okG G) : wlk G "NearSpellLaw" 110 (⟨"NearSpell", "readings", "()I"⟩, prog_1_method_25_code, 1, (some .int)) 0 ∧ Cond.instanceMethod ⟨"NearSpell", "readings", "()I"⟩ ∈ G.2.2.1 ∧ Cond.selects "NearSpell" ⟨"NearSpell", "readings", "()I"⟩ ⟨"NearSpell", "readings", "()I"⟩ ∈ G.2.2.1 ∧ ((¬ 11 = 1000 ∧ ∃ T N, G.1.2.2.1[11]? = some ("NearSpell", T, N)) ∨ (11 = 1000 ∧ "NearSpell" = "java/lang/String" ∧ ∀ s, G.2.2.2 s → ∀ n, (n = 1 ∨ n = 2) → va_O "java/lang/String" (G.2.1.2.1 n) G.1.2.2.2 s s.heap)) := ⟨⟨Or.inl (wmT h (wm1135)), wmT h (wm117), wmT h (wm1138), by decide +kernel, by decide +kernel, by decide +kernel⟩, wmT h (wm1136), wmT h (wm1137), Or.inl ⟨by decide, TX11, 15, by rw [h.2.1]; rfl⟩⟩
theorem lkL_113 {G : rfG} (h : okG G) : wlk G "NearSpellLaw" 113 (⟨"NearSpellModel", "readings", "()I"⟩, prog_14_method_85_code, 1, (some .int)) 0 ∧ Cond.instanceMethod ⟨"NearSpellModel", "readings", "()I"⟩ ∈ G.2.2.1 ∧ Cond.selects "NearSpellModel" ⟨"NearSpellModel", "readings", "()I"⟩ ⟨"NearSpellModel", "readings", "()I"⟩ ∈ G.2.2.1 ∧ ((¬ 12 = 1000 ∧ ∃ T N, G.1.2.2.1[12]? = some ("NearSpellModel", T, N)) ∨ (12 = 1000 ∧ "NearSpellModel" = "java/lang/String" ∧ ∀ s, G.2.2.2 s → ∀ n, (n = 1 ∨ n = 2) → va_O "java/lang/String" (G.2.1.2.1 n) G.1.2.2.2 s s.heap)) := ⟨⟨Or.inl (wmT h (wm1928)), wmT h (wm129), wmT h (wm1931), by decide +kernel, by decide +kernel, by decide +kernel⟩, wmT h (wm1929), wmT h (wm1930), Or.inl ⟨by decide, TX12, 67, by rw [h.2.1]; rfl⟩⟩
theorem lkL_114 {G : rfG} (h : okG G) : wlk G "NearSpellLaw" 114 (⟨"NearSpell", "closest", "(I)I"⟩, prog_1_method_26_code, 2, (some .int)) 1 ∧ Cond.instanceMethod ⟨"NearSpell", "closest", "(I)I"⟩ ∈ G.2.2.1 ∧ Cond.selects "NearSpell" ⟨"NearSpell", "closest", "(I)I"⟩ ⟨"NearSpell", "closest", "(I)I"⟩ ∈ G.2.2.1 ∧ ((¬ 11 = 1000 ∧ ∃ T N, G.1.2.2.1[11]? = some ("NearSpell", T, N)) ∨ (11 = 1000 ∧ "NearSpell" = "java/lang/String" ∧ ∀ s, G.2.2.2 s → ∀ n, (n = 1 ∨ n = 2) → va_O "java/lang/String" (G.2.1.2.1 n) G.1.2.2.2 s s.heap)) := ⟨⟨Or.inl (wmT h (wm1143)), wmT h (wm117), wmT h (wm1146), by decide +kernel, by decide +kernel, by decide +kernel⟩, wmT h (wm1144), wmT h (wm1145), Or.inl ⟨by decide, TX11, 15, by rw [h.2.1]; rfl⟩⟩
theorem lkL_117 {G : rfG} (h : okG G) : wlk G "NearSpellLaw" 117 (⟨"NearSpellModel", "closest", "(I)I"⟩, prog_14_method_88_code, 5, (some .int)) 1 ∧ Cond.instanceMethod ⟨"NearSpellModel", "closest", "(I)I"⟩ ∈ G.2.2.1 ∧ Cond.selects "NearSpellModel" ⟨"NearSpellModel", "closest", "(I)I"⟩ ⟨"NearSpellModel", "closest", "(I)I"⟩ ∈ G.2.2.1 ∧ ((¬ 12 = 1000 ∧ ∃ T N, G.1.2.2.1[12]? = some ("NearSpellModel", T, N)) ∨ (12 = 1000 ∧ "NearSpellModel" = "java/lang/String" ∧ ∀ s, G.2.2.2 s → ∀ n, (n = 1 ∨ n = 2) → va_O "java/lang/String" (G.2.1.2.1 n) G.1.2.2.2 s s.heap)) := ⟨⟨Or.inl (wmT h (wm1932)), wmT h (wm129), wmT h (wm1935), by decide +kernel, by decide +kernel, by decide +kernel⟩, wmT h (wm1933), wmT h (wm1934), Or.inl ⟨by decide, TX12, 67, by rw [h.2.1]; rfl⟩⟩
theorem lkL_118 {G : rfG} (h : okG G) : wlk G "NearSpellLaw" 118 (⟨"NearSpell", "groups", "(I)I"⟩, prog_1_method_27_code, 2, (some .int)) 1 ∧ Cond.instanceMethod ⟨"NearSpell", "groups", "(I)I"⟩ ∈ G.2.2.1 ∧ Cond.selects "NearSpell" ⟨"NearSpell", "groups", "(I)I"⟩ ⟨"NearSpell", "groups", "(I)I"⟩ ∈ G.2.2.1 ∧ ((¬ 11 = 1000 ∧ ∃ T N, G.1.2.2.1[11]? = some ("NearSpell", T, N)) ∨ (11 = 1000 ∧ "NearSpell" = "java/lang/String" ∧ ∀ s, G.2.2.2 s → ∀ n, (n = 1 ∨ n = 2) → va_O "java/lang/String" (G.2.1.2.1 n) G.1.2.2.2 s s.heap)) := ⟨⟨Or.inl (wmT h (wm1164)), wmT h (wm117), wmT h (wm1167), by decide +kernel, by decide +kernel, by decide +kernel⟩, wmT h (wm1165), wmT h (wm1166), Or.inl ⟨by decide, TX11, 15, by rw [h.2.1]; rfl⟩⟩
theorem lkL_121 {G : rfG} (h : okG G) : wlk G "NearSpellLaw" 121 (⟨"NearSpellModel", "groups", "(I)I"⟩, prog_14_method_90_code, 6, (some .int)) 1 ∧ Cond.instanceMethod ⟨"NearSpellModel", "groups", "(I)I"⟩ ∈ G.2.2.1 ∧ Cond.selects "NearSpellModel" ⟨"NearSpellModel", "groups", "(I)I"⟩ ⟨"NearSpellModel", "groups", "(I)I"⟩ ∈ G.2.2.1 ∧ ((¬ 12 = 1000 ∧ ∃ T N, G.1.2.2.1[12]? = some ("NearSpellModel", T, N)) ∨ (12 = 1000 ∧ "NearSpellModel" = "java/lang/String" ∧ ∀ s, G.2.2.2 s → ∀ n, (n = 1 ∨ n = 2) → va_O "java/lang/String" (G.2.1.2.1 n) G.1.2.2.2 s s.heap)) := ⟨⟨Or.inl (wmT h (wm1944)), wmT h (wm129), wmT h (wm1947), by decide +kernel, by decide +kernel, by decide +kernel⟩, wmT h (wm1945), wmT h (wm1946), Or.inl ⟨by decide, TX12, 67, by rw [h.2.1]; rfl⟩⟩
theorem lkL_122 {G : rfG} (h : okG G) : wlk G "NearSpellLaw" 122 (⟨"NearSpell", "far", "(II)I"⟩, prog_1_method_28_code, 4, (some .int)) 2 ∧ Cond.instanceMethod ⟨"NearSpell", "far", "(II)I"⟩ ∈ G.2.2.1 ∧ Cond.selects "NearSpell" ⟨"NearSpell", "far", "(II)I"⟩ ⟨"NearSpell", "far", "(II)I"⟩ ∈ G.2.2.1 ∧ ((¬ 11 = 1000 ∧ ∃ T N, G.1.2.2.1[11]? = some ("NearSpell", T, N)) ∨ (11 = 1000 ∧ "NearSpell" = "java/lang/String" ∧ ∀ s, G.2.2.2 s → ∀ n, (n = 1 ∨ n = 2) → va_O "java/lang/String" (G.2.1.2.1 n) G.1.2.2.2 s s.heap)) := ⟨⟨Or.inl (wmT h (wm1184)), wmT h (wm117), wmT h (wm1187), by decide +kernel, by decide +kernel, by decide +kernel⟩, wmT h (wm1185), wmT h (wm1186), Or.inl ⟨by decide, TX11, 15, by rw [h.2.1]; rfl⟩⟩
theorem lkL_125 {G : rfG} (h : okG G) : wlk G "NearSpellLaw" 125 (⟨"NearSpellModel", "far", "(II)I"⟩, prog_14_method_92_code, 7, (some .int)) 2 ∧ Cond.instanceMethod ⟨"NearSpellModel", "far", "(II)I"⟩ ∈ G.2.2.1 ∧ Cond.selects "NearSpellModel" ⟨"NearSpellModel", "far", "(II)I"⟩ ⟨"NearSpellModel", "far", "(II)I"⟩ ∈ G.2.2.1 ∧ ((¬ 12 = 1000 ∧ ∃ T N, G.1.2.2.1[12]? = some ("NearSpellModel", T, N)) ∨ (12 = 1000 ∧ "NearSpellModel" = "java/lang/String" ∧ ∀ s, G.2.2.2 s → ∀ n, (n = 1 ∨ n = 2) → va_O "java/lang/String" (G.2.1.2.1 n) G.1.2.2.2 s s.heap)) := ⟨⟨Or.inl (wmT h (wm1959)), wmT h (wm129), wmT h (wm1962), by decide +kernel, by decide +kernel, by decide +kernel⟩, wmT h (wm1960), wmT h (wm1961), Or.inl ⟨by decide, TX12, 67, by rw [h.2.1]; rfl⟩⟩
theorem lkL_126 {G : rfG} (h : okG G) : wlk G "NearSpellLaw" 126 (⟨"NearSpell", "middle", "()I"⟩, prog_1_method_29_code, 1, (some .int)) 0 ∧ Cond.instanceMethod ⟨"NearSpell", "middle", "()I"⟩ ∈ G.2.2.1 ∧ Cond.selects "NearSpell" ⟨"NearSpell", "middle", "()I"⟩ ⟨"NearSpell", "middle", "()I"⟩ ∈ G.2.2.1 ∧ ((¬ 11 = 1000 ∧ ∃ T N, G.1.2.2.1[11]? = some ("NearSpell", T, N)) ∨ (11 = 1000 ∧ "NearSpell" = "java/lang/String" ∧ ∀ s, G.2.2.2 s → ∀ n, (n = 1 ∨ n = 2) → va_O "java/lang/String" (G.2.1.2.1 n) G.1.2.2.2 s s.heap)) := ⟨⟨Or.inl (wmT h (wm1204)), wmT h (wm117), wmT h (wm1207), by decide +kernel, by decide +kernel, by decide +kernel⟩, wmT h (wm1205), wmT h (wm1206), Or.inl ⟨by decide, TX11, 15, by rw [h.2.1]; rfl⟩⟩
theorem lkL_129 {G : rfG} (h : okG G) : wlk G "NearSpellLaw" 129 (⟨"NearSpellModel", "middle", "()I"⟩, prog_14_method_93_code, 6, (some .int)) 0 ∧ Cond.instanceMethod ⟨"NearSpellModel", "middle", "()I"⟩ ∈ G.2.2.1 ∧ Cond.selects "NearSpellModel" ⟨"NearSpellModel", "middle", "()I"⟩ ⟨"NearSpellModel", "middle", "()I"⟩ ∈ G.2.2.1 ∧ ((¬ 12 = 1000 ∧ ∃ T N, G.1.2.2.1[12]? = some ("NearSpellModel", T, N)) ∨ (12 = 1000 ∧ "NearSpellModel" = "java/lang/String" ∧ ∀ s, G.2.2.2 s → ∀ n, (n = 1 ∨ n = 2) → va_O "java/lang/String" (G.2.1.2.1 n) G.1.2.2.2 s s.heap)) := ⟨⟨Or.inl (wmT h (wm1967)), wmT h (wm129), wmT h (wm1970), by decide +kernel, by decide +kernel, by decide +kernel⟩, wmT h (wm1968), wmT h (wm1969), Or.inl ⟨by decide, TX12, 67, by rw [h.2.1]; rfl⟩⟩
theorem lkL_130 {G : rfG} (h : okG G) : wlk G "NearSpellLaw" 130 (⟨"NearSpell", "chain", "(III)I"⟩, prog_1_method_30_code, 4, (some .int)) 3 ∧ Cond.instanceMethod ⟨"NearSpell", "chain", "(III)I"⟩ ∈ G.2.2.1 ∧ Cond.selects "NearSpell" ⟨"NearSpell", "chain", "(III)I"⟩ ⟨"NearSpell", "chain", "(III)I"⟩ ∈ G.2.2.1 ∧ ((¬ 11 = 1000 ∧ ∃ T N, G.1.2.2.1[11]? = some ("NearSpell", T, N)) ∨ (11 = 1000 ∧ "NearSpell" = "java/lang/String" ∧ ∀ s, G.2.2.2 s → ∀ n, (n = 1 ∨ n = 2) → va_O "java/lang/String" (G.2.1.2.1 n) G.1.2.2.2 s s.heap)) := ⟨⟨Or.inl (wmT h (wm1216)), wmT h (wm117), wmT h (wm1219), by decide +kernel, by decide +kernel, by decide +kernel⟩, wmT h (wm1217), wmT h (wm1218), Or.inl ⟨by decide, TX11, 15, by rw [h.2.1]; rfl⟩⟩
theorem lkL_134 {G : rfG} (h : okG G) : wlk G "NearSpellLaw" 134 (⟨"NearSpellModel", "chain", "(III)I"⟩, prog_14_method_94_code, 6, (some .int)) 3 ∧ Cond.instanceMethod ⟨"NearSpellModel", "chain", "(III)I"⟩ ∈ G.2.2.1 ∧ Cond.selects "NearSpellModel" ⟨"NearSpellModel", "chain", "(III)I"⟩ ⟨"NearSpellModel", "chain", "(III)I"⟩ ∈ G.2.2.1 ∧ ((¬ 12 = 1000 ∧ ∃ T N, G.1.2.2.1[12]? = some ("NearSpellModel", T, N)) ∨ (12 = 1000 ∧ "NearSpellModel" = "java/lang/String" ∧ ∀ s, G.2.2.2 s → ∀ n, (n = 1 ∨ n = 2) → va_O "java/lang/String" (G.2.1.2.1 n) G.1.2.2.2 s s.heap)) := ⟨⟨Or.inl (wmT h (wm1971)), wmT h (wm129), wmT h (wm1974), by decide +kernel, by decide +kernel, by decide +kernel⟩, wmT h (wm1972), wmT h (wm1973), Or.inl ⟨by decide, TX12, 67, by rw [h.2.1]; rfl⟩⟩
theorem lkL_135 {G : rfG} (h : okG G) : wlk G "NearSpellLaw" 135 (⟨"NearSpell", "begins", "(I)I"⟩, prog_1_method_31_code, 2, (some .int)) 1 ∧ Cond.instanceMethod ⟨"NearSpell", "begins", "(I)I"⟩ ∈ G.2.2.1 ∧ Cond.selects "NearSpell" ⟨"NearSpell", "begins", "(I)I"⟩ ⟨"NearSpell", "begins", "(I)I"⟩ ∈ G.2.2.1 ∧ ((¬ 11 = 1000 ∧ ∃ T N, G.1.2.2.1[11]? = some ("NearSpell", T, N)) ∨ (11 = 1000 ∧ "NearSpell" = "java/lang/String" ∧ ∀ s, G.2.2.2 s → ∀ n, (n = 1 ∨ n = 2) → va_O "java/lang/String" (G.2.1.2.1 n) G.1.2.2.2 s s.heap)) := ⟨⟨Or.inl (wmT h (wm1224)), wmT h (wm117), wmT h (wm1227), by decide +kernel, by decide +kernel, by decide +kernel⟩, wmT h (wm1225), wmT h (wm1226), Or.inl ⟨by decide, TX11, 15, by rw [h.2.1]; rfl⟩⟩
theorem lkL_138 {G : rfG} (h : okG G) : wlk G "NearSpellLaw" 138 (⟨"NearSpellModel", "begins", "(I)I"⟩, prog_14_method_95_code, 5, (some .int)) 1 ∧ Cond.instanceMethod ⟨"NearSpellModel", "begins", "(I)I"⟩ ∈ G.2.2.1 ∧ Cond.selects "NearSpellModel" ⟨"NearSpellModel", "begins", "(I)I"⟩ ⟨"NearSpellModel", "begins", "(I)I"⟩ ∈ G.2.2.1 ∧ ((¬ 12 = 1000 ∧ ∃ T N, G.1.2.2.1[12]? = some ("NearSpellModel", T, N)) ∨ (12 = 1000 ∧ "NearSpellModel" = "java/lang/String" ∧ ∀ s, G.2.2.2 s → ∀ n, (n = 1 ∨ n = 2) → va_O "java/lang/String" (G.2.1.2.1 n) G.1.2.2.2 s s.heap)) := ⟨⟨Or.inl (wmT h (wm1975)), wmT h (wm129), wmT h (wm1978), by decide +kernel, by decide +kernel, by decide +kernel⟩, wmT h (wm1976), wmT h (wm1977), Or.inl ⟨by decide, TX12, 67, by rw [h.2.1]; rfl⟩⟩
theorem lkL_139 {G : rfG} (h : okG G) : wlk G "NearSpellLaw" 139 (⟨"NearSpell", "crowded", "(I)I"⟩, prog_1_method_32_code, 2, (some .int)) 1 ∧ Cond.instanceMethod ⟨"NearSpell", "crowded", "(I)I"⟩ ∈ G.2.2.1 ∧ Cond.selects "NearSpell" ⟨"NearSpell", "crowded", "(I)I"⟩ ⟨"NearSpell", "crowded", "(I)I"⟩ ∈ G.2.2.1 ∧ ((¬ 11 = 1000 ∧ ∃ T N, G.1.2.2.1[11]? = some ("NearSpell", T, N)) ∨ (11 = 1000 ∧ "NearSpell" = "java/lang/String" ∧ ∀ s, G.2.2.2 s → ∀ n, (n = 1 ∨ n = 2) → va_O "java/lang/String" (G.2.1.2.1 n) G.1.2.2.2 s s.heap)) := ⟨⟨Or.inl (wmT h (wm1234)), wmT h (wm117), wmT h (wm1237), by decide +kernel, by decide +kernel, by decide +kernel⟩, wmT h (wm1235), wmT h (wm1236), Or.inl ⟨by decide, TX11, 15, by rw [h.2.1]; rfl⟩⟩
theorem lkL_142 {G : rfG} (h : okG G) : wlk G "NearSpellLaw" 142 (⟨"NearSpellModel", "crowded", "(I)I"⟩, prog_14_method_96_code, 4, (some .int)) 1 ∧ Cond.instanceMethod ⟨"NearSpellModel", "crowded", "(I)I"⟩ ∈ G.2.2.1 ∧ Cond.selects "NearSpellModel" ⟨"NearSpellModel", "crowded", "(I)I"⟩ ⟨"NearSpellModel", "crowded", "(I)I"⟩ ∈ G.2.2.1 ∧ ((¬ 12 = 1000 ∧ ∃ T N, G.1.2.2.1[12]? = some ("NearSpellModel", T, N)) ∨ (12 = 1000 ∧ "NearSpellModel" = "java/lang/String" ∧ ∀ s, G.2.2.2 s → ∀ n, (n = 1 ∨ n = 2) → va_O "java/lang/String" (G.2.1.2.1 n) G.1.2.2.2 s s.heap)) := ⟨⟨Or.inl (wmT h (wm1979)), wmT h (wm129), wmT h (wm1982), by decide +kernel, by decide +kernel, by decide +kernel⟩, wmT h (wm1980), wmT h (wm1981), Or.inl ⟨by decide, TX12, 67, by rw [h.2.1]; rfl⟩⟩
theorem lkL_143 {G : rfG} (h : okG G) : wlk G "NearSpellLaw" 143 (⟨"NearSpell", "load", "(I)I"⟩, prog_1_method_33_code, 2, (some .int)) 1 ∧ Cond.instanceMethod ⟨"NearSpell", "load", "(I)I"⟩ ∈ G.2.2.1 ∧ Cond.selects "NearSpell" ⟨"NearSpell", "load", "(I)I"⟩ ⟨"NearSpell", "load", "(I)I"⟩ ∈ G.2.2.1 ∧ ((¬ 11 = 1000 ∧ ∃ T N, G.1.2.2.1[11]? = some ("NearSpell", T, N)) ∨ (11 = 1000 ∧ "NearSpell" = "java/lang/String" ∧ ∀ s, G.2.2.2 s → ∀ n, (n = 1 ∨ n = 2) → va_O "java/lang/String" (G.2.1.2.1 n) G.1.2.2.2 s s.heap)) := ⟨⟨Or.inl (wmT h (wm1242)), wmT h (wm117), wmT h (wm1245), by decide +kernel, by decide +kernel, by decide +kernel⟩, wmT h (wm1243), wmT h (wm1244), Or.inl ⟨by decide, TX11, 15, by rw [h.2.1]; rfl⟩⟩
theorem lkL_146 {G : rfG} (h : okG G) : wlk G "NearSpellLaw" 146 (⟨"NearSpellModel", "load", "(I)I"⟩, prog_14_method_98_code, 3, (some .int)) 1 ∧ Cond.instanceMethod ⟨"NearSpellModel", "load", "(I)I"⟩ ∈ G.2.2.1 ∧ Cond.selects "NearSpellModel" ⟨"NearSpellModel", "load", "(I)I"⟩ ⟨"NearSpellModel", "load", "(I)I"⟩ ∈ G.2.2.1 ∧ ((¬ 12 = 1000 ∧ ∃ T N, G.1.2.2.1[12]? = some ("NearSpellModel", T, N)) ∨ (12 = 1000 ∧ "NearSpellModel" = "java/lang/String" ∧ ∀ s, G.2.2.2 s → ∀ n, (n = 1 ∨ n = 2) → va_O "java/lang/String" (G.2.1.2.1 n) G.1.2.2.2 s s.heap)) := ⟨⟨Or.inl (wmT h (wm1983)), wmT h (wm129), wmT h (wm1986), by decide +kernel, by decide +kernel, by decide +kernel⟩, wmT h (wm1984), wmT h (wm1985), Or.inl ⟨by decide, TX12, 67, by rw [h.2.1]; rfl⟩⟩
theorem lkL_147 {G : rfG} (h : okG G) : wlk G "NearSpellLaw" 147 (⟨"NearSpell", "fullest", "()I"⟩, prog_1_method_34_code, 1, (some .int)) 0 ∧ Cond.instanceMethod ⟨"NearSpell", "fullest", "()I"⟩ ∈ G.2.2.1 ∧ Cond.selects "NearSpell" ⟨"NearSpell", "fullest", "()I"⟩ ⟨"NearSpell", "fullest", "()I"⟩ ∈ G.2.2.1 ∧ ((¬ 11 = 1000 ∧ ∃ T N, G.1.2.2.1[11]? = some ("NearSpell", T, N)) ∨ (11 = 1000 ∧ "NearSpell" = "java/lang/String" ∧ ∀ s, G.2.2.2 s → ∀ n, (n = 1 ∨ n = 2) → va_O "java/lang/String" (G.2.1.2.1 n) G.1.2.2.2 s s.heap)) := ⟨⟨Or.inl (wmT h (wm1270)), wmT h (wm117), wmT h (wm1273), by decide +kernel, by decide +kernel, by decide +kernel⟩, wmT h (wm1271), wmT h (wm1272), Or.inl ⟨by decide, TX11, 15, by rw [h.2.1]; rfl⟩⟩
theorem lkL_150 {G : rfG} (h : okG G) : wlk G "NearSpellLaw" 150 (⟨"NearSpellModel", "fullest", "()I"⟩, prog_14_method_99_code, 6, (some .int)) 0 ∧ Cond.instanceMethod ⟨"NearSpellModel", "fullest", "()I"⟩ ∈ G.2.2.1 ∧ Cond.selects "NearSpellModel" ⟨"NearSpellModel", "fullest", "()I"⟩ ⟨"NearSpellModel", "fullest", "()I"⟩ ∈ G.2.2.1 ∧ ((¬ 12 = 1000 ∧ ∃ T N, G.1.2.2.1[12]? = some ("NearSpellModel", T, N)) ∨ (12 = 1000 ∧ "NearSpellModel" = "java/lang/String" ∧ ∀ s, G.2.2.2 s → ∀ n, (n = 1 ∨ n = 2) → va_O "java/lang/String" (G.2.1.2.1 n) G.1.2.2.2 s s.heap)) := ⟨⟨Or.inl (wmT h (wm1991)), wmT h (wm129), wmT h (wm1994), by decide +kernel, by decide +kernel, by decide +kernel⟩, wmT h (wm1992), wmT h (wm1993), Or.inl ⟨by decide, TX12, 67, by rw [h.2.1]; rfl⟩⟩
theorem lkL_151 {G : rfG} (h : okG G) : wlk G "NearSpellLaw" 151 (⟨"NearSpell", "store", "()I"⟩, prog_1_method_35_code, 1, (some .int)) 0 ∧ Cond.instanceMethod ⟨"NearSpell", "store", "()I"⟩ ∈ G.2.2.1 ∧ Cond.selects "NearSpell" ⟨"NearSpell", "store", "()I"⟩ ⟨"NearSpell", "store", "()I"⟩ ∈ G.2.2.1 ∧ ((¬ 11 = 1000 ∧ ∃ T N, G.1.2.2.1[11]? = some ("NearSpell", T, N)) ∨ (11 = 1000 ∧ "NearSpell" = "java/lang/String" ∧ ∀ s, G.2.2.2 s → ∀ n, (n = 1 ∨ n = 2) → va_O "java/lang/String" (G.2.1.2.1 n) G.1.2.2.2 s s.heap)) := ⟨⟨Or.inl (wmT h (wm1278)), wmT h (wm117), wmT h (wm1281), by decide +kernel, by decide +kernel, by decide +kernel⟩, wmT h (wm1279), wmT h (wm1280), Or.inl ⟨by decide, TX11, 15, by rw [h.2.1]; rfl⟩⟩
theorem lkL_154 {G : rfG} (h : okG G) : wlk G "NearSpellLaw" 154 (⟨"NearSpellModel", "store", "()I"⟩, prog_14_method_100_code, 1, (some .int)) 0 ∧ Cond.instanceMethod ⟨"NearSpellModel", "store", "()I"⟩ ∈ G.2.2.1 ∧ Cond.selects "NearSpellModel" ⟨"NearSpellModel", "store", "()I"⟩ ⟨"NearSpellModel", "store", "()I"⟩ ∈ G.2.2.1 ∧ ((¬ 12 = 1000 ∧ ∃ T N, G.1.2.2.1[12]? = some ("NearSpellModel", T, N)) ∨ (12 = 1000 ∧ "NearSpellModel" = "java/lang/String" ∧ ∀ s, G.2.2.2 s → ∀ n, (n = 1 ∨ n = 2) → va_O "java/lang/String" (G.2.1.2.1 n) G.1.2.2.2 s s.heap)) := ⟨⟨Or.inl (wmT h (wm1995)), wmT h (wm129), wmT h (wm1998), by decide +kernel, by decide +kernel, by decide +kernel⟩, wmT h (wm1996), wmT h (wm1997), Or.inl ⟨by decide, TX12, 67, by rw [h.2.1]; rfl⟩⟩
theorem lkL_155 {G : rfG} (h : okG G) : wlk G "NearSpellLaw" 155 (⟨"NearSpell", "clashes", "()I"⟩, prog_1_method_36_code, 1, (some .int)) 0 ∧ Cond.instanceMethod ⟨"NearSpell", "clashes", "()I"⟩ ∈ G.2.2.1 ∧ Cond.selects "NearSpell" ⟨"NearSpell", "clashes", "()I"⟩ ⟨"NearSpell", "clashes", "()I"⟩ ∈ G.2.2.1 ∧ ((¬ 11 = 1000 ∧ ∃ T N, G.1.2.2.1[11]? = some ("NearSpell", T, N)) ∨ (11 = 1000 ∧ "NearSpell" = "java/lang/String" ∧ ∀ s, G.2.2.2 s → ∀ n, (n = 1 ∨ n = 2) → va_O "java/lang/String" (G.2.1.2.1 n) G.1.2.2.2 s s.heap)) := ⟨⟨Or.inl (wmT h (wm1286)), wmT h (wm117), wmT h (wm1289), by decide +kernel, by decide +kernel, by decide +kernel⟩, wmT h (wm1287), wmT h (wm1288), Or.inl ⟨by decide, TX11, 15, by rw [h.2.1]; rfl⟩⟩
theorem lkL_158 {G : rfG} (h : okG G) : wlk G "NearSpellLaw" 158 (⟨"NearSpellModel", "clashes", "()I"⟩, prog_14_method_103_code, 7, (some .int)) 0 ∧ Cond.instanceMethod ⟨"NearSpellModel", "clashes", "()I"⟩ ∈ G.2.2.1 ∧ Cond.selects "NearSpellModel" ⟨"NearSpellModel", "clashes", "()I"⟩ ⟨"NearSpellModel", "clashes", "()I"⟩ ∈ G.2.2.1 ∧ ((¬ 12 = 1000 ∧ ∃ T N, G.1.2.2.1[12]? = some ("NearSpellModel", T, N)) ∨ (12 = 1000 ∧ "NearSpellModel" = "java/lang/String" ∧ ∀ s, G.2.2.2 s → ∀ n, (n = 1 ∨ n = 2) → va_O "java/lang/String" (G.2.1.2.1 n) G.1.2.2.2 s s.heap)) := ⟨⟨Or.inl (wmT h (wm2003)), wmT h (wm129), wmT h (wm2006), by decide +kernel, by decide +kernel, by decide +kernel⟩, wmT h (wm2004), wmT h (wm2005), Or.inl ⟨by decide, TX12, 67, by rw [h.2.1]; rfl⟩⟩
theorem lkL_159 {G : rfG} (h : okG G) : wlk G "NearSpellLaw" 159 (⟨"NearSpell", "rarest", "()I"⟩, prog_1_method_37_code, 1, (some .int)) 0 ∧ Cond.instanceMethod ⟨"NearSpell", "rarest", "()I"⟩ ∈ G.2.2.1 ∧ Cond.selects "NearSpell" ⟨"NearSpell", "rarest", "()I"⟩ ⟨"NearSpell", "rarest", "()I"⟩ ∈ G.2.2.1 ∧ ((¬ 11 = 1000 ∧ ∃ T N, G.1.2.2.1[11]? = some ("NearSpell", T, N)) ∨ (11 = 1000 ∧ "NearSpell" = "java/lang/String" ∧ ∀ s, G.2.2.2 s → ∀ n, (n = 1 ∨ n = 2) → va_O "java/lang/String" (G.2.1.2.1 n) G.1.2.2.2 s s.heap)) := ⟨⟨Or.inl (wmT h (wm1294)), wmT h (wm117), wmT h (wm1297), by decide +kernel, by decide +kernel, by decide +kernel⟩, wmT h (wm1295), wmT h (wm1296), Or.inl ⟨by decide, TX11, 15, by rw [h.2.1]; rfl⟩⟩
theorem lkL_162 {G : rfG} (h : okG G) : wlk G "NearSpellLaw" 162 (⟨"NearSpellModel", "rarest", "()I"⟩, prog_14_method_104_code, 8, (some .int)) 0 ∧ Cond.instanceMethod ⟨"NearSpellModel", "rarest", "()I"⟩ ∈ G.2.2.1 ∧ Cond.selects "NearSpellModel" ⟨"NearSpellModel", "rarest", "()I"⟩ ⟨"NearSpellModel", "rarest", "()I"⟩ ∈ G.2.2.1 ∧ ((¬ 12 = 1000 ∧ ∃ T N, G.1.2.2.1[12]? = some ("NearSpellModel", T, N)) ∨ (12 = 1000 ∧ "NearSpellModel" = "java/lang/String" ∧ ∀ s, G.2.2.2 s → ∀ n, (n = 1 ∨ n = 2) → va_O "java/lang/String" (G.2.1.2.1 n) G.1.2.2.2 s s.heap)) := ⟨⟨Or.inl (wmT h (wm2011)), wmT h (wm129), wmT h (wm2014), by decide +kernel, by decide +kernel, by decide +kernel⟩, wmT h (wm2012), wmT h (wm2013), Or.inl ⟨by decide, TX12, 67, by rw [h.2.1]; rfl⟩⟩
theorem lkL_163 {G : rfG} (h : okG G) : wlk G "NearSpellLaw" 163 (⟨"NearSpell", "law", "(I)I"⟩, prog_1_method_38_code, 2, (some .int)) 1 ∧ Cond.instanceMethod ⟨"NearSpell", "law", "(I)I"⟩ ∈ G.2.2.1 ∧ Cond.selects "NearSpell" ⟨"NearSpell", "law", "(I)I"⟩ ⟨"NearSpell", "law", "(I)I"⟩ ∈ G.2.2.1 ∧ ((¬ 11 = 1000 ∧ ∃ T N, G.1.2.2.1[11]? = some ("NearSpell", T, N)) ∨ (11 = 1000 ∧ "NearSpell" = "java/lang/String" ∧ ∀ s, G.2.2.2 s → ∀ n, (n = 1 ∨ n = 2) → va_O "java/lang/String" (G.2.1.2.1 n) G.1.2.2.2 s s.heap)) := ⟨⟨Or.inl (wmT h (wm1306)), wmT h (wm117), wmT h (wm1309), by decide +kernel, by decide +kernel, by decide +kernel⟩, wmT h (wm1307), wmT h (wm1308), Or.inl ⟨by decide, TX11, 15, by rw [h.2.1]; rfl⟩⟩
theorem lkL_166 {G : rfG} (h : okG G) : wlk G "NearSpellLaw" 166 (⟨"NearSpellModel", "law", "(I)I"⟩, prog_14_method_101_code, 2, (some .int)) 1 ∧ Cond.instanceMethod ⟨"NearSpellModel", "law", "(I)I"⟩ ∈ G.2.2.1 ∧ Cond.selects "NearSpellModel" ⟨"NearSpellModel", "law", "(I)I"⟩ ⟨"NearSpellModel", "law", "(I)I"⟩ ∈ G.2.2.1 ∧ ((¬ 12 = 1000 ∧ ∃ T N, G.1.2.2.1[12]? = some ("NearSpellModel", T, N)) ∨ (12 = 1000 ∧ "NearSpellModel" = "java/lang/String" ∧ ∀ s, G.2.2.2 s → ∀ n, (n = 1 ∨ n = 2) → va_O "java/lang/String" (G.2.1.2.1 n) G.1.2.2.2 s s.heap)) := ⟨⟨Or.inl (wmT h (wm1999)), wmT h (wm129), wmT h (wm2002), by decide +kernel, by decide +kernel, by decide +kernel⟩, wmT h (wm2000), wmT h (wm2001), Or.inl ⟨by decide, TX12, 67, by rw [h.2.1]; rfl⟩⟩
theorem lkL_167 {G : rfG} (h : okG G) : wlk G "NearSpellLaw" 167 (⟨"NearSpell", "odds", "(II)I"⟩, prog_1_method_39_code, 8, (some .int)) 2 ∧ Cond.instanceMethod ⟨"NearSpell", "odds", "(II)I"⟩ ∈ G.2.2.1 ∧ Cond.selects "NearSpell" ⟨"NearSpell", "odds", "(II)I"⟩ ⟨"NearSpell", "odds", "(II)I"⟩ ∈ G.2.2.1 ∧ ((¬ 11 = 1000 ∧ ∃ T N, G.1.2.2.1[11]? = some ("NearSpell", T, N)) ∨ (11 = 1000 ∧ "NearSpell" = "java/lang/String" ∧ ∀ s, G.2.2.2 s → ∀ n, (n = 1 ∨ n = 2) → va_O "java/lang/String" (G.2.1.2.1 n) G.1.2.2.2 s s.heap)) := ⟨⟨Or.inl (wmT h (wm1310)), wmT h (wm117), wmT h (wm1313), by decide +kernel, by decide +kernel, by decide +kernel⟩, wmT h (wm1311), wmT h (wm1312), Or.inl ⟨by decide, TX11, 15, by rw [h.2.1]; rfl⟩⟩
theorem lkL_170 {G : rfG} (h : okG G) : wlk G "NearSpellLaw" 170 (⟨"NearSpellModel", "odds", "(II)I"⟩, prog_14_method_115_code, 5, (some .int)) 2 ∧ Cond.instanceMethod ⟨"NearSpellModel", "odds", "(II)I"⟩ ∈ G.2.2.1 ∧ Cond.selects "NearSpellModel" ⟨"NearSpellModel", "odds", "(II)I"⟩ ⟨"NearSpellModel", "odds", "(II)I"⟩ ∈ G.2.2.1 ∧ ((¬ 12 = 1000 ∧ ∃ T N, G.1.2.2.1[12]? = some ("NearSpellModel", T, N)) ∨ (12 = 1000 ∧ "NearSpellModel" = "java/lang/String" ∧ ∀ s, G.2.2.2 s → ∀ n, (n = 1 ∨ n = 2) → va_O "java/lang/String" (G.2.1.2.1 n) G.1.2.2.2 s s.heap)) := ⟨⟨Or.inl (wmT h (wm2055)), wmT h (wm129), wmT h (wm2058), by decide +kernel, by decide +kernel, by decide +kernel⟩, wmT h (wm2056), wmT h (wm2057), Or.inl ⟨by decide, TX12, 67, by rw [h.2.1]; rfl⟩⟩
theorem lkL_171 {G : rfG} (h : okG G) : wlk G "NearSpellLaw" 171 (⟨"NearSpell", "lies", "(I)I"⟩, prog_1_method_40_code, 2, (some .int)) 1 ∧ Cond.instanceMethod ⟨"NearSpell", "lies", "(I)I"⟩ ∈ G.2.2.1 ∧ Cond.selects "NearSpell" ⟨"NearSpell", "lies", "(I)I"⟩ ⟨"NearSpell", "lies", "(I)I"⟩ ∈ G.2.2.1 ∧ ((¬ 11 = 1000 ∧ ∃ T N, G.1.2.2.1[11]? = some ("NearSpell", T, N)) ∨ (11 = 1000 ∧ "NearSpell" = "java/lang/String" ∧ ∀ s, G.2.2.2 s → ∀ n, (n = 1 ∨ n = 2) → va_O "java/lang/String" (G.2.1.2.1 n) G.1.2.2.2 s s.heap)) := ⟨⟨Or.inl (wmT h (wm1317)), wmT h (wm117), wmT h (wm1320), by decide +kernel, by decide +kernel, by decide +kernel⟩, wmT h (wm1318), wmT h (wm1319), Or.inl ⟨by decide, TX11, 15, by rw [h.2.1]; rfl⟩⟩
theorem lkL_174 {G : rfG} (h : okG G) : wlk G "NearSpellLaw" 174 (⟨"NearSpellModel", "lies", "(I)I"⟩, prog_14_method_71_code, 2, (some .int)) 1 ∧ Cond.instanceMethod ⟨"NearSpellModel", "lies", "(I)I"⟩ ∈ G.2.2.1 ∧ Cond.selects "NearSpellModel" ⟨"NearSpellModel", "lies", "(I)I"⟩ ⟨"NearSpellModel", "lies", "(I)I"⟩ ∈ G.2.2.1 ∧ ((¬ 12 = 1000 ∧ ∃ T N, G.1.2.2.1[12]? = some ("NearSpellModel", T, N)) ∨ (12 = 1000 ∧ "NearSpellModel" = "java/lang/String" ∧ ∀ s, G.2.2.2 s → ∀ n, (n = 1 ∨ n = 2) → va_O "java/lang/String" (G.2.1.2.1 n) G.1.2.2.2 s s.heap)) := ⟨⟨Or.inl (wmT h (wm1818)), wmT h (wm129), wmT h (wm1821), by decide +kernel, by decide +kernel, by decide +kernel⟩, wmT h (wm1819), wmT h (wm1820), Or.inl ⟨by decide, TX12, 67, by rw [h.2.1]; rfl⟩⟩
theorem lkL_175 {G : rfG} (h : okG G) : wlk G "NearSpellLaw" 175 (⟨"NearSpell", "seen", "(IIZ)I"⟩, prog_1_method_41_code, 4, (some .int)) 3 ∧ Cond.instanceMethod ⟨"NearSpell", "seen", "(IIZ)I"⟩ ∈ G.2.2.1 ∧ Cond.selects "NearSpell" ⟨"NearSpell", "seen", "(IIZ)I"⟩ ⟨"NearSpell", "seen", "(IIZ)I"⟩ ∈ G.2.2.1 ∧ ((¬ 11 = 1000 ∧ ∃ T N, G.1.2.2.1[11]? = some ("NearSpell", T, N)) ∨ (11 = 1000 ∧ "NearSpell" = "java/lang/String" ∧ ∀ s, G.2.2.2 s → ∀ n, (n = 1 ∨ n = 2) → va_O "java/lang/String" (G.2.1.2.1 n) G.1.2.2.2 s s.heap)) := ⟨⟨Or.inl (wmT h (wm1321)), wmT h (wm117), wmT h (wm1324), by decide +kernel, by decide +kernel, by decide +kernel⟩, wmT h (wm1322), wmT h (wm1323), Or.inl ⟨by decide, TX11, 15, by rw [h.2.1]; rfl⟩⟩
theorem lkL_179 {G : rfG} (h : okG G) : wlk G "NearSpellLaw" 179 (⟨"NearSpellModel", "seen", "(IIZ)I"⟩, prog_14_method_117_code, 4, (some .int)) 3 ∧ Cond.instanceMethod ⟨"NearSpellModel", "seen", "(IIZ)I"⟩ ∈ G.2.2.1 ∧ Cond.selects "NearSpellModel" ⟨"NearSpellModel", "seen", "(IIZ)I"⟩ ⟨"NearSpellModel", "seen", "(IIZ)I"⟩ ∈ G.2.2.1 ∧ ((¬ 12 = 1000 ∧ ∃ T N, G.1.2.2.1[12]? = some ("NearSpellModel", T, N)) ∨ (12 = 1000 ∧ "NearSpellModel" = "java/lang/String" ∧ ∀ s, G.2.2.2 s → ∀ n, (n = 1 ∨ n = 2) → va_O "java/lang/String" (G.2.1.2.1 n) G.1.2.2.2 s s.heap)) := ⟨⟨Or.inl (wmT h (wm2065)), wmT h (wm129), wmT h (wm2068), by decide +kernel, by decide +kernel, by decide +kernel⟩, wmT h (wm2066), wmT h (wm2067), Or.inl ⟨by decide, TX12, 67, by rw [h.2.1]; rfl⟩⟩
theorem lkL_180 {G : rfG} (h : okG G) : wlk G "NearSpellLaw" 180 (⟨"NearSpell", "untell", "(I)Z"⟩, prog_1_method_42_code, 2, (some .boolean)) 1 ∧ Cond.instanceMethod ⟨"NearSpell", "untell", "(I)Z"⟩ ∈ G.2.2.1 ∧ Cond.selects "NearSpell" ⟨"NearSpell", "untell", "(I)Z"⟩ ⟨"NearSpell", "untell", "(I)Z"⟩ ∈ G.2.2.1 ∧ ((¬ 11 = 1000 ∧ ∃ T N, G.1.2.2.1[11]? = some ("NearSpell", T, N)) ∨ (11 = 1000 ∧ "NearSpell" = "java/lang/String" ∧ ∀ s, G.2.2.2 s → ∀ n, (n = 1 ∨ n = 2) → va_O "java/lang/String" (G.2.1.2.1 n) G.1.2.2.2 s s.heap)) := ⟨⟨Or.inl (wmT h (wm1329)), wmT h (wm117), wmT h (wm1332), by decide +kernel, by decide +kernel, by decide +kernel⟩, wmT h (wm1330), wmT h (wm1331), Or.inl ⟨by decide, TX11, 15, by rw [h.2.1]; rfl⟩⟩
theorem lkL_184 {G : rfG} (h : okG G) : wlk G "NearSpellLaw" 184 (⟨"NearSpellModel", "untell", "(I)Z"⟩, prog_14_method_118_code, 2, (some .boolean)) 1 ∧ Cond.instanceMethod ⟨"NearSpellModel", "untell", "(I)Z"⟩ ∈ G.2.2.1 ∧ Cond.selects "NearSpellModel" ⟨"NearSpellModel", "untell", "(I)Z"⟩ ⟨"NearSpellModel", "untell", "(I)Z"⟩ ∈ G.2.2.1 ∧ ((¬ 12 = 1000 ∧ ∃ T N, G.1.2.2.1[12]? = some ("NearSpellModel", T, N)) ∨ (12 = 1000 ∧ "NearSpellModel" = "java/lang/String" ∧ ∀ s, G.2.2.2 s → ∀ n, (n = 1 ∨ n = 2) → va_O "java/lang/String" (G.2.1.2.1 n) G.1.2.2.2 s s.heap)) := ⟨⟨Or.inl (wmT h (wm2069)), wmT h (wm129), wmT h (wm2072), by decide +kernel, by decide +kernel, by decide +kernel⟩, wmT h (wm2070), wmT h (wm2071), Or.inl ⟨by decide, TX12, 67, by rw [h.2.1]; rfl⟩⟩
theorem lkL_185 {G : rfG} (h : okG G) : wlk G "NearSpellLaw" 185 (⟨"NearSpell", "later", "(I)I"⟩, prog_1_method_43_code, 2, (some .int)) 1 ∧ Cond.instanceMethod ⟨"NearSpell", "later", "(I)I"⟩ ∈ G.2.2.1 ∧ Cond.selects "NearSpell" ⟨"NearSpell", "later", "(I)I"⟩ ⟨"NearSpell", "later", "(I)I"⟩ ∈ G.2.2.1 ∧ ((¬ 11 = 1000 ∧ ∃ T N, G.1.2.2.1[11]? = some ("NearSpell", T, N)) ∨ (11 = 1000 ∧ "NearSpell" = "java/lang/String" ∧ ∀ s, G.2.2.2 s → ∀ n, (n = 1 ∨ n = 2) → va_O "java/lang/String" (G.2.1.2.1 n) G.1.2.2.2 s s.heap)) := ⟨⟨Or.inl (wmT h (wm1337)), wmT h (wm117), wmT h (wm1340), by decide +kernel, by decide +kernel, by decide +kernel⟩, wmT h (wm1338), wmT h (wm1339), Or.inl ⟨by decide, TX11, 15, by rw [h.2.1]; rfl⟩⟩
theorem lkL_188 {G : rfG} (h : okG G) : wlk G "NearSpellLaw" 188 (⟨"NearSpellModel", "later", "(I)I"⟩, prog_14_method_119_code, 2, (some .int)) 1 ∧ Cond.instanceMethod ⟨"NearSpellModel", "later", "(I)I"⟩ ∈ G.2.2.1 ∧ Cond.selects "NearSpellModel" ⟨"NearSpellModel", "later", "(I)I"⟩ ⟨"NearSpellModel", "later", "(I)I"⟩ ∈ G.2.2.1 ∧ ((¬ 12 = 1000 ∧ ∃ T N, G.1.2.2.1[12]? = some ("NearSpellModel", T, N)) ∨ (12 = 1000 ∧ "NearSpellModel" = "java/lang/String" ∧ ∀ s, G.2.2.2 s → ∀ n, (n = 1 ∨ n = 2) → va_O "java/lang/String" (G.2.1.2.1 n) G.1.2.2.2 s s.heap)) := ⟨⟨Or.inl (wmT h (wm2073)), wmT h (wm129), wmT h (wm2076), by decide +kernel, by decide +kernel, by decide +kernel⟩, wmT h (wm2074), wmT h (wm2075), Or.inl ⟨by decide, TX12, 67, by rw [h.2.1]; rfl⟩⟩
theorem lkL_189 {G : rfG} (h : okG G) : wlk G "NearSpellLaw" 189 (⟨"NearSpell", "fits", "(I)I"⟩, prog_1_method_44_code, 2, (some .int)) 1 ∧ Cond.instanceMethod ⟨"NearSpell", "fits", "(I)I"⟩ ∈ G.2.2.1 ∧ Cond.selects "NearSpell" ⟨"NearSpell", "fits", "(I)I"⟩ ⟨"NearSpell", "fits", "(I)I"⟩ ∈ G.2.2.1 ∧ ((¬ 11 = 1000 ∧ ∃ T N, G.1.2.2.1[11]? = some ("NearSpell", T, N)) ∨ (11 = 1000 ∧ "NearSpell" = "java/lang/String" ∧ ∀ s, G.2.2.2 s → ∀ n, (n = 1 ∨ n = 2) → va_O "java/lang/String" (G.2.1.2.1 n) G.1.2.2.2 s s.heap)) := ⟨⟨Or.inl (wmT h (wm1346)), wmT h (wm117), wmT h (wm1349), by decide +kernel, by decide +kernel, by decide +kernel⟩, wmT h (wm1347), wmT h (wm1348), Or.inl ⟨by decide, TX11, 15, by rw [h.2.1]; rfl⟩⟩
theorem lkL_192 {G : rfG} (h : okG G) : wlk G "NearSpellLaw" 192 (⟨"NearSpellModel", "fits", "(I)I"⟩, prog_14_method_122_code, 4, (some .int)) 1 ∧ Cond.instanceMethod ⟨"NearSpellModel", "fits", "(I)I"⟩ ∈ G.2.2.1 ∧ Cond.selects "NearSpellModel" ⟨"NearSpellModel", "fits", "(I)I"⟩ ⟨"NearSpellModel", "fits", "(I)I"⟩ ∈ G.2.2.1 ∧ ((¬ 12 = 1000 ∧ ∃ T N, G.1.2.2.1[12]? = some ("NearSpellModel", T, N)) ∨ (12 = 1000 ∧ "NearSpellModel" = "java/lang/String" ∧ ∀ s, G.2.2.2 s → ∀ n, (n = 1 ∨ n = 2) → va_O "java/lang/String" (G.2.1.2.1 n) G.1.2.2.2 s s.heap)) := ⟨⟨Or.inl (wmT h (wm2078)), wmT h (wm129), wmT h (wm2081), by decide +kernel, by decide +kernel, by decide +kernel⟩, wmT h (wm2079), wmT h (wm2080), Or.inl ⟨by decide, TX12, 67, by rw [h.2.1]; rfl⟩⟩
theorem lkL_193 {G : rfG} (h : okG G) : wlk G "NearSpellLaw" 193 (⟨"NearSpell", "ask", "(II)I"⟩, prog_1_method_45_code, 3, (some .int)) 2 ∧ Cond.instanceMethod ⟨"NearSpell", "ask", "(II)I"⟩ ∈ G.2.2.1 ∧ Cond.selects "NearSpell" ⟨"NearSpell", "ask", "(II)I"⟩ ⟨"NearSpell", "ask", "(II)I"⟩ ∈ G.2.2.1 ∧ ((¬ 11 = 1000 ∧ ∃ T N, G.1.2.2.1[11]? = some ("NearSpell", T, N)) ∨ (11 = 1000 ∧ "NearSpell" = "java/lang/String" ∧ ∀ s, G.2.2.2 s → ∀ n, (n = 1 ∨ n = 2) → va_O "java/lang/String" (G.2.1.2.1 n) G.1.2.2.2 s s.heap)) := ⟨⟨Or.inl (wmT h (wm1364)), wmT h (wm117), wmT h (wm1367), by decide +kernel, by decide +kernel, by decide +kernel⟩, wmT h (wm1365), wmT h (wm1366), Or.inl ⟨by decide, TX11, 15, by rw [h.2.1]; rfl⟩⟩
theorem lkL_196 {G : rfG} (h : okG G) : wlk G "NearSpellLaw" 196 (⟨"NearSpellModel", "ask", "(II)I"⟩, prog_14_method_124_code, 8, (some .int)) 2 ∧ Cond.instanceMethod ⟨"NearSpellModel", "ask", "(II)I"⟩ ∈ G.2.2.1 ∧ Cond.selects "NearSpellModel" ⟨"NearSpellModel", "ask", "(II)I"⟩ ⟨"NearSpellModel", "ask", "(II)I"⟩ ∈ G.2.2.1 ∧ ((¬ 12 = 1000 ∧ ∃ T N, G.1.2.2.1[12]? = some ("NearSpellModel", T, N)) ∨ (12 = 1000 ∧ "NearSpellModel" = "java/lang/String" ∧ ∀ s, G.2.2.2 s → ∀ n, (n = 1 ∨ n = 2) → va_O "java/lang/String" (G.2.1.2.1 n) G.1.2.2.2 s s.heap)) := ⟨⟨Or.inl (wmT h (wm2094)), wmT h (wm129), wmT h (wm2097), by decide +kernel, by decide +kernel, by decide +kernel⟩, wmT h (wm2095), wmT h (wm2096), Or.inl ⟨by decide, TX12, 67, by rw [h.2.1]; rfl⟩⟩
theorem lkL_197 {G : rfG} (h : okG G) : wlk G "NearSpellLaw" 197 (⟨"NearSpell", "image", "(I)I"⟩, prog_1_method_46_code, 2, (some .int)) 1 ∧ Cond.instanceMethod ⟨"NearSpell", "image", "(I)I"⟩ ∈ G.2.2.1 ∧ Cond.selects "NearSpell" ⟨"NearSpell", "image", "(I)I"⟩ ⟨"NearSpell", "image", "(I)I"⟩ ∈ G.2.2.1 ∧ ((¬ 11 = 1000 ∧ ∃ T N, G.1.2.2.1[11]? = some ("NearSpell", T, N)) ∨ (11 = 1000 ∧ "NearSpell" = "java/lang/String" ∧ ∀ s, G.2.2.2 s → ∀ n, (n = 1 ∨ n = 2) → va_O "java/lang/String" (G.2.1.2.1 n) G.1.2.2.2 s s.heap)) := ⟨⟨Or.inl (wmT h (wm1378)), wmT h (wm117), wmT h (wm1381), by decide +kernel, by decide +kernel, by decide +kernel⟩, wmT h (wm1379), wmT h (wm1380), Or.inl ⟨by decide, TX11, 15, by rw [h.2.1]; rfl⟩⟩
theorem lkL_200 {G : rfG} (h : okG G) : wlk G "NearSpellLaw" 200 (⟨"NearSpellModel", "image", "(I)I"⟩, prog_14_method_125_code, 3, (some .int)) 1 ∧ Cond.instanceMethod ⟨"NearSpellModel", "image", "(I)I"⟩ ∈ G.2.2.1 ∧ Cond.selects "NearSpellModel" ⟨"NearSpellModel", "image", "(I)I"⟩ ⟨"NearSpellModel", "image", "(I)I"⟩ ∈ G.2.2.1 ∧ ((¬ 12 = 1000 ∧ ∃ T N, G.1.2.2.1[12]? = some ("NearSpellModel", T, N)) ∨ (12 = 1000 ∧ "NearSpellModel" = "java/lang/String" ∧ ∀ s, G.2.2.2 s → ∀ n, (n = 1 ∨ n = 2) → va_O "java/lang/String" (G.2.1.2.1 n) G.1.2.2.2 s s.heap)) := ⟨⟨Or.inl (wmT h (wm2103)), wmT h (wm129), wmT h (wm2106), by decide +kernel, by decide +kernel, by decide +kernel⟩, wmT h (wm2104), wmT h (wm2105), Or.inl ⟨by decide, TX12, 67, by rw [h.2.1]; rfl⟩⟩
theorem lkL_201 {G : rfG} (h : okG G) : wlk G "NearSpellLaw" 201 (⟨"NearSpell", "back", "(I)I"⟩, prog_1_method_47_code, 2, (some .int)) 1 ∧ Cond.instanceMethod ⟨"NearSpell", "back", "(I)I"⟩ ∈ G.2.2.1 ∧ Cond.selects "NearSpell" ⟨"NearSpell", "back", "(I)I"⟩ ⟨"NearSpell", "back", "(I)I"⟩ ∈ G.2.2.1 ∧ ((¬ 11 = 1000 ∧ ∃ T N, G.1.2.2.1[11]? = some ("NearSpell", T, N)) ∨ (11 = 1000 ∧ "NearSpell" = "java/lang/String" ∧ ∀ s, G.2.2.2 s → ∀ n, (n = 1 ∨ n = 2) → va_O "java/lang/String" (G.2.1.2.1 n) G.1.2.2.2 s s.heap)) := ⟨⟨Or.inl (wmT h (wm1386)), wmT h (wm117), wmT h (wm1389), by decide +kernel, by decide +kernel, by decide +kernel⟩, wmT h (wm1387), wmT h (wm1388), Or.inl ⟨by decide, TX11, 15, by rw [h.2.1]; rfl⟩⟩
theorem lkL_204 {G : rfG} (h : okG G) : wlk G "NearSpellLaw" 204 (⟨"NearSpellModel", "back", "(I)I"⟩, prog_14_method_126_code, 3, (some .int)) 1 ∧ Cond.instanceMethod ⟨"NearSpellModel", "back", "(I)I"⟩ ∈ G.2.2.1 ∧ Cond.selects "NearSpellModel" ⟨"NearSpellModel", "back", "(I)I"⟩ ⟨"NearSpellModel", "back", "(I)I"⟩ ∈ G.2.2.1 ∧ ((¬ 12 = 1000 ∧ ∃ T N, G.1.2.2.1[12]? = some ("NearSpellModel", T, N)) ∨ (12 = 1000 ∧ "NearSpellModel" = "java/lang/String" ∧ ∀ s, G.2.2.2 s → ∀ n, (n = 1 ∨ n = 2) → va_O "java/lang/String" (G.2.1.2.1 n) G.1.2.2.2 s s.heap)) := ⟨⟨Or.inl (wmT h (wm2107)), wmT h (wm129), wmT h (wm2110), by decide +kernel, by decide +kernel, by decide +kernel⟩, wmT h (wm2108), wmT h (wm2109), Or.inl ⟨by decide, TX12, 67, by rw [h.2.1]; rfl⟩⟩
theorem lkL_205 {G : rfG} (h : okG G) : wlk G "NearSpellLaw" 205 (⟨"NearSpell", "about", "(I)I"⟩, prog_1_method_48_code, 2, (some .int)) 1 ∧ Cond.instanceMethod ⟨"NearSpell", "about", "(I)I"⟩ ∈ G.2.2.1 ∧ Cond.selects "NearSpell" ⟨"NearSpell", "about", "(I)I"⟩ ⟨"NearSpell", "about", "(I)I"⟩ ∈ G.2.2.1 ∧ ((¬ 11 = 1000 ∧ ∃ T N, G.1.2.2.1[11]? = some ("NearSpell", T, N)) ∨ (11 = 1000 ∧ "NearSpell" = "java/lang/String" ∧ ∀ s, G.2.2.2 s → ∀ n, (n = 1 ∨ n = 2) → va_O "java/lang/String" (G.2.1.2.1 n) G.1.2.2.2 s s.heap)) := ⟨⟨Or.inl (wmT h (wm1394)), wmT h (wm117), wmT h (wm1397), by decide +kernel, by decide +kernel, by decide +kernel⟩, wmT h (wm1395), wmT h (wm1396), Or.inl ⟨by decide, TX11, 15, by rw [h.2.1]; rfl⟩⟩
theorem lkL_208 {G : rfG} (h : okG G) : wlk G "NearSpellLaw" 208 (⟨"NearSpellModel", "about", "(I)I"⟩, prog_14_method_127_code, 2, (some .int)) 1 ∧ Cond.instanceMethod ⟨"NearSpellModel", "about", "(I)I"⟩ ∈ G.2.2.1 ∧ Cond.selects "NearSpellModel" ⟨"NearSpellModel", "about", "(I)I"⟩ ⟨"NearSpellModel", "about", "(I)I"⟩ ∈ G.2.2.1 ∧ ((¬ 12 = 1000 ∧ ∃ T N, G.1.2.2.1[12]? = some ("NearSpellModel", T, N)) ∨ (12 = 1000 ∧ "NearSpellModel" = "java/lang/String" ∧ ∀ s, G.2.2.2 s → ∀ n, (n = 1 ∨ n = 2) → va_O "java/lang/String" (G.2.1.2.1 n) G.1.2.2.2 s s.heap)) := ⟨⟨Or.inl (wmT h (wm2111)), wmT h (wm129), wmT h (wm2114), by decide +kernel, by decide +kernel, by decide +kernel⟩, wmT h (wm2112), wmT h (wm2113), Or.inl ⟨by decide, TX12, 67, by rw [h.2.1]; rfl⟩⟩
def ddL0 : List (Nat × Instr × Nat) := [(236, .aload_n 1, 1), (237, .aload_n 0, 1), (238, .iload_n 3, 1), (239, .iconst 1, 1), (240, .iadd, 1), (241, .iaload, 1), (242, .aload_n 0, 1), (243, .iload_n 3, 1), (244, .iconst 2, 1), (245, .iadd, 1), (246, .iaload, 1), (247, .aload_n 0, 1), (248, .iload_n 3, 1), (249, .iconst 3, 1), (250, .iadd, 1), (251, .iaload, 1), (252, .aload_n 0, 1), (253, .iload_n 3, 1), (254, .iconst 4, 1), (255, .iadd, 1), (256, .iaload, 1), (257, .aload_n 0, 1), (258, .iload_n 3, 1), (259, .iconst 5, 1), (260, .iadd, 1), (261, .iaload, 1), (262, .invokevirtual 13, 3), (265, .aload_n 2, 1), (266, .aload_n 0, 1), (267, .iload_n 3, 1), (268, .iconst 1, 1), (269, .iadd, 1), (270, .iaload, 1), (271, .aload_n 0, 1), (272, .iload_n 3, 1), (273, .iconst 2, 1), (274, .iadd, 1), (275, .iaload, 1), (276, .aload_n 0, 1), (277, .iload_n 3, 1), (278, .iconst 3, 1), (279, .iadd, 1), (280, .iaload, 1), (281, .aload_n 0, 1), (282, .iload_n 3, 1), (283, .iconst 4, 1), (284, .iadd, 1), (285, .iaload, 1), (286, .aload_n 0, 1), (287, .iload_n 3, 1), (288, .iconst 5, 1), (289, .iadd, 1), (290, .iaload, 1), (291, .invokevirtual 17, 3), (294, .if_icmp .eq 1119, 3), (297, .iconst 0, 1), (298, .ireturn, 1)]
set_option maxRecDepth 100000 in
theorem dkL0 : rf_decs code ddL0 := rf_decs_of (by decide +kernel)
set_option maxHeartbeats 16000000 in
set_option maxRecDepth 100000 in
theorem lw_case0 {X : rfX} {G : rfG} {b Ln : Nat} {sc : Nat → Int32} {n sl : Nat} (C : lwC X G b Ln sc n sl) {i : Int32} (h0 : 0 ≤ i.toInt) (h1 : i.toInt + 5 < (Ln : Int)) (KK : ∀ ws', kW X n sl 1413 [(3, .int i), (2, .ref (G.2.1.1 114)), (1, .ref (G.2.1.1 70)), (0, .ref b)] [] ws') {ws : va_W} (hw : rf_world G.2.1.1 G.2.1.2.1 G.2.1.2.2.1 G.2.1.2.2.2 ws) (hfr : frOK (hv ws)) : kW X n sl 236 [(3, .int i), (2, .ref (G.2.1.1 114)), (1, .ref (G.2.1.1 70)), (0, .ref b)] [] ws := by
  have hG := C.1
  have c := C.2.2.1
  have hd : ∀ n pc i len, ddL0[n]? = some (pc, i, len) → decode code pc = .ok (i, len) := fun n pc i len h => hdk dkL0 n pc i len h
  obtain ⟨a1, ea1⟩ : ∃ a, sc (i + 1).toNatClampNeg = a := ⟨_, rfl⟩
  have r1 : -2147483648 ≤ a1.toInt ∧ a1.toInt ≤ 2147483647 := ⟨(rf_in_top a1).1, (rf_in_top a1).2.1⟩
  obtain ⟨a2, ea2⟩ : ∃ a, sc (i + 2).toNatClampNeg = a := ⟨_, rfl⟩
  have r2 : -2147483648 ≤ a2.toInt ∧ a2.toInt ≤ 2147483647 := ⟨(rf_in_top a2).1, (rf_in_top a2).2.1⟩
  obtain ⟨a3, ea3⟩ : ∃ a, sc (i + 3).toNatClampNeg = a := ⟨_, rfl⟩
  have r3 : -2147483648 ≤ a3.toInt ∧ a3.toInt ≤ 2147483647 := ⟨(rf_in_top a3).1, (rf_in_top a3).2.1⟩
  obtain ⟨a4, ea4⟩ : ∃ a, sc (i + 4).toNatClampNeg = a := ⟨_, rfl⟩
  have r4 : -2147483648 ≤ a4.toInt ∧ a4.toInt ≤ 2147483647 := ⟨(rf_in_top a4).1, (rf_in_top a4).2.1⟩
  obtain ⟨a5, ea5⟩ : ∃ a, sc (i + 5).toNatClampNeg = a := ⟨_, rfl⟩
  have r5 : -2147483648 ≤ a5.toInt ∧ a5.toInt ≤ 2147483647 := ⟨(rf_in_top a5).1, (rf_in_top a5).2.1⟩
  refine k_al c (hd 0 236 _ _ rfl) (by rfl) (k_pc 237 rfl ?_)
  refine k_al c (hd 1 237 _ _ rfl) (by rfl) (k_pc 238 rfl ?_)
  refine k_il c (hd 2 238 _ _ rfl) (by rfl) (k_pc 239 rfl ?_)
  refine k_ic c (hd 3 239 _ _ rfl) (v := 1) (by decide) (k_pc 240 rfl ?_)
  refine k_addE c (hd 4 240 _ _ rfl) (k_pc 241 rfl ?_)
  refine k_sldE C (lw_in h0 h1 C.2.2.2.2.1 (by decide)) ea1 (hd 5 241 _ _ rfl) (k_pc 242 rfl ?_)
  refine k_al c (hd 6 242 _ _ rfl) (by rfl) (k_pc 243 rfl ?_)
  refine k_il c (hd 7 243 _ _ rfl) (by rfl) (k_pc 244 rfl ?_)
  refine k_ic c (hd 8 244 _ _ rfl) (v := 2) (by decide) (k_pc 245 rfl ?_)
  refine k_addE c (hd 9 245 _ _ rfl) (k_pc 246 rfl ?_)
  refine k_sldE C (lw_in h0 h1 C.2.2.2.2.1 (by decide)) ea2 (hd 10 246 _ _ rfl) (k_pc 247 rfl ?_)
  refine k_al c (hd 11 247 _ _ rfl) (by rfl) (k_pc 248 rfl ?_)
  refine k_il c (hd 12 248 _ _ rfl) (by rfl) (k_pc 249 rfl ?_)
  refine k_ic c (hd 13 249 _ _ rfl) (v := 3) (by decide) (k_pc 250 rfl ?_)
  refine k_addE c (hd 14 250 _ _ rfl) (k_pc 251 rfl ?_)
  refine k_sldE C (lw_in h0 h1 C.2.2.2.2.1 (by decide)) ea3 (hd 15 251 _ _ rfl) (k_pc 252 rfl ?_)
  refine k_al c (hd 16 252 _ _ rfl) (by rfl) (k_pc 253 rfl ?_)
  refine k_il c (hd 17 253 _ _ rfl) (by rfl) (k_pc 254 rfl ?_)
  refine k_ic c (hd 18 254 _ _ rfl) (v := 4) (by decide) (k_pc 255 rfl ?_)
  refine k_addE c (hd 19 255 _ _ rfl) (k_pc 256 rfl ?_)
  refine k_sldE C (lw_in h0 h1 C.2.2.2.2.1 (by decide)) ea4 (hd 20 256 _ _ rfl) (k_pc 257 rfl ?_)
  refine k_al c (hd 21 257 _ _ rfl) (by rfl) (k_pc 258 rfl ?_)
  refine k_il c (hd 22 258 _ _ rfl) (by rfl) (k_pc 259 rfl ?_)
  refine k_ic c (hd 23 259 _ _ rfl) (v := 5) (by decide) (k_pc 260 rfl ?_)
  refine k_addE c (hd 24 260 _ _ rfl) (k_pc 261 rfl ?_)
  refine k_sldE C (lw_in h0 h1 C.2.2.2.2.1 (by decide)) ea5 (hd 25 261 _ _ rfl) (k_pc 262 rfl ?_)
  refine k_callC C (M := q5_M) (rf_metV_of (q5_met hG)) 20 (by decide +kernel) (by decide +kernel) (wlkV (lkL_13 hG) _ rfl rfl) (j := 70) (by decide +kernel) ⟨Nat.le_of_ble_eq_true rfl, Nat.le_of_ble_eq_true rfl⟩ (hd 26 262 _ _ rfl) [.int a1, .int a2, .int a3, .int a4, .int a5] (rest := []) (by rfl) ⟨⟨70, by decide, rfl⟩, ⟨_, rfl, rf_in_top _, trivial⟩, ⟨_, rfl, rf_in_top _, trivial⟩, ⟨_, rfl, rf_in_top _, trivial⟩, ⟨_, rfl, rf_in_top _, trivial⟩, ⟨_, rfl, rf_in_top _, trivial⟩, trivial⟩ (Nat.le_of_ble_eq_true rfl) hw (fr_pre hfr (hframe_rf [] _) (by decide +kernel)) trivial (fun x1 ws1 hw1 hf1 e1 => k_pc 265 rfl ?_)
  refine k_al c (hd 27 265 _ _ rfl) (by rfl) (k_pc 266 rfl ?_)
  refine k_al c (hd 28 266 _ _ rfl) (by rfl) (k_pc 267 rfl ?_)
  refine k_il c (hd 29 267 _ _ rfl) (by rfl) (k_pc 268 rfl ?_)
  refine k_ic c (hd 30 268 _ _ rfl) (v := 1) (by decide) (k_pc 269 rfl ?_)
  refine k_addE c (hd 31 269 _ _ rfl) (k_pc 270 rfl ?_)
  refine k_sldE C (lw_in h0 h1 C.2.2.2.2.1 (by decide)) ea1 (hd 32 270 _ _ rfl) (k_pc 271 rfl ?_)
  refine k_al c (hd 33 271 _ _ rfl) (by rfl) (k_pc 272 rfl ?_)
  refine k_il c (hd 34 272 _ _ rfl) (by rfl) (k_pc 273 rfl ?_)
  refine k_ic c (hd 35 273 _ _ rfl) (v := 2) (by decide) (k_pc 274 rfl ?_)
  refine k_addE c (hd 36 274 _ _ rfl) (k_pc 275 rfl ?_)
  refine k_sldE C (lw_in h0 h1 C.2.2.2.2.1 (by decide)) ea2 (hd 37 275 _ _ rfl) (k_pc 276 rfl ?_)
  refine k_al c (hd 38 276 _ _ rfl) (by rfl) (k_pc 277 rfl ?_)
  refine k_il c (hd 39 277 _ _ rfl) (by rfl) (k_pc 278 rfl ?_)
  refine k_ic c (hd 40 278 _ _ rfl) (v := 3) (by decide) (k_pc 279 rfl ?_)
  refine k_addE c (hd 41 279 _ _ rfl) (k_pc 280 rfl ?_)
  refine k_sldE C (lw_in h0 h1 C.2.2.2.2.1 (by decide)) ea3 (hd 42 280 _ _ rfl) (k_pc 281 rfl ?_)
  refine k_al c (hd 43 281 _ _ rfl) (by rfl) (k_pc 282 rfl ?_)
  refine k_il c (hd 44 282 _ _ rfl) (by rfl) (k_pc 283 rfl ?_)
  refine k_ic c (hd 45 283 _ _ rfl) (v := 4) (by decide) (k_pc 284 rfl ?_)
  refine k_addE c (hd 46 284 _ _ rfl) (k_pc 285 rfl ?_)
  refine k_sldE C (lw_in h0 h1 C.2.2.2.2.1 (by decide)) ea4 (hd 47 285 _ _ rfl) (k_pc 286 rfl ?_)
  refine k_al c (hd 48 286 _ _ rfl) (by rfl) (k_pc 287 rfl ?_)
  refine k_il c (hd 49 287 _ _ rfl) (by rfl) (k_pc 288 rfl ?_)
  refine k_ic c (hd 50 288 _ _ rfl) (v := 5) (by decide) (k_pc 289 rfl ?_)
  refine k_addE c (hd 51 289 _ _ rfl) (k_pc 290 rfl ?_)
  refine k_sldE C (lw_in h0 h1 C.2.2.2.2.1 (by decide)) ea5 (hd 52 290 _ _ rfl) (k_pc 291 rfl ?_)
  refine k_callC C (M := q6_M) (rf_metV_of (q6_met hG)) 20 (by decide +kernel) (by decide +kernel) (wlkV (lkL_17 hG) _ rfl rfl) (j := 114) (by decide +kernel) ⟨Nat.le_of_ble_eq_true rfl, Nat.le_of_ble_eq_true rfl⟩ (hd 53 291 _ _ rfl) [.int a1, .int a2, .int a3, .int a4, .int a5] (rest := [.int x1]) (by rfl) ⟨⟨114, by decide, rfl⟩, ⟨_, rfl, rf_in_top _, trivial⟩, ⟨_, rfl, rf_in_top _, trivial⟩, ⟨_, rfl, rf_in_top _, trivial⟩, ⟨_, rfl, rf_in_top _, trivial⟩, ⟨_, rfl, rf_in_top _, trivial⟩, trivial⟩ (Nat.le_of_ble_eq_true rfl) hw1 (fr_pre hfr hf1 (by decide +kernel)) trivial (fun x2 ws2 hw2 hf2 e2 => k_pc 294 rfl ?_)
  exact k_ceq c (hd 54 294 _ _ rfl) (tgt := 1413) (by decide) (Int32.toInt_inj.mp (e1.trans e2.symm)) (KK _)
def ddL1 : List (Nat × Instr × Nat) := [(299, .aload_n 1, 1), (300, .aload_n 0, 1), (301, .iload_n 3, 1), (302, .iconst 1, 1), (303, .iadd, 1), (304, .iaload, 1), (305, .invokevirtual 18, 3), (308, .aload_n 2, 1), (309, .aload_n 0, 1), (310, .iload_n 3, 1), (311, .iconst 1, 1), (312, .iadd, 1), (313, .iaload, 1), (314, .invokevirtual 22, 3), (317, .if_icmp .eq 1096, 3), (320, .iconst 0, 1), (321, .ireturn, 1)]
set_option maxRecDepth 100000 in
theorem dkL1 : rf_decs code ddL1 := rf_decs_of (by decide +kernel)
set_option maxHeartbeats 16000000 in
set_option maxRecDepth 100000 in
theorem lw_case1 {X : rfX} {G : rfG} {b Ln : Nat} {sc : Nat → Int32} {n sl : Nat} (C : lwC X G b Ln sc n sl) {i : Int32} (h0 : 0 ≤ i.toInt) (h1 : i.toInt + 5 < (Ln : Int)) (KK : ∀ ws', kW X n sl 1413 [(3, .int i), (2, .ref (G.2.1.1 114)), (1, .ref (G.2.1.1 70)), (0, .ref b)] [] ws') {ws : va_W} (hw : rf_world G.2.1.1 G.2.1.2.1 G.2.1.2.2.1 G.2.1.2.2.2 ws) (hfr : frOK (hv ws)) : kW X n sl 299 [(3, .int i), (2, .ref (G.2.1.1 114)), (1, .ref (G.2.1.1 70)), (0, .ref b)] [] ws := by
  have hG := C.1
  have c := C.2.2.1
  have hd : ∀ n pc i len, ddL1[n]? = some (pc, i, len) → decode code pc = .ok (i, len) := fun n pc i len h => hdk dkL1 n pc i len h
  obtain ⟨a1, ea1⟩ : ∃ a, sc (i + 1).toNatClampNeg = a := ⟨_, rfl⟩
  have r1 : -2147483648 ≤ a1.toInt ∧ a1.toInt ≤ 2147483647 := ⟨(rf_in_top a1).1, (rf_in_top a1).2.1⟩
  have hc_ : (a1.toInt ≤ (-1)) ∨ (a1.toInt = 0) ∨ (1 ≤ a1.toInt) := by omega
  rcases hc_ with hc_ | hc_ | hc_
  · skip
    refine k_al c (hd 0 299 _ _ rfl) (by rfl) (k_pc 300 rfl ?_)
    refine k_al c (hd 1 300 _ _ rfl) (by rfl) (k_pc 301 rfl ?_)
    refine k_il c (hd 2 301 _ _ rfl) (by rfl) (k_pc 302 rfl ?_)
    refine k_ic c (hd 3 302 _ _ rfl) (v := 1) (by decide) (k_pc 303 rfl ?_)
    refine k_addE c (hd 4 303 _ _ rfl) (k_pc 304 rfl ?_)
    refine k_sldE C (lw_in h0 h1 C.2.2.2.2.1 (by decide)) ea1 (hd 5 304 _ _ rfl) (k_pc 305 rfl ?_)
    refine k_callC C (M := q7_M) (rf_metV_of (q7_met hG)) (-1) (by decide +kernel) (by decide +kernel) (wlkV (lkL_18 hG) _ rfl rfl) (j := 70) (by decide +kernel) ⟨Nat.le_of_ble_eq_true rfl, Nat.le_of_ble_eq_true rfl⟩ (hd 6 305 _ _ rfl) [.int a1] (rest := []) (by rfl) ⟨⟨70, by decide, rfl⟩, ⟨_, rfl, rf_in1 (by omega) (by omega), trivial⟩, trivial⟩ (Nat.le_of_ble_eq_true rfl) hw (fr_pre hfr (hframe_rf [] _) (by decide +kernel)) trivial (fun x1 ws1 hw1 hf1 e1 => k_pc 308 rfl ?_)
    refine k_al c (hd 7 308 _ _ rfl) (by rfl) (k_pc 309 rfl ?_)
    refine k_al c (hd 8 309 _ _ rfl) (by rfl) (k_pc 310 rfl ?_)
    refine k_il c (hd 9 310 _ _ rfl) (by rfl) (k_pc 311 rfl ?_)
    refine k_ic c (hd 10 311 _ _ rfl) (v := 1) (by decide) (k_pc 312 rfl ?_)
    refine k_addE c (hd 11 312 _ _ rfl) (k_pc 313 rfl ?_)
    refine k_sldE C (lw_in h0 h1 C.2.2.2.2.1 (by decide)) ea1 (hd 12 313 _ _ rfl) (k_pc 314 rfl ?_)
    refine k_callC C (M := q8_M) (rf_metV_of (q8_met hG)) (-1) (by decide +kernel) (by decide +kernel) (wlkV (lkL_22 hG) _ rfl rfl) (j := 114) (by decide +kernel) ⟨Nat.le_of_ble_eq_true rfl, Nat.le_of_ble_eq_true rfl⟩ (hd 13 314 _ _ rfl) [.int a1] (rest := [.int x1]) (by rfl) ⟨⟨114, by decide, rfl⟩, ⟨_, rfl, rf_in1 (by omega) (by omega), trivial⟩, trivial⟩ (Nat.le_of_ble_eq_true rfl) hw1 (fr_pre hfr hf1 (by decide +kernel)) trivial (fun x2 ws2 hw2 hf2 e2 => k_pc 317 rfl ?_)
    exact k_ceq c (hd 14 317 _ _ rfl) (tgt := 1413) (by decide) (Int32.toInt_inj.mp (e1.trans e2.symm)) (KK _)
  · skip
    refine k_al c (hd 0 299 _ _ rfl) (by rfl) (k_pc 300 rfl ?_)
    refine k_al c (hd 1 300 _ _ rfl) (by rfl) (k_pc 301 rfl ?_)
    refine k_il c (hd 2 301 _ _ rfl) (by rfl) (k_pc 302 rfl ?_)
    refine k_ic c (hd 3 302 _ _ rfl) (v := 1) (by decide) (k_pc 303 rfl ?_)
    refine k_addE c (hd 4 303 _ _ rfl) (k_pc 304 rfl ?_)
    refine k_sldE C (lw_in h0 h1 C.2.2.2.2.1 (by decide)) ea1 (hd 5 304 _ _ rfl) (k_pc 305 rfl ?_)
    refine k_callC C (M := q9_M) (rf_metV_of (q9_met hG)) 0 (by decide +kernel) (by decide +kernel) (wlkV (lkL_18 hG) _ rfl rfl) (j := 70) (by decide +kernel) ⟨Nat.le_of_ble_eq_true rfl, Nat.le_of_ble_eq_true rfl⟩ (hd 6 305 _ _ rfl) [.int a1] (rest := []) (by rfl) ⟨⟨70, by decide, rfl⟩, ⟨_, rfl, hcon (by omega), trivial⟩, trivial⟩ (Nat.le_of_ble_eq_true rfl) hw (fr_pre hfr (hframe_rf [] _) (by decide +kernel)) trivial (fun x1 ws1 hw1 hf1 e1 => k_pc 308 rfl ?_)
    refine k_al c (hd 7 308 _ _ rfl) (by rfl) (k_pc 309 rfl ?_)
    refine k_al c (hd 8 309 _ _ rfl) (by rfl) (k_pc 310 rfl ?_)
    refine k_il c (hd 9 310 _ _ rfl) (by rfl) (k_pc 311 rfl ?_)
    refine k_ic c (hd 10 311 _ _ rfl) (v := 1) (by decide) (k_pc 312 rfl ?_)
    refine k_addE c (hd 11 312 _ _ rfl) (k_pc 313 rfl ?_)
    refine k_sldE C (lw_in h0 h1 C.2.2.2.2.1 (by decide)) ea1 (hd 12 313 _ _ rfl) (k_pc 314 rfl ?_)
    refine k_callC C (M := q10_M) (rf_metV_of (q10_met hG)) 0 (by decide +kernel) (by decide +kernel) (wlkV (lkL_22 hG) _ rfl rfl) (j := 114) (by decide +kernel) ⟨Nat.le_of_ble_eq_true rfl, Nat.le_of_ble_eq_true rfl⟩ (hd 13 314 _ _ rfl) [.int a1] (rest := [.int x1]) (by rfl) ⟨⟨114, by decide, rfl⟩, ⟨_, rfl, hcon (by omega), trivial⟩, trivial⟩ (Nat.le_of_ble_eq_true rfl) hw1 (fr_pre hfr hf1 (by decide +kernel)) trivial (fun x2 ws2 hw2 hf2 e2 => k_pc 317 rfl ?_)
    exact k_ceq c (hd 14 317 _ _ rfl) (tgt := 1413) (by decide) (Int32.toInt_inj.mp (e1.trans e2.symm)) (KK _)
  · skip
    refine k_al c (hd 0 299 _ _ rfl) (by rfl) (k_pc 300 rfl ?_)
    refine k_al c (hd 1 300 _ _ rfl) (by rfl) (k_pc 301 rfl ?_)
    refine k_il c (hd 2 301 _ _ rfl) (by rfl) (k_pc 302 rfl ?_)
    refine k_ic c (hd 3 302 _ _ rfl) (v := 1) (by decide) (k_pc 303 rfl ?_)
    refine k_addE c (hd 4 303 _ _ rfl) (k_pc 304 rfl ?_)
    refine k_sldE C (lw_in h0 h1 C.2.2.2.2.1 (by decide)) ea1 (hd 5 304 _ _ rfl) (k_pc 305 rfl ?_)
    refine k_callC C (M := q11_M) (rf_metV_of (q11_met hG)) (-1) (by decide +kernel) (by decide +kernel) (wlkV (lkL_18 hG) _ rfl rfl) (j := 70) (by decide +kernel) ⟨Nat.le_of_ble_eq_true rfl, Nat.le_of_ble_eq_true rfl⟩ (hd 6 305 _ _ rfl) [.int a1] (rest := []) (by rfl) ⟨⟨70, by decide, rfl⟩, ⟨_, rfl, rf_in1 (by omega) (by omega), trivial⟩, trivial⟩ (Nat.le_of_ble_eq_true rfl) hw (fr_pre hfr (hframe_rf [] _) (by decide +kernel)) trivial (fun x1 ws1 hw1 hf1 e1 => k_pc 308 rfl ?_)
    refine k_al c (hd 7 308 _ _ rfl) (by rfl) (k_pc 309 rfl ?_)
    refine k_al c (hd 8 309 _ _ rfl) (by rfl) (k_pc 310 rfl ?_)
    refine k_il c (hd 9 310 _ _ rfl) (by rfl) (k_pc 311 rfl ?_)
    refine k_ic c (hd 10 311 _ _ rfl) (v := 1) (by decide) (k_pc 312 rfl ?_)
    refine k_addE c (hd 11 312 _ _ rfl) (k_pc 313 rfl ?_)
    refine k_sldE C (lw_in h0 h1 C.2.2.2.2.1 (by decide)) ea1 (hd 12 313 _ _ rfl) (k_pc 314 rfl ?_)
    refine k_callC C (M := q12_M) (rf_metV_of (q12_met hG)) (-1) (by decide +kernel) (by decide +kernel) (wlkV (lkL_22 hG) _ rfl rfl) (j := 114) (by decide +kernel) ⟨Nat.le_of_ble_eq_true rfl, Nat.le_of_ble_eq_true rfl⟩ (hd 13 314 _ _ rfl) [.int a1] (rest := [.int x1]) (by rfl) ⟨⟨114, by decide, rfl⟩, ⟨_, rfl, rf_in1 (by omega) (by omega), trivial⟩, trivial⟩ (Nat.le_of_ble_eq_true rfl) hw1 (fr_pre hfr hf1 (by decide +kernel)) trivial (fun x2 ws2 hw2 hf2 e2 => k_pc 317 rfl ?_)
    exact k_ceq c (hd 14 317 _ _ rfl) (tgt := 1413) (by decide) (Int32.toInt_inj.mp (e1.trans e2.symm)) (KK _)
def ddL2 : List (Nat × Instr × Nat) := [(322, .aload_n 1, 1), (323, .invokevirtual 23, 3), (326, .aload_n 2, 1), (327, .invokevirtual 27, 3), (330, .if_icmp .eq 1083, 3), (333, .iconst 0, 1), (334, .ireturn, 1)]
set_option maxRecDepth 100000 in
theorem dkL2 : rf_decs code ddL2 := rf_decs_of (by decide +kernel)
set_option maxHeartbeats 16000000 in
set_option maxRecDepth 100000 in
theorem lw_case2 {X : rfX} {G : rfG} {b Ln : Nat} {sc : Nat → Int32} {n sl : Nat} (C : lwC X G b Ln sc n sl) {i : Int32} (h0 : 0 ≤ i.toInt) (h1 : i.toInt + 5 < (Ln : Int)) (KK : ∀ ws', kW X n sl 1413 [(3, .int i), (2, .ref (G.2.1.1 114)), (1, .ref (G.2.1.1 70)), (0, .ref b)] [] ws') {ws : va_W} (hw : rf_world G.2.1.1 G.2.1.2.1 G.2.1.2.2.1 G.2.1.2.2.2 ws) (hfr : frOK (hv ws)) : kW X n sl 322 [(3, .int i), (2, .ref (G.2.1.1 114)), (1, .ref (G.2.1.1 70)), (0, .ref b)] [] ws := by
  have hG := C.1
  have c := C.2.2.1
  have hd : ∀ n pc i len, ddL2[n]? = some (pc, i, len) → decode code pc = .ok (i, len) := fun n pc i len h => hdk dkL2 n pc i len h
  refine k_al c (hd 0 322 _ _ rfl) (by rfl) (k_pc 323 rfl ?_)
  refine k_callC C (M := q23_M) (rf_metV_of (q23_met hG)) 0 (by decide +kernel) (by decide +kernel) (wlkV (lkL_23 hG) _ rfl rfl) (j := 70) (by decide +kernel) ⟨Nat.le_of_ble_eq_true rfl, Nat.le_of_ble_eq_true rfl⟩ (hd 1 323 _ _ rfl) [] (rest := []) (by rfl) ⟨⟨70, by decide, rfl⟩, trivial⟩ (Nat.le_of_ble_eq_true rfl) hw (fr_pre hfr (hframe_rf [] _) (by decide +kernel)) trivial (fun x1 ws1 hw1 hf1 e1 => k_pc 326 rfl ?_)
  refine k_al c (hd 2 326 _ _ rfl) (by rfl) (k_pc 327 rfl ?_)
  refine k_callC C (M := q29_M) (rf_metV_of (q29_met hG)) 0 (by decide +kernel) (by decide +kernel) (wlkV (lkL_27 hG) _ rfl rfl) (j := 114) (by decide +kernel) ⟨Nat.le_of_ble_eq_true rfl, Nat.le_of_ble_eq_true rfl⟩ (hd 3 327 _ _ rfl) [] (rest := [.int x1]) (by rfl) ⟨⟨114, by decide, rfl⟩, trivial⟩ (Nat.le_of_ble_eq_true rfl) hw1 (fr_pre hfr hf1 (by decide +kernel)) trivial (fun x2 ws2 hw2 hf2 e2 => k_pc 330 rfl ?_)
  exact k_ceq c (hd 4 330 _ _ rfl) (tgt := 1413) (by decide) (Int32.toInt_inj.mp (e1.trans e2.symm)) (KK _)
def ddL3 : List (Nat × Instr × Nat) := [(335, .aload_n 1, 1), (336, .aload_n 0, 1), (337, .iload_n 3, 1), (338, .iconst 1, 1), (339, .iadd, 1), (340, .iaload, 1), (341, .invokevirtual 28, 3), (344, .aload_n 2, 1), (345, .aload_n 0, 1), (346, .iload_n 3, 1), (347, .iconst 1, 1), (348, .iadd, 1), (349, .iaload, 1), (350, .invokevirtual 31, 3), (353, .if_icmp .eq 1060, 3), (356, .iconst 0, 1), (357, .ireturn, 1)]
set_option maxRecDepth 100000 in
theorem dkL3 : rf_decs code ddL3 := rf_decs_of (by decide +kernel)
set_option maxHeartbeats 16000000 in
set_option maxRecDepth 100000 in
theorem lw_case3 {X : rfX} {G : rfG} {b Ln : Nat} {sc : Nat → Int32} {n sl : Nat} (C : lwC X G b Ln sc n sl) {i : Int32} (h0 : 0 ≤ i.toInt) (h1 : i.toInt + 5 < (Ln : Int)) (KK : ∀ ws', kW X n sl 1413 [(3, .int i), (2, .ref (G.2.1.1 114)), (1, .ref (G.2.1.1 70)), (0, .ref b)] [] ws') {ws : va_W} (hw : rf_world G.2.1.1 G.2.1.2.1 G.2.1.2.2.1 G.2.1.2.2.2 ws) (hfr : frOK (hv ws)) : kW X n sl 335 [(3, .int i), (2, .ref (G.2.1.1 114)), (1, .ref (G.2.1.1 70)), (0, .ref b)] [] ws := by
  have hG := C.1
  have c := C.2.2.1
  have hd : ∀ n pc i len, ddL3[n]? = some (pc, i, len) → decode code pc = .ok (i, len) := fun n pc i len h => hdk dkL3 n pc i len h
  obtain ⟨a1, ea1⟩ : ∃ a, sc (i + 1).toNatClampNeg = a := ⟨_, rfl⟩
  have r1 : -2147483648 ≤ a1.toInt ∧ a1.toInt ≤ 2147483647 := ⟨(rf_in_top a1).1, (rf_in_top a1).2.1⟩
  have hc_ : (a1.toInt ≤ (-1)) ∨ (a1.toInt = 0) ∨ (a1.toInt = 1) ∨ (2 ≤ a1.toInt) := by omega
  rcases hc_ with hc_ | hc_ | hc_ | hc_
  · skip
    refine k_al c (hd 0 335 _ _ rfl) (by rfl) (k_pc 336 rfl ?_)
    refine k_al c (hd 1 336 _ _ rfl) (by rfl) (k_pc 337 rfl ?_)
    refine k_il c (hd 2 337 _ _ rfl) (by rfl) (k_pc 338 rfl ?_)
    refine k_ic c (hd 3 338 _ _ rfl) (v := 1) (by decide) (k_pc 339 rfl ?_)
    refine k_addE c (hd 4 339 _ _ rfl) (k_pc 340 rfl ?_)
    refine k_sldE C (lw_in h0 h1 C.2.2.2.2.1 (by decide)) ea1 (hd 5 340 _ _ rfl) (k_pc 341 rfl ?_)
    refine k_callC C (M := q30_M) (rf_metV_of (q30_met hG)) (-1) (by decide +kernel) (by decide +kernel) (wlkV (lkL_28 hG) _ rfl rfl) (j := 70) (by decide +kernel) ⟨Nat.le_of_ble_eq_true rfl, Nat.le_of_ble_eq_true rfl⟩ (hd 6 341 _ _ rfl) [.int a1] (rest := []) (by rfl) ⟨⟨70, by decide, rfl⟩, ⟨_, rfl, rf_in1 (by omega) (by omega), trivial⟩, trivial⟩ (Nat.le_of_ble_eq_true rfl) hw (fr_pre hfr (hframe_rf [] _) (by decide +kernel)) trivial (fun x1 ws1 hw1 hf1 e1 => k_pc 344 rfl ?_)
    refine k_al c (hd 7 344 _ _ rfl) (by rfl) (k_pc 345 rfl ?_)
    refine k_al c (hd 8 345 _ _ rfl) (by rfl) (k_pc 346 rfl ?_)
    refine k_il c (hd 9 346 _ _ rfl) (by rfl) (k_pc 347 rfl ?_)
    refine k_ic c (hd 10 347 _ _ rfl) (v := 1) (by decide) (k_pc 348 rfl ?_)
    refine k_addE c (hd 11 348 _ _ rfl) (k_pc 349 rfl ?_)
    refine k_sldE C (lw_in h0 h1 C.2.2.2.2.1 (by decide)) ea1 (hd 12 349 _ _ rfl) (k_pc 350 rfl ?_)
    refine k_callC C (M := q31_M) (rf_metV_of (q31_met hG)) (-1) (by decide +kernel) (by decide +kernel) (wlkV (lkL_31 hG) _ rfl rfl) (j := 114) (by decide +kernel) ⟨Nat.le_of_ble_eq_true rfl, Nat.le_of_ble_eq_true rfl⟩ (hd 13 350 _ _ rfl) [.int a1] (rest := [.int x1]) (by rfl) ⟨⟨114, by decide, rfl⟩, ⟨_, rfl, rf_in1 (by omega) (by omega), trivial⟩, trivial⟩ (Nat.le_of_ble_eq_true rfl) hw1 (fr_pre hfr hf1 (by decide +kernel)) trivial (fun x2 ws2 hw2 hf2 e2 => k_pc 353 rfl ?_)
    exact k_ceq c (hd 14 353 _ _ rfl) (tgt := 1413) (by decide) (Int32.toInt_inj.mp (e1.trans e2.symm)) (KK _)
  · skip
    refine k_al c (hd 0 335 _ _ rfl) (by rfl) (k_pc 336 rfl ?_)
    refine k_al c (hd 1 336 _ _ rfl) (by rfl) (k_pc 337 rfl ?_)
    refine k_il c (hd 2 337 _ _ rfl) (by rfl) (k_pc 338 rfl ?_)
    refine k_ic c (hd 3 338 _ _ rfl) (v := 1) (by decide) (k_pc 339 rfl ?_)
    refine k_addE c (hd 4 339 _ _ rfl) (k_pc 340 rfl ?_)
    refine k_sldE C (lw_in h0 h1 C.2.2.2.2.1 (by decide)) ea1 (hd 5 340 _ _ rfl) (k_pc 341 rfl ?_)
    refine k_callC C (M := q32_M) (rf_metV_of (q32_met hG)) 0 (by decide +kernel) (by decide +kernel) (wlkV (lkL_28 hG) _ rfl rfl) (j := 70) (by decide +kernel) ⟨Nat.le_of_ble_eq_true rfl, Nat.le_of_ble_eq_true rfl⟩ (hd 6 341 _ _ rfl) [.int a1] (rest := []) (by rfl) ⟨⟨70, by decide, rfl⟩, ⟨_, rfl, hcon (by omega), trivial⟩, trivial⟩ (Nat.le_of_ble_eq_true rfl) hw (fr_pre hfr (hframe_rf [] _) (by decide +kernel)) trivial (fun x1 ws1 hw1 hf1 e1 => k_pc 344 rfl ?_)
    refine k_al c (hd 7 344 _ _ rfl) (by rfl) (k_pc 345 rfl ?_)
    refine k_al c (hd 8 345 _ _ rfl) (by rfl) (k_pc 346 rfl ?_)
    refine k_il c (hd 9 346 _ _ rfl) (by rfl) (k_pc 347 rfl ?_)
    refine k_ic c (hd 10 347 _ _ rfl) (v := 1) (by decide) (k_pc 348 rfl ?_)
    refine k_addE c (hd 11 348 _ _ rfl) (k_pc 349 rfl ?_)
    refine k_sldE C (lw_in h0 h1 C.2.2.2.2.1 (by decide)) ea1 (hd 12 349 _ _ rfl) (k_pc 350 rfl ?_)
    refine k_callC C (M := q33_M) (rf_metV_of (q33_met hG)) 0 (by decide +kernel) (by decide +kernel) (wlkV (lkL_31 hG) _ rfl rfl) (j := 114) (by decide +kernel) ⟨Nat.le_of_ble_eq_true rfl, Nat.le_of_ble_eq_true rfl⟩ (hd 13 350 _ _ rfl) [.int a1] (rest := [.int x1]) (by rfl) ⟨⟨114, by decide, rfl⟩, ⟨_, rfl, hcon (by omega), trivial⟩, trivial⟩ (Nat.le_of_ble_eq_true rfl) hw1 (fr_pre hfr hf1 (by decide +kernel)) trivial (fun x2 ws2 hw2 hf2 e2 => k_pc 353 rfl ?_)
    exact k_ceq c (hd 14 353 _ _ rfl) (tgt := 1413) (by decide) (Int32.toInt_inj.mp (e1.trans e2.symm)) (KK _)
  · skip
    refine k_al c (hd 0 335 _ _ rfl) (by rfl) (k_pc 336 rfl ?_)
    refine k_al c (hd 1 336 _ _ rfl) (by rfl) (k_pc 337 rfl ?_)
    refine k_il c (hd 2 337 _ _ rfl) (by rfl) (k_pc 338 rfl ?_)
    refine k_ic c (hd 3 338 _ _ rfl) (v := 1) (by decide) (k_pc 339 rfl ?_)
    refine k_addE c (hd 4 339 _ _ rfl) (k_pc 340 rfl ?_)
    refine k_sldE C (lw_in h0 h1 C.2.2.2.2.1 (by decide)) ea1 (hd 5 340 _ _ rfl) (k_pc 341 rfl ?_)
    refine k_callC C (M := q34_M) (rf_metV_of (q34_met hG)) (-1) (by decide +kernel) (by decide +kernel) (wlkV (lkL_28 hG) _ rfl rfl) (j := 70) (by decide +kernel) ⟨Nat.le_of_ble_eq_true rfl, Nat.le_of_ble_eq_true rfl⟩ (hd 6 341 _ _ rfl) [.int a1] (rest := []) (by rfl) ⟨⟨70, by decide, rfl⟩, ⟨_, rfl, hcon (by omega), trivial⟩, trivial⟩ (Nat.le_of_ble_eq_true rfl) hw (fr_pre hfr (hframe_rf [] _) (by decide +kernel)) trivial (fun x1 ws1 hw1 hf1 e1 => k_pc 344 rfl ?_)
    refine k_al c (hd 7 344 _ _ rfl) (by rfl) (k_pc 345 rfl ?_)
    refine k_al c (hd 8 345 _ _ rfl) (by rfl) (k_pc 346 rfl ?_)
    refine k_il c (hd 9 346 _ _ rfl) (by rfl) (k_pc 347 rfl ?_)
    refine k_ic c (hd 10 347 _ _ rfl) (v := 1) (by decide) (k_pc 348 rfl ?_)
    refine k_addE c (hd 11 348 _ _ rfl) (k_pc 349 rfl ?_)
    refine k_sldE C (lw_in h0 h1 C.2.2.2.2.1 (by decide)) ea1 (hd 12 349 _ _ rfl) (k_pc 350 rfl ?_)
    refine k_callC C (M := q35_M) (rf_metV_of (q35_met hG)) (-1) (by decide +kernel) (by decide +kernel) (wlkV (lkL_31 hG) _ rfl rfl) (j := 114) (by decide +kernel) ⟨Nat.le_of_ble_eq_true rfl, Nat.le_of_ble_eq_true rfl⟩ (hd 13 350 _ _ rfl) [.int a1] (rest := [.int x1]) (by rfl) ⟨⟨114, by decide, rfl⟩, ⟨_, rfl, hcon (by omega), trivial⟩, trivial⟩ (Nat.le_of_ble_eq_true rfl) hw1 (fr_pre hfr hf1 (by decide +kernel)) trivial (fun x2 ws2 hw2 hf2 e2 => k_pc 353 rfl ?_)
    exact k_ceq c (hd 14 353 _ _ rfl) (tgt := 1413) (by decide) (Int32.toInt_inj.mp (e1.trans e2.symm)) (KK _)
  · skip
    refine k_al c (hd 0 335 _ _ rfl) (by rfl) (k_pc 336 rfl ?_)
    refine k_al c (hd 1 336 _ _ rfl) (by rfl) (k_pc 337 rfl ?_)
    refine k_il c (hd 2 337 _ _ rfl) (by rfl) (k_pc 338 rfl ?_)
    refine k_ic c (hd 3 338 _ _ rfl) (v := 1) (by decide) (k_pc 339 rfl ?_)
    refine k_addE c (hd 4 339 _ _ rfl) (k_pc 340 rfl ?_)
    refine k_sldE C (lw_in h0 h1 C.2.2.2.2.1 (by decide)) ea1 (hd 5 340 _ _ rfl) (k_pc 341 rfl ?_)
    refine k_callC C (M := q36_M) (rf_metV_of (q36_met hG)) (-1) (by decide +kernel) (by decide +kernel) (wlkV (lkL_28 hG) _ rfl rfl) (j := 70) (by decide +kernel) ⟨Nat.le_of_ble_eq_true rfl, Nat.le_of_ble_eq_true rfl⟩ (hd 6 341 _ _ rfl) [.int a1] (rest := []) (by rfl) ⟨⟨70, by decide, rfl⟩, ⟨_, rfl, rf_in1 (by omega) (by omega), trivial⟩, trivial⟩ (Nat.le_of_ble_eq_true rfl) hw (fr_pre hfr (hframe_rf [] _) (by decide +kernel)) trivial (fun x1 ws1 hw1 hf1 e1 => k_pc 344 rfl ?_)
    refine k_al c (hd 7 344 _ _ rfl) (by rfl) (k_pc 345 rfl ?_)
    refine k_al c (hd 8 345 _ _ rfl) (by rfl) (k_pc 346 rfl ?_)
    refine k_il c (hd 9 346 _ _ rfl) (by rfl) (k_pc 347 rfl ?_)
    refine k_ic c (hd 10 347 _ _ rfl) (v := 1) (by decide) (k_pc 348 rfl ?_)
    refine k_addE c (hd 11 348 _ _ rfl) (k_pc 349 rfl ?_)
    refine k_sldE C (lw_in h0 h1 C.2.2.2.2.1 (by decide)) ea1 (hd 12 349 _ _ rfl) (k_pc 350 rfl ?_)
    refine k_callC C (M := q37_M) (rf_metV_of (q37_met hG)) (-1) (by decide +kernel) (by decide +kernel) (wlkV (lkL_31 hG) _ rfl rfl) (j := 114) (by decide +kernel) ⟨Nat.le_of_ble_eq_true rfl, Nat.le_of_ble_eq_true rfl⟩ (hd 13 350 _ _ rfl) [.int a1] (rest := [.int x1]) (by rfl) ⟨⟨114, by decide, rfl⟩, ⟨_, rfl, rf_in1 (by omega) (by omega), trivial⟩, trivial⟩ (Nat.le_of_ble_eq_true rfl) hw1 (fr_pre hfr hf1 (by decide +kernel)) trivial (fun x2 ws2 hw2 hf2 e2 => k_pc 353 rfl ?_)
    exact k_ceq c (hd 14 353 _ _ rfl) (tgt := 1413) (by decide) (Int32.toInt_inj.mp (e1.trans e2.symm)) (KK _)
def ddL4 : List (Nat × Instr × Nat) := [(358, .aload_n 1, 1), (359, .aload_n 0, 1), (360, .iload_n 3, 1), (361, .iconst 1, 1), (362, .iadd, 1), (363, .iaload, 1), (364, .aload_n 0, 1), (365, .iload_n 3, 1), (366, .iconst 2, 1), (367, .iadd, 1), (368, .iaload, 1), (369, .invokevirtual 32, 3), (372, .aload_n 2, 1), (373, .aload_n 0, 1), (374, .iload_n 3, 1), (375, .iconst 1, 1), (376, .iadd, 1), (377, .iaload, 1), (378, .aload_n 0, 1), (379, .iload_n 3, 1), (380, .iconst 2, 1), (381, .iadd, 1), (382, .iaload, 1), (383, .invokevirtual 36, 3), (386, .if_icmp .eq 1027, 3), (389, .iconst 0, 1), (390, .ireturn, 1)]
set_option maxRecDepth 100000 in
theorem dkL4 : rf_decs code ddL4 := rf_decs_of (by decide +kernel)
set_option maxHeartbeats 16000000 in
set_option maxRecDepth 100000 in
theorem lw_case4 {X : rfX} {G : rfG} {b Ln : Nat} {sc : Nat → Int32} {n sl : Nat} (C : lwC X G b Ln sc n sl) {i : Int32} (h0 : 0 ≤ i.toInt) (h1 : i.toInt + 5 < (Ln : Int)) (KK : ∀ ws', kW X n sl 1413 [(3, .int i), (2, .ref (G.2.1.1 114)), (1, .ref (G.2.1.1 70)), (0, .ref b)] [] ws') {ws : va_W} (hw : rf_world G.2.1.1 G.2.1.2.1 G.2.1.2.2.1 G.2.1.2.2.2 ws) (hfr : frOK (hv ws)) : kW X n sl 358 [(3, .int i), (2, .ref (G.2.1.1 114)), (1, .ref (G.2.1.1 70)), (0, .ref b)] [] ws := by
  have hG := C.1
  have c := C.2.2.1
  have hd : ∀ n pc i len, ddL4[n]? = some (pc, i, len) → decode code pc = .ok (i, len) := fun n pc i len h => hdk dkL4 n pc i len h
  obtain ⟨a1, ea1⟩ : ∃ a, sc (i + 1).toNatClampNeg = a := ⟨_, rfl⟩
  have r1 : -2147483648 ≤ a1.toInt ∧ a1.toInt ≤ 2147483647 := ⟨(rf_in_top a1).1, (rf_in_top a1).2.1⟩
  obtain ⟨a2, ea2⟩ : ∃ a, sc (i + 2).toNatClampNeg = a := ⟨_, rfl⟩
  have r2 : -2147483648 ≤ a2.toInt ∧ a2.toInt ≤ 2147483647 := ⟨(rf_in_top a2).1, (rf_in_top a2).2.1⟩
  refine k_al c (hd 0 358 _ _ rfl) (by rfl) (k_pc 359 rfl ?_)
  refine k_al c (hd 1 359 _ _ rfl) (by rfl) (k_pc 360 rfl ?_)
  refine k_il c (hd 2 360 _ _ rfl) (by rfl) (k_pc 361 rfl ?_)
  refine k_ic c (hd 3 361 _ _ rfl) (v := 1) (by decide) (k_pc 362 rfl ?_)
  refine k_addE c (hd 4 362 _ _ rfl) (k_pc 363 rfl ?_)
  refine k_sldE C (lw_in h0 h1 C.2.2.2.2.1 (by decide)) ea1 (hd 5 363 _ _ rfl) (k_pc 364 rfl ?_)
  refine k_al c (hd 6 364 _ _ rfl) (by rfl) (k_pc 365 rfl ?_)
  refine k_il c (hd 7 365 _ _ rfl) (by rfl) (k_pc 366 rfl ?_)
  refine k_ic c (hd 8 366 _ _ rfl) (v := 2) (by decide) (k_pc 367 rfl ?_)
  refine k_addE c (hd 9 367 _ _ rfl) (k_pc 368 rfl ?_)
  refine k_sldE C (lw_in h0 h1 C.2.2.2.2.1 (by decide)) ea2 (hd 10 368 _ _ rfl) (k_pc 369 rfl ?_)
  refine k_callC C (M := q39_M) (rf_metV_of (q39_met hG)) (-1) (by decide +kernel) (by decide +kernel) (wlkV (lkL_32 hG) _ rfl rfl) (j := 70) (by decide +kernel) ⟨Nat.le_of_ble_eq_true rfl, Nat.le_of_ble_eq_true rfl⟩ (hd 11 369 _ _ rfl) [.int a1, .int a2] (rest := []) (by rfl) ⟨⟨70, by decide, rfl⟩, ⟨_, rfl, rf_in_top _, trivial⟩, ⟨_, rfl, rf_in_top _, trivial⟩, trivial⟩ (Nat.le_of_ble_eq_true rfl) hw (fr_pre hfr (hframe_rf [] _) (by decide +kernel)) trivial (fun x1 ws1 hw1 hf1 e1 => k_pc 372 rfl ?_)
  refine k_al c (hd 12 372 _ _ rfl) (by rfl) (k_pc 373 rfl ?_)
  refine k_al c (hd 13 373 _ _ rfl) (by rfl) (k_pc 374 rfl ?_)
  refine k_il c (hd 14 374 _ _ rfl) (by rfl) (k_pc 375 rfl ?_)
  refine k_ic c (hd 15 375 _ _ rfl) (v := 1) (by decide) (k_pc 376 rfl ?_)
  refine k_addE c (hd 16 376 _ _ rfl) (k_pc 377 rfl ?_)
  refine k_sldE C (lw_in h0 h1 C.2.2.2.2.1 (by decide)) ea1 (hd 17 377 _ _ rfl) (k_pc 378 rfl ?_)
  refine k_al c (hd 18 378 _ _ rfl) (by rfl) (k_pc 379 rfl ?_)
  refine k_il c (hd 19 379 _ _ rfl) (by rfl) (k_pc 380 rfl ?_)
  refine k_ic c (hd 20 380 _ _ rfl) (v := 2) (by decide) (k_pc 381 rfl ?_)
  refine k_addE c (hd 21 381 _ _ rfl) (k_pc 382 rfl ?_)
  refine k_sldE C (lw_in h0 h1 C.2.2.2.2.1 (by decide)) ea2 (hd 22 382 _ _ rfl) (k_pc 383 rfl ?_)
  refine k_callC C (M := q42_M) (rf_metV_of (q42_met hG)) (-1) (by decide +kernel) (by decide +kernel) (wlkV (lkL_36 hG) _ rfl rfl) (j := 114) (by decide +kernel) ⟨Nat.le_of_ble_eq_true rfl, Nat.le_of_ble_eq_true rfl⟩ (hd 23 383 _ _ rfl) [.int a1, .int a2] (rest := [.int x1]) (by rfl) ⟨⟨114, by decide, rfl⟩, ⟨_, rfl, rf_in_top _, trivial⟩, ⟨_, rfl, rf_in_top _, trivial⟩, trivial⟩ (Nat.le_of_ble_eq_true rfl) hw1 (fr_pre hfr hf1 (by decide +kernel)) trivial (fun x2 ws2 hw2 hf2 e2 => k_pc 386 rfl ?_)
  exact k_ceq c (hd 24 386 _ _ rfl) (tgt := 1413) (by decide) (Int32.toInt_inj.mp (e1.trans e2.symm)) (KK _)
def ddL5 : List (Nat × Instr × Nat) := [(391, .aload_n 1, 1), (392, .aload_n 0, 1), (393, .iload_n 3, 1), (394, .iconst 1, 1), (395, .iadd, 1), (396, .iaload, 1), (397, .aload_n 0, 1), (398, .iload_n 3, 1), (399, .iconst 2, 1), (400, .iadd, 1), (401, .iaload, 1), (402, .invokevirtual 37, 3), (405, .aload_n 2, 1), (406, .aload_n 0, 1), (407, .iload_n 3, 1), (408, .iconst 1, 1), (409, .iadd, 1), (410, .iaload, 1), (411, .aload_n 0, 1), (412, .iload_n 3, 1), (413, .iconst 2, 1), (414, .iadd, 1), (415, .iaload, 1), (416, .invokevirtual 40, 3), (419, .if_icmp .eq 994, 3), (422, .iconst 0, 1), (423, .ireturn, 1)]
set_option maxRecDepth 100000 in
theorem dkL5 : rf_decs code ddL5 := rf_decs_of (by decide +kernel)
set_option maxHeartbeats 16000000 in
set_option maxRecDepth 100000 in
theorem lw_case5 {X : rfX} {G : rfG} {b Ln : Nat} {sc : Nat → Int32} {n sl : Nat} (C : lwC X G b Ln sc n sl) {i : Int32} (h0 : 0 ≤ i.toInt) (h1 : i.toInt + 5 < (Ln : Int)) (KK : ∀ ws', kW X n sl 1413 [(3, .int i), (2, .ref (G.2.1.1 114)), (1, .ref (G.2.1.1 70)), (0, .ref b)] [] ws') {ws : va_W} (hw : rf_world G.2.1.1 G.2.1.2.1 G.2.1.2.2.1 G.2.1.2.2.2 ws) (hfr : frOK (hv ws)) : kW X n sl 391 [(3, .int i), (2, .ref (G.2.1.1 114)), (1, .ref (G.2.1.1 70)), (0, .ref b)] [] ws := by
  have hG := C.1
  have c := C.2.2.1
  have hd : ∀ n pc i len, ddL5[n]? = some (pc, i, len) → decode code pc = .ok (i, len) := fun n pc i len h => hdk dkL5 n pc i len h
  obtain ⟨a1, ea1⟩ : ∃ a, sc (i + 1).toNatClampNeg = a := ⟨_, rfl⟩
  have r1 : -2147483648 ≤ a1.toInt ∧ a1.toInt ≤ 2147483647 := ⟨(rf_in_top a1).1, (rf_in_top a1).2.1⟩
  obtain ⟨a2, ea2⟩ : ∃ a, sc (i + 2).toNatClampNeg = a := ⟨_, rfl⟩
  have r2 : -2147483648 ≤ a2.toInt ∧ a2.toInt ≤ 2147483647 := ⟨(rf_in_top a2).1, (rf_in_top a2).2.1⟩
  by_cases hcb : cbI a1.toInt
  · have ra_ : 0 ≤ a1.toInt ∧ a1.toInt ≤ 387420488 := ⟨hcb.1, hcb.2.1⟩
    have hc_ : (0 ≤ a2.toInt ∧ a2.toInt ≤ 999) ∨ (a2.toInt ≤ (-1)) ∨ (1000 ≤ a2.toInt) := by omega
    rcases hc_ with hc_ | hc_ | hc_
    · skip
      refine k_al c (hd 0 391 _ _ rfl) (by rfl) (k_pc 392 rfl ?_)
      refine k_al c (hd 1 392 _ _ rfl) (by rfl) (k_pc 393 rfl ?_)
      refine k_il c (hd 2 393 _ _ rfl) (by rfl) (k_pc 394 rfl ?_)
      refine k_ic c (hd 3 394 _ _ rfl) (v := 1) (by decide) (k_pc 395 rfl ?_)
      refine k_addE c (hd 4 395 _ _ rfl) (k_pc 396 rfl ?_)
      refine k_sldE C (lw_in h0 h1 C.2.2.2.2.1 (by decide)) ea1 (hd 5 396 _ _ rfl) (k_pc 397 rfl ?_)
      refine k_al c (hd 6 397 _ _ rfl) (by rfl) (k_pc 398 rfl ?_)
      refine k_il c (hd 7 398 _ _ rfl) (by rfl) (k_pc 399 rfl ?_)
      refine k_ic c (hd 8 399 _ _ rfl) (v := 2) (by decide) (k_pc 400 rfl ?_)
      refine k_addE c (hd 9 400 _ _ rfl) (k_pc 401 rfl ?_)
      refine k_sldE C (lw_in h0 h1 C.2.2.2.2.1 (by decide)) ea2 (hd 10 401 _ _ rfl) (k_pc 402 rfl ?_)
      refine k_callC C (M := q51_M) (q51_met hG) 0 (by decide +kernel) (by decide +kernel) (wlkV (lkL_37 hG) _ rfl rfl) (j := 70) (by decide +kernel) ⟨Nat.le_of_ble_eq_true rfl, Nat.le_of_ble_eq_true rfl⟩ (hd 11 402 _ _ rfl) [.int a1, .int a2] (rest := []) (by rfl) ⟨⟨70, by decide, rfl⟩, ⟨_, rfl, rf_in1 (by omega) (by omega), trivial⟩, ⟨_, rfl, rf_in1 (by omega) (by omega), trivial⟩, trivial⟩ (Nat.le_of_ble_eq_true rfl) hw (fr_pre hfr (hframe_rf [] _) (by decide +kernel)) ⟨_, rfl, ⟨fun _ => rfl, fun _ => hcb⟩⟩ (fun x1 ws1 hw1 hf1 e1 => k_pc 405 rfl ?_)
      refine k_al c (hd 12 405 _ _ rfl) (by rfl) (k_pc 406 rfl ?_)
      refine k_al c (hd 13 406 _ _ rfl) (by rfl) (k_pc 407 rfl ?_)
      refine k_il c (hd 14 407 _ _ rfl) (by rfl) (k_pc 408 rfl ?_)
      refine k_ic c (hd 15 408 _ _ rfl) (v := 1) (by decide) (k_pc 409 rfl ?_)
      refine k_addE c (hd 16 409 _ _ rfl) (k_pc 410 rfl ?_)
      refine k_sldE C (lw_in h0 h1 C.2.2.2.2.1 (by decide)) ea1 (hd 17 410 _ _ rfl) (k_pc 411 rfl ?_)
      refine k_al c (hd 18 411 _ _ rfl) (by rfl) (k_pc 412 rfl ?_)
      refine k_il c (hd 19 412 _ _ rfl) (by rfl) (k_pc 413 rfl ?_)
      refine k_ic c (hd 20 413 _ _ rfl) (v := 2) (by decide) (k_pc 414 rfl ?_)
      refine k_addE c (hd 21 414 _ _ rfl) (k_pc 415 rfl ?_)
      refine k_sldE C (lw_in h0 h1 C.2.2.2.2.1 (by decide)) ea2 (hd 22 415 _ _ rfl) (k_pc 416 rfl ?_)
      refine k_callC C (M := q71_M) (q71_met hG) 0 (by decide +kernel) (by decide +kernel) (wlkV (lkL_40 hG) _ rfl rfl) (j := 114) (by decide +kernel) ⟨Nat.le_of_ble_eq_true rfl, Nat.le_of_ble_eq_true rfl⟩ (hd 23 416 _ _ rfl) [.int a1, .int a2] (rest := [.int x1]) (by rfl) ⟨⟨114, by decide, rfl⟩, ⟨_, rfl, rf_in1 (by omega) (by omega), trivial⟩, ⟨_, rfl, rf_in1 (by omega) (by omega), trivial⟩, trivial⟩ (Nat.le_of_ble_eq_true rfl) hw1 (fr_pre hfr hf1 (by decide +kernel)) ⟨_, rfl, ⟨fun _ => rfl, fun _ => hcb⟩⟩ (fun x2 ws2 hw2 hf2 e2 => k_pc 419 rfl ?_)
      exact k_ceq c (hd 24 419 _ _ rfl) (tgt := 1413) (by decide) (Int32.toInt_inj.mp (e1.trans e2.symm)) (KK _)
    · skip
      refine k_al c (hd 0 391 _ _ rfl) (by rfl) (k_pc 392 rfl ?_)
      refine k_al c (hd 1 392 _ _ rfl) (by rfl) (k_pc 393 rfl ?_)
      refine k_il c (hd 2 393 _ _ rfl) (by rfl) (k_pc 394 rfl ?_)
      refine k_ic c (hd 3 394 _ _ rfl) (v := 1) (by decide) (k_pc 395 rfl ?_)
      refine k_addE c (hd 4 395 _ _ rfl) (k_pc 396 rfl ?_)
      refine k_sldE C (lw_in h0 h1 C.2.2.2.2.1 (by decide)) ea1 (hd 5 396 _ _ rfl) (k_pc 397 rfl ?_)
      refine k_al c (hd 6 397 _ _ rfl) (by rfl) (k_pc 398 rfl ?_)
      refine k_il c (hd 7 398 _ _ rfl) (by rfl) (k_pc 399 rfl ?_)
      refine k_ic c (hd 8 399 _ _ rfl) (v := 2) (by decide) (k_pc 400 rfl ?_)
      refine k_addE c (hd 9 400 _ _ rfl) (k_pc 401 rfl ?_)
      refine k_sldE C (lw_in h0 h1 C.2.2.2.2.1 (by decide)) ea2 (hd 10 401 _ _ rfl) (k_pc 402 rfl ?_)
      refine k_callC C (M := q73_M) (rf_metV_of (q73_met hG)) (-1) (by decide +kernel) (by decide +kernel) (wlkV (lkL_37 hG) _ rfl rfl) (j := 70) (by decide +kernel) ⟨Nat.le_of_ble_eq_true rfl, Nat.le_of_ble_eq_true rfl⟩ (hd 11 402 _ _ rfl) [.int a1, .int a2] (rest := []) (by rfl) ⟨⟨70, by decide, rfl⟩, ⟨_, rfl, rf_in_top _, trivial⟩, ⟨_, rfl, rf_in1 (by omega) (by omega), trivial⟩, trivial⟩ (Nat.le_of_ble_eq_true rfl) hw (fr_pre hfr (hframe_rf [] _) (by decide +kernel)) trivial (fun x1 ws1 hw1 hf1 e1 => k_pc 405 rfl ?_)
      refine k_al c (hd 12 405 _ _ rfl) (by rfl) (k_pc 406 rfl ?_)
      refine k_al c (hd 13 406 _ _ rfl) (by rfl) (k_pc 407 rfl ?_)
      refine k_il c (hd 14 407 _ _ rfl) (by rfl) (k_pc 408 rfl ?_)
      refine k_ic c (hd 15 408 _ _ rfl) (v := 1) (by decide) (k_pc 409 rfl ?_)
      refine k_addE c (hd 16 409 _ _ rfl) (k_pc 410 rfl ?_)
      refine k_sldE C (lw_in h0 h1 C.2.2.2.2.1 (by decide)) ea1 (hd 17 410 _ _ rfl) (k_pc 411 rfl ?_)
      refine k_al c (hd 18 411 _ _ rfl) (by rfl) (k_pc 412 rfl ?_)
      refine k_il c (hd 19 412 _ _ rfl) (by rfl) (k_pc 413 rfl ?_)
      refine k_ic c (hd 20 413 _ _ rfl) (v := 2) (by decide) (k_pc 414 rfl ?_)
      refine k_addE c (hd 21 414 _ _ rfl) (k_pc 415 rfl ?_)
      refine k_sldE C (lw_in h0 h1 C.2.2.2.2.1 (by decide)) ea2 (hd 22 415 _ _ rfl) (k_pc 416 rfl ?_)
      refine k_callC C (M := q77_M) (rf_metV_of (q77_met hG)) (-1) (by decide +kernel) (by decide +kernel) (wlkV (lkL_40 hG) _ rfl rfl) (j := 114) (by decide +kernel) ⟨Nat.le_of_ble_eq_true rfl, Nat.le_of_ble_eq_true rfl⟩ (hd 23 416 _ _ rfl) [.int a1, .int a2] (rest := [.int x1]) (by rfl) ⟨⟨114, by decide, rfl⟩, ⟨_, rfl, rf_in_top _, trivial⟩, ⟨_, rfl, rf_in1 (by omega) (by omega), trivial⟩, trivial⟩ (Nat.le_of_ble_eq_true rfl) hw1 (fr_pre hfr hf1 (by decide +kernel)) trivial (fun x2 ws2 hw2 hf2 e2 => k_pc 419 rfl ?_)
      exact k_ceq c (hd 24 419 _ _ rfl) (tgt := 1413) (by decide) (Int32.toInt_inj.mp (e1.trans e2.symm)) (KK _)
    · skip
      refine k_al c (hd 0 391 _ _ rfl) (by rfl) (k_pc 392 rfl ?_)
      refine k_al c (hd 1 392 _ _ rfl) (by rfl) (k_pc 393 rfl ?_)
      refine k_il c (hd 2 393 _ _ rfl) (by rfl) (k_pc 394 rfl ?_)
      refine k_ic c (hd 3 394 _ _ rfl) (v := 1) (by decide) (k_pc 395 rfl ?_)
      refine k_addE c (hd 4 395 _ _ rfl) (k_pc 396 rfl ?_)
      refine k_sldE C (lw_in h0 h1 C.2.2.2.2.1 (by decide)) ea1 (hd 5 396 _ _ rfl) (k_pc 397 rfl ?_)
      refine k_al c (hd 6 397 _ _ rfl) (by rfl) (k_pc 398 rfl ?_)
      refine k_il c (hd 7 398 _ _ rfl) (by rfl) (k_pc 399 rfl ?_)
      refine k_ic c (hd 8 399 _ _ rfl) (v := 2) (by decide) (k_pc 400 rfl ?_)
      refine k_addE c (hd 9 400 _ _ rfl) (k_pc 401 rfl ?_)
      refine k_sldE C (lw_in h0 h1 C.2.2.2.2.1 (by decide)) ea2 (hd 10 401 _ _ rfl) (k_pc 402 rfl ?_)
      refine k_callC C (M := q78_M) (rf_metV_of (q78_met hG)) (-1) (by decide +kernel) (by decide +kernel) (wlkV (lkL_37 hG) _ rfl rfl) (j := 70) (by decide +kernel) ⟨Nat.le_of_ble_eq_true rfl, Nat.le_of_ble_eq_true rfl⟩ (hd 11 402 _ _ rfl) [.int a1, .int a2] (rest := []) (by rfl) ⟨⟨70, by decide, rfl⟩, ⟨_, rfl, rf_in_top _, trivial⟩, ⟨_, rfl, rf_in1 (by omega) (by omega), trivial⟩, trivial⟩ (Nat.le_of_ble_eq_true rfl) hw (fr_pre hfr (hframe_rf [] _) (by decide +kernel)) trivial (fun x1 ws1 hw1 hf1 e1 => k_pc 405 rfl ?_)
      refine k_al c (hd 12 405 _ _ rfl) (by rfl) (k_pc 406 rfl ?_)
      refine k_al c (hd 13 406 _ _ rfl) (by rfl) (k_pc 407 rfl ?_)
      refine k_il c (hd 14 407 _ _ rfl) (by rfl) (k_pc 408 rfl ?_)
      refine k_ic c (hd 15 408 _ _ rfl) (v := 1) (by decide) (k_pc 409 rfl ?_)
      refine k_addE c (hd 16 409 _ _ rfl) (k_pc 410 rfl ?_)
      refine k_sldE C (lw_in h0 h1 C.2.2.2.2.1 (by decide)) ea1 (hd 17 410 _ _ rfl) (k_pc 411 rfl ?_)
      refine k_al c (hd 18 411 _ _ rfl) (by rfl) (k_pc 412 rfl ?_)
      refine k_il c (hd 19 412 _ _ rfl) (by rfl) (k_pc 413 rfl ?_)
      refine k_ic c (hd 20 413 _ _ rfl) (v := 2) (by decide) (k_pc 414 rfl ?_)
      refine k_addE c (hd 21 414 _ _ rfl) (k_pc 415 rfl ?_)
      refine k_sldE C (lw_in h0 h1 C.2.2.2.2.1 (by decide)) ea2 (hd 22 415 _ _ rfl) (k_pc 416 rfl ?_)
      refine k_callC C (M := q80_M) (rf_metV_of (q80_met hG)) (-1) (by decide +kernel) (by decide +kernel) (wlkV (lkL_40 hG) _ rfl rfl) (j := 114) (by decide +kernel) ⟨Nat.le_of_ble_eq_true rfl, Nat.le_of_ble_eq_true rfl⟩ (hd 23 416 _ _ rfl) [.int a1, .int a2] (rest := [.int x1]) (by rfl) ⟨⟨114, by decide, rfl⟩, ⟨_, rfl, rf_in_top _, trivial⟩, ⟨_, rfl, rf_in1 (by omega) (by omega), trivial⟩, trivial⟩ (Nat.le_of_ble_eq_true rfl) hw1 (fr_pre hfr hf1 (by decide +kernel)) trivial (fun x2 ws2 hw2 hf2 e2 => k_pc 419 rfl ?_)
      exact k_ceq c (hd 24 419 _ _ rfl) (tgt := 1413) (by decide) (Int32.toInt_inj.mp (e1.trans e2.symm)) (KK _)
  · skip
    refine k_al c (hd 0 391 _ _ rfl) (by rfl) (k_pc 392 rfl ?_)
    refine k_al c (hd 1 392 _ _ rfl) (by rfl) (k_pc 393 rfl ?_)
    refine k_il c (hd 2 393 _ _ rfl) (by rfl) (k_pc 394 rfl ?_)
    refine k_ic c (hd 3 394 _ _ rfl) (v := 1) (by decide) (k_pc 395 rfl ?_)
    refine k_addE c (hd 4 395 _ _ rfl) (k_pc 396 rfl ?_)
    refine k_sldE C (lw_in h0 h1 C.2.2.2.2.1 (by decide)) ea1 (hd 5 396 _ _ rfl) (k_pc 397 rfl ?_)
    refine k_al c (hd 6 397 _ _ rfl) (by rfl) (k_pc 398 rfl ?_)
    refine k_il c (hd 7 398 _ _ rfl) (by rfl) (k_pc 399 rfl ?_)
    refine k_ic c (hd 8 399 _ _ rfl) (v := 2) (by decide) (k_pc 400 rfl ?_)
    refine k_addE c (hd 9 400 _ _ rfl) (k_pc 401 rfl ?_)
    refine k_sldE C (lw_in h0 h1 C.2.2.2.2.1 (by decide)) ea2 (hd 10 401 _ _ rfl) (k_pc 402 rfl ?_)
    refine k_callC C (M := q43_M) (q43_met hG) (-1) (by decide +kernel) (by decide +kernel) (wlkV (lkL_37 hG) _ rfl rfl) (j := 70) (by decide +kernel) ⟨Nat.le_of_ble_eq_true rfl, Nat.le_of_ble_eq_true rfl⟩ (hd 11 402 _ _ rfl) [.int a1, .int a2] (rest := []) (by rfl) ⟨⟨70, by decide, rfl⟩, ⟨_, rfl, rf_in_top _, trivial⟩, ⟨_, rfl, rf_in_top _, trivial⟩, trivial⟩ (Nat.le_of_ble_eq_true rfl) hw (fr_pre hfr (hframe_rf [] _) (by decide +kernel)) ⟨_, rfl, ⟨fun h => absurd h hcb, fun h => absurd h (by decide)⟩⟩ (fun x1 ws1 hw1 hf1 e1 => k_pc 405 rfl ?_)
    refine k_al c (hd 12 405 _ _ rfl) (by rfl) (k_pc 406 rfl ?_)
    refine k_al c (hd 13 406 _ _ rfl) (by rfl) (k_pc 407 rfl ?_)
    refine k_il c (hd 14 407 _ _ rfl) (by rfl) (k_pc 408 rfl ?_)
    refine k_ic c (hd 15 408 _ _ rfl) (v := 1) (by decide) (k_pc 409 rfl ?_)
    refine k_addE c (hd 16 409 _ _ rfl) (k_pc 410 rfl ?_)
    refine k_sldE C (lw_in h0 h1 C.2.2.2.2.1 (by decide)) ea1 (hd 17 410 _ _ rfl) (k_pc 411 rfl ?_)
    refine k_al c (hd 18 411 _ _ rfl) (by rfl) (k_pc 412 rfl ?_)
    refine k_il c (hd 19 412 _ _ rfl) (by rfl) (k_pc 413 rfl ?_)
    refine k_ic c (hd 20 413 _ _ rfl) (v := 2) (by decide) (k_pc 414 rfl ?_)
    refine k_addE c (hd 21 414 _ _ rfl) (k_pc 415 rfl ?_)
    refine k_sldE C (lw_in h0 h1 C.2.2.2.2.1 (by decide)) ea2 (hd 22 415 _ _ rfl) (k_pc 416 rfl ?_)
    refine k_callC C (M := q44_M) (q44_met hG) (-1) (by decide +kernel) (by decide +kernel) (wlkV (lkL_40 hG) _ rfl rfl) (j := 114) (by decide +kernel) ⟨Nat.le_of_ble_eq_true rfl, Nat.le_of_ble_eq_true rfl⟩ (hd 23 416 _ _ rfl) [.int a1, .int a2] (rest := [.int x1]) (by rfl) ⟨⟨114, by decide, rfl⟩, ⟨_, rfl, rf_in_top _, trivial⟩, ⟨_, rfl, rf_in_top _, trivial⟩, trivial⟩ (Nat.le_of_ble_eq_true rfl) hw1 (fr_pre hfr hf1 (by decide +kernel)) ⟨_, rfl, ⟨fun h => absurd h hcb, fun h => absurd h (by decide)⟩⟩ (fun x2 ws2 hw2 hf2 e2 => k_pc 419 rfl ?_)
    exact k_ceq c (hd 24 419 _ _ rfl) (tgt := 1413) (by decide) (Int32.toInt_inj.mp (e1.trans e2.symm)) (KK _)
def ddL6 : List (Nat × Instr × Nat) := [(424, .aload_n 1, 1), (425, .aload_n 0, 1), (426, .iload_n 3, 1), (427, .iconst 1, 1), (428, .iadd, 1), (429, .iaload, 1), (430, .invokevirtual 41, 3), (433, .aload_n 2, 1), (434, .aload_n 0, 1), (435, .iload_n 3, 1), (436, .iconst 1, 1), (437, .iadd, 1), (438, .iaload, 1), (439, .invokevirtual 44, 3), (442, .if_icmp .eq 971, 3), (445, .iconst 0, 1), (446, .ireturn, 1)]
set_option maxRecDepth 100000 in
theorem dkL6 : rf_decs code ddL6 := rf_decs_of (by decide +kernel)
set_option maxHeartbeats 16000000 in
set_option maxRecDepth 100000 in
theorem lw_case6 {X : rfX} {G : rfG} {b Ln : Nat} {sc : Nat → Int32} {n sl : Nat} (C : lwC X G b Ln sc n sl) {i : Int32} (h0 : 0 ≤ i.toInt) (h1 : i.toInt + 5 < (Ln : Int)) (KK : ∀ ws', kW X n sl 1413 [(3, .int i), (2, .ref (G.2.1.1 114)), (1, .ref (G.2.1.1 70)), (0, .ref b)] [] ws') {ws : va_W} (hw : rf_world G.2.1.1 G.2.1.2.1 G.2.1.2.2.1 G.2.1.2.2.2 ws) (hfr : frOK (hv ws)) : kW X n sl 424 [(3, .int i), (2, .ref (G.2.1.1 114)), (1, .ref (G.2.1.1 70)), (0, .ref b)] [] ws := by
  have hG := C.1
  have c := C.2.2.1
  have hd : ∀ n pc i len, ddL6[n]? = some (pc, i, len) → decode code pc = .ok (i, len) := fun n pc i len h => hdk dkL6 n pc i len h
  obtain ⟨a1, ea1⟩ : ∃ a, sc (i + 1).toNatClampNeg = a := ⟨_, rfl⟩
  have r1 : -2147483648 ≤ a1.toInt ∧ a1.toInt ≤ 2147483647 := ⟨(rf_in_top a1).1, (rf_in_top a1).2.1⟩
  refine k_al c (hd 0 424 _ _ rfl) (by rfl) (k_pc 425 rfl ?_)
  refine k_al c (hd 1 425 _ _ rfl) (by rfl) (k_pc 426 rfl ?_)
  refine k_il c (hd 2 426 _ _ rfl) (by rfl) (k_pc 427 rfl ?_)
  refine k_ic c (hd 3 427 _ _ rfl) (v := 1) (by decide) (k_pc 428 rfl ?_)
  refine k_addE c (hd 4 428 _ _ rfl) (k_pc 429 rfl ?_)
  refine k_sldE C (lw_in h0 h1 C.2.2.2.2.1 (by decide)) ea1 (hd 5 429 _ _ rfl) (k_pc 430 rfl ?_)
  refine k_callC C (M := q81_M) (rf_metV_of (q81_met hG)) (-1) (by decide +kernel) (by decide +kernel) (wlkV (lkL_41 hG) _ rfl rfl) (j := 70) (by decide +kernel) ⟨Nat.le_of_ble_eq_true rfl, Nat.le_of_ble_eq_true rfl⟩ (hd 6 430 _ _ rfl) [.int a1] (rest := []) (by rfl) ⟨⟨70, by decide, rfl⟩, ⟨_, rfl, rf_in_top _, trivial⟩, trivial⟩ (Nat.le_of_ble_eq_true rfl) hw (fr_pre hfr (hframe_rf [] _) (by decide +kernel)) trivial (fun x1 ws1 hw1 hf1 e1 => k_pc 433 rfl ?_)
  refine k_al c (hd 7 433 _ _ rfl) (by rfl) (k_pc 434 rfl ?_)
  refine k_al c (hd 8 434 _ _ rfl) (by rfl) (k_pc 435 rfl ?_)
  refine k_il c (hd 9 435 _ _ rfl) (by rfl) (k_pc 436 rfl ?_)
  refine k_ic c (hd 10 436 _ _ rfl) (v := 1) (by decide) (k_pc 437 rfl ?_)
  refine k_addE c (hd 11 437 _ _ rfl) (k_pc 438 rfl ?_)
  refine k_sldE C (lw_in h0 h1 C.2.2.2.2.1 (by decide)) ea1 (hd 12 438 _ _ rfl) (k_pc 439 rfl ?_)
  refine k_callC C (M := q82_M) (rf_metV_of (q82_met hG)) (-1) (by decide +kernel) (by decide +kernel) (wlkV (lkL_44 hG) _ rfl rfl) (j := 114) (by decide +kernel) ⟨Nat.le_of_ble_eq_true rfl, Nat.le_of_ble_eq_true rfl⟩ (hd 13 439 _ _ rfl) [.int a1] (rest := [.int x1]) (by rfl) ⟨⟨114, by decide, rfl⟩, ⟨_, rfl, rf_in_top _, trivial⟩, trivial⟩ (Nat.le_of_ble_eq_true rfl) hw1 (fr_pre hfr hf1 (by decide +kernel)) trivial (fun x2 ws2 hw2 hf2 e2 => k_pc 442 rfl ?_)
  exact k_ceq c (hd 14 442 _ _ rfl) (tgt := 1413) (by decide) (Int32.toInt_inj.mp (e1.trans e2.symm)) (KK _)
def ddL7 : List (Nat × Instr × Nat) := [(447, .aload_n 1, 1), (448, .aload_n 0, 1), (449, .iload_n 3, 1), (450, .iconst 1, 1), (451, .iadd, 1), (452, .iaload, 1), (453, .invokevirtual 45, 3), (456, .aload_n 2, 1), (457, .aload_n 0, 1), (458, .iload_n 3, 1), (459, .iconst 1, 1), (460, .iadd, 1), (461, .iaload, 1), (462, .invokevirtual 48, 3), (465, .if_icmp .eq 948, 3), (468, .iconst 0, 1), (469, .ireturn, 1)]
set_option maxRecDepth 100000 in
theorem dkL7 : rf_decs code ddL7 := rf_decs_of (by decide +kernel)
set_option maxHeartbeats 16000000 in
set_option maxRecDepth 100000 in
theorem lw_case7 {X : rfX} {G : rfG} {b Ln : Nat} {sc : Nat → Int32} {n sl : Nat} (C : lwC X G b Ln sc n sl) {i : Int32} (h0 : 0 ≤ i.toInt) (h1 : i.toInt + 5 < (Ln : Int)) (KK : ∀ ws', kW X n sl 1413 [(3, .int i), (2, .ref (G.2.1.1 114)), (1, .ref (G.2.1.1 70)), (0, .ref b)] [] ws') {ws : va_W} (hw : rf_world G.2.1.1 G.2.1.2.1 G.2.1.2.2.1 G.2.1.2.2.2 ws) (hfr : frOK (hv ws)) : kW X n sl 447 [(3, .int i), (2, .ref (G.2.1.1 114)), (1, .ref (G.2.1.1 70)), (0, .ref b)] [] ws := by
  have hG := C.1
  have c := C.2.2.1
  have hd : ∀ n pc i len, ddL7[n]? = some (pc, i, len) → decode code pc = .ok (i, len) := fun n pc i len h => hdk dkL7 n pc i len h
  obtain ⟨a1, ea1⟩ : ∃ a, sc (i + 1).toNatClampNeg = a := ⟨_, rfl⟩
  have r1 : -2147483648 ≤ a1.toInt ∧ a1.toInt ≤ 2147483647 := ⟨(rf_in_top a1).1, (rf_in_top a1).2.1⟩
  refine k_al c (hd 0 447 _ _ rfl) (by rfl) (k_pc 448 rfl ?_)
  refine k_al c (hd 1 448 _ _ rfl) (by rfl) (k_pc 449 rfl ?_)
  refine k_il c (hd 2 449 _ _ rfl) (by rfl) (k_pc 450 rfl ?_)
  refine k_ic c (hd 3 450 _ _ rfl) (v := 1) (by decide) (k_pc 451 rfl ?_)
  refine k_addE c (hd 4 451 _ _ rfl) (k_pc 452 rfl ?_)
  refine k_sldE C (lw_in h0 h1 C.2.2.2.2.1 (by decide)) ea1 (hd 5 452 _ _ rfl) (k_pc 453 rfl ?_)
  refine k_callC C (M := q83_M) (rf_metV_of (q83_met hG)) (-1) (by decide +kernel) (by decide +kernel) (wlkV (lkL_45 hG) _ rfl rfl) (j := 70) (by decide +kernel) ⟨Nat.le_of_ble_eq_true rfl, Nat.le_of_ble_eq_true rfl⟩ (hd 6 453 _ _ rfl) [.int a1] (rest := []) (by rfl) ⟨⟨70, by decide, rfl⟩, ⟨_, rfl, rf_in_top _, trivial⟩, trivial⟩ (Nat.le_of_ble_eq_true rfl) hw (fr_pre hfr (hframe_rf [] _) (by decide +kernel)) trivial (fun x1 ws1 hw1 hf1 e1 => k_pc 456 rfl ?_)
  refine k_al c (hd 7 456 _ _ rfl) (by rfl) (k_pc 457 rfl ?_)
  refine k_al c (hd 8 457 _ _ rfl) (by rfl) (k_pc 458 rfl ?_)
  refine k_il c (hd 9 458 _ _ rfl) (by rfl) (k_pc 459 rfl ?_)
  refine k_ic c (hd 10 459 _ _ rfl) (v := 1) (by decide) (k_pc 460 rfl ?_)
  refine k_addE c (hd 11 460 _ _ rfl) (k_pc 461 rfl ?_)
  refine k_sldE C (lw_in h0 h1 C.2.2.2.2.1 (by decide)) ea1 (hd 12 461 _ _ rfl) (k_pc 462 rfl ?_)
  refine k_callC C (M := q84_M) (rf_metV_of (q84_met hG)) (-1) (by decide +kernel) (by decide +kernel) (wlkV (lkL_48 hG) _ rfl rfl) (j := 114) (by decide +kernel) ⟨Nat.le_of_ble_eq_true rfl, Nat.le_of_ble_eq_true rfl⟩ (hd 13 462 _ _ rfl) [.int a1] (rest := [.int x1]) (by rfl) ⟨⟨114, by decide, rfl⟩, ⟨_, rfl, rf_in_top _, trivial⟩, trivial⟩ (Nat.le_of_ble_eq_true rfl) hw1 (fr_pre hfr hf1 (by decide +kernel)) trivial (fun x2 ws2 hw2 hf2 e2 => k_pc 465 rfl ?_)
  exact k_ceq c (hd 14 465 _ _ rfl) (tgt := 1413) (by decide) (Int32.toInt_inj.mp (e1.trans e2.symm)) (KK _)
def ddL8 : List (Nat × Instr × Nat) := [(470, .aload_n 1, 1), (471, .aload_n 0, 1), (472, .iload_n 3, 1), (473, .iconst 1, 1), (474, .iadd, 1), (475, .iaload, 1), (476, .invokevirtual 49, 3), (479, .aload_n 2, 1), (480, .aload_n 0, 1), (481, .iload_n 3, 1), (482, .iconst 1, 1), (483, .iadd, 1), (484, .iaload, 1), (485, .invokevirtual 52, 3), (488, .if_icmp .eq 925, 3), (491, .iconst 0, 1), (492, .ireturn, 1)]
set_option maxRecDepth 100000 in
theorem dkL8 : rf_decs code ddL8 := rf_decs_of (by decide +kernel)
set_option maxHeartbeats 16000000 in
set_option maxRecDepth 100000 in
theorem lw_case8 {X : rfX} {G : rfG} {b Ln : Nat} {sc : Nat → Int32} {n sl : Nat} (C : lwC X G b Ln sc n sl) {i : Int32} (h0 : 0 ≤ i.toInt) (h1 : i.toInt + 5 < (Ln : Int)) (KK : ∀ ws', kW X n sl 1413 [(3, .int i), (2, .ref (G.2.1.1 114)), (1, .ref (G.2.1.1 70)), (0, .ref b)] [] ws') {ws : va_W} (hw : rf_world G.2.1.1 G.2.1.2.1 G.2.1.2.2.1 G.2.1.2.2.2 ws) (hfr : frOK (hv ws)) : kW X n sl 470 [(3, .int i), (2, .ref (G.2.1.1 114)), (1, .ref (G.2.1.1 70)), (0, .ref b)] [] ws := by
  have hG := C.1
  have c := C.2.2.1
  have hd : ∀ n pc i len, ddL8[n]? = some (pc, i, len) → decode code pc = .ok (i, len) := fun n pc i len h => hdk dkL8 n pc i len h
  obtain ⟨a1, ea1⟩ : ∃ a, sc (i + 1).toNatClampNeg = a := ⟨_, rfl⟩
  have r1 : -2147483648 ≤ a1.toInt ∧ a1.toInt ≤ 2147483647 := ⟨(rf_in_top a1).1, (rf_in_top a1).2.1⟩
  by_cases hcb : cbI a1.toInt
  · have ra_ : 0 ≤ a1.toInt ∧ a1.toInt ≤ 387420488 := ⟨hcb.1, hcb.2.1⟩
    refine k_al c (hd 0 470 _ _ rfl) (by rfl) (k_pc 471 rfl ?_)
    refine k_al c (hd 1 471 _ _ rfl) (by rfl) (k_pc 472 rfl ?_)
    refine k_il c (hd 2 472 _ _ rfl) (by rfl) (k_pc 473 rfl ?_)
    refine k_ic c (hd 3 473 _ _ rfl) (v := 1) (by decide) (k_pc 474 rfl ?_)
    refine k_addE c (hd 4 474 _ _ rfl) (k_pc 475 rfl ?_)
    refine k_sldE C (lw_in h0 h1 C.2.2.2.2.1 (by decide)) ea1 (hd 5 475 _ _ rfl) (k_pc 476 rfl ?_)
    refine k_callC C (M := q117_M) (q117_met hG) (-1) (by decide +kernel) (by decide +kernel) (wlkV (lkL_49 hG) _ rfl rfl) (j := 70) (by decide +kernel) ⟨Nat.le_of_ble_eq_true rfl, Nat.le_of_ble_eq_true rfl⟩ (hd 6 476 _ _ rfl) [.int a1] (rest := []) (by rfl) ⟨⟨70, by decide, rfl⟩, ⟨_, rfl, rf_in1 (by omega) (by omega), trivial⟩, trivial⟩ (Nat.le_of_ble_eq_true rfl) hw (fr_pre hfr (hframe_rf [] _) (by decide +kernel)) ⟨_, rfl, ⟨fun _ => rfl, fun _ => hcb⟩⟩ (fun x1 ws1 hw1 hf1 e1 => k_pc 479 rfl ?_)
    refine k_al c (hd 7 479 _ _ rfl) (by rfl) (k_pc 480 rfl ?_)
    refine k_al c (hd 8 480 _ _ rfl) (by rfl) (k_pc 481 rfl ?_)
    refine k_il c (hd 9 481 _ _ rfl) (by rfl) (k_pc 482 rfl ?_)
    refine k_ic c (hd 10 482 _ _ rfl) (v := 1) (by decide) (k_pc 483 rfl ?_)
    refine k_addE c (hd 11 483 _ _ rfl) (k_pc 484 rfl ?_)
    refine k_sldE C (lw_in h0 h1 C.2.2.2.2.1 (by decide)) ea1 (hd 12 484 _ _ rfl) (k_pc 485 rfl ?_)
    refine k_callC C (M := q155_M) (q155_met hG) (-1) (by decide +kernel) (by decide +kernel) (wlkV (lkL_52 hG) _ rfl rfl) (j := 114) (by decide +kernel) ⟨Nat.le_of_ble_eq_true rfl, Nat.le_of_ble_eq_true rfl⟩ (hd 13 485 _ _ rfl) [.int a1] (rest := [.int x1]) (by rfl) ⟨⟨114, by decide, rfl⟩, ⟨_, rfl, rf_in1 (by omega) (by omega), trivial⟩, trivial⟩ (Nat.le_of_ble_eq_true rfl) hw1 (fr_pre hfr hf1 (by decide +kernel)) ⟨_, rfl, ⟨fun _ => rfl, fun _ => hcb⟩⟩ (fun x2 ws2 hw2 hf2 e2 => k_pc 488 rfl ?_)
    exact k_ceq c (hd 14 488 _ _ rfl) (tgt := 1413) (by decide) (Int32.toInt_inj.mp (e1.trans e2.symm)) (KK _)
  · skip
    refine k_al c (hd 0 470 _ _ rfl) (by rfl) (k_pc 471 rfl ?_)
    refine k_al c (hd 1 471 _ _ rfl) (by rfl) (k_pc 472 rfl ?_)
    refine k_il c (hd 2 472 _ _ rfl) (by rfl) (k_pc 473 rfl ?_)
    refine k_ic c (hd 3 473 _ _ rfl) (v := 1) (by decide) (k_pc 474 rfl ?_)
    refine k_addE c (hd 4 474 _ _ rfl) (k_pc 475 rfl ?_)
    refine k_sldE C (lw_in h0 h1 C.2.2.2.2.1 (by decide)) ea1 (hd 5 475 _ _ rfl) (k_pc 476 rfl ?_)
    refine k_callC C (M := q85_M) (q85_met hG) (-2) (by decide +kernel) (by decide +kernel) (wlkV (lkL_49 hG) _ rfl rfl) (j := 70) (by decide +kernel) ⟨Nat.le_of_ble_eq_true rfl, Nat.le_of_ble_eq_true rfl⟩ (hd 6 476 _ _ rfl) [.int a1] (rest := []) (by rfl) ⟨⟨70, by decide, rfl⟩, ⟨_, rfl, rf_in_top _, trivial⟩, trivial⟩ (Nat.le_of_ble_eq_true rfl) hw (fr_pre hfr (hframe_rf [] _) (by decide +kernel)) ⟨_, rfl, ⟨fun h => absurd h hcb, fun h => absurd h (by decide)⟩⟩ (fun x1 ws1 hw1 hf1 e1 => k_pc 479 rfl ?_)
    refine k_al c (hd 7 479 _ _ rfl) (by rfl) (k_pc 480 rfl ?_)
    refine k_al c (hd 8 480 _ _ rfl) (by rfl) (k_pc 481 rfl ?_)
    refine k_il c (hd 9 481 _ _ rfl) (by rfl) (k_pc 482 rfl ?_)
    refine k_ic c (hd 10 482 _ _ rfl) (v := 1) (by decide) (k_pc 483 rfl ?_)
    refine k_addE c (hd 11 483 _ _ rfl) (k_pc 484 rfl ?_)
    refine k_sldE C (lw_in h0 h1 C.2.2.2.2.1 (by decide)) ea1 (hd 12 484 _ _ rfl) (k_pc 485 rfl ?_)
    refine k_callC C (M := q86_M) (q86_met hG) (-2) (by decide +kernel) (by decide +kernel) (wlkV (lkL_52 hG) _ rfl rfl) (j := 114) (by decide +kernel) ⟨Nat.le_of_ble_eq_true rfl, Nat.le_of_ble_eq_true rfl⟩ (hd 13 485 _ _ rfl) [.int a1] (rest := [.int x1]) (by rfl) ⟨⟨114, by decide, rfl⟩, ⟨_, rfl, rf_in_top _, trivial⟩, trivial⟩ (Nat.le_of_ble_eq_true rfl) hw1 (fr_pre hfr hf1 (by decide +kernel)) ⟨_, rfl, ⟨fun h => absurd h hcb, fun h => absurd h (by decide)⟩⟩ (fun x2 ws2 hw2 hf2 e2 => k_pc 488 rfl ?_)
    exact k_ceq c (hd 14 488 _ _ rfl) (tgt := 1413) (by decide) (Int32.toInt_inj.mp (e1.trans e2.symm)) (KK _)
def ddL9 : List (Nat × Instr × Nat) := [(493, .aload_n 1, 1), (494, .invokevirtual 53, 3), (497, .aload_n 2, 1), (498, .invokevirtual 56, 3), (501, .if_icmp .eq 912, 3), (504, .iconst 0, 1), (505, .ireturn, 1)]
set_option maxRecDepth 100000 in
theorem dkL9 : rf_decs code ddL9 := rf_decs_of (by decide +kernel)
set_option maxHeartbeats 16000000 in
set_option maxRecDepth 100000 in
theorem lw_case9 {X : rfX} {G : rfG} {b Ln : Nat} {sc : Nat → Int32} {n sl : Nat} (C : lwC X G b Ln sc n sl) {i : Int32} (h0 : 0 ≤ i.toInt) (h1 : i.toInt + 5 < (Ln : Int)) (KK : ∀ ws', kW X n sl 1413 [(3, .int i), (2, .ref (G.2.1.1 114)), (1, .ref (G.2.1.1 70)), (0, .ref b)] [] ws') {ws : va_W} (hw : rf_world G.2.1.1 G.2.1.2.1 G.2.1.2.2.1 G.2.1.2.2.2 ws) (hfr : frOK (hv ws)) : kW X n sl 493 [(3, .int i), (2, .ref (G.2.1.1 114)), (1, .ref (G.2.1.1 70)), (0, .ref b)] [] ws := by
  have hG := C.1
  have c := C.2.2.1
  have hd : ∀ n pc i len, ddL9[n]? = some (pc, i, len) → decode code pc = .ok (i, len) := fun n pc i len h => hdk dkL9 n pc i len h
  refine k_al c (hd 0 493 _ _ rfl) (by rfl) (k_pc 494 rfl ?_)
  refine k_callC C (M := q156_M) (rf_metV_of (q156_met hG)) (-1) (by decide +kernel) (by decide +kernel) (wlkV (lkL_53 hG) _ rfl rfl) (j := 70) (by decide +kernel) ⟨Nat.le_of_ble_eq_true rfl, Nat.le_of_ble_eq_true rfl⟩ (hd 1 494 _ _ rfl) [] (rest := []) (by rfl) ⟨⟨70, by decide, rfl⟩, trivial⟩ (Nat.le_of_ble_eq_true rfl) hw (fr_pre hfr (hframe_rf [] _) (by decide +kernel)) trivial (fun x1 ws1 hw1 hf1 e1 => k_pc 497 rfl ?_)
  refine k_al c (hd 2 497 _ _ rfl) (by rfl) (k_pc 498 rfl ?_)
  refine k_callC C (M := q157_M) (rf_metV_of (q157_met hG)) (-1) (by decide +kernel) (by decide +kernel) (wlkV (lkL_56 hG) _ rfl rfl) (j := 114) (by decide +kernel) ⟨Nat.le_of_ble_eq_true rfl, Nat.le_of_ble_eq_true rfl⟩ (hd 3 498 _ _ rfl) [] (rest := [.int x1]) (by rfl) ⟨⟨114, by decide, rfl⟩, trivial⟩ (Nat.le_of_ble_eq_true rfl) hw1 (fr_pre hfr hf1 (by decide +kernel)) trivial (fun x2 ws2 hw2 hf2 e2 => k_pc 501 rfl ?_)
  exact k_ceq c (hd 4 501 _ _ rfl) (tgt := 1413) (by decide) (Int32.toInt_inj.mp (e1.trans e2.symm)) (KK _)
def ddL10 : List (Nat × Instr × Nat) := [(506, .aload_n 1, 1), (507, .invokevirtual 57, 3), (510, .aload_n 2, 1), (511, .invokevirtual 61, 3), (514, .if_icmp .eq 899, 3), (517, .iconst 0, 1), (518, .ireturn, 1)]
set_option maxRecDepth 100000 in
theorem dkL10 : rf_decs code ddL10 := rf_decs_of (by decide +kernel)
set_option maxHeartbeats 16000000 in
set_option maxRecDepth 100000 in
theorem lw_case10 {X : rfX} {G : rfG} {b Ln : Nat} {sc : Nat → Int32} {n sl : Nat} (C : lwC X G b Ln sc n sl) {i : Int32} (h0 : 0 ≤ i.toInt) (h1 : i.toInt + 5 < (Ln : Int)) (KK : ∀ ws', kW X n sl 1413 [(3, .int i), (2, .ref (G.2.1.1 114)), (1, .ref (G.2.1.1 70)), (0, .ref b)] [] ws') {ws : va_W} (hw : rf_world G.2.1.1 G.2.1.2.1 G.2.1.2.2.1 G.2.1.2.2.2 ws) (hfr : frOK (hv ws)) : kW X n sl 506 [(3, .int i), (2, .ref (G.2.1.1 114)), (1, .ref (G.2.1.1 70)), (0, .ref b)] [] ws := by
  have hG := C.1
  have c := C.2.2.1
  have hd : ∀ n pc i len, ddL10[n]? = some (pc, i, len) → decode code pc = .ok (i, len) := fun n pc i len h => hdk dkL10 n pc i len h
  refine k_al c (hd 0 506 _ _ rfl) (by rfl) (k_pc 507 rfl ?_)
  refine k_callC C (M := q159_M) (rf_metV_of (q159_met hG)) 0 (by decide +kernel) (by decide +kernel) (wlkV (lkL_57 hG) _ rfl rfl) (j := 70) (by decide +kernel) ⟨Nat.le_of_ble_eq_true rfl, Nat.le_of_ble_eq_true rfl⟩ (hd 1 507 _ _ rfl) [] (rest := []) (by rfl) ⟨⟨70, by decide, rfl⟩, trivial⟩ (Nat.le_of_ble_eq_true rfl) hw (fr_pre hfr (hframe_rf [] _) (by decide +kernel)) trivial (fun x1 ws1 hw1 hf1 e1 => k_pc 510 rfl ?_)
  refine k_al c (hd 2 510 _ _ rfl) (by rfl) (k_pc 511 rfl ?_)
  refine k_callC C (M := q160_M) (rf_metV_of (q160_met hG)) 0 (by decide +kernel) (by decide +kernel) (wlkV (lkL_61 hG) _ rfl rfl) (j := 114) (by decide +kernel) ⟨Nat.le_of_ble_eq_true rfl, Nat.le_of_ble_eq_true rfl⟩ (hd 3 511 _ _ rfl) [] (rest := [.int x1]) (by rfl) ⟨⟨114, by decide, rfl⟩, trivial⟩ (Nat.le_of_ble_eq_true rfl) hw1 (fr_pre hfr hf1 (by decide +kernel)) trivial (fun x2 ws2 hw2 hf2 e2 => k_pc 514 rfl ?_)
  exact k_ceq c (hd 4 514 _ _ rfl) (tgt := 1413) (by decide) (Int32.toInt_inj.mp (e1.trans e2.symm)) (KK _)
def ddL11 : List (Nat × Instr × Nat) := [(519, .aload_n 1, 1), (520, .invokevirtual 62, 3), (523, .aload_n 2, 1), (524, .invokevirtual 65, 3), (527, .if_icmp .eq 886, 3), (530, .iconst 0, 1), (531, .ireturn, 1)]
set_option maxRecDepth 100000 in
theorem dkL11 : rf_decs code ddL11 := rf_decs_of (by decide +kernel)
set_option maxHeartbeats 16000000 in
set_option maxRecDepth 100000 in
theorem lw_case11 {X : rfX} {G : rfG} {b Ln : Nat} {sc : Nat → Int32} {n sl : Nat} (C : lwC X G b Ln sc n sl) {i : Int32} (h0 : 0 ≤ i.toInt) (h1 : i.toInt + 5 < (Ln : Int)) (KK : ∀ ws', kW X n sl 1413 [(3, .int i), (2, .ref (G.2.1.1 114)), (1, .ref (G.2.1.1 70)), (0, .ref b)] [] ws') {ws : va_W} (hw : rf_world G.2.1.1 G.2.1.2.1 G.2.1.2.2.1 G.2.1.2.2.2 ws) (hfr : frOK (hv ws)) : kW X n sl 519 [(3, .int i), (2, .ref (G.2.1.1 114)), (1, .ref (G.2.1.1 70)), (0, .ref b)] [] ws := by
  have hG := C.1
  have c := C.2.2.1
  have hd : ∀ n pc i len, ddL11[n]? = some (pc, i, len) → decode code pc = .ok (i, len) := fun n pc i len h => hdk dkL11 n pc i len h
  refine k_al c (hd 0 519 _ _ rfl) (by rfl) (k_pc 520 rfl ?_)
  refine k_callC C (M := q162_M) (rf_metV_of (q162_met hG)) 0 (by decide +kernel) (by decide +kernel) (wlkV (lkL_62 hG) _ rfl rfl) (j := 70) (by decide +kernel) ⟨Nat.le_of_ble_eq_true rfl, Nat.le_of_ble_eq_true rfl⟩ (hd 1 520 _ _ rfl) [] (rest := []) (by rfl) ⟨⟨70, by decide, rfl⟩, trivial⟩ (Nat.le_of_ble_eq_true rfl) hw (fr_pre hfr (hframe_rf [] _) (by decide +kernel)) trivial (fun x1 ws1 hw1 hf1 e1 => k_pc 523 rfl ?_)
  refine k_al c (hd 2 523 _ _ rfl) (by rfl) (k_pc 524 rfl ?_)
  refine k_callC C (M := q163_M) (rf_metV_of (q163_met hG)) 0 (by decide +kernel) (by decide +kernel) (wlkV (lkL_65 hG) _ rfl rfl) (j := 114) (by decide +kernel) ⟨Nat.le_of_ble_eq_true rfl, Nat.le_of_ble_eq_true rfl⟩ (hd 3 524 _ _ rfl) [] (rest := [.int x1]) (by rfl) ⟨⟨114, by decide, rfl⟩, trivial⟩ (Nat.le_of_ble_eq_true rfl) hw1 (fr_pre hfr hf1 (by decide +kernel)) trivial (fun x2 ws2 hw2 hf2 e2 => k_pc 527 rfl ?_)
  exact k_ceq c (hd 4 527 _ _ rfl) (tgt := 1413) (by decide) (Int32.toInt_inj.mp (e1.trans e2.symm)) (KK _)
def ddL12 : List (Nat × Instr × Nat) := [(532, .aload_n 1, 1), (533, .aload_n 0, 1), (534, .iload_n 3, 1), (535, .iconst 1, 1), (536, .iadd, 1), (537, .iaload, 1), (538, .invokevirtual 66, 3), (541, .aload_n 2, 1), (542, .aload_n 0, 1), (543, .iload_n 3, 1), (544, .iconst 1, 1), (545, .iadd, 1), (546, .iaload, 1), (547, .invokevirtual 69, 3), (550, .if_icmp .eq 863, 3), (553, .iconst 0, 1), (554, .ireturn, 1)]
set_option maxRecDepth 100000 in
theorem dkL12 : rf_decs code ddL12 := rf_decs_of (by decide +kernel)
set_option maxHeartbeats 16000000 in
set_option maxRecDepth 100000 in
theorem lw_case12 {X : rfX} {G : rfG} {b Ln : Nat} {sc : Nat → Int32} {n sl : Nat} (C : lwC X G b Ln sc n sl) {i : Int32} (h0 : 0 ≤ i.toInt) (h1 : i.toInt + 5 < (Ln : Int)) (KK : ∀ ws', kW X n sl 1413 [(3, .int i), (2, .ref (G.2.1.1 114)), (1, .ref (G.2.1.1 70)), (0, .ref b)] [] ws') {ws : va_W} (hw : rf_world G.2.1.1 G.2.1.2.1 G.2.1.2.2.1 G.2.1.2.2.2 ws) (hfr : frOK (hv ws)) : kW X n sl 532 [(3, .int i), (2, .ref (G.2.1.1 114)), (1, .ref (G.2.1.1 70)), (0, .ref b)] [] ws := by
  have hG := C.1
  have c := C.2.2.1
  have hd : ∀ n pc i len, ddL12[n]? = some (pc, i, len) → decode code pc = .ok (i, len) := fun n pc i len h => hdk dkL12 n pc i len h
  obtain ⟨a1, ea1⟩ : ∃ a, sc (i + 1).toNatClampNeg = a := ⟨_, rfl⟩
  have r1 : -2147483648 ≤ a1.toInt ∧ a1.toInt ≤ 2147483647 := ⟨(rf_in_top a1).1, (rf_in_top a1).2.1⟩
  refine k_al c (hd 0 532 _ _ rfl) (by rfl) (k_pc 533 rfl ?_)
  refine k_al c (hd 1 533 _ _ rfl) (by rfl) (k_pc 534 rfl ?_)
  refine k_il c (hd 2 534 _ _ rfl) (by rfl) (k_pc 535 rfl ?_)
  refine k_ic c (hd 3 535 _ _ rfl) (v := 1) (by decide) (k_pc 536 rfl ?_)
  refine k_addE c (hd 4 536 _ _ rfl) (k_pc 537 rfl ?_)
  refine k_sldE C (lw_in h0 h1 C.2.2.2.2.1 (by decide)) ea1 (hd 5 537 _ _ rfl) (k_pc 538 rfl ?_)
  refine k_callC C (M := q164_M) (rf_metV_of (q164_met hG)) (-1) (by decide +kernel) (by decide +kernel) (wlkV (lkL_66 hG) _ rfl rfl) (j := 70) (by decide +kernel) ⟨Nat.le_of_ble_eq_true rfl, Nat.le_of_ble_eq_true rfl⟩ (hd 6 538 _ _ rfl) [.int a1] (rest := []) (by rfl) ⟨⟨70, by decide, rfl⟩, ⟨_, rfl, rf_in_top _, trivial⟩, trivial⟩ (Nat.le_of_ble_eq_true rfl) hw (fr_pre hfr (hframe_rf [] _) (by decide +kernel)) trivial (fun x1 ws1 hw1 hf1 e1 => k_pc 541 rfl ?_)
  refine k_al c (hd 7 541 _ _ rfl) (by rfl) (k_pc 542 rfl ?_)
  refine k_al c (hd 8 542 _ _ rfl) (by rfl) (k_pc 543 rfl ?_)
  refine k_il c (hd 9 543 _ _ rfl) (by rfl) (k_pc 544 rfl ?_)
  refine k_ic c (hd 10 544 _ _ rfl) (v := 1) (by decide) (k_pc 545 rfl ?_)
  refine k_addE c (hd 11 545 _ _ rfl) (k_pc 546 rfl ?_)
  refine k_sldE C (lw_in h0 h1 C.2.2.2.2.1 (by decide)) ea1 (hd 12 546 _ _ rfl) (k_pc 547 rfl ?_)
  refine k_callC C (M := q165_M) (rf_metV_of (q165_met hG)) (-1) (by decide +kernel) (by decide +kernel) (wlkV (lkL_69 hG) _ rfl rfl) (j := 114) (by decide +kernel) ⟨Nat.le_of_ble_eq_true rfl, Nat.le_of_ble_eq_true rfl⟩ (hd 13 547 _ _ rfl) [.int a1] (rest := [.int x1]) (by rfl) ⟨⟨114, by decide, rfl⟩, ⟨_, rfl, rf_in_top _, trivial⟩, trivial⟩ (Nat.le_of_ble_eq_true rfl) hw1 (fr_pre hfr hf1 (by decide +kernel)) trivial (fun x2 ws2 hw2 hf2 e2 => k_pc 550 rfl ?_)
  exact k_ceq c (hd 14 550 _ _ rfl) (tgt := 1413) (by decide) (Int32.toInt_inj.mp (e1.trans e2.symm)) (KK _)
def ddL13 : List (Nat × Instr × Nat) := [(555, .aload_n 1, 1), (556, .aload_n 0, 1), (557, .iload_n 3, 1), (558, .iconst 1, 1), (559, .iadd, 1), (560, .iaload, 1), (561, .aload_n 0, 1), (562, .iload_n 3, 1), (563, .iconst 2, 1), (564, .iadd, 1), (565, .iaload, 1), (566, .invokevirtual 70, 3), (569, .aload_n 2, 1), (570, .aload_n 0, 1), (571, .iload_n 3, 1), (572, .iconst 1, 1), (573, .iadd, 1), (574, .iaload, 1), (575, .aload_n 0, 1), (576, .iload_n 3, 1), (577, .iconst 2, 1), (578, .iadd, 1), (579, .iaload, 1), (580, .invokevirtual 73, 3), (583, .if_icmp .eq 830, 3), (586, .iconst 0, 1), (587, .ireturn, 1)]
set_option maxRecDepth 100000 in
theorem dkL13 : rf_decs code ddL13 := rf_decs_of (by decide +kernel)
set_option maxHeartbeats 16000000 in
set_option maxRecDepth 100000 in
theorem lw_case13 {X : rfX} {G : rfG} {b Ln : Nat} {sc : Nat → Int32} {n sl : Nat} (C : lwC X G b Ln sc n sl) {i : Int32} (h0 : 0 ≤ i.toInt) (h1 : i.toInt + 5 < (Ln : Int)) (KK : ∀ ws', kW X n sl 1413 [(3, .int i), (2, .ref (G.2.1.1 114)), (1, .ref (G.2.1.1 70)), (0, .ref b)] [] ws') {ws : va_W} (hw : rf_world G.2.1.1 G.2.1.2.1 G.2.1.2.2.1 G.2.1.2.2.2 ws) (hfr : frOK (hv ws)) : kW X n sl 555 [(3, .int i), (2, .ref (G.2.1.1 114)), (1, .ref (G.2.1.1 70)), (0, .ref b)] [] ws := by
  have hG := C.1
  have c := C.2.2.1
  have hd : ∀ n pc i len, ddL13[n]? = some (pc, i, len) → decode code pc = .ok (i, len) := fun n pc i len h => hdk dkL13 n pc i len h
  obtain ⟨a1, ea1⟩ : ∃ a, sc (i + 1).toNatClampNeg = a := ⟨_, rfl⟩
  have r1 : -2147483648 ≤ a1.toInt ∧ a1.toInt ≤ 2147483647 := ⟨(rf_in_top a1).1, (rf_in_top a1).2.1⟩
  obtain ⟨a2, ea2⟩ : ∃ a, sc (i + 2).toNatClampNeg = a := ⟨_, rfl⟩
  have r2 : -2147483648 ≤ a2.toInt ∧ a2.toInt ≤ 2147483647 := ⟨(rf_in_top a2).1, (rf_in_top a2).2.1⟩
  refine k_al c (hd 0 555 _ _ rfl) (by rfl) (k_pc 556 rfl ?_)
  refine k_al c (hd 1 556 _ _ rfl) (by rfl) (k_pc 557 rfl ?_)
  refine k_il c (hd 2 557 _ _ rfl) (by rfl) (k_pc 558 rfl ?_)
  refine k_ic c (hd 3 558 _ _ rfl) (v := 1) (by decide) (k_pc 559 rfl ?_)
  refine k_addE c (hd 4 559 _ _ rfl) (k_pc 560 rfl ?_)
  refine k_sldE C (lw_in h0 h1 C.2.2.2.2.1 (by decide)) ea1 (hd 5 560 _ _ rfl) (k_pc 561 rfl ?_)
  refine k_al c (hd 6 561 _ _ rfl) (by rfl) (k_pc 562 rfl ?_)
  refine k_il c (hd 7 562 _ _ rfl) (by rfl) (k_pc 563 rfl ?_)
  refine k_ic c (hd 8 563 _ _ rfl) (v := 2) (by decide) (k_pc 564 rfl ?_)
  refine k_addE c (hd 9 564 _ _ rfl) (k_pc 565 rfl ?_)
  refine k_sldE C (lw_in h0 h1 C.2.2.2.2.1 (by decide)) ea2 (hd 10 565 _ _ rfl) (k_pc 566 rfl ?_)
  refine k_callH C (M := dM_dist) (dp_dist hG) (wlkV (lkL_70 hG) _ rfl rfl) (j := 70) (by decide +kernel) ⟨Nat.le_of_ble_eq_true rfl, Nat.le_of_ble_eq_true rfl⟩ (hd 11 566 _ _ rfl) [.int a1, .int a2] (rest := []) (by rfl) ⟨⟨70, by decide, rfl⟩, ⟨_, rfl, rf_in_top _, trivial⟩, ⟨_, rfl, rf_in_top _, trivial⟩, trivial⟩ (Nat.le_of_ble_eq_true rfl) hw trivial (fun rv1 ws1 hw1 hf1 hp1 => k_pc 569 rfl ?_)
  obtain ⟨b1_, u1_, y1, eb1_, eu1_, er1_, hy1⟩ := hp1
  cases eb1_; cases eu1_; subst er1_
  refine k_al c (hd 12 569 _ _ rfl) (by rfl) (k_pc 570 rfl ?_)
  refine k_al c (hd 13 570 _ _ rfl) (by rfl) (k_pc 571 rfl ?_)
  refine k_il c (hd 14 571 _ _ rfl) (by rfl) (k_pc 572 rfl ?_)
  refine k_ic c (hd 15 572 _ _ rfl) (v := 1) (by decide) (k_pc 573 rfl ?_)
  refine k_addE c (hd 16 573 _ _ rfl) (k_pc 574 rfl ?_)
  refine k_sldE C (lw_in h0 h1 C.2.2.2.2.1 (by decide)) ea1 (hd 17 574 _ _ rfl) (k_pc 575 rfl ?_)
  refine k_al c (hd 18 575 _ _ rfl) (by rfl) (k_pc 576 rfl ?_)
  refine k_il c (hd 19 576 _ _ rfl) (by rfl) (k_pc 577 rfl ?_)
  refine k_ic c (hd 20 577 _ _ rfl) (v := 2) (by decide) (k_pc 578 rfl ?_)
  refine k_addE c (hd 21 578 _ _ rfl) (k_pc 579 rfl ?_)
  refine k_sldE C (lw_in h0 h1 C.2.2.2.2.1 (by decide)) ea2 (hd 22 579 _ _ rfl) (k_pc 580 rfl ?_)
  refine k_callH C (M := dM_mdist) (dp_mdist hG) (wlkV (lkL_73 hG) _ rfl rfl) (j := 114) (by decide +kernel) ⟨Nat.le_of_ble_eq_true rfl, Nat.le_of_ble_eq_true rfl⟩ (hd 23 580 _ _ rfl) [.int a1, .int a2] (rest := [.int y1]) (by rfl) ⟨⟨114, by decide, rfl⟩, ⟨_, rfl, rf_in_top _, trivial⟩, ⟨_, rfl, rf_in_top _, trivial⟩, trivial⟩ (Nat.le_of_ble_eq_true rfl) hw1 trivial (fun rv2 ws2 hw2 hf2 hp2 => k_pc 583 rfl ?_)
  obtain ⟨b2_, u2_, y2, eb2_, eu2_, er2_, hy2⟩ := hp2
  cases eb2_; cases eu2_; subst er2_
  have exy : y1 = y2 := Int32.toInt_inj.mp (by
    rcases hy1 with ⟨p1, p2, p3⟩ | ⟨p1, p3⟩
    · rcases hy2 with ⟨q1, q2, q3⟩ | ⟨q1, q3⟩
      · rw [p3, q3]
      · exact absurd ⟨p1, p2⟩ q1
    · rcases hy2 with ⟨q1, q2, q3⟩ | ⟨q1, q3⟩
      · exact absurd ⟨q1, q2⟩ p1
      · rw [p3, q3])
  exact k_ceq c (hd 24 583 _ _ rfl) (tgt := 1413) (by decide) exy (KK _)
def ddL14 : List (Nat × Instr × Nat) := [(588, .aload_n 1, 1), (589, .aload_n 0, 1), (590, .iload_n 3, 1), (591, .iconst 1, 1), (592, .iadd, 1), (593, .iaload, 1), (594, .invokevirtual 74, 3), (597, .aload_n 2, 1), (598, .aload_n 0, 1), (599, .iload_n 3, 1), (600, .iconst 1, 1), (601, .iadd, 1), (602, .iaload, 1), (603, .invokevirtual 77, 3), (606, .if_icmp .eq 807, 3), (609, .iconst 0, 1), (610, .ireturn, 1)]
set_option maxRecDepth 100000 in
theorem dkL14 : rf_decs code ddL14 := rf_decs_of (by decide +kernel)
set_option maxHeartbeats 16000000 in
set_option maxRecDepth 100000 in
theorem lw_case14 {X : rfX} {G : rfG} {b Ln : Nat} {sc : Nat → Int32} {n sl : Nat} (C : lwC X G b Ln sc n sl) {i : Int32} (h0 : 0 ≤ i.toInt) (h1 : i.toInt + 5 < (Ln : Int)) (KK : ∀ ws', kW X n sl 1413 [(3, .int i), (2, .ref (G.2.1.1 114)), (1, .ref (G.2.1.1 70)), (0, .ref b)] [] ws') {ws : va_W} (hw : rf_world G.2.1.1 G.2.1.2.1 G.2.1.2.2.1 G.2.1.2.2.2 ws) (hfr : frOK (hv ws)) : kW X n sl 588 [(3, .int i), (2, .ref (G.2.1.1 114)), (1, .ref (G.2.1.1 70)), (0, .ref b)] [] ws := by
  have hG := C.1
  have c := C.2.2.1
  have hd : ∀ n pc i len, ddL14[n]? = some (pc, i, len) → decode code pc = .ok (i, len) := fun n pc i len h => hdk dkL14 n pc i len h
  obtain ⟨a1, ea1⟩ : ∃ a, sc (i + 1).toNatClampNeg = a := ⟨_, rfl⟩
  have r1 : -2147483648 ≤ a1.toInt ∧ a1.toInt ≤ 2147483647 := ⟨(rf_in_top a1).1, (rf_in_top a1).2.1⟩
  refine k_al c (hd 0 588 _ _ rfl) (by rfl) (k_pc 589 rfl ?_)
  refine k_al c (hd 1 589 _ _ rfl) (by rfl) (k_pc 590 rfl ?_)
  refine k_il c (hd 2 590 _ _ rfl) (by rfl) (k_pc 591 rfl ?_)
  refine k_ic c (hd 3 591 _ _ rfl) (v := 1) (by decide) (k_pc 592 rfl ?_)
  refine k_addE c (hd 4 592 _ _ rfl) (k_pc 593 rfl ?_)
  refine k_sldE C (lw_in h0 h1 C.2.2.2.2.1 (by decide)) ea1 (hd 5 593 _ _ rfl) (k_pc 594 rfl ?_)
  refine k_callH C (M := fM_forms) (fp_forms hG) (wlkV (lkL_74 hG) _ rfl rfl) (j := 70) (by decide +kernel) ⟨Nat.le_of_ble_eq_true rfl, Nat.le_of_ble_eq_true rfl⟩ (hd 6 594 _ _ rfl) [.int a1] (rest := []) (by rfl) ⟨⟨70, by decide, rfl⟩, ⟨_, rfl, rf_in_top _, trivial⟩, trivial⟩ (Nat.le_of_ble_eq_true rfl) hw ⟨(fr_at hfr 92 rfl), (fr_at hfr 1 rfl), (fr_at hfr 2 rfl)⟩ (fun rv1 ws1 hw1 hf1 hp1 => k_pc 597 rfl ?_)
  obtain ⟨b1_, y1, eb1_, er1_, hy1⟩ := hp1
  cases eb1_; subst er1_
  refine k_al c (hd 7 597 _ _ rfl) (by rfl) (k_pc 598 rfl ?_)
  refine k_al c (hd 8 598 _ _ rfl) (by rfl) (k_pc 599 rfl ?_)
  refine k_il c (hd 9 599 _ _ rfl) (by rfl) (k_pc 600 rfl ?_)
  refine k_ic c (hd 10 600 _ _ rfl) (v := 1) (by decide) (k_pc 601 rfl ?_)
  refine k_addE c (hd 11 601 _ _ rfl) (k_pc 602 rfl ?_)
  refine k_sldE C (lw_in h0 h1 C.2.2.2.2.1 (by decide)) ea1 (hd 12 602 _ _ rfl) (k_pc 603 rfl ?_)
  refine k_callH C (M := gM_forms) (gp_forms hG) (wlkV (lkL_77 hG) _ rfl rfl) (j := 114) (by decide +kernel) ⟨Nat.le_of_ble_eq_true rfl, Nat.le_of_ble_eq_true rfl⟩ (hd 13 603 _ _ rfl) [.int a1] (rest := [.int y1]) (by rfl) ⟨⟨114, by decide, rfl⟩, ⟨_, rfl, rf_in_top _, trivial⟩, trivial⟩ (Nat.le_of_ble_eq_true rfl) hw1 ⟨((congrArg Int32.toInt (hf1 114 28 (by decide) (by rfl))).trans (fr_at hfr 126 rfl)), ((congrArg Int32.toInt (hf1 75 0 (by decide) (by rfl))).trans (fr_at hfr 106 rfl)), ((congrArg Int32.toInt (hf1 76 0 (by decide) (by rfl))).trans (fr_at hfr 107 rfl))⟩ (fun rv2 ws2 hw2 hf2 hp2 => k_pc 606 rfl ?_)
  obtain ⟨b2_, y2, eb2_, er2_, hy2⟩ := hp2
  cases eb2_; subst er2_
  have exy : y1 = y2 := Int32.toInt_inj.mp (by
    rcases hy1 with ⟨p1, f, m, s1, s2, s3⟩ | ⟨p1, p3⟩
    · rcases hy2 with ⟨q1, g, k, t1, t2, t3⟩ | ⟨q1, q3⟩
      · rw [s3, t3, srt_len m k f g s1 t1 (fun x => (s2 x).trans (t2 x).symm)]
      · exact absurd p1 q1
    · rcases hy2 with ⟨q1, g, k, t1, t2, t3⟩ | ⟨q1, q3⟩
      · exact absurd q1 p1
      · rw [p3, q3])
  exact k_ceq c (hd 14 606 _ _ rfl) (tgt := 1413) (by decide) exy (KK _)
def ddL15 : List (Nat × Instr × Nat) := [(611, .aload_n 1, 1), (612, .aload_n 0, 1), (613, .iload_n 3, 1), (614, .iconst 1, 1), (615, .iadd, 1), (616, .iaload, 1), (617, .invokevirtual 78, 3), (620, .aload_n 2, 1), (621, .aload_n 0, 1), (622, .iload_n 3, 1), (623, .iconst 1, 1), (624, .iadd, 1), (625, .iaload, 1), (626, .invokevirtual 81, 3), (629, .if_icmp .eq 784, 3), (632, .iconst 0, 1), (633, .ireturn, 1)]
set_option maxRecDepth 100000 in
theorem dkL15 : rf_decs code ddL15 := rf_decs_of (by decide +kernel)
set_option maxHeartbeats 16000000 in
set_option maxRecDepth 100000 in
theorem lw_case15 {X : rfX} {G : rfG} {b Ln : Nat} {sc : Nat → Int32} {n sl : Nat} (C : lwC X G b Ln sc n sl) {i : Int32} (h0 : 0 ≤ i.toInt) (h1 : i.toInt + 5 < (Ln : Int)) (KK : ∀ ws', kW X n sl 1413 [(3, .int i), (2, .ref (G.2.1.1 114)), (1, .ref (G.2.1.1 70)), (0, .ref b)] [] ws') {ws : va_W} (hw : rf_world G.2.1.1 G.2.1.2.1 G.2.1.2.2.1 G.2.1.2.2.2 ws) (hfr : frOK (hv ws)) : kW X n sl 611 [(3, .int i), (2, .ref (G.2.1.1 114)), (1, .ref (G.2.1.1 70)), (0, .ref b)] [] ws := by
  have hG := C.1
  have c := C.2.2.1
  have hd : ∀ n pc i len, ddL15[n]? = some (pc, i, len) → decode code pc = .ok (i, len) := fun n pc i len h => hdk dkL15 n pc i len h
  obtain ⟨a1, ea1⟩ : ∃ a, sc (i + 1).toNatClampNeg = a := ⟨_, rfl⟩
  have r1 : -2147483648 ≤ a1.toInt ∧ a1.toInt ≤ 2147483647 := ⟨(rf_in_top a1).1, (rf_in_top a1).2.1⟩
  refine k_al c (hd 0 611 _ _ rfl) (by rfl) (k_pc 612 rfl ?_)
  refine k_al c (hd 1 612 _ _ rfl) (by rfl) (k_pc 613 rfl ?_)
  refine k_il c (hd 2 613 _ _ rfl) (by rfl) (k_pc 614 rfl ?_)
  refine k_ic c (hd 3 614 _ _ rfl) (v := 1) (by decide) (k_pc 615 rfl ?_)
  refine k_addE c (hd 4 615 _ _ rfl) (k_pc 616 rfl ?_)
  refine k_sldE C (lw_in h0 h1 C.2.2.2.2.1 (by decide)) ea1 (hd 5 616 _ _ rfl) (k_pc 617 rfl ?_)
  refine k_callH C (M := fM_bucket) (fp_bucket hG) (wlkV (lkL_78 hG) _ rfl rfl) (j := 70) (by decide +kernel) ⟨Nat.le_of_ble_eq_true rfl, Nat.le_of_ble_eq_true rfl⟩ (hd 6 617 _ _ rfl) [.int a1] (rest := []) (by rfl) ⟨⟨70, by decide, rfl⟩, ⟨_, rfl, rf_in_top _, trivial⟩, trivial⟩ (Nat.le_of_ble_eq_true rfl) hw ⟨(fr_at hfr 7 rfl), (fr_at hfr 3 rfl)⟩ (fun rv1 ws1 hw1 hf1 hp1 => k_pc 620 rfl ?_)
  obtain ⟨b1_, y1, eb1_, er1_, hy1⟩ := hp1
  cases eb1_; subst er1_
  refine k_al c (hd 7 620 _ _ rfl) (by rfl) (k_pc 621 rfl ?_)
  refine k_al c (hd 8 621 _ _ rfl) (by rfl) (k_pc 622 rfl ?_)
  refine k_il c (hd 9 622 _ _ rfl) (by rfl) (k_pc 623 rfl ?_)
  refine k_ic c (hd 10 623 _ _ rfl) (v := 1) (by decide) (k_pc 624 rfl ?_)
  refine k_addE c (hd 11 624 _ _ rfl) (k_pc 625 rfl ?_)
  refine k_sldE C (lw_in h0 h1 C.2.2.2.2.1 (by decide)) ea1 (hd 12 625 _ _ rfl) (k_pc 626 rfl ?_)
  refine k_callH C (M := gM_bucket) (gp_bucket hG) (wlkV (lkL_81 hG) _ rfl rfl) (j := 114) (by decide +kernel) ⟨Nat.le_of_ble_eq_true rfl, Nat.le_of_ble_eq_true rfl⟩ (hd 13 626 _ _ rfl) [.int a1] (rest := [.int y1]) (by rfl) ⟨⟨114, by decide, rfl⟩, ⟨_, rfl, rf_in_top _, trivial⟩, trivial⟩ (Nat.le_of_ble_eq_true rfl) hw1 ⟨((congrArg Int32.toInt (hf1 114 28 (by decide) (by rfl))).trans (fr_at hfr 126 rfl)), ((congrArg Int32.toInt (hf1 80 0 (by decide) (by rfl))).trans (fr_at hfr 111 rfl)), ((congrArg Int32.toInt (hf1 77 0 (by decide) (by rfl))).trans (fr_at hfr 108 rfl))⟩ (fun rv2 ws2 hw2 hf2 hp2 => k_pc 629 rfl ?_)
  obtain ⟨b2_, y2, eb2_, er2_, hy2⟩ := hp2
  cases eb2_; subst er2_
  have exy : y1 = y2 := Int32.toInt_inj.mp (by
    rcases hy1 with ⟨p1, p3⟩ | ⟨p1, p3⟩
    · rcases hy2 with ⟨q1, q3⟩ | ⟨q1, q3⟩
      · rw [p3, q3]
      · exact absurd p1 q1
    · rcases hy2 with ⟨q1, q3⟩ | ⟨q1, q3⟩
      · exact absurd q1 p1
      · rw [p3, q3])
  exact k_ceq c (hd 14 629 _ _ rfl) (tgt := 1413) (by decide) exy (KK _)
def ddL16 : List (Nat × Instr × Nat) := [(634, .aload_n 1, 1), (635, .aload_n 0, 1), (636, .iload_n 3, 1), (637, .iconst 1, 1), (638, .iadd, 1), (639, .iaload, 1), (640, .aload_n 0, 1), (641, .iload_n 3, 1), (642, .iconst 2, 1), (643, .iadd, 1), (644, .iaload, 1), (645, .invokevirtual 82, 3), (648, .aload_n 2, 1), (649, .aload_n 0, 1), (650, .iload_n 3, 1), (651, .iconst 1, 1), (652, .iadd, 1), (653, .iaload, 1), (654, .aload_n 0, 1), (655, .iload_n 3, 1), (656, .iconst 2, 1), (657, .iadd, 1), (658, .iaload, 1), (659, .invokevirtual 85, 3), (662, .if_icmp .eq 751, 3), (665, .iconst 0, 1), (666, .ireturn, 1)]
set_option maxRecDepth 100000 in
theorem dkL16 : rf_decs code ddL16 := rf_decs_of (by decide +kernel)
set_option maxHeartbeats 16000000 in
set_option maxRecDepth 100000 in
theorem lw_case16 {X : rfX} {G : rfG} {b Ln : Nat} {sc : Nat → Int32} {n sl : Nat} (C : lwC X G b Ln sc n sl) {i : Int32} (h0 : 0 ≤ i.toInt) (h1 : i.toInt + 5 < (Ln : Int)) (KK : ∀ ws', kW X n sl 1413 [(3, .int i), (2, .ref (G.2.1.1 114)), (1, .ref (G.2.1.1 70)), (0, .ref b)] [] ws') {ws : va_W} (hw : rf_world G.2.1.1 G.2.1.2.1 G.2.1.2.2.1 G.2.1.2.2.2 ws) (hfr : frOK (hv ws)) : kW X n sl 634 [(3, .int i), (2, .ref (G.2.1.1 114)), (1, .ref (G.2.1.1 70)), (0, .ref b)] [] ws := by
  have hG := C.1
  have c := C.2.2.1
  have hd : ∀ n pc i len, ddL16[n]? = some (pc, i, len) → decode code pc = .ok (i, len) := fun n pc i len h => hdk dkL16 n pc i len h
  obtain ⟨a1, ea1⟩ : ∃ a, sc (i + 1).toNatClampNeg = a := ⟨_, rfl⟩
  have r1 : -2147483648 ≤ a1.toInt ∧ a1.toInt ≤ 2147483647 := ⟨(rf_in_top a1).1, (rf_in_top a1).2.1⟩
  obtain ⟨a2, ea2⟩ : ∃ a, sc (i + 2).toNatClampNeg = a := ⟨_, rfl⟩
  have r2 : -2147483648 ≤ a2.toInt ∧ a2.toInt ≤ 2147483647 := ⟨(rf_in_top a2).1, (rf_in_top a2).2.1⟩
  by_cases hcb : cbI a1.toInt
  · have ra_ : 0 ≤ a1.toInt ∧ a1.toInt ≤ 387420488 := ⟨hcb.1, hcb.2.1⟩
    have hc_ : (a2.toInt = 0) ∨ (a2.toInt = 1) ∨ (a2.toInt = 2) ∨ (a2.toInt ≤ (-1)) ∨ (3 ≤ a2.toInt) := by omega
    rcases hc_ with hc_ | hc_ | hc_ | hc_ | hc_
    · skip
      refine k_al c (hd 0 634 _ _ rfl) (by rfl) (k_pc 635 rfl ?_)
      refine k_al c (hd 1 635 _ _ rfl) (by rfl) (k_pc 636 rfl ?_)
      refine k_il c (hd 2 636 _ _ rfl) (by rfl) (k_pc 637 rfl ?_)
      refine k_ic c (hd 3 637 _ _ rfl) (v := 1) (by decide) (k_pc 638 rfl ?_)
      refine k_addE c (hd 4 638 _ _ rfl) (k_pc 639 rfl ?_)
      refine k_sldE C (lw_in h0 h1 C.2.2.2.2.1 (by decide)) ea1 (hd 5 639 _ _ rfl) (k_pc 640 rfl ?_)
      refine k_al c (hd 6 640 _ _ rfl) (by rfl) (k_pc 641 rfl ?_)
      refine k_il c (hd 7 641 _ _ rfl) (by rfl) (k_pc 642 rfl ?_)
      refine k_ic c (hd 8 642 _ _ rfl) (v := 2) (by decide) (k_pc 643 rfl ?_)
      refine k_addE c (hd 9 643 _ _ rfl) (k_pc 644 rfl ?_)
      refine k_sldE C (lw_in h0 h1 C.2.2.2.2.1 (by decide)) ea2 (hd 10 644 _ _ rfl) (k_pc 645 rfl ?_)
      refine k_callC C (M := q172_M) (q172_met hG) 0 (by decide +kernel) (by decide +kernel) (wlkV (lkL_82 hG) _ rfl rfl) (j := 70) (by decide +kernel) ⟨Nat.le_of_ble_eq_true rfl, Nat.le_of_ble_eq_true rfl⟩ (hd 11 645 _ _ rfl) [.int a1, .int a2] (rest := []) (by rfl) ⟨⟨70, by decide, rfl⟩, ⟨_, rfl, rf_in1 (by omega) (by omega), trivial⟩, ⟨_, rfl, hcon (by omega), trivial⟩, trivial⟩ (Nat.le_of_ble_eq_true rfl) hw (fr_pre hfr (hframe_rf [] _) (by decide +kernel)) ⟨_, rfl, ⟨fun _ => rfl, fun _ => hcb⟩⟩ (fun x1 ws1 hw1 hf1 e1 => k_pc 648 rfl ?_)
      refine k_al c (hd 12 648 _ _ rfl) (by rfl) (k_pc 649 rfl ?_)
      refine k_al c (hd 13 649 _ _ rfl) (by rfl) (k_pc 650 rfl ?_)
      refine k_il c (hd 14 650 _ _ rfl) (by rfl) (k_pc 651 rfl ?_)
      refine k_ic c (hd 15 651 _ _ rfl) (v := 1) (by decide) (k_pc 652 rfl ?_)
      refine k_addE c (hd 16 652 _ _ rfl) (k_pc 653 rfl ?_)
      refine k_sldE C (lw_in h0 h1 C.2.2.2.2.1 (by decide)) ea1 (hd 17 653 _ _ rfl) (k_pc 654 rfl ?_)
      refine k_al c (hd 18 654 _ _ rfl) (by rfl) (k_pc 655 rfl ?_)
      refine k_il c (hd 19 655 _ _ rfl) (by rfl) (k_pc 656 rfl ?_)
      refine k_ic c (hd 20 656 _ _ rfl) (v := 2) (by decide) (k_pc 657 rfl ?_)
      refine k_addE c (hd 21 657 _ _ rfl) (k_pc 658 rfl ?_)
      refine k_sldE C (lw_in h0 h1 C.2.2.2.2.1 (by decide)) ea2 (hd 22 658 _ _ rfl) (k_pc 659 rfl ?_)
      refine k_callC C (M := q176_M) (q176_met hG) 0 (by decide +kernel) (by decide +kernel) (wlkV (lkL_85 hG) _ rfl rfl) (j := 114) (by decide +kernel) ⟨Nat.le_of_ble_eq_true rfl, Nat.le_of_ble_eq_true rfl⟩ (hd 23 659 _ _ rfl) [.int a1, .int a2] (rest := [.int x1]) (by rfl) ⟨⟨114, by decide, rfl⟩, ⟨_, rfl, rf_in1 (by omega) (by omega), trivial⟩, ⟨_, rfl, hcon (by omega), trivial⟩, trivial⟩ (Nat.le_of_ble_eq_true rfl) hw1 (fr_pre hfr hf1 (by decide +kernel)) ⟨_, rfl, ⟨fun _ => rfl, fun _ => hcb⟩⟩ (fun x2 ws2 hw2 hf2 e2 => k_pc 662 rfl ?_)
      exact k_ceq c (hd 24 662 _ _ rfl) (tgt := 1413) (by decide) (Int32.toInt_inj.mp (e1.trans e2.symm)) (KK _)
    · skip
      refine k_al c (hd 0 634 _ _ rfl) (by rfl) (k_pc 635 rfl ?_)
      refine k_al c (hd 1 635 _ _ rfl) (by rfl) (k_pc 636 rfl ?_)
      refine k_il c (hd 2 636 _ _ rfl) (by rfl) (k_pc 637 rfl ?_)
      refine k_ic c (hd 3 637 _ _ rfl) (v := 1) (by decide) (k_pc 638 rfl ?_)
      refine k_addE c (hd 4 638 _ _ rfl) (k_pc 639 rfl ?_)
      refine k_sldE C (lw_in h0 h1 C.2.2.2.2.1 (by decide)) ea1 (hd 5 639 _ _ rfl) (k_pc 640 rfl ?_)
      refine k_al c (hd 6 640 _ _ rfl) (by rfl) (k_pc 641 rfl ?_)
      refine k_il c (hd 7 641 _ _ rfl) (by rfl) (k_pc 642 rfl ?_)
      refine k_ic c (hd 8 642 _ _ rfl) (v := 2) (by decide) (k_pc 643 rfl ?_)
      refine k_addE c (hd 9 643 _ _ rfl) (k_pc 644 rfl ?_)
      refine k_sldE C (lw_in h0 h1 C.2.2.2.2.1 (by decide)) ea2 (hd 10 644 _ _ rfl) (k_pc 645 rfl ?_)
      refine k_callC C (M := q178_M) (q178_met hG) 0 (by decide +kernel) (by decide +kernel) (wlkV (lkL_82 hG) _ rfl rfl) (j := 70) (by decide +kernel) ⟨Nat.le_of_ble_eq_true rfl, Nat.le_of_ble_eq_true rfl⟩ (hd 11 645 _ _ rfl) [.int a1, .int a2] (rest := []) (by rfl) ⟨⟨70, by decide, rfl⟩, ⟨_, rfl, rf_in1 (by omega) (by omega), trivial⟩, ⟨_, rfl, hcon (by omega), trivial⟩, trivial⟩ (Nat.le_of_ble_eq_true rfl) hw (fr_pre hfr (hframe_rf [] _) (by decide +kernel)) ⟨_, rfl, ⟨fun _ => rfl, fun _ => hcb⟩⟩ (fun x1 ws1 hw1 hf1 e1 => k_pc 648 rfl ?_)
      refine k_al c (hd 12 648 _ _ rfl) (by rfl) (k_pc 649 rfl ?_)
      refine k_al c (hd 13 649 _ _ rfl) (by rfl) (k_pc 650 rfl ?_)
      refine k_il c (hd 14 650 _ _ rfl) (by rfl) (k_pc 651 rfl ?_)
      refine k_ic c (hd 15 651 _ _ rfl) (v := 1) (by decide) (k_pc 652 rfl ?_)
      refine k_addE c (hd 16 652 _ _ rfl) (k_pc 653 rfl ?_)
      refine k_sldE C (lw_in h0 h1 C.2.2.2.2.1 (by decide)) ea1 (hd 17 653 _ _ rfl) (k_pc 654 rfl ?_)
      refine k_al c (hd 18 654 _ _ rfl) (by rfl) (k_pc 655 rfl ?_)
      refine k_il c (hd 19 655 _ _ rfl) (by rfl) (k_pc 656 rfl ?_)
      refine k_ic c (hd 20 656 _ _ rfl) (v := 2) (by decide) (k_pc 657 rfl ?_)
      refine k_addE c (hd 21 657 _ _ rfl) (k_pc 658 rfl ?_)
      refine k_sldE C (lw_in h0 h1 C.2.2.2.2.1 (by decide)) ea2 (hd 22 658 _ _ rfl) (k_pc 659 rfl ?_)
      refine k_callC C (M := q181_M) (q181_met hG) 0 (by decide +kernel) (by decide +kernel) (wlkV (lkL_85 hG) _ rfl rfl) (j := 114) (by decide +kernel) ⟨Nat.le_of_ble_eq_true rfl, Nat.le_of_ble_eq_true rfl⟩ (hd 23 659 _ _ rfl) [.int a1, .int a2] (rest := [.int x1]) (by rfl) ⟨⟨114, by decide, rfl⟩, ⟨_, rfl, rf_in1 (by omega) (by omega), trivial⟩, ⟨_, rfl, hcon (by omega), trivial⟩, trivial⟩ (Nat.le_of_ble_eq_true rfl) hw1 (fr_pre hfr hf1 (by decide +kernel)) ⟨_, rfl, ⟨fun _ => rfl, fun _ => hcb⟩⟩ (fun x2 ws2 hw2 hf2 e2 => k_pc 662 rfl ?_)
      exact k_ceq c (hd 24 662 _ _ rfl) (tgt := 1413) (by decide) (Int32.toInt_inj.mp (e1.trans e2.symm)) (KK _)
    · skip
      refine k_al c (hd 0 634 _ _ rfl) (by rfl) (k_pc 635 rfl ?_)
      refine k_al c (hd 1 635 _ _ rfl) (by rfl) (k_pc 636 rfl ?_)
      refine k_il c (hd 2 636 _ _ rfl) (by rfl) (k_pc 637 rfl ?_)
      refine k_ic c (hd 3 637 _ _ rfl) (v := 1) (by decide) (k_pc 638 rfl ?_)
      refine k_addE c (hd 4 638 _ _ rfl) (k_pc 639 rfl ?_)
      refine k_sldE C (lw_in h0 h1 C.2.2.2.2.1 (by decide)) ea1 (hd 5 639 _ _ rfl) (k_pc 640 rfl ?_)
      refine k_al c (hd 6 640 _ _ rfl) (by rfl) (k_pc 641 rfl ?_)
      refine k_il c (hd 7 641 _ _ rfl) (by rfl) (k_pc 642 rfl ?_)
      refine k_ic c (hd 8 642 _ _ rfl) (v := 2) (by decide) (k_pc 643 rfl ?_)
      refine k_addE c (hd 9 643 _ _ rfl) (k_pc 644 rfl ?_)
      refine k_sldE C (lw_in h0 h1 C.2.2.2.2.1 (by decide)) ea2 (hd 10 644 _ _ rfl) (k_pc 645 rfl ?_)
      refine k_callC C (M := q182_M) (q182_met hG) 0 (by decide +kernel) (by decide +kernel) (wlkV (lkL_82 hG) _ rfl rfl) (j := 70) (by decide +kernel) ⟨Nat.le_of_ble_eq_true rfl, Nat.le_of_ble_eq_true rfl⟩ (hd 11 645 _ _ rfl) [.int a1, .int a2] (rest := []) (by rfl) ⟨⟨70, by decide, rfl⟩, ⟨_, rfl, rf_in1 (by omega) (by omega), trivial⟩, ⟨_, rfl, hcon (by omega), trivial⟩, trivial⟩ (Nat.le_of_ble_eq_true rfl) hw (fr_pre hfr (hframe_rf [] _) (by decide +kernel)) ⟨_, rfl, ⟨fun _ => rfl, fun _ => hcb⟩⟩ (fun x1 ws1 hw1 hf1 e1 => k_pc 648 rfl ?_)
      refine k_al c (hd 12 648 _ _ rfl) (by rfl) (k_pc 649 rfl ?_)
      refine k_al c (hd 13 649 _ _ rfl) (by rfl) (k_pc 650 rfl ?_)
      refine k_il c (hd 14 650 _ _ rfl) (by rfl) (k_pc 651 rfl ?_)
      refine k_ic c (hd 15 651 _ _ rfl) (v := 1) (by decide) (k_pc 652 rfl ?_)
      refine k_addE c (hd 16 652 _ _ rfl) (k_pc 653 rfl ?_)
      refine k_sldE C (lw_in h0 h1 C.2.2.2.2.1 (by decide)) ea1 (hd 17 653 _ _ rfl) (k_pc 654 rfl ?_)
      refine k_al c (hd 18 654 _ _ rfl) (by rfl) (k_pc 655 rfl ?_)
      refine k_il c (hd 19 655 _ _ rfl) (by rfl) (k_pc 656 rfl ?_)
      refine k_ic c (hd 20 656 _ _ rfl) (v := 2) (by decide) (k_pc 657 rfl ?_)
      refine k_addE c (hd 21 657 _ _ rfl) (k_pc 658 rfl ?_)
      refine k_sldE C (lw_in h0 h1 C.2.2.2.2.1 (by decide)) ea2 (hd 22 658 _ _ rfl) (k_pc 659 rfl ?_)
      refine k_callC C (M := q186_M) (q186_met hG) 0 (by decide +kernel) (by decide +kernel) (wlkV (lkL_85 hG) _ rfl rfl) (j := 114) (by decide +kernel) ⟨Nat.le_of_ble_eq_true rfl, Nat.le_of_ble_eq_true rfl⟩ (hd 23 659 _ _ rfl) [.int a1, .int a2] (rest := [.int x1]) (by rfl) ⟨⟨114, by decide, rfl⟩, ⟨_, rfl, rf_in1 (by omega) (by omega), trivial⟩, ⟨_, rfl, hcon (by omega), trivial⟩, trivial⟩ (Nat.le_of_ble_eq_true rfl) hw1 (fr_pre hfr hf1 (by decide +kernel)) ⟨_, rfl, ⟨fun _ => rfl, fun _ => hcb⟩⟩ (fun x2 ws2 hw2 hf2 e2 => k_pc 662 rfl ?_)
      exact k_ceq c (hd 24 662 _ _ rfl) (tgt := 1413) (by decide) (Int32.toInt_inj.mp (e1.trans e2.symm)) (KK _)
    · skip
      refine k_al c (hd 0 634 _ _ rfl) (by rfl) (k_pc 635 rfl ?_)
      refine k_al c (hd 1 635 _ _ rfl) (by rfl) (k_pc 636 rfl ?_)
      refine k_il c (hd 2 636 _ _ rfl) (by rfl) (k_pc 637 rfl ?_)
      refine k_ic c (hd 3 637 _ _ rfl) (v := 1) (by decide) (k_pc 638 rfl ?_)
      refine k_addE c (hd 4 638 _ _ rfl) (k_pc 639 rfl ?_)
      refine k_sldE C (lw_in h0 h1 C.2.2.2.2.1 (by decide)) ea1 (hd 5 639 _ _ rfl) (k_pc 640 rfl ?_)
      refine k_al c (hd 6 640 _ _ rfl) (by rfl) (k_pc 641 rfl ?_)
      refine k_il c (hd 7 641 _ _ rfl) (by rfl) (k_pc 642 rfl ?_)
      refine k_ic c (hd 8 642 _ _ rfl) (v := 2) (by decide) (k_pc 643 rfl ?_)
      refine k_addE c (hd 9 643 _ _ rfl) (k_pc 644 rfl ?_)
      refine k_sldE C (lw_in h0 h1 C.2.2.2.2.1 (by decide)) ea2 (hd 10 644 _ _ rfl) (k_pc 645 rfl ?_)
      refine k_callC C (M := q187_M) (rf_metV_of (q187_met hG)) (-1) (by decide +kernel) (by decide +kernel) (wlkV (lkL_82 hG) _ rfl rfl) (j := 70) (by decide +kernel) ⟨Nat.le_of_ble_eq_true rfl, Nat.le_of_ble_eq_true rfl⟩ (hd 11 645 _ _ rfl) [.int a1, .int a2] (rest := []) (by rfl) ⟨⟨70, by decide, rfl⟩, ⟨_, rfl, rf_in_top _, trivial⟩, ⟨_, rfl, rf_in1 (by omega) (by omega), trivial⟩, trivial⟩ (Nat.le_of_ble_eq_true rfl) hw (fr_pre hfr (hframe_rf [] _) (by decide +kernel)) trivial (fun x1 ws1 hw1 hf1 e1 => k_pc 648 rfl ?_)
      refine k_al c (hd 12 648 _ _ rfl) (by rfl) (k_pc 649 rfl ?_)
      refine k_al c (hd 13 649 _ _ rfl) (by rfl) (k_pc 650 rfl ?_)
      refine k_il c (hd 14 650 _ _ rfl) (by rfl) (k_pc 651 rfl ?_)
      refine k_ic c (hd 15 651 _ _ rfl) (v := 1) (by decide) (k_pc 652 rfl ?_)
      refine k_addE c (hd 16 652 _ _ rfl) (k_pc 653 rfl ?_)
      refine k_sldE C (lw_in h0 h1 C.2.2.2.2.1 (by decide)) ea1 (hd 17 653 _ _ rfl) (k_pc 654 rfl ?_)
      refine k_al c (hd 18 654 _ _ rfl) (by rfl) (k_pc 655 rfl ?_)
      refine k_il c (hd 19 655 _ _ rfl) (by rfl) (k_pc 656 rfl ?_)
      refine k_ic c (hd 20 656 _ _ rfl) (v := 2) (by decide) (k_pc 657 rfl ?_)
      refine k_addE c (hd 21 657 _ _ rfl) (k_pc 658 rfl ?_)
      refine k_sldE C (lw_in h0 h1 C.2.2.2.2.1 (by decide)) ea2 (hd 22 658 _ _ rfl) (k_pc 659 rfl ?_)
      refine k_callC C (M := q189_M) (rf_metV_of (q189_met hG)) (-1) (by decide +kernel) (by decide +kernel) (wlkV (lkL_85 hG) _ rfl rfl) (j := 114) (by decide +kernel) ⟨Nat.le_of_ble_eq_true rfl, Nat.le_of_ble_eq_true rfl⟩ (hd 23 659 _ _ rfl) [.int a1, .int a2] (rest := [.int x1]) (by rfl) ⟨⟨114, by decide, rfl⟩, ⟨_, rfl, rf_in_top _, trivial⟩, ⟨_, rfl, rf_in1 (by omega) (by omega), trivial⟩, trivial⟩ (Nat.le_of_ble_eq_true rfl) hw1 (fr_pre hfr hf1 (by decide +kernel)) trivial (fun x2 ws2 hw2 hf2 e2 => k_pc 662 rfl ?_)
      exact k_ceq c (hd 24 662 _ _ rfl) (tgt := 1413) (by decide) (Int32.toInt_inj.mp (e1.trans e2.symm)) (KK _)
    · skip
      refine k_al c (hd 0 634 _ _ rfl) (by rfl) (k_pc 635 rfl ?_)
      refine k_al c (hd 1 635 _ _ rfl) (by rfl) (k_pc 636 rfl ?_)
      refine k_il c (hd 2 636 _ _ rfl) (by rfl) (k_pc 637 rfl ?_)
      refine k_ic c (hd 3 637 _ _ rfl) (v := 1) (by decide) (k_pc 638 rfl ?_)
      refine k_addE c (hd 4 638 _ _ rfl) (k_pc 639 rfl ?_)
      refine k_sldE C (lw_in h0 h1 C.2.2.2.2.1 (by decide)) ea1 (hd 5 639 _ _ rfl) (k_pc 640 rfl ?_)
      refine k_al c (hd 6 640 _ _ rfl) (by rfl) (k_pc 641 rfl ?_)
      refine k_il c (hd 7 641 _ _ rfl) (by rfl) (k_pc 642 rfl ?_)
      refine k_ic c (hd 8 642 _ _ rfl) (v := 2) (by decide) (k_pc 643 rfl ?_)
      refine k_addE c (hd 9 643 _ _ rfl) (k_pc 644 rfl ?_)
      refine k_sldE C (lw_in h0 h1 C.2.2.2.2.1 (by decide)) ea2 (hd 10 644 _ _ rfl) (k_pc 645 rfl ?_)
      refine k_callC C (M := q190_M) (rf_metV_of (q190_met hG)) (-1) (by decide +kernel) (by decide +kernel) (wlkV (lkL_82 hG) _ rfl rfl) (j := 70) (by decide +kernel) ⟨Nat.le_of_ble_eq_true rfl, Nat.le_of_ble_eq_true rfl⟩ (hd 11 645 _ _ rfl) [.int a1, .int a2] (rest := []) (by rfl) ⟨⟨70, by decide, rfl⟩, ⟨_, rfl, rf_in_top _, trivial⟩, ⟨_, rfl, rf_in1 (by omega) (by omega), trivial⟩, trivial⟩ (Nat.le_of_ble_eq_true rfl) hw (fr_pre hfr (hframe_rf [] _) (by decide +kernel)) trivial (fun x1 ws1 hw1 hf1 e1 => k_pc 648 rfl ?_)
      refine k_al c (hd 12 648 _ _ rfl) (by rfl) (k_pc 649 rfl ?_)
      refine k_al c (hd 13 649 _ _ rfl) (by rfl) (k_pc 650 rfl ?_)
      refine k_il c (hd 14 650 _ _ rfl) (by rfl) (k_pc 651 rfl ?_)
      refine k_ic c (hd 15 651 _ _ rfl) (v := 1) (by decide) (k_pc 652 rfl ?_)
      refine k_addE c (hd 16 652 _ _ rfl) (k_pc 653 rfl ?_)
      refine k_sldE C (lw_in h0 h1 C.2.2.2.2.1 (by decide)) ea1 (hd 17 653 _ _ rfl) (k_pc 654 rfl ?_)
      refine k_al c (hd 18 654 _ _ rfl) (by rfl) (k_pc 655 rfl ?_)
      refine k_il c (hd 19 655 _ _ rfl) (by rfl) (k_pc 656 rfl ?_)
      refine k_ic c (hd 20 656 _ _ rfl) (v := 2) (by decide) (k_pc 657 rfl ?_)
      refine k_addE c (hd 21 657 _ _ rfl) (k_pc 658 rfl ?_)
      refine k_sldE C (lw_in h0 h1 C.2.2.2.2.1 (by decide)) ea2 (hd 22 658 _ _ rfl) (k_pc 659 rfl ?_)
      refine k_callC C (M := q192_M) (rf_metV_of (q192_met hG)) (-1) (by decide +kernel) (by decide +kernel) (wlkV (lkL_85 hG) _ rfl rfl) (j := 114) (by decide +kernel) ⟨Nat.le_of_ble_eq_true rfl, Nat.le_of_ble_eq_true rfl⟩ (hd 23 659 _ _ rfl) [.int a1, .int a2] (rest := [.int x1]) (by rfl) ⟨⟨114, by decide, rfl⟩, ⟨_, rfl, rf_in_top _, trivial⟩, ⟨_, rfl, rf_in1 (by omega) (by omega), trivial⟩, trivial⟩ (Nat.le_of_ble_eq_true rfl) hw1 (fr_pre hfr hf1 (by decide +kernel)) trivial (fun x2 ws2 hw2 hf2 e2 => k_pc 662 rfl ?_)
      exact k_ceq c (hd 24 662 _ _ rfl) (tgt := 1413) (by decide) (Int32.toInt_inj.mp (e1.trans e2.symm)) (KK _)
  · skip
    refine k_al c (hd 0 634 _ _ rfl) (by rfl) (k_pc 635 rfl ?_)
    refine k_al c (hd 1 635 _ _ rfl) (by rfl) (k_pc 636 rfl ?_)
    refine k_il c (hd 2 636 _ _ rfl) (by rfl) (k_pc 637 rfl ?_)
    refine k_ic c (hd 3 637 _ _ rfl) (v := 1) (by decide) (k_pc 638 rfl ?_)
    refine k_addE c (hd 4 638 _ _ rfl) (k_pc 639 rfl ?_)
    refine k_sldE C (lw_in h0 h1 C.2.2.2.2.1 (by decide)) ea1 (hd 5 639 _ _ rfl) (k_pc 640 rfl ?_)
    refine k_al c (hd 6 640 _ _ rfl) (by rfl) (k_pc 641 rfl ?_)
    refine k_il c (hd 7 641 _ _ rfl) (by rfl) (k_pc 642 rfl ?_)
    refine k_ic c (hd 8 642 _ _ rfl) (v := 2) (by decide) (k_pc 643 rfl ?_)
    refine k_addE c (hd 9 643 _ _ rfl) (k_pc 644 rfl ?_)
    refine k_sldE C (lw_in h0 h1 C.2.2.2.2.1 (by decide)) ea2 (hd 10 644 _ _ rfl) (k_pc 645 rfl ?_)
    refine k_callC C (M := q166_M) (q166_met hG) (-1) (by decide +kernel) (by decide +kernel) (wlkV (lkL_82 hG) _ rfl rfl) (j := 70) (by decide +kernel) ⟨Nat.le_of_ble_eq_true rfl, Nat.le_of_ble_eq_true rfl⟩ (hd 11 645 _ _ rfl) [.int a1, .int a2] (rest := []) (by rfl) ⟨⟨70, by decide, rfl⟩, ⟨_, rfl, rf_in_top _, trivial⟩, ⟨_, rfl, rf_in_top _, trivial⟩, trivial⟩ (Nat.le_of_ble_eq_true rfl) hw (fr_pre hfr (hframe_rf [] _) (by decide +kernel)) ⟨_, rfl, ⟨fun h => absurd h hcb, fun h => absurd h (by decide)⟩⟩ (fun x1 ws1 hw1 hf1 e1 => k_pc 648 rfl ?_)
    refine k_al c (hd 12 648 _ _ rfl) (by rfl) (k_pc 649 rfl ?_)
    refine k_al c (hd 13 649 _ _ rfl) (by rfl) (k_pc 650 rfl ?_)
    refine k_il c (hd 14 650 _ _ rfl) (by rfl) (k_pc 651 rfl ?_)
    refine k_ic c (hd 15 651 _ _ rfl) (v := 1) (by decide) (k_pc 652 rfl ?_)
    refine k_addE c (hd 16 652 _ _ rfl) (k_pc 653 rfl ?_)
    refine k_sldE C (lw_in h0 h1 C.2.2.2.2.1 (by decide)) ea1 (hd 17 653 _ _ rfl) (k_pc 654 rfl ?_)
    refine k_al c (hd 18 654 _ _ rfl) (by rfl) (k_pc 655 rfl ?_)
    refine k_il c (hd 19 655 _ _ rfl) (by rfl) (k_pc 656 rfl ?_)
    refine k_ic c (hd 20 656 _ _ rfl) (v := 2) (by decide) (k_pc 657 rfl ?_)
    refine k_addE c (hd 21 657 _ _ rfl) (k_pc 658 rfl ?_)
    refine k_sldE C (lw_in h0 h1 C.2.2.2.2.1 (by decide)) ea2 (hd 22 658 _ _ rfl) (k_pc 659 rfl ?_)
    refine k_callC C (M := q167_M) (q167_met hG) (-1) (by decide +kernel) (by decide +kernel) (wlkV (lkL_85 hG) _ rfl rfl) (j := 114) (by decide +kernel) ⟨Nat.le_of_ble_eq_true rfl, Nat.le_of_ble_eq_true rfl⟩ (hd 23 659 _ _ rfl) [.int a1, .int a2] (rest := [.int x1]) (by rfl) ⟨⟨114, by decide, rfl⟩, ⟨_, rfl, rf_in_top _, trivial⟩, ⟨_, rfl, rf_in_top _, trivial⟩, trivial⟩ (Nat.le_of_ble_eq_true rfl) hw1 (fr_pre hfr hf1 (by decide +kernel)) ⟨_, rfl, ⟨fun h => absurd h hcb, fun h => absurd h (by decide)⟩⟩ (fun x2 ws2 hw2 hf2 e2 => k_pc 662 rfl ?_)
    exact k_ceq c (hd 24 662 _ _ rfl) (tgt := 1413) (by decide) (Int32.toInt_inj.mp (e1.trans e2.symm)) (KK _)
def ddL17 : List (Nat × Instr × Nat) := [(667, .aload_n 1, 1), (668, .aload_n 0, 1), (669, .iload_n 3, 1), (670, .iconst 1, 1), (671, .iadd, 1), (672, .iaload, 1), (673, .aload_n 0, 1), (674, .iload_n 3, 1), (675, .iconst 2, 1), (676, .iadd, 1), (677, .iaload, 1), (678, .invokevirtual 86, 3), (681, .aload_n 2, 1), (682, .aload_n 0, 1), (683, .iload_n 3, 1), (684, .iconst 1, 1), (685, .iadd, 1), (686, .iaload, 1), (687, .aload_n 0, 1), (688, .iload_n 3, 1), (689, .iconst 2, 1), (690, .iadd, 1), (691, .iaload, 1), (692, .invokevirtual 89, 3), (695, .if_icmp .eq 718, 3), (698, .iconst 0, 1), (699, .ireturn, 1)]
set_option maxRecDepth 100000 in
theorem dkL17 : rf_decs code ddL17 := rf_decs_of (by decide +kernel)
set_option maxHeartbeats 16000000 in
set_option maxRecDepth 100000 in
theorem lw_case17 {X : rfX} {G : rfG} {b Ln : Nat} {sc : Nat → Int32} {n sl : Nat} (C : lwC X G b Ln sc n sl) {i : Int32} (h0 : 0 ≤ i.toInt) (h1 : i.toInt + 5 < (Ln : Int)) (KK : ∀ ws', kW X n sl 1413 [(3, .int i), (2, .ref (G.2.1.1 114)), (1, .ref (G.2.1.1 70)), (0, .ref b)] [] ws') {ws : va_W} (hw : rf_world G.2.1.1 G.2.1.2.1 G.2.1.2.2.1 G.2.1.2.2.2 ws) (hfr : frOK (hv ws)) : kW X n sl 667 [(3, .int i), (2, .ref (G.2.1.1 114)), (1, .ref (G.2.1.1 70)), (0, .ref b)] [] ws := by
  have hG := C.1
  have c := C.2.2.1
  have hd : ∀ n pc i len, ddL17[n]? = some (pc, i, len) → decode code pc = .ok (i, len) := fun n pc i len h => hdk dkL17 n pc i len h
  obtain ⟨a1, ea1⟩ : ∃ a, sc (i + 1).toNatClampNeg = a := ⟨_, rfl⟩
  have r1 : -2147483648 ≤ a1.toInt ∧ a1.toInt ≤ 2147483647 := ⟨(rf_in_top a1).1, (rf_in_top a1).2.1⟩
  obtain ⟨a2, ea2⟩ : ∃ a, sc (i + 2).toNatClampNeg = a := ⟨_, rfl⟩
  have r2 : -2147483648 ≤ a2.toInt ∧ a2.toInt ≤ 2147483647 := ⟨(rf_in_top a2).1, (rf_in_top a2).2.1⟩
  by_cases hcb : cbI a1.toInt
  · have ra_ : 0 ≤ a1.toInt ∧ a1.toInt ≤ 387420488 := ⟨hcb.1, hcb.2.1⟩
    have hc_ : (0 ≤ a2.toInt ∧ a2.toInt ≤ 6) ∨ (a2.toInt ≤ (-1)) ∨ (7 ≤ a2.toInt) := by omega
    rcases hc_ with hc_ | hc_ | hc_
    · skip
      refine k_al c (hd 0 667 _ _ rfl) (by rfl) (k_pc 668 rfl ?_)
      refine k_al c (hd 1 668 _ _ rfl) (by rfl) (k_pc 669 rfl ?_)
      refine k_il c (hd 2 669 _ _ rfl) (by rfl) (k_pc 670 rfl ?_)
      refine k_ic c (hd 3 670 _ _ rfl) (v := 1) (by decide) (k_pc 671 rfl ?_)
      refine k_addE c (hd 4 671 _ _ rfl) (k_pc 672 rfl ?_)
      refine k_sldE C (lw_in h0 h1 C.2.2.2.2.1 (by decide)) ea1 (hd 5 672 _ _ rfl) (k_pc 673 rfl ?_)
      refine k_al c (hd 6 673 _ _ rfl) (by rfl) (k_pc 674 rfl ?_)
      refine k_il c (hd 7 674 _ _ rfl) (by rfl) (k_pc 675 rfl ?_)
      refine k_ic c (hd 8 675 _ _ rfl) (v := 2) (by decide) (k_pc 676 rfl ?_)
      refine k_addE c (hd 9 676 _ _ rfl) (k_pc 677 rfl ?_)
      refine k_sldE C (lw_in h0 h1 C.2.2.2.2.1 (by decide)) ea2 (hd 10 677 _ _ rfl) (k_pc 678 rfl ?_)
      refine k_callC C (M := q197_M) (q197_met hG) 0 (by decide +kernel) (by decide +kernel) (wlkV (lkL_86 hG) _ rfl rfl) (j := 70) (by decide +kernel) ⟨Nat.le_of_ble_eq_true rfl, Nat.le_of_ble_eq_true rfl⟩ (hd 11 678 _ _ rfl) [.int a1, .int a2] (rest := []) (by rfl) ⟨⟨70, by decide, rfl⟩, ⟨_, rfl, rf_in1 (by omega) (by omega), trivial⟩, ⟨_, rfl, rf_in1 (by omega) (by omega), trivial⟩, trivial⟩ (Nat.le_of_ble_eq_true rfl) hw (fr_pre hfr (hframe_rf [] _) (by decide +kernel)) ⟨_, rfl, ⟨fun _ => rfl, fun _ => hcb⟩⟩ (fun x1 ws1 hw1 hf1 e1 => k_pc 681 rfl ?_)
      refine k_al c (hd 12 681 _ _ rfl) (by rfl) (k_pc 682 rfl ?_)
      refine k_al c (hd 13 682 _ _ rfl) (by rfl) (k_pc 683 rfl ?_)
      refine k_il c (hd 14 683 _ _ rfl) (by rfl) (k_pc 684 rfl ?_)
      refine k_ic c (hd 15 684 _ _ rfl) (v := 1) (by decide) (k_pc 685 rfl ?_)
      refine k_addE c (hd 16 685 _ _ rfl) (k_pc 686 rfl ?_)
      refine k_sldE C (lw_in h0 h1 C.2.2.2.2.1 (by decide)) ea1 (hd 17 686 _ _ rfl) (k_pc 687 rfl ?_)
      refine k_al c (hd 18 687 _ _ rfl) (by rfl) (k_pc 688 rfl ?_)
      refine k_il c (hd 19 688 _ _ rfl) (by rfl) (k_pc 689 rfl ?_)
      refine k_ic c (hd 20 689 _ _ rfl) (v := 2) (by decide) (k_pc 690 rfl ?_)
      refine k_addE c (hd 21 690 _ _ rfl) (k_pc 691 rfl ?_)
      refine k_sldE C (lw_in h0 h1 C.2.2.2.2.1 (by decide)) ea2 (hd 22 691 _ _ rfl) (k_pc 692 rfl ?_)
      refine k_callC C (M := q202_M) (q202_met hG) 0 (by decide +kernel) (by decide +kernel) (wlkV (lkL_89 hG) _ rfl rfl) (j := 114) (by decide +kernel) ⟨Nat.le_of_ble_eq_true rfl, Nat.le_of_ble_eq_true rfl⟩ (hd 23 692 _ _ rfl) [.int a1, .int a2] (rest := [.int x1]) (by rfl) ⟨⟨114, by decide, rfl⟩, ⟨_, rfl, rf_in1 (by omega) (by omega), trivial⟩, ⟨_, rfl, rf_in1 (by omega) (by omega), trivial⟩, trivial⟩ (Nat.le_of_ble_eq_true rfl) hw1 (fr_pre hfr hf1 (by decide +kernel)) ⟨_, rfl, ⟨fun _ => rfl, fun _ => hcb⟩⟩ (fun x2 ws2 hw2 hf2 e2 => k_pc 695 rfl ?_)
      exact k_ceq c (hd 24 695 _ _ rfl) (tgt := 1413) (by decide) (Int32.toInt_inj.mp (e1.trans e2.symm)) (KK _)
    · skip
      refine k_al c (hd 0 667 _ _ rfl) (by rfl) (k_pc 668 rfl ?_)
      refine k_al c (hd 1 668 _ _ rfl) (by rfl) (k_pc 669 rfl ?_)
      refine k_il c (hd 2 669 _ _ rfl) (by rfl) (k_pc 670 rfl ?_)
      refine k_ic c (hd 3 670 _ _ rfl) (v := 1) (by decide) (k_pc 671 rfl ?_)
      refine k_addE c (hd 4 671 _ _ rfl) (k_pc 672 rfl ?_)
      refine k_sldE C (lw_in h0 h1 C.2.2.2.2.1 (by decide)) ea1 (hd 5 672 _ _ rfl) (k_pc 673 rfl ?_)
      refine k_al c (hd 6 673 _ _ rfl) (by rfl) (k_pc 674 rfl ?_)
      refine k_il c (hd 7 674 _ _ rfl) (by rfl) (k_pc 675 rfl ?_)
      refine k_ic c (hd 8 675 _ _ rfl) (v := 2) (by decide) (k_pc 676 rfl ?_)
      refine k_addE c (hd 9 676 _ _ rfl) (k_pc 677 rfl ?_)
      refine k_sldE C (lw_in h0 h1 C.2.2.2.2.1 (by decide)) ea2 (hd 10 677 _ _ rfl) (k_pc 678 rfl ?_)
      refine k_callC C (M := q204_M) (rf_metV_of (q204_met hG)) (-1) (by decide +kernel) (by decide +kernel) (wlkV (lkL_86 hG) _ rfl rfl) (j := 70) (by decide +kernel) ⟨Nat.le_of_ble_eq_true rfl, Nat.le_of_ble_eq_true rfl⟩ (hd 11 678 _ _ rfl) [.int a1, .int a2] (rest := []) (by rfl) ⟨⟨70, by decide, rfl⟩, ⟨_, rfl, rf_in_top _, trivial⟩, ⟨_, rfl, rf_in1 (by omega) (by omega), trivial⟩, trivial⟩ (Nat.le_of_ble_eq_true rfl) hw (fr_pre hfr (hframe_rf [] _) (by decide +kernel)) trivial (fun x1 ws1 hw1 hf1 e1 => k_pc 681 rfl ?_)
      refine k_al c (hd 12 681 _ _ rfl) (by rfl) (k_pc 682 rfl ?_)
      refine k_al c (hd 13 682 _ _ rfl) (by rfl) (k_pc 683 rfl ?_)
      refine k_il c (hd 14 683 _ _ rfl) (by rfl) (k_pc 684 rfl ?_)
      refine k_ic c (hd 15 684 _ _ rfl) (v := 1) (by decide) (k_pc 685 rfl ?_)
      refine k_addE c (hd 16 685 _ _ rfl) (k_pc 686 rfl ?_)
      refine k_sldE C (lw_in h0 h1 C.2.2.2.2.1 (by decide)) ea1 (hd 17 686 _ _ rfl) (k_pc 687 rfl ?_)
      refine k_al c (hd 18 687 _ _ rfl) (by rfl) (k_pc 688 rfl ?_)
      refine k_il c (hd 19 688 _ _ rfl) (by rfl) (k_pc 689 rfl ?_)
      refine k_ic c (hd 20 689 _ _ rfl) (v := 2) (by decide) (k_pc 690 rfl ?_)
      refine k_addE c (hd 21 690 _ _ rfl) (k_pc 691 rfl ?_)
      refine k_sldE C (lw_in h0 h1 C.2.2.2.2.1 (by decide)) ea2 (hd 22 691 _ _ rfl) (k_pc 692 rfl ?_)
      refine k_callC C (M := q206_M) (rf_metV_of (q206_met hG)) (-1) (by decide +kernel) (by decide +kernel) (wlkV (lkL_89 hG) _ rfl rfl) (j := 114) (by decide +kernel) ⟨Nat.le_of_ble_eq_true rfl, Nat.le_of_ble_eq_true rfl⟩ (hd 23 692 _ _ rfl) [.int a1, .int a2] (rest := [.int x1]) (by rfl) ⟨⟨114, by decide, rfl⟩, ⟨_, rfl, rf_in_top _, trivial⟩, ⟨_, rfl, rf_in1 (by omega) (by omega), trivial⟩, trivial⟩ (Nat.le_of_ble_eq_true rfl) hw1 (fr_pre hfr hf1 (by decide +kernel)) trivial (fun x2 ws2 hw2 hf2 e2 => k_pc 695 rfl ?_)
      exact k_ceq c (hd 24 695 _ _ rfl) (tgt := 1413) (by decide) (Int32.toInt_inj.mp (e1.trans e2.symm)) (KK _)
    · skip
      refine k_al c (hd 0 667 _ _ rfl) (by rfl) (k_pc 668 rfl ?_)
      refine k_al c (hd 1 668 _ _ rfl) (by rfl) (k_pc 669 rfl ?_)
      refine k_il c (hd 2 669 _ _ rfl) (by rfl) (k_pc 670 rfl ?_)
      refine k_ic c (hd 3 670 _ _ rfl) (v := 1) (by decide) (k_pc 671 rfl ?_)
      refine k_addE c (hd 4 671 _ _ rfl) (k_pc 672 rfl ?_)
      refine k_sldE C (lw_in h0 h1 C.2.2.2.2.1 (by decide)) ea1 (hd 5 672 _ _ rfl) (k_pc 673 rfl ?_)
      refine k_al c (hd 6 673 _ _ rfl) (by rfl) (k_pc 674 rfl ?_)
      refine k_il c (hd 7 674 _ _ rfl) (by rfl) (k_pc 675 rfl ?_)
      refine k_ic c (hd 8 675 _ _ rfl) (v := 2) (by decide) (k_pc 676 rfl ?_)
      refine k_addE c (hd 9 676 _ _ rfl) (k_pc 677 rfl ?_)
      refine k_sldE C (lw_in h0 h1 C.2.2.2.2.1 (by decide)) ea2 (hd 10 677 _ _ rfl) (k_pc 678 rfl ?_)
      refine k_callC C (M := q208_M) (rf_metV_of (q208_met hG)) (-1) (by decide +kernel) (by decide +kernel) (wlkV (lkL_86 hG) _ rfl rfl) (j := 70) (by decide +kernel) ⟨Nat.le_of_ble_eq_true rfl, Nat.le_of_ble_eq_true rfl⟩ (hd 11 678 _ _ rfl) [.int a1, .int a2] (rest := []) (by rfl) ⟨⟨70, by decide, rfl⟩, ⟨_, rfl, rf_in_top _, trivial⟩, ⟨_, rfl, rf_in1 (by omega) (by omega), trivial⟩, trivial⟩ (Nat.le_of_ble_eq_true rfl) hw (fr_pre hfr (hframe_rf [] _) (by decide +kernel)) trivial (fun x1 ws1 hw1 hf1 e1 => k_pc 681 rfl ?_)
      refine k_al c (hd 12 681 _ _ rfl) (by rfl) (k_pc 682 rfl ?_)
      refine k_al c (hd 13 682 _ _ rfl) (by rfl) (k_pc 683 rfl ?_)
      refine k_il c (hd 14 683 _ _ rfl) (by rfl) (k_pc 684 rfl ?_)
      refine k_ic c (hd 15 684 _ _ rfl) (v := 1) (by decide) (k_pc 685 rfl ?_)
      refine k_addE c (hd 16 685 _ _ rfl) (k_pc 686 rfl ?_)
      refine k_sldE C (lw_in h0 h1 C.2.2.2.2.1 (by decide)) ea1 (hd 17 686 _ _ rfl) (k_pc 687 rfl ?_)
      refine k_al c (hd 18 687 _ _ rfl) (by rfl) (k_pc 688 rfl ?_)
      refine k_il c (hd 19 688 _ _ rfl) (by rfl) (k_pc 689 rfl ?_)
      refine k_ic c (hd 20 689 _ _ rfl) (v := 2) (by decide) (k_pc 690 rfl ?_)
      refine k_addE c (hd 21 690 _ _ rfl) (k_pc 691 rfl ?_)
      refine k_sldE C (lw_in h0 h1 C.2.2.2.2.1 (by decide)) ea2 (hd 22 691 _ _ rfl) (k_pc 692 rfl ?_)
      refine k_callC C (M := q210_M) (rf_metV_of (q210_met hG)) (-1) (by decide +kernel) (by decide +kernel) (wlkV (lkL_89 hG) _ rfl rfl) (j := 114) (by decide +kernel) ⟨Nat.le_of_ble_eq_true rfl, Nat.le_of_ble_eq_true rfl⟩ (hd 23 692 _ _ rfl) [.int a1, .int a2] (rest := [.int x1]) (by rfl) ⟨⟨114, by decide, rfl⟩, ⟨_, rfl, rf_in_top _, trivial⟩, ⟨_, rfl, rf_in1 (by omega) (by omega), trivial⟩, trivial⟩ (Nat.le_of_ble_eq_true rfl) hw1 (fr_pre hfr hf1 (by decide +kernel)) trivial (fun x2 ws2 hw2 hf2 e2 => k_pc 695 rfl ?_)
      exact k_ceq c (hd 24 695 _ _ rfl) (tgt := 1413) (by decide) (Int32.toInt_inj.mp (e1.trans e2.symm)) (KK _)
  · skip
    refine k_al c (hd 0 667 _ _ rfl) (by rfl) (k_pc 668 rfl ?_)
    refine k_al c (hd 1 668 _ _ rfl) (by rfl) (k_pc 669 rfl ?_)
    refine k_il c (hd 2 669 _ _ rfl) (by rfl) (k_pc 670 rfl ?_)
    refine k_ic c (hd 3 670 _ _ rfl) (v := 1) (by decide) (k_pc 671 rfl ?_)
    refine k_addE c (hd 4 671 _ _ rfl) (k_pc 672 rfl ?_)
    refine k_sldE C (lw_in h0 h1 C.2.2.2.2.1 (by decide)) ea1 (hd 5 672 _ _ rfl) (k_pc 673 rfl ?_)
    refine k_al c (hd 6 673 _ _ rfl) (by rfl) (k_pc 674 rfl ?_)
    refine k_il c (hd 7 674 _ _ rfl) (by rfl) (k_pc 675 rfl ?_)
    refine k_ic c (hd 8 675 _ _ rfl) (v := 2) (by decide) (k_pc 676 rfl ?_)
    refine k_addE c (hd 9 676 _ _ rfl) (k_pc 677 rfl ?_)
    refine k_sldE C (lw_in h0 h1 C.2.2.2.2.1 (by decide)) ea2 (hd 10 677 _ _ rfl) (k_pc 678 rfl ?_)
    refine k_callC C (M := q193_M) (q193_met hG) (-1) (by decide +kernel) (by decide +kernel) (wlkV (lkL_86 hG) _ rfl rfl) (j := 70) (by decide +kernel) ⟨Nat.le_of_ble_eq_true rfl, Nat.le_of_ble_eq_true rfl⟩ (hd 11 678 _ _ rfl) [.int a1, .int a2] (rest := []) (by rfl) ⟨⟨70, by decide, rfl⟩, ⟨_, rfl, rf_in_top _, trivial⟩, ⟨_, rfl, rf_in_top _, trivial⟩, trivial⟩ (Nat.le_of_ble_eq_true rfl) hw (fr_pre hfr (hframe_rf [] _) (by decide +kernel)) ⟨_, rfl, ⟨fun h => absurd h hcb, fun h => absurd h (by decide)⟩⟩ (fun x1 ws1 hw1 hf1 e1 => k_pc 681 rfl ?_)
    refine k_al c (hd 12 681 _ _ rfl) (by rfl) (k_pc 682 rfl ?_)
    refine k_al c (hd 13 682 _ _ rfl) (by rfl) (k_pc 683 rfl ?_)
    refine k_il c (hd 14 683 _ _ rfl) (by rfl) (k_pc 684 rfl ?_)
    refine k_ic c (hd 15 684 _ _ rfl) (v := 1) (by decide) (k_pc 685 rfl ?_)
    refine k_addE c (hd 16 685 _ _ rfl) (k_pc 686 rfl ?_)
    refine k_sldE C (lw_in h0 h1 C.2.2.2.2.1 (by decide)) ea1 (hd 17 686 _ _ rfl) (k_pc 687 rfl ?_)
    refine k_al c (hd 18 687 _ _ rfl) (by rfl) (k_pc 688 rfl ?_)
    refine k_il c (hd 19 688 _ _ rfl) (by rfl) (k_pc 689 rfl ?_)
    refine k_ic c (hd 20 689 _ _ rfl) (v := 2) (by decide) (k_pc 690 rfl ?_)
    refine k_addE c (hd 21 690 _ _ rfl) (k_pc 691 rfl ?_)
    refine k_sldE C (lw_in h0 h1 C.2.2.2.2.1 (by decide)) ea2 (hd 22 691 _ _ rfl) (k_pc 692 rfl ?_)
    refine k_callC C (M := q194_M) (q194_met hG) (-1) (by decide +kernel) (by decide +kernel) (wlkV (lkL_89 hG) _ rfl rfl) (j := 114) (by decide +kernel) ⟨Nat.le_of_ble_eq_true rfl, Nat.le_of_ble_eq_true rfl⟩ (hd 23 692 _ _ rfl) [.int a1, .int a2] (rest := [.int x1]) (by rfl) ⟨⟨114, by decide, rfl⟩, ⟨_, rfl, rf_in_top _, trivial⟩, ⟨_, rfl, rf_in_top _, trivial⟩, trivial⟩ (Nat.le_of_ble_eq_true rfl) hw1 (fr_pre hfr hf1 (by decide +kernel)) ⟨_, rfl, ⟨fun h => absurd h hcb, fun h => absurd h (by decide)⟩⟩ (fun x2 ws2 hw2 hf2 e2 => k_pc 695 rfl ?_)
    exact k_ceq c (hd 24 695 _ _ rfl) (tgt := 1413) (by decide) (Int32.toInt_inj.mp (e1.trans e2.symm)) (KK _)
def ddL18 : List (Nat × Instr × Nat) := [(700, .aload_n 1, 1), (701, .aload_n 0, 1), (702, .iload_n 3, 1), (703, .iconst 1, 1), (704, .iadd, 1), (705, .iaload, 1), (706, .invokevirtual 90, 3), (709, .aload_n 2, 1), (710, .aload_n 0, 1), (711, .iload_n 3, 1), (712, .iconst 1, 1), (713, .iadd, 1), (714, .iaload, 1), (715, .invokevirtual 93, 3), (718, .if_icmp .eq 695, 3), (721, .iconst 0, 1), (722, .ireturn, 1)]
set_option maxRecDepth 100000 in
theorem dkL18 : rf_decs code ddL18 := rf_decs_of (by decide +kernel)
set_option maxHeartbeats 16000000 in
set_option maxRecDepth 100000 in
theorem lw_case18 {X : rfX} {G : rfG} {b Ln : Nat} {sc : Nat → Int32} {n sl : Nat} (C : lwC X G b Ln sc n sl) {i : Int32} (h0 : 0 ≤ i.toInt) (h1 : i.toInt + 5 < (Ln : Int)) (KK : ∀ ws', kW X n sl 1413 [(3, .int i), (2, .ref (G.2.1.1 114)), (1, .ref (G.2.1.1 70)), (0, .ref b)] [] ws') {ws : va_W} (hw : rf_world G.2.1.1 G.2.1.2.1 G.2.1.2.2.1 G.2.1.2.2.2 ws) (hfr : frOK (hv ws)) : kW X n sl 700 [(3, .int i), (2, .ref (G.2.1.1 114)), (1, .ref (G.2.1.1 70)), (0, .ref b)] [] ws := by
  have hG := C.1
  have c := C.2.2.1
  have hd : ∀ n pc i len, ddL18[n]? = some (pc, i, len) → decode code pc = .ok (i, len) := fun n pc i len h => hdk dkL18 n pc i len h
  obtain ⟨a1, ea1⟩ : ∃ a, sc (i + 1).toNatClampNeg = a := ⟨_, rfl⟩
  have r1 : -2147483648 ≤ a1.toInt ∧ a1.toInt ≤ 2147483647 := ⟨(rf_in_top a1).1, (rf_in_top a1).2.1⟩
  refine k_al c (hd 0 700 _ _ rfl) (by rfl) (k_pc 701 rfl ?_)
  refine k_al c (hd 1 701 _ _ rfl) (by rfl) (k_pc 702 rfl ?_)
  refine k_il c (hd 2 702 _ _ rfl) (by rfl) (k_pc 703 rfl ?_)
  refine k_ic c (hd 3 703 _ _ rfl) (v := 1) (by decide) (k_pc 704 rfl ?_)
  refine k_addE c (hd 4 704 _ _ rfl) (k_pc 705 rfl ?_)
  refine k_sldE C (lw_in h0 h1 C.2.2.2.2.1 (by decide)) ea1 (hd 5 705 _ _ rfl) (k_pc 706 rfl ?_)
  refine k_callC C (M := q214_M) (rf_metV_of (q214_met hG)) (-1) (by decide +kernel) (by decide +kernel) (wlkV (lkL_90 hG) _ rfl rfl) (j := 70) (by decide +kernel) ⟨Nat.le_of_ble_eq_true rfl, Nat.le_of_ble_eq_true rfl⟩ (hd 6 706 _ _ rfl) [.int a1] (rest := []) (by rfl) ⟨⟨70, by decide, rfl⟩, ⟨_, rfl, rf_in_top _, trivial⟩, trivial⟩ (Nat.le_of_ble_eq_true rfl) hw (fr_pre hfr (hframe_rf [] _) (by decide +kernel)) trivial (fun x1 ws1 hw1 hf1 e1 => k_pc 709 rfl ?_)
  refine k_al c (hd 7 709 _ _ rfl) (by rfl) (k_pc 710 rfl ?_)
  refine k_al c (hd 8 710 _ _ rfl) (by rfl) (k_pc 711 rfl ?_)
  refine k_il c (hd 9 711 _ _ rfl) (by rfl) (k_pc 712 rfl ?_)
  refine k_ic c (hd 10 712 _ _ rfl) (v := 1) (by decide) (k_pc 713 rfl ?_)
  refine k_addE c (hd 11 713 _ _ rfl) (k_pc 714 rfl ?_)
  refine k_sldE C (lw_in h0 h1 C.2.2.2.2.1 (by decide)) ea1 (hd 12 714 _ _ rfl) (k_pc 715 rfl ?_)
  refine k_callC C (M := q217_M) (rf_metV_of (q217_met hG)) (-1) (by decide +kernel) (by decide +kernel) (wlkV (lkL_93 hG) _ rfl rfl) (j := 114) (by decide +kernel) ⟨Nat.le_of_ble_eq_true rfl, Nat.le_of_ble_eq_true rfl⟩ (hd 13 715 _ _ rfl) [.int a1] (rest := [.int x1]) (by rfl) ⟨⟨114, by decide, rfl⟩, ⟨_, rfl, rf_in_top _, trivial⟩, trivial⟩ (Nat.le_of_ble_eq_true rfl) hw1 (fr_pre hfr hf1 (by decide +kernel)) trivial (fun x2 ws2 hw2 hf2 e2 => k_pc 718 rfl ?_)
  exact k_ceq c (hd 14 718 _ _ rfl) (tgt := 1413) (by decide) (Int32.toInt_inj.mp (e1.trans e2.symm)) (KK _)
def ddL19 : List (Nat × Instr × Nat) := [(723, .aload_n 1, 1), (724, .aload_n 0, 1), (725, .iload_n 3, 1), (726, .iconst 1, 1), (727, .iadd, 1), (728, .iaload, 1), (729, .aload_n 0, 1), (730, .iload_n 3, 1), (731, .iconst 2, 1), (732, .iadd, 1), (733, .iaload, 1), (734, .invokevirtual 94, 3), (737, .aload_n 2, 1), (738, .aload_n 0, 1), (739, .iload_n 3, 1), (740, .iconst 1, 1), (741, .iadd, 1), (742, .iaload, 1), (743, .aload_n 0, 1), (744, .iload_n 3, 1), (745, .iconst 2, 1), (746, .iadd, 1), (747, .iaload, 1), (748, .invokevirtual 97, 3), (751, .if_icmp .eq 662, 3), (754, .iconst 0, 1), (755, .ireturn, 1)]
set_option maxRecDepth 100000 in
theorem dkL19 : rf_decs code ddL19 := rf_decs_of (by decide +kernel)
set_option maxHeartbeats 16000000 in
set_option maxRecDepth 100000 in
theorem lw_case19 {X : rfX} {G : rfG} {b Ln : Nat} {sc : Nat → Int32} {n sl : Nat} (C : lwC X G b Ln sc n sl) {i : Int32} (h0 : 0 ≤ i.toInt) (h1 : i.toInt + 5 < (Ln : Int)) (KK : ∀ ws', kW X n sl 1413 [(3, .int i), (2, .ref (G.2.1.1 114)), (1, .ref (G.2.1.1 70)), (0, .ref b)] [] ws') {ws : va_W} (hw : rf_world G.2.1.1 G.2.1.2.1 G.2.1.2.2.1 G.2.1.2.2.2 ws) (hfr : frOK (hv ws)) : kW X n sl 723 [(3, .int i), (2, .ref (G.2.1.1 114)), (1, .ref (G.2.1.1 70)), (0, .ref b)] [] ws := by
  have hG := C.1
  have c := C.2.2.1
  have hd : ∀ n pc i len, ddL19[n]? = some (pc, i, len) → decode code pc = .ok (i, len) := fun n pc i len h => hdk dkL19 n pc i len h
  obtain ⟨a1, ea1⟩ : ∃ a, sc (i + 1).toNatClampNeg = a := ⟨_, rfl⟩
  have r1 : -2147483648 ≤ a1.toInt ∧ a1.toInt ≤ 2147483647 := ⟨(rf_in_top a1).1, (rf_in_top a1).2.1⟩
  obtain ⟨a2, ea2⟩ : ∃ a, sc (i + 2).toNatClampNeg = a := ⟨_, rfl⟩
  have r2 : -2147483648 ≤ a2.toInt ∧ a2.toInt ≤ 2147483647 := ⟨(rf_in_top a2).1, (rf_in_top a2).2.1⟩
  by_cases hcb : cbI a1.toInt
  · have ra_ : 0 ≤ a1.toInt ∧ a1.toInt ≤ 387420488 := ⟨hcb.1, hcb.2.1⟩
    have hc_ : (0 ≤ a2.toInt ∧ a2.toInt ≤ 6) ∨ (a2.toInt ≤ (-1)) ∨ (7 ≤ a2.toInt) := by omega
    rcases hc_ with hc_ | hc_ | hc_
    · skip
      refine k_al c (hd 0 723 _ _ rfl) (by rfl) (k_pc 724 rfl ?_)
      refine k_al c (hd 1 724 _ _ rfl) (by rfl) (k_pc 725 rfl ?_)
      refine k_il c (hd 2 725 _ _ rfl) (by rfl) (k_pc 726 rfl ?_)
      refine k_ic c (hd 3 726 _ _ rfl) (v := 1) (by decide) (k_pc 727 rfl ?_)
      refine k_addE c (hd 4 727 _ _ rfl) (k_pc 728 rfl ?_)
      refine k_sldE C (lw_in h0 h1 C.2.2.2.2.1 (by decide)) ea1 (hd 5 728 _ _ rfl) (k_pc 729 rfl ?_)
      refine k_al c (hd 6 729 _ _ rfl) (by rfl) (k_pc 730 rfl ?_)
      refine k_il c (hd 7 730 _ _ rfl) (by rfl) (k_pc 731 rfl ?_)
      refine k_ic c (hd 8 731 _ _ rfl) (v := 2) (by decide) (k_pc 732 rfl ?_)
      refine k_addE c (hd 9 732 _ _ rfl) (k_pc 733 rfl ?_)
      refine k_sldE C (lw_in h0 h1 C.2.2.2.2.1 (by decide)) ea2 (hd 10 733 _ _ rfl) (k_pc 734 rfl ?_)
      refine k_callC C (M := q221_M) (q221_met hG) 0 (by decide +kernel) (by decide +kernel) (wlkV (lkL_94 hG) _ rfl rfl) (j := 70) (by decide +kernel) ⟨Nat.le_of_ble_eq_true rfl, Nat.le_of_ble_eq_true rfl⟩ (hd 11 734 _ _ rfl) [.int a1, .int a2] (rest := []) (by rfl) ⟨⟨70, by decide, rfl⟩, ⟨_, rfl, rf_in1 (by omega) (by omega), trivial⟩, ⟨_, rfl, rf_in1 (by omega) (by omega), trivial⟩, trivial⟩ (Nat.le_of_ble_eq_true rfl) hw (fr_pre hfr (hframe_rf [] _) (by decide +kernel)) ⟨_, rfl, ⟨fun _ => rfl, fun _ => hcb⟩⟩ (fun x1 ws1 hw1 hf1 e1 => k_pc 737 rfl ?_)
      refine k_al c (hd 12 737 _ _ rfl) (by rfl) (k_pc 738 rfl ?_)
      refine k_al c (hd 13 738 _ _ rfl) (by rfl) (k_pc 739 rfl ?_)
      refine k_il c (hd 14 739 _ _ rfl) (by rfl) (k_pc 740 rfl ?_)
      refine k_ic c (hd 15 740 _ _ rfl) (v := 1) (by decide) (k_pc 741 rfl ?_)
      refine k_addE c (hd 16 741 _ _ rfl) (k_pc 742 rfl ?_)
      refine k_sldE C (lw_in h0 h1 C.2.2.2.2.1 (by decide)) ea1 (hd 17 742 _ _ rfl) (k_pc 743 rfl ?_)
      refine k_al c (hd 18 743 _ _ rfl) (by rfl) (k_pc 744 rfl ?_)
      refine k_il c (hd 19 744 _ _ rfl) (by rfl) (k_pc 745 rfl ?_)
      refine k_ic c (hd 20 745 _ _ rfl) (v := 2) (by decide) (k_pc 746 rfl ?_)
      refine k_addE c (hd 21 746 _ _ rfl) (k_pc 747 rfl ?_)
      refine k_sldE C (lw_in h0 h1 C.2.2.2.2.1 (by decide)) ea2 (hd 22 747 _ _ rfl) (k_pc 748 rfl ?_)
      refine k_callC C (M := q222_M) (q222_met hG) 0 (by decide +kernel) (by decide +kernel) (wlkV (lkL_97 hG) _ rfl rfl) (j := 114) (by decide +kernel) ⟨Nat.le_of_ble_eq_true rfl, Nat.le_of_ble_eq_true rfl⟩ (hd 23 748 _ _ rfl) [.int a1, .int a2] (rest := [.int x1]) (by rfl) ⟨⟨114, by decide, rfl⟩, ⟨_, rfl, rf_in1 (by omega) (by omega), trivial⟩, ⟨_, rfl, rf_in1 (by omega) (by omega), trivial⟩, trivial⟩ (Nat.le_of_ble_eq_true rfl) hw1 (fr_pre hfr hf1 (by decide +kernel)) ⟨_, rfl, ⟨fun _ => rfl, fun _ => hcb⟩⟩ (fun x2 ws2 hw2 hf2 e2 => k_pc 751 rfl ?_)
      exact k_ceq c (hd 24 751 _ _ rfl) (tgt := 1413) (by decide) (Int32.toInt_inj.mp (e1.trans e2.symm)) (KK _)
    · skip
      refine k_al c (hd 0 723 _ _ rfl) (by rfl) (k_pc 724 rfl ?_)
      refine k_al c (hd 1 724 _ _ rfl) (by rfl) (k_pc 725 rfl ?_)
      refine k_il c (hd 2 725 _ _ rfl) (by rfl) (k_pc 726 rfl ?_)
      refine k_ic c (hd 3 726 _ _ rfl) (v := 1) (by decide) (k_pc 727 rfl ?_)
      refine k_addE c (hd 4 727 _ _ rfl) (k_pc 728 rfl ?_)
      refine k_sldE C (lw_in h0 h1 C.2.2.2.2.1 (by decide)) ea1 (hd 5 728 _ _ rfl) (k_pc 729 rfl ?_)
      refine k_al c (hd 6 729 _ _ rfl) (by rfl) (k_pc 730 rfl ?_)
      refine k_il c (hd 7 730 _ _ rfl) (by rfl) (k_pc 731 rfl ?_)
      refine k_ic c (hd 8 731 _ _ rfl) (v := 2) (by decide) (k_pc 732 rfl ?_)
      refine k_addE c (hd 9 732 _ _ rfl) (k_pc 733 rfl ?_)
      refine k_sldE C (lw_in h0 h1 C.2.2.2.2.1 (by decide)) ea2 (hd 10 733 _ _ rfl) (k_pc 734 rfl ?_)
      refine k_callC C (M := q223_M) (rf_metV_of (q223_met hG)) (-1) (by decide +kernel) (by decide +kernel) (wlkV (lkL_94 hG) _ rfl rfl) (j := 70) (by decide +kernel) ⟨Nat.le_of_ble_eq_true rfl, Nat.le_of_ble_eq_true rfl⟩ (hd 11 734 _ _ rfl) [.int a1, .int a2] (rest := []) (by rfl) ⟨⟨70, by decide, rfl⟩, ⟨_, rfl, rf_in_top _, trivial⟩, ⟨_, rfl, rf_in1 (by omega) (by omega), trivial⟩, trivial⟩ (Nat.le_of_ble_eq_true rfl) hw (fr_pre hfr (hframe_rf [] _) (by decide +kernel)) trivial (fun x1 ws1 hw1 hf1 e1 => k_pc 737 rfl ?_)
      refine k_al c (hd 12 737 _ _ rfl) (by rfl) (k_pc 738 rfl ?_)
      refine k_al c (hd 13 738 _ _ rfl) (by rfl) (k_pc 739 rfl ?_)
      refine k_il c (hd 14 739 _ _ rfl) (by rfl) (k_pc 740 rfl ?_)
      refine k_ic c (hd 15 740 _ _ rfl) (v := 1) (by decide) (k_pc 741 rfl ?_)
      refine k_addE c (hd 16 741 _ _ rfl) (k_pc 742 rfl ?_)
      refine k_sldE C (lw_in h0 h1 C.2.2.2.2.1 (by decide)) ea1 (hd 17 742 _ _ rfl) (k_pc 743 rfl ?_)
      refine k_al c (hd 18 743 _ _ rfl) (by rfl) (k_pc 744 rfl ?_)
      refine k_il c (hd 19 744 _ _ rfl) (by rfl) (k_pc 745 rfl ?_)
      refine k_ic c (hd 20 745 _ _ rfl) (v := 2) (by decide) (k_pc 746 rfl ?_)
      refine k_addE c (hd 21 746 _ _ rfl) (k_pc 747 rfl ?_)
      refine k_sldE C (lw_in h0 h1 C.2.2.2.2.1 (by decide)) ea2 (hd 22 747 _ _ rfl) (k_pc 748 rfl ?_)
      refine k_callC C (M := q224_M) (rf_metV_of (q224_met hG)) (-1) (by decide +kernel) (by decide +kernel) (wlkV (lkL_97 hG) _ rfl rfl) (j := 114) (by decide +kernel) ⟨Nat.le_of_ble_eq_true rfl, Nat.le_of_ble_eq_true rfl⟩ (hd 23 748 _ _ rfl) [.int a1, .int a2] (rest := [.int x1]) (by rfl) ⟨⟨114, by decide, rfl⟩, ⟨_, rfl, rf_in_top _, trivial⟩, ⟨_, rfl, rf_in1 (by omega) (by omega), trivial⟩, trivial⟩ (Nat.le_of_ble_eq_true rfl) hw1 (fr_pre hfr hf1 (by decide +kernel)) trivial (fun x2 ws2 hw2 hf2 e2 => k_pc 751 rfl ?_)
      exact k_ceq c (hd 24 751 _ _ rfl) (tgt := 1413) (by decide) (Int32.toInt_inj.mp (e1.trans e2.symm)) (KK _)
    · skip
      refine k_al c (hd 0 723 _ _ rfl) (by rfl) (k_pc 724 rfl ?_)
      refine k_al c (hd 1 724 _ _ rfl) (by rfl) (k_pc 725 rfl ?_)
      refine k_il c (hd 2 725 _ _ rfl) (by rfl) (k_pc 726 rfl ?_)
      refine k_ic c (hd 3 726 _ _ rfl) (v := 1) (by decide) (k_pc 727 rfl ?_)
      refine k_addE c (hd 4 727 _ _ rfl) (k_pc 728 rfl ?_)
      refine k_sldE C (lw_in h0 h1 C.2.2.2.2.1 (by decide)) ea1 (hd 5 728 _ _ rfl) (k_pc 729 rfl ?_)
      refine k_al c (hd 6 729 _ _ rfl) (by rfl) (k_pc 730 rfl ?_)
      refine k_il c (hd 7 730 _ _ rfl) (by rfl) (k_pc 731 rfl ?_)
      refine k_ic c (hd 8 731 _ _ rfl) (v := 2) (by decide) (k_pc 732 rfl ?_)
      refine k_addE c (hd 9 732 _ _ rfl) (k_pc 733 rfl ?_)
      refine k_sldE C (lw_in h0 h1 C.2.2.2.2.1 (by decide)) ea2 (hd 10 733 _ _ rfl) (k_pc 734 rfl ?_)
      refine k_callC C (M := q225_M) (rf_metV_of (q225_met hG)) (-1) (by decide +kernel) (by decide +kernel) (wlkV (lkL_94 hG) _ rfl rfl) (j := 70) (by decide +kernel) ⟨Nat.le_of_ble_eq_true rfl, Nat.le_of_ble_eq_true rfl⟩ (hd 11 734 _ _ rfl) [.int a1, .int a2] (rest := []) (by rfl) ⟨⟨70, by decide, rfl⟩, ⟨_, rfl, rf_in_top _, trivial⟩, ⟨_, rfl, rf_in1 (by omega) (by omega), trivial⟩, trivial⟩ (Nat.le_of_ble_eq_true rfl) hw (fr_pre hfr (hframe_rf [] _) (by decide +kernel)) trivial (fun x1 ws1 hw1 hf1 e1 => k_pc 737 rfl ?_)
      refine k_al c (hd 12 737 _ _ rfl) (by rfl) (k_pc 738 rfl ?_)
      refine k_al c (hd 13 738 _ _ rfl) (by rfl) (k_pc 739 rfl ?_)
      refine k_il c (hd 14 739 _ _ rfl) (by rfl) (k_pc 740 rfl ?_)
      refine k_ic c (hd 15 740 _ _ rfl) (v := 1) (by decide) (k_pc 741 rfl ?_)
      refine k_addE c (hd 16 741 _ _ rfl) (k_pc 742 rfl ?_)
      refine k_sldE C (lw_in h0 h1 C.2.2.2.2.1 (by decide)) ea1 (hd 17 742 _ _ rfl) (k_pc 743 rfl ?_)
      refine k_al c (hd 18 743 _ _ rfl) (by rfl) (k_pc 744 rfl ?_)
      refine k_il c (hd 19 744 _ _ rfl) (by rfl) (k_pc 745 rfl ?_)
      refine k_ic c (hd 20 745 _ _ rfl) (v := 2) (by decide) (k_pc 746 rfl ?_)
      refine k_addE c (hd 21 746 _ _ rfl) (k_pc 747 rfl ?_)
      refine k_sldE C (lw_in h0 h1 C.2.2.2.2.1 (by decide)) ea2 (hd 22 747 _ _ rfl) (k_pc 748 rfl ?_)
      refine k_callC C (M := q226_M) (rf_metV_of (q226_met hG)) (-1) (by decide +kernel) (by decide +kernel) (wlkV (lkL_97 hG) _ rfl rfl) (j := 114) (by decide +kernel) ⟨Nat.le_of_ble_eq_true rfl, Nat.le_of_ble_eq_true rfl⟩ (hd 23 748 _ _ rfl) [.int a1, .int a2] (rest := [.int x1]) (by rfl) ⟨⟨114, by decide, rfl⟩, ⟨_, rfl, rf_in_top _, trivial⟩, ⟨_, rfl, rf_in1 (by omega) (by omega), trivial⟩, trivial⟩ (Nat.le_of_ble_eq_true rfl) hw1 (fr_pre hfr hf1 (by decide +kernel)) trivial (fun x2 ws2 hw2 hf2 e2 => k_pc 751 rfl ?_)
      exact k_ceq c (hd 24 751 _ _ rfl) (tgt := 1413) (by decide) (Int32.toInt_inj.mp (e1.trans e2.symm)) (KK _)
  · skip
    refine k_al c (hd 0 723 _ _ rfl) (by rfl) (k_pc 724 rfl ?_)
    refine k_al c (hd 1 724 _ _ rfl) (by rfl) (k_pc 725 rfl ?_)
    refine k_il c (hd 2 725 _ _ rfl) (by rfl) (k_pc 726 rfl ?_)
    refine k_ic c (hd 3 726 _ _ rfl) (v := 1) (by decide) (k_pc 727 rfl ?_)
    refine k_addE c (hd 4 727 _ _ rfl) (k_pc 728 rfl ?_)
    refine k_sldE C (lw_in h0 h1 C.2.2.2.2.1 (by decide)) ea1 (hd 5 728 _ _ rfl) (k_pc 729 rfl ?_)
    refine k_al c (hd 6 729 _ _ rfl) (by rfl) (k_pc 730 rfl ?_)
    refine k_il c (hd 7 730 _ _ rfl) (by rfl) (k_pc 731 rfl ?_)
    refine k_ic c (hd 8 731 _ _ rfl) (v := 2) (by decide) (k_pc 732 rfl ?_)
    refine k_addE c (hd 9 732 _ _ rfl) (k_pc 733 rfl ?_)
    refine k_sldE C (lw_in h0 h1 C.2.2.2.2.1 (by decide)) ea2 (hd 10 733 _ _ rfl) (k_pc 734 rfl ?_)
    refine k_callC C (M := q218_M) (q218_met hG) (-1) (by decide +kernel) (by decide +kernel) (wlkV (lkL_94 hG) _ rfl rfl) (j := 70) (by decide +kernel) ⟨Nat.le_of_ble_eq_true rfl, Nat.le_of_ble_eq_true rfl⟩ (hd 11 734 _ _ rfl) [.int a1, .int a2] (rest := []) (by rfl) ⟨⟨70, by decide, rfl⟩, ⟨_, rfl, rf_in_top _, trivial⟩, ⟨_, rfl, rf_in_top _, trivial⟩, trivial⟩ (Nat.le_of_ble_eq_true rfl) hw (fr_pre hfr (hframe_rf [] _) (by decide +kernel)) ⟨_, rfl, ⟨fun h => absurd h hcb, fun h => absurd h (by decide)⟩⟩ (fun x1 ws1 hw1 hf1 e1 => k_pc 737 rfl ?_)
    refine k_al c (hd 12 737 _ _ rfl) (by rfl) (k_pc 738 rfl ?_)
    refine k_al c (hd 13 738 _ _ rfl) (by rfl) (k_pc 739 rfl ?_)
    refine k_il c (hd 14 739 _ _ rfl) (by rfl) (k_pc 740 rfl ?_)
    refine k_ic c (hd 15 740 _ _ rfl) (v := 1) (by decide) (k_pc 741 rfl ?_)
    refine k_addE c (hd 16 741 _ _ rfl) (k_pc 742 rfl ?_)
    refine k_sldE C (lw_in h0 h1 C.2.2.2.2.1 (by decide)) ea1 (hd 17 742 _ _ rfl) (k_pc 743 rfl ?_)
    refine k_al c (hd 18 743 _ _ rfl) (by rfl) (k_pc 744 rfl ?_)
    refine k_il c (hd 19 744 _ _ rfl) (by rfl) (k_pc 745 rfl ?_)
    refine k_ic c (hd 20 745 _ _ rfl) (v := 2) (by decide) (k_pc 746 rfl ?_)
    refine k_addE c (hd 21 746 _ _ rfl) (k_pc 747 rfl ?_)
    refine k_sldE C (lw_in h0 h1 C.2.2.2.2.1 (by decide)) ea2 (hd 22 747 _ _ rfl) (k_pc 748 rfl ?_)
    refine k_callC C (M := q219_M) (q219_met hG) (-1) (by decide +kernel) (by decide +kernel) (wlkV (lkL_97 hG) _ rfl rfl) (j := 114) (by decide +kernel) ⟨Nat.le_of_ble_eq_true rfl, Nat.le_of_ble_eq_true rfl⟩ (hd 23 748 _ _ rfl) [.int a1, .int a2] (rest := [.int x1]) (by rfl) ⟨⟨114, by decide, rfl⟩, ⟨_, rfl, rf_in_top _, trivial⟩, ⟨_, rfl, rf_in_top _, trivial⟩, trivial⟩ (Nat.le_of_ble_eq_true rfl) hw1 (fr_pre hfr hf1 (by decide +kernel)) ⟨_, rfl, ⟨fun h => absurd h hcb, fun h => absurd h (by decide)⟩⟩ (fun x2 ws2 hw2 hf2 e2 => k_pc 751 rfl ?_)
    exact k_ceq c (hd 24 751 _ _ rfl) (tgt := 1413) (by decide) (Int32.toInt_inj.mp (e1.trans e2.symm)) (KK _)
def ddL20 : List (Nat × Instr × Nat) := [(756, .aload_n 1, 1), (757, .aload_n 0, 1), (758, .iload_n 3, 1), (759, .iconst 1, 1), (760, .iadd, 1), (761, .iaload, 1), (762, .aload_n 0, 1), (763, .iload_n 3, 1), (764, .iconst 2, 1), (765, .iadd, 1), (766, .iaload, 1), (767, .invokevirtual 98, 3), (770, .aload_n 2, 1), (771, .aload_n 0, 1), (772, .iload_n 3, 1), (773, .iconst 1, 1), (774, .iadd, 1), (775, .iaload, 1), (776, .aload_n 0, 1), (777, .iload_n 3, 1), (778, .iconst 2, 1), (779, .iadd, 1), (780, .iaload, 1), (781, .invokevirtual 101, 3), (784, .if_icmp .eq 629, 3), (787, .iconst 0, 1), (788, .ireturn, 1)]
set_option maxRecDepth 100000 in
theorem dkL20 : rf_decs code ddL20 := rf_decs_of (by decide +kernel)
set_option maxHeartbeats 16000000 in
set_option maxRecDepth 100000 in
theorem lw_case20 {X : rfX} {G : rfG} {b Ln : Nat} {sc : Nat → Int32} {n sl : Nat} (C : lwC X G b Ln sc n sl) {i : Int32} (h0 : 0 ≤ i.toInt) (h1 : i.toInt + 5 < (Ln : Int)) (KK : ∀ ws', kW X n sl 1413 [(3, .int i), (2, .ref (G.2.1.1 114)), (1, .ref (G.2.1.1 70)), (0, .ref b)] [] ws') {ws : va_W} (hw : rf_world G.2.1.1 G.2.1.2.1 G.2.1.2.2.1 G.2.1.2.2.2 ws) (hfr : frOK (hv ws)) : kW X n sl 756 [(3, .int i), (2, .ref (G.2.1.1 114)), (1, .ref (G.2.1.1 70)), (0, .ref b)] [] ws := by
  have hG := C.1
  have c := C.2.2.1
  have hd : ∀ n pc i len, ddL20[n]? = some (pc, i, len) → decode code pc = .ok (i, len) := fun n pc i len h => hdk dkL20 n pc i len h
  obtain ⟨a1, ea1⟩ : ∃ a, sc (i + 1).toNatClampNeg = a := ⟨_, rfl⟩
  have r1 : -2147483648 ≤ a1.toInt ∧ a1.toInt ≤ 2147483647 := ⟨(rf_in_top a1).1, (rf_in_top a1).2.1⟩
  obtain ⟨a2, ea2⟩ : ∃ a, sc (i + 2).toNatClampNeg = a := ⟨_, rfl⟩
  have r2 : -2147483648 ≤ a2.toInt ∧ a2.toInt ≤ 2147483647 := ⟨(rf_in_top a2).1, (rf_in_top a2).2.1⟩
  refine k_al c (hd 0 756 _ _ rfl) (by rfl) (k_pc 757 rfl ?_)
  refine k_al c (hd 1 757 _ _ rfl) (by rfl) (k_pc 758 rfl ?_)
  refine k_il c (hd 2 758 _ _ rfl) (by rfl) (k_pc 759 rfl ?_)
  refine k_ic c (hd 3 759 _ _ rfl) (v := 1) (by decide) (k_pc 760 rfl ?_)
  refine k_addE c (hd 4 760 _ _ rfl) (k_pc 761 rfl ?_)
  refine k_sldE C (lw_in h0 h1 C.2.2.2.2.1 (by decide)) ea1 (hd 5 761 _ _ rfl) (k_pc 762 rfl ?_)
  refine k_al c (hd 6 762 _ _ rfl) (by rfl) (k_pc 763 rfl ?_)
  refine k_il c (hd 7 763 _ _ rfl) (by rfl) (k_pc 764 rfl ?_)
  refine k_ic c (hd 8 764 _ _ rfl) (v := 2) (by decide) (k_pc 765 rfl ?_)
  refine k_addE c (hd 9 765 _ _ rfl) (k_pc 766 rfl ?_)
  refine k_sldE C (lw_in h0 h1 C.2.2.2.2.1 (by decide)) ea2 (hd 10 766 _ _ rfl) (k_pc 767 rfl ?_)
  refine k_callC C (M := q228_M) (rf_metV_of (q228_met hG)) (-1) (by decide +kernel) (by decide +kernel) (wlkV (lkL_98 hG) _ rfl rfl) (j := 70) (by decide +kernel) ⟨Nat.le_of_ble_eq_true rfl, Nat.le_of_ble_eq_true rfl⟩ (hd 11 767 _ _ rfl) [.int a1, .int a2] (rest := []) (by rfl) ⟨⟨70, by decide, rfl⟩, ⟨_, rfl, rf_in_top _, trivial⟩, ⟨_, rfl, rf_in_top _, trivial⟩, trivial⟩ (Nat.le_of_ble_eq_true rfl) hw (fr_pre hfr (hframe_rf [] _) (by decide +kernel)) trivial (fun x1 ws1 hw1 hf1 e1 => k_pc 770 rfl ?_)
  refine k_al c (hd 12 770 _ _ rfl) (by rfl) (k_pc 771 rfl ?_)
  refine k_al c (hd 13 771 _ _ rfl) (by rfl) (k_pc 772 rfl ?_)
  refine k_il c (hd 14 772 _ _ rfl) (by rfl) (k_pc 773 rfl ?_)
  refine k_ic c (hd 15 773 _ _ rfl) (v := 1) (by decide) (k_pc 774 rfl ?_)
  refine k_addE c (hd 16 774 _ _ rfl) (k_pc 775 rfl ?_)
  refine k_sldE C (lw_in h0 h1 C.2.2.2.2.1 (by decide)) ea1 (hd 17 775 _ _ rfl) (k_pc 776 rfl ?_)
  refine k_al c (hd 18 776 _ _ rfl) (by rfl) (k_pc 777 rfl ?_)
  refine k_il c (hd 19 777 _ _ rfl) (by rfl) (k_pc 778 rfl ?_)
  refine k_ic c (hd 20 778 _ _ rfl) (v := 2) (by decide) (k_pc 779 rfl ?_)
  refine k_addE c (hd 21 779 _ _ rfl) (k_pc 780 rfl ?_)
  refine k_sldE C (lw_in h0 h1 C.2.2.2.2.1 (by decide)) ea2 (hd 22 780 _ _ rfl) (k_pc 781 rfl ?_)
  refine k_callC C (M := q230_M) (rf_metV_of (q230_met hG)) (-1) (by decide +kernel) (by decide +kernel) (wlkV (lkL_101 hG) _ rfl rfl) (j := 114) (by decide +kernel) ⟨Nat.le_of_ble_eq_true rfl, Nat.le_of_ble_eq_true rfl⟩ (hd 23 781 _ _ rfl) [.int a1, .int a2] (rest := [.int x1]) (by rfl) ⟨⟨114, by decide, rfl⟩, ⟨_, rfl, rf_in_top _, trivial⟩, ⟨_, rfl, rf_in_top _, trivial⟩, trivial⟩ (Nat.le_of_ble_eq_true rfl) hw1 (fr_pre hfr hf1 (by decide +kernel)) trivial (fun x2 ws2 hw2 hf2 e2 => k_pc 784 rfl ?_)
  exact k_ceq c (hd 24 784 _ _ rfl) (tgt := 1413) (by decide) (Int32.toInt_inj.mp (e1.trans e2.symm)) (KK _)
def ddL21 : List (Nat × Instr × Nat) := [(789, .aload_n 1, 1), (790, .aload_n 0, 1), (791, .iload_n 3, 1), (792, .iconst 1, 1), (793, .iadd, 1), (794, .iaload, 1), (795, .aload_n 0, 1), (796, .iload_n 3, 1), (797, .iconst 2, 1), (798, .iadd, 1), (799, .iaload, 1), (800, .invokevirtual 102, 3), (803, .aload_n 2, 1), (804, .aload_n 0, 1), (805, .iload_n 3, 1), (806, .iconst 1, 1), (807, .iadd, 1), (808, .iaload, 1), (809, .aload_n 0, 1), (810, .iload_n 3, 1), (811, .iconst 2, 1), (812, .iadd, 1), (813, .iaload, 1), (814, .invokevirtual 105, 3), (817, .if_icmp .eq 596, 3), (820, .iconst 0, 1), (821, .ireturn, 1)]
set_option maxRecDepth 100000 in
theorem dkL21 : rf_decs code ddL21 := rf_decs_of (by decide +kernel)
set_option maxHeartbeats 16000000 in
set_option maxRecDepth 100000 in
theorem lw_case21 {X : rfX} {G : rfG} {b Ln : Nat} {sc : Nat → Int32} {n sl : Nat} (C : lwC X G b Ln sc n sl) {i : Int32} (h0 : 0 ≤ i.toInt) (h1 : i.toInt + 5 < (Ln : Int)) (KK : ∀ ws', kW X n sl 1413 [(3, .int i), (2, .ref (G.2.1.1 114)), (1, .ref (G.2.1.1 70)), (0, .ref b)] [] ws') {ws : va_W} (hw : rf_world G.2.1.1 G.2.1.2.1 G.2.1.2.2.1 G.2.1.2.2.2 ws) (hfr : frOK (hv ws)) : kW X n sl 789 [(3, .int i), (2, .ref (G.2.1.1 114)), (1, .ref (G.2.1.1 70)), (0, .ref b)] [] ws := by
  have hG := C.1
  have c := C.2.2.1
  have hd : ∀ n pc i len, ddL21[n]? = some (pc, i, len) → decode code pc = .ok (i, len) := fun n pc i len h => hdk dkL21 n pc i len h
  obtain ⟨a1, ea1⟩ : ∃ a, sc (i + 1).toNatClampNeg = a := ⟨_, rfl⟩
  have r1 : -2147483648 ≤ a1.toInt ∧ a1.toInt ≤ 2147483647 := ⟨(rf_in_top a1).1, (rf_in_top a1).2.1⟩
  obtain ⟨a2, ea2⟩ : ∃ a, sc (i + 2).toNatClampNeg = a := ⟨_, rfl⟩
  have r2 : -2147483648 ≤ a2.toInt ∧ a2.toInt ≤ 2147483647 := ⟨(rf_in_top a2).1, (rf_in_top a2).2.1⟩
  refine k_al c (hd 0 789 _ _ rfl) (by rfl) (k_pc 790 rfl ?_)
  refine k_al c (hd 1 790 _ _ rfl) (by rfl) (k_pc 791 rfl ?_)
  refine k_il c (hd 2 791 _ _ rfl) (by rfl) (k_pc 792 rfl ?_)
  refine k_ic c (hd 3 792 _ _ rfl) (v := 1) (by decide) (k_pc 793 rfl ?_)
  refine k_addE c (hd 4 793 _ _ rfl) (k_pc 794 rfl ?_)
  refine k_sldE C (lw_in h0 h1 C.2.2.2.2.1 (by decide)) ea1 (hd 5 794 _ _ rfl) (k_pc 795 rfl ?_)
  refine k_al c (hd 6 795 _ _ rfl) (by rfl) (k_pc 796 rfl ?_)
  refine k_il c (hd 7 796 _ _ rfl) (by rfl) (k_pc 797 rfl ?_)
  refine k_ic c (hd 8 797 _ _ rfl) (v := 2) (by decide) (k_pc 798 rfl ?_)
  refine k_addE c (hd 9 798 _ _ rfl) (k_pc 799 rfl ?_)
  refine k_sldE C (lw_in h0 h1 C.2.2.2.2.1 (by decide)) ea2 (hd 10 799 _ _ rfl) (k_pc 800 rfl ?_)
  refine k_callC C (M := q231_M) (rf_metV_of (q231_met hG)) (-1) (by decide +kernel) (by decide +kernel) (wlkV (lkL_102 hG) _ rfl rfl) (j := 70) (by decide +kernel) ⟨Nat.le_of_ble_eq_true rfl, Nat.le_of_ble_eq_true rfl⟩ (hd 11 800 _ _ rfl) [.int a1, .int a2] (rest := []) (by rfl) ⟨⟨70, by decide, rfl⟩, ⟨_, rfl, rf_in_top _, trivial⟩, ⟨_, rfl, rf_in_top _, trivial⟩, trivial⟩ (Nat.le_of_ble_eq_true rfl) hw (fr_pre hfr (hframe_rf [] _) (by decide +kernel)) trivial (fun x1 ws1 hw1 hf1 e1 => k_pc 803 rfl ?_)
  refine k_al c (hd 12 803 _ _ rfl) (by rfl) (k_pc 804 rfl ?_)
  refine k_al c (hd 13 804 _ _ rfl) (by rfl) (k_pc 805 rfl ?_)
  refine k_il c (hd 14 805 _ _ rfl) (by rfl) (k_pc 806 rfl ?_)
  refine k_ic c (hd 15 806 _ _ rfl) (v := 1) (by decide) (k_pc 807 rfl ?_)
  refine k_addE c (hd 16 807 _ _ rfl) (k_pc 808 rfl ?_)
  refine k_sldE C (lw_in h0 h1 C.2.2.2.2.1 (by decide)) ea1 (hd 17 808 _ _ rfl) (k_pc 809 rfl ?_)
  refine k_al c (hd 18 809 _ _ rfl) (by rfl) (k_pc 810 rfl ?_)
  refine k_il c (hd 19 810 _ _ rfl) (by rfl) (k_pc 811 rfl ?_)
  refine k_ic c (hd 20 811 _ _ rfl) (v := 2) (by decide) (k_pc 812 rfl ?_)
  refine k_addE c (hd 21 812 _ _ rfl) (k_pc 813 rfl ?_)
  refine k_sldE C (lw_in h0 h1 C.2.2.2.2.1 (by decide)) ea2 (hd 22 813 _ _ rfl) (k_pc 814 rfl ?_)
  refine k_callC C (M := q233_M) (rf_metV_of (q233_met hG)) (-1) (by decide +kernel) (by decide +kernel) (wlkV (lkL_105 hG) _ rfl rfl) (j := 114) (by decide +kernel) ⟨Nat.le_of_ble_eq_true rfl, Nat.le_of_ble_eq_true rfl⟩ (hd 23 814 _ _ rfl) [.int a1, .int a2] (rest := [.int x1]) (by rfl) ⟨⟨114, by decide, rfl⟩, ⟨_, rfl, rf_in_top _, trivial⟩, ⟨_, rfl, rf_in_top _, trivial⟩, trivial⟩ (Nat.le_of_ble_eq_true rfl) hw1 (fr_pre hfr hf1 (by decide +kernel)) trivial (fun x2 ws2 hw2 hf2 e2 => k_pc 817 rfl ?_)
  exact k_ceq c (hd 24 817 _ _ rfl) (tgt := 1413) (by decide) (Int32.toInt_inj.mp (e1.trans e2.symm)) (KK _)
def ddL22 : List (Nat × Instr × Nat) := [(822, .aload_n 1, 1), (823, .invokevirtual 106, 3), (826, .aload_n 2, 1), (827, .invokevirtual 109, 3), (830, .if_icmp .eq 583, 3), (833, .iconst 0, 1), (834, .ireturn, 1)]
set_option maxRecDepth 100000 in
theorem dkL22 : rf_decs code ddL22 := rf_decs_of (by decide +kernel)
set_option maxHeartbeats 16000000 in
set_option maxRecDepth 100000 in
theorem lw_case22 {X : rfX} {G : rfG} {b Ln : Nat} {sc : Nat → Int32} {n sl : Nat} (C : lwC X G b Ln sc n sl) {i : Int32} (h0 : 0 ≤ i.toInt) (h1 : i.toInt + 5 < (Ln : Int)) (KK : ∀ ws', kW X n sl 1413 [(3, .int i), (2, .ref (G.2.1.1 114)), (1, .ref (G.2.1.1 70)), (0, .ref b)] [] ws') {ws : va_W} (hw : rf_world G.2.1.1 G.2.1.2.1 G.2.1.2.2.1 G.2.1.2.2.2 ws) (hfr : frOK (hv ws)) : kW X n sl 822 [(3, .int i), (2, .ref (G.2.1.1 114)), (1, .ref (G.2.1.1 70)), (0, .ref b)] [] ws := by
  have hG := C.1
  have c := C.2.2.1
  have hd : ∀ n pc i len, ddL22[n]? = some (pc, i, len) → decode code pc = .ok (i, len) := fun n pc i len h => hdk dkL22 n pc i len h
  refine k_al c (hd 0 822 _ _ rfl) (by rfl) (k_pc 823 rfl ?_)
  refine k_callC C (M := q236_M) (rf_metV_of (q236_met hG)) 0 (by decide +kernel) (by decide +kernel) (wlkV (lkL_106 hG) _ rfl rfl) (j := 70) (by decide +kernel) ⟨Nat.le_of_ble_eq_true rfl, Nat.le_of_ble_eq_true rfl⟩ (hd 1 823 _ _ rfl) [] (rest := []) (by rfl) ⟨⟨70, by decide, rfl⟩, trivial⟩ (Nat.le_of_ble_eq_true rfl) hw (fr_pre hfr (hframe_rf [] _) (by decide +kernel)) trivial (fun x1 ws1 hw1 hf1 e1 => k_pc 826 rfl ?_)
  refine k_al c (hd 2 826 _ _ rfl) (by rfl) (k_pc 827 rfl ?_)
  refine k_callC C (M := q238_M) (rf_metV_of (q238_met hG)) 0 (by decide +kernel) (by decide +kernel) (wlkV (lkL_109 hG) _ rfl rfl) (j := 114) (by decide +kernel) ⟨Nat.le_of_ble_eq_true rfl, Nat.le_of_ble_eq_true rfl⟩ (hd 3 827 _ _ rfl) [] (rest := [.int x1]) (by rfl) ⟨⟨114, by decide, rfl⟩, trivial⟩ (Nat.le_of_ble_eq_true rfl) hw1 (fr_pre hfr hf1 (by decide +kernel)) trivial (fun x2 ws2 hw2 hf2 e2 => k_pc 830 rfl ?_)
  exact k_ceq c (hd 4 830 _ _ rfl) (tgt := 1413) (by decide) (Int32.toInt_inj.mp (e1.trans e2.symm)) (KK _)
def ddL23 : List (Nat × Instr × Nat) := [(835, .aload_n 1, 1), (836, .invokevirtual 110, 3), (839, .aload_n 2, 1), (840, .invokevirtual 113, 3), (843, .if_icmp .eq 570, 3), (846, .iconst 0, 1), (847, .ireturn, 1)]
set_option maxRecDepth 100000 in
theorem dkL23 : rf_decs code ddL23 := rf_decs_of (by decide +kernel)
set_option maxHeartbeats 16000000 in
set_option maxRecDepth 100000 in
theorem lw_case23 {X : rfX} {G : rfG} {b Ln : Nat} {sc : Nat → Int32} {n sl : Nat} (C : lwC X G b Ln sc n sl) {i : Int32} (h0 : 0 ≤ i.toInt) (h1 : i.toInt + 5 < (Ln : Int)) (KK : ∀ ws', kW X n sl 1413 [(3, .int i), (2, .ref (G.2.1.1 114)), (1, .ref (G.2.1.1 70)), (0, .ref b)] [] ws') {ws : va_W} (hw : rf_world G.2.1.1 G.2.1.2.1 G.2.1.2.2.1 G.2.1.2.2.2 ws) (hfr : frOK (hv ws)) : kW X n sl 835 [(3, .int i), (2, .ref (G.2.1.1 114)), (1, .ref (G.2.1.1 70)), (0, .ref b)] [] ws := by
  have hG := C.1
  have c := C.2.2.1
  have hd : ∀ n pc i len, ddL23[n]? = some (pc, i, len) → decode code pc = .ok (i, len) := fun n pc i len h => hdk dkL23 n pc i len h
  refine k_al c (hd 0 835 _ _ rfl) (by rfl) (k_pc 836 rfl ?_)
  refine k_callC C (M := q240_M) (rf_metV_of (q240_met hG)) 1 (by decide +kernel) (by decide +kernel) (wlkV (lkL_110 hG) _ rfl rfl) (j := 70) (by decide +kernel) ⟨Nat.le_of_ble_eq_true rfl, Nat.le_of_ble_eq_true rfl⟩ (hd 1 836 _ _ rfl) [] (rest := []) (by rfl) ⟨⟨70, by decide, rfl⟩, trivial⟩ (Nat.le_of_ble_eq_true rfl) hw (fr_pre hfr (hframe_rf [] _) (by decide +kernel)) trivial (fun x1 ws1 hw1 hf1 e1 => k_pc 839 rfl ?_)
  refine k_al c (hd 2 839 _ _ rfl) (by rfl) (k_pc 840 rfl ?_)
  refine k_callC C (M := q241_M) (rf_metV_of (q241_met hG)) 1 (by decide +kernel) (by decide +kernel) (wlkV (lkL_113 hG) _ rfl rfl) (j := 114) (by decide +kernel) ⟨Nat.le_of_ble_eq_true rfl, Nat.le_of_ble_eq_true rfl⟩ (hd 3 840 _ _ rfl) [] (rest := [.int x1]) (by rfl) ⟨⟨114, by decide, rfl⟩, trivial⟩ (Nat.le_of_ble_eq_true rfl) hw1 (fr_pre hfr hf1 (by decide +kernel)) trivial (fun x2 ws2 hw2 hf2 e2 => k_pc 843 rfl ?_)
  exact k_ceq c (hd 4 843 _ _ rfl) (tgt := 1413) (by decide) (Int32.toInt_inj.mp (e1.trans e2.symm)) (KK _)
def ddL24 : List (Nat × Instr × Nat) := [(848, .aload_n 1, 1), (849, .aload_n 0, 1), (850, .iload_n 3, 1), (851, .iconst 1, 1), (852, .iadd, 1), (853, .iaload, 1), (854, .invokevirtual 114, 3), (857, .aload_n 2, 1), (858, .aload_n 0, 1), (859, .iload_n 3, 1), (860, .iconst 1, 1), (861, .iadd, 1), (862, .iaload, 1), (863, .invokevirtual 117, 3), (866, .if_icmp .eq 547, 3), (869, .iconst 0, 1), (870, .ireturn, 1)]
set_option maxRecDepth 100000 in
theorem dkL24 : rf_decs code ddL24 := rf_decs_of (by decide +kernel)
set_option maxHeartbeats 16000000 in
set_option maxRecDepth 100000 in
theorem lw_case24 {X : rfX} {G : rfG} {b Ln : Nat} {sc : Nat → Int32} {n sl : Nat} (C : lwC X G b Ln sc n sl) {i : Int32} (h0 : 0 ≤ i.toInt) (h1 : i.toInt + 5 < (Ln : Int)) (KK : ∀ ws', kW X n sl 1413 [(3, .int i), (2, .ref (G.2.1.1 114)), (1, .ref (G.2.1.1 70)), (0, .ref b)] [] ws') {ws : va_W} (hw : rf_world G.2.1.1 G.2.1.2.1 G.2.1.2.2.1 G.2.1.2.2.2 ws) (hfr : frOK (hv ws)) : kW X n sl 848 [(3, .int i), (2, .ref (G.2.1.1 114)), (1, .ref (G.2.1.1 70)), (0, .ref b)] [] ws := by
  have hG := C.1
  have c := C.2.2.1
  have hd : ∀ n pc i len, ddL24[n]? = some (pc, i, len) → decode code pc = .ok (i, len) := fun n pc i len h => hdk dkL24 n pc i len h
  obtain ⟨a1, ea1⟩ : ∃ a, sc (i + 1).toNatClampNeg = a := ⟨_, rfl⟩
  have r1 : -2147483648 ≤ a1.toInt ∧ a1.toInt ≤ 2147483647 := ⟨(rf_in_top a1).1, (rf_in_top a1).2.1⟩
  have hc_ : (a1.toInt ≤ (-1)) ∨ (0 ≤ a1.toInt ∧ a1.toInt ≤ 2) ∨ (3 ≤ a1.toInt) := by omega
  rcases hc_ with hc_ | hc_ | hc_
  · skip
    refine k_al c (hd 0 848 _ _ rfl) (by rfl) (k_pc 849 rfl ?_)
    refine k_al c (hd 1 849 _ _ rfl) (by rfl) (k_pc 850 rfl ?_)
    refine k_il c (hd 2 850 _ _ rfl) (by rfl) (k_pc 851 rfl ?_)
    refine k_ic c (hd 3 851 _ _ rfl) (v := 1) (by decide) (k_pc 852 rfl ?_)
    refine k_addE c (hd 4 852 _ _ rfl) (k_pc 853 rfl ?_)
    refine k_sldE C (lw_in h0 h1 C.2.2.2.2.1 (by decide)) ea1 (hd 5 853 _ _ rfl) (k_pc 854 rfl ?_)
    refine k_callC C (M := q242_M) (rf_metV_of (q242_met hG)) (-1) (by decide +kernel) (by decide +kernel) (wlkV (lkL_114 hG) _ rfl rfl) (j := 70) (by decide +kernel) ⟨Nat.le_of_ble_eq_true rfl, Nat.le_of_ble_eq_true rfl⟩ (hd 6 854 _ _ rfl) [.int a1] (rest := []) (by rfl) ⟨⟨70, by decide, rfl⟩, ⟨_, rfl, rf_in1 (by omega) (by omega), trivial⟩, trivial⟩ (Nat.le_of_ble_eq_true rfl) hw (fr_pre hfr (hframe_rf [] _) (by decide +kernel)) trivial (fun x1 ws1 hw1 hf1 e1 => k_pc 857 rfl ?_)
    refine k_al c (hd 7 857 _ _ rfl) (by rfl) (k_pc 858 rfl ?_)
    refine k_al c (hd 8 858 _ _ rfl) (by rfl) (k_pc 859 rfl ?_)
    refine k_il c (hd 9 859 _ _ rfl) (by rfl) (k_pc 860 rfl ?_)
    refine k_ic c (hd 10 860 _ _ rfl) (v := 1) (by decide) (k_pc 861 rfl ?_)
    refine k_addE c (hd 11 861 _ _ rfl) (k_pc 862 rfl ?_)
    refine k_sldE C (lw_in h0 h1 C.2.2.2.2.1 (by decide)) ea1 (hd 12 862 _ _ rfl) (k_pc 863 rfl ?_)
    refine k_callC C (M := q243_M) (rf_metV_of (q243_met hG)) (-1) (by decide +kernel) (by decide +kernel) (wlkV (lkL_117 hG) _ rfl rfl) (j := 114) (by decide +kernel) ⟨Nat.le_of_ble_eq_true rfl, Nat.le_of_ble_eq_true rfl⟩ (hd 13 863 _ _ rfl) [.int a1] (rest := [.int x1]) (by rfl) ⟨⟨114, by decide, rfl⟩, ⟨_, rfl, rf_in1 (by omega) (by omega), trivial⟩, trivial⟩ (Nat.le_of_ble_eq_true rfl) hw1 (fr_pre hfr hf1 (by decide +kernel)) trivial (fun x2 ws2 hw2 hf2 e2 => k_pc 866 rfl ?_)
    exact k_ceq c (hd 14 866 _ _ rfl) (tgt := 1413) (by decide) (Int32.toInt_inj.mp (e1.trans e2.symm)) (KK _)
  · skip
    refine k_al c (hd 0 848 _ _ rfl) (by rfl) (k_pc 849 rfl ?_)
    refine k_al c (hd 1 849 _ _ rfl) (by rfl) (k_pc 850 rfl ?_)
    refine k_il c (hd 2 850 _ _ rfl) (by rfl) (k_pc 851 rfl ?_)
    refine k_ic c (hd 3 851 _ _ rfl) (v := 1) (by decide) (k_pc 852 rfl ?_)
    refine k_addE c (hd 4 852 _ _ rfl) (k_pc 853 rfl ?_)
    refine k_sldE C (lw_in h0 h1 C.2.2.2.2.1 (by decide)) ea1 (hd 5 853 _ _ rfl) (k_pc 854 rfl ?_)
    refine k_callC C (M := q244_M) (rf_metV_of (q244_met hG)) (-1) (by decide +kernel) (by decide +kernel) (wlkV (lkL_114 hG) _ rfl rfl) (j := 70) (by decide +kernel) ⟨Nat.le_of_ble_eq_true rfl, Nat.le_of_ble_eq_true rfl⟩ (hd 6 854 _ _ rfl) [.int a1] (rest := []) (by rfl) ⟨⟨70, by decide, rfl⟩, ⟨_, rfl, rf_in1 (by omega) (by omega), trivial⟩, trivial⟩ (Nat.le_of_ble_eq_true rfl) hw (fr_pre hfr (hframe_rf [] _) (by decide +kernel)) trivial (fun x1 ws1 hw1 hf1 e1 => k_pc 857 rfl ?_)
    refine k_al c (hd 7 857 _ _ rfl) (by rfl) (k_pc 858 rfl ?_)
    refine k_al c (hd 8 858 _ _ rfl) (by rfl) (k_pc 859 rfl ?_)
    refine k_il c (hd 9 859 _ _ rfl) (by rfl) (k_pc 860 rfl ?_)
    refine k_ic c (hd 10 860 _ _ rfl) (v := 1) (by decide) (k_pc 861 rfl ?_)
    refine k_addE c (hd 11 861 _ _ rfl) (k_pc 862 rfl ?_)
    refine k_sldE C (lw_in h0 h1 C.2.2.2.2.1 (by decide)) ea1 (hd 12 862 _ _ rfl) (k_pc 863 rfl ?_)
    refine k_callC C (M := q246_M) (rf_metV_of (q246_met hG)) (-1) (by decide +kernel) (by decide +kernel) (wlkV (lkL_117 hG) _ rfl rfl) (j := 114) (by decide +kernel) ⟨Nat.le_of_ble_eq_true rfl, Nat.le_of_ble_eq_true rfl⟩ (hd 13 863 _ _ rfl) [.int a1] (rest := [.int x1]) (by rfl) ⟨⟨114, by decide, rfl⟩, ⟨_, rfl, rf_in1 (by omega) (by omega), trivial⟩, trivial⟩ (Nat.le_of_ble_eq_true rfl) hw1 (fr_pre hfr hf1 (by decide +kernel)) trivial (fun x2 ws2 hw2 hf2 e2 => k_pc 866 rfl ?_)
    exact k_ceq c (hd 14 866 _ _ rfl) (tgt := 1413) (by decide) (Int32.toInt_inj.mp (e1.trans e2.symm)) (KK _)
  · skip
    refine k_al c (hd 0 848 _ _ rfl) (by rfl) (k_pc 849 rfl ?_)
    refine k_al c (hd 1 849 _ _ rfl) (by rfl) (k_pc 850 rfl ?_)
    refine k_il c (hd 2 850 _ _ rfl) (by rfl) (k_pc 851 rfl ?_)
    refine k_ic c (hd 3 851 _ _ rfl) (v := 1) (by decide) (k_pc 852 rfl ?_)
    refine k_addE c (hd 4 852 _ _ rfl) (k_pc 853 rfl ?_)
    refine k_sldE C (lw_in h0 h1 C.2.2.2.2.1 (by decide)) ea1 (hd 5 853 _ _ rfl) (k_pc 854 rfl ?_)
    refine k_callC C (M := q247_M) (rf_metV_of (q247_met hG)) (-1) (by decide +kernel) (by decide +kernel) (wlkV (lkL_114 hG) _ rfl rfl) (j := 70) (by decide +kernel) ⟨Nat.le_of_ble_eq_true rfl, Nat.le_of_ble_eq_true rfl⟩ (hd 6 854 _ _ rfl) [.int a1] (rest := []) (by rfl) ⟨⟨70, by decide, rfl⟩, ⟨_, rfl, rf_in1 (by omega) (by omega), trivial⟩, trivial⟩ (Nat.le_of_ble_eq_true rfl) hw (fr_pre hfr (hframe_rf [] _) (by decide +kernel)) trivial (fun x1 ws1 hw1 hf1 e1 => k_pc 857 rfl ?_)
    refine k_al c (hd 7 857 _ _ rfl) (by rfl) (k_pc 858 rfl ?_)
    refine k_al c (hd 8 858 _ _ rfl) (by rfl) (k_pc 859 rfl ?_)
    refine k_il c (hd 9 859 _ _ rfl) (by rfl) (k_pc 860 rfl ?_)
    refine k_ic c (hd 10 860 _ _ rfl) (v := 1) (by decide) (k_pc 861 rfl ?_)
    refine k_addE c (hd 11 861 _ _ rfl) (k_pc 862 rfl ?_)
    refine k_sldE C (lw_in h0 h1 C.2.2.2.2.1 (by decide)) ea1 (hd 12 862 _ _ rfl) (k_pc 863 rfl ?_)
    refine k_callC C (M := q248_M) (rf_metV_of (q248_met hG)) (-1) (by decide +kernel) (by decide +kernel) (wlkV (lkL_117 hG) _ rfl rfl) (j := 114) (by decide +kernel) ⟨Nat.le_of_ble_eq_true rfl, Nat.le_of_ble_eq_true rfl⟩ (hd 13 863 _ _ rfl) [.int a1] (rest := [.int x1]) (by rfl) ⟨⟨114, by decide, rfl⟩, ⟨_, rfl, rf_in1 (by omega) (by omega), trivial⟩, trivial⟩ (Nat.le_of_ble_eq_true rfl) hw1 (fr_pre hfr hf1 (by decide +kernel)) trivial (fun x2 ws2 hw2 hf2 e2 => k_pc 866 rfl ?_)
    exact k_ceq c (hd 14 866 _ _ rfl) (tgt := 1413) (by decide) (Int32.toInt_inj.mp (e1.trans e2.symm)) (KK _)
def ddL25 : List (Nat × Instr × Nat) := [(871, .aload_n 1, 1), (872, .aload_n 0, 1), (873, .iload_n 3, 1), (874, .iconst 1, 1), (875, .iadd, 1), (876, .iaload, 1), (877, .invokevirtual 118, 3), (880, .aload_n 2, 1), (881, .aload_n 0, 1), (882, .iload_n 3, 1), (883, .iconst 1, 1), (884, .iadd, 1), (885, .iaload, 1), (886, .invokevirtual 121, 3), (889, .if_icmp .eq 524, 3), (892, .iconst 0, 1), (893, .ireturn, 1)]
set_option maxRecDepth 100000 in
theorem dkL25 : rf_decs code ddL25 := rf_decs_of (by decide +kernel)
set_option maxHeartbeats 16000000 in
set_option maxRecDepth 100000 in
theorem lw_case25 {X : rfX} {G : rfG} {b Ln : Nat} {sc : Nat → Int32} {n sl : Nat} (C : lwC X G b Ln sc n sl) {i : Int32} (h0 : 0 ≤ i.toInt) (h1 : i.toInt + 5 < (Ln : Int)) (KK : ∀ ws', kW X n sl 1413 [(3, .int i), (2, .ref (G.2.1.1 114)), (1, .ref (G.2.1.1 70)), (0, .ref b)] [] ws') {ws : va_W} (hw : rf_world G.2.1.1 G.2.1.2.1 G.2.1.2.2.1 G.2.1.2.2.2 ws) (hfr : frOK (hv ws)) : kW X n sl 871 [(3, .int i), (2, .ref (G.2.1.1 114)), (1, .ref (G.2.1.1 70)), (0, .ref b)] [] ws := by
  have hG := C.1
  have c := C.2.2.1
  have hd : ∀ n pc i len, ddL25[n]? = some (pc, i, len) → decode code pc = .ok (i, len) := fun n pc i len h => hdk dkL25 n pc i len h
  obtain ⟨a1, ea1⟩ : ∃ a, sc (i + 1).toNatClampNeg = a := ⟨_, rfl⟩
  have r1 : -2147483648 ≤ a1.toInt ∧ a1.toInt ≤ 2147483647 := ⟨(rf_in_top a1).1, (rf_in_top a1).2.1⟩
  have hc_ : (a1.toInt ≤ (-1)) ∨ (0 ≤ a1.toInt ∧ a1.toInt ≤ 6) ∨ (7 ≤ a1.toInt) := by omega
  rcases hc_ with hc_ | hc_ | hc_
  · skip
    refine k_al c (hd 0 871 _ _ rfl) (by rfl) (k_pc 872 rfl ?_)
    refine k_al c (hd 1 872 _ _ rfl) (by rfl) (k_pc 873 rfl ?_)
    refine k_il c (hd 2 873 _ _ rfl) (by rfl) (k_pc 874 rfl ?_)
    refine k_ic c (hd 3 874 _ _ rfl) (v := 1) (by decide) (k_pc 875 rfl ?_)
    refine k_addE c (hd 4 875 _ _ rfl) (k_pc 876 rfl ?_)
    refine k_sldE C (lw_in h0 h1 C.2.2.2.2.1 (by decide)) ea1 (hd 5 876 _ _ rfl) (k_pc 877 rfl ?_)
    refine k_callC C (M := q249_M) (rf_metV_of (q249_met hG)) (-1) (by decide +kernel) (by decide +kernel) (wlkV (lkL_118 hG) _ rfl rfl) (j := 70) (by decide +kernel) ⟨Nat.le_of_ble_eq_true rfl, Nat.le_of_ble_eq_true rfl⟩ (hd 6 877 _ _ rfl) [.int a1] (rest := []) (by rfl) ⟨⟨70, by decide, rfl⟩, ⟨_, rfl, rf_in1 (by omega) (by omega), trivial⟩, trivial⟩ (Nat.le_of_ble_eq_true rfl) hw (fr_pre hfr (hframe_rf [] _) (by decide +kernel)) trivial (fun x1 ws1 hw1 hf1 e1 => k_pc 880 rfl ?_)
    refine k_al c (hd 7 880 _ _ rfl) (by rfl) (k_pc 881 rfl ?_)
    refine k_al c (hd 8 881 _ _ rfl) (by rfl) (k_pc 882 rfl ?_)
    refine k_il c (hd 9 882 _ _ rfl) (by rfl) (k_pc 883 rfl ?_)
    refine k_ic c (hd 10 883 _ _ rfl) (v := 1) (by decide) (k_pc 884 rfl ?_)
    refine k_addE c (hd 11 884 _ _ rfl) (k_pc 885 rfl ?_)
    refine k_sldE C (lw_in h0 h1 C.2.2.2.2.1 (by decide)) ea1 (hd 12 885 _ _ rfl) (k_pc 886 rfl ?_)
    refine k_callC C (M := q250_M) (rf_metV_of (q250_met hG)) (-1) (by decide +kernel) (by decide +kernel) (wlkV (lkL_121 hG) _ rfl rfl) (j := 114) (by decide +kernel) ⟨Nat.le_of_ble_eq_true rfl, Nat.le_of_ble_eq_true rfl⟩ (hd 13 886 _ _ rfl) [.int a1] (rest := [.int x1]) (by rfl) ⟨⟨114, by decide, rfl⟩, ⟨_, rfl, rf_in1 (by omega) (by omega), trivial⟩, trivial⟩ (Nat.le_of_ble_eq_true rfl) hw1 (fr_pre hfr hf1 (by decide +kernel)) trivial (fun x2 ws2 hw2 hf2 e2 => k_pc 889 rfl ?_)
    exact k_ceq c (hd 14 889 _ _ rfl) (tgt := 1413) (by decide) (Int32.toInt_inj.mp (e1.trans e2.symm)) (KK _)
  · skip
    refine k_al c (hd 0 871 _ _ rfl) (by rfl) (k_pc 872 rfl ?_)
    refine k_al c (hd 1 872 _ _ rfl) (by rfl) (k_pc 873 rfl ?_)
    refine k_il c (hd 2 873 _ _ rfl) (by rfl) (k_pc 874 rfl ?_)
    refine k_ic c (hd 3 874 _ _ rfl) (v := 1) (by decide) (k_pc 875 rfl ?_)
    refine k_addE c (hd 4 875 _ _ rfl) (k_pc 876 rfl ?_)
    refine k_sldE C (lw_in h0 h1 C.2.2.2.2.1 (by decide)) ea1 (hd 5 876 _ _ rfl) (k_pc 877 rfl ?_)
    refine k_callC C (M := q255_M) (rf_metV_of (q255_met hG)) 0 (by decide +kernel) (by decide +kernel) (wlkV (lkL_118 hG) _ rfl rfl) (j := 70) (by decide +kernel) ⟨Nat.le_of_ble_eq_true rfl, Nat.le_of_ble_eq_true rfl⟩ (hd 6 877 _ _ rfl) [.int a1] (rest := []) (by rfl) ⟨⟨70, by decide, rfl⟩, ⟨_, rfl, rf_in1 (by omega) (by omega), trivial⟩, trivial⟩ (Nat.le_of_ble_eq_true rfl) hw (fr_pre hfr (hframe_rf [] _) (by decide +kernel)) trivial (fun x1 ws1 hw1 hf1 e1 => k_pc 880 rfl ?_)
    refine k_al c (hd 7 880 _ _ rfl) (by rfl) (k_pc 881 rfl ?_)
    refine k_al c (hd 8 881 _ _ rfl) (by rfl) (k_pc 882 rfl ?_)
    refine k_il c (hd 9 882 _ _ rfl) (by rfl) (k_pc 883 rfl ?_)
    refine k_ic c (hd 10 883 _ _ rfl) (v := 1) (by decide) (k_pc 884 rfl ?_)
    refine k_addE c (hd 11 884 _ _ rfl) (k_pc 885 rfl ?_)
    refine k_sldE C (lw_in h0 h1 C.2.2.2.2.1 (by decide)) ea1 (hd 12 885 _ _ rfl) (k_pc 886 rfl ?_)
    refine k_callC C (M := q258_M) (rf_metV_of (q258_met hG)) 0 (by decide +kernel) (by decide +kernel) (wlkV (lkL_121 hG) _ rfl rfl) (j := 114) (by decide +kernel) ⟨Nat.le_of_ble_eq_true rfl, Nat.le_of_ble_eq_true rfl⟩ (hd 13 886 _ _ rfl) [.int a1] (rest := [.int x1]) (by rfl) ⟨⟨114, by decide, rfl⟩, ⟨_, rfl, rf_in1 (by omega) (by omega), trivial⟩, trivial⟩ (Nat.le_of_ble_eq_true rfl) hw1 (fr_pre hfr hf1 (by decide +kernel)) trivial (fun x2 ws2 hw2 hf2 e2 => k_pc 889 rfl ?_)
    exact k_ceq c (hd 14 889 _ _ rfl) (tgt := 1413) (by decide) (Int32.toInt_inj.mp (e1.trans e2.symm)) (KK _)
  · skip
    refine k_al c (hd 0 871 _ _ rfl) (by rfl) (k_pc 872 rfl ?_)
    refine k_al c (hd 1 872 _ _ rfl) (by rfl) (k_pc 873 rfl ?_)
    refine k_il c (hd 2 873 _ _ rfl) (by rfl) (k_pc 874 rfl ?_)
    refine k_ic c (hd 3 874 _ _ rfl) (v := 1) (by decide) (k_pc 875 rfl ?_)
    refine k_addE c (hd 4 875 _ _ rfl) (k_pc 876 rfl ?_)
    refine k_sldE C (lw_in h0 h1 C.2.2.2.2.1 (by decide)) ea1 (hd 5 876 _ _ rfl) (k_pc 877 rfl ?_)
    refine k_callC C (M := q259_M) (rf_metV_of (q259_met hG)) (-1) (by decide +kernel) (by decide +kernel) (wlkV (lkL_118 hG) _ rfl rfl) (j := 70) (by decide +kernel) ⟨Nat.le_of_ble_eq_true rfl, Nat.le_of_ble_eq_true rfl⟩ (hd 6 877 _ _ rfl) [.int a1] (rest := []) (by rfl) ⟨⟨70, by decide, rfl⟩, ⟨_, rfl, rf_in1 (by omega) (by omega), trivial⟩, trivial⟩ (Nat.le_of_ble_eq_true rfl) hw (fr_pre hfr (hframe_rf [] _) (by decide +kernel)) trivial (fun x1 ws1 hw1 hf1 e1 => k_pc 880 rfl ?_)
    refine k_al c (hd 7 880 _ _ rfl) (by rfl) (k_pc 881 rfl ?_)
    refine k_al c (hd 8 881 _ _ rfl) (by rfl) (k_pc 882 rfl ?_)
    refine k_il c (hd 9 882 _ _ rfl) (by rfl) (k_pc 883 rfl ?_)
    refine k_ic c (hd 10 883 _ _ rfl) (v := 1) (by decide) (k_pc 884 rfl ?_)
    refine k_addE c (hd 11 884 _ _ rfl) (k_pc 885 rfl ?_)
    refine k_sldE C (lw_in h0 h1 C.2.2.2.2.1 (by decide)) ea1 (hd 12 885 _ _ rfl) (k_pc 886 rfl ?_)
    refine k_callC C (M := q260_M) (rf_metV_of (q260_met hG)) (-1) (by decide +kernel) (by decide +kernel) (wlkV (lkL_121 hG) _ rfl rfl) (j := 114) (by decide +kernel) ⟨Nat.le_of_ble_eq_true rfl, Nat.le_of_ble_eq_true rfl⟩ (hd 13 886 _ _ rfl) [.int a1] (rest := [.int x1]) (by rfl) ⟨⟨114, by decide, rfl⟩, ⟨_, rfl, rf_in1 (by omega) (by omega), trivial⟩, trivial⟩ (Nat.le_of_ble_eq_true rfl) hw1 (fr_pre hfr hf1 (by decide +kernel)) trivial (fun x2 ws2 hw2 hf2 e2 => k_pc 889 rfl ?_)
    exact k_ceq c (hd 14 889 _ _ rfl) (tgt := 1413) (by decide) (Int32.toInt_inj.mp (e1.trans e2.symm)) (KK _)
def ddL26 : List (Nat × Instr × Nat) := [(894, .aload_n 1, 1), (895, .aload_n 0, 1), (896, .iload_n 3, 1), (897, .iconst 1, 1), (898, .iadd, 1), (899, .iaload, 1), (900, .aload_n 0, 1), (901, .iload_n 3, 1), (902, .iconst 2, 1), (903, .iadd, 1), (904, .iaload, 1), (905, .invokevirtual 122, 3), (908, .aload_n 2, 1), (909, .aload_n 0, 1), (910, .iload_n 3, 1), (911, .iconst 1, 1), (912, .iadd, 1), (913, .iaload, 1), (914, .aload_n 0, 1), (915, .iload_n 3, 1), (916, .iconst 2, 1), (917, .iadd, 1), (918, .iaload, 1), (919, .invokevirtual 125, 3), (922, .if_icmp .eq 491, 3), (925, .iconst 0, 1), (926, .ireturn, 1)]
set_option maxRecDepth 100000 in
theorem dkL26 : rf_decs code ddL26 := rf_decs_of (by decide +kernel)
set_option maxHeartbeats 16000000 in
set_option maxRecDepth 100000 in
theorem lw_case26 {X : rfX} {G : rfG} {b Ln : Nat} {sc : Nat → Int32} {n sl : Nat} (C : lwC X G b Ln sc n sl) {i : Int32} (h0 : 0 ≤ i.toInt) (h1 : i.toInt + 5 < (Ln : Int)) (KK : ∀ ws', kW X n sl 1413 [(3, .int i), (2, .ref (G.2.1.1 114)), (1, .ref (G.2.1.1 70)), (0, .ref b)] [] ws') {ws : va_W} (hw : rf_world G.2.1.1 G.2.1.2.1 G.2.1.2.2.1 G.2.1.2.2.2 ws) (hfr : frOK (hv ws)) : kW X n sl 894 [(3, .int i), (2, .ref (G.2.1.1 114)), (1, .ref (G.2.1.1 70)), (0, .ref b)] [] ws := by
  have hG := C.1
  have c := C.2.2.1
  have hd : ∀ n pc i len, ddL26[n]? = some (pc, i, len) → decode code pc = .ok (i, len) := fun n pc i len h => hdk dkL26 n pc i len h
  obtain ⟨a1, ea1⟩ : ∃ a, sc (i + 1).toNatClampNeg = a := ⟨_, rfl⟩
  have r1 : -2147483648 ≤ a1.toInt ∧ a1.toInt ≤ 2147483647 := ⟨(rf_in_top a1).1, (rf_in_top a1).2.1⟩
  obtain ⟨a2, ea2⟩ : ∃ a, sc (i + 2).toNatClampNeg = a := ⟨_, rfl⟩
  have r2 : -2147483648 ≤ a2.toInt ∧ a2.toInt ≤ 2147483647 := ⟨(rf_in_top a2).1, (rf_in_top a2).2.1⟩
  have hc_ : (a1.toInt ≤ (-1)) ∨ (7 ≤ a1.toInt) ∨ (0 ≤ a1.toInt ∧ a1.toInt ≤ 6 ∧ a2.toInt ≤ (-1)) ∨ (0 ≤ a1.toInt ∧ a1.toInt ≤ 6 ∧ a2.toInt = 0) ∨ (0 ≤ a1.toInt ∧ a1.toInt ≤ 6 ∧ a2.toInt = 1) ∨ (0 ≤ a1.toInt ∧ a1.toInt ≤ 6 ∧ 2 ≤ a2.toInt) := by omega
  rcases hc_ with hc_ | hc_ | hc_ | hc_ | hc_ | hc_
  · skip
    refine k_al c (hd 0 894 _ _ rfl) (by rfl) (k_pc 895 rfl ?_)
    refine k_al c (hd 1 895 _ _ rfl) (by rfl) (k_pc 896 rfl ?_)
    refine k_il c (hd 2 896 _ _ rfl) (by rfl) (k_pc 897 rfl ?_)
    refine k_ic c (hd 3 897 _ _ rfl) (v := 1) (by decide) (k_pc 898 rfl ?_)
    refine k_addE c (hd 4 898 _ _ rfl) (k_pc 899 rfl ?_)
    refine k_sldE C (lw_in h0 h1 C.2.2.2.2.1 (by decide)) ea1 (hd 5 899 _ _ rfl) (k_pc 900 rfl ?_)
    refine k_al c (hd 6 900 _ _ rfl) (by rfl) (k_pc 901 rfl ?_)
    refine k_il c (hd 7 901 _ _ rfl) (by rfl) (k_pc 902 rfl ?_)
    refine k_ic c (hd 8 902 _ _ rfl) (v := 2) (by decide) (k_pc 903 rfl ?_)
    refine k_addE c (hd 9 903 _ _ rfl) (k_pc 904 rfl ?_)
    refine k_sldE C (lw_in h0 h1 C.2.2.2.2.1 (by decide)) ea2 (hd 10 904 _ _ rfl) (k_pc 905 rfl ?_)
    refine k_callC C (M := q261_M) (rf_metV_of (q261_met hG)) (-1) (by decide +kernel) (by decide +kernel) (wlkV (lkL_122 hG) _ rfl rfl) (j := 70) (by decide +kernel) ⟨Nat.le_of_ble_eq_true rfl, Nat.le_of_ble_eq_true rfl⟩ (hd 11 905 _ _ rfl) [.int a1, .int a2] (rest := []) (by rfl) ⟨⟨70, by decide, rfl⟩, ⟨_, rfl, rf_in1 (by omega) (by omega), trivial⟩, ⟨_, rfl, rf_in_top _, trivial⟩, trivial⟩ (Nat.le_of_ble_eq_true rfl) hw (fr_pre hfr (hframe_rf [] _) (by decide +kernel)) trivial (fun x1 ws1 hw1 hf1 e1 => k_pc 908 rfl ?_)
    refine k_al c (hd 12 908 _ _ rfl) (by rfl) (k_pc 909 rfl ?_)
    refine k_al c (hd 13 909 _ _ rfl) (by rfl) (k_pc 910 rfl ?_)
    refine k_il c (hd 14 910 _ _ rfl) (by rfl) (k_pc 911 rfl ?_)
    refine k_ic c (hd 15 911 _ _ rfl) (v := 1) (by decide) (k_pc 912 rfl ?_)
    refine k_addE c (hd 16 912 _ _ rfl) (k_pc 913 rfl ?_)
    refine k_sldE C (lw_in h0 h1 C.2.2.2.2.1 (by decide)) ea1 (hd 17 913 _ _ rfl) (k_pc 914 rfl ?_)
    refine k_al c (hd 18 914 _ _ rfl) (by rfl) (k_pc 915 rfl ?_)
    refine k_il c (hd 19 915 _ _ rfl) (by rfl) (k_pc 916 rfl ?_)
    refine k_ic c (hd 20 916 _ _ rfl) (v := 2) (by decide) (k_pc 917 rfl ?_)
    refine k_addE c (hd 21 917 _ _ rfl) (k_pc 918 rfl ?_)
    refine k_sldE C (lw_in h0 h1 C.2.2.2.2.1 (by decide)) ea2 (hd 22 918 _ _ rfl) (k_pc 919 rfl ?_)
    refine k_callC C (M := q262_M) (rf_metV_of (q262_met hG)) (-1) (by decide +kernel) (by decide +kernel) (wlkV (lkL_125 hG) _ rfl rfl) (j := 114) (by decide +kernel) ⟨Nat.le_of_ble_eq_true rfl, Nat.le_of_ble_eq_true rfl⟩ (hd 23 919 _ _ rfl) [.int a1, .int a2] (rest := [.int x1]) (by rfl) ⟨⟨114, by decide, rfl⟩, ⟨_, rfl, rf_in1 (by omega) (by omega), trivial⟩, ⟨_, rfl, rf_in_top _, trivial⟩, trivial⟩ (Nat.le_of_ble_eq_true rfl) hw1 (fr_pre hfr hf1 (by decide +kernel)) trivial (fun x2 ws2 hw2 hf2 e2 => k_pc 922 rfl ?_)
    exact k_ceq c (hd 24 922 _ _ rfl) (tgt := 1413) (by decide) (Int32.toInt_inj.mp (e1.trans e2.symm)) (KK _)
  · skip
    refine k_al c (hd 0 894 _ _ rfl) (by rfl) (k_pc 895 rfl ?_)
    refine k_al c (hd 1 895 _ _ rfl) (by rfl) (k_pc 896 rfl ?_)
    refine k_il c (hd 2 896 _ _ rfl) (by rfl) (k_pc 897 rfl ?_)
    refine k_ic c (hd 3 897 _ _ rfl) (v := 1) (by decide) (k_pc 898 rfl ?_)
    refine k_addE c (hd 4 898 _ _ rfl) (k_pc 899 rfl ?_)
    refine k_sldE C (lw_in h0 h1 C.2.2.2.2.1 (by decide)) ea1 (hd 5 899 _ _ rfl) (k_pc 900 rfl ?_)
    refine k_al c (hd 6 900 _ _ rfl) (by rfl) (k_pc 901 rfl ?_)
    refine k_il c (hd 7 901 _ _ rfl) (by rfl) (k_pc 902 rfl ?_)
    refine k_ic c (hd 8 902 _ _ rfl) (v := 2) (by decide) (k_pc 903 rfl ?_)
    refine k_addE c (hd 9 903 _ _ rfl) (k_pc 904 rfl ?_)
    refine k_sldE C (lw_in h0 h1 C.2.2.2.2.1 (by decide)) ea2 (hd 10 904 _ _ rfl) (k_pc 905 rfl ?_)
    refine k_callC C (M := q263_M) (rf_metV_of (q263_met hG)) (-1) (by decide +kernel) (by decide +kernel) (wlkV (lkL_122 hG) _ rfl rfl) (j := 70) (by decide +kernel) ⟨Nat.le_of_ble_eq_true rfl, Nat.le_of_ble_eq_true rfl⟩ (hd 11 905 _ _ rfl) [.int a1, .int a2] (rest := []) (by rfl) ⟨⟨70, by decide, rfl⟩, ⟨_, rfl, rf_in1 (by omega) (by omega), trivial⟩, ⟨_, rfl, rf_in_top _, trivial⟩, trivial⟩ (Nat.le_of_ble_eq_true rfl) hw (fr_pre hfr (hframe_rf [] _) (by decide +kernel)) trivial (fun x1 ws1 hw1 hf1 e1 => k_pc 908 rfl ?_)
    refine k_al c (hd 12 908 _ _ rfl) (by rfl) (k_pc 909 rfl ?_)
    refine k_al c (hd 13 909 _ _ rfl) (by rfl) (k_pc 910 rfl ?_)
    refine k_il c (hd 14 910 _ _ rfl) (by rfl) (k_pc 911 rfl ?_)
    refine k_ic c (hd 15 911 _ _ rfl) (v := 1) (by decide) (k_pc 912 rfl ?_)
    refine k_addE c (hd 16 912 _ _ rfl) (k_pc 913 rfl ?_)
    refine k_sldE C (lw_in h0 h1 C.2.2.2.2.1 (by decide)) ea1 (hd 17 913 _ _ rfl) (k_pc 914 rfl ?_)
    refine k_al c (hd 18 914 _ _ rfl) (by rfl) (k_pc 915 rfl ?_)
    refine k_il c (hd 19 915 _ _ rfl) (by rfl) (k_pc 916 rfl ?_)
    refine k_ic c (hd 20 916 _ _ rfl) (v := 2) (by decide) (k_pc 917 rfl ?_)
    refine k_addE c (hd 21 917 _ _ rfl) (k_pc 918 rfl ?_)
    refine k_sldE C (lw_in h0 h1 C.2.2.2.2.1 (by decide)) ea2 (hd 22 918 _ _ rfl) (k_pc 919 rfl ?_)
    refine k_callC C (M := q264_M) (rf_metV_of (q264_met hG)) (-1) (by decide +kernel) (by decide +kernel) (wlkV (lkL_125 hG) _ rfl rfl) (j := 114) (by decide +kernel) ⟨Nat.le_of_ble_eq_true rfl, Nat.le_of_ble_eq_true rfl⟩ (hd 23 919 _ _ rfl) [.int a1, .int a2] (rest := [.int x1]) (by rfl) ⟨⟨114, by decide, rfl⟩, ⟨_, rfl, rf_in1 (by omega) (by omega), trivial⟩, ⟨_, rfl, rf_in_top _, trivial⟩, trivial⟩ (Nat.le_of_ble_eq_true rfl) hw1 (fr_pre hfr hf1 (by decide +kernel)) trivial (fun x2 ws2 hw2 hf2 e2 => k_pc 922 rfl ?_)
    exact k_ceq c (hd 24 922 _ _ rfl) (tgt := 1413) (by decide) (Int32.toInt_inj.mp (e1.trans e2.symm)) (KK _)
  · skip
    refine k_al c (hd 0 894 _ _ rfl) (by rfl) (k_pc 895 rfl ?_)
    refine k_al c (hd 1 895 _ _ rfl) (by rfl) (k_pc 896 rfl ?_)
    refine k_il c (hd 2 896 _ _ rfl) (by rfl) (k_pc 897 rfl ?_)
    refine k_ic c (hd 3 897 _ _ rfl) (v := 1) (by decide) (k_pc 898 rfl ?_)
    refine k_addE c (hd 4 898 _ _ rfl) (k_pc 899 rfl ?_)
    refine k_sldE C (lw_in h0 h1 C.2.2.2.2.1 (by decide)) ea1 (hd 5 899 _ _ rfl) (k_pc 900 rfl ?_)
    refine k_al c (hd 6 900 _ _ rfl) (by rfl) (k_pc 901 rfl ?_)
    refine k_il c (hd 7 901 _ _ rfl) (by rfl) (k_pc 902 rfl ?_)
    refine k_ic c (hd 8 902 _ _ rfl) (v := 2) (by decide) (k_pc 903 rfl ?_)
    refine k_addE c (hd 9 903 _ _ rfl) (k_pc 904 rfl ?_)
    refine k_sldE C (lw_in h0 h1 C.2.2.2.2.1 (by decide)) ea2 (hd 10 904 _ _ rfl) (k_pc 905 rfl ?_)
    refine k_callC C (M := q265_M) (rf_metV_of (q265_met hG)) (-1) (by decide +kernel) (by decide +kernel) (wlkV (lkL_122 hG) _ rfl rfl) (j := 70) (by decide +kernel) ⟨Nat.le_of_ble_eq_true rfl, Nat.le_of_ble_eq_true rfl⟩ (hd 11 905 _ _ rfl) [.int a1, .int a2] (rest := []) (by rfl) ⟨⟨70, by decide, rfl⟩, ⟨_, rfl, rf_in1 (by omega) (by omega), trivial⟩, ⟨_, rfl, rf_in1 (by omega) (by omega), trivial⟩, trivial⟩ (Nat.le_of_ble_eq_true rfl) hw (fr_pre hfr (hframe_rf [] _) (by decide +kernel)) trivial (fun x1 ws1 hw1 hf1 e1 => k_pc 908 rfl ?_)
    refine k_al c (hd 12 908 _ _ rfl) (by rfl) (k_pc 909 rfl ?_)
    refine k_al c (hd 13 909 _ _ rfl) (by rfl) (k_pc 910 rfl ?_)
    refine k_il c (hd 14 910 _ _ rfl) (by rfl) (k_pc 911 rfl ?_)
    refine k_ic c (hd 15 911 _ _ rfl) (v := 1) (by decide) (k_pc 912 rfl ?_)
    refine k_addE c (hd 16 912 _ _ rfl) (k_pc 913 rfl ?_)
    refine k_sldE C (lw_in h0 h1 C.2.2.2.2.1 (by decide)) ea1 (hd 17 913 _ _ rfl) (k_pc 914 rfl ?_)
    refine k_al c (hd 18 914 _ _ rfl) (by rfl) (k_pc 915 rfl ?_)
    refine k_il c (hd 19 915 _ _ rfl) (by rfl) (k_pc 916 rfl ?_)
    refine k_ic c (hd 20 916 _ _ rfl) (v := 2) (by decide) (k_pc 917 rfl ?_)
    refine k_addE c (hd 21 917 _ _ rfl) (k_pc 918 rfl ?_)
    refine k_sldE C (lw_in h0 h1 C.2.2.2.2.1 (by decide)) ea2 (hd 22 918 _ _ rfl) (k_pc 919 rfl ?_)
    refine k_callC C (M := q267_M) (rf_metV_of (q267_met hG)) (-1) (by decide +kernel) (by decide +kernel) (wlkV (lkL_125 hG) _ rfl rfl) (j := 114) (by decide +kernel) ⟨Nat.le_of_ble_eq_true rfl, Nat.le_of_ble_eq_true rfl⟩ (hd 23 919 _ _ rfl) [.int a1, .int a2] (rest := [.int x1]) (by rfl) ⟨⟨114, by decide, rfl⟩, ⟨_, rfl, rf_in1 (by omega) (by omega), trivial⟩, ⟨_, rfl, rf_in1 (by omega) (by omega), trivial⟩, trivial⟩ (Nat.le_of_ble_eq_true rfl) hw1 (fr_pre hfr hf1 (by decide +kernel)) trivial (fun x2 ws2 hw2 hf2 e2 => k_pc 922 rfl ?_)
    exact k_ceq c (hd 24 922 _ _ rfl) (tgt := 1413) (by decide) (Int32.toInt_inj.mp (e1.trans e2.symm)) (KK _)
  · skip
    refine k_al c (hd 0 894 _ _ rfl) (by rfl) (k_pc 895 rfl ?_)
    refine k_al c (hd 1 895 _ _ rfl) (by rfl) (k_pc 896 rfl ?_)
    refine k_il c (hd 2 896 _ _ rfl) (by rfl) (k_pc 897 rfl ?_)
    refine k_ic c (hd 3 897 _ _ rfl) (v := 1) (by decide) (k_pc 898 rfl ?_)
    refine k_addE c (hd 4 898 _ _ rfl) (k_pc 899 rfl ?_)
    refine k_sldE C (lw_in h0 h1 C.2.2.2.2.1 (by decide)) ea1 (hd 5 899 _ _ rfl) (k_pc 900 rfl ?_)
    refine k_al c (hd 6 900 _ _ rfl) (by rfl) (k_pc 901 rfl ?_)
    refine k_il c (hd 7 901 _ _ rfl) (by rfl) (k_pc 902 rfl ?_)
    refine k_ic c (hd 8 902 _ _ rfl) (v := 2) (by decide) (k_pc 903 rfl ?_)
    refine k_addE c (hd 9 903 _ _ rfl) (k_pc 904 rfl ?_)
    refine k_sldE C (lw_in h0 h1 C.2.2.2.2.1 (by decide)) ea2 (hd 10 904 _ _ rfl) (k_pc 905 rfl ?_)
    refine k_callC C (M := q285_M) (rf_metV_of (q285_met hG)) 0 (by decide +kernel) (by decide +kernel) (wlkV (lkL_122 hG) _ rfl rfl) (j := 70) (by decide +kernel) ⟨Nat.le_of_ble_eq_true rfl, Nat.le_of_ble_eq_true rfl⟩ (hd 11 905 _ _ rfl) [.int a1, .int a2] (rest := []) (by rfl) ⟨⟨70, by decide, rfl⟩, ⟨_, rfl, rf_in1 (by omega) (by omega), trivial⟩, ⟨_, rfl, hcon (by omega), trivial⟩, trivial⟩ (Nat.le_of_ble_eq_true rfl) hw (fr_pre hfr (hframe_rf [] _) (by decide +kernel)) trivial (fun x1 ws1 hw1 hf1 e1 => k_pc 908 rfl ?_)
    refine k_al c (hd 12 908 _ _ rfl) (by rfl) (k_pc 909 rfl ?_)
    refine k_al c (hd 13 909 _ _ rfl) (by rfl) (k_pc 910 rfl ?_)
    refine k_il c (hd 14 910 _ _ rfl) (by rfl) (k_pc 911 rfl ?_)
    refine k_ic c (hd 15 911 _ _ rfl) (v := 1) (by decide) (k_pc 912 rfl ?_)
    refine k_addE c (hd 16 912 _ _ rfl) (k_pc 913 rfl ?_)
    refine k_sldE C (lw_in h0 h1 C.2.2.2.2.1 (by decide)) ea1 (hd 17 913 _ _ rfl) (k_pc 914 rfl ?_)
    refine k_al c (hd 18 914 _ _ rfl) (by rfl) (k_pc 915 rfl ?_)
    refine k_il c (hd 19 915 _ _ rfl) (by rfl) (k_pc 916 rfl ?_)
    refine k_ic c (hd 20 916 _ _ rfl) (v := 2) (by decide) (k_pc 917 rfl ?_)
    refine k_addE c (hd 21 917 _ _ rfl) (k_pc 918 rfl ?_)
    refine k_sldE C (lw_in h0 h1 C.2.2.2.2.1 (by decide)) ea2 (hd 22 918 _ _ rfl) (k_pc 919 rfl ?_)
    refine k_callC C (M := hq_far_M) (rf_metV_of (hq_far_met hG)) 0 (by decide +kernel) (by decide +kernel) (wlkV (lkL_125 hG) _ rfl rfl) (j := 114) (by decide +kernel) ⟨Nat.le_of_ble_eq_true rfl, Nat.le_of_ble_eq_true rfl⟩ (hd 23 919 _ _ rfl) [.int a1, .int a2] (rest := [.int x1]) (by rfl) ⟨⟨114, by decide, rfl⟩, ⟨_, rfl, rf_in1 (by omega) (by omega), trivial⟩, ⟨_, rfl, rf_in1 (by omega) (by omega), trivial⟩, trivial⟩ (Nat.le_of_ble_eq_true rfl) hw1 (fr_pre hfr hf1 (by decide +kernel)) trivial (fun x2 ws2 hw2 hf2 e2 => k_pc 922 rfl ?_)
    exact k_ceq c (hd 24 922 _ _ rfl) (tgt := 1413) (by decide) (Int32.toInt_inj.mp (e1.trans e2.symm)) (KK _)
  · skip
    refine k_al c (hd 0 894 _ _ rfl) (by rfl) (k_pc 895 rfl ?_)
    refine k_al c (hd 1 895 _ _ rfl) (by rfl) (k_pc 896 rfl ?_)
    refine k_il c (hd 2 896 _ _ rfl) (by rfl) (k_pc 897 rfl ?_)
    refine k_ic c (hd 3 897 _ _ rfl) (v := 1) (by decide) (k_pc 898 rfl ?_)
    refine k_addE c (hd 4 898 _ _ rfl) (k_pc 899 rfl ?_)
    refine k_sldE C (lw_in h0 h1 C.2.2.2.2.1 (by decide)) ea1 (hd 5 899 _ _ rfl) (k_pc 900 rfl ?_)
    refine k_al c (hd 6 900 _ _ rfl) (by rfl) (k_pc 901 rfl ?_)
    refine k_il c (hd 7 901 _ _ rfl) (by rfl) (k_pc 902 rfl ?_)
    refine k_ic c (hd 8 902 _ _ rfl) (v := 2) (by decide) (k_pc 903 rfl ?_)
    refine k_addE c (hd 9 903 _ _ rfl) (k_pc 904 rfl ?_)
    refine k_sldE C (lw_in h0 h1 C.2.2.2.2.1 (by decide)) ea2 (hd 10 904 _ _ rfl) (k_pc 905 rfl ?_)
    refine k_callC C (M := q286_M) (rf_metV_of (q286_met hG)) 0 (by decide +kernel) (by decide +kernel) (wlkV (lkL_122 hG) _ rfl rfl) (j := 70) (by decide +kernel) ⟨Nat.le_of_ble_eq_true rfl, Nat.le_of_ble_eq_true rfl⟩ (hd 11 905 _ _ rfl) [.int a1, .int a2] (rest := []) (by rfl) ⟨⟨70, by decide, rfl⟩, ⟨_, rfl, rf_in1 (by omega) (by omega), trivial⟩, ⟨_, rfl, hcon (by omega), trivial⟩, trivial⟩ (Nat.le_of_ble_eq_true rfl) hw (fr_pre hfr (hframe_rf [] _) (by decide +kernel)) trivial (fun x1 ws1 hw1 hf1 e1 => k_pc 908 rfl ?_)
    refine k_al c (hd 12 908 _ _ rfl) (by rfl) (k_pc 909 rfl ?_)
    refine k_al c (hd 13 909 _ _ rfl) (by rfl) (k_pc 910 rfl ?_)
    refine k_il c (hd 14 910 _ _ rfl) (by rfl) (k_pc 911 rfl ?_)
    refine k_ic c (hd 15 911 _ _ rfl) (v := 1) (by decide) (k_pc 912 rfl ?_)
    refine k_addE c (hd 16 912 _ _ rfl) (k_pc 913 rfl ?_)
    refine k_sldE C (lw_in h0 h1 C.2.2.2.2.1 (by decide)) ea1 (hd 17 913 _ _ rfl) (k_pc 914 rfl ?_)
    refine k_al c (hd 18 914 _ _ rfl) (by rfl) (k_pc 915 rfl ?_)
    refine k_il c (hd 19 915 _ _ rfl) (by rfl) (k_pc 916 rfl ?_)
    refine k_ic c (hd 20 916 _ _ rfl) (v := 2) (by decide) (k_pc 917 rfl ?_)
    refine k_addE c (hd 21 917 _ _ rfl) (k_pc 918 rfl ?_)
    refine k_sldE C (lw_in h0 h1 C.2.2.2.2.1 (by decide)) ea2 (hd 22 918 _ _ rfl) (k_pc 919 rfl ?_)
    refine k_callC C (M := hq_far_M) (rf_metV_of (hq_far_met hG)) 0 (by decide +kernel) (by decide +kernel) (wlkV (lkL_125 hG) _ rfl rfl) (j := 114) (by decide +kernel) ⟨Nat.le_of_ble_eq_true rfl, Nat.le_of_ble_eq_true rfl⟩ (hd 23 919 _ _ rfl) [.int a1, .int a2] (rest := [.int x1]) (by rfl) ⟨⟨114, by decide, rfl⟩, ⟨_, rfl, rf_in1 (by omega) (by omega), trivial⟩, ⟨_, rfl, rf_in1 (by omega) (by omega), trivial⟩, trivial⟩ (Nat.le_of_ble_eq_true rfl) hw1 (fr_pre hfr hf1 (by decide +kernel)) trivial (fun x2 ws2 hw2 hf2 e2 => k_pc 922 rfl ?_)
    exact k_ceq c (hd 24 922 _ _ rfl) (tgt := 1413) (by decide) (Int32.toInt_inj.mp (e1.trans e2.symm)) (KK _)
  · skip
    refine k_al c (hd 0 894 _ _ rfl) (by rfl) (k_pc 895 rfl ?_)
    refine k_al c (hd 1 895 _ _ rfl) (by rfl) (k_pc 896 rfl ?_)
    refine k_il c (hd 2 896 _ _ rfl) (by rfl) (k_pc 897 rfl ?_)
    refine k_ic c (hd 3 897 _ _ rfl) (v := 1) (by decide) (k_pc 898 rfl ?_)
    refine k_addE c (hd 4 898 _ _ rfl) (k_pc 899 rfl ?_)
    refine k_sldE C (lw_in h0 h1 C.2.2.2.2.1 (by decide)) ea1 (hd 5 899 _ _ rfl) (k_pc 900 rfl ?_)
    refine k_al c (hd 6 900 _ _ rfl) (by rfl) (k_pc 901 rfl ?_)
    refine k_il c (hd 7 901 _ _ rfl) (by rfl) (k_pc 902 rfl ?_)
    refine k_ic c (hd 8 902 _ _ rfl) (v := 2) (by decide) (k_pc 903 rfl ?_)
    refine k_addE c (hd 9 903 _ _ rfl) (k_pc 904 rfl ?_)
    refine k_sldE C (lw_in h0 h1 C.2.2.2.2.1 (by decide)) ea2 (hd 10 904 _ _ rfl) (k_pc 905 rfl ?_)
    refine k_callC C (M := q287_M) (rf_metV_of (q287_met hG)) (-1) (by decide +kernel) (by decide +kernel) (wlkV (lkL_122 hG) _ rfl rfl) (j := 70) (by decide +kernel) ⟨Nat.le_of_ble_eq_true rfl, Nat.le_of_ble_eq_true rfl⟩ (hd 11 905 _ _ rfl) [.int a1, .int a2] (rest := []) (by rfl) ⟨⟨70, by decide, rfl⟩, ⟨_, rfl, rf_in1 (by omega) (by omega), trivial⟩, ⟨_, rfl, rf_in1 (by omega) (by omega), trivial⟩, trivial⟩ (Nat.le_of_ble_eq_true rfl) hw (fr_pre hfr (hframe_rf [] _) (by decide +kernel)) trivial (fun x1 ws1 hw1 hf1 e1 => k_pc 908 rfl ?_)
    refine k_al c (hd 12 908 _ _ rfl) (by rfl) (k_pc 909 rfl ?_)
    refine k_al c (hd 13 909 _ _ rfl) (by rfl) (k_pc 910 rfl ?_)
    refine k_il c (hd 14 910 _ _ rfl) (by rfl) (k_pc 911 rfl ?_)
    refine k_ic c (hd 15 911 _ _ rfl) (v := 1) (by decide) (k_pc 912 rfl ?_)
    refine k_addE c (hd 16 912 _ _ rfl) (k_pc 913 rfl ?_)
    refine k_sldE C (lw_in h0 h1 C.2.2.2.2.1 (by decide)) ea1 (hd 17 913 _ _ rfl) (k_pc 914 rfl ?_)
    refine k_al c (hd 18 914 _ _ rfl) (by rfl) (k_pc 915 rfl ?_)
    refine k_il c (hd 19 915 _ _ rfl) (by rfl) (k_pc 916 rfl ?_)
    refine k_ic c (hd 20 916 _ _ rfl) (v := 2) (by decide) (k_pc 917 rfl ?_)
    refine k_addE c (hd 21 917 _ _ rfl) (k_pc 918 rfl ?_)
    refine k_sldE C (lw_in h0 h1 C.2.2.2.2.1 (by decide)) ea2 (hd 22 918 _ _ rfl) (k_pc 919 rfl ?_)
    refine k_callC C (M := q289_M) (rf_metV_of (q289_met hG)) (-1) (by decide +kernel) (by decide +kernel) (wlkV (lkL_125 hG) _ rfl rfl) (j := 114) (by decide +kernel) ⟨Nat.le_of_ble_eq_true rfl, Nat.le_of_ble_eq_true rfl⟩ (hd 23 919 _ _ rfl) [.int a1, .int a2] (rest := [.int x1]) (by rfl) ⟨⟨114, by decide, rfl⟩, ⟨_, rfl, rf_in1 (by omega) (by omega), trivial⟩, ⟨_, rfl, rf_in1 (by omega) (by omega), trivial⟩, trivial⟩ (Nat.le_of_ble_eq_true rfl) hw1 (fr_pre hfr hf1 (by decide +kernel)) trivial (fun x2 ws2 hw2 hf2 e2 => k_pc 922 rfl ?_)
    exact k_ceq c (hd 24 922 _ _ rfl) (tgt := 1413) (by decide) (Int32.toInt_inj.mp (e1.trans e2.symm)) (KK _)
def ddL27 : List (Nat × Instr × Nat) := [(927, .aload_n 1, 1), (928, .invokevirtual 126, 3), (931, .aload_n 2, 1), (932, .invokevirtual 129, 3), (935, .if_icmp .eq 478, 3), (938, .iconst 0, 1), (939, .ireturn, 1)]
set_option maxRecDepth 100000 in
theorem dkL27 : rf_decs code ddL27 := rf_decs_of (by decide +kernel)
set_option maxHeartbeats 16000000 in
set_option maxRecDepth 100000 in
theorem lw_case27 {X : rfX} {G : rfG} {b Ln : Nat} {sc : Nat → Int32} {n sl : Nat} (C : lwC X G b Ln sc n sl) {i : Int32} (h0 : 0 ≤ i.toInt) (h1 : i.toInt + 5 < (Ln : Int)) (KK : ∀ ws', kW X n sl 1413 [(3, .int i), (2, .ref (G.2.1.1 114)), (1, .ref (G.2.1.1 70)), (0, .ref b)] [] ws') {ws : va_W} (hw : rf_world G.2.1.1 G.2.1.2.1 G.2.1.2.2.1 G.2.1.2.2.2 ws) (hfr : frOK (hv ws)) : kW X n sl 927 [(3, .int i), (2, .ref (G.2.1.1 114)), (1, .ref (G.2.1.1 70)), (0, .ref b)] [] ws := by
  have hG := C.1
  have c := C.2.2.1
  have hd : ∀ n pc i len, ddL27[n]? = some (pc, i, len) → decode code pc = .ok (i, len) := fun n pc i len h => hdk dkL27 n pc i len h
  refine k_al c (hd 0 927 _ _ rfl) (by rfl) (k_pc 928 rfl ?_)
  refine k_callC C (M := q291_M) (rf_metV_of (q291_met hG)) (-1) (by decide +kernel) (by decide +kernel) (wlkV (lkL_126 hG) _ rfl rfl) (j := 70) (by decide +kernel) ⟨Nat.le_of_ble_eq_true rfl, Nat.le_of_ble_eq_true rfl⟩ (hd 1 928 _ _ rfl) [] (rest := []) (by rfl) ⟨⟨70, by decide, rfl⟩, trivial⟩ (Nat.le_of_ble_eq_true rfl) hw (fr_pre hfr (hframe_rf [] _) (by decide +kernel)) trivial (fun x1 ws1 hw1 hf1 e1 => k_pc 931 rfl ?_)
  refine k_al c (hd 2 931 _ _ rfl) (by rfl) (k_pc 932 rfl ?_)
  refine k_callC C (M := q292_M) (rf_metV_of (q292_met hG)) (-1) (by decide +kernel) (by decide +kernel) (wlkV (lkL_129 hG) _ rfl rfl) (j := 114) (by decide +kernel) ⟨Nat.le_of_ble_eq_true rfl, Nat.le_of_ble_eq_true rfl⟩ (hd 3 932 _ _ rfl) [] (rest := [.int x1]) (by rfl) ⟨⟨114, by decide, rfl⟩, trivial⟩ (Nat.le_of_ble_eq_true rfl) hw1 (fr_pre hfr hf1 (by decide +kernel)) trivial (fun x2 ws2 hw2 hf2 e2 => k_pc 935 rfl ?_)
  exact k_ceq c (hd 4 935 _ _ rfl) (tgt := 1413) (by decide) (Int32.toInt_inj.mp (e1.trans e2.symm)) (KK _)
def ddL28 : List (Nat × Instr × Nat) := [(940, .aload_n 1, 1), (941, .aload_n 0, 1), (942, .iload_n 3, 1), (943, .iconst 1, 1), (944, .iadd, 1), (945, .iaload, 1), (946, .aload_n 0, 1), (947, .iload_n 3, 1), (948, .iconst 2, 1), (949, .iadd, 1), (950, .iaload, 1), (951, .aload_n 0, 1), (952, .iload_n 3, 1), (953, .iconst 3, 1), (954, .iadd, 1), (955, .iaload, 1), (956, .invokevirtual 130, 3), (959, .aload_n 2, 1), (960, .aload_n 0, 1), (961, .iload_n 3, 1), (962, .iconst 1, 1), (963, .iadd, 1), (964, .iaload, 1), (965, .aload_n 0, 1), (966, .iload_n 3, 1), (967, .iconst 2, 1), (968, .iadd, 1), (969, .iaload, 1), (970, .aload_n 0, 1), (971, .iload_n 3, 1), (972, .iconst 3, 1), (973, .iadd, 1), (974, .iaload, 1), (975, .invokevirtual 134, 3), (978, .if_icmp .eq 435, 3), (981, .iconst 0, 1), (982, .ireturn, 1)]
set_option maxRecDepth 100000 in
theorem dkL28 : rf_decs code ddL28 := rf_decs_of (by decide +kernel)
set_option maxHeartbeats 16000000 in
set_option maxRecDepth 100000 in
theorem lw_case28 {X : rfX} {G : rfG} {b Ln : Nat} {sc : Nat → Int32} {n sl : Nat} (C : lwC X G b Ln sc n sl) {i : Int32} (h0 : 0 ≤ i.toInt) (h1 : i.toInt + 5 < (Ln : Int)) (KK : ∀ ws', kW X n sl 1413 [(3, .int i), (2, .ref (G.2.1.1 114)), (1, .ref (G.2.1.1 70)), (0, .ref b)] [] ws') {ws : va_W} (hw : rf_world G.2.1.1 G.2.1.2.1 G.2.1.2.2.1 G.2.1.2.2.2 ws) (hfr : frOK (hv ws)) : kW X n sl 940 [(3, .int i), (2, .ref (G.2.1.1 114)), (1, .ref (G.2.1.1 70)), (0, .ref b)] [] ws := by
  have hG := C.1
  have c := C.2.2.1
  have hd : ∀ n pc i len, ddL28[n]? = some (pc, i, len) → decode code pc = .ok (i, len) := fun n pc i len h => hdk dkL28 n pc i len h
  obtain ⟨a1, ea1⟩ : ∃ a, sc (i + 1).toNatClampNeg = a := ⟨_, rfl⟩
  have r1 : -2147483648 ≤ a1.toInt ∧ a1.toInt ≤ 2147483647 := ⟨(rf_in_top a1).1, (rf_in_top a1).2.1⟩
  obtain ⟨a2, ea2⟩ : ∃ a, sc (i + 2).toNatClampNeg = a := ⟨_, rfl⟩
  have r2 : -2147483648 ≤ a2.toInt ∧ a2.toInt ≤ 2147483647 := ⟨(rf_in_top a2).1, (rf_in_top a2).2.1⟩
  obtain ⟨a3, ea3⟩ : ∃ a, sc (i + 3).toNatClampNeg = a := ⟨_, rfl⟩
  have r3 : -2147483648 ≤ a3.toInt ∧ a3.toInt ≤ 2147483647 := ⟨(rf_in_top a3).1, (rf_in_top a3).2.1⟩
  refine k_al c (hd 0 940 _ _ rfl) (by rfl) (k_pc 941 rfl ?_)
  refine k_al c (hd 1 941 _ _ rfl) (by rfl) (k_pc 942 rfl ?_)
  refine k_il c (hd 2 942 _ _ rfl) (by rfl) (k_pc 943 rfl ?_)
  refine k_ic c (hd 3 943 _ _ rfl) (v := 1) (by decide) (k_pc 944 rfl ?_)
  refine k_addE c (hd 4 944 _ _ rfl) (k_pc 945 rfl ?_)
  refine k_sldE C (lw_in h0 h1 C.2.2.2.2.1 (by decide)) ea1 (hd 5 945 _ _ rfl) (k_pc 946 rfl ?_)
  refine k_al c (hd 6 946 _ _ rfl) (by rfl) (k_pc 947 rfl ?_)
  refine k_il c (hd 7 947 _ _ rfl) (by rfl) (k_pc 948 rfl ?_)
  refine k_ic c (hd 8 948 _ _ rfl) (v := 2) (by decide) (k_pc 949 rfl ?_)
  refine k_addE c (hd 9 949 _ _ rfl) (k_pc 950 rfl ?_)
  refine k_sldE C (lw_in h0 h1 C.2.2.2.2.1 (by decide)) ea2 (hd 10 950 _ _ rfl) (k_pc 951 rfl ?_)
  refine k_al c (hd 11 951 _ _ rfl) (by rfl) (k_pc 952 rfl ?_)
  refine k_il c (hd 12 952 _ _ rfl) (by rfl) (k_pc 953 rfl ?_)
  refine k_ic c (hd 13 953 _ _ rfl) (v := 3) (by decide) (k_pc 954 rfl ?_)
  refine k_addE c (hd 14 954 _ _ rfl) (k_pc 955 rfl ?_)
  refine k_sldE C (lw_in h0 h1 C.2.2.2.2.1 (by decide)) ea3 (hd 15 955 _ _ rfl) (k_pc 956 rfl ?_)
  refine k_callC C (M := q293_M) (rf_metV_of (q293_met hG)) (-1) (by decide +kernel) (by decide +kernel) (wlkV (lkL_130 hG) _ rfl rfl) (j := 70) (by decide +kernel) ⟨Nat.le_of_ble_eq_true rfl, Nat.le_of_ble_eq_true rfl⟩ (hd 16 956 _ _ rfl) [.int a1, .int a2, .int a3] (rest := []) (by rfl) ⟨⟨70, by decide, rfl⟩, ⟨_, rfl, rf_in_top _, trivial⟩, ⟨_, rfl, rf_in_top _, trivial⟩, ⟨_, rfl, rf_in_top _, trivial⟩, trivial⟩ (Nat.le_of_ble_eq_true rfl) hw (fr_pre hfr (hframe_rf [] _) (by decide +kernel)) trivial (fun x1 ws1 hw1 hf1 e1 => k_pc 959 rfl ?_)
  refine k_al c (hd 17 959 _ _ rfl) (by rfl) (k_pc 960 rfl ?_)
  refine k_al c (hd 18 960 _ _ rfl) (by rfl) (k_pc 961 rfl ?_)
  refine k_il c (hd 19 961 _ _ rfl) (by rfl) (k_pc 962 rfl ?_)
  refine k_ic c (hd 20 962 _ _ rfl) (v := 1) (by decide) (k_pc 963 rfl ?_)
  refine k_addE c (hd 21 963 _ _ rfl) (k_pc 964 rfl ?_)
  refine k_sldE C (lw_in h0 h1 C.2.2.2.2.1 (by decide)) ea1 (hd 22 964 _ _ rfl) (k_pc 965 rfl ?_)
  refine k_al c (hd 23 965 _ _ rfl) (by rfl) (k_pc 966 rfl ?_)
  refine k_il c (hd 24 966 _ _ rfl) (by rfl) (k_pc 967 rfl ?_)
  refine k_ic c (hd 25 967 _ _ rfl) (v := 2) (by decide) (k_pc 968 rfl ?_)
  refine k_addE c (hd 26 968 _ _ rfl) (k_pc 969 rfl ?_)
  refine k_sldE C (lw_in h0 h1 C.2.2.2.2.1 (by decide)) ea2 (hd 27 969 _ _ rfl) (k_pc 970 rfl ?_)
  refine k_al c (hd 28 970 _ _ rfl) (by rfl) (k_pc 971 rfl ?_)
  refine k_il c (hd 29 971 _ _ rfl) (by rfl) (k_pc 972 rfl ?_)
  refine k_ic c (hd 30 972 _ _ rfl) (v := 3) (by decide) (k_pc 973 rfl ?_)
  refine k_addE c (hd 31 973 _ _ rfl) (k_pc 974 rfl ?_)
  refine k_sldE C (lw_in h0 h1 C.2.2.2.2.1 (by decide)) ea3 (hd 32 974 _ _ rfl) (k_pc 975 rfl ?_)
  refine k_callC C (M := q294_M) (rf_metV_of (q294_met hG)) (-1) (by decide +kernel) (by decide +kernel) (wlkV (lkL_134 hG) _ rfl rfl) (j := 114) (by decide +kernel) ⟨Nat.le_of_ble_eq_true rfl, Nat.le_of_ble_eq_true rfl⟩ (hd 33 975 _ _ rfl) [.int a1, .int a2, .int a3] (rest := [.int x1]) (by rfl) ⟨⟨114, by decide, rfl⟩, ⟨_, rfl, rf_in_top _, trivial⟩, ⟨_, rfl, rf_in_top _, trivial⟩, ⟨_, rfl, rf_in_top _, trivial⟩, trivial⟩ (Nat.le_of_ble_eq_true rfl) hw1 (fr_pre hfr hf1 (by decide +kernel)) trivial (fun x2 ws2 hw2 hf2 e2 => k_pc 978 rfl ?_)
  exact k_ceq c (hd 34 978 _ _ rfl) (tgt := 1413) (by decide) (Int32.toInt_inj.mp (e1.trans e2.symm)) (KK _)
def ddL29 : List (Nat × Instr × Nat) := [(983, .aload_n 1, 1), (984, .aload_n 0, 1), (985, .iload_n 3, 1), (986, .iconst 1, 1), (987, .iadd, 1), (988, .iaload, 1), (989, .invokevirtual 135, 3), (992, .aload_n 2, 1), (993, .aload_n 0, 1), (994, .iload_n 3, 1), (995, .iconst 1, 1), (996, .iadd, 1), (997, .iaload, 1), (998, .invokevirtual 138, 3), (1001, .if_icmp .eq 412, 3), (1004, .iconst 0, 1), (1005, .ireturn, 1)]
set_option maxRecDepth 100000 in
theorem dkL29 : rf_decs code ddL29 := rf_decs_of (by decide +kernel)
set_option maxHeartbeats 16000000 in
set_option maxRecDepth 100000 in
theorem lw_case29 {X : rfX} {G : rfG} {b Ln : Nat} {sc : Nat → Int32} {n sl : Nat} (C : lwC X G b Ln sc n sl) {i : Int32} (h0 : 0 ≤ i.toInt) (h1 : i.toInt + 5 < (Ln : Int)) (KK : ∀ ws', kW X n sl 1413 [(3, .int i), (2, .ref (G.2.1.1 114)), (1, .ref (G.2.1.1 70)), (0, .ref b)] [] ws') {ws : va_W} (hw : rf_world G.2.1.1 G.2.1.2.1 G.2.1.2.2.1 G.2.1.2.2.2 ws) (hfr : frOK (hv ws)) : kW X n sl 983 [(3, .int i), (2, .ref (G.2.1.1 114)), (1, .ref (G.2.1.1 70)), (0, .ref b)] [] ws := by
  have hG := C.1
  have c := C.2.2.1
  have hd : ∀ n pc i len, ddL29[n]? = some (pc, i, len) → decode code pc = .ok (i, len) := fun n pc i len h => hdk dkL29 n pc i len h
  obtain ⟨a1, ea1⟩ : ∃ a, sc (i + 1).toNatClampNeg = a := ⟨_, rfl⟩
  have r1 : -2147483648 ≤ a1.toInt ∧ a1.toInt ≤ 2147483647 := ⟨(rf_in_top a1).1, (rf_in_top a1).2.1⟩
  refine k_al c (hd 0 983 _ _ rfl) (by rfl) (k_pc 984 rfl ?_)
  refine k_al c (hd 1 984 _ _ rfl) (by rfl) (k_pc 985 rfl ?_)
  refine k_il c (hd 2 985 _ _ rfl) (by rfl) (k_pc 986 rfl ?_)
  refine k_ic c (hd 3 986 _ _ rfl) (v := 1) (by decide) (k_pc 987 rfl ?_)
  refine k_addE c (hd 4 987 _ _ rfl) (k_pc 988 rfl ?_)
  refine k_sldE C (lw_in h0 h1 C.2.2.2.2.1 (by decide)) ea1 (hd 5 988 _ _ rfl) (k_pc 989 rfl ?_)
  refine k_callC C (M := q296_M) (rf_metV_of (q296_met hG)) (-1) (by decide +kernel) (by decide +kernel) (wlkV (lkL_135 hG) _ rfl rfl) (j := 70) (by decide +kernel) ⟨Nat.le_of_ble_eq_true rfl, Nat.le_of_ble_eq_true rfl⟩ (hd 6 989 _ _ rfl) [.int a1] (rest := []) (by rfl) ⟨⟨70, by decide, rfl⟩, ⟨_, rfl, rf_in_top _, trivial⟩, trivial⟩ (Nat.le_of_ble_eq_true rfl) hw (fr_pre hfr (hframe_rf [] _) (by decide +kernel)) trivial (fun x1 ws1 hw1 hf1 e1 => k_pc 992 rfl ?_)
  refine k_al c (hd 7 992 _ _ rfl) (by rfl) (k_pc 993 rfl ?_)
  refine k_al c (hd 8 993 _ _ rfl) (by rfl) (k_pc 994 rfl ?_)
  refine k_il c (hd 9 994 _ _ rfl) (by rfl) (k_pc 995 rfl ?_)
  refine k_ic c (hd 10 995 _ _ rfl) (v := 1) (by decide) (k_pc 996 rfl ?_)
  refine k_addE c (hd 11 996 _ _ rfl) (k_pc 997 rfl ?_)
  refine k_sldE C (lw_in h0 h1 C.2.2.2.2.1 (by decide)) ea1 (hd 12 997 _ _ rfl) (k_pc 998 rfl ?_)
  refine k_callC C (M := q297_M) (rf_metV_of (q297_met hG)) (-1) (by decide +kernel) (by decide +kernel) (wlkV (lkL_138 hG) _ rfl rfl) (j := 114) (by decide +kernel) ⟨Nat.le_of_ble_eq_true rfl, Nat.le_of_ble_eq_true rfl⟩ (hd 13 998 _ _ rfl) [.int a1] (rest := [.int x1]) (by rfl) ⟨⟨114, by decide, rfl⟩, ⟨_, rfl, rf_in_top _, trivial⟩, trivial⟩ (Nat.le_of_ble_eq_true rfl) hw1 (fr_pre hfr hf1 (by decide +kernel)) trivial (fun x2 ws2 hw2 hf2 e2 => k_pc 1001 rfl ?_)
  exact k_ceq c (hd 14 1001 _ _ rfl) (tgt := 1413) (by decide) (Int32.toInt_inj.mp (e1.trans e2.symm)) (KK _)
def ddL30 : List (Nat × Instr × Nat) := [(1006, .aload_n 1, 1), (1007, .aload_n 0, 1), (1008, .iload_n 3, 1), (1009, .iconst 1, 1), (1010, .iadd, 1), (1011, .iaload, 1), (1012, .invokevirtual 139, 3), (1015, .aload_n 2, 1), (1016, .aload_n 0, 1), (1017, .iload_n 3, 1), (1018, .iconst 1, 1), (1019, .iadd, 1), (1020, .iaload, 1), (1021, .invokevirtual 142, 3), (1024, .if_icmp .eq 389, 3), (1027, .iconst 0, 1), (1028, .ireturn, 1)]
set_option maxRecDepth 100000 in
theorem dkL30 : rf_decs code ddL30 := rf_decs_of (by decide +kernel)
set_option maxHeartbeats 16000000 in
set_option maxRecDepth 100000 in
theorem lw_case30 {X : rfX} {G : rfG} {b Ln : Nat} {sc : Nat → Int32} {n sl : Nat} (C : lwC X G b Ln sc n sl) {i : Int32} (h0 : 0 ≤ i.toInt) (h1 : i.toInt + 5 < (Ln : Int)) (KK : ∀ ws', kW X n sl 1413 [(3, .int i), (2, .ref (G.2.1.1 114)), (1, .ref (G.2.1.1 70)), (0, .ref b)] [] ws') {ws : va_W} (hw : rf_world G.2.1.1 G.2.1.2.1 G.2.1.2.2.1 G.2.1.2.2.2 ws) (hfr : frOK (hv ws)) : kW X n sl 1006 [(3, .int i), (2, .ref (G.2.1.1 114)), (1, .ref (G.2.1.1 70)), (0, .ref b)] [] ws := by
  have hG := C.1
  have c := C.2.2.1
  have hd : ∀ n pc i len, ddL30[n]? = some (pc, i, len) → decode code pc = .ok (i, len) := fun n pc i len h => hdk dkL30 n pc i len h
  obtain ⟨a1, ea1⟩ : ∃ a, sc (i + 1).toNatClampNeg = a := ⟨_, rfl⟩
  have r1 : -2147483648 ≤ a1.toInt ∧ a1.toInt ≤ 2147483647 := ⟨(rf_in_top a1).1, (rf_in_top a1).2.1⟩
  have hc_ : (a1.toInt ≤ (-1)) ∨ (0 ≤ a1.toInt ∧ a1.toInt ≤ 6) ∨ (7 ≤ a1.toInt) := by omega
  rcases hc_ with hc_ | hc_ | hc_
  · skip
    refine k_al c (hd 0 1006 _ _ rfl) (by rfl) (k_pc 1007 rfl ?_)
    refine k_al c (hd 1 1007 _ _ rfl) (by rfl) (k_pc 1008 rfl ?_)
    refine k_il c (hd 2 1008 _ _ rfl) (by rfl) (k_pc 1009 rfl ?_)
    refine k_ic c (hd 3 1009 _ _ rfl) (v := 1) (by decide) (k_pc 1010 rfl ?_)
    refine k_addE c (hd 4 1010 _ _ rfl) (k_pc 1011 rfl ?_)
    refine k_sldE C (lw_in h0 h1 C.2.2.2.2.1 (by decide)) ea1 (hd 5 1011 _ _ rfl) (k_pc 1012 rfl ?_)
    refine k_callC C (M := q298_M) (rf_metV_of (q298_met hG)) (-1) (by decide +kernel) (by decide +kernel) (wlkV (lkL_139 hG) _ rfl rfl) (j := 70) (by decide +kernel) ⟨Nat.le_of_ble_eq_true rfl, Nat.le_of_ble_eq_true rfl⟩ (hd 6 1012 _ _ rfl) [.int a1] (rest := []) (by rfl) ⟨⟨70, by decide, rfl⟩, ⟨_, rfl, rf_in1 (by omega) (by omega), trivial⟩, trivial⟩ (Nat.le_of_ble_eq_true rfl) hw (fr_pre hfr (hframe_rf [] _) (by decide +kernel)) trivial (fun x1 ws1 hw1 hf1 e1 => k_pc 1015 rfl ?_)
    refine k_al c (hd 7 1015 _ _ rfl) (by rfl) (k_pc 1016 rfl ?_)
    refine k_al c (hd 8 1016 _ _ rfl) (by rfl) (k_pc 1017 rfl ?_)
    refine k_il c (hd 9 1017 _ _ rfl) (by rfl) (k_pc 1018 rfl ?_)
    refine k_ic c (hd 10 1018 _ _ rfl) (v := 1) (by decide) (k_pc 1019 rfl ?_)
    refine k_addE c (hd 11 1019 _ _ rfl) (k_pc 1020 rfl ?_)
    refine k_sldE C (lw_in h0 h1 C.2.2.2.2.1 (by decide)) ea1 (hd 12 1020 _ _ rfl) (k_pc 1021 rfl ?_)
    refine k_callC C (M := q299_M) (rf_metV_of (q299_met hG)) (-1) (by decide +kernel) (by decide +kernel) (wlkV (lkL_142 hG) _ rfl rfl) (j := 114) (by decide +kernel) ⟨Nat.le_of_ble_eq_true rfl, Nat.le_of_ble_eq_true rfl⟩ (hd 13 1021 _ _ rfl) [.int a1] (rest := [.int x1]) (by rfl) ⟨⟨114, by decide, rfl⟩, ⟨_, rfl, rf_in1 (by omega) (by omega), trivial⟩, trivial⟩ (Nat.le_of_ble_eq_true rfl) hw1 (fr_pre hfr hf1 (by decide +kernel)) trivial (fun x2 ws2 hw2 hf2 e2 => k_pc 1024 rfl ?_)
    exact k_ceq c (hd 14 1024 _ _ rfl) (tgt := 1413) (by decide) (Int32.toInt_inj.mp (e1.trans e2.symm)) (KK _)
  · skip
    refine k_al c (hd 0 1006 _ _ rfl) (by rfl) (k_pc 1007 rfl ?_)
    refine k_al c (hd 1 1007 _ _ rfl) (by rfl) (k_pc 1008 rfl ?_)
    refine k_il c (hd 2 1008 _ _ rfl) (by rfl) (k_pc 1009 rfl ?_)
    refine k_ic c (hd 3 1009 _ _ rfl) (v := 1) (by decide) (k_pc 1010 rfl ?_)
    refine k_addE c (hd 4 1010 _ _ rfl) (k_pc 1011 rfl ?_)
    refine k_sldE C (lw_in h0 h1 C.2.2.2.2.1 (by decide)) ea1 (hd 5 1011 _ _ rfl) (k_pc 1012 rfl ?_)
    refine k_callC C (M := q301_M) (rf_metV_of (q301_met hG)) 0 (by decide +kernel) (by decide +kernel) (wlkV (lkL_139 hG) _ rfl rfl) (j := 70) (by decide +kernel) ⟨Nat.le_of_ble_eq_true rfl, Nat.le_of_ble_eq_true rfl⟩ (hd 6 1012 _ _ rfl) [.int a1] (rest := []) (by rfl) ⟨⟨70, by decide, rfl⟩, ⟨_, rfl, rf_in1 (by omega) (by omega), trivial⟩, trivial⟩ (Nat.le_of_ble_eq_true rfl) hw (fr_pre hfr (hframe_rf [] _) (by decide +kernel)) trivial (fun x1 ws1 hw1 hf1 e1 => k_pc 1015 rfl ?_)
    refine k_al c (hd 7 1015 _ _ rfl) (by rfl) (k_pc 1016 rfl ?_)
    refine k_al c (hd 8 1016 _ _ rfl) (by rfl) (k_pc 1017 rfl ?_)
    refine k_il c (hd 9 1017 _ _ rfl) (by rfl) (k_pc 1018 rfl ?_)
    refine k_ic c (hd 10 1018 _ _ rfl) (v := 1) (by decide) (k_pc 1019 rfl ?_)
    refine k_addE c (hd 11 1019 _ _ rfl) (k_pc 1020 rfl ?_)
    refine k_sldE C (lw_in h0 h1 C.2.2.2.2.1 (by decide)) ea1 (hd 12 1020 _ _ rfl) (k_pc 1021 rfl ?_)
    refine k_callC C (M := q304_M) (rf_metV_of (q304_met hG)) 0 (by decide +kernel) (by decide +kernel) (wlkV (lkL_142 hG) _ rfl rfl) (j := 114) (by decide +kernel) ⟨Nat.le_of_ble_eq_true rfl, Nat.le_of_ble_eq_true rfl⟩ (hd 13 1021 _ _ rfl) [.int a1] (rest := [.int x1]) (by rfl) ⟨⟨114, by decide, rfl⟩, ⟨_, rfl, rf_in1 (by omega) (by omega), trivial⟩, trivial⟩ (Nat.le_of_ble_eq_true rfl) hw1 (fr_pre hfr hf1 (by decide +kernel)) trivial (fun x2 ws2 hw2 hf2 e2 => k_pc 1024 rfl ?_)
    exact k_ceq c (hd 14 1024 _ _ rfl) (tgt := 1413) (by decide) (Int32.toInt_inj.mp (e1.trans e2.symm)) (KK _)
  · skip
    refine k_al c (hd 0 1006 _ _ rfl) (by rfl) (k_pc 1007 rfl ?_)
    refine k_al c (hd 1 1007 _ _ rfl) (by rfl) (k_pc 1008 rfl ?_)
    refine k_il c (hd 2 1008 _ _ rfl) (by rfl) (k_pc 1009 rfl ?_)
    refine k_ic c (hd 3 1009 _ _ rfl) (v := 1) (by decide) (k_pc 1010 rfl ?_)
    refine k_addE c (hd 4 1010 _ _ rfl) (k_pc 1011 rfl ?_)
    refine k_sldE C (lw_in h0 h1 C.2.2.2.2.1 (by decide)) ea1 (hd 5 1011 _ _ rfl) (k_pc 1012 rfl ?_)
    refine k_callC C (M := q305_M) (rf_metV_of (q305_met hG)) (-1) (by decide +kernel) (by decide +kernel) (wlkV (lkL_139 hG) _ rfl rfl) (j := 70) (by decide +kernel) ⟨Nat.le_of_ble_eq_true rfl, Nat.le_of_ble_eq_true rfl⟩ (hd 6 1012 _ _ rfl) [.int a1] (rest := []) (by rfl) ⟨⟨70, by decide, rfl⟩, ⟨_, rfl, rf_in1 (by omega) (by omega), trivial⟩, trivial⟩ (Nat.le_of_ble_eq_true rfl) hw (fr_pre hfr (hframe_rf [] _) (by decide +kernel)) trivial (fun x1 ws1 hw1 hf1 e1 => k_pc 1015 rfl ?_)
    refine k_al c (hd 7 1015 _ _ rfl) (by rfl) (k_pc 1016 rfl ?_)
    refine k_al c (hd 8 1016 _ _ rfl) (by rfl) (k_pc 1017 rfl ?_)
    refine k_il c (hd 9 1017 _ _ rfl) (by rfl) (k_pc 1018 rfl ?_)
    refine k_ic c (hd 10 1018 _ _ rfl) (v := 1) (by decide) (k_pc 1019 rfl ?_)
    refine k_addE c (hd 11 1019 _ _ rfl) (k_pc 1020 rfl ?_)
    refine k_sldE C (lw_in h0 h1 C.2.2.2.2.1 (by decide)) ea1 (hd 12 1020 _ _ rfl) (k_pc 1021 rfl ?_)
    refine k_callC C (M := q306_M) (rf_metV_of (q306_met hG)) (-1) (by decide +kernel) (by decide +kernel) (wlkV (lkL_142 hG) _ rfl rfl) (j := 114) (by decide +kernel) ⟨Nat.le_of_ble_eq_true rfl, Nat.le_of_ble_eq_true rfl⟩ (hd 13 1021 _ _ rfl) [.int a1] (rest := [.int x1]) (by rfl) ⟨⟨114, by decide, rfl⟩, ⟨_, rfl, rf_in1 (by omega) (by omega), trivial⟩, trivial⟩ (Nat.le_of_ble_eq_true rfl) hw1 (fr_pre hfr hf1 (by decide +kernel)) trivial (fun x2 ws2 hw2 hf2 e2 => k_pc 1024 rfl ?_)
    exact k_ceq c (hd 14 1024 _ _ rfl) (tgt := 1413) (by decide) (Int32.toInt_inj.mp (e1.trans e2.symm)) (KK _)
def ddL31 : List (Nat × Instr × Nat) := [(1029, .aload_n 1, 1), (1030, .aload_n 0, 1), (1031, .iload_n 3, 1), (1032, .iconst 1, 1), (1033, .iadd, 1), (1034, .iaload, 1), (1035, .invokevirtual 143, 3), (1038, .aload_n 2, 1), (1039, .aload_n 0, 1), (1040, .iload_n 3, 1), (1041, .iconst 1, 1), (1042, .iadd, 1), (1043, .iaload, 1), (1044, .invokevirtual 146, 3), (1047, .if_icmp .eq 366, 3), (1050, .iconst 0, 1), (1051, .ireturn, 1)]
set_option maxRecDepth 100000 in
theorem dkL31 : rf_decs code ddL31 := rf_decs_of (by decide +kernel)
set_option maxHeartbeats 16000000 in
set_option maxRecDepth 100000 in
theorem lw_case31 {X : rfX} {G : rfG} {b Ln : Nat} {sc : Nat → Int32} {n sl : Nat} (C : lwC X G b Ln sc n sl) {i : Int32} (h0 : 0 ≤ i.toInt) (h1 : i.toInt + 5 < (Ln : Int)) (KK : ∀ ws', kW X n sl 1413 [(3, .int i), (2, .ref (G.2.1.1 114)), (1, .ref (G.2.1.1 70)), (0, .ref b)] [] ws') {ws : va_W} (hw : rf_world G.2.1.1 G.2.1.2.1 G.2.1.2.2.1 G.2.1.2.2.2 ws) (hfr : frOK (hv ws)) : kW X n sl 1029 [(3, .int i), (2, .ref (G.2.1.1 114)), (1, .ref (G.2.1.1 70)), (0, .ref b)] [] ws := by
  have hG := C.1
  have c := C.2.2.1
  have hd : ∀ n pc i len, ddL31[n]? = some (pc, i, len) → decode code pc = .ok (i, len) := fun n pc i len h => hdk dkL31 n pc i len h
  obtain ⟨a1, ea1⟩ : ∃ a, sc (i + 1).toNatClampNeg = a := ⟨_, rfl⟩
  have r1 : -2147483648 ≤ a1.toInt ∧ a1.toInt ≤ 2147483647 := ⟨(rf_in_top a1).1, (rf_in_top a1).2.1⟩
  have hc_ : (a1.toInt ≤ (-1)) ∨ (a1.toInt = 0) ∨ (a1.toInt = 1) ∨ (a1.toInt = 2) ∨ (a1.toInt = 3) ∨ (a1.toInt = 4) ∨ (a1.toInt = 5) ∨ (a1.toInt = 6) ∨ (a1.toInt = 7) ∨ (a1.toInt = 8) ∨ (a1.toInt = 9) ∨ (a1.toInt = 10) ∨ (a1.toInt = 11) ∨ (a1.toInt = 12) ∨ (13 ≤ a1.toInt) := by omega
  rcases hc_ with hc_ | hc_ | hc_ | hc_ | hc_ | hc_ | hc_ | hc_ | hc_ | hc_ | hc_ | hc_ | hc_ | hc_ | hc_
  · skip
    refine k_al c (hd 0 1029 _ _ rfl) (by rfl) (k_pc 1030 rfl ?_)
    refine k_al c (hd 1 1030 _ _ rfl) (by rfl) (k_pc 1031 rfl ?_)
    refine k_il c (hd 2 1031 _ _ rfl) (by rfl) (k_pc 1032 rfl ?_)
    refine k_ic c (hd 3 1032 _ _ rfl) (v := 1) (by decide) (k_pc 1033 rfl ?_)
    refine k_addE c (hd 4 1033 _ _ rfl) (k_pc 1034 rfl ?_)
    refine k_sldE C (lw_in h0 h1 C.2.2.2.2.1 (by decide)) ea1 (hd 5 1034 _ _ rfl) (k_pc 1035 rfl ?_)
    refine k_callC C (M := q307_M) (rf_metV_of (q307_met hG)) (-1) (by decide +kernel) (by decide +kernel) (wlkV (lkL_143 hG) _ rfl rfl) (j := 70) (by decide +kernel) ⟨Nat.le_of_ble_eq_true rfl, Nat.le_of_ble_eq_true rfl⟩ (hd 6 1035 _ _ rfl) [.int a1] (rest := []) (by rfl) ⟨⟨70, by decide, rfl⟩, ⟨_, rfl, rf_in1 (by omega) (by omega), trivial⟩, trivial⟩ (Nat.le_of_ble_eq_true rfl) hw (fr_pre hfr (hframe_rf [] _) (by decide +kernel)) trivial (fun x1 ws1 hw1 hf1 e1 => k_pc 1038 rfl ?_)
    refine k_al c (hd 7 1038 _ _ rfl) (by rfl) (k_pc 1039 rfl ?_)
    refine k_al c (hd 8 1039 _ _ rfl) (by rfl) (k_pc 1040 rfl ?_)
    refine k_il c (hd 9 1040 _ _ rfl) (by rfl) (k_pc 1041 rfl ?_)
    refine k_ic c (hd 10 1041 _ _ rfl) (v := 1) (by decide) (k_pc 1042 rfl ?_)
    refine k_addE c (hd 11 1042 _ _ rfl) (k_pc 1043 rfl ?_)
    refine k_sldE C (lw_in h0 h1 C.2.2.2.2.1 (by decide)) ea1 (hd 12 1043 _ _ rfl) (k_pc 1044 rfl ?_)
    refine k_callC C (M := q309_M) (rf_metV_of (q309_met hG)) (-1) (by decide +kernel) (by decide +kernel) (wlkV (lkL_146 hG) _ rfl rfl) (j := 114) (by decide +kernel) ⟨Nat.le_of_ble_eq_true rfl, Nat.le_of_ble_eq_true rfl⟩ (hd 13 1044 _ _ rfl) [.int a1] (rest := [.int x1]) (by rfl) ⟨⟨114, by decide, rfl⟩, ⟨_, rfl, rf_in1 (by omega) (by omega), trivial⟩, trivial⟩ (Nat.le_of_ble_eq_true rfl) hw1 (fr_pre hfr hf1 (by decide +kernel)) trivial (fun x2 ws2 hw2 hf2 e2 => k_pc 1047 rfl ?_)
    exact k_ceq c (hd 14 1047 _ _ rfl) (tgt := 1413) (by decide) (Int32.toInt_inj.mp (e1.trans e2.symm)) (KK _)
  · skip
    refine k_al c (hd 0 1029 _ _ rfl) (by rfl) (k_pc 1030 rfl ?_)
    refine k_al c (hd 1 1030 _ _ rfl) (by rfl) (k_pc 1031 rfl ?_)
    refine k_il c (hd 2 1031 _ _ rfl) (by rfl) (k_pc 1032 rfl ?_)
    refine k_ic c (hd 3 1032 _ _ rfl) (v := 1) (by decide) (k_pc 1033 rfl ?_)
    refine k_addE c (hd 4 1033 _ _ rfl) (k_pc 1034 rfl ?_)
    refine k_sldE C (lw_in h0 h1 C.2.2.2.2.1 (by decide)) ea1 (hd 5 1034 _ _ rfl) (k_pc 1035 rfl ?_)
    refine k_callC C (M := q313_M) (rf_metV_of (q313_met hG)) 0 (by decide +kernel) (by decide +kernel) (wlkV (lkL_143 hG) _ rfl rfl) (j := 70) (by decide +kernel) ⟨Nat.le_of_ble_eq_true rfl, Nat.le_of_ble_eq_true rfl⟩ (hd 6 1035 _ _ rfl) [.int a1] (rest := []) (by rfl) ⟨⟨70, by decide, rfl⟩, ⟨_, rfl, hcon (by omega), trivial⟩, trivial⟩ (Nat.le_of_ble_eq_true rfl) hw (fr_pre hfr (hframe_rf [] _) (by decide +kernel)) trivial (fun x1 ws1 hw1 hf1 e1 => k_pc 1038 rfl ?_)
    refine k_al c (hd 7 1038 _ _ rfl) (by rfl) (k_pc 1039 rfl ?_)
    refine k_al c (hd 8 1039 _ _ rfl) (by rfl) (k_pc 1040 rfl ?_)
    refine k_il c (hd 9 1040 _ _ rfl) (by rfl) (k_pc 1041 rfl ?_)
    refine k_ic c (hd 10 1041 _ _ rfl) (v := 1) (by decide) (k_pc 1042 rfl ?_)
    refine k_addE c (hd 11 1042 _ _ rfl) (k_pc 1043 rfl ?_)
    refine k_sldE C (lw_in h0 h1 C.2.2.2.2.1 (by decide)) ea1 (hd 12 1043 _ _ rfl) (k_pc 1044 rfl ?_)
    refine k_callC C (M := q315_M) (rf_metV_of (q315_met hG)) 0 (by decide +kernel) (by decide +kernel) (wlkV (lkL_146 hG) _ rfl rfl) (j := 114) (by decide +kernel) ⟨Nat.le_of_ble_eq_true rfl, Nat.le_of_ble_eq_true rfl⟩ (hd 13 1044 _ _ rfl) [.int a1] (rest := [.int x1]) (by rfl) ⟨⟨114, by decide, rfl⟩, ⟨_, rfl, hcon (by omega), trivial⟩, trivial⟩ (Nat.le_of_ble_eq_true rfl) hw1 (fr_pre hfr hf1 (by decide +kernel)) trivial (fun x2 ws2 hw2 hf2 e2 => k_pc 1047 rfl ?_)
    exact k_ceq c (hd 14 1047 _ _ rfl) (tgt := 1413) (by decide) (Int32.toInt_inj.mp (e1.trans e2.symm)) (KK _)
  · skip
    refine k_al c (hd 0 1029 _ _ rfl) (by rfl) (k_pc 1030 rfl ?_)
    refine k_al c (hd 1 1030 _ _ rfl) (by rfl) (k_pc 1031 rfl ?_)
    refine k_il c (hd 2 1031 _ _ rfl) (by rfl) (k_pc 1032 rfl ?_)
    refine k_ic c (hd 3 1032 _ _ rfl) (v := 1) (by decide) (k_pc 1033 rfl ?_)
    refine k_addE c (hd 4 1033 _ _ rfl) (k_pc 1034 rfl ?_)
    refine k_sldE C (lw_in h0 h1 C.2.2.2.2.1 (by decide)) ea1 (hd 5 1034 _ _ rfl) (k_pc 1035 rfl ?_)
    refine k_callC C (M := q317_M) (rf_metV_of (q317_met hG)) 0 (by decide +kernel) (by decide +kernel) (wlkV (lkL_143 hG) _ rfl rfl) (j := 70) (by decide +kernel) ⟨Nat.le_of_ble_eq_true rfl, Nat.le_of_ble_eq_true rfl⟩ (hd 6 1035 _ _ rfl) [.int a1] (rest := []) (by rfl) ⟨⟨70, by decide, rfl⟩, ⟨_, rfl, hcon (by omega), trivial⟩, trivial⟩ (Nat.le_of_ble_eq_true rfl) hw (fr_pre hfr (hframe_rf [] _) (by decide +kernel)) trivial (fun x1 ws1 hw1 hf1 e1 => k_pc 1038 rfl ?_)
    refine k_al c (hd 7 1038 _ _ rfl) (by rfl) (k_pc 1039 rfl ?_)
    refine k_al c (hd 8 1039 _ _ rfl) (by rfl) (k_pc 1040 rfl ?_)
    refine k_il c (hd 9 1040 _ _ rfl) (by rfl) (k_pc 1041 rfl ?_)
    refine k_ic c (hd 10 1041 _ _ rfl) (v := 1) (by decide) (k_pc 1042 rfl ?_)
    refine k_addE c (hd 11 1042 _ _ rfl) (k_pc 1043 rfl ?_)
    refine k_sldE C (lw_in h0 h1 C.2.2.2.2.1 (by decide)) ea1 (hd 12 1043 _ _ rfl) (k_pc 1044 rfl ?_)
    refine k_callC C (M := q319_M) (rf_metV_of (q319_met hG)) 0 (by decide +kernel) (by decide +kernel) (wlkV (lkL_146 hG) _ rfl rfl) (j := 114) (by decide +kernel) ⟨Nat.le_of_ble_eq_true rfl, Nat.le_of_ble_eq_true rfl⟩ (hd 13 1044 _ _ rfl) [.int a1] (rest := [.int x1]) (by rfl) ⟨⟨114, by decide, rfl⟩, ⟨_, rfl, hcon (by omega), trivial⟩, trivial⟩ (Nat.le_of_ble_eq_true rfl) hw1 (fr_pre hfr hf1 (by decide +kernel)) trivial (fun x2 ws2 hw2 hf2 e2 => k_pc 1047 rfl ?_)
    exact k_ceq c (hd 14 1047 _ _ rfl) (tgt := 1413) (by decide) (Int32.toInt_inj.mp (e1.trans e2.symm)) (KK _)
  · skip
    refine k_al c (hd 0 1029 _ _ rfl) (by rfl) (k_pc 1030 rfl ?_)
    refine k_al c (hd 1 1030 _ _ rfl) (by rfl) (k_pc 1031 rfl ?_)
    refine k_il c (hd 2 1031 _ _ rfl) (by rfl) (k_pc 1032 rfl ?_)
    refine k_ic c (hd 3 1032 _ _ rfl) (v := 1) (by decide) (k_pc 1033 rfl ?_)
    refine k_addE c (hd 4 1033 _ _ rfl) (k_pc 1034 rfl ?_)
    refine k_sldE C (lw_in h0 h1 C.2.2.2.2.1 (by decide)) ea1 (hd 5 1034 _ _ rfl) (k_pc 1035 rfl ?_)
    refine k_callC C (M := q321_M) (rf_metV_of (q321_met hG)) 0 (by decide +kernel) (by decide +kernel) (wlkV (lkL_143 hG) _ rfl rfl) (j := 70) (by decide +kernel) ⟨Nat.le_of_ble_eq_true rfl, Nat.le_of_ble_eq_true rfl⟩ (hd 6 1035 _ _ rfl) [.int a1] (rest := []) (by rfl) ⟨⟨70, by decide, rfl⟩, ⟨_, rfl, hcon (by omega), trivial⟩, trivial⟩ (Nat.le_of_ble_eq_true rfl) hw (fr_pre hfr (hframe_rf [] _) (by decide +kernel)) trivial (fun x1 ws1 hw1 hf1 e1 => k_pc 1038 rfl ?_)
    refine k_al c (hd 7 1038 _ _ rfl) (by rfl) (k_pc 1039 rfl ?_)
    refine k_al c (hd 8 1039 _ _ rfl) (by rfl) (k_pc 1040 rfl ?_)
    refine k_il c (hd 9 1040 _ _ rfl) (by rfl) (k_pc 1041 rfl ?_)
    refine k_ic c (hd 10 1041 _ _ rfl) (v := 1) (by decide) (k_pc 1042 rfl ?_)
    refine k_addE c (hd 11 1042 _ _ rfl) (k_pc 1043 rfl ?_)
    refine k_sldE C (lw_in h0 h1 C.2.2.2.2.1 (by decide)) ea1 (hd 12 1043 _ _ rfl) (k_pc 1044 rfl ?_)
    refine k_callC C (M := q323_M) (rf_metV_of (q323_met hG)) 0 (by decide +kernel) (by decide +kernel) (wlkV (lkL_146 hG) _ rfl rfl) (j := 114) (by decide +kernel) ⟨Nat.le_of_ble_eq_true rfl, Nat.le_of_ble_eq_true rfl⟩ (hd 13 1044 _ _ rfl) [.int a1] (rest := [.int x1]) (by rfl) ⟨⟨114, by decide, rfl⟩, ⟨_, rfl, hcon (by omega), trivial⟩, trivial⟩ (Nat.le_of_ble_eq_true rfl) hw1 (fr_pre hfr hf1 (by decide +kernel)) trivial (fun x2 ws2 hw2 hf2 e2 => k_pc 1047 rfl ?_)
    exact k_ceq c (hd 14 1047 _ _ rfl) (tgt := 1413) (by decide) (Int32.toInt_inj.mp (e1.trans e2.symm)) (KK _)
  · skip
    refine k_al c (hd 0 1029 _ _ rfl) (by rfl) (k_pc 1030 rfl ?_)
    refine k_al c (hd 1 1030 _ _ rfl) (by rfl) (k_pc 1031 rfl ?_)
    refine k_il c (hd 2 1031 _ _ rfl) (by rfl) (k_pc 1032 rfl ?_)
    refine k_ic c (hd 3 1032 _ _ rfl) (v := 1) (by decide) (k_pc 1033 rfl ?_)
    refine k_addE c (hd 4 1033 _ _ rfl) (k_pc 1034 rfl ?_)
    refine k_sldE C (lw_in h0 h1 C.2.2.2.2.1 (by decide)) ea1 (hd 5 1034 _ _ rfl) (k_pc 1035 rfl ?_)
    refine k_callC C (M := q325_M) (rf_metV_of (q325_met hG)) 0 (by decide +kernel) (by decide +kernel) (wlkV (lkL_143 hG) _ rfl rfl) (j := 70) (by decide +kernel) ⟨Nat.le_of_ble_eq_true rfl, Nat.le_of_ble_eq_true rfl⟩ (hd 6 1035 _ _ rfl) [.int a1] (rest := []) (by rfl) ⟨⟨70, by decide, rfl⟩, ⟨_, rfl, hcon (by omega), trivial⟩, trivial⟩ (Nat.le_of_ble_eq_true rfl) hw (fr_pre hfr (hframe_rf [] _) (by decide +kernel)) trivial (fun x1 ws1 hw1 hf1 e1 => k_pc 1038 rfl ?_)
    refine k_al c (hd 7 1038 _ _ rfl) (by rfl) (k_pc 1039 rfl ?_)
    refine k_al c (hd 8 1039 _ _ rfl) (by rfl) (k_pc 1040 rfl ?_)
    refine k_il c (hd 9 1040 _ _ rfl) (by rfl) (k_pc 1041 rfl ?_)
    refine k_ic c (hd 10 1041 _ _ rfl) (v := 1) (by decide) (k_pc 1042 rfl ?_)
    refine k_addE c (hd 11 1042 _ _ rfl) (k_pc 1043 rfl ?_)
    refine k_sldE C (lw_in h0 h1 C.2.2.2.2.1 (by decide)) ea1 (hd 12 1043 _ _ rfl) (k_pc 1044 rfl ?_)
    refine k_callC C (M := q327_M) (rf_metV_of (q327_met hG)) 0 (by decide +kernel) (by decide +kernel) (wlkV (lkL_146 hG) _ rfl rfl) (j := 114) (by decide +kernel) ⟨Nat.le_of_ble_eq_true rfl, Nat.le_of_ble_eq_true rfl⟩ (hd 13 1044 _ _ rfl) [.int a1] (rest := [.int x1]) (by rfl) ⟨⟨114, by decide, rfl⟩, ⟨_, rfl, hcon (by omega), trivial⟩, trivial⟩ (Nat.le_of_ble_eq_true rfl) hw1 (fr_pre hfr hf1 (by decide +kernel)) trivial (fun x2 ws2 hw2 hf2 e2 => k_pc 1047 rfl ?_)
    exact k_ceq c (hd 14 1047 _ _ rfl) (tgt := 1413) (by decide) (Int32.toInt_inj.mp (e1.trans e2.symm)) (KK _)
  · skip
    refine k_al c (hd 0 1029 _ _ rfl) (by rfl) (k_pc 1030 rfl ?_)
    refine k_al c (hd 1 1030 _ _ rfl) (by rfl) (k_pc 1031 rfl ?_)
    refine k_il c (hd 2 1031 _ _ rfl) (by rfl) (k_pc 1032 rfl ?_)
    refine k_ic c (hd 3 1032 _ _ rfl) (v := 1) (by decide) (k_pc 1033 rfl ?_)
    refine k_addE c (hd 4 1033 _ _ rfl) (k_pc 1034 rfl ?_)
    refine k_sldE C (lw_in h0 h1 C.2.2.2.2.1 (by decide)) ea1 (hd 5 1034 _ _ rfl) (k_pc 1035 rfl ?_)
    refine k_callC C (M := q329_M) (rf_metV_of (q329_met hG)) 0 (by decide +kernel) (by decide +kernel) (wlkV (lkL_143 hG) _ rfl rfl) (j := 70) (by decide +kernel) ⟨Nat.le_of_ble_eq_true rfl, Nat.le_of_ble_eq_true rfl⟩ (hd 6 1035 _ _ rfl) [.int a1] (rest := []) (by rfl) ⟨⟨70, by decide, rfl⟩, ⟨_, rfl, hcon (by omega), trivial⟩, trivial⟩ (Nat.le_of_ble_eq_true rfl) hw (fr_pre hfr (hframe_rf [] _) (by decide +kernel)) trivial (fun x1 ws1 hw1 hf1 e1 => k_pc 1038 rfl ?_)
    refine k_al c (hd 7 1038 _ _ rfl) (by rfl) (k_pc 1039 rfl ?_)
    refine k_al c (hd 8 1039 _ _ rfl) (by rfl) (k_pc 1040 rfl ?_)
    refine k_il c (hd 9 1040 _ _ rfl) (by rfl) (k_pc 1041 rfl ?_)
    refine k_ic c (hd 10 1041 _ _ rfl) (v := 1) (by decide) (k_pc 1042 rfl ?_)
    refine k_addE c (hd 11 1042 _ _ rfl) (k_pc 1043 rfl ?_)
    refine k_sldE C (lw_in h0 h1 C.2.2.2.2.1 (by decide)) ea1 (hd 12 1043 _ _ rfl) (k_pc 1044 rfl ?_)
    refine k_callC C (M := q331_M) (rf_metV_of (q331_met hG)) 0 (by decide +kernel) (by decide +kernel) (wlkV (lkL_146 hG) _ rfl rfl) (j := 114) (by decide +kernel) ⟨Nat.le_of_ble_eq_true rfl, Nat.le_of_ble_eq_true rfl⟩ (hd 13 1044 _ _ rfl) [.int a1] (rest := [.int x1]) (by rfl) ⟨⟨114, by decide, rfl⟩, ⟨_, rfl, hcon (by omega), trivial⟩, trivial⟩ (Nat.le_of_ble_eq_true rfl) hw1 (fr_pre hfr hf1 (by decide +kernel)) trivial (fun x2 ws2 hw2 hf2 e2 => k_pc 1047 rfl ?_)
    exact k_ceq c (hd 14 1047 _ _ rfl) (tgt := 1413) (by decide) (Int32.toInt_inj.mp (e1.trans e2.symm)) (KK _)
  · skip
    refine k_al c (hd 0 1029 _ _ rfl) (by rfl) (k_pc 1030 rfl ?_)
    refine k_al c (hd 1 1030 _ _ rfl) (by rfl) (k_pc 1031 rfl ?_)
    refine k_il c (hd 2 1031 _ _ rfl) (by rfl) (k_pc 1032 rfl ?_)
    refine k_ic c (hd 3 1032 _ _ rfl) (v := 1) (by decide) (k_pc 1033 rfl ?_)
    refine k_addE c (hd 4 1033 _ _ rfl) (k_pc 1034 rfl ?_)
    refine k_sldE C (lw_in h0 h1 C.2.2.2.2.1 (by decide)) ea1 (hd 5 1034 _ _ rfl) (k_pc 1035 rfl ?_)
    refine k_callC C (M := q333_M) (rf_metV_of (q333_met hG)) 0 (by decide +kernel) (by decide +kernel) (wlkV (lkL_143 hG) _ rfl rfl) (j := 70) (by decide +kernel) ⟨Nat.le_of_ble_eq_true rfl, Nat.le_of_ble_eq_true rfl⟩ (hd 6 1035 _ _ rfl) [.int a1] (rest := []) (by rfl) ⟨⟨70, by decide, rfl⟩, ⟨_, rfl, hcon (by omega), trivial⟩, trivial⟩ (Nat.le_of_ble_eq_true rfl) hw (fr_pre hfr (hframe_rf [] _) (by decide +kernel)) trivial (fun x1 ws1 hw1 hf1 e1 => k_pc 1038 rfl ?_)
    refine k_al c (hd 7 1038 _ _ rfl) (by rfl) (k_pc 1039 rfl ?_)
    refine k_al c (hd 8 1039 _ _ rfl) (by rfl) (k_pc 1040 rfl ?_)
    refine k_il c (hd 9 1040 _ _ rfl) (by rfl) (k_pc 1041 rfl ?_)
    refine k_ic c (hd 10 1041 _ _ rfl) (v := 1) (by decide) (k_pc 1042 rfl ?_)
    refine k_addE c (hd 11 1042 _ _ rfl) (k_pc 1043 rfl ?_)
    refine k_sldE C (lw_in h0 h1 C.2.2.2.2.1 (by decide)) ea1 (hd 12 1043 _ _ rfl) (k_pc 1044 rfl ?_)
    refine k_callC C (M := q335_M) (rf_metV_of (q335_met hG)) 0 (by decide +kernel) (by decide +kernel) (wlkV (lkL_146 hG) _ rfl rfl) (j := 114) (by decide +kernel) ⟨Nat.le_of_ble_eq_true rfl, Nat.le_of_ble_eq_true rfl⟩ (hd 13 1044 _ _ rfl) [.int a1] (rest := [.int x1]) (by rfl) ⟨⟨114, by decide, rfl⟩, ⟨_, rfl, hcon (by omega), trivial⟩, trivial⟩ (Nat.le_of_ble_eq_true rfl) hw1 (fr_pre hfr hf1 (by decide +kernel)) trivial (fun x2 ws2 hw2 hf2 e2 => k_pc 1047 rfl ?_)
    exact k_ceq c (hd 14 1047 _ _ rfl) (tgt := 1413) (by decide) (Int32.toInt_inj.mp (e1.trans e2.symm)) (KK _)
  · skip
    refine k_al c (hd 0 1029 _ _ rfl) (by rfl) (k_pc 1030 rfl ?_)
    refine k_al c (hd 1 1030 _ _ rfl) (by rfl) (k_pc 1031 rfl ?_)
    refine k_il c (hd 2 1031 _ _ rfl) (by rfl) (k_pc 1032 rfl ?_)
    refine k_ic c (hd 3 1032 _ _ rfl) (v := 1) (by decide) (k_pc 1033 rfl ?_)
    refine k_addE c (hd 4 1033 _ _ rfl) (k_pc 1034 rfl ?_)
    refine k_sldE C (lw_in h0 h1 C.2.2.2.2.1 (by decide)) ea1 (hd 5 1034 _ _ rfl) (k_pc 1035 rfl ?_)
    refine k_callC C (M := q337_M) (rf_metV_of (q337_met hG)) 0 (by decide +kernel) (by decide +kernel) (wlkV (lkL_143 hG) _ rfl rfl) (j := 70) (by decide +kernel) ⟨Nat.le_of_ble_eq_true rfl, Nat.le_of_ble_eq_true rfl⟩ (hd 6 1035 _ _ rfl) [.int a1] (rest := []) (by rfl) ⟨⟨70, by decide, rfl⟩, ⟨_, rfl, hcon (by omega), trivial⟩, trivial⟩ (Nat.le_of_ble_eq_true rfl) hw (fr_pre hfr (hframe_rf [] _) (by decide +kernel)) trivial (fun x1 ws1 hw1 hf1 e1 => k_pc 1038 rfl ?_)
    refine k_al c (hd 7 1038 _ _ rfl) (by rfl) (k_pc 1039 rfl ?_)
    refine k_al c (hd 8 1039 _ _ rfl) (by rfl) (k_pc 1040 rfl ?_)
    refine k_il c (hd 9 1040 _ _ rfl) (by rfl) (k_pc 1041 rfl ?_)
    refine k_ic c (hd 10 1041 _ _ rfl) (v := 1) (by decide) (k_pc 1042 rfl ?_)
    refine k_addE c (hd 11 1042 _ _ rfl) (k_pc 1043 rfl ?_)
    refine k_sldE C (lw_in h0 h1 C.2.2.2.2.1 (by decide)) ea1 (hd 12 1043 _ _ rfl) (k_pc 1044 rfl ?_)
    refine k_callC C (M := q339_M) (rf_metV_of (q339_met hG)) 0 (by decide +kernel) (by decide +kernel) (wlkV (lkL_146 hG) _ rfl rfl) (j := 114) (by decide +kernel) ⟨Nat.le_of_ble_eq_true rfl, Nat.le_of_ble_eq_true rfl⟩ (hd 13 1044 _ _ rfl) [.int a1] (rest := [.int x1]) (by rfl) ⟨⟨114, by decide, rfl⟩, ⟨_, rfl, hcon (by omega), trivial⟩, trivial⟩ (Nat.le_of_ble_eq_true rfl) hw1 (fr_pre hfr hf1 (by decide +kernel)) trivial (fun x2 ws2 hw2 hf2 e2 => k_pc 1047 rfl ?_)
    exact k_ceq c (hd 14 1047 _ _ rfl) (tgt := 1413) (by decide) (Int32.toInt_inj.mp (e1.trans e2.symm)) (KK _)
  · skip
    refine k_al c (hd 0 1029 _ _ rfl) (by rfl) (k_pc 1030 rfl ?_)
    refine k_al c (hd 1 1030 _ _ rfl) (by rfl) (k_pc 1031 rfl ?_)
    refine k_il c (hd 2 1031 _ _ rfl) (by rfl) (k_pc 1032 rfl ?_)
    refine k_ic c (hd 3 1032 _ _ rfl) (v := 1) (by decide) (k_pc 1033 rfl ?_)
    refine k_addE c (hd 4 1033 _ _ rfl) (k_pc 1034 rfl ?_)
    refine k_sldE C (lw_in h0 h1 C.2.2.2.2.1 (by decide)) ea1 (hd 5 1034 _ _ rfl) (k_pc 1035 rfl ?_)
    refine k_callC C (M := q341_M) (rf_metV_of (q341_met hG)) 0 (by decide +kernel) (by decide +kernel) (wlkV (lkL_143 hG) _ rfl rfl) (j := 70) (by decide +kernel) ⟨Nat.le_of_ble_eq_true rfl, Nat.le_of_ble_eq_true rfl⟩ (hd 6 1035 _ _ rfl) [.int a1] (rest := []) (by rfl) ⟨⟨70, by decide, rfl⟩, ⟨_, rfl, hcon (by omega), trivial⟩, trivial⟩ (Nat.le_of_ble_eq_true rfl) hw (fr_pre hfr (hframe_rf [] _) (by decide +kernel)) trivial (fun x1 ws1 hw1 hf1 e1 => k_pc 1038 rfl ?_)
    refine k_al c (hd 7 1038 _ _ rfl) (by rfl) (k_pc 1039 rfl ?_)
    refine k_al c (hd 8 1039 _ _ rfl) (by rfl) (k_pc 1040 rfl ?_)
    refine k_il c (hd 9 1040 _ _ rfl) (by rfl) (k_pc 1041 rfl ?_)
    refine k_ic c (hd 10 1041 _ _ rfl) (v := 1) (by decide) (k_pc 1042 rfl ?_)
    refine k_addE c (hd 11 1042 _ _ rfl) (k_pc 1043 rfl ?_)
    refine k_sldE C (lw_in h0 h1 C.2.2.2.2.1 (by decide)) ea1 (hd 12 1043 _ _ rfl) (k_pc 1044 rfl ?_)
    refine k_callC C (M := q343_M) (rf_metV_of (q343_met hG)) 0 (by decide +kernel) (by decide +kernel) (wlkV (lkL_146 hG) _ rfl rfl) (j := 114) (by decide +kernel) ⟨Nat.le_of_ble_eq_true rfl, Nat.le_of_ble_eq_true rfl⟩ (hd 13 1044 _ _ rfl) [.int a1] (rest := [.int x1]) (by rfl) ⟨⟨114, by decide, rfl⟩, ⟨_, rfl, hcon (by omega), trivial⟩, trivial⟩ (Nat.le_of_ble_eq_true rfl) hw1 (fr_pre hfr hf1 (by decide +kernel)) trivial (fun x2 ws2 hw2 hf2 e2 => k_pc 1047 rfl ?_)
    exact k_ceq c (hd 14 1047 _ _ rfl) (tgt := 1413) (by decide) (Int32.toInt_inj.mp (e1.trans e2.symm)) (KK _)
  · skip
    refine k_al c (hd 0 1029 _ _ rfl) (by rfl) (k_pc 1030 rfl ?_)
    refine k_al c (hd 1 1030 _ _ rfl) (by rfl) (k_pc 1031 rfl ?_)
    refine k_il c (hd 2 1031 _ _ rfl) (by rfl) (k_pc 1032 rfl ?_)
    refine k_ic c (hd 3 1032 _ _ rfl) (v := 1) (by decide) (k_pc 1033 rfl ?_)
    refine k_addE c (hd 4 1033 _ _ rfl) (k_pc 1034 rfl ?_)
    refine k_sldE C (lw_in h0 h1 C.2.2.2.2.1 (by decide)) ea1 (hd 5 1034 _ _ rfl) (k_pc 1035 rfl ?_)
    refine k_callC C (M := q345_M) (rf_metV_of (q345_met hG)) 0 (by decide +kernel) (by decide +kernel) (wlkV (lkL_143 hG) _ rfl rfl) (j := 70) (by decide +kernel) ⟨Nat.le_of_ble_eq_true rfl, Nat.le_of_ble_eq_true rfl⟩ (hd 6 1035 _ _ rfl) [.int a1] (rest := []) (by rfl) ⟨⟨70, by decide, rfl⟩, ⟨_, rfl, hcon (by omega), trivial⟩, trivial⟩ (Nat.le_of_ble_eq_true rfl) hw (fr_pre hfr (hframe_rf [] _) (by decide +kernel)) trivial (fun x1 ws1 hw1 hf1 e1 => k_pc 1038 rfl ?_)
    refine k_al c (hd 7 1038 _ _ rfl) (by rfl) (k_pc 1039 rfl ?_)
    refine k_al c (hd 8 1039 _ _ rfl) (by rfl) (k_pc 1040 rfl ?_)
    refine k_il c (hd 9 1040 _ _ rfl) (by rfl) (k_pc 1041 rfl ?_)
    refine k_ic c (hd 10 1041 _ _ rfl) (v := 1) (by decide) (k_pc 1042 rfl ?_)
    refine k_addE c (hd 11 1042 _ _ rfl) (k_pc 1043 rfl ?_)
    refine k_sldE C (lw_in h0 h1 C.2.2.2.2.1 (by decide)) ea1 (hd 12 1043 _ _ rfl) (k_pc 1044 rfl ?_)
    refine k_callC C (M := q347_M) (rf_metV_of (q347_met hG)) 0 (by decide +kernel) (by decide +kernel) (wlkV (lkL_146 hG) _ rfl rfl) (j := 114) (by decide +kernel) ⟨Nat.le_of_ble_eq_true rfl, Nat.le_of_ble_eq_true rfl⟩ (hd 13 1044 _ _ rfl) [.int a1] (rest := [.int x1]) (by rfl) ⟨⟨114, by decide, rfl⟩, ⟨_, rfl, hcon (by omega), trivial⟩, trivial⟩ (Nat.le_of_ble_eq_true rfl) hw1 (fr_pre hfr hf1 (by decide +kernel)) trivial (fun x2 ws2 hw2 hf2 e2 => k_pc 1047 rfl ?_)
    exact k_ceq c (hd 14 1047 _ _ rfl) (tgt := 1413) (by decide) (Int32.toInt_inj.mp (e1.trans e2.symm)) (KK _)
  · skip
    refine k_al c (hd 0 1029 _ _ rfl) (by rfl) (k_pc 1030 rfl ?_)
    refine k_al c (hd 1 1030 _ _ rfl) (by rfl) (k_pc 1031 rfl ?_)
    refine k_il c (hd 2 1031 _ _ rfl) (by rfl) (k_pc 1032 rfl ?_)
    refine k_ic c (hd 3 1032 _ _ rfl) (v := 1) (by decide) (k_pc 1033 rfl ?_)
    refine k_addE c (hd 4 1033 _ _ rfl) (k_pc 1034 rfl ?_)
    refine k_sldE C (lw_in h0 h1 C.2.2.2.2.1 (by decide)) ea1 (hd 5 1034 _ _ rfl) (k_pc 1035 rfl ?_)
    refine k_callC C (M := q349_M) (rf_metV_of (q349_met hG)) 0 (by decide +kernel) (by decide +kernel) (wlkV (lkL_143 hG) _ rfl rfl) (j := 70) (by decide +kernel) ⟨Nat.le_of_ble_eq_true rfl, Nat.le_of_ble_eq_true rfl⟩ (hd 6 1035 _ _ rfl) [.int a1] (rest := []) (by rfl) ⟨⟨70, by decide, rfl⟩, ⟨_, rfl, hcon (by omega), trivial⟩, trivial⟩ (Nat.le_of_ble_eq_true rfl) hw (fr_pre hfr (hframe_rf [] _) (by decide +kernel)) trivial (fun x1 ws1 hw1 hf1 e1 => k_pc 1038 rfl ?_)
    refine k_al c (hd 7 1038 _ _ rfl) (by rfl) (k_pc 1039 rfl ?_)
    refine k_al c (hd 8 1039 _ _ rfl) (by rfl) (k_pc 1040 rfl ?_)
    refine k_il c (hd 9 1040 _ _ rfl) (by rfl) (k_pc 1041 rfl ?_)
    refine k_ic c (hd 10 1041 _ _ rfl) (v := 1) (by decide) (k_pc 1042 rfl ?_)
    refine k_addE c (hd 11 1042 _ _ rfl) (k_pc 1043 rfl ?_)
    refine k_sldE C (lw_in h0 h1 C.2.2.2.2.1 (by decide)) ea1 (hd 12 1043 _ _ rfl) (k_pc 1044 rfl ?_)
    refine k_callC C (M := q351_M) (rf_metV_of (q351_met hG)) 0 (by decide +kernel) (by decide +kernel) (wlkV (lkL_146 hG) _ rfl rfl) (j := 114) (by decide +kernel) ⟨Nat.le_of_ble_eq_true rfl, Nat.le_of_ble_eq_true rfl⟩ (hd 13 1044 _ _ rfl) [.int a1] (rest := [.int x1]) (by rfl) ⟨⟨114, by decide, rfl⟩, ⟨_, rfl, hcon (by omega), trivial⟩, trivial⟩ (Nat.le_of_ble_eq_true rfl) hw1 (fr_pre hfr hf1 (by decide +kernel)) trivial (fun x2 ws2 hw2 hf2 e2 => k_pc 1047 rfl ?_)
    exact k_ceq c (hd 14 1047 _ _ rfl) (tgt := 1413) (by decide) (Int32.toInt_inj.mp (e1.trans e2.symm)) (KK _)
  · skip
    refine k_al c (hd 0 1029 _ _ rfl) (by rfl) (k_pc 1030 rfl ?_)
    refine k_al c (hd 1 1030 _ _ rfl) (by rfl) (k_pc 1031 rfl ?_)
    refine k_il c (hd 2 1031 _ _ rfl) (by rfl) (k_pc 1032 rfl ?_)
    refine k_ic c (hd 3 1032 _ _ rfl) (v := 1) (by decide) (k_pc 1033 rfl ?_)
    refine k_addE c (hd 4 1033 _ _ rfl) (k_pc 1034 rfl ?_)
    refine k_sldE C (lw_in h0 h1 C.2.2.2.2.1 (by decide)) ea1 (hd 5 1034 _ _ rfl) (k_pc 1035 rfl ?_)
    refine k_callC C (M := q353_M) (rf_metV_of (q353_met hG)) 0 (by decide +kernel) (by decide +kernel) (wlkV (lkL_143 hG) _ rfl rfl) (j := 70) (by decide +kernel) ⟨Nat.le_of_ble_eq_true rfl, Nat.le_of_ble_eq_true rfl⟩ (hd 6 1035 _ _ rfl) [.int a1] (rest := []) (by rfl) ⟨⟨70, by decide, rfl⟩, ⟨_, rfl, hcon (by omega), trivial⟩, trivial⟩ (Nat.le_of_ble_eq_true rfl) hw (fr_pre hfr (hframe_rf [] _) (by decide +kernel)) trivial (fun x1 ws1 hw1 hf1 e1 => k_pc 1038 rfl ?_)
    refine k_al c (hd 7 1038 _ _ rfl) (by rfl) (k_pc 1039 rfl ?_)
    refine k_al c (hd 8 1039 _ _ rfl) (by rfl) (k_pc 1040 rfl ?_)
    refine k_il c (hd 9 1040 _ _ rfl) (by rfl) (k_pc 1041 rfl ?_)
    refine k_ic c (hd 10 1041 _ _ rfl) (v := 1) (by decide) (k_pc 1042 rfl ?_)
    refine k_addE c (hd 11 1042 _ _ rfl) (k_pc 1043 rfl ?_)
    refine k_sldE C (lw_in h0 h1 C.2.2.2.2.1 (by decide)) ea1 (hd 12 1043 _ _ rfl) (k_pc 1044 rfl ?_)
    refine k_callC C (M := q355_M) (rf_metV_of (q355_met hG)) 0 (by decide +kernel) (by decide +kernel) (wlkV (lkL_146 hG) _ rfl rfl) (j := 114) (by decide +kernel) ⟨Nat.le_of_ble_eq_true rfl, Nat.le_of_ble_eq_true rfl⟩ (hd 13 1044 _ _ rfl) [.int a1] (rest := [.int x1]) (by rfl) ⟨⟨114, by decide, rfl⟩, ⟨_, rfl, hcon (by omega), trivial⟩, trivial⟩ (Nat.le_of_ble_eq_true rfl) hw1 (fr_pre hfr hf1 (by decide +kernel)) trivial (fun x2 ws2 hw2 hf2 e2 => k_pc 1047 rfl ?_)
    exact k_ceq c (hd 14 1047 _ _ rfl) (tgt := 1413) (by decide) (Int32.toInt_inj.mp (e1.trans e2.symm)) (KK _)
  · skip
    refine k_al c (hd 0 1029 _ _ rfl) (by rfl) (k_pc 1030 rfl ?_)
    refine k_al c (hd 1 1030 _ _ rfl) (by rfl) (k_pc 1031 rfl ?_)
    refine k_il c (hd 2 1031 _ _ rfl) (by rfl) (k_pc 1032 rfl ?_)
    refine k_ic c (hd 3 1032 _ _ rfl) (v := 1) (by decide) (k_pc 1033 rfl ?_)
    refine k_addE c (hd 4 1033 _ _ rfl) (k_pc 1034 rfl ?_)
    refine k_sldE C (lw_in h0 h1 C.2.2.2.2.1 (by decide)) ea1 (hd 5 1034 _ _ rfl) (k_pc 1035 rfl ?_)
    refine k_callC C (M := q357_M) (rf_metV_of (q357_met hG)) 0 (by decide +kernel) (by decide +kernel) (wlkV (lkL_143 hG) _ rfl rfl) (j := 70) (by decide +kernel) ⟨Nat.le_of_ble_eq_true rfl, Nat.le_of_ble_eq_true rfl⟩ (hd 6 1035 _ _ rfl) [.int a1] (rest := []) (by rfl) ⟨⟨70, by decide, rfl⟩, ⟨_, rfl, hcon (by omega), trivial⟩, trivial⟩ (Nat.le_of_ble_eq_true rfl) hw (fr_pre hfr (hframe_rf [] _) (by decide +kernel)) trivial (fun x1 ws1 hw1 hf1 e1 => k_pc 1038 rfl ?_)
    refine k_al c (hd 7 1038 _ _ rfl) (by rfl) (k_pc 1039 rfl ?_)
    refine k_al c (hd 8 1039 _ _ rfl) (by rfl) (k_pc 1040 rfl ?_)
    refine k_il c (hd 9 1040 _ _ rfl) (by rfl) (k_pc 1041 rfl ?_)
    refine k_ic c (hd 10 1041 _ _ rfl) (v := 1) (by decide) (k_pc 1042 rfl ?_)
    refine k_addE c (hd 11 1042 _ _ rfl) (k_pc 1043 rfl ?_)
    refine k_sldE C (lw_in h0 h1 C.2.2.2.2.1 (by decide)) ea1 (hd 12 1043 _ _ rfl) (k_pc 1044 rfl ?_)
    refine k_callC C (M := q359_M) (rf_metV_of (q359_met hG)) 0 (by decide +kernel) (by decide +kernel) (wlkV (lkL_146 hG) _ rfl rfl) (j := 114) (by decide +kernel) ⟨Nat.le_of_ble_eq_true rfl, Nat.le_of_ble_eq_true rfl⟩ (hd 13 1044 _ _ rfl) [.int a1] (rest := [.int x1]) (by rfl) ⟨⟨114, by decide, rfl⟩, ⟨_, rfl, hcon (by omega), trivial⟩, trivial⟩ (Nat.le_of_ble_eq_true rfl) hw1 (fr_pre hfr hf1 (by decide +kernel)) trivial (fun x2 ws2 hw2 hf2 e2 => k_pc 1047 rfl ?_)
    exact k_ceq c (hd 14 1047 _ _ rfl) (tgt := 1413) (by decide) (Int32.toInt_inj.mp (e1.trans e2.symm)) (KK _)
  · skip
    refine k_al c (hd 0 1029 _ _ rfl) (by rfl) (k_pc 1030 rfl ?_)
    refine k_al c (hd 1 1030 _ _ rfl) (by rfl) (k_pc 1031 rfl ?_)
    refine k_il c (hd 2 1031 _ _ rfl) (by rfl) (k_pc 1032 rfl ?_)
    refine k_ic c (hd 3 1032 _ _ rfl) (v := 1) (by decide) (k_pc 1033 rfl ?_)
    refine k_addE c (hd 4 1033 _ _ rfl) (k_pc 1034 rfl ?_)
    refine k_sldE C (lw_in h0 h1 C.2.2.2.2.1 (by decide)) ea1 (hd 5 1034 _ _ rfl) (k_pc 1035 rfl ?_)
    refine k_callC C (M := q361_M) (rf_metV_of (q361_met hG)) 0 (by decide +kernel) (by decide +kernel) (wlkV (lkL_143 hG) _ rfl rfl) (j := 70) (by decide +kernel) ⟨Nat.le_of_ble_eq_true rfl, Nat.le_of_ble_eq_true rfl⟩ (hd 6 1035 _ _ rfl) [.int a1] (rest := []) (by rfl) ⟨⟨70, by decide, rfl⟩, ⟨_, rfl, hcon (by omega), trivial⟩, trivial⟩ (Nat.le_of_ble_eq_true rfl) hw (fr_pre hfr (hframe_rf [] _) (by decide +kernel)) trivial (fun x1 ws1 hw1 hf1 e1 => k_pc 1038 rfl ?_)
    refine k_al c (hd 7 1038 _ _ rfl) (by rfl) (k_pc 1039 rfl ?_)
    refine k_al c (hd 8 1039 _ _ rfl) (by rfl) (k_pc 1040 rfl ?_)
    refine k_il c (hd 9 1040 _ _ rfl) (by rfl) (k_pc 1041 rfl ?_)
    refine k_ic c (hd 10 1041 _ _ rfl) (v := 1) (by decide) (k_pc 1042 rfl ?_)
    refine k_addE c (hd 11 1042 _ _ rfl) (k_pc 1043 rfl ?_)
    refine k_sldE C (lw_in h0 h1 C.2.2.2.2.1 (by decide)) ea1 (hd 12 1043 _ _ rfl) (k_pc 1044 rfl ?_)
    refine k_callC C (M := q363_M) (rf_metV_of (q363_met hG)) 0 (by decide +kernel) (by decide +kernel) (wlkV (lkL_146 hG) _ rfl rfl) (j := 114) (by decide +kernel) ⟨Nat.le_of_ble_eq_true rfl, Nat.le_of_ble_eq_true rfl⟩ (hd 13 1044 _ _ rfl) [.int a1] (rest := [.int x1]) (by rfl) ⟨⟨114, by decide, rfl⟩, ⟨_, rfl, hcon (by omega), trivial⟩, trivial⟩ (Nat.le_of_ble_eq_true rfl) hw1 (fr_pre hfr hf1 (by decide +kernel)) trivial (fun x2 ws2 hw2 hf2 e2 => k_pc 1047 rfl ?_)
    exact k_ceq c (hd 14 1047 _ _ rfl) (tgt := 1413) (by decide) (Int32.toInt_inj.mp (e1.trans e2.symm)) (KK _)
  · skip
    refine k_al c (hd 0 1029 _ _ rfl) (by rfl) (k_pc 1030 rfl ?_)
    refine k_al c (hd 1 1030 _ _ rfl) (by rfl) (k_pc 1031 rfl ?_)
    refine k_il c (hd 2 1031 _ _ rfl) (by rfl) (k_pc 1032 rfl ?_)
    refine k_ic c (hd 3 1032 _ _ rfl) (v := 1) (by decide) (k_pc 1033 rfl ?_)
    refine k_addE c (hd 4 1033 _ _ rfl) (k_pc 1034 rfl ?_)
    refine k_sldE C (lw_in h0 h1 C.2.2.2.2.1 (by decide)) ea1 (hd 5 1034 _ _ rfl) (k_pc 1035 rfl ?_)
    refine k_callC C (M := q364_M) (rf_metV_of (q364_met hG)) (-1) (by decide +kernel) (by decide +kernel) (wlkV (lkL_143 hG) _ rfl rfl) (j := 70) (by decide +kernel) ⟨Nat.le_of_ble_eq_true rfl, Nat.le_of_ble_eq_true rfl⟩ (hd 6 1035 _ _ rfl) [.int a1] (rest := []) (by rfl) ⟨⟨70, by decide, rfl⟩, ⟨_, rfl, rf_in1 (by omega) (by omega), trivial⟩, trivial⟩ (Nat.le_of_ble_eq_true rfl) hw (fr_pre hfr (hframe_rf [] _) (by decide +kernel)) trivial (fun x1 ws1 hw1 hf1 e1 => k_pc 1038 rfl ?_)
    refine k_al c (hd 7 1038 _ _ rfl) (by rfl) (k_pc 1039 rfl ?_)
    refine k_al c (hd 8 1039 _ _ rfl) (by rfl) (k_pc 1040 rfl ?_)
    refine k_il c (hd 9 1040 _ _ rfl) (by rfl) (k_pc 1041 rfl ?_)
    refine k_ic c (hd 10 1041 _ _ rfl) (v := 1) (by decide) (k_pc 1042 rfl ?_)
    refine k_addE c (hd 11 1042 _ _ rfl) (k_pc 1043 rfl ?_)
    refine k_sldE C (lw_in h0 h1 C.2.2.2.2.1 (by decide)) ea1 (hd 12 1043 _ _ rfl) (k_pc 1044 rfl ?_)
    refine k_callC C (M := q366_M) (rf_metV_of (q366_met hG)) (-1) (by decide +kernel) (by decide +kernel) (wlkV (lkL_146 hG) _ rfl rfl) (j := 114) (by decide +kernel) ⟨Nat.le_of_ble_eq_true rfl, Nat.le_of_ble_eq_true rfl⟩ (hd 13 1044 _ _ rfl) [.int a1] (rest := [.int x1]) (by rfl) ⟨⟨114, by decide, rfl⟩, ⟨_, rfl, rf_in1 (by omega) (by omega), trivial⟩, trivial⟩ (Nat.le_of_ble_eq_true rfl) hw1 (fr_pre hfr hf1 (by decide +kernel)) trivial (fun x2 ws2 hw2 hf2 e2 => k_pc 1047 rfl ?_)
    exact k_ceq c (hd 14 1047 _ _ rfl) (tgt := 1413) (by decide) (Int32.toInt_inj.mp (e1.trans e2.symm)) (KK _)
def ddL32 : List (Nat × Instr × Nat) := [(1052, .aload_n 1, 1), (1053, .invokevirtual 147, 3), (1056, .aload_n 2, 1), (1057, .invokevirtual 150, 3), (1060, .if_icmp .eq 353, 3), (1063, .iconst 0, 1), (1064, .ireturn, 1)]
set_option maxRecDepth 100000 in
theorem dkL32 : rf_decs code ddL32 := rf_decs_of (by decide +kernel)
set_option maxHeartbeats 16000000 in
set_option maxRecDepth 100000 in
theorem lw_case32 {X : rfX} {G : rfG} {b Ln : Nat} {sc : Nat → Int32} {n sl : Nat} (C : lwC X G b Ln sc n sl) {i : Int32} (h0 : 0 ≤ i.toInt) (h1 : i.toInt + 5 < (Ln : Int)) (KK : ∀ ws', kW X n sl 1413 [(3, .int i), (2, .ref (G.2.1.1 114)), (1, .ref (G.2.1.1 70)), (0, .ref b)] [] ws') {ws : va_W} (hw : rf_world G.2.1.1 G.2.1.2.1 G.2.1.2.2.1 G.2.1.2.2.2 ws) (hfr : frOK (hv ws)) : kW X n sl 1052 [(3, .int i), (2, .ref (G.2.1.1 114)), (1, .ref (G.2.1.1 70)), (0, .ref b)] [] ws := by
  have hG := C.1
  have c := C.2.2.1
  have hd : ∀ n pc i len, ddL32[n]? = some (pc, i, len) → decode code pc = .ok (i, len) := fun n pc i len h => hdk dkL32 n pc i len h
  refine k_al c (hd 0 1052 _ _ rfl) (by rfl) (k_pc 1053 rfl ?_)
  refine k_callC C (M := q368_M) (rf_metV_of (q368_met hG)) 0 (by decide +kernel) (by decide +kernel) (wlkV (lkL_147 hG) _ rfl rfl) (j := 70) (by decide +kernel) ⟨Nat.le_of_ble_eq_true rfl, Nat.le_of_ble_eq_true rfl⟩ (hd 1 1053 _ _ rfl) [] (rest := []) (by rfl) ⟨⟨70, by decide, rfl⟩, trivial⟩ (Nat.le_of_ble_eq_true rfl) hw (fr_pre hfr (hframe_rf [] _) (by decide +kernel)) trivial (fun x1 ws1 hw1 hf1 e1 => k_pc 1056 rfl ?_)
  refine k_al c (hd 2 1056 _ _ rfl) (by rfl) (k_pc 1057 rfl ?_)
  refine k_callC C (M := q369_M) (rf_metV_of (q369_met hG)) 0 (by decide +kernel) (by decide +kernel) (wlkV (lkL_150 hG) _ rfl rfl) (j := 114) (by decide +kernel) ⟨Nat.le_of_ble_eq_true rfl, Nat.le_of_ble_eq_true rfl⟩ (hd 3 1057 _ _ rfl) [] (rest := [.int x1]) (by rfl) ⟨⟨114, by decide, rfl⟩, trivial⟩ (Nat.le_of_ble_eq_true rfl) hw1 (fr_pre hfr hf1 (by decide +kernel)) trivial (fun x2 ws2 hw2 hf2 e2 => k_pc 1060 rfl ?_)
  exact k_ceq c (hd 4 1060 _ _ rfl) (tgt := 1413) (by decide) (Int32.toInt_inj.mp (e1.trans e2.symm)) (KK _)
def ddL33 : List (Nat × Instr × Nat) := [(1065, .aload_n 1, 1), (1066, .invokevirtual 151, 3), (1069, .aload_n 2, 1), (1070, .invokevirtual 154, 3), (1073, .if_icmp .eq 340, 3), (1076, .iconst 0, 1), (1077, .ireturn, 1)]
set_option maxRecDepth 100000 in
theorem dkL33 : rf_decs code ddL33 := rf_decs_of (by decide +kernel)
set_option maxHeartbeats 16000000 in
set_option maxRecDepth 100000 in
theorem lw_case33 {X : rfX} {G : rfG} {b Ln : Nat} {sc : Nat → Int32} {n sl : Nat} (C : lwC X G b Ln sc n sl) {i : Int32} (h0 : 0 ≤ i.toInt) (h1 : i.toInt + 5 < (Ln : Int)) (KK : ∀ ws', kW X n sl 1413 [(3, .int i), (2, .ref (G.2.1.1 114)), (1, .ref (G.2.1.1 70)), (0, .ref b)] [] ws') {ws : va_W} (hw : rf_world G.2.1.1 G.2.1.2.1 G.2.1.2.2.1 G.2.1.2.2.2 ws) (hfr : frOK (hv ws)) : kW X n sl 1065 [(3, .int i), (2, .ref (G.2.1.1 114)), (1, .ref (G.2.1.1 70)), (0, .ref b)] [] ws := by
  have hG := C.1
  have c := C.2.2.1
  have hd : ∀ n pc i len, ddL33[n]? = some (pc, i, len) → decode code pc = .ok (i, len) := fun n pc i len h => hdk dkL33 n pc i len h
  refine k_al c (hd 0 1065 _ _ rfl) (by rfl) (k_pc 1066 rfl ?_)
  refine k_callC C (M := q371_M) (rf_metV_of (q371_met hG)) 0 (by decide +kernel) (by decide +kernel) (wlkV (lkL_151 hG) _ rfl rfl) (j := 70) (by decide +kernel) ⟨Nat.le_of_ble_eq_true rfl, Nat.le_of_ble_eq_true rfl⟩ (hd 1 1066 _ _ rfl) [] (rest := []) (by rfl) ⟨⟨70, by decide, rfl⟩, trivial⟩ (Nat.le_of_ble_eq_true rfl) hw (fr_pre hfr (hframe_rf [] _) (by decide +kernel)) trivial (fun x1 ws1 hw1 hf1 e1 => k_pc 1069 rfl ?_)
  refine k_al c (hd 2 1069 _ _ rfl) (by rfl) (k_pc 1070 rfl ?_)
  refine k_callC C (M := q372_M) (rf_metV_of (q372_met hG)) 0 (by decide +kernel) (by decide +kernel) (wlkV (lkL_154 hG) _ rfl rfl) (j := 114) (by decide +kernel) ⟨Nat.le_of_ble_eq_true rfl, Nat.le_of_ble_eq_true rfl⟩ (hd 3 1070 _ _ rfl) [] (rest := [.int x1]) (by rfl) ⟨⟨114, by decide, rfl⟩, trivial⟩ (Nat.le_of_ble_eq_true rfl) hw1 (fr_pre hfr hf1 (by decide +kernel)) trivial (fun x2 ws2 hw2 hf2 e2 => k_pc 1073 rfl ?_)
  exact k_ceq c (hd 4 1073 _ _ rfl) (tgt := 1413) (by decide) (Int32.toInt_inj.mp (e1.trans e2.symm)) (KK _)
def ddL34 : List (Nat × Instr × Nat) := [(1078, .aload_n 1, 1), (1079, .invokevirtual 155, 3), (1082, .aload_n 2, 1), (1083, .invokevirtual 158, 3), (1086, .if_icmp .eq 327, 3), (1089, .iconst 0, 1), (1090, .ireturn, 1)]
set_option maxRecDepth 100000 in
theorem dkL34 : rf_decs code ddL34 := rf_decs_of (by decide +kernel)
set_option maxHeartbeats 16000000 in
set_option maxRecDepth 100000 in
theorem lw_case34 {X : rfX} {G : rfG} {b Ln : Nat} {sc : Nat → Int32} {n sl : Nat} (C : lwC X G b Ln sc n sl) {i : Int32} (h0 : 0 ≤ i.toInt) (h1 : i.toInt + 5 < (Ln : Int)) (KK : ∀ ws', kW X n sl 1413 [(3, .int i), (2, .ref (G.2.1.1 114)), (1, .ref (G.2.1.1 70)), (0, .ref b)] [] ws') {ws : va_W} (hw : rf_world G.2.1.1 G.2.1.2.1 G.2.1.2.2.1 G.2.1.2.2.2 ws) (hfr : frOK (hv ws)) : kW X n sl 1078 [(3, .int i), (2, .ref (G.2.1.1 114)), (1, .ref (G.2.1.1 70)), (0, .ref b)] [] ws := by
  have hG := C.1
  have c := C.2.2.1
  have hd : ∀ n pc i len, ddL34[n]? = some (pc, i, len) → decode code pc = .ok (i, len) := fun n pc i len h => hdk dkL34 n pc i len h
  refine k_al c (hd 0 1078 _ _ rfl) (by rfl) (k_pc 1079 rfl ?_)
  refine k_callC C (M := q375_M) (rf_metV_of (q375_met hG)) 0 (by decide +kernel) (by decide +kernel) (wlkV (lkL_155 hG) _ rfl rfl) (j := 70) (by decide +kernel) ⟨Nat.le_of_ble_eq_true rfl, Nat.le_of_ble_eq_true rfl⟩ (hd 1 1079 _ _ rfl) [] (rest := []) (by rfl) ⟨⟨70, by decide, rfl⟩, trivial⟩ (Nat.le_of_ble_eq_true rfl) hw (fr_pre hfr (hframe_rf [] _) (by decide +kernel)) trivial (fun x1 ws1 hw1 hf1 e1 => k_pc 1082 rfl ?_)
  refine k_al c (hd 2 1082 _ _ rfl) (by rfl) (k_pc 1083 rfl ?_)
  refine k_callC C (M := q376_M) (rf_metV_of (q376_met hG)) 0 (by decide +kernel) (by decide +kernel) (wlkV (lkL_158 hG) _ rfl rfl) (j := 114) (by decide +kernel) ⟨Nat.le_of_ble_eq_true rfl, Nat.le_of_ble_eq_true rfl⟩ (hd 3 1083 _ _ rfl) [] (rest := [.int x1]) (by rfl) ⟨⟨114, by decide, rfl⟩, trivial⟩ (Nat.le_of_ble_eq_true rfl) hw1 (fr_pre hfr hf1 (by decide +kernel)) trivial (fun x2 ws2 hw2 hf2 e2 => k_pc 1086 rfl ?_)
  exact k_ceq c (hd 4 1086 _ _ rfl) (tgt := 1413) (by decide) (Int32.toInt_inj.mp (e1.trans e2.symm)) (KK _)
def ddL35 : List (Nat × Instr × Nat) := [(1091, .aload_n 1, 1), (1092, .invokevirtual 159, 3), (1095, .aload_n 2, 1), (1096, .invokevirtual 162, 3), (1099, .if_icmp .eq 314, 3), (1102, .iconst 0, 1), (1103, .ireturn, 1)]
set_option maxRecDepth 100000 in
theorem dkL35 : rf_decs code ddL35 := rf_decs_of (by decide +kernel)
set_option maxHeartbeats 16000000 in
set_option maxRecDepth 100000 in
theorem lw_case35 {X : rfX} {G : rfG} {b Ln : Nat} {sc : Nat → Int32} {n sl : Nat} (C : lwC X G b Ln sc n sl) {i : Int32} (h0 : 0 ≤ i.toInt) (h1 : i.toInt + 5 < (Ln : Int)) (KK : ∀ ws', kW X n sl 1413 [(3, .int i), (2, .ref (G.2.1.1 114)), (1, .ref (G.2.1.1 70)), (0, .ref b)] [] ws') {ws : va_W} (hw : rf_world G.2.1.1 G.2.1.2.1 G.2.1.2.2.1 G.2.1.2.2.2 ws) (hfr : frOK (hv ws)) : kW X n sl 1091 [(3, .int i), (2, .ref (G.2.1.1 114)), (1, .ref (G.2.1.1 70)), (0, .ref b)] [] ws := by
  have hG := C.1
  have c := C.2.2.1
  have hd : ∀ n pc i len, ddL35[n]? = some (pc, i, len) → decode code pc = .ok (i, len) := fun n pc i len h => hdk dkL35 n pc i len h
  refine k_al c (hd 0 1091 _ _ rfl) (by rfl) (k_pc 1092 rfl ?_)
  refine k_callC C (M := q378_M) (rf_metV_of (q378_met hG)) (-1) (by decide +kernel) (by decide +kernel) (wlkV (lkL_159 hG) _ rfl rfl) (j := 70) (by decide +kernel) ⟨Nat.le_of_ble_eq_true rfl, Nat.le_of_ble_eq_true rfl⟩ (hd 1 1092 _ _ rfl) [] (rest := []) (by rfl) ⟨⟨70, by decide, rfl⟩, trivial⟩ (Nat.le_of_ble_eq_true rfl) hw (fr_pre hfr (hframe_rf [] _) (by decide +kernel)) trivial (fun x1 ws1 hw1 hf1 e1 => k_pc 1095 rfl ?_)
  refine k_al c (hd 2 1095 _ _ rfl) (by rfl) (k_pc 1096 rfl ?_)
  refine k_callC C (M := q379_M) (rf_metV_of (q379_met hG)) (-1) (by decide +kernel) (by decide +kernel) (wlkV (lkL_162 hG) _ rfl rfl) (j := 114) (by decide +kernel) ⟨Nat.le_of_ble_eq_true rfl, Nat.le_of_ble_eq_true rfl⟩ (hd 3 1096 _ _ rfl) [] (rest := [.int x1]) (by rfl) ⟨⟨114, by decide, rfl⟩, trivial⟩ (Nat.le_of_ble_eq_true rfl) hw1 (fr_pre hfr hf1 (by decide +kernel)) trivial (fun x2 ws2 hw2 hf2 e2 => k_pc 1099 rfl ?_)
  exact k_ceq c (hd 4 1099 _ _ rfl) (tgt := 1413) (by decide) (Int32.toInt_inj.mp (e1.trans e2.symm)) (KK _)
def ddL36 : List (Nat × Instr × Nat) := [(1104, .aload_n 1, 1), (1105, .aload_n 0, 1), (1106, .iload_n 3, 1), (1107, .iconst 1, 1), (1108, .iadd, 1), (1109, .iaload, 1), (1110, .invokevirtual 163, 3), (1113, .aload_n 2, 1), (1114, .aload_n 0, 1), (1115, .iload_n 3, 1), (1116, .iconst 1, 1), (1117, .iadd, 1), (1118, .iaload, 1), (1119, .invokevirtual 166, 3), (1122, .if_icmp .eq 291, 3), (1125, .iconst 0, 1), (1126, .ireturn, 1)]
set_option maxRecDepth 100000 in
theorem dkL36 : rf_decs code ddL36 := rf_decs_of (by decide +kernel)
set_option maxHeartbeats 16000000 in
set_option maxRecDepth 100000 in
theorem lw_case36 {X : rfX} {G : rfG} {b Ln : Nat} {sc : Nat → Int32} {n sl : Nat} (C : lwC X G b Ln sc n sl) {i : Int32} (h0 : 0 ≤ i.toInt) (h1 : i.toInt + 5 < (Ln : Int)) (KK : ∀ ws', kW X n sl 1413 [(3, .int i), (2, .ref (G.2.1.1 114)), (1, .ref (G.2.1.1 70)), (0, .ref b)] [] ws') {ws : va_W} (hw : rf_world G.2.1.1 G.2.1.2.1 G.2.1.2.2.1 G.2.1.2.2.2 ws) (hfr : frOK (hv ws)) : kW X n sl 1104 [(3, .int i), (2, .ref (G.2.1.1 114)), (1, .ref (G.2.1.1 70)), (0, .ref b)] [] ws := by
  have hG := C.1
  have c := C.2.2.1
  have hd : ∀ n pc i len, ddL36[n]? = some (pc, i, len) → decode code pc = .ok (i, len) := fun n pc i len h => hdk dkL36 n pc i len h
  obtain ⟨a1, ea1⟩ : ∃ a, sc (i + 1).toNatClampNeg = a := ⟨_, rfl⟩
  have r1 : -2147483648 ≤ a1.toInt ∧ a1.toInt ≤ 2147483647 := ⟨(rf_in_top a1).1, (rf_in_top a1).2.1⟩
  have hc_ : (a1.toInt ≤ (-1)) ∨ (a1.toInt = 0) ∨ (a1.toInt = 1) ∨ (a1.toInt = 2) ∨ (3 ≤ a1.toInt) := by omega
  rcases hc_ with hc_ | hc_ | hc_ | hc_ | hc_
  · skip
    refine k_al c (hd 0 1104 _ _ rfl) (by rfl) (k_pc 1105 rfl ?_)
    refine k_al c (hd 1 1105 _ _ rfl) (by rfl) (k_pc 1106 rfl ?_)
    refine k_il c (hd 2 1106 _ _ rfl) (by rfl) (k_pc 1107 rfl ?_)
    refine k_ic c (hd 3 1107 _ _ rfl) (v := 1) (by decide) (k_pc 1108 rfl ?_)
    refine k_addE c (hd 4 1108 _ _ rfl) (k_pc 1109 rfl ?_)
    refine k_sldE C (lw_in h0 h1 C.2.2.2.2.1 (by decide)) ea1 (hd 5 1109 _ _ rfl) (k_pc 1110 rfl ?_)
    refine k_callC C (M := q380_M) (rf_metV_of (q380_met hG)) (-1) (by decide +kernel) (by decide +kernel) (wlkV (lkL_163 hG) _ rfl rfl) (j := 70) (by decide +kernel) ⟨Nat.le_of_ble_eq_true rfl, Nat.le_of_ble_eq_true rfl⟩ (hd 6 1110 _ _ rfl) [.int a1] (rest := []) (by rfl) ⟨⟨70, by decide, rfl⟩, ⟨_, rfl, rf_in1 (by omega) (by omega), trivial⟩, trivial⟩ (Nat.le_of_ble_eq_true rfl) hw (fr_pre hfr (hframe_rf [] _) (by decide +kernel)) trivial (fun x1 ws1 hw1 hf1 e1 => k_pc 1113 rfl ?_)
    refine k_al c (hd 7 1113 _ _ rfl) (by rfl) (k_pc 1114 rfl ?_)
    refine k_al c (hd 8 1114 _ _ rfl) (by rfl) (k_pc 1115 rfl ?_)
    refine k_il c (hd 9 1115 _ _ rfl) (by rfl) (k_pc 1116 rfl ?_)
    refine k_ic c (hd 10 1116 _ _ rfl) (v := 1) (by decide) (k_pc 1117 rfl ?_)
    refine k_addE c (hd 11 1117 _ _ rfl) (k_pc 1118 rfl ?_)
    refine k_sldE C (lw_in h0 h1 C.2.2.2.2.1 (by decide)) ea1 (hd 12 1118 _ _ rfl) (k_pc 1119 rfl ?_)
    refine k_callC C (M := q381_M) (rf_metV_of (q381_met hG)) (-1) (by decide +kernel) (by decide +kernel) (wlkV (lkL_166 hG) _ rfl rfl) (j := 114) (by decide +kernel) ⟨Nat.le_of_ble_eq_true rfl, Nat.le_of_ble_eq_true rfl⟩ (hd 13 1119 _ _ rfl) [.int a1] (rest := [.int x1]) (by rfl) ⟨⟨114, by decide, rfl⟩, ⟨_, rfl, rf_in1 (by omega) (by omega), trivial⟩, trivial⟩ (Nat.le_of_ble_eq_true rfl) hw1 (fr_pre hfr hf1 (by decide +kernel)) trivial (fun x2 ws2 hw2 hf2 e2 => k_pc 1122 rfl ?_)
    exact k_ceq c (hd 14 1122 _ _ rfl) (tgt := 1413) (by decide) (Int32.toInt_inj.mp (e1.trans e2.symm)) (KK _)
  · skip
    refine k_al c (hd 0 1104 _ _ rfl) (by rfl) (k_pc 1105 rfl ?_)
    refine k_al c (hd 1 1105 _ _ rfl) (by rfl) (k_pc 1106 rfl ?_)
    refine k_il c (hd 2 1106 _ _ rfl) (by rfl) (k_pc 1107 rfl ?_)
    refine k_ic c (hd 3 1107 _ _ rfl) (v := 1) (by decide) (k_pc 1108 rfl ?_)
    refine k_addE c (hd 4 1108 _ _ rfl) (k_pc 1109 rfl ?_)
    refine k_sldE C (lw_in h0 h1 C.2.2.2.2.1 (by decide)) ea1 (hd 5 1109 _ _ rfl) (k_pc 1110 rfl ?_)
    refine k_callC C (M := q383_M) (rf_metV_of (q383_met hG)) 0 (by decide +kernel) (by decide +kernel) (wlkV (lkL_163 hG) _ rfl rfl) (j := 70) (by decide +kernel) ⟨Nat.le_of_ble_eq_true rfl, Nat.le_of_ble_eq_true rfl⟩ (hd 6 1110 _ _ rfl) [.int a1] (rest := []) (by rfl) ⟨⟨70, by decide, rfl⟩, ⟨_, rfl, hcon (by omega), trivial⟩, trivial⟩ (Nat.le_of_ble_eq_true rfl) hw (fr_pre hfr (hframe_rf [] _) (by decide +kernel)) trivial (fun x1 ws1 hw1 hf1 e1 => k_pc 1113 rfl ?_)
    refine k_al c (hd 7 1113 _ _ rfl) (by rfl) (k_pc 1114 rfl ?_)
    refine k_al c (hd 8 1114 _ _ rfl) (by rfl) (k_pc 1115 rfl ?_)
    refine k_il c (hd 9 1115 _ _ rfl) (by rfl) (k_pc 1116 rfl ?_)
    refine k_ic c (hd 10 1116 _ _ rfl) (v := 1) (by decide) (k_pc 1117 rfl ?_)
    refine k_addE c (hd 11 1117 _ _ rfl) (k_pc 1118 rfl ?_)
    refine k_sldE C (lw_in h0 h1 C.2.2.2.2.1 (by decide)) ea1 (hd 12 1118 _ _ rfl) (k_pc 1119 rfl ?_)
    refine k_callC C (M := q385_M) (rf_metV_of (q385_met hG)) 0 (by decide +kernel) (by decide +kernel) (wlkV (lkL_166 hG) _ rfl rfl) (j := 114) (by decide +kernel) ⟨Nat.le_of_ble_eq_true rfl, Nat.le_of_ble_eq_true rfl⟩ (hd 13 1119 _ _ rfl) [.int a1] (rest := [.int x1]) (by rfl) ⟨⟨114, by decide, rfl⟩, ⟨_, rfl, hcon (by omega), trivial⟩, trivial⟩ (Nat.le_of_ble_eq_true rfl) hw1 (fr_pre hfr hf1 (by decide +kernel)) trivial (fun x2 ws2 hw2 hf2 e2 => k_pc 1122 rfl ?_)
    exact k_ceq c (hd 14 1122 _ _ rfl) (tgt := 1413) (by decide) (Int32.toInt_inj.mp (e1.trans e2.symm)) (KK _)
  · skip
    refine k_al c (hd 0 1104 _ _ rfl) (by rfl) (k_pc 1105 rfl ?_)
    refine k_al c (hd 1 1105 _ _ rfl) (by rfl) (k_pc 1106 rfl ?_)
    refine k_il c (hd 2 1106 _ _ rfl) (by rfl) (k_pc 1107 rfl ?_)
    refine k_ic c (hd 3 1107 _ _ rfl) (v := 1) (by decide) (k_pc 1108 rfl ?_)
    refine k_addE c (hd 4 1108 _ _ rfl) (k_pc 1109 rfl ?_)
    refine k_sldE C (lw_in h0 h1 C.2.2.2.2.1 (by decide)) ea1 (hd 5 1109 _ _ rfl) (k_pc 1110 rfl ?_)
    refine k_callC C (M := q387_M) (rf_metV_of (q387_met hG)) 0 (by decide +kernel) (by decide +kernel) (wlkV (lkL_163 hG) _ rfl rfl) (j := 70) (by decide +kernel) ⟨Nat.le_of_ble_eq_true rfl, Nat.le_of_ble_eq_true rfl⟩ (hd 6 1110 _ _ rfl) [.int a1] (rest := []) (by rfl) ⟨⟨70, by decide, rfl⟩, ⟨_, rfl, hcon (by omega), trivial⟩, trivial⟩ (Nat.le_of_ble_eq_true rfl) hw (fr_pre hfr (hframe_rf [] _) (by decide +kernel)) trivial (fun x1 ws1 hw1 hf1 e1 => k_pc 1113 rfl ?_)
    refine k_al c (hd 7 1113 _ _ rfl) (by rfl) (k_pc 1114 rfl ?_)
    refine k_al c (hd 8 1114 _ _ rfl) (by rfl) (k_pc 1115 rfl ?_)
    refine k_il c (hd 9 1115 _ _ rfl) (by rfl) (k_pc 1116 rfl ?_)
    refine k_ic c (hd 10 1116 _ _ rfl) (v := 1) (by decide) (k_pc 1117 rfl ?_)
    refine k_addE c (hd 11 1117 _ _ rfl) (k_pc 1118 rfl ?_)
    refine k_sldE C (lw_in h0 h1 C.2.2.2.2.1 (by decide)) ea1 (hd 12 1118 _ _ rfl) (k_pc 1119 rfl ?_)
    refine k_callC C (M := q389_M) (rf_metV_of (q389_met hG)) 0 (by decide +kernel) (by decide +kernel) (wlkV (lkL_166 hG) _ rfl rfl) (j := 114) (by decide +kernel) ⟨Nat.le_of_ble_eq_true rfl, Nat.le_of_ble_eq_true rfl⟩ (hd 13 1119 _ _ rfl) [.int a1] (rest := [.int x1]) (by rfl) ⟨⟨114, by decide, rfl⟩, ⟨_, rfl, hcon (by omega), trivial⟩, trivial⟩ (Nat.le_of_ble_eq_true rfl) hw1 (fr_pre hfr hf1 (by decide +kernel)) trivial (fun x2 ws2 hw2 hf2 e2 => k_pc 1122 rfl ?_)
    exact k_ceq c (hd 14 1122 _ _ rfl) (tgt := 1413) (by decide) (Int32.toInt_inj.mp (e1.trans e2.symm)) (KK _)
  · skip
    refine k_al c (hd 0 1104 _ _ rfl) (by rfl) (k_pc 1105 rfl ?_)
    refine k_al c (hd 1 1105 _ _ rfl) (by rfl) (k_pc 1106 rfl ?_)
    refine k_il c (hd 2 1106 _ _ rfl) (by rfl) (k_pc 1107 rfl ?_)
    refine k_ic c (hd 3 1107 _ _ rfl) (v := 1) (by decide) (k_pc 1108 rfl ?_)
    refine k_addE c (hd 4 1108 _ _ rfl) (k_pc 1109 rfl ?_)
    refine k_sldE C (lw_in h0 h1 C.2.2.2.2.1 (by decide)) ea1 (hd 5 1109 _ _ rfl) (k_pc 1110 rfl ?_)
    refine k_callC C (M := q390_M) (rf_metV_of (q390_met hG)) 0 (by decide +kernel) (by decide +kernel) (wlkV (lkL_163 hG) _ rfl rfl) (j := 70) (by decide +kernel) ⟨Nat.le_of_ble_eq_true rfl, Nat.le_of_ble_eq_true rfl⟩ (hd 6 1110 _ _ rfl) [.int a1] (rest := []) (by rfl) ⟨⟨70, by decide, rfl⟩, ⟨_, rfl, hcon (by omega), trivial⟩, trivial⟩ (Nat.le_of_ble_eq_true rfl) hw (fr_pre hfr (hframe_rf [] _) (by decide +kernel)) trivial (fun x1 ws1 hw1 hf1 e1 => k_pc 1113 rfl ?_)
    refine k_al c (hd 7 1113 _ _ rfl) (by rfl) (k_pc 1114 rfl ?_)
    refine k_al c (hd 8 1114 _ _ rfl) (by rfl) (k_pc 1115 rfl ?_)
    refine k_il c (hd 9 1115 _ _ rfl) (by rfl) (k_pc 1116 rfl ?_)
    refine k_ic c (hd 10 1116 _ _ rfl) (v := 1) (by decide) (k_pc 1117 rfl ?_)
    refine k_addE c (hd 11 1117 _ _ rfl) (k_pc 1118 rfl ?_)
    refine k_sldE C (lw_in h0 h1 C.2.2.2.2.1 (by decide)) ea1 (hd 12 1118 _ _ rfl) (k_pc 1119 rfl ?_)
    refine k_callC C (M := q391_M) (rf_metV_of (q391_met hG)) 0 (by decide +kernel) (by decide +kernel) (wlkV (lkL_166 hG) _ rfl rfl) (j := 114) (by decide +kernel) ⟨Nat.le_of_ble_eq_true rfl, Nat.le_of_ble_eq_true rfl⟩ (hd 13 1119 _ _ rfl) [.int a1] (rest := [.int x1]) (by rfl) ⟨⟨114, by decide, rfl⟩, ⟨_, rfl, hcon (by omega), trivial⟩, trivial⟩ (Nat.le_of_ble_eq_true rfl) hw1 (fr_pre hfr hf1 (by decide +kernel)) trivial (fun x2 ws2 hw2 hf2 e2 => k_pc 1122 rfl ?_)
    exact k_ceq c (hd 14 1122 _ _ rfl) (tgt := 1413) (by decide) (Int32.toInt_inj.mp (e1.trans e2.symm)) (KK _)
  · skip
    refine k_al c (hd 0 1104 _ _ rfl) (by rfl) (k_pc 1105 rfl ?_)
    refine k_al c (hd 1 1105 _ _ rfl) (by rfl) (k_pc 1106 rfl ?_)
    refine k_il c (hd 2 1106 _ _ rfl) (by rfl) (k_pc 1107 rfl ?_)
    refine k_ic c (hd 3 1107 _ _ rfl) (v := 1) (by decide) (k_pc 1108 rfl ?_)
    refine k_addE c (hd 4 1108 _ _ rfl) (k_pc 1109 rfl ?_)
    refine k_sldE C (lw_in h0 h1 C.2.2.2.2.1 (by decide)) ea1 (hd 5 1109 _ _ rfl) (k_pc 1110 rfl ?_)
    refine k_callC C (M := q392_M) (rf_metV_of (q392_met hG)) (-1) (by decide +kernel) (by decide +kernel) (wlkV (lkL_163 hG) _ rfl rfl) (j := 70) (by decide +kernel) ⟨Nat.le_of_ble_eq_true rfl, Nat.le_of_ble_eq_true rfl⟩ (hd 6 1110 _ _ rfl) [.int a1] (rest := []) (by rfl) ⟨⟨70, by decide, rfl⟩, ⟨_, rfl, rf_in1 (by omega) (by omega), trivial⟩, trivial⟩ (Nat.le_of_ble_eq_true rfl) hw (fr_pre hfr (hframe_rf [] _) (by decide +kernel)) trivial (fun x1 ws1 hw1 hf1 e1 => k_pc 1113 rfl ?_)
    refine k_al c (hd 7 1113 _ _ rfl) (by rfl) (k_pc 1114 rfl ?_)
    refine k_al c (hd 8 1114 _ _ rfl) (by rfl) (k_pc 1115 rfl ?_)
    refine k_il c (hd 9 1115 _ _ rfl) (by rfl) (k_pc 1116 rfl ?_)
    refine k_ic c (hd 10 1116 _ _ rfl) (v := 1) (by decide) (k_pc 1117 rfl ?_)
    refine k_addE c (hd 11 1117 _ _ rfl) (k_pc 1118 rfl ?_)
    refine k_sldE C (lw_in h0 h1 C.2.2.2.2.1 (by decide)) ea1 (hd 12 1118 _ _ rfl) (k_pc 1119 rfl ?_)
    refine k_callC C (M := q393_M) (rf_metV_of (q393_met hG)) (-1) (by decide +kernel) (by decide +kernel) (wlkV (lkL_166 hG) _ rfl rfl) (j := 114) (by decide +kernel) ⟨Nat.le_of_ble_eq_true rfl, Nat.le_of_ble_eq_true rfl⟩ (hd 13 1119 _ _ rfl) [.int a1] (rest := [.int x1]) (by rfl) ⟨⟨114, by decide, rfl⟩, ⟨_, rfl, rf_in1 (by omega) (by omega), trivial⟩, trivial⟩ (Nat.le_of_ble_eq_true rfl) hw1 (fr_pre hfr hf1 (by decide +kernel)) trivial (fun x2 ws2 hw2 hf2 e2 => k_pc 1122 rfl ?_)
    exact k_ceq c (hd 14 1122 _ _ rfl) (tgt := 1413) (by decide) (Int32.toInt_inj.mp (e1.trans e2.symm)) (KK _)
def ddL37 : List (Nat × Instr × Nat) := [(1127, .aload_n 1, 1), (1128, .aload_n 0, 1), (1129, .iload_n 3, 1), (1130, .iconst 1, 1), (1131, .iadd, 1), (1132, .iaload, 1), (1133, .aload_n 0, 1), (1134, .iload_n 3, 1), (1135, .iconst 2, 1), (1136, .iadd, 1), (1137, .iaload, 1), (1138, .invokevirtual 167, 3), (1141, .aload_n 2, 1), (1142, .aload_n 0, 1), (1143, .iload_n 3, 1), (1144, .iconst 1, 1), (1145, .iadd, 1), (1146, .iaload, 1), (1147, .aload_n 0, 1), (1148, .iload_n 3, 1), (1149, .iconst 2, 1), (1150, .iadd, 1), (1151, .iaload, 1), (1152, .invokevirtual 170, 3), (1155, .if_icmp .eq 258, 3), (1158, .iconst 0, 1), (1159, .ireturn, 1)]
set_option maxRecDepth 100000 in
theorem dkL37 : rf_decs code ddL37 := rf_decs_of (by decide +kernel)
set_option maxHeartbeats 16000000 in
set_option maxRecDepth 100000 in
theorem lw_case37 {X : rfX} {G : rfG} {b Ln : Nat} {sc : Nat → Int32} {n sl : Nat} (C : lwC X G b Ln sc n sl) {i : Int32} (h0 : 0 ≤ i.toInt) (h1 : i.toInt + 5 < (Ln : Int)) (KK : ∀ ws', kW X n sl 1413 [(3, .int i), (2, .ref (G.2.1.1 114)), (1, .ref (G.2.1.1 70)), (0, .ref b)] [] ws') {ws : va_W} (hw : rf_world G.2.1.1 G.2.1.2.1 G.2.1.2.2.1 G.2.1.2.2.2 ws) (hfr : frOK (hv ws)) : kW X n sl 1127 [(3, .int i), (2, .ref (G.2.1.1 114)), (1, .ref (G.2.1.1 70)), (0, .ref b)] [] ws := by
  have hG := C.1
  have c := C.2.2.1
  have hd : ∀ n pc i len, ddL37[n]? = some (pc, i, len) → decode code pc = .ok (i, len) := fun n pc i len h => hdk dkL37 n pc i len h
  obtain ⟨a1, ea1⟩ : ∃ a, sc (i + 1).toNatClampNeg = a := ⟨_, rfl⟩
  have r1 : -2147483648 ≤ a1.toInt ∧ a1.toInt ≤ 2147483647 := ⟨(rf_in_top a1).1, (rf_in_top a1).2.1⟩
  obtain ⟨a2, ea2⟩ : ∃ a, sc (i + 2).toNatClampNeg = a := ⟨_, rfl⟩
  have r2 : -2147483648 ≤ a2.toInt ∧ a2.toInt ≤ 2147483647 := ⟨(rf_in_top a2).1, (rf_in_top a2).2.1⟩
  have hc_ : (a1.toInt ≤ (-1)) ∨ (5 ≤ a1.toInt) ∨ (0 ≤ a1.toInt ∧ a1.toInt ≤ 4 ∧ a2.toInt ≤ (-1)) ∨ (0 ≤ a1.toInt ∧ a1.toInt ≤ 4 ∧ 2 ≤ a2.toInt) ∨ (a1.toInt = 0 ∧ a2.toInt = 0) ∨ (a1.toInt = 0 ∧ a2.toInt = 1) ∨ (a1.toInt = 1 ∧ a2.toInt = 0) ∨ (a1.toInt = 1 ∧ a2.toInt = 1) ∨ (a1.toInt = 2 ∧ a2.toInt = 0) ∨ (a1.toInt = 2 ∧ a2.toInt = 1) ∨ (a1.toInt = 3 ∧ a2.toInt = 0) ∨ (a1.toInt = 3 ∧ a2.toInt = 1) ∨ (a1.toInt = 4 ∧ a2.toInt = 0) ∨ (a1.toInt = 4 ∧ a2.toInt = 1) := by omega
  rcases hc_ with hc_ | hc_ | hc_ | hc_ | hc_ | hc_ | hc_ | hc_ | hc_ | hc_ | hc_ | hc_ | hc_ | hc_
  · skip
    refine k_al c (hd 0 1127 _ _ rfl) (by rfl) (k_pc 1128 rfl ?_)
    refine k_al c (hd 1 1128 _ _ rfl) (by rfl) (k_pc 1129 rfl ?_)
    refine k_il c (hd 2 1129 _ _ rfl) (by rfl) (k_pc 1130 rfl ?_)
    refine k_ic c (hd 3 1130 _ _ rfl) (v := 1) (by decide) (k_pc 1131 rfl ?_)
    refine k_addE c (hd 4 1131 _ _ rfl) (k_pc 1132 rfl ?_)
    refine k_sldE C (lw_in h0 h1 C.2.2.2.2.1 (by decide)) ea1 (hd 5 1132 _ _ rfl) (k_pc 1133 rfl ?_)
    refine k_al c (hd 6 1133 _ _ rfl) (by rfl) (k_pc 1134 rfl ?_)
    refine k_il c (hd 7 1134 _ _ rfl) (by rfl) (k_pc 1135 rfl ?_)
    refine k_ic c (hd 8 1135 _ _ rfl) (v := 2) (by decide) (k_pc 1136 rfl ?_)
    refine k_addE c (hd 9 1136 _ _ rfl) (k_pc 1137 rfl ?_)
    refine k_sldE C (lw_in h0 h1 C.2.2.2.2.1 (by decide)) ea2 (hd 10 1137 _ _ rfl) (k_pc 1138 rfl ?_)
    refine k_callC C (M := q394_M) (rf_metV_of (q394_met hG)) (-1) (by decide +kernel) (by decide +kernel) (wlkV (lkL_167 hG) _ rfl rfl) (j := 70) (by decide +kernel) ⟨Nat.le_of_ble_eq_true rfl, Nat.le_of_ble_eq_true rfl⟩ (hd 11 1138 _ _ rfl) [.int a1, .int a2] (rest := []) (by rfl) ⟨⟨70, by decide, rfl⟩, ⟨_, rfl, rf_in1 (by omega) (by omega), trivial⟩, ⟨_, rfl, rf_in_top _, trivial⟩, trivial⟩ (Nat.le_of_ble_eq_true rfl) hw (fr_pre hfr (hframe_rf [] _) (by decide +kernel)) trivial (fun x1 ws1 hw1 hf1 e1 => k_pc 1141 rfl ?_)
    refine k_al c (hd 12 1141 _ _ rfl) (by rfl) (k_pc 1142 rfl ?_)
    refine k_al c (hd 13 1142 _ _ rfl) (by rfl) (k_pc 1143 rfl ?_)
    refine k_il c (hd 14 1143 _ _ rfl) (by rfl) (k_pc 1144 rfl ?_)
    refine k_ic c (hd 15 1144 _ _ rfl) (v := 1) (by decide) (k_pc 1145 rfl ?_)
    refine k_addE c (hd 16 1145 _ _ rfl) (k_pc 1146 rfl ?_)
    refine k_sldE C (lw_in h0 h1 C.2.2.2.2.1 (by decide)) ea1 (hd 17 1146 _ _ rfl) (k_pc 1147 rfl ?_)
    refine k_al c (hd 18 1147 _ _ rfl) (by rfl) (k_pc 1148 rfl ?_)
    refine k_il c (hd 19 1148 _ _ rfl) (by rfl) (k_pc 1149 rfl ?_)
    refine k_ic c (hd 20 1149 _ _ rfl) (v := 2) (by decide) (k_pc 1150 rfl ?_)
    refine k_addE c (hd 21 1150 _ _ rfl) (k_pc 1151 rfl ?_)
    refine k_sldE C (lw_in h0 h1 C.2.2.2.2.1 (by decide)) ea2 (hd 22 1151 _ _ rfl) (k_pc 1152 rfl ?_)
    refine k_callC C (M := q396_M) (rf_metV_of (q396_met hG)) (-1) (by decide +kernel) (by decide +kernel) (wlkV (lkL_170 hG) _ rfl rfl) (j := 114) (by decide +kernel) ⟨Nat.le_of_ble_eq_true rfl, Nat.le_of_ble_eq_true rfl⟩ (hd 23 1152 _ _ rfl) [.int a1, .int a2] (rest := [.int x1]) (by rfl) ⟨⟨114, by decide, rfl⟩, ⟨_, rfl, rf_in1 (by omega) (by omega), trivial⟩, ⟨_, rfl, rf_in_top _, trivial⟩, trivial⟩ (Nat.le_of_ble_eq_true rfl) hw1 (fr_pre hfr hf1 (by decide +kernel)) trivial (fun x2 ws2 hw2 hf2 e2 => k_pc 1155 rfl ?_)
    exact k_ceq c (hd 24 1155 _ _ rfl) (tgt := 1413) (by decide) (Int32.toInt_inj.mp (e1.trans e2.symm)) (KK _)
  · skip
    refine k_al c (hd 0 1127 _ _ rfl) (by rfl) (k_pc 1128 rfl ?_)
    refine k_al c (hd 1 1128 _ _ rfl) (by rfl) (k_pc 1129 rfl ?_)
    refine k_il c (hd 2 1129 _ _ rfl) (by rfl) (k_pc 1130 rfl ?_)
    refine k_ic c (hd 3 1130 _ _ rfl) (v := 1) (by decide) (k_pc 1131 rfl ?_)
    refine k_addE c (hd 4 1131 _ _ rfl) (k_pc 1132 rfl ?_)
    refine k_sldE C (lw_in h0 h1 C.2.2.2.2.1 (by decide)) ea1 (hd 5 1132 _ _ rfl) (k_pc 1133 rfl ?_)
    refine k_al c (hd 6 1133 _ _ rfl) (by rfl) (k_pc 1134 rfl ?_)
    refine k_il c (hd 7 1134 _ _ rfl) (by rfl) (k_pc 1135 rfl ?_)
    refine k_ic c (hd 8 1135 _ _ rfl) (v := 2) (by decide) (k_pc 1136 rfl ?_)
    refine k_addE c (hd 9 1136 _ _ rfl) (k_pc 1137 rfl ?_)
    refine k_sldE C (lw_in h0 h1 C.2.2.2.2.1 (by decide)) ea2 (hd 10 1137 _ _ rfl) (k_pc 1138 rfl ?_)
    refine k_callC C (M := q397_M) (rf_metV_of (q397_met hG)) (-1) (by decide +kernel) (by decide +kernel) (wlkV (lkL_167 hG) _ rfl rfl) (j := 70) (by decide +kernel) ⟨Nat.le_of_ble_eq_true rfl, Nat.le_of_ble_eq_true rfl⟩ (hd 11 1138 _ _ rfl) [.int a1, .int a2] (rest := []) (by rfl) ⟨⟨70, by decide, rfl⟩, ⟨_, rfl, rf_in1 (by omega) (by omega), trivial⟩, ⟨_, rfl, rf_in_top _, trivial⟩, trivial⟩ (Nat.le_of_ble_eq_true rfl) hw (fr_pre hfr (hframe_rf [] _) (by decide +kernel)) trivial (fun x1 ws1 hw1 hf1 e1 => k_pc 1141 rfl ?_)
    refine k_al c (hd 12 1141 _ _ rfl) (by rfl) (k_pc 1142 rfl ?_)
    refine k_al c (hd 13 1142 _ _ rfl) (by rfl) (k_pc 1143 rfl ?_)
    refine k_il c (hd 14 1143 _ _ rfl) (by rfl) (k_pc 1144 rfl ?_)
    refine k_ic c (hd 15 1144 _ _ rfl) (v := 1) (by decide) (k_pc 1145 rfl ?_)
    refine k_addE c (hd 16 1145 _ _ rfl) (k_pc 1146 rfl ?_)
    refine k_sldE C (lw_in h0 h1 C.2.2.2.2.1 (by decide)) ea1 (hd 17 1146 _ _ rfl) (k_pc 1147 rfl ?_)
    refine k_al c (hd 18 1147 _ _ rfl) (by rfl) (k_pc 1148 rfl ?_)
    refine k_il c (hd 19 1148 _ _ rfl) (by rfl) (k_pc 1149 rfl ?_)
    refine k_ic c (hd 20 1149 _ _ rfl) (v := 2) (by decide) (k_pc 1150 rfl ?_)
    refine k_addE c (hd 21 1150 _ _ rfl) (k_pc 1151 rfl ?_)
    refine k_sldE C (lw_in h0 h1 C.2.2.2.2.1 (by decide)) ea2 (hd 22 1151 _ _ rfl) (k_pc 1152 rfl ?_)
    refine k_callC C (M := q399_M) (rf_metV_of (q399_met hG)) (-1) (by decide +kernel) (by decide +kernel) (wlkV (lkL_170 hG) _ rfl rfl) (j := 114) (by decide +kernel) ⟨Nat.le_of_ble_eq_true rfl, Nat.le_of_ble_eq_true rfl⟩ (hd 23 1152 _ _ rfl) [.int a1, .int a2] (rest := [.int x1]) (by rfl) ⟨⟨114, by decide, rfl⟩, ⟨_, rfl, rf_in1 (by omega) (by omega), trivial⟩, ⟨_, rfl, rf_in_top _, trivial⟩, trivial⟩ (Nat.le_of_ble_eq_true rfl) hw1 (fr_pre hfr hf1 (by decide +kernel)) trivial (fun x2 ws2 hw2 hf2 e2 => k_pc 1155 rfl ?_)
    exact k_ceq c (hd 24 1155 _ _ rfl) (tgt := 1413) (by decide) (Int32.toInt_inj.mp (e1.trans e2.symm)) (KK _)
  · skip
    refine k_al c (hd 0 1127 _ _ rfl) (by rfl) (k_pc 1128 rfl ?_)
    refine k_al c (hd 1 1128 _ _ rfl) (by rfl) (k_pc 1129 rfl ?_)
    refine k_il c (hd 2 1129 _ _ rfl) (by rfl) (k_pc 1130 rfl ?_)
    refine k_ic c (hd 3 1130 _ _ rfl) (v := 1) (by decide) (k_pc 1131 rfl ?_)
    refine k_addE c (hd 4 1131 _ _ rfl) (k_pc 1132 rfl ?_)
    refine k_sldE C (lw_in h0 h1 C.2.2.2.2.1 (by decide)) ea1 (hd 5 1132 _ _ rfl) (k_pc 1133 rfl ?_)
    refine k_al c (hd 6 1133 _ _ rfl) (by rfl) (k_pc 1134 rfl ?_)
    refine k_il c (hd 7 1134 _ _ rfl) (by rfl) (k_pc 1135 rfl ?_)
    refine k_ic c (hd 8 1135 _ _ rfl) (v := 2) (by decide) (k_pc 1136 rfl ?_)
    refine k_addE c (hd 9 1136 _ _ rfl) (k_pc 1137 rfl ?_)
    refine k_sldE C (lw_in h0 h1 C.2.2.2.2.1 (by decide)) ea2 (hd 10 1137 _ _ rfl) (k_pc 1138 rfl ?_)
    refine k_callC C (M := q400_M) (rf_metV_of (q400_met hG)) (-1) (by decide +kernel) (by decide +kernel) (wlkV (lkL_167 hG) _ rfl rfl) (j := 70) (by decide +kernel) ⟨Nat.le_of_ble_eq_true rfl, Nat.le_of_ble_eq_true rfl⟩ (hd 11 1138 _ _ rfl) [.int a1, .int a2] (rest := []) (by rfl) ⟨⟨70, by decide, rfl⟩, ⟨_, rfl, rf_in1 (by omega) (by omega), trivial⟩, ⟨_, rfl, rf_in1 (by omega) (by omega), trivial⟩, trivial⟩ (Nat.le_of_ble_eq_true rfl) hw (fr_pre hfr (hframe_rf [] _) (by decide +kernel)) trivial (fun x1 ws1 hw1 hf1 e1 => k_pc 1141 rfl ?_)
    refine k_al c (hd 12 1141 _ _ rfl) (by rfl) (k_pc 1142 rfl ?_)
    refine k_al c (hd 13 1142 _ _ rfl) (by rfl) (k_pc 1143 rfl ?_)
    refine k_il c (hd 14 1143 _ _ rfl) (by rfl) (k_pc 1144 rfl ?_)
    refine k_ic c (hd 15 1144 _ _ rfl) (v := 1) (by decide) (k_pc 1145 rfl ?_)
    refine k_addE c (hd 16 1145 _ _ rfl) (k_pc 1146 rfl ?_)
    refine k_sldE C (lw_in h0 h1 C.2.2.2.2.1 (by decide)) ea1 (hd 17 1146 _ _ rfl) (k_pc 1147 rfl ?_)
    refine k_al c (hd 18 1147 _ _ rfl) (by rfl) (k_pc 1148 rfl ?_)
    refine k_il c (hd 19 1148 _ _ rfl) (by rfl) (k_pc 1149 rfl ?_)
    refine k_ic c (hd 20 1149 _ _ rfl) (v := 2) (by decide) (k_pc 1150 rfl ?_)
    refine k_addE c (hd 21 1150 _ _ rfl) (k_pc 1151 rfl ?_)
    refine k_sldE C (lw_in h0 h1 C.2.2.2.2.1 (by decide)) ea2 (hd 22 1151 _ _ rfl) (k_pc 1152 rfl ?_)
    refine k_callC C (M := q402_M) (rf_metV_of (q402_met hG)) (-1) (by decide +kernel) (by decide +kernel) (wlkV (lkL_170 hG) _ rfl rfl) (j := 114) (by decide +kernel) ⟨Nat.le_of_ble_eq_true rfl, Nat.le_of_ble_eq_true rfl⟩ (hd 23 1152 _ _ rfl) [.int a1, .int a2] (rest := [.int x1]) (by rfl) ⟨⟨114, by decide, rfl⟩, ⟨_, rfl, rf_in1 (by omega) (by omega), trivial⟩, ⟨_, rfl, rf_in1 (by omega) (by omega), trivial⟩, trivial⟩ (Nat.le_of_ble_eq_true rfl) hw1 (fr_pre hfr hf1 (by decide +kernel)) trivial (fun x2 ws2 hw2 hf2 e2 => k_pc 1155 rfl ?_)
    exact k_ceq c (hd 24 1155 _ _ rfl) (tgt := 1413) (by decide) (Int32.toInt_inj.mp (e1.trans e2.symm)) (KK _)
  · skip
    refine k_al c (hd 0 1127 _ _ rfl) (by rfl) (k_pc 1128 rfl ?_)
    refine k_al c (hd 1 1128 _ _ rfl) (by rfl) (k_pc 1129 rfl ?_)
    refine k_il c (hd 2 1129 _ _ rfl) (by rfl) (k_pc 1130 rfl ?_)
    refine k_ic c (hd 3 1130 _ _ rfl) (v := 1) (by decide) (k_pc 1131 rfl ?_)
    refine k_addE c (hd 4 1131 _ _ rfl) (k_pc 1132 rfl ?_)
    refine k_sldE C (lw_in h0 h1 C.2.2.2.2.1 (by decide)) ea1 (hd 5 1132 _ _ rfl) (k_pc 1133 rfl ?_)
    refine k_al c (hd 6 1133 _ _ rfl) (by rfl) (k_pc 1134 rfl ?_)
    refine k_il c (hd 7 1134 _ _ rfl) (by rfl) (k_pc 1135 rfl ?_)
    refine k_ic c (hd 8 1135 _ _ rfl) (v := 2) (by decide) (k_pc 1136 rfl ?_)
    refine k_addE c (hd 9 1136 _ _ rfl) (k_pc 1137 rfl ?_)
    refine k_sldE C (lw_in h0 h1 C.2.2.2.2.1 (by decide)) ea2 (hd 10 1137 _ _ rfl) (k_pc 1138 rfl ?_)
    refine k_callC C (M := q403_M) (rf_metV_of (q403_met hG)) (-1) (by decide +kernel) (by decide +kernel) (wlkV (lkL_167 hG) _ rfl rfl) (j := 70) (by decide +kernel) ⟨Nat.le_of_ble_eq_true rfl, Nat.le_of_ble_eq_true rfl⟩ (hd 11 1138 _ _ rfl) [.int a1, .int a2] (rest := []) (by rfl) ⟨⟨70, by decide, rfl⟩, ⟨_, rfl, rf_in1 (by omega) (by omega), trivial⟩, ⟨_, rfl, rf_in1 (by omega) (by omega), trivial⟩, trivial⟩ (Nat.le_of_ble_eq_true rfl) hw (fr_pre hfr (hframe_rf [] _) (by decide +kernel)) trivial (fun x1 ws1 hw1 hf1 e1 => k_pc 1141 rfl ?_)
    refine k_al c (hd 12 1141 _ _ rfl) (by rfl) (k_pc 1142 rfl ?_)
    refine k_al c (hd 13 1142 _ _ rfl) (by rfl) (k_pc 1143 rfl ?_)
    refine k_il c (hd 14 1143 _ _ rfl) (by rfl) (k_pc 1144 rfl ?_)
    refine k_ic c (hd 15 1144 _ _ rfl) (v := 1) (by decide) (k_pc 1145 rfl ?_)
    refine k_addE c (hd 16 1145 _ _ rfl) (k_pc 1146 rfl ?_)
    refine k_sldE C (lw_in h0 h1 C.2.2.2.2.1 (by decide)) ea1 (hd 17 1146 _ _ rfl) (k_pc 1147 rfl ?_)
    refine k_al c (hd 18 1147 _ _ rfl) (by rfl) (k_pc 1148 rfl ?_)
    refine k_il c (hd 19 1148 _ _ rfl) (by rfl) (k_pc 1149 rfl ?_)
    refine k_ic c (hd 20 1149 _ _ rfl) (v := 2) (by decide) (k_pc 1150 rfl ?_)
    refine k_addE c (hd 21 1150 _ _ rfl) (k_pc 1151 rfl ?_)
    refine k_sldE C (lw_in h0 h1 C.2.2.2.2.1 (by decide)) ea2 (hd 22 1151 _ _ rfl) (k_pc 1152 rfl ?_)
    refine k_callC C (M := q404_M) (rf_metV_of (q404_met hG)) (-1) (by decide +kernel) (by decide +kernel) (wlkV (lkL_170 hG) _ rfl rfl) (j := 114) (by decide +kernel) ⟨Nat.le_of_ble_eq_true rfl, Nat.le_of_ble_eq_true rfl⟩ (hd 23 1152 _ _ rfl) [.int a1, .int a2] (rest := [.int x1]) (by rfl) ⟨⟨114, by decide, rfl⟩, ⟨_, rfl, rf_in1 (by omega) (by omega), trivial⟩, ⟨_, rfl, rf_in1 (by omega) (by omega), trivial⟩, trivial⟩ (Nat.le_of_ble_eq_true rfl) hw1 (fr_pre hfr hf1 (by decide +kernel)) trivial (fun x2 ws2 hw2 hf2 e2 => k_pc 1155 rfl ?_)
    exact k_ceq c (hd 24 1155 _ _ rfl) (tgt := 1413) (by decide) (Int32.toInt_inj.mp (e1.trans e2.symm)) (KK _)
  · skip
    refine k_al c (hd 0 1127 _ _ rfl) (by rfl) (k_pc 1128 rfl ?_)
    refine k_al c (hd 1 1128 _ _ rfl) (by rfl) (k_pc 1129 rfl ?_)
    refine k_il c (hd 2 1129 _ _ rfl) (by rfl) (k_pc 1130 rfl ?_)
    refine k_ic c (hd 3 1130 _ _ rfl) (v := 1) (by decide) (k_pc 1131 rfl ?_)
    refine k_addE c (hd 4 1131 _ _ rfl) (k_pc 1132 rfl ?_)
    refine k_sldE C (lw_in h0 h1 C.2.2.2.2.1 (by decide)) ea1 (hd 5 1132 _ _ rfl) (k_pc 1133 rfl ?_)
    refine k_al c (hd 6 1133 _ _ rfl) (by rfl) (k_pc 1134 rfl ?_)
    refine k_il c (hd 7 1134 _ _ rfl) (by rfl) (k_pc 1135 rfl ?_)
    refine k_ic c (hd 8 1135 _ _ rfl) (v := 2) (by decide) (k_pc 1136 rfl ?_)
    refine k_addE c (hd 9 1136 _ _ rfl) (k_pc 1137 rfl ?_)
    refine k_sldE C (lw_in h0 h1 C.2.2.2.2.1 (by decide)) ea2 (hd 10 1137 _ _ rfl) (k_pc 1138 rfl ?_)
    refine k_callC C (M := q406_M) (rf_metV_of (q406_met hG)) 1 (by decide +kernel) (by decide +kernel) (wlkV (lkL_167 hG) _ rfl rfl) (j := 70) (by decide +kernel) ⟨Nat.le_of_ble_eq_true rfl, Nat.le_of_ble_eq_true rfl⟩ (hd 11 1138 _ _ rfl) [.int a1, .int a2] (rest := []) (by rfl) ⟨⟨70, by decide, rfl⟩, ⟨_, rfl, hcon (by omega), trivial⟩, ⟨_, rfl, hcon (by omega), trivial⟩, trivial⟩ (Nat.le_of_ble_eq_true rfl) hw (fr_pre hfr (hframe_rf [] _) (by decide +kernel)) trivial (fun x1 ws1 hw1 hf1 e1 => k_pc 1141 rfl ?_)
    refine k_al c (hd 12 1141 _ _ rfl) (by rfl) (k_pc 1142 rfl ?_)
    refine k_al c (hd 13 1142 _ _ rfl) (by rfl) (k_pc 1143 rfl ?_)
    refine k_il c (hd 14 1143 _ _ rfl) (by rfl) (k_pc 1144 rfl ?_)
    refine k_ic c (hd 15 1144 _ _ rfl) (v := 1) (by decide) (k_pc 1145 rfl ?_)
    refine k_addE c (hd 16 1145 _ _ rfl) (k_pc 1146 rfl ?_)
    refine k_sldE C (lw_in h0 h1 C.2.2.2.2.1 (by decide)) ea1 (hd 17 1146 _ _ rfl) (k_pc 1147 rfl ?_)
    refine k_al c (hd 18 1147 _ _ rfl) (by rfl) (k_pc 1148 rfl ?_)
    refine k_il c (hd 19 1148 _ _ rfl) (by rfl) (k_pc 1149 rfl ?_)
    refine k_ic c (hd 20 1149 _ _ rfl) (v := 2) (by decide) (k_pc 1150 rfl ?_)
    refine k_addE c (hd 21 1150 _ _ rfl) (k_pc 1151 rfl ?_)
    refine k_sldE C (lw_in h0 h1 C.2.2.2.2.1 (by decide)) ea2 (hd 22 1151 _ _ rfl) (k_pc 1152 rfl ?_)
    refine k_callC C (M := q411_M) (rf_metV_of (q411_met hG)) 1 (by decide +kernel) (by decide +kernel) (wlkV (lkL_170 hG) _ rfl rfl) (j := 114) (by decide +kernel) ⟨Nat.le_of_ble_eq_true rfl, Nat.le_of_ble_eq_true rfl⟩ (hd 23 1152 _ _ rfl) [.int a1, .int a2] (rest := [.int x1]) (by rfl) ⟨⟨114, by decide, rfl⟩, ⟨_, rfl, hcon (by omega), trivial⟩, ⟨_, rfl, hcon (by omega), trivial⟩, trivial⟩ (Nat.le_of_ble_eq_true rfl) hw1 (fr_pre hfr hf1 (by decide +kernel)) trivial (fun x2 ws2 hw2 hf2 e2 => k_pc 1155 rfl ?_)
    exact k_ceq c (hd 24 1155 _ _ rfl) (tgt := 1413) (by decide) (Int32.toInt_inj.mp (e1.trans e2.symm)) (KK _)
  · skip
    refine k_al c (hd 0 1127 _ _ rfl) (by rfl) (k_pc 1128 rfl ?_)
    refine k_al c (hd 1 1128 _ _ rfl) (by rfl) (k_pc 1129 rfl ?_)
    refine k_il c (hd 2 1129 _ _ rfl) (by rfl) (k_pc 1130 rfl ?_)
    refine k_ic c (hd 3 1130 _ _ rfl) (v := 1) (by decide) (k_pc 1131 rfl ?_)
    refine k_addE c (hd 4 1131 _ _ rfl) (k_pc 1132 rfl ?_)
    refine k_sldE C (lw_in h0 h1 C.2.2.2.2.1 (by decide)) ea1 (hd 5 1132 _ _ rfl) (k_pc 1133 rfl ?_)
    refine k_al c (hd 6 1133 _ _ rfl) (by rfl) (k_pc 1134 rfl ?_)
    refine k_il c (hd 7 1134 _ _ rfl) (by rfl) (k_pc 1135 rfl ?_)
    refine k_ic c (hd 8 1135 _ _ rfl) (v := 2) (by decide) (k_pc 1136 rfl ?_)
    refine k_addE c (hd 9 1136 _ _ rfl) (k_pc 1137 rfl ?_)
    refine k_sldE C (lw_in h0 h1 C.2.2.2.2.1 (by decide)) ea2 (hd 10 1137 _ _ rfl) (k_pc 1138 rfl ?_)
    refine k_callC C (M := q412_M) (rf_metV_of (q412_met hG)) 1 (by decide +kernel) (by decide +kernel) (wlkV (lkL_167 hG) _ rfl rfl) (j := 70) (by decide +kernel) ⟨Nat.le_of_ble_eq_true rfl, Nat.le_of_ble_eq_true rfl⟩ (hd 11 1138 _ _ rfl) [.int a1, .int a2] (rest := []) (by rfl) ⟨⟨70, by decide, rfl⟩, ⟨_, rfl, hcon (by omega), trivial⟩, ⟨_, rfl, hcon (by omega), trivial⟩, trivial⟩ (Nat.le_of_ble_eq_true rfl) hw (fr_pre hfr (hframe_rf [] _) (by decide +kernel)) trivial (fun x1 ws1 hw1 hf1 e1 => k_pc 1141 rfl ?_)
    refine k_al c (hd 12 1141 _ _ rfl) (by rfl) (k_pc 1142 rfl ?_)
    refine k_al c (hd 13 1142 _ _ rfl) (by rfl) (k_pc 1143 rfl ?_)
    refine k_il c (hd 14 1143 _ _ rfl) (by rfl) (k_pc 1144 rfl ?_)
    refine k_ic c (hd 15 1144 _ _ rfl) (v := 1) (by decide) (k_pc 1145 rfl ?_)
    refine k_addE c (hd 16 1145 _ _ rfl) (k_pc 1146 rfl ?_)
    refine k_sldE C (lw_in h0 h1 C.2.2.2.2.1 (by decide)) ea1 (hd 17 1146 _ _ rfl) (k_pc 1147 rfl ?_)
    refine k_al c (hd 18 1147 _ _ rfl) (by rfl) (k_pc 1148 rfl ?_)
    refine k_il c (hd 19 1148 _ _ rfl) (by rfl) (k_pc 1149 rfl ?_)
    refine k_ic c (hd 20 1149 _ _ rfl) (v := 2) (by decide) (k_pc 1150 rfl ?_)
    refine k_addE c (hd 21 1150 _ _ rfl) (k_pc 1151 rfl ?_)
    refine k_sldE C (lw_in h0 h1 C.2.2.2.2.1 (by decide)) ea2 (hd 22 1151 _ _ rfl) (k_pc 1152 rfl ?_)
    refine k_callC C (M := q414_M) (rf_metV_of (q414_met hG)) 1 (by decide +kernel) (by decide +kernel) (wlkV (lkL_170 hG) _ rfl rfl) (j := 114) (by decide +kernel) ⟨Nat.le_of_ble_eq_true rfl, Nat.le_of_ble_eq_true rfl⟩ (hd 23 1152 _ _ rfl) [.int a1, .int a2] (rest := [.int x1]) (by rfl) ⟨⟨114, by decide, rfl⟩, ⟨_, rfl, hcon (by omega), trivial⟩, ⟨_, rfl, hcon (by omega), trivial⟩, trivial⟩ (Nat.le_of_ble_eq_true rfl) hw1 (fr_pre hfr hf1 (by decide +kernel)) trivial (fun x2 ws2 hw2 hf2 e2 => k_pc 1155 rfl ?_)
    exact k_ceq c (hd 24 1155 _ _ rfl) (tgt := 1413) (by decide) (Int32.toInt_inj.mp (e1.trans e2.symm)) (KK _)
  · skip
    refine k_al c (hd 0 1127 _ _ rfl) (by rfl) (k_pc 1128 rfl ?_)
    refine k_al c (hd 1 1128 _ _ rfl) (by rfl) (k_pc 1129 rfl ?_)
    refine k_il c (hd 2 1129 _ _ rfl) (by rfl) (k_pc 1130 rfl ?_)
    refine k_ic c (hd 3 1130 _ _ rfl) (v := 1) (by decide) (k_pc 1131 rfl ?_)
    refine k_addE c (hd 4 1131 _ _ rfl) (k_pc 1132 rfl ?_)
    refine k_sldE C (lw_in h0 h1 C.2.2.2.2.1 (by decide)) ea1 (hd 5 1132 _ _ rfl) (k_pc 1133 rfl ?_)
    refine k_al c (hd 6 1133 _ _ rfl) (by rfl) (k_pc 1134 rfl ?_)
    refine k_il c (hd 7 1134 _ _ rfl) (by rfl) (k_pc 1135 rfl ?_)
    refine k_ic c (hd 8 1135 _ _ rfl) (v := 2) (by decide) (k_pc 1136 rfl ?_)
    refine k_addE c (hd 9 1136 _ _ rfl) (k_pc 1137 rfl ?_)
    refine k_sldE C (lw_in h0 h1 C.2.2.2.2.1 (by decide)) ea2 (hd 10 1137 _ _ rfl) (k_pc 1138 rfl ?_)
    refine k_callC C (M := q415_M) (rf_metV_of (q415_met hG)) 1 (by decide +kernel) (by decide +kernel) (wlkV (lkL_167 hG) _ rfl rfl) (j := 70) (by decide +kernel) ⟨Nat.le_of_ble_eq_true rfl, Nat.le_of_ble_eq_true rfl⟩ (hd 11 1138 _ _ rfl) [.int a1, .int a2] (rest := []) (by rfl) ⟨⟨70, by decide, rfl⟩, ⟨_, rfl, hcon (by omega), trivial⟩, ⟨_, rfl, hcon (by omega), trivial⟩, trivial⟩ (Nat.le_of_ble_eq_true rfl) hw (fr_pre hfr (hframe_rf [] _) (by decide +kernel)) trivial (fun x1 ws1 hw1 hf1 e1 => k_pc 1141 rfl ?_)
    refine k_al c (hd 12 1141 _ _ rfl) (by rfl) (k_pc 1142 rfl ?_)
    refine k_al c (hd 13 1142 _ _ rfl) (by rfl) (k_pc 1143 rfl ?_)
    refine k_il c (hd 14 1143 _ _ rfl) (by rfl) (k_pc 1144 rfl ?_)
    refine k_ic c (hd 15 1144 _ _ rfl) (v := 1) (by decide) (k_pc 1145 rfl ?_)
    refine k_addE c (hd 16 1145 _ _ rfl) (k_pc 1146 rfl ?_)
    refine k_sldE C (lw_in h0 h1 C.2.2.2.2.1 (by decide)) ea1 (hd 17 1146 _ _ rfl) (k_pc 1147 rfl ?_)
    refine k_al c (hd 18 1147 _ _ rfl) (by rfl) (k_pc 1148 rfl ?_)
    refine k_il c (hd 19 1148 _ _ rfl) (by rfl) (k_pc 1149 rfl ?_)
    refine k_ic c (hd 20 1149 _ _ rfl) (v := 2) (by decide) (k_pc 1150 rfl ?_)
    refine k_addE c (hd 21 1150 _ _ rfl) (k_pc 1151 rfl ?_)
    refine k_sldE C (lw_in h0 h1 C.2.2.2.2.1 (by decide)) ea2 (hd 22 1151 _ _ rfl) (k_pc 1152 rfl ?_)
    refine k_callC C (M := q419_M) (rf_metV_of (q419_met hG)) 1 (by decide +kernel) (by decide +kernel) (wlkV (lkL_170 hG) _ rfl rfl) (j := 114) (by decide +kernel) ⟨Nat.le_of_ble_eq_true rfl, Nat.le_of_ble_eq_true rfl⟩ (hd 23 1152 _ _ rfl) [.int a1, .int a2] (rest := [.int x1]) (by rfl) ⟨⟨114, by decide, rfl⟩, ⟨_, rfl, hcon (by omega), trivial⟩, ⟨_, rfl, hcon (by omega), trivial⟩, trivial⟩ (Nat.le_of_ble_eq_true rfl) hw1 (fr_pre hfr hf1 (by decide +kernel)) trivial (fun x2 ws2 hw2 hf2 e2 => k_pc 1155 rfl ?_)
    exact k_ceq c (hd 24 1155 _ _ rfl) (tgt := 1413) (by decide) (Int32.toInt_inj.mp (e1.trans e2.symm)) (KK _)
  · skip
    refine k_al c (hd 0 1127 _ _ rfl) (by rfl) (k_pc 1128 rfl ?_)
    refine k_al c (hd 1 1128 _ _ rfl) (by rfl) (k_pc 1129 rfl ?_)
    refine k_il c (hd 2 1129 _ _ rfl) (by rfl) (k_pc 1130 rfl ?_)
    refine k_ic c (hd 3 1130 _ _ rfl) (v := 1) (by decide) (k_pc 1131 rfl ?_)
    refine k_addE c (hd 4 1131 _ _ rfl) (k_pc 1132 rfl ?_)
    refine k_sldE C (lw_in h0 h1 C.2.2.2.2.1 (by decide)) ea1 (hd 5 1132 _ _ rfl) (k_pc 1133 rfl ?_)
    refine k_al c (hd 6 1133 _ _ rfl) (by rfl) (k_pc 1134 rfl ?_)
    refine k_il c (hd 7 1134 _ _ rfl) (by rfl) (k_pc 1135 rfl ?_)
    refine k_ic c (hd 8 1135 _ _ rfl) (v := 2) (by decide) (k_pc 1136 rfl ?_)
    refine k_addE c (hd 9 1136 _ _ rfl) (k_pc 1137 rfl ?_)
    refine k_sldE C (lw_in h0 h1 C.2.2.2.2.1 (by decide)) ea2 (hd 10 1137 _ _ rfl) (k_pc 1138 rfl ?_)
    refine k_callC C (M := q420_M) (rf_metV_of (q420_met hG)) 1 (by decide +kernel) (by decide +kernel) (wlkV (lkL_167 hG) _ rfl rfl) (j := 70) (by decide +kernel) ⟨Nat.le_of_ble_eq_true rfl, Nat.le_of_ble_eq_true rfl⟩ (hd 11 1138 _ _ rfl) [.int a1, .int a2] (rest := []) (by rfl) ⟨⟨70, by decide, rfl⟩, ⟨_, rfl, hcon (by omega), trivial⟩, ⟨_, rfl, hcon (by omega), trivial⟩, trivial⟩ (Nat.le_of_ble_eq_true rfl) hw (fr_pre hfr (hframe_rf [] _) (by decide +kernel)) trivial (fun x1 ws1 hw1 hf1 e1 => k_pc 1141 rfl ?_)
    refine k_al c (hd 12 1141 _ _ rfl) (by rfl) (k_pc 1142 rfl ?_)
    refine k_al c (hd 13 1142 _ _ rfl) (by rfl) (k_pc 1143 rfl ?_)
    refine k_il c (hd 14 1143 _ _ rfl) (by rfl) (k_pc 1144 rfl ?_)
    refine k_ic c (hd 15 1144 _ _ rfl) (v := 1) (by decide) (k_pc 1145 rfl ?_)
    refine k_addE c (hd 16 1145 _ _ rfl) (k_pc 1146 rfl ?_)
    refine k_sldE C (lw_in h0 h1 C.2.2.2.2.1 (by decide)) ea1 (hd 17 1146 _ _ rfl) (k_pc 1147 rfl ?_)
    refine k_al c (hd 18 1147 _ _ rfl) (by rfl) (k_pc 1148 rfl ?_)
    refine k_il c (hd 19 1148 _ _ rfl) (by rfl) (k_pc 1149 rfl ?_)
    refine k_ic c (hd 20 1149 _ _ rfl) (v := 2) (by decide) (k_pc 1150 rfl ?_)
    refine k_addE c (hd 21 1150 _ _ rfl) (k_pc 1151 rfl ?_)
    refine k_sldE C (lw_in h0 h1 C.2.2.2.2.1 (by decide)) ea2 (hd 22 1151 _ _ rfl) (k_pc 1152 rfl ?_)
    refine k_callC C (M := q421_M) (rf_metV_of (q421_met hG)) 1 (by decide +kernel) (by decide +kernel) (wlkV (lkL_170 hG) _ rfl rfl) (j := 114) (by decide +kernel) ⟨Nat.le_of_ble_eq_true rfl, Nat.le_of_ble_eq_true rfl⟩ (hd 23 1152 _ _ rfl) [.int a1, .int a2] (rest := [.int x1]) (by rfl) ⟨⟨114, by decide, rfl⟩, ⟨_, rfl, hcon (by omega), trivial⟩, ⟨_, rfl, hcon (by omega), trivial⟩, trivial⟩ (Nat.le_of_ble_eq_true rfl) hw1 (fr_pre hfr hf1 (by decide +kernel)) trivial (fun x2 ws2 hw2 hf2 e2 => k_pc 1155 rfl ?_)
    exact k_ceq c (hd 24 1155 _ _ rfl) (tgt := 1413) (by decide) (Int32.toInt_inj.mp (e1.trans e2.symm)) (KK _)
  · skip
    refine k_al c (hd 0 1127 _ _ rfl) (by rfl) (k_pc 1128 rfl ?_)
    refine k_al c (hd 1 1128 _ _ rfl) (by rfl) (k_pc 1129 rfl ?_)
    refine k_il c (hd 2 1129 _ _ rfl) (by rfl) (k_pc 1130 rfl ?_)
    refine k_ic c (hd 3 1130 _ _ rfl) (v := 1) (by decide) (k_pc 1131 rfl ?_)
    refine k_addE c (hd 4 1131 _ _ rfl) (k_pc 1132 rfl ?_)
    refine k_sldE C (lw_in h0 h1 C.2.2.2.2.1 (by decide)) ea1 (hd 5 1132 _ _ rfl) (k_pc 1133 rfl ?_)
    refine k_al c (hd 6 1133 _ _ rfl) (by rfl) (k_pc 1134 rfl ?_)
    refine k_il c (hd 7 1134 _ _ rfl) (by rfl) (k_pc 1135 rfl ?_)
    refine k_ic c (hd 8 1135 _ _ rfl) (v := 2) (by decide) (k_pc 1136 rfl ?_)
    refine k_addE c (hd 9 1136 _ _ rfl) (k_pc 1137 rfl ?_)
    refine k_sldE C (lw_in h0 h1 C.2.2.2.2.1 (by decide)) ea2 (hd 10 1137 _ _ rfl) (k_pc 1138 rfl ?_)
    refine k_callC C (M := q422_M) (rf_metV_of (q422_met hG)) 1 (by decide +kernel) (by decide +kernel) (wlkV (lkL_167 hG) _ rfl rfl) (j := 70) (by decide +kernel) ⟨Nat.le_of_ble_eq_true rfl, Nat.le_of_ble_eq_true rfl⟩ (hd 11 1138 _ _ rfl) [.int a1, .int a2] (rest := []) (by rfl) ⟨⟨70, by decide, rfl⟩, ⟨_, rfl, hcon (by omega), trivial⟩, ⟨_, rfl, hcon (by omega), trivial⟩, trivial⟩ (Nat.le_of_ble_eq_true rfl) hw (fr_pre hfr (hframe_rf [] _) (by decide +kernel)) trivial (fun x1 ws1 hw1 hf1 e1 => k_pc 1141 rfl ?_)
    refine k_al c (hd 12 1141 _ _ rfl) (by rfl) (k_pc 1142 rfl ?_)
    refine k_al c (hd 13 1142 _ _ rfl) (by rfl) (k_pc 1143 rfl ?_)
    refine k_il c (hd 14 1143 _ _ rfl) (by rfl) (k_pc 1144 rfl ?_)
    refine k_ic c (hd 15 1144 _ _ rfl) (v := 1) (by decide) (k_pc 1145 rfl ?_)
    refine k_addE c (hd 16 1145 _ _ rfl) (k_pc 1146 rfl ?_)
    refine k_sldE C (lw_in h0 h1 C.2.2.2.2.1 (by decide)) ea1 (hd 17 1146 _ _ rfl) (k_pc 1147 rfl ?_)
    refine k_al c (hd 18 1147 _ _ rfl) (by rfl) (k_pc 1148 rfl ?_)
    refine k_il c (hd 19 1148 _ _ rfl) (by rfl) (k_pc 1149 rfl ?_)
    refine k_ic c (hd 20 1149 _ _ rfl) (v := 2) (by decide) (k_pc 1150 rfl ?_)
    refine k_addE c (hd 21 1150 _ _ rfl) (k_pc 1151 rfl ?_)
    refine k_sldE C (lw_in h0 h1 C.2.2.2.2.1 (by decide)) ea2 (hd 22 1151 _ _ rfl) (k_pc 1152 rfl ?_)
    refine k_callC C (M := q426_M) (rf_metV_of (q426_met hG)) 1 (by decide +kernel) (by decide +kernel) (wlkV (lkL_170 hG) _ rfl rfl) (j := 114) (by decide +kernel) ⟨Nat.le_of_ble_eq_true rfl, Nat.le_of_ble_eq_true rfl⟩ (hd 23 1152 _ _ rfl) [.int a1, .int a2] (rest := [.int x1]) (by rfl) ⟨⟨114, by decide, rfl⟩, ⟨_, rfl, hcon (by omega), trivial⟩, ⟨_, rfl, hcon (by omega), trivial⟩, trivial⟩ (Nat.le_of_ble_eq_true rfl) hw1 (fr_pre hfr hf1 (by decide +kernel)) trivial (fun x2 ws2 hw2 hf2 e2 => k_pc 1155 rfl ?_)
    exact k_ceq c (hd 24 1155 _ _ rfl) (tgt := 1413) (by decide) (Int32.toInt_inj.mp (e1.trans e2.symm)) (KK _)
  · skip
    refine k_al c (hd 0 1127 _ _ rfl) (by rfl) (k_pc 1128 rfl ?_)
    refine k_al c (hd 1 1128 _ _ rfl) (by rfl) (k_pc 1129 rfl ?_)
    refine k_il c (hd 2 1129 _ _ rfl) (by rfl) (k_pc 1130 rfl ?_)
    refine k_ic c (hd 3 1130 _ _ rfl) (v := 1) (by decide) (k_pc 1131 rfl ?_)
    refine k_addE c (hd 4 1131 _ _ rfl) (k_pc 1132 rfl ?_)
    refine k_sldE C (lw_in h0 h1 C.2.2.2.2.1 (by decide)) ea1 (hd 5 1132 _ _ rfl) (k_pc 1133 rfl ?_)
    refine k_al c (hd 6 1133 _ _ rfl) (by rfl) (k_pc 1134 rfl ?_)
    refine k_il c (hd 7 1134 _ _ rfl) (by rfl) (k_pc 1135 rfl ?_)
    refine k_ic c (hd 8 1135 _ _ rfl) (v := 2) (by decide) (k_pc 1136 rfl ?_)
    refine k_addE c (hd 9 1136 _ _ rfl) (k_pc 1137 rfl ?_)
    refine k_sldE C (lw_in h0 h1 C.2.2.2.2.1 (by decide)) ea2 (hd 10 1137 _ _ rfl) (k_pc 1138 rfl ?_)
    refine k_callC C (M := q427_M) (rf_metV_of (q427_met hG)) 1 (by decide +kernel) (by decide +kernel) (wlkV (lkL_167 hG) _ rfl rfl) (j := 70) (by decide +kernel) ⟨Nat.le_of_ble_eq_true rfl, Nat.le_of_ble_eq_true rfl⟩ (hd 11 1138 _ _ rfl) [.int a1, .int a2] (rest := []) (by rfl) ⟨⟨70, by decide, rfl⟩, ⟨_, rfl, hcon (by omega), trivial⟩, ⟨_, rfl, hcon (by omega), trivial⟩, trivial⟩ (Nat.le_of_ble_eq_true rfl) hw (fr_pre hfr (hframe_rf [] _) (by decide +kernel)) trivial (fun x1 ws1 hw1 hf1 e1 => k_pc 1141 rfl ?_)
    refine k_al c (hd 12 1141 _ _ rfl) (by rfl) (k_pc 1142 rfl ?_)
    refine k_al c (hd 13 1142 _ _ rfl) (by rfl) (k_pc 1143 rfl ?_)
    refine k_il c (hd 14 1143 _ _ rfl) (by rfl) (k_pc 1144 rfl ?_)
    refine k_ic c (hd 15 1144 _ _ rfl) (v := 1) (by decide) (k_pc 1145 rfl ?_)
    refine k_addE c (hd 16 1145 _ _ rfl) (k_pc 1146 rfl ?_)
    refine k_sldE C (lw_in h0 h1 C.2.2.2.2.1 (by decide)) ea1 (hd 17 1146 _ _ rfl) (k_pc 1147 rfl ?_)
    refine k_al c (hd 18 1147 _ _ rfl) (by rfl) (k_pc 1148 rfl ?_)
    refine k_il c (hd 19 1148 _ _ rfl) (by rfl) (k_pc 1149 rfl ?_)
    refine k_ic c (hd 20 1149 _ _ rfl) (v := 2) (by decide) (k_pc 1150 rfl ?_)
    refine k_addE c (hd 21 1150 _ _ rfl) (k_pc 1151 rfl ?_)
    refine k_sldE C (lw_in h0 h1 C.2.2.2.2.1 (by decide)) ea2 (hd 22 1151 _ _ rfl) (k_pc 1152 rfl ?_)
    refine k_callC C (M := q428_M) (rf_metV_of (q428_met hG)) 1 (by decide +kernel) (by decide +kernel) (wlkV (lkL_170 hG) _ rfl rfl) (j := 114) (by decide +kernel) ⟨Nat.le_of_ble_eq_true rfl, Nat.le_of_ble_eq_true rfl⟩ (hd 23 1152 _ _ rfl) [.int a1, .int a2] (rest := [.int x1]) (by rfl) ⟨⟨114, by decide, rfl⟩, ⟨_, rfl, hcon (by omega), trivial⟩, ⟨_, rfl, hcon (by omega), trivial⟩, trivial⟩ (Nat.le_of_ble_eq_true rfl) hw1 (fr_pre hfr hf1 (by decide +kernel)) trivial (fun x2 ws2 hw2 hf2 e2 => k_pc 1155 rfl ?_)
    exact k_ceq c (hd 24 1155 _ _ rfl) (tgt := 1413) (by decide) (Int32.toInt_inj.mp (e1.trans e2.symm)) (KK _)
  · skip
    refine k_al c (hd 0 1127 _ _ rfl) (by rfl) (k_pc 1128 rfl ?_)
    refine k_al c (hd 1 1128 _ _ rfl) (by rfl) (k_pc 1129 rfl ?_)
    refine k_il c (hd 2 1129 _ _ rfl) (by rfl) (k_pc 1130 rfl ?_)
    refine k_ic c (hd 3 1130 _ _ rfl) (v := 1) (by decide) (k_pc 1131 rfl ?_)
    refine k_addE c (hd 4 1131 _ _ rfl) (k_pc 1132 rfl ?_)
    refine k_sldE C (lw_in h0 h1 C.2.2.2.2.1 (by decide)) ea1 (hd 5 1132 _ _ rfl) (k_pc 1133 rfl ?_)
    refine k_al c (hd 6 1133 _ _ rfl) (by rfl) (k_pc 1134 rfl ?_)
    refine k_il c (hd 7 1134 _ _ rfl) (by rfl) (k_pc 1135 rfl ?_)
    refine k_ic c (hd 8 1135 _ _ rfl) (v := 2) (by decide) (k_pc 1136 rfl ?_)
    refine k_addE c (hd 9 1136 _ _ rfl) (k_pc 1137 rfl ?_)
    refine k_sldE C (lw_in h0 h1 C.2.2.2.2.1 (by decide)) ea2 (hd 10 1137 _ _ rfl) (k_pc 1138 rfl ?_)
    refine k_callC C (M := q429_M) (rf_metV_of (q429_met hG)) 1 (by decide +kernel) (by decide +kernel) (wlkV (lkL_167 hG) _ rfl rfl) (j := 70) (by decide +kernel) ⟨Nat.le_of_ble_eq_true rfl, Nat.le_of_ble_eq_true rfl⟩ (hd 11 1138 _ _ rfl) [.int a1, .int a2] (rest := []) (by rfl) ⟨⟨70, by decide, rfl⟩, ⟨_, rfl, hcon (by omega), trivial⟩, ⟨_, rfl, hcon (by omega), trivial⟩, trivial⟩ (Nat.le_of_ble_eq_true rfl) hw (fr_pre hfr (hframe_rf [] _) (by decide +kernel)) trivial (fun x1 ws1 hw1 hf1 e1 => k_pc 1141 rfl ?_)
    refine k_al c (hd 12 1141 _ _ rfl) (by rfl) (k_pc 1142 rfl ?_)
    refine k_al c (hd 13 1142 _ _ rfl) (by rfl) (k_pc 1143 rfl ?_)
    refine k_il c (hd 14 1143 _ _ rfl) (by rfl) (k_pc 1144 rfl ?_)
    refine k_ic c (hd 15 1144 _ _ rfl) (v := 1) (by decide) (k_pc 1145 rfl ?_)
    refine k_addE c (hd 16 1145 _ _ rfl) (k_pc 1146 rfl ?_)
    refine k_sldE C (lw_in h0 h1 C.2.2.2.2.1 (by decide)) ea1 (hd 17 1146 _ _ rfl) (k_pc 1147 rfl ?_)
    refine k_al c (hd 18 1147 _ _ rfl) (by rfl) (k_pc 1148 rfl ?_)
    refine k_il c (hd 19 1148 _ _ rfl) (by rfl) (k_pc 1149 rfl ?_)
    refine k_ic c (hd 20 1149 _ _ rfl) (v := 2) (by decide) (k_pc 1150 rfl ?_)
    refine k_addE c (hd 21 1150 _ _ rfl) (k_pc 1151 rfl ?_)
    refine k_sldE C (lw_in h0 h1 C.2.2.2.2.1 (by decide)) ea2 (hd 22 1151 _ _ rfl) (k_pc 1152 rfl ?_)
    refine k_callC C (M := q433_M) (rf_metV_of (q433_met hG)) 1 (by decide +kernel) (by decide +kernel) (wlkV (lkL_170 hG) _ rfl rfl) (j := 114) (by decide +kernel) ⟨Nat.le_of_ble_eq_true rfl, Nat.le_of_ble_eq_true rfl⟩ (hd 23 1152 _ _ rfl) [.int a1, .int a2] (rest := [.int x1]) (by rfl) ⟨⟨114, by decide, rfl⟩, ⟨_, rfl, hcon (by omega), trivial⟩, ⟨_, rfl, hcon (by omega), trivial⟩, trivial⟩ (Nat.le_of_ble_eq_true rfl) hw1 (fr_pre hfr hf1 (by decide +kernel)) trivial (fun x2 ws2 hw2 hf2 e2 => k_pc 1155 rfl ?_)
    exact k_ceq c (hd 24 1155 _ _ rfl) (tgt := 1413) (by decide) (Int32.toInt_inj.mp (e1.trans e2.symm)) (KK _)
  · skip
    refine k_al c (hd 0 1127 _ _ rfl) (by rfl) (k_pc 1128 rfl ?_)
    refine k_al c (hd 1 1128 _ _ rfl) (by rfl) (k_pc 1129 rfl ?_)
    refine k_il c (hd 2 1129 _ _ rfl) (by rfl) (k_pc 1130 rfl ?_)
    refine k_ic c (hd 3 1130 _ _ rfl) (v := 1) (by decide) (k_pc 1131 rfl ?_)
    refine k_addE c (hd 4 1131 _ _ rfl) (k_pc 1132 rfl ?_)
    refine k_sldE C (lw_in h0 h1 C.2.2.2.2.1 (by decide)) ea1 (hd 5 1132 _ _ rfl) (k_pc 1133 rfl ?_)
    refine k_al c (hd 6 1133 _ _ rfl) (by rfl) (k_pc 1134 rfl ?_)
    refine k_il c (hd 7 1134 _ _ rfl) (by rfl) (k_pc 1135 rfl ?_)
    refine k_ic c (hd 8 1135 _ _ rfl) (v := 2) (by decide) (k_pc 1136 rfl ?_)
    refine k_addE c (hd 9 1136 _ _ rfl) (k_pc 1137 rfl ?_)
    refine k_sldE C (lw_in h0 h1 C.2.2.2.2.1 (by decide)) ea2 (hd 10 1137 _ _ rfl) (k_pc 1138 rfl ?_)
    refine k_callC C (M := q434_M) (rf_metV_of (q434_met hG)) 1 (by decide +kernel) (by decide +kernel) (wlkV (lkL_167 hG) _ rfl rfl) (j := 70) (by decide +kernel) ⟨Nat.le_of_ble_eq_true rfl, Nat.le_of_ble_eq_true rfl⟩ (hd 11 1138 _ _ rfl) [.int a1, .int a2] (rest := []) (by rfl) ⟨⟨70, by decide, rfl⟩, ⟨_, rfl, hcon (by omega), trivial⟩, ⟨_, rfl, hcon (by omega), trivial⟩, trivial⟩ (Nat.le_of_ble_eq_true rfl) hw (fr_pre hfr (hframe_rf [] _) (by decide +kernel)) trivial (fun x1 ws1 hw1 hf1 e1 => k_pc 1141 rfl ?_)
    refine k_al c (hd 12 1141 _ _ rfl) (by rfl) (k_pc 1142 rfl ?_)
    refine k_al c (hd 13 1142 _ _ rfl) (by rfl) (k_pc 1143 rfl ?_)
    refine k_il c (hd 14 1143 _ _ rfl) (by rfl) (k_pc 1144 rfl ?_)
    refine k_ic c (hd 15 1144 _ _ rfl) (v := 1) (by decide) (k_pc 1145 rfl ?_)
    refine k_addE c (hd 16 1145 _ _ rfl) (k_pc 1146 rfl ?_)
    refine k_sldE C (lw_in h0 h1 C.2.2.2.2.1 (by decide)) ea1 (hd 17 1146 _ _ rfl) (k_pc 1147 rfl ?_)
    refine k_al c (hd 18 1147 _ _ rfl) (by rfl) (k_pc 1148 rfl ?_)
    refine k_il c (hd 19 1148 _ _ rfl) (by rfl) (k_pc 1149 rfl ?_)
    refine k_ic c (hd 20 1149 _ _ rfl) (v := 2) (by decide) (k_pc 1150 rfl ?_)
    refine k_addE c (hd 21 1150 _ _ rfl) (k_pc 1151 rfl ?_)
    refine k_sldE C (lw_in h0 h1 C.2.2.2.2.1 (by decide)) ea2 (hd 22 1151 _ _ rfl) (k_pc 1152 rfl ?_)
    refine k_callC C (M := q435_M) (rf_metV_of (q435_met hG)) 1 (by decide +kernel) (by decide +kernel) (wlkV (lkL_170 hG) _ rfl rfl) (j := 114) (by decide +kernel) ⟨Nat.le_of_ble_eq_true rfl, Nat.le_of_ble_eq_true rfl⟩ (hd 23 1152 _ _ rfl) [.int a1, .int a2] (rest := [.int x1]) (by rfl) ⟨⟨114, by decide, rfl⟩, ⟨_, rfl, hcon (by omega), trivial⟩, ⟨_, rfl, hcon (by omega), trivial⟩, trivial⟩ (Nat.le_of_ble_eq_true rfl) hw1 (fr_pre hfr hf1 (by decide +kernel)) trivial (fun x2 ws2 hw2 hf2 e2 => k_pc 1155 rfl ?_)
    exact k_ceq c (hd 24 1155 _ _ rfl) (tgt := 1413) (by decide) (Int32.toInt_inj.mp (e1.trans e2.symm)) (KK _)
  · skip
    refine k_al c (hd 0 1127 _ _ rfl) (by rfl) (k_pc 1128 rfl ?_)
    refine k_al c (hd 1 1128 _ _ rfl) (by rfl) (k_pc 1129 rfl ?_)
    refine k_il c (hd 2 1129 _ _ rfl) (by rfl) (k_pc 1130 rfl ?_)
    refine k_ic c (hd 3 1130 _ _ rfl) (v := 1) (by decide) (k_pc 1131 rfl ?_)
    refine k_addE c (hd 4 1131 _ _ rfl) (k_pc 1132 rfl ?_)
    refine k_sldE C (lw_in h0 h1 C.2.2.2.2.1 (by decide)) ea1 (hd 5 1132 _ _ rfl) (k_pc 1133 rfl ?_)
    refine k_al c (hd 6 1133 _ _ rfl) (by rfl) (k_pc 1134 rfl ?_)
    refine k_il c (hd 7 1134 _ _ rfl) (by rfl) (k_pc 1135 rfl ?_)
    refine k_ic c (hd 8 1135 _ _ rfl) (v := 2) (by decide) (k_pc 1136 rfl ?_)
    refine k_addE c (hd 9 1136 _ _ rfl) (k_pc 1137 rfl ?_)
    refine k_sldE C (lw_in h0 h1 C.2.2.2.2.1 (by decide)) ea2 (hd 10 1137 _ _ rfl) (k_pc 1138 rfl ?_)
    refine k_callC C (M := q436_M) (rf_metV_of (q436_met hG)) 1 (by decide +kernel) (by decide +kernel) (wlkV (lkL_167 hG) _ rfl rfl) (j := 70) (by decide +kernel) ⟨Nat.le_of_ble_eq_true rfl, Nat.le_of_ble_eq_true rfl⟩ (hd 11 1138 _ _ rfl) [.int a1, .int a2] (rest := []) (by rfl) ⟨⟨70, by decide, rfl⟩, ⟨_, rfl, hcon (by omega), trivial⟩, ⟨_, rfl, hcon (by omega), trivial⟩, trivial⟩ (Nat.le_of_ble_eq_true rfl) hw (fr_pre hfr (hframe_rf [] _) (by decide +kernel)) trivial (fun x1 ws1 hw1 hf1 e1 => k_pc 1141 rfl ?_)
    refine k_al c (hd 12 1141 _ _ rfl) (by rfl) (k_pc 1142 rfl ?_)
    refine k_al c (hd 13 1142 _ _ rfl) (by rfl) (k_pc 1143 rfl ?_)
    refine k_il c (hd 14 1143 _ _ rfl) (by rfl) (k_pc 1144 rfl ?_)
    refine k_ic c (hd 15 1144 _ _ rfl) (v := 1) (by decide) (k_pc 1145 rfl ?_)
    refine k_addE c (hd 16 1145 _ _ rfl) (k_pc 1146 rfl ?_)
    refine k_sldE C (lw_in h0 h1 C.2.2.2.2.1 (by decide)) ea1 (hd 17 1146 _ _ rfl) (k_pc 1147 rfl ?_)
    refine k_al c (hd 18 1147 _ _ rfl) (by rfl) (k_pc 1148 rfl ?_)
    refine k_il c (hd 19 1148 _ _ rfl) (by rfl) (k_pc 1149 rfl ?_)
    refine k_ic c (hd 20 1149 _ _ rfl) (v := 2) (by decide) (k_pc 1150 rfl ?_)
    refine k_addE c (hd 21 1150 _ _ rfl) (k_pc 1151 rfl ?_)
    refine k_sldE C (lw_in h0 h1 C.2.2.2.2.1 (by decide)) ea2 (hd 22 1151 _ _ rfl) (k_pc 1152 rfl ?_)
    refine k_callC C (M := q440_M) (rf_metV_of (q440_met hG)) 1 (by decide +kernel) (by decide +kernel) (wlkV (lkL_170 hG) _ rfl rfl) (j := 114) (by decide +kernel) ⟨Nat.le_of_ble_eq_true rfl, Nat.le_of_ble_eq_true rfl⟩ (hd 23 1152 _ _ rfl) [.int a1, .int a2] (rest := [.int x1]) (by rfl) ⟨⟨114, by decide, rfl⟩, ⟨_, rfl, hcon (by omega), trivial⟩, ⟨_, rfl, hcon (by omega), trivial⟩, trivial⟩ (Nat.le_of_ble_eq_true rfl) hw1 (fr_pre hfr hf1 (by decide +kernel)) trivial (fun x2 ws2 hw2 hf2 e2 => k_pc 1155 rfl ?_)
    exact k_ceq c (hd 24 1155 _ _ rfl) (tgt := 1413) (by decide) (Int32.toInt_inj.mp (e1.trans e2.symm)) (KK _)
  · skip
    refine k_al c (hd 0 1127 _ _ rfl) (by rfl) (k_pc 1128 rfl ?_)
    refine k_al c (hd 1 1128 _ _ rfl) (by rfl) (k_pc 1129 rfl ?_)
    refine k_il c (hd 2 1129 _ _ rfl) (by rfl) (k_pc 1130 rfl ?_)
    refine k_ic c (hd 3 1130 _ _ rfl) (v := 1) (by decide) (k_pc 1131 rfl ?_)
    refine k_addE c (hd 4 1131 _ _ rfl) (k_pc 1132 rfl ?_)
    refine k_sldE C (lw_in h0 h1 C.2.2.2.2.1 (by decide)) ea1 (hd 5 1132 _ _ rfl) (k_pc 1133 rfl ?_)
    refine k_al c (hd 6 1133 _ _ rfl) (by rfl) (k_pc 1134 rfl ?_)
    refine k_il c (hd 7 1134 _ _ rfl) (by rfl) (k_pc 1135 rfl ?_)
    refine k_ic c (hd 8 1135 _ _ rfl) (v := 2) (by decide) (k_pc 1136 rfl ?_)
    refine k_addE c (hd 9 1136 _ _ rfl) (k_pc 1137 rfl ?_)
    refine k_sldE C (lw_in h0 h1 C.2.2.2.2.1 (by decide)) ea2 (hd 10 1137 _ _ rfl) (k_pc 1138 rfl ?_)
    refine k_callC C (M := q441_M) (rf_metV_of (q441_met hG)) 1 (by decide +kernel) (by decide +kernel) (wlkV (lkL_167 hG) _ rfl rfl) (j := 70) (by decide +kernel) ⟨Nat.le_of_ble_eq_true rfl, Nat.le_of_ble_eq_true rfl⟩ (hd 11 1138 _ _ rfl) [.int a1, .int a2] (rest := []) (by rfl) ⟨⟨70, by decide, rfl⟩, ⟨_, rfl, hcon (by omega), trivial⟩, ⟨_, rfl, hcon (by omega), trivial⟩, trivial⟩ (Nat.le_of_ble_eq_true rfl) hw (fr_pre hfr (hframe_rf [] _) (by decide +kernel)) trivial (fun x1 ws1 hw1 hf1 e1 => k_pc 1141 rfl ?_)
    refine k_al c (hd 12 1141 _ _ rfl) (by rfl) (k_pc 1142 rfl ?_)
    refine k_al c (hd 13 1142 _ _ rfl) (by rfl) (k_pc 1143 rfl ?_)
    refine k_il c (hd 14 1143 _ _ rfl) (by rfl) (k_pc 1144 rfl ?_)
    refine k_ic c (hd 15 1144 _ _ rfl) (v := 1) (by decide) (k_pc 1145 rfl ?_)
    refine k_addE c (hd 16 1145 _ _ rfl) (k_pc 1146 rfl ?_)
    refine k_sldE C (lw_in h0 h1 C.2.2.2.2.1 (by decide)) ea1 (hd 17 1146 _ _ rfl) (k_pc 1147 rfl ?_)
    refine k_al c (hd 18 1147 _ _ rfl) (by rfl) (k_pc 1148 rfl ?_)
    refine k_il c (hd 19 1148 _ _ rfl) (by rfl) (k_pc 1149 rfl ?_)
    refine k_ic c (hd 20 1149 _ _ rfl) (v := 2) (by decide) (k_pc 1150 rfl ?_)
    refine k_addE c (hd 21 1150 _ _ rfl) (k_pc 1151 rfl ?_)
    refine k_sldE C (lw_in h0 h1 C.2.2.2.2.1 (by decide)) ea2 (hd 22 1151 _ _ rfl) (k_pc 1152 rfl ?_)
    refine k_callC C (M := q442_M) (rf_metV_of (q442_met hG)) 1 (by decide +kernel) (by decide +kernel) (wlkV (lkL_170 hG) _ rfl rfl) (j := 114) (by decide +kernel) ⟨Nat.le_of_ble_eq_true rfl, Nat.le_of_ble_eq_true rfl⟩ (hd 23 1152 _ _ rfl) [.int a1, .int a2] (rest := [.int x1]) (by rfl) ⟨⟨114, by decide, rfl⟩, ⟨_, rfl, hcon (by omega), trivial⟩, ⟨_, rfl, hcon (by omega), trivial⟩, trivial⟩ (Nat.le_of_ble_eq_true rfl) hw1 (fr_pre hfr hf1 (by decide +kernel)) trivial (fun x2 ws2 hw2 hf2 e2 => k_pc 1155 rfl ?_)
    exact k_ceq c (hd 24 1155 _ _ rfl) (tgt := 1413) (by decide) (Int32.toInt_inj.mp (e1.trans e2.symm)) (KK _)
def ddL38 : List (Nat × Instr × Nat) := [(1160, .aload_n 1, 1), (1161, .aload_n 0, 1), (1162, .iload_n 3, 1), (1163, .iconst 1, 1), (1164, .iadd, 1), (1165, .iaload, 1), (1166, .invokevirtual 171, 3), (1169, .aload_n 2, 1), (1170, .aload_n 0, 1), (1171, .iload_n 3, 1), (1172, .iconst 1, 1), (1173, .iadd, 1), (1174, .iaload, 1), (1175, .invokevirtual 174, 3), (1178, .if_icmp .eq 235, 3), (1181, .iconst 0, 1), (1182, .ireturn, 1)]
set_option maxRecDepth 100000 in
theorem dkL38 : rf_decs code ddL38 := rf_decs_of (by decide +kernel)
set_option maxHeartbeats 16000000 in
set_option maxRecDepth 100000 in
theorem lw_case38 {X : rfX} {G : rfG} {b Ln : Nat} {sc : Nat → Int32} {n sl : Nat} (C : lwC X G b Ln sc n sl) {i : Int32} (h0 : 0 ≤ i.toInt) (h1 : i.toInt + 5 < (Ln : Int)) (KK : ∀ ws', kW X n sl 1413 [(3, .int i), (2, .ref (G.2.1.1 114)), (1, .ref (G.2.1.1 70)), (0, .ref b)] [] ws') {ws : va_W} (hw : rf_world G.2.1.1 G.2.1.2.1 G.2.1.2.2.1 G.2.1.2.2.2 ws) (hfr : frOK (hv ws)) : kW X n sl 1160 [(3, .int i), (2, .ref (G.2.1.1 114)), (1, .ref (G.2.1.1 70)), (0, .ref b)] [] ws := by
  have hG := C.1
  have c := C.2.2.1
  have hd : ∀ n pc i len, ddL38[n]? = some (pc, i, len) → decode code pc = .ok (i, len) := fun n pc i len h => hdk dkL38 n pc i len h
  obtain ⟨a1, ea1⟩ : ∃ a, sc (i + 1).toNatClampNeg = a := ⟨_, rfl⟩
  have r1 : -2147483648 ≤ a1.toInt ∧ a1.toInt ≤ 2147483647 := ⟨(rf_in_top a1).1, (rf_in_top a1).2.1⟩
  refine k_al c (hd 0 1160 _ _ rfl) (by rfl) (k_pc 1161 rfl ?_)
  refine k_al c (hd 1 1161 _ _ rfl) (by rfl) (k_pc 1162 rfl ?_)
  refine k_il c (hd 2 1162 _ _ rfl) (by rfl) (k_pc 1163 rfl ?_)
  refine k_ic c (hd 3 1163 _ _ rfl) (v := 1) (by decide) (k_pc 1164 rfl ?_)
  refine k_addE c (hd 4 1164 _ _ rfl) (k_pc 1165 rfl ?_)
  refine k_sldE C (lw_in h0 h1 C.2.2.2.2.1 (by decide)) ea1 (hd 5 1165 _ _ rfl) (k_pc 1166 rfl ?_)
  refine k_callC C (M := q443_M) (rf_metV_of (q443_met hG)) (-2) (by decide +kernel) (by decide +kernel) (wlkV (lkL_171 hG) _ rfl rfl) (j := 70) (by decide +kernel) ⟨Nat.le_of_ble_eq_true rfl, Nat.le_of_ble_eq_true rfl⟩ (hd 6 1166 _ _ rfl) [.int a1] (rest := []) (by rfl) ⟨⟨70, by decide, rfl⟩, ⟨_, rfl, rf_in_top _, trivial⟩, trivial⟩ (Nat.le_of_ble_eq_true rfl) hw (fr_pre hfr (hframe_rf [] _) (by decide +kernel)) trivial (fun x1 ws1 hw1 hf1 e1 => k_pc 1169 rfl ?_)
  refine k_al c (hd 7 1169 _ _ rfl) (by rfl) (k_pc 1170 rfl ?_)
  refine k_al c (hd 8 1170 _ _ rfl) (by rfl) (k_pc 1171 rfl ?_)
  refine k_il c (hd 9 1171 _ _ rfl) (by rfl) (k_pc 1172 rfl ?_)
  refine k_ic c (hd 10 1172 _ _ rfl) (v := 1) (by decide) (k_pc 1173 rfl ?_)
  refine k_addE c (hd 11 1173 _ _ rfl) (k_pc 1174 rfl ?_)
  refine k_sldE C (lw_in h0 h1 C.2.2.2.2.1 (by decide)) ea1 (hd 12 1174 _ _ rfl) (k_pc 1175 rfl ?_)
  refine k_callC C (M := q444_M) (rf_metV_of (q444_met hG)) (-2) (by decide +kernel) (by decide +kernel) (wlkV (lkL_174 hG) _ rfl rfl) (j := 114) (by decide +kernel) ⟨Nat.le_of_ble_eq_true rfl, Nat.le_of_ble_eq_true rfl⟩ (hd 13 1175 _ _ rfl) [.int a1] (rest := [.int x1]) (by rfl) ⟨⟨114, by decide, rfl⟩, ⟨_, rfl, rf_in_top _, trivial⟩, trivial⟩ (Nat.le_of_ble_eq_true rfl) hw1 (fr_pre hfr hf1 (by decide +kernel)) trivial (fun x2 ws2 hw2 hf2 e2 => k_pc 1178 rfl ?_)
  exact k_ceq c (hd 14 1178 _ _ rfl) (tgt := 1413) (by decide) (Int32.toInt_inj.mp (e1.trans e2.symm)) (KK _)
def ddL39 : List (Nat × Instr × Nat) := [(1183, .aload_n 1, 1), (1184, .aload_n 0, 1), (1185, .iload_n 3, 1), (1186, .iconst 1, 1), (1187, .iadd, 1), (1188, .iaload, 1), (1189, .aload_n 0, 1), (1190, .iload_n 3, 1), (1191, .iconst 2, 1), (1192, .iadd, 1), (1193, .iaload, 1), (1194, .aload_n 0, 1), (1195, .iload_n 3, 1), (1196, .iconst 3, 1), (1197, .iadd, 1), (1198, .iaload, 1), (1199, .ifCond .eq 7, 3), (1202, .iconst 1, 1), (1203, .goto 4, 3), (1206, .iconst 0, 1), (1207, .invokevirtual 175, 3), (1210, .aload_n 2, 1), (1211, .aload_n 0, 1), (1212, .iload_n 3, 1), (1213, .iconst 1, 1), (1214, .iadd, 1), (1215, .iaload, 1), (1216, .aload_n 0, 1), (1217, .iload_n 3, 1), (1218, .iconst 2, 1), (1219, .iadd, 1), (1220, .iaload, 1), (1221, .aload_n 0, 1), (1222, .iload_n 3, 1), (1223, .iconst 3, 1), (1224, .iadd, 1), (1225, .iaload, 1), (1226, .ifCond .eq 7, 3), (1229, .iconst 1, 1), (1230, .goto 4, 3), (1233, .iconst 0, 1), (1234, .invokevirtual 179, 3), (1237, .if_icmp .eq 176, 3), (1240, .iconst 0, 1), (1241, .ireturn, 1)]
set_option maxRecDepth 100000 in
theorem dkL39 : rf_decs code ddL39 := rf_decs_of (by decide +kernel)
set_option maxHeartbeats 16000000 in
set_option maxRecDepth 100000 in
theorem lw_case39 {X : rfX} {G : rfG} {b Ln : Nat} {sc : Nat → Int32} {n sl : Nat} (C : lwC X G b Ln sc n sl) {i : Int32} (h0 : 0 ≤ i.toInt) (h1 : i.toInt + 5 < (Ln : Int)) (KK : ∀ ws', kW X n sl 1413 [(3, .int i), (2, .ref (G.2.1.1 114)), (1, .ref (G.2.1.1 70)), (0, .ref b)] [] ws') {ws : va_W} (hw : rf_world G.2.1.1 G.2.1.2.1 G.2.1.2.2.1 G.2.1.2.2.2 ws) (hfr : frOK (hv ws)) : kW X n sl 1183 [(3, .int i), (2, .ref (G.2.1.1 114)), (1, .ref (G.2.1.1 70)), (0, .ref b)] [] ws := by
  have hG := C.1
  have c := C.2.2.1
  have hd : ∀ n pc i len, ddL39[n]? = some (pc, i, len) → decode code pc = .ok (i, len) := fun n pc i len h => hdk dkL39 n pc i len h
  obtain ⟨a1, ea1⟩ : ∃ a, sc (i + 1).toNatClampNeg = a := ⟨_, rfl⟩
  have r1 : -2147483648 ≤ a1.toInt ∧ a1.toInt ≤ 2147483647 := ⟨(rf_in_top a1).1, (rf_in_top a1).2.1⟩
  obtain ⟨a2, ea2⟩ : ∃ a, sc (i + 2).toNatClampNeg = a := ⟨_, rfl⟩
  have r2 : -2147483648 ≤ a2.toInt ∧ a2.toInt ≤ 2147483647 := ⟨(rf_in_top a2).1, (rf_in_top a2).2.1⟩
  obtain ⟨a3, ea3⟩ : ∃ a, sc (i + 3).toNatClampNeg = a := ⟨_, rfl⟩
  have r3 : -2147483648 ≤ a3.toInt ∧ a3.toInt ≤ 2147483647 := ⟨(rf_in_top a3).1, (rf_in_top a3).2.1⟩
  refine k_al c (hd 0 1183 _ _ rfl) (by rfl) (k_pc 1184 rfl ?_)
  refine k_al c (hd 1 1184 _ _ rfl) (by rfl) (k_pc 1185 rfl ?_)
  refine k_il c (hd 2 1185 _ _ rfl) (by rfl) (k_pc 1186 rfl ?_)
  refine k_ic c (hd 3 1186 _ _ rfl) (v := 1) (by decide) (k_pc 1187 rfl ?_)
  refine k_addE c (hd 4 1187 _ _ rfl) (k_pc 1188 rfl ?_)
  refine k_sldE C (lw_in h0 h1 C.2.2.2.2.1 (by decide)) ea1 (hd 5 1188 _ _ rfl) (k_pc 1189 rfl ?_)
  refine k_al c (hd 6 1189 _ _ rfl) (by rfl) (k_pc 1190 rfl ?_)
  refine k_il c (hd 7 1190 _ _ rfl) (by rfl) (k_pc 1191 rfl ?_)
  refine k_ic c (hd 8 1191 _ _ rfl) (v := 2) (by decide) (k_pc 1192 rfl ?_)
  refine k_addE c (hd 9 1192 _ _ rfl) (k_pc 1193 rfl ?_)
  refine k_sldE C (lw_in h0 h1 C.2.2.2.2.1 (by decide)) ea2 (hd 10 1193 _ _ rfl) (k_pc 1194 rfl ?_)
  refine k_al c (hd 11 1194 _ _ rfl) (by rfl) (k_pc 1195 rfl ?_)
  refine k_il c (hd 12 1195 _ _ rfl) (by rfl) (k_pc 1196 rfl ?_)
  refine k_ic c (hd 13 1196 _ _ rfl) (v := 3) (by decide) (k_pc 1197 rfl ?_)
  refine k_addE c (hd 14 1197 _ _ rfl) (k_pc 1198 rfl ?_)
  refine k_sldE C (lw_in h0 h1 C.2.2.2.2.1 (by decide)) ea3 (hd 15 1198 _ _ rfl) (k_pc 1199 rfl ?_)
  refine k_ifeq c (hd 16 1199 _ _ rfl) (tgt := 1206) (by decide) ?_ (k_pc 1202 rfl ?_)
  · skip
    refine k_ic c (hd 19 1206 _ _ rfl) (v := 0) (by decide) (k_pc 1207 rfl ?_)
    refine k_callC C (M := q447_M) (rf_metV_of (q447_met hG)) (-1) (by decide +kernel) (by decide +kernel) (wlkV (lkL_175 hG) _ rfl rfl) (j := 70) (by decide +kernel) ⟨Nat.le_of_ble_eq_true rfl, Nat.le_of_ble_eq_true rfl⟩ (hd 20 1207 _ _ rfl) [.int a1, .int a2, .int 0] (rest := []) (by rfl) ⟨⟨70, by decide, rfl⟩, ⟨_, rfl, rf_in_top _, trivial⟩, ⟨_, rfl, rf_in_top _, trivial⟩, ⟨_, rfl, rf_in1 (by decide) (by decide), trivial⟩, trivial⟩ (Nat.le_of_ble_eq_true rfl) hw (fr_pre hfr (hframe_rf [] _) (by decide +kernel)) trivial (fun x1 ws1 hw1 hf1 e1 => k_pc 1210 rfl ?_)
    refine k_al c (hd 21 1210 _ _ rfl) (by rfl) (k_pc 1211 rfl ?_)
    refine k_al c (hd 22 1211 _ _ rfl) (by rfl) (k_pc 1212 rfl ?_)
    refine k_il c (hd 23 1212 _ _ rfl) (by rfl) (k_pc 1213 rfl ?_)
    refine k_ic c (hd 24 1213 _ _ rfl) (v := 1) (by decide) (k_pc 1214 rfl ?_)
    refine k_addE c (hd 25 1214 _ _ rfl) (k_pc 1215 rfl ?_)
    refine k_sldE C (lw_in h0 h1 C.2.2.2.2.1 (by decide)) ea1 (hd 26 1215 _ _ rfl) (k_pc 1216 rfl ?_)
    refine k_al c (hd 27 1216 _ _ rfl) (by rfl) (k_pc 1217 rfl ?_)
    refine k_il c (hd 28 1217 _ _ rfl) (by rfl) (k_pc 1218 rfl ?_)
    refine k_ic c (hd 29 1218 _ _ rfl) (v := 2) (by decide) (k_pc 1219 rfl ?_)
    refine k_addE c (hd 30 1219 _ _ rfl) (k_pc 1220 rfl ?_)
    refine k_sldE C (lw_in h0 h1 C.2.2.2.2.1 (by decide)) ea2 (hd 31 1220 _ _ rfl) (k_pc 1221 rfl ?_)
    refine k_al c (hd 32 1221 _ _ rfl) (by rfl) (k_pc 1222 rfl ?_)
    refine k_il c (hd 33 1222 _ _ rfl) (by rfl) (k_pc 1223 rfl ?_)
    refine k_ic c (hd 34 1223 _ _ rfl) (v := 3) (by decide) (k_pc 1224 rfl ?_)
    refine k_addE c (hd 35 1224 _ _ rfl) (k_pc 1225 rfl ?_)
    refine k_sldE C (lw_in h0 h1 C.2.2.2.2.1 (by decide)) ea3 (hd 36 1225 _ _ rfl) (k_pc 1226 rfl ?_)
    refine k_ifeq c (hd 37 1226 _ _ rfl) (tgt := 1233) (by decide) ?_ (k_pc 1229 rfl ?_)
    · skip
      refine k_ic c (hd 40 1233 _ _ rfl) (v := 0) (by decide) (k_pc 1234 rfl ?_)
      refine k_callC C (M := q449_M) (rf_metV_of (q449_met hG)) (-1) (by decide +kernel) (by decide +kernel) (wlkV (lkL_179 hG) _ rfl rfl) (j := 114) (by decide +kernel) ⟨Nat.le_of_ble_eq_true rfl, Nat.le_of_ble_eq_true rfl⟩ (hd 41 1234 _ _ rfl) [.int a1, .int a2, .int 0] (rest := [.int x1]) (by rfl) ⟨⟨114, by decide, rfl⟩, ⟨_, rfl, rf_in_top _, trivial⟩, ⟨_, rfl, rf_in_top _, trivial⟩, ⟨_, rfl, rf_in1 (by decide) (by decide), trivial⟩, trivial⟩ (Nat.le_of_ble_eq_true rfl) hw1 (fr_pre hfr hf1 (by decide +kernel)) trivial (fun x2 ws2 hw2 hf2 e2 => k_pc 1237 rfl ?_)
      exact k_ceq c (hd 42 1237 _ _ rfl) (tgt := 1413) (by decide) (Int32.toInt_inj.mp (e1.trans e2.symm)) (KK _)
    · skip
      refine k_ic c (hd 38 1229 _ _ rfl) (v := 1) (by decide) (k_pc 1230 rfl ?_)
      refine k_goto c (hd 39 1230 _ _ rfl) (tgt := 1234) (by decide) ?_
      refine k_callC C (M := q449_M) (rf_metV_of (q449_met hG)) (-1) (by decide +kernel) (by decide +kernel) (wlkV (lkL_179 hG) _ rfl rfl) (j := 114) (by decide +kernel) ⟨Nat.le_of_ble_eq_true rfl, Nat.le_of_ble_eq_true rfl⟩ (hd 41 1234 _ _ rfl) [.int a1, .int a2, .int 1] (rest := [.int x1]) (by rfl) ⟨⟨114, by decide, rfl⟩, ⟨_, rfl, rf_in_top _, trivial⟩, ⟨_, rfl, rf_in_top _, trivial⟩, ⟨_, rfl, rf_in1 (by decide) (by decide), trivial⟩, trivial⟩ (Nat.le_of_ble_eq_true rfl) hw1 (fr_pre hfr hf1 (by decide +kernel)) trivial (fun x2 ws2 hw2 hf2 e2 => k_pc 1237 rfl ?_)
      exact k_ceq c (hd 42 1237 _ _ rfl) (tgt := 1413) (by decide) (Int32.toInt_inj.mp (e1.trans e2.symm)) (KK _)
  · skip
    refine k_ic c (hd 17 1202 _ _ rfl) (v := 1) (by decide) (k_pc 1203 rfl ?_)
    refine k_goto c (hd 18 1203 _ _ rfl) (tgt := 1207) (by decide) ?_
    refine k_callC C (M := q447_M) (rf_metV_of (q447_met hG)) (-1) (by decide +kernel) (by decide +kernel) (wlkV (lkL_175 hG) _ rfl rfl) (j := 70) (by decide +kernel) ⟨Nat.le_of_ble_eq_true rfl, Nat.le_of_ble_eq_true rfl⟩ (hd 20 1207 _ _ rfl) [.int a1, .int a2, .int 1] (rest := []) (by rfl) ⟨⟨70, by decide, rfl⟩, ⟨_, rfl, rf_in_top _, trivial⟩, ⟨_, rfl, rf_in_top _, trivial⟩, ⟨_, rfl, rf_in1 (by decide) (by decide), trivial⟩, trivial⟩ (Nat.le_of_ble_eq_true rfl) hw (fr_pre hfr (hframe_rf [] _) (by decide +kernel)) trivial (fun x1 ws1 hw1 hf1 e1 => k_pc 1210 rfl ?_)
    refine k_al c (hd 21 1210 _ _ rfl) (by rfl) (k_pc 1211 rfl ?_)
    refine k_al c (hd 22 1211 _ _ rfl) (by rfl) (k_pc 1212 rfl ?_)
    refine k_il c (hd 23 1212 _ _ rfl) (by rfl) (k_pc 1213 rfl ?_)
    refine k_ic c (hd 24 1213 _ _ rfl) (v := 1) (by decide) (k_pc 1214 rfl ?_)
    refine k_addE c (hd 25 1214 _ _ rfl) (k_pc 1215 rfl ?_)
    refine k_sldE C (lw_in h0 h1 C.2.2.2.2.1 (by decide)) ea1 (hd 26 1215 _ _ rfl) (k_pc 1216 rfl ?_)
    refine k_al c (hd 27 1216 _ _ rfl) (by rfl) (k_pc 1217 rfl ?_)
    refine k_il c (hd 28 1217 _ _ rfl) (by rfl) (k_pc 1218 rfl ?_)
    refine k_ic c (hd 29 1218 _ _ rfl) (v := 2) (by decide) (k_pc 1219 rfl ?_)
    refine k_addE c (hd 30 1219 _ _ rfl) (k_pc 1220 rfl ?_)
    refine k_sldE C (lw_in h0 h1 C.2.2.2.2.1 (by decide)) ea2 (hd 31 1220 _ _ rfl) (k_pc 1221 rfl ?_)
    refine k_al c (hd 32 1221 _ _ rfl) (by rfl) (k_pc 1222 rfl ?_)
    refine k_il c (hd 33 1222 _ _ rfl) (by rfl) (k_pc 1223 rfl ?_)
    refine k_ic c (hd 34 1223 _ _ rfl) (v := 3) (by decide) (k_pc 1224 rfl ?_)
    refine k_addE c (hd 35 1224 _ _ rfl) (k_pc 1225 rfl ?_)
    refine k_sldE C (lw_in h0 h1 C.2.2.2.2.1 (by decide)) ea3 (hd 36 1225 _ _ rfl) (k_pc 1226 rfl ?_)
    refine k_ifeq c (hd 37 1226 _ _ rfl) (tgt := 1233) (by decide) ?_ (k_pc 1229 rfl ?_)
    · skip
      refine k_ic c (hd 40 1233 _ _ rfl) (v := 0) (by decide) (k_pc 1234 rfl ?_)
      refine k_callC C (M := q449_M) (rf_metV_of (q449_met hG)) (-1) (by decide +kernel) (by decide +kernel) (wlkV (lkL_179 hG) _ rfl rfl) (j := 114) (by decide +kernel) ⟨Nat.le_of_ble_eq_true rfl, Nat.le_of_ble_eq_true rfl⟩ (hd 41 1234 _ _ rfl) [.int a1, .int a2, .int 0] (rest := [.int x1]) (by rfl) ⟨⟨114, by decide, rfl⟩, ⟨_, rfl, rf_in_top _, trivial⟩, ⟨_, rfl, rf_in_top _, trivial⟩, ⟨_, rfl, rf_in1 (by decide) (by decide), trivial⟩, trivial⟩ (Nat.le_of_ble_eq_true rfl) hw1 (fr_pre hfr hf1 (by decide +kernel)) trivial (fun x2 ws2 hw2 hf2 e2 => k_pc 1237 rfl ?_)
      exact k_ceq c (hd 42 1237 _ _ rfl) (tgt := 1413) (by decide) (Int32.toInt_inj.mp (e1.trans e2.symm)) (KK _)
    · skip
      refine k_ic c (hd 38 1229 _ _ rfl) (v := 1) (by decide) (k_pc 1230 rfl ?_)
      refine k_goto c (hd 39 1230 _ _ rfl) (tgt := 1234) (by decide) ?_
      refine k_callC C (M := q449_M) (rf_metV_of (q449_met hG)) (-1) (by decide +kernel) (by decide +kernel) (wlkV (lkL_179 hG) _ rfl rfl) (j := 114) (by decide +kernel) ⟨Nat.le_of_ble_eq_true rfl, Nat.le_of_ble_eq_true rfl⟩ (hd 41 1234 _ _ rfl) [.int a1, .int a2, .int 1] (rest := [.int x1]) (by rfl) ⟨⟨114, by decide, rfl⟩, ⟨_, rfl, rf_in_top _, trivial⟩, ⟨_, rfl, rf_in_top _, trivial⟩, ⟨_, rfl, rf_in1 (by decide) (by decide), trivial⟩, trivial⟩ (Nat.le_of_ble_eq_true rfl) hw1 (fr_pre hfr hf1 (by decide +kernel)) trivial (fun x2 ws2 hw2 hf2 e2 => k_pc 1237 rfl ?_)
      exact k_ceq c (hd 42 1237 _ _ rfl) (tgt := 1413) (by decide) (Int32.toInt_inj.mp (e1.trans e2.symm)) (KK _)
def ddL40 : List (Nat × Instr × Nat) := [(1242, .aload_n 1, 1), (1243, .aload_n 0, 1), (1244, .iload_n 3, 1), (1245, .iconst 1, 1), (1246, .iadd, 1), (1247, .iaload, 1), (1248, .invokevirtual 180, 3), (1251, .aload_n 2, 1), (1252, .aload_n 0, 1), (1253, .iload_n 3, 1), (1254, .iconst 1, 1), (1255, .iadd, 1), (1256, .iaload, 1), (1257, .invokevirtual 184, 3), (1260, .if_icmp .eq 153, 3), (1263, .iconst 0, 1), (1264, .ireturn, 1)]
set_option maxRecDepth 100000 in
theorem dkL40 : rf_decs code ddL40 := rf_decs_of (by decide +kernel)
set_option maxHeartbeats 16000000 in
set_option maxRecDepth 100000 in
theorem lw_case40 {X : rfX} {G : rfG} {b Ln : Nat} {sc : Nat → Int32} {n sl : Nat} (C : lwC X G b Ln sc n sl) {i : Int32} (h0 : 0 ≤ i.toInt) (h1 : i.toInt + 5 < (Ln : Int)) (KK : ∀ ws', kW X n sl 1413 [(3, .int i), (2, .ref (G.2.1.1 114)), (1, .ref (G.2.1.1 70)), (0, .ref b)] [] ws') {ws : va_W} (hw : rf_world G.2.1.1 G.2.1.2.1 G.2.1.2.2.1 G.2.1.2.2.2 ws) (hfr : frOK (hv ws)) : kW X n sl 1242 [(3, .int i), (2, .ref (G.2.1.1 114)), (1, .ref (G.2.1.1 70)), (0, .ref b)] [] ws := by
  have hG := C.1
  have c := C.2.2.1
  have hd : ∀ n pc i len, ddL40[n]? = some (pc, i, len) → decode code pc = .ok (i, len) := fun n pc i len h => hdk dkL40 n pc i len h
  obtain ⟨a1, ea1⟩ : ∃ a, sc (i + 1).toNatClampNeg = a := ⟨_, rfl⟩
  have r1 : -2147483648 ≤ a1.toInt ∧ a1.toInt ≤ 2147483647 := ⟨(rf_in_top a1).1, (rf_in_top a1).2.1⟩
  refine k_al c (hd 0 1242 _ _ rfl) (by rfl) (k_pc 1243 rfl ?_)
  refine k_al c (hd 1 1243 _ _ rfl) (by rfl) (k_pc 1244 rfl ?_)
  refine k_il c (hd 2 1244 _ _ rfl) (by rfl) (k_pc 1245 rfl ?_)
  refine k_ic c (hd 3 1245 _ _ rfl) (v := 1) (by decide) (k_pc 1246 rfl ?_)
  refine k_addE c (hd 4 1246 _ _ rfl) (k_pc 1247 rfl ?_)
  refine k_sldE C (lw_in h0 h1 C.2.2.2.2.1 (by decide)) ea1 (hd 5 1247 _ _ rfl) (k_pc 1248 rfl ?_)
  refine k_callC C (M := q451_M) (rf_metV_of (q451_met hG)) 0 (by decide +kernel) (by decide +kernel) (wlkV (lkL_180 hG) _ rfl rfl) (j := 70) (by decide +kernel) ⟨Nat.le_of_ble_eq_true rfl, Nat.le_of_ble_eq_true rfl⟩ (hd 6 1248 _ _ rfl) [.int a1] (rest := []) (by rfl) ⟨⟨70, by decide, rfl⟩, ⟨_, rfl, rf_in_top _, trivial⟩, trivial⟩ (Nat.le_of_ble_eq_true rfl) hw (fr_pre hfr (hframe_rf [] _) (by decide +kernel)) trivial (fun x1 ws1 hw1 hf1 e1 => k_pc 1251 rfl ?_)
  refine k_al c (hd 7 1251 _ _ rfl) (by rfl) (k_pc 1252 rfl ?_)
  refine k_al c (hd 8 1252 _ _ rfl) (by rfl) (k_pc 1253 rfl ?_)
  refine k_il c (hd 9 1253 _ _ rfl) (by rfl) (k_pc 1254 rfl ?_)
  refine k_ic c (hd 10 1254 _ _ rfl) (v := 1) (by decide) (k_pc 1255 rfl ?_)
  refine k_addE c (hd 11 1255 _ _ rfl) (k_pc 1256 rfl ?_)
  refine k_sldE C (lw_in h0 h1 C.2.2.2.2.1 (by decide)) ea1 (hd 12 1256 _ _ rfl) (k_pc 1257 rfl ?_)
  refine k_callC C (M := q452_M) (rf_metV_of (q452_met hG)) 0 (by decide +kernel) (by decide +kernel) (wlkV (lkL_184 hG) _ rfl rfl) (j := 114) (by decide +kernel) ⟨Nat.le_of_ble_eq_true rfl, Nat.le_of_ble_eq_true rfl⟩ (hd 13 1257 _ _ rfl) [.int a1] (rest := [.int x1]) (by rfl) ⟨⟨114, by decide, rfl⟩, ⟨_, rfl, rf_in_top _, trivial⟩, trivial⟩ (Nat.le_of_ble_eq_true rfl) hw1 (fr_pre hfr hf1 (by decide +kernel)) trivial (fun x2 ws2 hw2 hf2 e2 => k_pc 1260 rfl ?_)
  exact k_ceq c (hd 14 1260 _ _ rfl) (tgt := 1413) (by decide) (Int32.toInt_inj.mp (e1.trans e2.symm)) (KK _)
def ddL41 : List (Nat × Instr × Nat) := [(1265, .aload_n 1, 1), (1266, .aload_n 0, 1), (1267, .iload_n 3, 1), (1268, .iconst 1, 1), (1269, .iadd, 1), (1270, .iaload, 1), (1271, .invokevirtual 185, 3), (1274, .aload_n 2, 1), (1275, .aload_n 0, 1), (1276, .iload_n 3, 1), (1277, .iconst 1, 1), (1278, .iadd, 1), (1279, .iaload, 1), (1280, .invokevirtual 188, 3), (1283, .if_icmp .eq 130, 3), (1286, .iconst 0, 1), (1287, .ireturn, 1)]
set_option maxRecDepth 100000 in
theorem dkL41 : rf_decs code ddL41 := rf_decs_of (by decide +kernel)
set_option maxHeartbeats 16000000 in
set_option maxRecDepth 100000 in
theorem lw_case41 {X : rfX} {G : rfG} {b Ln : Nat} {sc : Nat → Int32} {n sl : Nat} (C : lwC X G b Ln sc n sl) {i : Int32} (h0 : 0 ≤ i.toInt) (h1 : i.toInt + 5 < (Ln : Int)) (KK : ∀ ws', kW X n sl 1413 [(3, .int i), (2, .ref (G.2.1.1 114)), (1, .ref (G.2.1.1 70)), (0, .ref b)] [] ws') {ws : va_W} (hw : rf_world G.2.1.1 G.2.1.2.1 G.2.1.2.2.1 G.2.1.2.2.2 ws) (hfr : frOK (hv ws)) : kW X n sl 1265 [(3, .int i), (2, .ref (G.2.1.1 114)), (1, .ref (G.2.1.1 70)), (0, .ref b)] [] ws := by
  have hG := C.1
  have c := C.2.2.1
  have hd : ∀ n pc i len, ddL41[n]? = some (pc, i, len) → decode code pc = .ok (i, len) := fun n pc i len h => hdk dkL41 n pc i len h
  obtain ⟨a1, ea1⟩ : ∃ a, sc (i + 1).toNatClampNeg = a := ⟨_, rfl⟩
  have r1 : -2147483648 ≤ a1.toInt ∧ a1.toInt ≤ 2147483647 := ⟨(rf_in_top a1).1, (rf_in_top a1).2.1⟩
  refine k_al c (hd 0 1265 _ _ rfl) (by rfl) (k_pc 1266 rfl ?_)
  refine k_al c (hd 1 1266 _ _ rfl) (by rfl) (k_pc 1267 rfl ?_)
  refine k_il c (hd 2 1267 _ _ rfl) (by rfl) (k_pc 1268 rfl ?_)
  refine k_ic c (hd 3 1268 _ _ rfl) (v := 1) (by decide) (k_pc 1269 rfl ?_)
  refine k_addE c (hd 4 1269 _ _ rfl) (k_pc 1270 rfl ?_)
  refine k_sldE C (lw_in h0 h1 C.2.2.2.2.1 (by decide)) ea1 (hd 5 1270 _ _ rfl) (k_pc 1271 rfl ?_)
  refine k_callH C (M := gM_nlater) (gp_nlater hG) (wlkV (lkL_185 hG) _ rfl rfl) (j := 70) (by decide +kernel) ⟨Nat.le_of_ble_eq_true rfl, Nat.le_of_ble_eq_true rfl⟩ (hd 6 1271 _ _ rfl) [.int a1] (rest := []) (by rfl) ⟨⟨70, by decide, rfl⟩, ⟨_, rfl, rf_in_top _, trivial⟩, trivial⟩ (Nat.le_of_ble_eq_true rfl) hw (fr_at hfr 101 rfl) (fun rv1 ws1 hw1 hf1 hp1 => k_pc 1274 rfl ?_)
  obtain ⟨b1_, y1, eb1_, er1_, hy1⟩ := hp1
  cases eb1_; subst er1_
  refine k_al c (hd 7 1274 _ _ rfl) (by rfl) (k_pc 1275 rfl ?_)
  refine k_al c (hd 8 1275 _ _ rfl) (by rfl) (k_pc 1276 rfl ?_)
  refine k_il c (hd 9 1276 _ _ rfl) (by rfl) (k_pc 1277 rfl ?_)
  refine k_ic c (hd 10 1277 _ _ rfl) (v := 1) (by decide) (k_pc 1278 rfl ?_)
  refine k_addE c (hd 11 1278 _ _ rfl) (k_pc 1279 rfl ?_)
  refine k_sldE C (lw_in h0 h1 C.2.2.2.2.1 (by decide)) ea1 (hd 12 1279 _ _ rfl) (k_pc 1280 rfl ?_)
  refine k_callH C (M := gM_later) (gp_later hG) (wlkV (lkL_188 hG) _ rfl rfl) (j := 114) (by decide +kernel) ⟨Nat.le_of_ble_eq_true rfl, Nat.le_of_ble_eq_true rfl⟩ (hd 13 1280 _ _ rfl) [.int a1] (rest := [.int y1]) (by rfl) ⟨⟨114, by decide, rfl⟩, ⟨_, rfl, rf_in_top _, trivial⟩, trivial⟩ (Nat.le_of_ble_eq_true rfl) hw1 ((congrArg Int32.toInt (hf1 114 64 (by decide) (by rfl))).trans (fr_at hfr 140 rfl)) (fun rv2 ws2 hw2 hf2 hp2 => k_pc 1283 rfl ?_)
  obtain ⟨b2_, y2, eb2_, er2_, hy2⟩ := hp2
  cases eb2_; subst er2_
  have exy : y1 = y2 := Int32.toInt_inj.mp (by
    rcases hy1 with ⟨p1, p2, p3⟩ | ⟨p1, p3⟩
    · rcases hy2 with ⟨q1, q2, q3⟩ | ⟨q1, q3⟩
      · rw [p3, q3]
      · exact absurd ⟨p1, p2⟩ q1
    · rcases hy2 with ⟨q1, q2, q3⟩ | ⟨q1, q3⟩
      · exact absurd ⟨q1, q2⟩ p1
      · rw [p3, q3])
  exact k_ceq c (hd 14 1283 _ _ rfl) (tgt := 1413) (by decide) exy (KK _)
def ddL42 : List (Nat × Instr × Nat) := [(1288, .aload_n 1, 1), (1289, .aload_n 0, 1), (1290, .iload_n 3, 1), (1291, .iconst 1, 1), (1292, .iadd, 1), (1293, .iaload, 1), (1294, .invokevirtual 189, 3), (1297, .aload_n 2, 1), (1298, .aload_n 0, 1), (1299, .iload_n 3, 1), (1300, .iconst 1, 1), (1301, .iadd, 1), (1302, .iaload, 1), (1303, .invokevirtual 192, 3), (1306, .if_icmp .eq 107, 3), (1309, .iconst 0, 1), (1310, .ireturn, 1)]
set_option maxRecDepth 100000 in
theorem dkL42 : rf_decs code ddL42 := rf_decs_of (by decide +kernel)
set_option maxHeartbeats 16000000 in
set_option maxRecDepth 100000 in
theorem lw_case42 {X : rfX} {G : rfG} {b Ln : Nat} {sc : Nat → Int32} {n sl : Nat} (C : lwC X G b Ln sc n sl) {i : Int32} (h0 : 0 ≤ i.toInt) (h1 : i.toInt + 5 < (Ln : Int)) (KK : ∀ ws', kW X n sl 1413 [(3, .int i), (2, .ref (G.2.1.1 114)), (1, .ref (G.2.1.1 70)), (0, .ref b)] [] ws') {ws : va_W} (hw : rf_world G.2.1.1 G.2.1.2.1 G.2.1.2.2.1 G.2.1.2.2.2 ws) (hfr : frOK (hv ws)) : kW X n sl 1288 [(3, .int i), (2, .ref (G.2.1.1 114)), (1, .ref (G.2.1.1 70)), (0, .ref b)] [] ws := by
  have hG := C.1
  have c := C.2.2.1
  have hd : ∀ n pc i len, ddL42[n]? = some (pc, i, len) → decode code pc = .ok (i, len) := fun n pc i len h => hdk dkL42 n pc i len h
  obtain ⟨a1, ea1⟩ : ∃ a, sc (i + 1).toNatClampNeg = a := ⟨_, rfl⟩
  have r1 : -2147483648 ≤ a1.toInt ∧ a1.toInt ≤ 2147483647 := ⟨(rf_in_top a1).1, (rf_in_top a1).2.1⟩
  refine k_al c (hd 0 1288 _ _ rfl) (by rfl) (k_pc 1289 rfl ?_)
  refine k_al c (hd 1 1289 _ _ rfl) (by rfl) (k_pc 1290 rfl ?_)
  refine k_il c (hd 2 1290 _ _ rfl) (by rfl) (k_pc 1291 rfl ?_)
  refine k_ic c (hd 3 1291 _ _ rfl) (v := 1) (by decide) (k_pc 1292 rfl ?_)
  refine k_addE c (hd 4 1292 _ _ rfl) (k_pc 1293 rfl ?_)
  refine k_sldE C (lw_in h0 h1 C.2.2.2.2.1 (by decide)) ea1 (hd 5 1293 _ _ rfl) (k_pc 1294 rfl ?_)
  refine k_callC C (M := q454_M) (rf_metV_of (q454_met hG)) 0 (by decide +kernel) (by decide +kernel) (wlkV (lkL_189 hG) _ rfl rfl) (j := 70) (by decide +kernel) ⟨Nat.le_of_ble_eq_true rfl, Nat.le_of_ble_eq_true rfl⟩ (hd 6 1294 _ _ rfl) [.int a1] (rest := []) (by rfl) ⟨⟨70, by decide, rfl⟩, ⟨_, rfl, rf_in_top _, trivial⟩, trivial⟩ (Nat.le_of_ble_eq_true rfl) hw (fr_pre hfr (hframe_rf [] _) (by decide +kernel)) trivial (fun x1 ws1 hw1 hf1 e1 => k_pc 1297 rfl ?_)
  refine k_al c (hd 7 1297 _ _ rfl) (by rfl) (k_pc 1298 rfl ?_)
  refine k_al c (hd 8 1298 _ _ rfl) (by rfl) (k_pc 1299 rfl ?_)
  refine k_il c (hd 9 1299 _ _ rfl) (by rfl) (k_pc 1300 rfl ?_)
  refine k_ic c (hd 10 1300 _ _ rfl) (v := 1) (by decide) (k_pc 1301 rfl ?_)
  refine k_addE c (hd 11 1301 _ _ rfl) (k_pc 1302 rfl ?_)
  refine k_sldE C (lw_in h0 h1 C.2.2.2.2.1 (by decide)) ea1 (hd 12 1302 _ _ rfl) (k_pc 1303 rfl ?_)
  refine k_callC C (M := q455_M) (rf_metV_of (q455_met hG)) 0 (by decide +kernel) (by decide +kernel) (wlkV (lkL_192 hG) _ rfl rfl) (j := 114) (by decide +kernel) ⟨Nat.le_of_ble_eq_true rfl, Nat.le_of_ble_eq_true rfl⟩ (hd 13 1303 _ _ rfl) [.int a1] (rest := [.int x1]) (by rfl) ⟨⟨114, by decide, rfl⟩, ⟨_, rfl, rf_in_top _, trivial⟩, trivial⟩ (Nat.le_of_ble_eq_true rfl) hw1 (fr_pre hfr hf1 (by decide +kernel)) trivial (fun x2 ws2 hw2 hf2 e2 => k_pc 1306 rfl ?_)
  exact k_ceq c (hd 14 1306 _ _ rfl) (tgt := 1413) (by decide) (Int32.toInt_inj.mp (e1.trans e2.symm)) (KK _)
def ddL43 : List (Nat × Instr × Nat) := [(1311, .aload_n 1, 1), (1312, .aload_n 0, 1), (1313, .iload_n 3, 1), (1314, .iconst 1, 1), (1315, .iadd, 1), (1316, .iaload, 1), (1317, .aload_n 0, 1), (1318, .iload_n 3, 1), (1319, .iconst 2, 1), (1320, .iadd, 1), (1321, .iaload, 1), (1322, .invokevirtual 193, 3), (1325, .aload_n 2, 1), (1326, .aload_n 0, 1), (1327, .iload_n 3, 1), (1328, .iconst 1, 1), (1329, .iadd, 1), (1330, .iaload, 1), (1331, .aload_n 0, 1), (1332, .iload_n 3, 1), (1333, .iconst 2, 1), (1334, .iadd, 1), (1335, .iaload, 1), (1336, .invokevirtual 196, 3), (1339, .if_icmp .eq 74, 3), (1342, .iconst 0, 1), (1343, .ireturn, 1)]
set_option maxRecDepth 100000 in
theorem dkL43 : rf_decs code ddL43 := rf_decs_of (by decide +kernel)
set_option maxHeartbeats 16000000 in
set_option maxRecDepth 100000 in
theorem lw_case43 {X : rfX} {G : rfG} {b Ln : Nat} {sc : Nat → Int32} {n sl : Nat} (C : lwC X G b Ln sc n sl) {i : Int32} (h0 : 0 ≤ i.toInt) (h1 : i.toInt + 5 < (Ln : Int)) (KK : ∀ ws', kW X n sl 1413 [(3, .int i), (2, .ref (G.2.1.1 114)), (1, .ref (G.2.1.1 70)), (0, .ref b)] [] ws') {ws : va_W} (hw : rf_world G.2.1.1 G.2.1.2.1 G.2.1.2.2.1 G.2.1.2.2.2 ws) (hfr : frOK (hv ws)) : kW X n sl 1311 [(3, .int i), (2, .ref (G.2.1.1 114)), (1, .ref (G.2.1.1 70)), (0, .ref b)] [] ws := by
  have hG := C.1
  have c := C.2.2.1
  have hd : ∀ n pc i len, ddL43[n]? = some (pc, i, len) → decode code pc = .ok (i, len) := fun n pc i len h => hdk dkL43 n pc i len h
  obtain ⟨a1, ea1⟩ : ∃ a, sc (i + 1).toNatClampNeg = a := ⟨_, rfl⟩
  have r1 : -2147483648 ≤ a1.toInt ∧ a1.toInt ≤ 2147483647 := ⟨(rf_in_top a1).1, (rf_in_top a1).2.1⟩
  obtain ⟨a2, ea2⟩ : ∃ a, sc (i + 2).toNatClampNeg = a := ⟨_, rfl⟩
  have r2 : -2147483648 ≤ a2.toInt ∧ a2.toInt ≤ 2147483647 := ⟨(rf_in_top a2).1, (rf_in_top a2).2.1⟩
  refine k_al c (hd 0 1311 _ _ rfl) (by rfl) (k_pc 1312 rfl ?_)
  refine k_al c (hd 1 1312 _ _ rfl) (by rfl) (k_pc 1313 rfl ?_)
  refine k_il c (hd 2 1313 _ _ rfl) (by rfl) (k_pc 1314 rfl ?_)
  refine k_ic c (hd 3 1314 _ _ rfl) (v := 1) (by decide) (k_pc 1315 rfl ?_)
  refine k_addE c (hd 4 1315 _ _ rfl) (k_pc 1316 rfl ?_)
  refine k_sldE C (lw_in h0 h1 C.2.2.2.2.1 (by decide)) ea1 (hd 5 1316 _ _ rfl) (k_pc 1317 rfl ?_)
  refine k_al c (hd 6 1317 _ _ rfl) (by rfl) (k_pc 1318 rfl ?_)
  refine k_il c (hd 7 1318 _ _ rfl) (by rfl) (k_pc 1319 rfl ?_)
  refine k_ic c (hd 8 1319 _ _ rfl) (v := 2) (by decide) (k_pc 1320 rfl ?_)
  refine k_addE c (hd 9 1320 _ _ rfl) (k_pc 1321 rfl ?_)
  refine k_sldE C (lw_in h0 h1 C.2.2.2.2.1 (by decide)) ea2 (hd 10 1321 _ _ rfl) (k_pc 1322 rfl ?_)
  refine k_callC C (M := q457_M) (rf_metV_of (q457_met hG)) (-1) (by decide +kernel) (by decide +kernel) (wlkV (lkL_193 hG) _ rfl rfl) (j := 70) (by decide +kernel) ⟨Nat.le_of_ble_eq_true rfl, Nat.le_of_ble_eq_true rfl⟩ (hd 11 1322 _ _ rfl) [.int a1, .int a2] (rest := []) (by rfl) ⟨⟨70, by decide, rfl⟩, ⟨_, rfl, rf_in_top _, trivial⟩, ⟨_, rfl, rf_in_top _, trivial⟩, trivial⟩ (Nat.le_of_ble_eq_true rfl) hw (fr_pre hfr (hframe_rf [] _) (by decide +kernel)) trivial (fun x1 ws1 hw1 hf1 e1 => k_pc 1325 rfl ?_)
  refine k_al c (hd 12 1325 _ _ rfl) (by rfl) (k_pc 1326 rfl ?_)
  refine k_al c (hd 13 1326 _ _ rfl) (by rfl) (k_pc 1327 rfl ?_)
  refine k_il c (hd 14 1327 _ _ rfl) (by rfl) (k_pc 1328 rfl ?_)
  refine k_ic c (hd 15 1328 _ _ rfl) (v := 1) (by decide) (k_pc 1329 rfl ?_)
  refine k_addE c (hd 16 1329 _ _ rfl) (k_pc 1330 rfl ?_)
  refine k_sldE C (lw_in h0 h1 C.2.2.2.2.1 (by decide)) ea1 (hd 17 1330 _ _ rfl) (k_pc 1331 rfl ?_)
  refine k_al c (hd 18 1331 _ _ rfl) (by rfl) (k_pc 1332 rfl ?_)
  refine k_il c (hd 19 1332 _ _ rfl) (by rfl) (k_pc 1333 rfl ?_)
  refine k_ic c (hd 20 1333 _ _ rfl) (v := 2) (by decide) (k_pc 1334 rfl ?_)
  refine k_addE c (hd 21 1334 _ _ rfl) (k_pc 1335 rfl ?_)
  refine k_sldE C (lw_in h0 h1 C.2.2.2.2.1 (by decide)) ea2 (hd 22 1335 _ _ rfl) (k_pc 1336 rfl ?_)
  refine k_callC C (M := q459_M) (rf_metV_of (q459_met hG)) (-1) (by decide +kernel) (by decide +kernel) (wlkV (lkL_196 hG) _ rfl rfl) (j := 114) (by decide +kernel) ⟨Nat.le_of_ble_eq_true rfl, Nat.le_of_ble_eq_true rfl⟩ (hd 23 1336 _ _ rfl) [.int a1, .int a2] (rest := [.int x1]) (by rfl) ⟨⟨114, by decide, rfl⟩, ⟨_, rfl, rf_in_top _, trivial⟩, ⟨_, rfl, rf_in_top _, trivial⟩, trivial⟩ (Nat.le_of_ble_eq_true rfl) hw1 (fr_pre hfr hf1 (by decide +kernel)) trivial (fun x2 ws2 hw2 hf2 e2 => k_pc 1339 rfl ?_)
  exact k_ceq c (hd 24 1339 _ _ rfl) (tgt := 1413) (by decide) (Int32.toInt_inj.mp (e1.trans e2.symm)) (KK _)
def ddL44 : List (Nat × Instr × Nat) := [(1344, .aload_n 1, 1), (1345, .aload_n 0, 1), (1346, .iload_n 3, 1), (1347, .iconst 1, 1), (1348, .iadd, 1), (1349, .iaload, 1), (1350, .invokevirtual 197, 3), (1353, .aload_n 2, 1), (1354, .aload_n 0, 1), (1355, .iload_n 3, 1), (1356, .iconst 1, 1), (1357, .iadd, 1), (1358, .iaload, 1), (1359, .invokevirtual 200, 3), (1362, .if_icmp .eq 51, 3), (1365, .iconst 0, 1), (1366, .ireturn, 1)]
set_option maxRecDepth 100000 in
theorem dkL44 : rf_decs code ddL44 := rf_decs_of (by decide +kernel)
set_option maxHeartbeats 16000000 in
set_option maxRecDepth 100000 in
theorem lw_case44 {X : rfX} {G : rfG} {b Ln : Nat} {sc : Nat → Int32} {n sl : Nat} (C : lwC X G b Ln sc n sl) {i : Int32} (h0 : 0 ≤ i.toInt) (h1 : i.toInt + 5 < (Ln : Int)) (KK : ∀ ws', kW X n sl 1413 [(3, .int i), (2, .ref (G.2.1.1 114)), (1, .ref (G.2.1.1 70)), (0, .ref b)] [] ws') {ws : va_W} (hw : rf_world G.2.1.1 G.2.1.2.1 G.2.1.2.2.1 G.2.1.2.2.2 ws) (hfr : frOK (hv ws)) : kW X n sl 1344 [(3, .int i), (2, .ref (G.2.1.1 114)), (1, .ref (G.2.1.1 70)), (0, .ref b)] [] ws := by
  have hG := C.1
  have c := C.2.2.1
  have hd : ∀ n pc i len, ddL44[n]? = some (pc, i, len) → decode code pc = .ok (i, len) := fun n pc i len h => hdk dkL44 n pc i len h
  obtain ⟨a1, ea1⟩ : ∃ a, sc (i + 1).toNatClampNeg = a := ⟨_, rfl⟩
  have r1 : -2147483648 ≤ a1.toInt ∧ a1.toInt ≤ 2147483647 := ⟨(rf_in_top a1).1, (rf_in_top a1).2.1⟩
  have hc_ : (a1.toInt ≤ (-1)) ∨ (a1.toInt = 0) ∨ (a1.toInt = 1) ∨ (a1.toInt = 2) ∨ (3 ≤ a1.toInt) := by omega
  rcases hc_ with hc_ | hc_ | hc_ | hc_ | hc_
  · skip
    refine k_al c (hd 0 1344 _ _ rfl) (by rfl) (k_pc 1345 rfl ?_)
    refine k_al c (hd 1 1345 _ _ rfl) (by rfl) (k_pc 1346 rfl ?_)
    refine k_il c (hd 2 1346 _ _ rfl) (by rfl) (k_pc 1347 rfl ?_)
    refine k_ic c (hd 3 1347 _ _ rfl) (v := 1) (by decide) (k_pc 1348 rfl ?_)
    refine k_addE c (hd 4 1348 _ _ rfl) (k_pc 1349 rfl ?_)
    refine k_sldE C (lw_in h0 h1 C.2.2.2.2.1 (by decide)) ea1 (hd 5 1349 _ _ rfl) (k_pc 1350 rfl ?_)
    refine k_callC C (M := q460_M) (rf_metV_of (q460_met hG)) (-1) (by decide +kernel) (by decide +kernel) (wlkV (lkL_197 hG) _ rfl rfl) (j := 70) (by decide +kernel) ⟨Nat.le_of_ble_eq_true rfl, Nat.le_of_ble_eq_true rfl⟩ (hd 6 1350 _ _ rfl) [.int a1] (rest := []) (by rfl) ⟨⟨70, by decide, rfl⟩, ⟨_, rfl, rf_in1 (by omega) (by omega), trivial⟩, trivial⟩ (Nat.le_of_ble_eq_true rfl) hw (fr_pre hfr (hframe_rf [] _) (by decide +kernel)) trivial (fun x1 ws1 hw1 hf1 e1 => k_pc 1353 rfl ?_)
    refine k_al c (hd 7 1353 _ _ rfl) (by rfl) (k_pc 1354 rfl ?_)
    refine k_al c (hd 8 1354 _ _ rfl) (by rfl) (k_pc 1355 rfl ?_)
    refine k_il c (hd 9 1355 _ _ rfl) (by rfl) (k_pc 1356 rfl ?_)
    refine k_ic c (hd 10 1356 _ _ rfl) (v := 1) (by decide) (k_pc 1357 rfl ?_)
    refine k_addE c (hd 11 1357 _ _ rfl) (k_pc 1358 rfl ?_)
    refine k_sldE C (lw_in h0 h1 C.2.2.2.2.1 (by decide)) ea1 (hd 12 1358 _ _ rfl) (k_pc 1359 rfl ?_)
    refine k_callC C (M := q461_M) (rf_metV_of (q461_met hG)) (-1) (by decide +kernel) (by decide +kernel) (wlkV (lkL_200 hG) _ rfl rfl) (j := 114) (by decide +kernel) ⟨Nat.le_of_ble_eq_true rfl, Nat.le_of_ble_eq_true rfl⟩ (hd 13 1359 _ _ rfl) [.int a1] (rest := [.int x1]) (by rfl) ⟨⟨114, by decide, rfl⟩, ⟨_, rfl, rf_in1 (by omega) (by omega), trivial⟩, trivial⟩ (Nat.le_of_ble_eq_true rfl) hw1 (fr_pre hfr hf1 (by decide +kernel)) trivial (fun x2 ws2 hw2 hf2 e2 => k_pc 1362 rfl ?_)
    exact k_ceq c (hd 14 1362 _ _ rfl) (tgt := 1413) (by decide) (Int32.toInt_inj.mp (e1.trans e2.symm)) (KK _)
  · skip
    refine k_al c (hd 0 1344 _ _ rfl) (by rfl) (k_pc 1345 rfl ?_)
    refine k_al c (hd 1 1345 _ _ rfl) (by rfl) (k_pc 1346 rfl ?_)
    refine k_il c (hd 2 1346 _ _ rfl) (by rfl) (k_pc 1347 rfl ?_)
    refine k_ic c (hd 3 1347 _ _ rfl) (v := 1) (by decide) (k_pc 1348 rfl ?_)
    refine k_addE c (hd 4 1348 _ _ rfl) (k_pc 1349 rfl ?_)
    refine k_sldE C (lw_in h0 h1 C.2.2.2.2.1 (by decide)) ea1 (hd 5 1349 _ _ rfl) (k_pc 1350 rfl ?_)
    refine k_callC C (M := q463_M) (rf_metV_of (q463_met hG)) 0 (by decide +kernel) (by decide +kernel) (wlkV (lkL_197 hG) _ rfl rfl) (j := 70) (by decide +kernel) ⟨Nat.le_of_ble_eq_true rfl, Nat.le_of_ble_eq_true rfl⟩ (hd 6 1350 _ _ rfl) [.int a1] (rest := []) (by rfl) ⟨⟨70, by decide, rfl⟩, ⟨_, rfl, hcon (by omega), trivial⟩, trivial⟩ (Nat.le_of_ble_eq_true rfl) hw (fr_pre hfr (hframe_rf [] _) (by decide +kernel)) trivial (fun x1 ws1 hw1 hf1 e1 => k_pc 1353 rfl ?_)
    refine k_al c (hd 7 1353 _ _ rfl) (by rfl) (k_pc 1354 rfl ?_)
    refine k_al c (hd 8 1354 _ _ rfl) (by rfl) (k_pc 1355 rfl ?_)
    refine k_il c (hd 9 1355 _ _ rfl) (by rfl) (k_pc 1356 rfl ?_)
    refine k_ic c (hd 10 1356 _ _ rfl) (v := 1) (by decide) (k_pc 1357 rfl ?_)
    refine k_addE c (hd 11 1357 _ _ rfl) (k_pc 1358 rfl ?_)
    refine k_sldE C (lw_in h0 h1 C.2.2.2.2.1 (by decide)) ea1 (hd 12 1358 _ _ rfl) (k_pc 1359 rfl ?_)
    refine k_callC C (M := q464_M) (rf_metV_of (q464_met hG)) 0 (by decide +kernel) (by decide +kernel) (wlkV (lkL_200 hG) _ rfl rfl) (j := 114) (by decide +kernel) ⟨Nat.le_of_ble_eq_true rfl, Nat.le_of_ble_eq_true rfl⟩ (hd 13 1359 _ _ rfl) [.int a1] (rest := [.int x1]) (by rfl) ⟨⟨114, by decide, rfl⟩, ⟨_, rfl, hcon (by omega), trivial⟩, trivial⟩ (Nat.le_of_ble_eq_true rfl) hw1 (fr_pre hfr hf1 (by decide +kernel)) trivial (fun x2 ws2 hw2 hf2 e2 => k_pc 1362 rfl ?_)
    exact k_ceq c (hd 14 1362 _ _ rfl) (tgt := 1413) (by decide) (Int32.toInt_inj.mp (e1.trans e2.symm)) (KK _)
  · skip
    refine k_al c (hd 0 1344 _ _ rfl) (by rfl) (k_pc 1345 rfl ?_)
    refine k_al c (hd 1 1345 _ _ rfl) (by rfl) (k_pc 1346 rfl ?_)
    refine k_il c (hd 2 1346 _ _ rfl) (by rfl) (k_pc 1347 rfl ?_)
    refine k_ic c (hd 3 1347 _ _ rfl) (v := 1) (by decide) (k_pc 1348 rfl ?_)
    refine k_addE c (hd 4 1348 _ _ rfl) (k_pc 1349 rfl ?_)
    refine k_sldE C (lw_in h0 h1 C.2.2.2.2.1 (by decide)) ea1 (hd 5 1349 _ _ rfl) (k_pc 1350 rfl ?_)
    refine k_callC C (M := q466_M) (rf_metV_of (q466_met hG)) 0 (by decide +kernel) (by decide +kernel) (wlkV (lkL_197 hG) _ rfl rfl) (j := 70) (by decide +kernel) ⟨Nat.le_of_ble_eq_true rfl, Nat.le_of_ble_eq_true rfl⟩ (hd 6 1350 _ _ rfl) [.int a1] (rest := []) (by rfl) ⟨⟨70, by decide, rfl⟩, ⟨_, rfl, hcon (by omega), trivial⟩, trivial⟩ (Nat.le_of_ble_eq_true rfl) hw (fr_pre hfr (hframe_rf [] _) (by decide +kernel)) trivial (fun x1 ws1 hw1 hf1 e1 => k_pc 1353 rfl ?_)
    refine k_al c (hd 7 1353 _ _ rfl) (by rfl) (k_pc 1354 rfl ?_)
    refine k_al c (hd 8 1354 _ _ rfl) (by rfl) (k_pc 1355 rfl ?_)
    refine k_il c (hd 9 1355 _ _ rfl) (by rfl) (k_pc 1356 rfl ?_)
    refine k_ic c (hd 10 1356 _ _ rfl) (v := 1) (by decide) (k_pc 1357 rfl ?_)
    refine k_addE c (hd 11 1357 _ _ rfl) (k_pc 1358 rfl ?_)
    refine k_sldE C (lw_in h0 h1 C.2.2.2.2.1 (by decide)) ea1 (hd 12 1358 _ _ rfl) (k_pc 1359 rfl ?_)
    refine k_callC C (M := q467_M) (rf_metV_of (q467_met hG)) 0 (by decide +kernel) (by decide +kernel) (wlkV (lkL_200 hG) _ rfl rfl) (j := 114) (by decide +kernel) ⟨Nat.le_of_ble_eq_true rfl, Nat.le_of_ble_eq_true rfl⟩ (hd 13 1359 _ _ rfl) [.int a1] (rest := [.int x1]) (by rfl) ⟨⟨114, by decide, rfl⟩, ⟨_, rfl, hcon (by omega), trivial⟩, trivial⟩ (Nat.le_of_ble_eq_true rfl) hw1 (fr_pre hfr hf1 (by decide +kernel)) trivial (fun x2 ws2 hw2 hf2 e2 => k_pc 1362 rfl ?_)
    exact k_ceq c (hd 14 1362 _ _ rfl) (tgt := 1413) (by decide) (Int32.toInt_inj.mp (e1.trans e2.symm)) (KK _)
  · skip
    refine k_al c (hd 0 1344 _ _ rfl) (by rfl) (k_pc 1345 rfl ?_)
    refine k_al c (hd 1 1345 _ _ rfl) (by rfl) (k_pc 1346 rfl ?_)
    refine k_il c (hd 2 1346 _ _ rfl) (by rfl) (k_pc 1347 rfl ?_)
    refine k_ic c (hd 3 1347 _ _ rfl) (v := 1) (by decide) (k_pc 1348 rfl ?_)
    refine k_addE c (hd 4 1348 _ _ rfl) (k_pc 1349 rfl ?_)
    refine k_sldE C (lw_in h0 h1 C.2.2.2.2.1 (by decide)) ea1 (hd 5 1349 _ _ rfl) (k_pc 1350 rfl ?_)
    refine k_callC C (M := q469_M) (rf_metV_of (q469_met hG)) 0 (by decide +kernel) (by decide +kernel) (wlkV (lkL_197 hG) _ rfl rfl) (j := 70) (by decide +kernel) ⟨Nat.le_of_ble_eq_true rfl, Nat.le_of_ble_eq_true rfl⟩ (hd 6 1350 _ _ rfl) [.int a1] (rest := []) (by rfl) ⟨⟨70, by decide, rfl⟩, ⟨_, rfl, hcon (by omega), trivial⟩, trivial⟩ (Nat.le_of_ble_eq_true rfl) hw (fr_pre hfr (hframe_rf [] _) (by decide +kernel)) trivial (fun x1 ws1 hw1 hf1 e1 => k_pc 1353 rfl ?_)
    refine k_al c (hd 7 1353 _ _ rfl) (by rfl) (k_pc 1354 rfl ?_)
    refine k_al c (hd 8 1354 _ _ rfl) (by rfl) (k_pc 1355 rfl ?_)
    refine k_il c (hd 9 1355 _ _ rfl) (by rfl) (k_pc 1356 rfl ?_)
    refine k_ic c (hd 10 1356 _ _ rfl) (v := 1) (by decide) (k_pc 1357 rfl ?_)
    refine k_addE c (hd 11 1357 _ _ rfl) (k_pc 1358 rfl ?_)
    refine k_sldE C (lw_in h0 h1 C.2.2.2.2.1 (by decide)) ea1 (hd 12 1358 _ _ rfl) (k_pc 1359 rfl ?_)
    refine k_callC C (M := q470_M) (rf_metV_of (q470_met hG)) 0 (by decide +kernel) (by decide +kernel) (wlkV (lkL_200 hG) _ rfl rfl) (j := 114) (by decide +kernel) ⟨Nat.le_of_ble_eq_true rfl, Nat.le_of_ble_eq_true rfl⟩ (hd 13 1359 _ _ rfl) [.int a1] (rest := [.int x1]) (by rfl) ⟨⟨114, by decide, rfl⟩, ⟨_, rfl, hcon (by omega), trivial⟩, trivial⟩ (Nat.le_of_ble_eq_true rfl) hw1 (fr_pre hfr hf1 (by decide +kernel)) trivial (fun x2 ws2 hw2 hf2 e2 => k_pc 1362 rfl ?_)
    exact k_ceq c (hd 14 1362 _ _ rfl) (tgt := 1413) (by decide) (Int32.toInt_inj.mp (e1.trans e2.symm)) (KK _)
  · skip
    refine k_al c (hd 0 1344 _ _ rfl) (by rfl) (k_pc 1345 rfl ?_)
    refine k_al c (hd 1 1345 _ _ rfl) (by rfl) (k_pc 1346 rfl ?_)
    refine k_il c (hd 2 1346 _ _ rfl) (by rfl) (k_pc 1347 rfl ?_)
    refine k_ic c (hd 3 1347 _ _ rfl) (v := 1) (by decide) (k_pc 1348 rfl ?_)
    refine k_addE c (hd 4 1348 _ _ rfl) (k_pc 1349 rfl ?_)
    refine k_sldE C (lw_in h0 h1 C.2.2.2.2.1 (by decide)) ea1 (hd 5 1349 _ _ rfl) (k_pc 1350 rfl ?_)
    refine k_callC C (M := q471_M) (rf_metV_of (q471_met hG)) (-1) (by decide +kernel) (by decide +kernel) (wlkV (lkL_197 hG) _ rfl rfl) (j := 70) (by decide +kernel) ⟨Nat.le_of_ble_eq_true rfl, Nat.le_of_ble_eq_true rfl⟩ (hd 6 1350 _ _ rfl) [.int a1] (rest := []) (by rfl) ⟨⟨70, by decide, rfl⟩, ⟨_, rfl, rf_in1 (by omega) (by omega), trivial⟩, trivial⟩ (Nat.le_of_ble_eq_true rfl) hw (fr_pre hfr (hframe_rf [] _) (by decide +kernel)) trivial (fun x1 ws1 hw1 hf1 e1 => k_pc 1353 rfl ?_)
    refine k_al c (hd 7 1353 _ _ rfl) (by rfl) (k_pc 1354 rfl ?_)
    refine k_al c (hd 8 1354 _ _ rfl) (by rfl) (k_pc 1355 rfl ?_)
    refine k_il c (hd 9 1355 _ _ rfl) (by rfl) (k_pc 1356 rfl ?_)
    refine k_ic c (hd 10 1356 _ _ rfl) (v := 1) (by decide) (k_pc 1357 rfl ?_)
    refine k_addE c (hd 11 1357 _ _ rfl) (k_pc 1358 rfl ?_)
    refine k_sldE C (lw_in h0 h1 C.2.2.2.2.1 (by decide)) ea1 (hd 12 1358 _ _ rfl) (k_pc 1359 rfl ?_)
    refine k_callC C (M := q472_M) (rf_metV_of (q472_met hG)) (-1) (by decide +kernel) (by decide +kernel) (wlkV (lkL_200 hG) _ rfl rfl) (j := 114) (by decide +kernel) ⟨Nat.le_of_ble_eq_true rfl, Nat.le_of_ble_eq_true rfl⟩ (hd 13 1359 _ _ rfl) [.int a1] (rest := [.int x1]) (by rfl) ⟨⟨114, by decide, rfl⟩, ⟨_, rfl, rf_in1 (by omega) (by omega), trivial⟩, trivial⟩ (Nat.le_of_ble_eq_true rfl) hw1 (fr_pre hfr hf1 (by decide +kernel)) trivial (fun x2 ws2 hw2 hf2 e2 => k_pc 1362 rfl ?_)
    exact k_ceq c (hd 14 1362 _ _ rfl) (tgt := 1413) (by decide) (Int32.toInt_inj.mp (e1.trans e2.symm)) (KK _)
def ddL45 : List (Nat × Instr × Nat) := [(1367, .aload_n 1, 1), (1368, .aload_n 0, 1), (1369, .iload_n 3, 1), (1370, .iconst 1, 1), (1371, .iadd, 1), (1372, .iaload, 1), (1373, .invokevirtual 201, 3), (1376, .aload_n 2, 1), (1377, .aload_n 0, 1), (1378, .iload_n 3, 1), (1379, .iconst 1, 1), (1380, .iadd, 1), (1381, .iaload, 1), (1382, .invokevirtual 204, 3), (1385, .if_icmp .eq 28, 3), (1388, .iconst 0, 1), (1389, .ireturn, 1)]
set_option maxRecDepth 100000 in
theorem dkL45 : rf_decs code ddL45 := rf_decs_of (by decide +kernel)
set_option maxHeartbeats 16000000 in
set_option maxRecDepth 100000 in
theorem lw_case45 {X : rfX} {G : rfG} {b Ln : Nat} {sc : Nat → Int32} {n sl : Nat} (C : lwC X G b Ln sc n sl) {i : Int32} (h0 : 0 ≤ i.toInt) (h1 : i.toInt + 5 < (Ln : Int)) (KK : ∀ ws', kW X n sl 1413 [(3, .int i), (2, .ref (G.2.1.1 114)), (1, .ref (G.2.1.1 70)), (0, .ref b)] [] ws') {ws : va_W} (hw : rf_world G.2.1.1 G.2.1.2.1 G.2.1.2.2.1 G.2.1.2.2.2 ws) (hfr : frOK (hv ws)) : kW X n sl 1367 [(3, .int i), (2, .ref (G.2.1.1 114)), (1, .ref (G.2.1.1 70)), (0, .ref b)] [] ws := by
  have hG := C.1
  have c := C.2.2.1
  have hd : ∀ n pc i len, ddL45[n]? = some (pc, i, len) → decode code pc = .ok (i, len) := fun n pc i len h => hdk dkL45 n pc i len h
  obtain ⟨a1, ea1⟩ : ∃ a, sc (i + 1).toNatClampNeg = a := ⟨_, rfl⟩
  have r1 : -2147483648 ≤ a1.toInt ∧ a1.toInt ≤ 2147483647 := ⟨(rf_in_top a1).1, (rf_in_top a1).2.1⟩
  have hc_ : (a1.toInt ≤ (-1)) ∨ (a1.toInt = 0) ∨ (a1.toInt = 1) ∨ (a1.toInt = 2) ∨ (3 ≤ a1.toInt) := by omega
  rcases hc_ with hc_ | hc_ | hc_ | hc_ | hc_
  · skip
    refine k_al c (hd 0 1367 _ _ rfl) (by rfl) (k_pc 1368 rfl ?_)
    refine k_al c (hd 1 1368 _ _ rfl) (by rfl) (k_pc 1369 rfl ?_)
    refine k_il c (hd 2 1369 _ _ rfl) (by rfl) (k_pc 1370 rfl ?_)
    refine k_ic c (hd 3 1370 _ _ rfl) (v := 1) (by decide) (k_pc 1371 rfl ?_)
    refine k_addE c (hd 4 1371 _ _ rfl) (k_pc 1372 rfl ?_)
    refine k_sldE C (lw_in h0 h1 C.2.2.2.2.1 (by decide)) ea1 (hd 5 1372 _ _ rfl) (k_pc 1373 rfl ?_)
    refine k_callC C (M := q474_M) (rf_metV_of (q474_met hG)) (-1) (by decide +kernel) (by decide +kernel) (wlkV (lkL_201 hG) _ rfl rfl) (j := 70) (by decide +kernel) ⟨Nat.le_of_ble_eq_true rfl, Nat.le_of_ble_eq_true rfl⟩ (hd 6 1373 _ _ rfl) [.int a1] (rest := []) (by rfl) ⟨⟨70, by decide, rfl⟩, ⟨_, rfl, rf_in1 (by omega) (by omega), trivial⟩, trivial⟩ (Nat.le_of_ble_eq_true rfl) hw (fr_pre hfr (hframe_rf [] _) (by decide +kernel)) trivial (fun x1 ws1 hw1 hf1 e1 => k_pc 1376 rfl ?_)
    refine k_al c (hd 7 1376 _ _ rfl) (by rfl) (k_pc 1377 rfl ?_)
    refine k_al c (hd 8 1377 _ _ rfl) (by rfl) (k_pc 1378 rfl ?_)
    refine k_il c (hd 9 1378 _ _ rfl) (by rfl) (k_pc 1379 rfl ?_)
    refine k_ic c (hd 10 1379 _ _ rfl) (v := 1) (by decide) (k_pc 1380 rfl ?_)
    refine k_addE c (hd 11 1380 _ _ rfl) (k_pc 1381 rfl ?_)
    refine k_sldE C (lw_in h0 h1 C.2.2.2.2.1 (by decide)) ea1 (hd 12 1381 _ _ rfl) (k_pc 1382 rfl ?_)
    refine k_callC C (M := q475_M) (rf_metV_of (q475_met hG)) (-1) (by decide +kernel) (by decide +kernel) (wlkV (lkL_204 hG) _ rfl rfl) (j := 114) (by decide +kernel) ⟨Nat.le_of_ble_eq_true rfl, Nat.le_of_ble_eq_true rfl⟩ (hd 13 1382 _ _ rfl) [.int a1] (rest := [.int x1]) (by rfl) ⟨⟨114, by decide, rfl⟩, ⟨_, rfl, rf_in1 (by omega) (by omega), trivial⟩, trivial⟩ (Nat.le_of_ble_eq_true rfl) hw1 (fr_pre hfr hf1 (by decide +kernel)) trivial (fun x2 ws2 hw2 hf2 e2 => k_pc 1385 rfl ?_)
    exact k_ceq c (hd 14 1385 _ _ rfl) (tgt := 1413) (by decide) (Int32.toInt_inj.mp (e1.trans e2.symm)) (KK _)
  · skip
    refine k_al c (hd 0 1367 _ _ rfl) (by rfl) (k_pc 1368 rfl ?_)
    refine k_al c (hd 1 1368 _ _ rfl) (by rfl) (k_pc 1369 rfl ?_)
    refine k_il c (hd 2 1369 _ _ rfl) (by rfl) (k_pc 1370 rfl ?_)
    refine k_ic c (hd 3 1370 _ _ rfl) (v := 1) (by decide) (k_pc 1371 rfl ?_)
    refine k_addE c (hd 4 1371 _ _ rfl) (k_pc 1372 rfl ?_)
    refine k_sldE C (lw_in h0 h1 C.2.2.2.2.1 (by decide)) ea1 (hd 5 1372 _ _ rfl) (k_pc 1373 rfl ?_)
    refine k_callC C (M := q477_M) (rf_metV_of (q477_met hG)) (-1) (by decide +kernel) (by decide +kernel) (wlkV (lkL_201 hG) _ rfl rfl) (j := 70) (by decide +kernel) ⟨Nat.le_of_ble_eq_true rfl, Nat.le_of_ble_eq_true rfl⟩ (hd 6 1373 _ _ rfl) [.int a1] (rest := []) (by rfl) ⟨⟨70, by decide, rfl⟩, ⟨_, rfl, hcon (by omega), trivial⟩, trivial⟩ (Nat.le_of_ble_eq_true rfl) hw (fr_pre hfr (hframe_rf [] _) (by decide +kernel)) trivial (fun x1 ws1 hw1 hf1 e1 => k_pc 1376 rfl ?_)
    refine k_al c (hd 7 1376 _ _ rfl) (by rfl) (k_pc 1377 rfl ?_)
    refine k_al c (hd 8 1377 _ _ rfl) (by rfl) (k_pc 1378 rfl ?_)
    refine k_il c (hd 9 1378 _ _ rfl) (by rfl) (k_pc 1379 rfl ?_)
    refine k_ic c (hd 10 1379 _ _ rfl) (v := 1) (by decide) (k_pc 1380 rfl ?_)
    refine k_addE c (hd 11 1380 _ _ rfl) (k_pc 1381 rfl ?_)
    refine k_sldE C (lw_in h0 h1 C.2.2.2.2.1 (by decide)) ea1 (hd 12 1381 _ _ rfl) (k_pc 1382 rfl ?_)
    refine k_callC C (M := q478_M) (rf_metV_of (q478_met hG)) (-1) (by decide +kernel) (by decide +kernel) (wlkV (lkL_204 hG) _ rfl rfl) (j := 114) (by decide +kernel) ⟨Nat.le_of_ble_eq_true rfl, Nat.le_of_ble_eq_true rfl⟩ (hd 13 1382 _ _ rfl) [.int a1] (rest := [.int x1]) (by rfl) ⟨⟨114, by decide, rfl⟩, ⟨_, rfl, hcon (by omega), trivial⟩, trivial⟩ (Nat.le_of_ble_eq_true rfl) hw1 (fr_pre hfr hf1 (by decide +kernel)) trivial (fun x2 ws2 hw2 hf2 e2 => k_pc 1385 rfl ?_)
    exact k_ceq c (hd 14 1385 _ _ rfl) (tgt := 1413) (by decide) (Int32.toInt_inj.mp (e1.trans e2.symm)) (KK _)
  · skip
    refine k_al c (hd 0 1367 _ _ rfl) (by rfl) (k_pc 1368 rfl ?_)
    refine k_al c (hd 1 1368 _ _ rfl) (by rfl) (k_pc 1369 rfl ?_)
    refine k_il c (hd 2 1369 _ _ rfl) (by rfl) (k_pc 1370 rfl ?_)
    refine k_ic c (hd 3 1370 _ _ rfl) (v := 1) (by decide) (k_pc 1371 rfl ?_)
    refine k_addE c (hd 4 1371 _ _ rfl) (k_pc 1372 rfl ?_)
    refine k_sldE C (lw_in h0 h1 C.2.2.2.2.1 (by decide)) ea1 (hd 5 1372 _ _ rfl) (k_pc 1373 rfl ?_)
    refine k_callC C (M := q480_M) (rf_metV_of (q480_met hG)) (-1) (by decide +kernel) (by decide +kernel) (wlkV (lkL_201 hG) _ rfl rfl) (j := 70) (by decide +kernel) ⟨Nat.le_of_ble_eq_true rfl, Nat.le_of_ble_eq_true rfl⟩ (hd 6 1373 _ _ rfl) [.int a1] (rest := []) (by rfl) ⟨⟨70, by decide, rfl⟩, ⟨_, rfl, hcon (by omega), trivial⟩, trivial⟩ (Nat.le_of_ble_eq_true rfl) hw (fr_pre hfr (hframe_rf [] _) (by decide +kernel)) trivial (fun x1 ws1 hw1 hf1 e1 => k_pc 1376 rfl ?_)
    refine k_al c (hd 7 1376 _ _ rfl) (by rfl) (k_pc 1377 rfl ?_)
    refine k_al c (hd 8 1377 _ _ rfl) (by rfl) (k_pc 1378 rfl ?_)
    refine k_il c (hd 9 1378 _ _ rfl) (by rfl) (k_pc 1379 rfl ?_)
    refine k_ic c (hd 10 1379 _ _ rfl) (v := 1) (by decide) (k_pc 1380 rfl ?_)
    refine k_addE c (hd 11 1380 _ _ rfl) (k_pc 1381 rfl ?_)
    refine k_sldE C (lw_in h0 h1 C.2.2.2.2.1 (by decide)) ea1 (hd 12 1381 _ _ rfl) (k_pc 1382 rfl ?_)
    refine k_callC C (M := q481_M) (rf_metV_of (q481_met hG)) (-1) (by decide +kernel) (by decide +kernel) (wlkV (lkL_204 hG) _ rfl rfl) (j := 114) (by decide +kernel) ⟨Nat.le_of_ble_eq_true rfl, Nat.le_of_ble_eq_true rfl⟩ (hd 13 1382 _ _ rfl) [.int a1] (rest := [.int x1]) (by rfl) ⟨⟨114, by decide, rfl⟩, ⟨_, rfl, hcon (by omega), trivial⟩, trivial⟩ (Nat.le_of_ble_eq_true rfl) hw1 (fr_pre hfr hf1 (by decide +kernel)) trivial (fun x2 ws2 hw2 hf2 e2 => k_pc 1385 rfl ?_)
    exact k_ceq c (hd 14 1385 _ _ rfl) (tgt := 1413) (by decide) (Int32.toInt_inj.mp (e1.trans e2.symm)) (KK _)
  · skip
    refine k_al c (hd 0 1367 _ _ rfl) (by rfl) (k_pc 1368 rfl ?_)
    refine k_al c (hd 1 1368 _ _ rfl) (by rfl) (k_pc 1369 rfl ?_)
    refine k_il c (hd 2 1369 _ _ rfl) (by rfl) (k_pc 1370 rfl ?_)
    refine k_ic c (hd 3 1370 _ _ rfl) (v := 1) (by decide) (k_pc 1371 rfl ?_)
    refine k_addE c (hd 4 1371 _ _ rfl) (k_pc 1372 rfl ?_)
    refine k_sldE C (lw_in h0 h1 C.2.2.2.2.1 (by decide)) ea1 (hd 5 1372 _ _ rfl) (k_pc 1373 rfl ?_)
    refine k_callC C (M := q483_M) (rf_metV_of (q483_met hG)) (-1) (by decide +kernel) (by decide +kernel) (wlkV (lkL_201 hG) _ rfl rfl) (j := 70) (by decide +kernel) ⟨Nat.le_of_ble_eq_true rfl, Nat.le_of_ble_eq_true rfl⟩ (hd 6 1373 _ _ rfl) [.int a1] (rest := []) (by rfl) ⟨⟨70, by decide, rfl⟩, ⟨_, rfl, hcon (by omega), trivial⟩, trivial⟩ (Nat.le_of_ble_eq_true rfl) hw (fr_pre hfr (hframe_rf [] _) (by decide +kernel)) trivial (fun x1 ws1 hw1 hf1 e1 => k_pc 1376 rfl ?_)
    refine k_al c (hd 7 1376 _ _ rfl) (by rfl) (k_pc 1377 rfl ?_)
    refine k_al c (hd 8 1377 _ _ rfl) (by rfl) (k_pc 1378 rfl ?_)
    refine k_il c (hd 9 1378 _ _ rfl) (by rfl) (k_pc 1379 rfl ?_)
    refine k_ic c (hd 10 1379 _ _ rfl) (v := 1) (by decide) (k_pc 1380 rfl ?_)
    refine k_addE c (hd 11 1380 _ _ rfl) (k_pc 1381 rfl ?_)
    refine k_sldE C (lw_in h0 h1 C.2.2.2.2.1 (by decide)) ea1 (hd 12 1381 _ _ rfl) (k_pc 1382 rfl ?_)
    refine k_callC C (M := q484_M) (rf_metV_of (q484_met hG)) (-1) (by decide +kernel) (by decide +kernel) (wlkV (lkL_204 hG) _ rfl rfl) (j := 114) (by decide +kernel) ⟨Nat.le_of_ble_eq_true rfl, Nat.le_of_ble_eq_true rfl⟩ (hd 13 1382 _ _ rfl) [.int a1] (rest := [.int x1]) (by rfl) ⟨⟨114, by decide, rfl⟩, ⟨_, rfl, hcon (by omega), trivial⟩, trivial⟩ (Nat.le_of_ble_eq_true rfl) hw1 (fr_pre hfr hf1 (by decide +kernel)) trivial (fun x2 ws2 hw2 hf2 e2 => k_pc 1385 rfl ?_)
    exact k_ceq c (hd 14 1385 _ _ rfl) (tgt := 1413) (by decide) (Int32.toInt_inj.mp (e1.trans e2.symm)) (KK _)
  · skip
    refine k_al c (hd 0 1367 _ _ rfl) (by rfl) (k_pc 1368 rfl ?_)
    refine k_al c (hd 1 1368 _ _ rfl) (by rfl) (k_pc 1369 rfl ?_)
    refine k_il c (hd 2 1369 _ _ rfl) (by rfl) (k_pc 1370 rfl ?_)
    refine k_ic c (hd 3 1370 _ _ rfl) (v := 1) (by decide) (k_pc 1371 rfl ?_)
    refine k_addE c (hd 4 1371 _ _ rfl) (k_pc 1372 rfl ?_)
    refine k_sldE C (lw_in h0 h1 C.2.2.2.2.1 (by decide)) ea1 (hd 5 1372 _ _ rfl) (k_pc 1373 rfl ?_)
    refine k_callC C (M := q486_M) (rf_metV_of (q486_met hG)) (-1) (by decide +kernel) (by decide +kernel) (wlkV (lkL_201 hG) _ rfl rfl) (j := 70) (by decide +kernel) ⟨Nat.le_of_ble_eq_true rfl, Nat.le_of_ble_eq_true rfl⟩ (hd 6 1373 _ _ rfl) [.int a1] (rest := []) (by rfl) ⟨⟨70, by decide, rfl⟩, ⟨_, rfl, rf_in1 (by omega) (by omega), trivial⟩, trivial⟩ (Nat.le_of_ble_eq_true rfl) hw (fr_pre hfr (hframe_rf [] _) (by decide +kernel)) trivial (fun x1 ws1 hw1 hf1 e1 => k_pc 1376 rfl ?_)
    refine k_al c (hd 7 1376 _ _ rfl) (by rfl) (k_pc 1377 rfl ?_)
    refine k_al c (hd 8 1377 _ _ rfl) (by rfl) (k_pc 1378 rfl ?_)
    refine k_il c (hd 9 1378 _ _ rfl) (by rfl) (k_pc 1379 rfl ?_)
    refine k_ic c (hd 10 1379 _ _ rfl) (v := 1) (by decide) (k_pc 1380 rfl ?_)
    refine k_addE c (hd 11 1380 _ _ rfl) (k_pc 1381 rfl ?_)
    refine k_sldE C (lw_in h0 h1 C.2.2.2.2.1 (by decide)) ea1 (hd 12 1381 _ _ rfl) (k_pc 1382 rfl ?_)
    refine k_callC C (M := q487_M) (rf_metV_of (q487_met hG)) (-1) (by decide +kernel) (by decide +kernel) (wlkV (lkL_204 hG) _ rfl rfl) (j := 114) (by decide +kernel) ⟨Nat.le_of_ble_eq_true rfl, Nat.le_of_ble_eq_true rfl⟩ (hd 13 1382 _ _ rfl) [.int a1] (rest := [.int x1]) (by rfl) ⟨⟨114, by decide, rfl⟩, ⟨_, rfl, rf_in1 (by omega) (by omega), trivial⟩, trivial⟩ (Nat.le_of_ble_eq_true rfl) hw1 (fr_pre hfr hf1 (by decide +kernel)) trivial (fun x2 ws2 hw2 hf2 e2 => k_pc 1385 rfl ?_)
    exact k_ceq c (hd 14 1385 _ _ rfl) (tgt := 1413) (by decide) (Int32.toInt_inj.mp (e1.trans e2.symm)) (KK _)
def ddL46 : List (Nat × Instr × Nat) := [(1390, .aload_n 1, 1), (1391, .aload_n 0, 1), (1392, .iload_n 3, 1), (1393, .iconst 1, 1), (1394, .iadd, 1), (1395, .iaload, 1), (1396, .invokevirtual 205, 3), (1399, .aload_n 2, 1), (1400, .aload_n 0, 1), (1401, .iload_n 3, 1), (1402, .iconst 1, 1), (1403, .iadd, 1), (1404, .iaload, 1), (1405, .invokevirtual 208, 3), (1408, .if_icmp .eq 5, 3), (1411, .iconst 0, 1), (1412, .ireturn, 1)]
set_option maxRecDepth 100000 in
theorem dkL46 : rf_decs code ddL46 := rf_decs_of (by decide +kernel)
set_option maxHeartbeats 16000000 in
set_option maxRecDepth 100000 in
theorem lw_case46 {X : rfX} {G : rfG} {b Ln : Nat} {sc : Nat → Int32} {n sl : Nat} (C : lwC X G b Ln sc n sl) {i : Int32} (h0 : 0 ≤ i.toInt) (h1 : i.toInt + 5 < (Ln : Int)) (KK : ∀ ws', kW X n sl 1413 [(3, .int i), (2, .ref (G.2.1.1 114)), (1, .ref (G.2.1.1 70)), (0, .ref b)] [] ws') {ws : va_W} (hw : rf_world G.2.1.1 G.2.1.2.1 G.2.1.2.2.1 G.2.1.2.2.2 ws) (hfr : frOK (hv ws)) : kW X n sl 1390 [(3, .int i), (2, .ref (G.2.1.1 114)), (1, .ref (G.2.1.1 70)), (0, .ref b)] [] ws := by
  have hG := C.1
  have c := C.2.2.1
  have hd : ∀ n pc i len, ddL46[n]? = some (pc, i, len) → decode code pc = .ok (i, len) := fun n pc i len h => hdk dkL46 n pc i len h
  obtain ⟨a1, ea1⟩ : ∃ a, sc (i + 1).toNatClampNeg = a := ⟨_, rfl⟩
  have r1 : -2147483648 ≤ a1.toInt ∧ a1.toInt ≤ 2147483647 := ⟨(rf_in_top a1).1, (rf_in_top a1).2.1⟩
  have hc_ : (a1.toInt ≤ (-1)) ∨ (a1.toInt = 0) ∨ (a1.toInt = 1) ∨ (a1.toInt = 2) ∨ (a1.toInt = 3) ∨ (a1.toInt = 4) ∨ (a1.toInt = 5) ∨ (a1.toInt = 6) ∨ (a1.toInt = 7) ∨ (a1.toInt = 8) ∨ (a1.toInt = 9) ∨ (a1.toInt = 10) ∨ (a1.toInt = 11) ∨ (a1.toInt = 12) ∨ (a1.toInt = 13) ∨ (a1.toInt = 14) ∨ (a1.toInt = 15) ∨ (16 ≤ a1.toInt) := by omega
  rcases hc_ with hc_ | hc_ | hc_ | hc_ | hc_ | hc_ | hc_ | hc_ | hc_ | hc_ | hc_ | hc_ | hc_ | hc_ | hc_ | hc_ | hc_ | hc_
  · skip
    refine k_al c (hd 0 1390 _ _ rfl) (by rfl) (k_pc 1391 rfl ?_)
    refine k_al c (hd 1 1391 _ _ rfl) (by rfl) (k_pc 1392 rfl ?_)
    refine k_il c (hd 2 1392 _ _ rfl) (by rfl) (k_pc 1393 rfl ?_)
    refine k_ic c (hd 3 1393 _ _ rfl) (v := 1) (by decide) (k_pc 1394 rfl ?_)
    refine k_addE c (hd 4 1394 _ _ rfl) (k_pc 1395 rfl ?_)
    refine k_sldE C (lw_in h0 h1 C.2.2.2.2.1 (by decide)) ea1 (hd 5 1395 _ _ rfl) (k_pc 1396 rfl ?_)
    refine k_callC C (M := q488_M) (rf_metV_of (q488_met hG)) (-1) (by decide +kernel) (by decide +kernel) (wlkV (lkL_205 hG) _ rfl rfl) (j := 70) (by decide +kernel) ⟨Nat.le_of_ble_eq_true rfl, Nat.le_of_ble_eq_true rfl⟩ (hd 6 1396 _ _ rfl) [.int a1] (rest := []) (by rfl) ⟨⟨70, by decide, rfl⟩, ⟨_, rfl, rf_in1 (by omega) (by omega), trivial⟩, trivial⟩ (Nat.le_of_ble_eq_true rfl) hw (fr_pre hfr (hframe_rf [] _) (by decide +kernel)) trivial (fun x1 ws1 hw1 hf1 e1 => k_pc 1399 rfl ?_)
    refine k_al c (hd 7 1399 _ _ rfl) (by rfl) (k_pc 1400 rfl ?_)
    refine k_al c (hd 8 1400 _ _ rfl) (by rfl) (k_pc 1401 rfl ?_)
    refine k_il c (hd 9 1401 _ _ rfl) (by rfl) (k_pc 1402 rfl ?_)
    refine k_ic c (hd 10 1402 _ _ rfl) (v := 1) (by decide) (k_pc 1403 rfl ?_)
    refine k_addE c (hd 11 1403 _ _ rfl) (k_pc 1404 rfl ?_)
    refine k_sldE C (lw_in h0 h1 C.2.2.2.2.1 (by decide)) ea1 (hd 12 1404 _ _ rfl) (k_pc 1405 rfl ?_)
    refine k_callC C (M := q489_M) (rf_metV_of (q489_met hG)) (-1) (by decide +kernel) (by decide +kernel) (wlkV (lkL_208 hG) _ rfl rfl) (j := 114) (by decide +kernel) ⟨Nat.le_of_ble_eq_true rfl, Nat.le_of_ble_eq_true rfl⟩ (hd 13 1405 _ _ rfl) [.int a1] (rest := [.int x1]) (by rfl) ⟨⟨114, by decide, rfl⟩, ⟨_, rfl, rf_in1 (by omega) (by omega), trivial⟩, trivial⟩ (Nat.le_of_ble_eq_true rfl) hw1 (fr_pre hfr hf1 (by decide +kernel)) trivial (fun x2 ws2 hw2 hf2 e2 => k_pc 1408 rfl ?_)
    exact k_ceq c (hd 14 1408 _ _ rfl) (tgt := 1413) (by decide) (Int32.toInt_inj.mp (e1.trans e2.symm)) (KK _)
  · skip
    refine k_al c (hd 0 1390 _ _ rfl) (by rfl) (k_pc 1391 rfl ?_)
    refine k_al c (hd 1 1391 _ _ rfl) (by rfl) (k_pc 1392 rfl ?_)
    refine k_il c (hd 2 1392 _ _ rfl) (by rfl) (k_pc 1393 rfl ?_)
    refine k_ic c (hd 3 1393 _ _ rfl) (v := 1) (by decide) (k_pc 1394 rfl ?_)
    refine k_addE c (hd 4 1394 _ _ rfl) (k_pc 1395 rfl ?_)
    refine k_sldE C (lw_in h0 h1 C.2.2.2.2.1 (by decide)) ea1 (hd 5 1395 _ _ rfl) (k_pc 1396 rfl ?_)
    refine k_callC C (M := q490_M) (rf_metV_of (q490_met hG)) 0 (by decide +kernel) (by decide +kernel) (wlkV (lkL_205 hG) _ rfl rfl) (j := 70) (by decide +kernel) ⟨Nat.le_of_ble_eq_true rfl, Nat.le_of_ble_eq_true rfl⟩ (hd 6 1396 _ _ rfl) [.int a1] (rest := []) (by rfl) ⟨⟨70, by decide, rfl⟩, ⟨_, rfl, hcon (by omega), trivial⟩, trivial⟩ (Nat.le_of_ble_eq_true rfl) hw (fr_pre hfr (hframe_rf [] _) (by decide +kernel)) trivial (fun x1 ws1 hw1 hf1 e1 => k_pc 1399 rfl ?_)
    refine k_al c (hd 7 1399 _ _ rfl) (by rfl) (k_pc 1400 rfl ?_)
    refine k_al c (hd 8 1400 _ _ rfl) (by rfl) (k_pc 1401 rfl ?_)
    refine k_il c (hd 9 1401 _ _ rfl) (by rfl) (k_pc 1402 rfl ?_)
    refine k_ic c (hd 10 1402 _ _ rfl) (v := 1) (by decide) (k_pc 1403 rfl ?_)
    refine k_addE c (hd 11 1403 _ _ rfl) (k_pc 1404 rfl ?_)
    refine k_sldE C (lw_in h0 h1 C.2.2.2.2.1 (by decide)) ea1 (hd 12 1404 _ _ rfl) (k_pc 1405 rfl ?_)
    refine k_callC C (M := q491_M) (rf_metV_of (q491_met hG)) 0 (by decide +kernel) (by decide +kernel) (wlkV (lkL_208 hG) _ rfl rfl) (j := 114) (by decide +kernel) ⟨Nat.le_of_ble_eq_true rfl, Nat.le_of_ble_eq_true rfl⟩ (hd 13 1405 _ _ rfl) [.int a1] (rest := [.int x1]) (by rfl) ⟨⟨114, by decide, rfl⟩, ⟨_, rfl, hcon (by omega), trivial⟩, trivial⟩ (Nat.le_of_ble_eq_true rfl) hw1 (fr_pre hfr hf1 (by decide +kernel)) trivial (fun x2 ws2 hw2 hf2 e2 => k_pc 1408 rfl ?_)
    exact k_ceq c (hd 14 1408 _ _ rfl) (tgt := 1413) (by decide) (Int32.toInt_inj.mp (e1.trans e2.symm)) (KK _)
  · skip
    refine k_al c (hd 0 1390 _ _ rfl) (by rfl) (k_pc 1391 rfl ?_)
    refine k_al c (hd 1 1391 _ _ rfl) (by rfl) (k_pc 1392 rfl ?_)
    refine k_il c (hd 2 1392 _ _ rfl) (by rfl) (k_pc 1393 rfl ?_)
    refine k_ic c (hd 3 1393 _ _ rfl) (v := 1) (by decide) (k_pc 1394 rfl ?_)
    refine k_addE c (hd 4 1394 _ _ rfl) (k_pc 1395 rfl ?_)
    refine k_sldE C (lw_in h0 h1 C.2.2.2.2.1 (by decide)) ea1 (hd 5 1395 _ _ rfl) (k_pc 1396 rfl ?_)
    refine k_callC C (M := q492_M) (rf_metV_of (q492_met hG)) 0 (by decide +kernel) (by decide +kernel) (wlkV (lkL_205 hG) _ rfl rfl) (j := 70) (by decide +kernel) ⟨Nat.le_of_ble_eq_true rfl, Nat.le_of_ble_eq_true rfl⟩ (hd 6 1396 _ _ rfl) [.int a1] (rest := []) (by rfl) ⟨⟨70, by decide, rfl⟩, ⟨_, rfl, hcon (by omega), trivial⟩, trivial⟩ (Nat.le_of_ble_eq_true rfl) hw (fr_pre hfr (hframe_rf [] _) (by decide +kernel)) trivial (fun x1 ws1 hw1 hf1 e1 => k_pc 1399 rfl ?_)
    refine k_al c (hd 7 1399 _ _ rfl) (by rfl) (k_pc 1400 rfl ?_)
    refine k_al c (hd 8 1400 _ _ rfl) (by rfl) (k_pc 1401 rfl ?_)
    refine k_il c (hd 9 1401 _ _ rfl) (by rfl) (k_pc 1402 rfl ?_)
    refine k_ic c (hd 10 1402 _ _ rfl) (v := 1) (by decide) (k_pc 1403 rfl ?_)
    refine k_addE c (hd 11 1403 _ _ rfl) (k_pc 1404 rfl ?_)
    refine k_sldE C (lw_in h0 h1 C.2.2.2.2.1 (by decide)) ea1 (hd 12 1404 _ _ rfl) (k_pc 1405 rfl ?_)
    refine k_callC C (M := q493_M) (rf_metV_of (q493_met hG)) 0 (by decide +kernel) (by decide +kernel) (wlkV (lkL_208 hG) _ rfl rfl) (j := 114) (by decide +kernel) ⟨Nat.le_of_ble_eq_true rfl, Nat.le_of_ble_eq_true rfl⟩ (hd 13 1405 _ _ rfl) [.int a1] (rest := [.int x1]) (by rfl) ⟨⟨114, by decide, rfl⟩, ⟨_, rfl, hcon (by omega), trivial⟩, trivial⟩ (Nat.le_of_ble_eq_true rfl) hw1 (fr_pre hfr hf1 (by decide +kernel)) trivial (fun x2 ws2 hw2 hf2 e2 => k_pc 1408 rfl ?_)
    exact k_ceq c (hd 14 1408 _ _ rfl) (tgt := 1413) (by decide) (Int32.toInt_inj.mp (e1.trans e2.symm)) (KK _)
  · skip
    refine k_al c (hd 0 1390 _ _ rfl) (by rfl) (k_pc 1391 rfl ?_)
    refine k_al c (hd 1 1391 _ _ rfl) (by rfl) (k_pc 1392 rfl ?_)
    refine k_il c (hd 2 1392 _ _ rfl) (by rfl) (k_pc 1393 rfl ?_)
    refine k_ic c (hd 3 1393 _ _ rfl) (v := 1) (by decide) (k_pc 1394 rfl ?_)
    refine k_addE c (hd 4 1394 _ _ rfl) (k_pc 1395 rfl ?_)
    refine k_sldE C (lw_in h0 h1 C.2.2.2.2.1 (by decide)) ea1 (hd 5 1395 _ _ rfl) (k_pc 1396 rfl ?_)
    refine k_callC C (M := q494_M) (rf_metV_of (q494_met hG)) 0 (by decide +kernel) (by decide +kernel) (wlkV (lkL_205 hG) _ rfl rfl) (j := 70) (by decide +kernel) ⟨Nat.le_of_ble_eq_true rfl, Nat.le_of_ble_eq_true rfl⟩ (hd 6 1396 _ _ rfl) [.int a1] (rest := []) (by rfl) ⟨⟨70, by decide, rfl⟩, ⟨_, rfl, hcon (by omega), trivial⟩, trivial⟩ (Nat.le_of_ble_eq_true rfl) hw (fr_pre hfr (hframe_rf [] _) (by decide +kernel)) trivial (fun x1 ws1 hw1 hf1 e1 => k_pc 1399 rfl ?_)
    refine k_al c (hd 7 1399 _ _ rfl) (by rfl) (k_pc 1400 rfl ?_)
    refine k_al c (hd 8 1400 _ _ rfl) (by rfl) (k_pc 1401 rfl ?_)
    refine k_il c (hd 9 1401 _ _ rfl) (by rfl) (k_pc 1402 rfl ?_)
    refine k_ic c (hd 10 1402 _ _ rfl) (v := 1) (by decide) (k_pc 1403 rfl ?_)
    refine k_addE c (hd 11 1403 _ _ rfl) (k_pc 1404 rfl ?_)
    refine k_sldE C (lw_in h0 h1 C.2.2.2.2.1 (by decide)) ea1 (hd 12 1404 _ _ rfl) (k_pc 1405 rfl ?_)
    refine k_callC C (M := q495_M) (rf_metV_of (q495_met hG)) 0 (by decide +kernel) (by decide +kernel) (wlkV (lkL_208 hG) _ rfl rfl) (j := 114) (by decide +kernel) ⟨Nat.le_of_ble_eq_true rfl, Nat.le_of_ble_eq_true rfl⟩ (hd 13 1405 _ _ rfl) [.int a1] (rest := [.int x1]) (by rfl) ⟨⟨114, by decide, rfl⟩, ⟨_, rfl, hcon (by omega), trivial⟩, trivial⟩ (Nat.le_of_ble_eq_true rfl) hw1 (fr_pre hfr hf1 (by decide +kernel)) trivial (fun x2 ws2 hw2 hf2 e2 => k_pc 1408 rfl ?_)
    exact k_ceq c (hd 14 1408 _ _ rfl) (tgt := 1413) (by decide) (Int32.toInt_inj.mp (e1.trans e2.symm)) (KK _)
  · skip
    refine k_al c (hd 0 1390 _ _ rfl) (by rfl) (k_pc 1391 rfl ?_)
    refine k_al c (hd 1 1391 _ _ rfl) (by rfl) (k_pc 1392 rfl ?_)
    refine k_il c (hd 2 1392 _ _ rfl) (by rfl) (k_pc 1393 rfl ?_)
    refine k_ic c (hd 3 1393 _ _ rfl) (v := 1) (by decide) (k_pc 1394 rfl ?_)
    refine k_addE c (hd 4 1394 _ _ rfl) (k_pc 1395 rfl ?_)
    refine k_sldE C (lw_in h0 h1 C.2.2.2.2.1 (by decide)) ea1 (hd 5 1395 _ _ rfl) (k_pc 1396 rfl ?_)
    refine k_callC C (M := q496_M) (rf_metV_of (q496_met hG)) 0 (by decide +kernel) (by decide +kernel) (wlkV (lkL_205 hG) _ rfl rfl) (j := 70) (by decide +kernel) ⟨Nat.le_of_ble_eq_true rfl, Nat.le_of_ble_eq_true rfl⟩ (hd 6 1396 _ _ rfl) [.int a1] (rest := []) (by rfl) ⟨⟨70, by decide, rfl⟩, ⟨_, rfl, hcon (by omega), trivial⟩, trivial⟩ (Nat.le_of_ble_eq_true rfl) hw (fr_pre hfr (hframe_rf [] _) (by decide +kernel)) trivial (fun x1 ws1 hw1 hf1 e1 => k_pc 1399 rfl ?_)
    refine k_al c (hd 7 1399 _ _ rfl) (by rfl) (k_pc 1400 rfl ?_)
    refine k_al c (hd 8 1400 _ _ rfl) (by rfl) (k_pc 1401 rfl ?_)
    refine k_il c (hd 9 1401 _ _ rfl) (by rfl) (k_pc 1402 rfl ?_)
    refine k_ic c (hd 10 1402 _ _ rfl) (v := 1) (by decide) (k_pc 1403 rfl ?_)
    refine k_addE c (hd 11 1403 _ _ rfl) (k_pc 1404 rfl ?_)
    refine k_sldE C (lw_in h0 h1 C.2.2.2.2.1 (by decide)) ea1 (hd 12 1404 _ _ rfl) (k_pc 1405 rfl ?_)
    refine k_callC C (M := q497_M) (rf_metV_of (q497_met hG)) 0 (by decide +kernel) (by decide +kernel) (wlkV (lkL_208 hG) _ rfl rfl) (j := 114) (by decide +kernel) ⟨Nat.le_of_ble_eq_true rfl, Nat.le_of_ble_eq_true rfl⟩ (hd 13 1405 _ _ rfl) [.int a1] (rest := [.int x1]) (by rfl) ⟨⟨114, by decide, rfl⟩, ⟨_, rfl, hcon (by omega), trivial⟩, trivial⟩ (Nat.le_of_ble_eq_true rfl) hw1 (fr_pre hfr hf1 (by decide +kernel)) trivial (fun x2 ws2 hw2 hf2 e2 => k_pc 1408 rfl ?_)
    exact k_ceq c (hd 14 1408 _ _ rfl) (tgt := 1413) (by decide) (Int32.toInt_inj.mp (e1.trans e2.symm)) (KK _)
  · skip
    refine k_al c (hd 0 1390 _ _ rfl) (by rfl) (k_pc 1391 rfl ?_)
    refine k_al c (hd 1 1391 _ _ rfl) (by rfl) (k_pc 1392 rfl ?_)
    refine k_il c (hd 2 1392 _ _ rfl) (by rfl) (k_pc 1393 rfl ?_)
    refine k_ic c (hd 3 1393 _ _ rfl) (v := 1) (by decide) (k_pc 1394 rfl ?_)
    refine k_addE c (hd 4 1394 _ _ rfl) (k_pc 1395 rfl ?_)
    refine k_sldE C (lw_in h0 h1 C.2.2.2.2.1 (by decide)) ea1 (hd 5 1395 _ _ rfl) (k_pc 1396 rfl ?_)
    refine k_callC C (M := q498_M) (rf_metV_of (q498_met hG)) 4 (by decide +kernel) (by decide +kernel) (wlkV (lkL_205 hG) _ rfl rfl) (j := 70) (by decide +kernel) ⟨Nat.le_of_ble_eq_true rfl, Nat.le_of_ble_eq_true rfl⟩ (hd 6 1396 _ _ rfl) [.int a1] (rest := []) (by rfl) ⟨⟨70, by decide, rfl⟩, ⟨_, rfl, hcon (by omega), trivial⟩, trivial⟩ (Nat.le_of_ble_eq_true rfl) hw (fr_pre hfr (hframe_rf [] _) (by decide +kernel)) trivial (fun x1 ws1 hw1 hf1 e1 => k_pc 1399 rfl ?_)
    refine k_al c (hd 7 1399 _ _ rfl) (by rfl) (k_pc 1400 rfl ?_)
    refine k_al c (hd 8 1400 _ _ rfl) (by rfl) (k_pc 1401 rfl ?_)
    refine k_il c (hd 9 1401 _ _ rfl) (by rfl) (k_pc 1402 rfl ?_)
    refine k_ic c (hd 10 1402 _ _ rfl) (v := 1) (by decide) (k_pc 1403 rfl ?_)
    refine k_addE c (hd 11 1403 _ _ rfl) (k_pc 1404 rfl ?_)
    refine k_sldE C (lw_in h0 h1 C.2.2.2.2.1 (by decide)) ea1 (hd 12 1404 _ _ rfl) (k_pc 1405 rfl ?_)
    refine k_callC C (M := q499_M) (rf_metV_of (q499_met hG)) 4 (by decide +kernel) (by decide +kernel) (wlkV (lkL_208 hG) _ rfl rfl) (j := 114) (by decide +kernel) ⟨Nat.le_of_ble_eq_true rfl, Nat.le_of_ble_eq_true rfl⟩ (hd 13 1405 _ _ rfl) [.int a1] (rest := [.int x1]) (by rfl) ⟨⟨114, by decide, rfl⟩, ⟨_, rfl, hcon (by omega), trivial⟩, trivial⟩ (Nat.le_of_ble_eq_true rfl) hw1 (fr_pre hfr hf1 (by decide +kernel)) trivial (fun x2 ws2 hw2 hf2 e2 => k_pc 1408 rfl ?_)
    exact k_ceq c (hd 14 1408 _ _ rfl) (tgt := 1413) (by decide) (Int32.toInt_inj.mp (e1.trans e2.symm)) (KK _)
  · skip
    refine k_al c (hd 0 1390 _ _ rfl) (by rfl) (k_pc 1391 rfl ?_)
    refine k_al c (hd 1 1391 _ _ rfl) (by rfl) (k_pc 1392 rfl ?_)
    refine k_il c (hd 2 1392 _ _ rfl) (by rfl) (k_pc 1393 rfl ?_)
    refine k_ic c (hd 3 1393 _ _ rfl) (v := 1) (by decide) (k_pc 1394 rfl ?_)
    refine k_addE c (hd 4 1394 _ _ rfl) (k_pc 1395 rfl ?_)
    refine k_sldE C (lw_in h0 h1 C.2.2.2.2.1 (by decide)) ea1 (hd 5 1395 _ _ rfl) (k_pc 1396 rfl ?_)
    refine k_callC C (M := q500_M) (rf_metV_of (q500_met hG)) 2 (by decide +kernel) (by decide +kernel) (wlkV (lkL_205 hG) _ rfl rfl) (j := 70) (by decide +kernel) ⟨Nat.le_of_ble_eq_true rfl, Nat.le_of_ble_eq_true rfl⟩ (hd 6 1396 _ _ rfl) [.int a1] (rest := []) (by rfl) ⟨⟨70, by decide, rfl⟩, ⟨_, rfl, hcon (by omega), trivial⟩, trivial⟩ (Nat.le_of_ble_eq_true rfl) hw (fr_pre hfr (hframe_rf [] _) (by decide +kernel)) trivial (fun x1 ws1 hw1 hf1 e1 => k_pc 1399 rfl ?_)
    refine k_al c (hd 7 1399 _ _ rfl) (by rfl) (k_pc 1400 rfl ?_)
    refine k_al c (hd 8 1400 _ _ rfl) (by rfl) (k_pc 1401 rfl ?_)
    refine k_il c (hd 9 1401 _ _ rfl) (by rfl) (k_pc 1402 rfl ?_)
    refine k_ic c (hd 10 1402 _ _ rfl) (v := 1) (by decide) (k_pc 1403 rfl ?_)
    refine k_addE c (hd 11 1403 _ _ rfl) (k_pc 1404 rfl ?_)
    refine k_sldE C (lw_in h0 h1 C.2.2.2.2.1 (by decide)) ea1 (hd 12 1404 _ _ rfl) (k_pc 1405 rfl ?_)
    refine k_callC C (M := q501_M) (rf_metV_of (q501_met hG)) 2 (by decide +kernel) (by decide +kernel) (wlkV (lkL_208 hG) _ rfl rfl) (j := 114) (by decide +kernel) ⟨Nat.le_of_ble_eq_true rfl, Nat.le_of_ble_eq_true rfl⟩ (hd 13 1405 _ _ rfl) [.int a1] (rest := [.int x1]) (by rfl) ⟨⟨114, by decide, rfl⟩, ⟨_, rfl, hcon (by omega), trivial⟩, trivial⟩ (Nat.le_of_ble_eq_true rfl) hw1 (fr_pre hfr hf1 (by decide +kernel)) trivial (fun x2 ws2 hw2 hf2 e2 => k_pc 1408 rfl ?_)
    exact k_ceq c (hd 14 1408 _ _ rfl) (tgt := 1413) (by decide) (Int32.toInt_inj.mp (e1.trans e2.symm)) (KK _)
  · skip
    refine k_al c (hd 0 1390 _ _ rfl) (by rfl) (k_pc 1391 rfl ?_)
    refine k_al c (hd 1 1391 _ _ rfl) (by rfl) (k_pc 1392 rfl ?_)
    refine k_il c (hd 2 1392 _ _ rfl) (by rfl) (k_pc 1393 rfl ?_)
    refine k_ic c (hd 3 1393 _ _ rfl) (v := 1) (by decide) (k_pc 1394 rfl ?_)
    refine k_addE c (hd 4 1394 _ _ rfl) (k_pc 1395 rfl ?_)
    refine k_sldE C (lw_in h0 h1 C.2.2.2.2.1 (by decide)) ea1 (hd 5 1395 _ _ rfl) (k_pc 1396 rfl ?_)
    refine k_callC C (M := q502_M) (rf_metV_of (q502_met hG)) 13 (by decide +kernel) (by decide +kernel) (wlkV (lkL_205 hG) _ rfl rfl) (j := 70) (by decide +kernel) ⟨Nat.le_of_ble_eq_true rfl, Nat.le_of_ble_eq_true rfl⟩ (hd 6 1396 _ _ rfl) [.int a1] (rest := []) (by rfl) ⟨⟨70, by decide, rfl⟩, ⟨_, rfl, hcon (by omega), trivial⟩, trivial⟩ (Nat.le_of_ble_eq_true rfl) hw (fr_pre hfr (hframe_rf [] _) (by decide +kernel)) trivial (fun x1 ws1 hw1 hf1 e1 => k_pc 1399 rfl ?_)
    refine k_al c (hd 7 1399 _ _ rfl) (by rfl) (k_pc 1400 rfl ?_)
    refine k_al c (hd 8 1400 _ _ rfl) (by rfl) (k_pc 1401 rfl ?_)
    refine k_il c (hd 9 1401 _ _ rfl) (by rfl) (k_pc 1402 rfl ?_)
    refine k_ic c (hd 10 1402 _ _ rfl) (v := 1) (by decide) (k_pc 1403 rfl ?_)
    refine k_addE c (hd 11 1403 _ _ rfl) (k_pc 1404 rfl ?_)
    refine k_sldE C (lw_in h0 h1 C.2.2.2.2.1 (by decide)) ea1 (hd 12 1404 _ _ rfl) (k_pc 1405 rfl ?_)
    refine k_callC C (M := q503_M) (rf_metV_of (q503_met hG)) 13 (by decide +kernel) (by decide +kernel) (wlkV (lkL_208 hG) _ rfl rfl) (j := 114) (by decide +kernel) ⟨Nat.le_of_ble_eq_true rfl, Nat.le_of_ble_eq_true rfl⟩ (hd 13 1405 _ _ rfl) [.int a1] (rest := [.int x1]) (by rfl) ⟨⟨114, by decide, rfl⟩, ⟨_, rfl, hcon (by omega), trivial⟩, trivial⟩ (Nat.le_of_ble_eq_true rfl) hw1 (fr_pre hfr hf1 (by decide +kernel)) trivial (fun x2 ws2 hw2 hf2 e2 => k_pc 1408 rfl ?_)
    exact k_ceq c (hd 14 1408 _ _ rfl) (tgt := 1413) (by decide) (Int32.toInt_inj.mp (e1.trans e2.symm)) (KK _)
  · skip
    refine k_al c (hd 0 1390 _ _ rfl) (by rfl) (k_pc 1391 rfl ?_)
    refine k_al c (hd 1 1391 _ _ rfl) (by rfl) (k_pc 1392 rfl ?_)
    refine k_il c (hd 2 1392 _ _ rfl) (by rfl) (k_pc 1393 rfl ?_)
    refine k_ic c (hd 3 1393 _ _ rfl) (v := 1) (by decide) (k_pc 1394 rfl ?_)
    refine k_addE c (hd 4 1394 _ _ rfl) (k_pc 1395 rfl ?_)
    refine k_sldE C (lw_in h0 h1 C.2.2.2.2.1 (by decide)) ea1 (hd 5 1395 _ _ rfl) (k_pc 1396 rfl ?_)
    refine k_callC C (M := q505_M) (rf_metV_of (q505_met hG)) 0 (by decide +kernel) (by decide +kernel) (wlkV (lkL_205 hG) _ rfl rfl) (j := 70) (by decide +kernel) ⟨Nat.le_of_ble_eq_true rfl, Nat.le_of_ble_eq_true rfl⟩ (hd 6 1396 _ _ rfl) [.int a1] (rest := []) (by rfl) ⟨⟨70, by decide, rfl⟩, ⟨_, rfl, hcon (by omega), trivial⟩, trivial⟩ (Nat.le_of_ble_eq_true rfl) hw (fr_pre hfr (hframe_rf [] _) (by decide +kernel)) trivial (fun x1 ws1 hw1 hf1 e1 => k_pc 1399 rfl ?_)
    refine k_al c (hd 7 1399 _ _ rfl) (by rfl) (k_pc 1400 rfl ?_)
    refine k_al c (hd 8 1400 _ _ rfl) (by rfl) (k_pc 1401 rfl ?_)
    refine k_il c (hd 9 1401 _ _ rfl) (by rfl) (k_pc 1402 rfl ?_)
    refine k_ic c (hd 10 1402 _ _ rfl) (v := 1) (by decide) (k_pc 1403 rfl ?_)
    refine k_addE c (hd 11 1403 _ _ rfl) (k_pc 1404 rfl ?_)
    refine k_sldE C (lw_in h0 h1 C.2.2.2.2.1 (by decide)) ea1 (hd 12 1404 _ _ rfl) (k_pc 1405 rfl ?_)
    refine k_callC C (M := q506_M) (rf_metV_of (q506_met hG)) 0 (by decide +kernel) (by decide +kernel) (wlkV (lkL_208 hG) _ rfl rfl) (j := 114) (by decide +kernel) ⟨Nat.le_of_ble_eq_true rfl, Nat.le_of_ble_eq_true rfl⟩ (hd 13 1405 _ _ rfl) [.int a1] (rest := [.int x1]) (by rfl) ⟨⟨114, by decide, rfl⟩, ⟨_, rfl, hcon (by omega), trivial⟩, trivial⟩ (Nat.le_of_ble_eq_true rfl) hw1 (fr_pre hfr hf1 (by decide +kernel)) trivial (fun x2 ws2 hw2 hf2 e2 => k_pc 1408 rfl ?_)
    exact k_ceq c (hd 14 1408 _ _ rfl) (tgt := 1413) (by decide) (Int32.toInt_inj.mp (e1.trans e2.symm)) (KK _)
  · skip
    refine k_al c (hd 0 1390 _ _ rfl) (by rfl) (k_pc 1391 rfl ?_)
    refine k_al c (hd 1 1391 _ _ rfl) (by rfl) (k_pc 1392 rfl ?_)
    refine k_il c (hd 2 1392 _ _ rfl) (by rfl) (k_pc 1393 rfl ?_)
    refine k_ic c (hd 3 1393 _ _ rfl) (v := 1) (by decide) (k_pc 1394 rfl ?_)
    refine k_addE c (hd 4 1394 _ _ rfl) (k_pc 1395 rfl ?_)
    refine k_sldE C (lw_in h0 h1 C.2.2.2.2.1 (by decide)) ea1 (hd 5 1395 _ _ rfl) (k_pc 1396 rfl ?_)
    refine k_callC C (M := q507_M) (rf_metV_of (q507_met hG)) 0 (by decide +kernel) (by decide +kernel) (wlkV (lkL_205 hG) _ rfl rfl) (j := 70) (by decide +kernel) ⟨Nat.le_of_ble_eq_true rfl, Nat.le_of_ble_eq_true rfl⟩ (hd 6 1396 _ _ rfl) [.int a1] (rest := []) (by rfl) ⟨⟨70, by decide, rfl⟩, ⟨_, rfl, hcon (by omega), trivial⟩, trivial⟩ (Nat.le_of_ble_eq_true rfl) hw (fr_pre hfr (hframe_rf [] _) (by decide +kernel)) trivial (fun x1 ws1 hw1 hf1 e1 => k_pc 1399 rfl ?_)
    refine k_al c (hd 7 1399 _ _ rfl) (by rfl) (k_pc 1400 rfl ?_)
    refine k_al c (hd 8 1400 _ _ rfl) (by rfl) (k_pc 1401 rfl ?_)
    refine k_il c (hd 9 1401 _ _ rfl) (by rfl) (k_pc 1402 rfl ?_)
    refine k_ic c (hd 10 1402 _ _ rfl) (v := 1) (by decide) (k_pc 1403 rfl ?_)
    refine k_addE c (hd 11 1403 _ _ rfl) (k_pc 1404 rfl ?_)
    refine k_sldE C (lw_in h0 h1 C.2.2.2.2.1 (by decide)) ea1 (hd 12 1404 _ _ rfl) (k_pc 1405 rfl ?_)
    refine k_callC C (M := q508_M) (rf_metV_of (q508_met hG)) 0 (by decide +kernel) (by decide +kernel) (wlkV (lkL_208 hG) _ rfl rfl) (j := 114) (by decide +kernel) ⟨Nat.le_of_ble_eq_true rfl, Nat.le_of_ble_eq_true rfl⟩ (hd 13 1405 _ _ rfl) [.int a1] (rest := [.int x1]) (by rfl) ⟨⟨114, by decide, rfl⟩, ⟨_, rfl, hcon (by omega), trivial⟩, trivial⟩ (Nat.le_of_ble_eq_true rfl) hw1 (fr_pre hfr hf1 (by decide +kernel)) trivial (fun x2 ws2 hw2 hf2 e2 => k_pc 1408 rfl ?_)
    exact k_ceq c (hd 14 1408 _ _ rfl) (tgt := 1413) (by decide) (Int32.toInt_inj.mp (e1.trans e2.symm)) (KK _)
  · skip
    refine k_al c (hd 0 1390 _ _ rfl) (by rfl) (k_pc 1391 rfl ?_)
    refine k_al c (hd 1 1391 _ _ rfl) (by rfl) (k_pc 1392 rfl ?_)
    refine k_il c (hd 2 1392 _ _ rfl) (by rfl) (k_pc 1393 rfl ?_)
    refine k_ic c (hd 3 1393 _ _ rfl) (v := 1) (by decide) (k_pc 1394 rfl ?_)
    refine k_addE c (hd 4 1394 _ _ rfl) (k_pc 1395 rfl ?_)
    refine k_sldE C (lw_in h0 h1 C.2.2.2.2.1 (by decide)) ea1 (hd 5 1395 _ _ rfl) (k_pc 1396 rfl ?_)
    refine k_callC C (M := q509_M) (rf_metV_of (q509_met hG)) 0 (by decide +kernel) (by decide +kernel) (wlkV (lkL_205 hG) _ rfl rfl) (j := 70) (by decide +kernel) ⟨Nat.le_of_ble_eq_true rfl, Nat.le_of_ble_eq_true rfl⟩ (hd 6 1396 _ _ rfl) [.int a1] (rest := []) (by rfl) ⟨⟨70, by decide, rfl⟩, ⟨_, rfl, hcon (by omega), trivial⟩, trivial⟩ (Nat.le_of_ble_eq_true rfl) hw (fr_pre hfr (hframe_rf [] _) (by decide +kernel)) trivial (fun x1 ws1 hw1 hf1 e1 => k_pc 1399 rfl ?_)
    refine k_al c (hd 7 1399 _ _ rfl) (by rfl) (k_pc 1400 rfl ?_)
    refine k_al c (hd 8 1400 _ _ rfl) (by rfl) (k_pc 1401 rfl ?_)
    refine k_il c (hd 9 1401 _ _ rfl) (by rfl) (k_pc 1402 rfl ?_)
    refine k_ic c (hd 10 1402 _ _ rfl) (v := 1) (by decide) (k_pc 1403 rfl ?_)
    refine k_addE c (hd 11 1403 _ _ rfl) (k_pc 1404 rfl ?_)
    refine k_sldE C (lw_in h0 h1 C.2.2.2.2.1 (by decide)) ea1 (hd 12 1404 _ _ rfl) (k_pc 1405 rfl ?_)
    refine k_callC C (M := q510_M) (rf_metV_of (q510_met hG)) 0 (by decide +kernel) (by decide +kernel) (wlkV (lkL_208 hG) _ rfl rfl) (j := 114) (by decide +kernel) ⟨Nat.le_of_ble_eq_true rfl, Nat.le_of_ble_eq_true rfl⟩ (hd 13 1405 _ _ rfl) [.int a1] (rest := [.int x1]) (by rfl) ⟨⟨114, by decide, rfl⟩, ⟨_, rfl, hcon (by omega), trivial⟩, trivial⟩ (Nat.le_of_ble_eq_true rfl) hw1 (fr_pre hfr hf1 (by decide +kernel)) trivial (fun x2 ws2 hw2 hf2 e2 => k_pc 1408 rfl ?_)
    exact k_ceq c (hd 14 1408 _ _ rfl) (tgt := 1413) (by decide) (Int32.toInt_inj.mp (e1.trans e2.symm)) (KK _)
  · skip
    refine k_al c (hd 0 1390 _ _ rfl) (by rfl) (k_pc 1391 rfl ?_)
    refine k_al c (hd 1 1391 _ _ rfl) (by rfl) (k_pc 1392 rfl ?_)
    refine k_il c (hd 2 1392 _ _ rfl) (by rfl) (k_pc 1393 rfl ?_)
    refine k_ic c (hd 3 1393 _ _ rfl) (v := 1) (by decide) (k_pc 1394 rfl ?_)
    refine k_addE c (hd 4 1394 _ _ rfl) (k_pc 1395 rfl ?_)
    refine k_sldE C (lw_in h0 h1 C.2.2.2.2.1 (by decide)) ea1 (hd 5 1395 _ _ rfl) (k_pc 1396 rfl ?_)
    refine k_callC C (M := q511_M) (rf_metV_of (q511_met hG)) 0 (by decide +kernel) (by decide +kernel) (wlkV (lkL_205 hG) _ rfl rfl) (j := 70) (by decide +kernel) ⟨Nat.le_of_ble_eq_true rfl, Nat.le_of_ble_eq_true rfl⟩ (hd 6 1396 _ _ rfl) [.int a1] (rest := []) (by rfl) ⟨⟨70, by decide, rfl⟩, ⟨_, rfl, hcon (by omega), trivial⟩, trivial⟩ (Nat.le_of_ble_eq_true rfl) hw (fr_pre hfr (hframe_rf [] _) (by decide +kernel)) trivial (fun x1 ws1 hw1 hf1 e1 => k_pc 1399 rfl ?_)
    refine k_al c (hd 7 1399 _ _ rfl) (by rfl) (k_pc 1400 rfl ?_)
    refine k_al c (hd 8 1400 _ _ rfl) (by rfl) (k_pc 1401 rfl ?_)
    refine k_il c (hd 9 1401 _ _ rfl) (by rfl) (k_pc 1402 rfl ?_)
    refine k_ic c (hd 10 1402 _ _ rfl) (v := 1) (by decide) (k_pc 1403 rfl ?_)
    refine k_addE c (hd 11 1403 _ _ rfl) (k_pc 1404 rfl ?_)
    refine k_sldE C (lw_in h0 h1 C.2.2.2.2.1 (by decide)) ea1 (hd 12 1404 _ _ rfl) (k_pc 1405 rfl ?_)
    refine k_callC C (M := q512_M) (rf_metV_of (q512_met hG)) 0 (by decide +kernel) (by decide +kernel) (wlkV (lkL_208 hG) _ rfl rfl) (j := 114) (by decide +kernel) ⟨Nat.le_of_ble_eq_true rfl, Nat.le_of_ble_eq_true rfl⟩ (hd 13 1405 _ _ rfl) [.int a1] (rest := [.int x1]) (by rfl) ⟨⟨114, by decide, rfl⟩, ⟨_, rfl, hcon (by omega), trivial⟩, trivial⟩ (Nat.le_of_ble_eq_true rfl) hw1 (fr_pre hfr hf1 (by decide +kernel)) trivial (fun x2 ws2 hw2 hf2 e2 => k_pc 1408 rfl ?_)
    exact k_ceq c (hd 14 1408 _ _ rfl) (tgt := 1413) (by decide) (Int32.toInt_inj.mp (e1.trans e2.symm)) (KK _)
  · skip
    refine k_al c (hd 0 1390 _ _ rfl) (by rfl) (k_pc 1391 rfl ?_)
    refine k_al c (hd 1 1391 _ _ rfl) (by rfl) (k_pc 1392 rfl ?_)
    refine k_il c (hd 2 1392 _ _ rfl) (by rfl) (k_pc 1393 rfl ?_)
    refine k_ic c (hd 3 1393 _ _ rfl) (v := 1) (by decide) (k_pc 1394 rfl ?_)
    refine k_addE c (hd 4 1394 _ _ rfl) (k_pc 1395 rfl ?_)
    refine k_sldE C (lw_in h0 h1 C.2.2.2.2.1 (by decide)) ea1 (hd 5 1395 _ _ rfl) (k_pc 1396 rfl ?_)
    refine k_callC C (M := q513_M) (rf_metV_of (q513_met hG)) 0 (by decide +kernel) (by decide +kernel) (wlkV (lkL_205 hG) _ rfl rfl) (j := 70) (by decide +kernel) ⟨Nat.le_of_ble_eq_true rfl, Nat.le_of_ble_eq_true rfl⟩ (hd 6 1396 _ _ rfl) [.int a1] (rest := []) (by rfl) ⟨⟨70, by decide, rfl⟩, ⟨_, rfl, hcon (by omega), trivial⟩, trivial⟩ (Nat.le_of_ble_eq_true rfl) hw (fr_pre hfr (hframe_rf [] _) (by decide +kernel)) trivial (fun x1 ws1 hw1 hf1 e1 => k_pc 1399 rfl ?_)
    refine k_al c (hd 7 1399 _ _ rfl) (by rfl) (k_pc 1400 rfl ?_)
    refine k_al c (hd 8 1400 _ _ rfl) (by rfl) (k_pc 1401 rfl ?_)
    refine k_il c (hd 9 1401 _ _ rfl) (by rfl) (k_pc 1402 rfl ?_)
    refine k_ic c (hd 10 1402 _ _ rfl) (v := 1) (by decide) (k_pc 1403 rfl ?_)
    refine k_addE c (hd 11 1403 _ _ rfl) (k_pc 1404 rfl ?_)
    refine k_sldE C (lw_in h0 h1 C.2.2.2.2.1 (by decide)) ea1 (hd 12 1404 _ _ rfl) (k_pc 1405 rfl ?_)
    refine k_callC C (M := q514_M) (rf_metV_of (q514_met hG)) 0 (by decide +kernel) (by decide +kernel) (wlkV (lkL_208 hG) _ rfl rfl) (j := 114) (by decide +kernel) ⟨Nat.le_of_ble_eq_true rfl, Nat.le_of_ble_eq_true rfl⟩ (hd 13 1405 _ _ rfl) [.int a1] (rest := [.int x1]) (by rfl) ⟨⟨114, by decide, rfl⟩, ⟨_, rfl, hcon (by omega), trivial⟩, trivial⟩ (Nat.le_of_ble_eq_true rfl) hw1 (fr_pre hfr hf1 (by decide +kernel)) trivial (fun x2 ws2 hw2 hf2 e2 => k_pc 1408 rfl ?_)
    exact k_ceq c (hd 14 1408 _ _ rfl) (tgt := 1413) (by decide) (Int32.toInt_inj.mp (e1.trans e2.symm)) (KK _)
  · skip
    refine k_al c (hd 0 1390 _ _ rfl) (by rfl) (k_pc 1391 rfl ?_)
    refine k_al c (hd 1 1391 _ _ rfl) (by rfl) (k_pc 1392 rfl ?_)
    refine k_il c (hd 2 1392 _ _ rfl) (by rfl) (k_pc 1393 rfl ?_)
    refine k_ic c (hd 3 1393 _ _ rfl) (v := 1) (by decide) (k_pc 1394 rfl ?_)
    refine k_addE c (hd 4 1394 _ _ rfl) (k_pc 1395 rfl ?_)
    refine k_sldE C (lw_in h0 h1 C.2.2.2.2.1 (by decide)) ea1 (hd 5 1395 _ _ rfl) (k_pc 1396 rfl ?_)
    refine k_callC C (M := q515_M) (rf_metV_of (q515_met hG)) 0 (by decide +kernel) (by decide +kernel) (wlkV (lkL_205 hG) _ rfl rfl) (j := 70) (by decide +kernel) ⟨Nat.le_of_ble_eq_true rfl, Nat.le_of_ble_eq_true rfl⟩ (hd 6 1396 _ _ rfl) [.int a1] (rest := []) (by rfl) ⟨⟨70, by decide, rfl⟩, ⟨_, rfl, hcon (by omega), trivial⟩, trivial⟩ (Nat.le_of_ble_eq_true rfl) hw (fr_pre hfr (hframe_rf [] _) (by decide +kernel)) trivial (fun x1 ws1 hw1 hf1 e1 => k_pc 1399 rfl ?_)
    refine k_al c (hd 7 1399 _ _ rfl) (by rfl) (k_pc 1400 rfl ?_)
    refine k_al c (hd 8 1400 _ _ rfl) (by rfl) (k_pc 1401 rfl ?_)
    refine k_il c (hd 9 1401 _ _ rfl) (by rfl) (k_pc 1402 rfl ?_)
    refine k_ic c (hd 10 1402 _ _ rfl) (v := 1) (by decide) (k_pc 1403 rfl ?_)
    refine k_addE c (hd 11 1403 _ _ rfl) (k_pc 1404 rfl ?_)
    refine k_sldE C (lw_in h0 h1 C.2.2.2.2.1 (by decide)) ea1 (hd 12 1404 _ _ rfl) (k_pc 1405 rfl ?_)
    refine k_callC C (M := q516_M) (rf_metV_of (q516_met hG)) 0 (by decide +kernel) (by decide +kernel) (wlkV (lkL_208 hG) _ rfl rfl) (j := 114) (by decide +kernel) ⟨Nat.le_of_ble_eq_true rfl, Nat.le_of_ble_eq_true rfl⟩ (hd 13 1405 _ _ rfl) [.int a1] (rest := [.int x1]) (by rfl) ⟨⟨114, by decide, rfl⟩, ⟨_, rfl, hcon (by omega), trivial⟩, trivial⟩ (Nat.le_of_ble_eq_true rfl) hw1 (fr_pre hfr hf1 (by decide +kernel)) trivial (fun x2 ws2 hw2 hf2 e2 => k_pc 1408 rfl ?_)
    exact k_ceq c (hd 14 1408 _ _ rfl) (tgt := 1413) (by decide) (Int32.toInt_inj.mp (e1.trans e2.symm)) (KK _)
  · skip
    refine k_al c (hd 0 1390 _ _ rfl) (by rfl) (k_pc 1391 rfl ?_)
    refine k_al c (hd 1 1391 _ _ rfl) (by rfl) (k_pc 1392 rfl ?_)
    refine k_il c (hd 2 1392 _ _ rfl) (by rfl) (k_pc 1393 rfl ?_)
    refine k_ic c (hd 3 1393 _ _ rfl) (v := 1) (by decide) (k_pc 1394 rfl ?_)
    refine k_addE c (hd 4 1394 _ _ rfl) (k_pc 1395 rfl ?_)
    refine k_sldE C (lw_in h0 h1 C.2.2.2.2.1 (by decide)) ea1 (hd 5 1395 _ _ rfl) (k_pc 1396 rfl ?_)
    refine k_callC C (M := q517_M) (rf_metV_of (q517_met hG)) 0 (by decide +kernel) (by decide +kernel) (wlkV (lkL_205 hG) _ rfl rfl) (j := 70) (by decide +kernel) ⟨Nat.le_of_ble_eq_true rfl, Nat.le_of_ble_eq_true rfl⟩ (hd 6 1396 _ _ rfl) [.int a1] (rest := []) (by rfl) ⟨⟨70, by decide, rfl⟩, ⟨_, rfl, hcon (by omega), trivial⟩, trivial⟩ (Nat.le_of_ble_eq_true rfl) hw (fr_pre hfr (hframe_rf [] _) (by decide +kernel)) trivial (fun x1 ws1 hw1 hf1 e1 => k_pc 1399 rfl ?_)
    refine k_al c (hd 7 1399 _ _ rfl) (by rfl) (k_pc 1400 rfl ?_)
    refine k_al c (hd 8 1400 _ _ rfl) (by rfl) (k_pc 1401 rfl ?_)
    refine k_il c (hd 9 1401 _ _ rfl) (by rfl) (k_pc 1402 rfl ?_)
    refine k_ic c (hd 10 1402 _ _ rfl) (v := 1) (by decide) (k_pc 1403 rfl ?_)
    refine k_addE c (hd 11 1403 _ _ rfl) (k_pc 1404 rfl ?_)
    refine k_sldE C (lw_in h0 h1 C.2.2.2.2.1 (by decide)) ea1 (hd 12 1404 _ _ rfl) (k_pc 1405 rfl ?_)
    refine k_callC C (M := q518_M) (rf_metV_of (q518_met hG)) 0 (by decide +kernel) (by decide +kernel) (wlkV (lkL_208 hG) _ rfl rfl) (j := 114) (by decide +kernel) ⟨Nat.le_of_ble_eq_true rfl, Nat.le_of_ble_eq_true rfl⟩ (hd 13 1405 _ _ rfl) [.int a1] (rest := [.int x1]) (by rfl) ⟨⟨114, by decide, rfl⟩, ⟨_, rfl, hcon (by omega), trivial⟩, trivial⟩ (Nat.le_of_ble_eq_true rfl) hw1 (fr_pre hfr hf1 (by decide +kernel)) trivial (fun x2 ws2 hw2 hf2 e2 => k_pc 1408 rfl ?_)
    exact k_ceq c (hd 14 1408 _ _ rfl) (tgt := 1413) (by decide) (Int32.toInt_inj.mp (e1.trans e2.symm)) (KK _)
  · skip
    refine k_al c (hd 0 1390 _ _ rfl) (by rfl) (k_pc 1391 rfl ?_)
    refine k_al c (hd 1 1391 _ _ rfl) (by rfl) (k_pc 1392 rfl ?_)
    refine k_il c (hd 2 1392 _ _ rfl) (by rfl) (k_pc 1393 rfl ?_)
    refine k_ic c (hd 3 1393 _ _ rfl) (v := 1) (by decide) (k_pc 1394 rfl ?_)
    refine k_addE c (hd 4 1394 _ _ rfl) (k_pc 1395 rfl ?_)
    refine k_sldE C (lw_in h0 h1 C.2.2.2.2.1 (by decide)) ea1 (hd 5 1395 _ _ rfl) (k_pc 1396 rfl ?_)
    refine k_callC C (M := q519_M) (rf_metV_of (q519_met hG)) 0 (by decide +kernel) (by decide +kernel) (wlkV (lkL_205 hG) _ rfl rfl) (j := 70) (by decide +kernel) ⟨Nat.le_of_ble_eq_true rfl, Nat.le_of_ble_eq_true rfl⟩ (hd 6 1396 _ _ rfl) [.int a1] (rest := []) (by rfl) ⟨⟨70, by decide, rfl⟩, ⟨_, rfl, hcon (by omega), trivial⟩, trivial⟩ (Nat.le_of_ble_eq_true rfl) hw (fr_pre hfr (hframe_rf [] _) (by decide +kernel)) trivial (fun x1 ws1 hw1 hf1 e1 => k_pc 1399 rfl ?_)
    refine k_al c (hd 7 1399 _ _ rfl) (by rfl) (k_pc 1400 rfl ?_)
    refine k_al c (hd 8 1400 _ _ rfl) (by rfl) (k_pc 1401 rfl ?_)
    refine k_il c (hd 9 1401 _ _ rfl) (by rfl) (k_pc 1402 rfl ?_)
    refine k_ic c (hd 10 1402 _ _ rfl) (v := 1) (by decide) (k_pc 1403 rfl ?_)
    refine k_addE c (hd 11 1403 _ _ rfl) (k_pc 1404 rfl ?_)
    refine k_sldE C (lw_in h0 h1 C.2.2.2.2.1 (by decide)) ea1 (hd 12 1404 _ _ rfl) (k_pc 1405 rfl ?_)
    refine k_callC C (M := q520_M) (rf_metV_of (q520_met hG)) 0 (by decide +kernel) (by decide +kernel) (wlkV (lkL_208 hG) _ rfl rfl) (j := 114) (by decide +kernel) ⟨Nat.le_of_ble_eq_true rfl, Nat.le_of_ble_eq_true rfl⟩ (hd 13 1405 _ _ rfl) [.int a1] (rest := [.int x1]) (by rfl) ⟨⟨114, by decide, rfl⟩, ⟨_, rfl, hcon (by omega), trivial⟩, trivial⟩ (Nat.le_of_ble_eq_true rfl) hw1 (fr_pre hfr hf1 (by decide +kernel)) trivial (fun x2 ws2 hw2 hf2 e2 => k_pc 1408 rfl ?_)
    exact k_ceq c (hd 14 1408 _ _ rfl) (tgt := 1413) (by decide) (Int32.toInt_inj.mp (e1.trans e2.symm)) (KK _)
  · skip
    refine k_al c (hd 0 1390 _ _ rfl) (by rfl) (k_pc 1391 rfl ?_)
    refine k_al c (hd 1 1391 _ _ rfl) (by rfl) (k_pc 1392 rfl ?_)
    refine k_il c (hd 2 1392 _ _ rfl) (by rfl) (k_pc 1393 rfl ?_)
    refine k_ic c (hd 3 1393 _ _ rfl) (v := 1) (by decide) (k_pc 1394 rfl ?_)
    refine k_addE c (hd 4 1394 _ _ rfl) (k_pc 1395 rfl ?_)
    refine k_sldE C (lw_in h0 h1 C.2.2.2.2.1 (by decide)) ea1 (hd 5 1395 _ _ rfl) (k_pc 1396 rfl ?_)
    refine k_callC C (M := q521_M) (rf_metV_of (q521_met hG)) 0 (by decide +kernel) (by decide +kernel) (wlkV (lkL_205 hG) _ rfl rfl) (j := 70) (by decide +kernel) ⟨Nat.le_of_ble_eq_true rfl, Nat.le_of_ble_eq_true rfl⟩ (hd 6 1396 _ _ rfl) [.int a1] (rest := []) (by rfl) ⟨⟨70, by decide, rfl⟩, ⟨_, rfl, hcon (by omega), trivial⟩, trivial⟩ (Nat.le_of_ble_eq_true rfl) hw (fr_pre hfr (hframe_rf [] _) (by decide +kernel)) trivial (fun x1 ws1 hw1 hf1 e1 => k_pc 1399 rfl ?_)
    refine k_al c (hd 7 1399 _ _ rfl) (by rfl) (k_pc 1400 rfl ?_)
    refine k_al c (hd 8 1400 _ _ rfl) (by rfl) (k_pc 1401 rfl ?_)
    refine k_il c (hd 9 1401 _ _ rfl) (by rfl) (k_pc 1402 rfl ?_)
    refine k_ic c (hd 10 1402 _ _ rfl) (v := 1) (by decide) (k_pc 1403 rfl ?_)
    refine k_addE c (hd 11 1403 _ _ rfl) (k_pc 1404 rfl ?_)
    refine k_sldE C (lw_in h0 h1 C.2.2.2.2.1 (by decide)) ea1 (hd 12 1404 _ _ rfl) (k_pc 1405 rfl ?_)
    refine k_callC C (M := q522_M) (rf_metV_of (q522_met hG)) 0 (by decide +kernel) (by decide +kernel) (wlkV (lkL_208 hG) _ rfl rfl) (j := 114) (by decide +kernel) ⟨Nat.le_of_ble_eq_true rfl, Nat.le_of_ble_eq_true rfl⟩ (hd 13 1405 _ _ rfl) [.int a1] (rest := [.int x1]) (by rfl) ⟨⟨114, by decide, rfl⟩, ⟨_, rfl, hcon (by omega), trivial⟩, trivial⟩ (Nat.le_of_ble_eq_true rfl) hw1 (fr_pre hfr hf1 (by decide +kernel)) trivial (fun x2 ws2 hw2 hf2 e2 => k_pc 1408 rfl ?_)
    exact k_ceq c (hd 14 1408 _ _ rfl) (tgt := 1413) (by decide) (Int32.toInt_inj.mp (e1.trans e2.symm)) (KK _)
  · skip
    refine k_al c (hd 0 1390 _ _ rfl) (by rfl) (k_pc 1391 rfl ?_)
    refine k_al c (hd 1 1391 _ _ rfl) (by rfl) (k_pc 1392 rfl ?_)
    refine k_il c (hd 2 1392 _ _ rfl) (by rfl) (k_pc 1393 rfl ?_)
    refine k_ic c (hd 3 1393 _ _ rfl) (v := 1) (by decide) (k_pc 1394 rfl ?_)
    refine k_addE c (hd 4 1394 _ _ rfl) (k_pc 1395 rfl ?_)
    refine k_sldE C (lw_in h0 h1 C.2.2.2.2.1 (by decide)) ea1 (hd 5 1395 _ _ rfl) (k_pc 1396 rfl ?_)
    refine k_callC C (M := q523_M) (rf_metV_of (q523_met hG)) (-1) (by decide +kernel) (by decide +kernel) (wlkV (lkL_205 hG) _ rfl rfl) (j := 70) (by decide +kernel) ⟨Nat.le_of_ble_eq_true rfl, Nat.le_of_ble_eq_true rfl⟩ (hd 6 1396 _ _ rfl) [.int a1] (rest := []) (by rfl) ⟨⟨70, by decide, rfl⟩, ⟨_, rfl, rf_in1 (by omega) (by omega), trivial⟩, trivial⟩ (Nat.le_of_ble_eq_true rfl) hw (fr_pre hfr (hframe_rf [] _) (by decide +kernel)) trivial (fun x1 ws1 hw1 hf1 e1 => k_pc 1399 rfl ?_)
    refine k_al c (hd 7 1399 _ _ rfl) (by rfl) (k_pc 1400 rfl ?_)
    refine k_al c (hd 8 1400 _ _ rfl) (by rfl) (k_pc 1401 rfl ?_)
    refine k_il c (hd 9 1401 _ _ rfl) (by rfl) (k_pc 1402 rfl ?_)
    refine k_ic c (hd 10 1402 _ _ rfl) (v := 1) (by decide) (k_pc 1403 rfl ?_)
    refine k_addE c (hd 11 1403 _ _ rfl) (k_pc 1404 rfl ?_)
    refine k_sldE C (lw_in h0 h1 C.2.2.2.2.1 (by decide)) ea1 (hd 12 1404 _ _ rfl) (k_pc 1405 rfl ?_)
    refine k_callC C (M := q524_M) (rf_metV_of (q524_met hG)) (-1) (by decide +kernel) (by decide +kernel) (wlkV (lkL_208 hG) _ rfl rfl) (j := 114) (by decide +kernel) ⟨Nat.le_of_ble_eq_true rfl, Nat.le_of_ble_eq_true rfl⟩ (hd 13 1405 _ _ rfl) [.int a1] (rest := [.int x1]) (by rfl) ⟨⟨114, by decide, rfl⟩, ⟨_, rfl, rf_in1 (by omega) (by omega), trivial⟩, trivial⟩ (Nat.le_of_ble_eq_true rfl) hw1 (fr_pre hfr hf1 (by decide +kernel)) trivial (fun x2 ws2 hw2 hf2 e2 => k_pc 1408 rfl ?_)
    exact k_ceq c (hd 14 1408 _ _ rfl) (tgt := 1413) (by decide) (Int32.toInt_inj.mp (e1.trans e2.symm)) (KK _)
def ddLH : List (Nat × Instr × Nat) := [(18, .iload_n 3, 1), (19, .aload_n 0, 1), (20, .arraylength, 1), (21, .bipush 6, 2), (23, .isub, 1), (24, .if_icmp .gt 1395, 3), (27, .aload_n 0, 1), (28, .iload_n 3, 1), (29, .iaload, 1), (30, .bipush 63, 2), (32, .iand, 1), (33, .tableswitch 1380 0 46 #[203, 266, 289, 302, 325, 358, 391, 414, 437, 460, 473, 486, 499, 522, 555, 578, 601, 634, 667, 690, 723, 756, 789, 802, 815, 838, 861, 894, 907, 950, 973, 996, 1019, 1032, 1045, 1058, 1071, 1094, 1127, 1150, 1209, 1232, 1255, 1278, 1311, 1334, 1357], 203), (1413, .iinc 3 6, 3), (1416, .goto (-1398), 3)]
set_option maxRecDepth 100000 in
theorem dkLH : rf_decs code ddLH := rf_decs_of (by decide +kernel)
set_option maxHeartbeats 8000000 in
set_option maxRecDepth 100000 in
theorem lw_out {X : rfX} {G : rfG} {b Ln : Nat} {sc : Nat → Int32} {n sl : Nat} (C : lwC X G b Ln sc n sl) (h6 : Ln ≤ 6) (KE : ∀ (i : Int32) (ws : va_W), kW X n sl 1419 [(3, .int i), (2, .ref (G.2.1.1 114)), (1, .ref (G.2.1.1 70)), (0, .ref b)] [] ws) (i : Int32) (ws : va_W) (hi : i.toInt = 6) : kW X n sl 18 [(3, .int i), (2, .ref (G.2.1.1 114)), (1, .ref (G.2.1.1 70)), (0, .ref b)] [] ws := by
  have c := C.2.2.1
  have hd : ∀ n pc i len, ddLH[n]? = some (pc, i, len) → decode code pc = .ok (i, len) := fun n pc i len h => hdk dkLH n pc i len h
  refine k_il c (hd 0 18 _ _ rfl) (by rfl) (k_pc 19 rfl ?_)
  refine k_al c (hd 1 19 _ _ rfl) (by rfl) (k_pc 20 rfl ?_)
  refine k_slen C (hd 2 20 _ _ rfl) (k_pc 21 rfl ?_)
  refine k_bp c (hd 3 21 _ _ rfl) (v := 6) (by decide) (k_pc 23 rfl ?_)
  refine k_sub c (hd 4 23 _ _ rfl) (k_pc 24 rfl ?_)
  have eL : (Int32.ofNat Ln).toInt = (Ln : Int) := nI_toInt (by omega)
  have e6 : (6 : Int32).toInt = 6 := by decide +kernel
  have eS : (Int32.ofNat Ln - 6).toInt = (Ln : Int) - 6 := by rw [h_subv (by omega), eL, e6]
  refine k_gt c (hd 5 24 _ _ rfl) (tgt := 1419) (by decide) (fun _ => KE _ _) (fun hgt => absurd (by omega) hgt)
set_option maxHeartbeats 8000000 in
set_option maxRecDepth 100000 in
theorem lw_once {X : rfX} {G : rfG} {b Ln : Nat} {sc : Nat → Int32} {n sl : Nat} (C : lwC X G b Ln sc n sl) (h6 : Ln ≤ 6) (KE : ∀ (i : Int32) (ws : va_W), kW X n sl 1419 [(3, .int i), (2, .ref (G.2.1.1 114)), (1, .ref (G.2.1.1 70)), (0, .ref b)] [] ws) (i : Int32) (ws : va_W) (h0i : i.toInt = 0) (hw : rf_world G.2.1.1 G.2.1.2.1 G.2.1.2.2.1 G.2.1.2.2.2 ws) (hfr : frOK (hv ws)) : kW X n sl 18 [(3, .int i), (2, .ref (G.2.1.1 114)), (1, .ref (G.2.1.1 70)), (0, .ref b)] [] ws := by
  have c := C.2.2.1
  have hd : ∀ n pc i len, ddLH[n]? = some (pc, i, len) → decode code pc = .ok (i, len) := fun n pc i len h => hdk dkLH n pc i len h
  refine k_il c (hd 0 18 _ _ rfl) (by rfl) (k_pc 19 rfl ?_)
  refine k_al c (hd 1 19 _ _ rfl) (by rfl) (k_pc 20 rfl ?_)
  refine k_slen C (hd 2 20 _ _ rfl) (k_pc 21 rfl ?_)
  refine k_bp c (hd 3 21 _ _ rfl) (v := 6) (by decide) (k_pc 23 rfl ?_)
  refine k_sub c (hd 4 23 _ _ rfl) (k_pc 24 rfl ?_)
  have eL : (Int32.ofNat Ln).toInt = (Ln : Int) := nI_toInt (by omega)
  have e6 : (6 : Int32).toInt = 6 := by decide +kernel
  have eS : (Int32.ofNat Ln - 6).toInt = (Ln : Int) - 6 := by rw [h_subv (by omega), eL, e6]
  refine k_gt c (hd 5 24 _ _ rfl) (tgt := 1419) (by decide) (fun _ => KE _ _) (fun hgt => k_pc 27 rfl ?_)
  have h0 : 0 ≤ i.toInt := by omega
  have h1 : i.toInt + 5 < (Ln : Int) := by omega
  refine k_al c (hd 6 27 _ _ rfl) (by rfl) (k_pc 28 rfl ?_)
  refine k_il c (hd 7 28 _ _ rfl) (by rfl) (k_pc 29 rfl ?_)
  refine k_sld C (vp_in_iff.mpr ⟨by omega, by omega⟩) (hd 8 29 _ _ rfl) (k_pc 30 rfl ?_)
  refine k_bp c (hd 9 30 _ _ rfl) (v := 63) (by decide) (k_pc 32 rfl ?_)
  refine k_and c (hd 10 32 _ _ rfl) (k_pc 33 rfl ?_)
  have hv63 := rf_and_r (x := sc i.toNatClampNeg) (y := 63) (by decide)
  have e63 : (63 : Int32).toInt = 63 := by decide +kernel
  generalize sc i.toNatClampNeg &&& 63 = v at hv63 ⊢
  have KK : ∀ ws', kW X n sl 1413 [(3, .int i), (2, .ref (G.2.1.1 114)), (1, .ref (G.2.1.1 70)), (0, .ref b)] [] ws' := by
    intro ws'
    have ea : (i + Int32.ofInt 6).toInt = i.toInt + 6 := by
      have e66 : (Int32.ofInt 6).toInt = 6 := by decide +kernel
      rw [h_addv (by omega), e66]
    refine k_inc c (hd 12 1413 _ _ rfl) (by decide) (by rfl) rfl (L' := [(3, .int (i + Int32.ofInt 6)), (2, .ref (G.2.1.1 114)), (1, .ref (G.2.1.1 70)), (0, .ref b)]) (by rfl) (k_pc 1416 rfl ?_)
    refine k_goto c (hd 13 1416 _ _ rfl) (tgt := 18) (by decide) ?_
    exact lw_out C h6 KE _ ws' (by omega)
  have hcs : v.toInt = 0 ∨ v.toInt = 1 ∨ v.toInt = 2 ∨ v.toInt = 3 ∨ v.toInt = 4 ∨ v.toInt = 5 ∨ v.toInt = 6 ∨ v.toInt = 7 ∨ v.toInt = 8 ∨ v.toInt = 9 ∨ v.toInt = 10 ∨ v.toInt = 11 ∨ v.toInt = 12 ∨ v.toInt = 13 ∨ v.toInt = 14 ∨ v.toInt = 15 ∨ v.toInt = 16 ∨ v.toInt = 17 ∨ v.toInt = 18 ∨ v.toInt = 19 ∨ v.toInt = 20 ∨ v.toInt = 21 ∨ v.toInt = 22 ∨ v.toInt = 23 ∨ v.toInt = 24 ∨ v.toInt = 25 ∨ v.toInt = 26 ∨ v.toInt = 27 ∨ v.toInt = 28 ∨ v.toInt = 29 ∨ v.toInt = 30 ∨ v.toInt = 31 ∨ v.toInt = 32 ∨ v.toInt = 33 ∨ v.toInt = 34 ∨ v.toInt = 35 ∨ v.toInt = 36 ∨ v.toInt = 37 ∨ v.toInt = 38 ∨ v.toInt = 39 ∨ v.toInt = 40 ∨ v.toInt = 41 ∨ v.toInt = 42 ∨ v.toInt = 43 ∨ v.toInt = 44 ∨ v.toInt = 45 ∨ v.toInt = 46 ∨ 46 < v.toInt := by omega
  rcases hcs with hx | hx | hx | hx | hx | hx | hx | hx | hx | hx | hx | hx | hx | hx | hx | hx | hx | hx | hx | hx | hx | hx | hx | hx | hx | hx | hx | hx | hx | hx | hx | hx | hx | hx | hx | hx | hx | hx | hx | hx | hx | hx | hx | hx | hx | hx | hx | hx
  · exact k_tabI c (hd 11 33 _ _ rfl) 0 hx (by decide) (by decide) (off := 203) (tgt := 236) (by rfl) (by decide) (lw_case0 C h0 h1 KK hw hfr)
  · exact k_tabI c (hd 11 33 _ _ rfl) 1 hx (by decide) (by decide) (off := 266) (tgt := 299) (by rfl) (by decide) (lw_case1 C h0 h1 KK hw hfr)
  · exact k_tabI c (hd 11 33 _ _ rfl) 2 hx (by decide) (by decide) (off := 289) (tgt := 322) (by rfl) (by decide) (lw_case2 C h0 h1 KK hw hfr)
  · exact k_tabI c (hd 11 33 _ _ rfl) 3 hx (by decide) (by decide) (off := 302) (tgt := 335) (by rfl) (by decide) (lw_case3 C h0 h1 KK hw hfr)
  · exact k_tabI c (hd 11 33 _ _ rfl) 4 hx (by decide) (by decide) (off := 325) (tgt := 358) (by rfl) (by decide) (lw_case4 C h0 h1 KK hw hfr)
  · exact k_tabI c (hd 11 33 _ _ rfl) 5 hx (by decide) (by decide) (off := 358) (tgt := 391) (by rfl) (by decide) (lw_case5 C h0 h1 KK hw hfr)
  · exact k_tabI c (hd 11 33 _ _ rfl) 6 hx (by decide) (by decide) (off := 391) (tgt := 424) (by rfl) (by decide) (lw_case6 C h0 h1 KK hw hfr)
  · exact k_tabI c (hd 11 33 _ _ rfl) 7 hx (by decide) (by decide) (off := 414) (tgt := 447) (by rfl) (by decide) (lw_case7 C h0 h1 KK hw hfr)
  · exact k_tabI c (hd 11 33 _ _ rfl) 8 hx (by decide) (by decide) (off := 437) (tgt := 470) (by rfl) (by decide) (lw_case8 C h0 h1 KK hw hfr)
  · exact k_tabI c (hd 11 33 _ _ rfl) 9 hx (by decide) (by decide) (off := 460) (tgt := 493) (by rfl) (by decide) (lw_case9 C h0 h1 KK hw hfr)
  · exact k_tabI c (hd 11 33 _ _ rfl) 10 hx (by decide) (by decide) (off := 473) (tgt := 506) (by rfl) (by decide) (lw_case10 C h0 h1 KK hw hfr)
  · exact k_tabI c (hd 11 33 _ _ rfl) 11 hx (by decide) (by decide) (off := 486) (tgt := 519) (by rfl) (by decide) (lw_case11 C h0 h1 KK hw hfr)
  · exact k_tabI c (hd 11 33 _ _ rfl) 12 hx (by decide) (by decide) (off := 499) (tgt := 532) (by rfl) (by decide) (lw_case12 C h0 h1 KK hw hfr)
  · exact k_tabI c (hd 11 33 _ _ rfl) 13 hx (by decide) (by decide) (off := 522) (tgt := 555) (by rfl) (by decide) (lw_case13 C h0 h1 KK hw hfr)
  · exact k_tabI c (hd 11 33 _ _ rfl) 14 hx (by decide) (by decide) (off := 555) (tgt := 588) (by rfl) (by decide) (lw_case14 C h0 h1 KK hw hfr)
  · exact k_tabI c (hd 11 33 _ _ rfl) 15 hx (by decide) (by decide) (off := 578) (tgt := 611) (by rfl) (by decide) (lw_case15 C h0 h1 KK hw hfr)
  · exact k_tabI c (hd 11 33 _ _ rfl) 16 hx (by decide) (by decide) (off := 601) (tgt := 634) (by rfl) (by decide) (lw_case16 C h0 h1 KK hw hfr)
  · exact k_tabI c (hd 11 33 _ _ rfl) 17 hx (by decide) (by decide) (off := 634) (tgt := 667) (by rfl) (by decide) (lw_case17 C h0 h1 KK hw hfr)
  · exact k_tabI c (hd 11 33 _ _ rfl) 18 hx (by decide) (by decide) (off := 667) (tgt := 700) (by rfl) (by decide) (lw_case18 C h0 h1 KK hw hfr)
  · exact k_tabI c (hd 11 33 _ _ rfl) 19 hx (by decide) (by decide) (off := 690) (tgt := 723) (by rfl) (by decide) (lw_case19 C h0 h1 KK hw hfr)
  · exact k_tabI c (hd 11 33 _ _ rfl) 20 hx (by decide) (by decide) (off := 723) (tgt := 756) (by rfl) (by decide) (lw_case20 C h0 h1 KK hw hfr)
  · exact k_tabI c (hd 11 33 _ _ rfl) 21 hx (by decide) (by decide) (off := 756) (tgt := 789) (by rfl) (by decide) (lw_case21 C h0 h1 KK hw hfr)
  · exact k_tabI c (hd 11 33 _ _ rfl) 22 hx (by decide) (by decide) (off := 789) (tgt := 822) (by rfl) (by decide) (lw_case22 C h0 h1 KK hw hfr)
  · exact k_tabI c (hd 11 33 _ _ rfl) 23 hx (by decide) (by decide) (off := 802) (tgt := 835) (by rfl) (by decide) (lw_case23 C h0 h1 KK hw hfr)
  · exact k_tabI c (hd 11 33 _ _ rfl) 24 hx (by decide) (by decide) (off := 815) (tgt := 848) (by rfl) (by decide) (lw_case24 C h0 h1 KK hw hfr)
  · exact k_tabI c (hd 11 33 _ _ rfl) 25 hx (by decide) (by decide) (off := 838) (tgt := 871) (by rfl) (by decide) (lw_case25 C h0 h1 KK hw hfr)
  · exact k_tabI c (hd 11 33 _ _ rfl) 26 hx (by decide) (by decide) (off := 861) (tgt := 894) (by rfl) (by decide) (lw_case26 C h0 h1 KK hw hfr)
  · exact k_tabI c (hd 11 33 _ _ rfl) 27 hx (by decide) (by decide) (off := 894) (tgt := 927) (by rfl) (by decide) (lw_case27 C h0 h1 KK hw hfr)
  · exact k_tabI c (hd 11 33 _ _ rfl) 28 hx (by decide) (by decide) (off := 907) (tgt := 940) (by rfl) (by decide) (lw_case28 C h0 h1 KK hw hfr)
  · exact k_tabI c (hd 11 33 _ _ rfl) 29 hx (by decide) (by decide) (off := 950) (tgt := 983) (by rfl) (by decide) (lw_case29 C h0 h1 KK hw hfr)
  · exact k_tabI c (hd 11 33 _ _ rfl) 30 hx (by decide) (by decide) (off := 973) (tgt := 1006) (by rfl) (by decide) (lw_case30 C h0 h1 KK hw hfr)
  · exact k_tabI c (hd 11 33 _ _ rfl) 31 hx (by decide) (by decide) (off := 996) (tgt := 1029) (by rfl) (by decide) (lw_case31 C h0 h1 KK hw hfr)
  · exact k_tabI c (hd 11 33 _ _ rfl) 32 hx (by decide) (by decide) (off := 1019) (tgt := 1052) (by rfl) (by decide) (lw_case32 C h0 h1 KK hw hfr)
  · exact k_tabI c (hd 11 33 _ _ rfl) 33 hx (by decide) (by decide) (off := 1032) (tgt := 1065) (by rfl) (by decide) (lw_case33 C h0 h1 KK hw hfr)
  · exact k_tabI c (hd 11 33 _ _ rfl) 34 hx (by decide) (by decide) (off := 1045) (tgt := 1078) (by rfl) (by decide) (lw_case34 C h0 h1 KK hw hfr)
  · exact k_tabI c (hd 11 33 _ _ rfl) 35 hx (by decide) (by decide) (off := 1058) (tgt := 1091) (by rfl) (by decide) (lw_case35 C h0 h1 KK hw hfr)
  · exact k_tabI c (hd 11 33 _ _ rfl) 36 hx (by decide) (by decide) (off := 1071) (tgt := 1104) (by rfl) (by decide) (lw_case36 C h0 h1 KK hw hfr)
  · exact k_tabI c (hd 11 33 _ _ rfl) 37 hx (by decide) (by decide) (off := 1094) (tgt := 1127) (by rfl) (by decide) (lw_case37 C h0 h1 KK hw hfr)
  · exact k_tabI c (hd 11 33 _ _ rfl) 38 hx (by decide) (by decide) (off := 1127) (tgt := 1160) (by rfl) (by decide) (lw_case38 C h0 h1 KK hw hfr)
  · exact k_tabI c (hd 11 33 _ _ rfl) 39 hx (by decide) (by decide) (off := 1150) (tgt := 1183) (by rfl) (by decide) (lw_case39 C h0 h1 KK hw hfr)
  · exact k_tabI c (hd 11 33 _ _ rfl) 40 hx (by decide) (by decide) (off := 1209) (tgt := 1242) (by rfl) (by decide) (lw_case40 C h0 h1 KK hw hfr)
  · exact k_tabI c (hd 11 33 _ _ rfl) 41 hx (by decide) (by decide) (off := 1232) (tgt := 1265) (by rfl) (by decide) (lw_case41 C h0 h1 KK hw hfr)
  · exact k_tabI c (hd 11 33 _ _ rfl) 42 hx (by decide) (by decide) (off := 1255) (tgt := 1288) (by rfl) (by decide) (lw_case42 C h0 h1 KK hw hfr)
  · exact k_tabI c (hd 11 33 _ _ rfl) 43 hx (by decide) (by decide) (off := 1278) (tgt := 1311) (by rfl) (by decide) (lw_case43 C h0 h1 KK hw hfr)
  · exact k_tabI c (hd 11 33 _ _ rfl) 44 hx (by decide) (by decide) (off := 1311) (tgt := 1344) (by rfl) (by decide) (lw_case44 C h0 h1 KK hw hfr)
  · exact k_tabI c (hd 11 33 _ _ rfl) 45 hx (by decide) (by decide) (off := 1334) (tgt := 1367) (by rfl) (by decide) (lw_case45 C h0 h1 KK hw hfr)
  · exact k_tabI c (hd 11 33 _ _ rfl) 46 hx (by decide) (by decide) (off := 1357) (tgt := 1390) (by rfl) (by decide) (lw_case46 C h0 h1 KK hw hfr)
  · exact k_tabO c (hd 11 33 _ _ rfl) (tgt := 1413) (Or.inr hx) (by decide) (KK _)
