set_option maxRecDepth 20000 in
theorem wm535 : (Jvm.Cond.methodLink "NearSpellLaw" (13 : Nat) ({ cls := "NearSpell", name := "feed", desc := "(IIIII)I" } : Jvm.MethodName)) ∈ wTs := wmem (i := 535) (by decide +kernel) (by decide +kernel)
set_option maxRecDepth 20000 in
theorem wm538 : (Jvm.Cond.code ({ cls := "NearSpell", name := "feed", desc := "(IIIII)I" } : Jvm.MethodName) prog_1_method_2_code (6 : Nat) (Option.some Jvm.ClassFile.FieldType.int)) ∈ wTs := wmem (i := 538) (by decide +kernel) (by decide +kernel)
set_option maxRecDepth 20000 in
theorem wm536 : (Jvm.Cond.instanceMethod ({ cls := "NearSpell", name := "feed", desc := "(IIIII)I" } : Jvm.MethodName)) ∈ wTs := wmem (i := 536) (by decide +kernel) (by decide +kernel)
set_option maxRecDepth 20000 in
theorem wm537 : (Jvm.Cond.selects "NearSpell" ({ cls := "NearSpell", name := "feed", desc := "(IIIII)I" } : Jvm.MethodName) ({ cls := "NearSpell", name := "feed", desc := "(IIIII)I" } : Jvm.MethodName)) ∈ wTs := wmem (i := 537) (by decide +kernel) (by decide +kernel)
set_option maxRecDepth 20000 in
theorem wm2115 : (Jvm.Cond.methodLink "NearSpellLaw" (17 : Nat) ({ cls := "NearSpellModel", name := "feed", desc := "(IIIII)I" } : Jvm.MethodName)) ∈ wTs := wmem (i := 2115) (by decide +kernel) (by decide +kernel)
set_option maxRecDepth 20000 in
theorem wm2118 : (Jvm.Cond.code ({ cls := "NearSpellModel", name := "feed", desc := "(IIIII)I" } : Jvm.MethodName) prog_14_method_128_code (8 : Nat) (Option.some Jvm.ClassFile.FieldType.int)) ∈ wTs := wmem (i := 2118) (by decide +kernel) (by decide +kernel)
set_option maxRecDepth 20000 in
theorem wm2116 : (Jvm.Cond.instanceMethod ({ cls := "NearSpellModel", name := "feed", desc := "(IIIII)I" } : Jvm.MethodName)) ∈ wTs := wmem (i := 2116) (by decide +kernel) (by decide +kernel)
set_option maxRecDepth 20000 in
theorem wm2117 : (Jvm.Cond.selects "NearSpellModel" ({ cls := "NearSpellModel", name := "feed", desc := "(IIIII)I" } : Jvm.MethodName) ({ cls := "NearSpellModel", name := "feed", desc := "(IIIII)I" } : Jvm.MethodName)) ∈ wTs := wmem (i := 2117) (by decide +kernel) (by decide +kernel)
set_option maxRecDepth 20000 in
theorem wm543 : (Jvm.Cond.methodLink "NearSpellLaw" (18 : Nat) ({ cls := "NearSpell", name := "end", desc := "(I)I" } : Jvm.MethodName)) ∈ wTs := wmem (i := 543) (by decide +kernel) (by decide +kernel)
set_option maxRecDepth 20000 in
theorem wm546 : (Jvm.Cond.code ({ cls := "NearSpell", name := "end", desc := "(I)I" } : Jvm.MethodName) prog_1_method_3_code (2 : Nat) (Option.some Jvm.ClassFile.FieldType.int)) ∈ wTs := wmem (i := 546) (by decide +kernel) (by decide +kernel)
set_option maxRecDepth 20000 in
theorem wm544 : (Jvm.Cond.instanceMethod ({ cls := "NearSpell", name := "end", desc := "(I)I" } : Jvm.MethodName)) ∈ wTs := wmem (i := 544) (by decide +kernel) (by decide +kernel)
set_option maxRecDepth 20000 in
theorem wm545 : (Jvm.Cond.selects "NearSpell" ({ cls := "NearSpell", name := "end", desc := "(I)I" } : Jvm.MethodName) ({ cls := "NearSpell", name := "end", desc := "(I)I" } : Jvm.MethodName)) ∈ wTs := wmem (i := 545) (by decide +kernel) (by decide +kernel)
set_option maxRecDepth 20000 in
theorem wm2119 : (Jvm.Cond.methodLink "NearSpellLaw" (22 : Nat) ({ cls := "NearSpellModel", name := "end", desc := "(I)I" } : Jvm.MethodName)) ∈ wTs := wmem (i := 2119) (by decide +kernel) (by decide +kernel)
set_option maxRecDepth 20000 in
theorem wm2122 : (Jvm.Cond.code ({ cls := "NearSpellModel", name := "end", desc := "(I)I" } : Jvm.MethodName) prog_14_method_129_code (2 : Nat) (Option.some Jvm.ClassFile.FieldType.int)) ∈ wTs := wmem (i := 2122) (by decide +kernel) (by decide +kernel)
set_option maxRecDepth 20000 in
theorem wm2120 : (Jvm.Cond.instanceMethod ({ cls := "NearSpellModel", name := "end", desc := "(I)I" } : Jvm.MethodName)) ∈ wTs := wmem (i := 2120) (by decide +kernel) (by decide +kernel)
set_option maxRecDepth 20000 in
theorem wm2121 : (Jvm.Cond.selects "NearSpellModel" ({ cls := "NearSpellModel", name := "end", desc := "(I)I" } : Jvm.MethodName) ({ cls := "NearSpellModel", name := "end", desc := "(I)I" } : Jvm.MethodName)) ∈ wTs := wmem (i := 2121) (by decide +kernel) (by decide +kernel)
set_option maxRecDepth 20000 in
theorem wm547 : (Jvm.Cond.methodLink "NearSpellLaw" (23 : Nat) ({ cls := "NearSpell", name := "book", desc := "()I" } : Jvm.MethodName)) ∈ wTs := wmem (i := 547) (by decide +kernel) (by decide +kernel)
set_option maxRecDepth 20000 in
theorem wm550 : (Jvm.Cond.code ({ cls := "NearSpell", name := "book", desc := "()I" } : Jvm.MethodName) prog_1_method_4_code (1 : Nat) (Option.some Jvm.ClassFile.FieldType.int)) ∈ wTs := wmem (i := 550) (by decide +kernel) (by decide +kernel)
set_option maxRecDepth 20000 in
theorem wm548 : (Jvm.Cond.instanceMethod ({ cls := "NearSpell", name := "book", desc := "()I" } : Jvm.MethodName)) ∈ wTs := wmem (i := 548) (by decide +kernel) (by decide +kernel)
set_option maxRecDepth 20000 in
theorem wm549 : (Jvm.Cond.selects "NearSpell" ({ cls := "NearSpell", name := "book", desc := "()I" } : Jvm.MethodName) ({ cls := "NearSpell", name := "book", desc := "()I" } : Jvm.MethodName)) ∈ wTs := wmem (i := 549) (by decide +kernel) (by decide +kernel)
set_option maxRecDepth 20000 in
theorem wm1618 : (Jvm.Cond.methodLink "NearSpellLaw" (27 : Nat) ({ cls := "NearSpellModel", name := "book", desc := "()I" } : Jvm.MethodName)) ∈ wTs := wmem (i := 1618) (by decide +kernel) (by decide +kernel)
set_option maxRecDepth 20000 in
theorem wm1621 : (Jvm.Cond.code ({ cls := "NearSpellModel", name := "book", desc := "()I" } : Jvm.MethodName) prog_14_method_16_code (2 : Nat) (Option.some Jvm.ClassFile.FieldType.int)) ∈ wTs := wmem (i := 1621) (by decide +kernel) (by decide +kernel)
set_option maxRecDepth 20000 in
theorem wm1619 : (Jvm.Cond.instanceMethod ({ cls := "NearSpellModel", name := "book", desc := "()I" } : Jvm.MethodName)) ∈ wTs := wmem (i := 1619) (by decide +kernel) (by decide +kernel)
set_option maxRecDepth 20000 in
theorem wm1620 : (Jvm.Cond.selects "NearSpellModel" ({ cls := "NearSpellModel", name := "book", desc := "()I" } : Jvm.MethodName) ({ cls := "NearSpellModel", name := "book", desc := "()I" } : Jvm.MethodName)) ∈ wTs := wmem (i := 1620) (by decide +kernel) (by decide +kernel)
set_option maxRecDepth 20000 in
theorem wm785 : (Jvm.Cond.methodLink "NearSpellLaw" (28 : Nat) ({ cls := "NearSpell", name := "fault", desc := "(I)I" } : Jvm.MethodName)) ∈ wTs := wmem (i := 785) (by decide +kernel) (by decide +kernel)
set_option maxRecDepth 20000 in
theorem wm788 : (Jvm.Cond.code ({ cls := "NearSpell", name := "fault", desc := "(I)I" } : Jvm.MethodName) prog_1_method_5_code (2 : Nat) (Option.some Jvm.ClassFile.FieldType.int)) ∈ wTs := wmem (i := 788) (by decide +kernel) (by decide +kernel)
set_option maxRecDepth 20000 in
theorem wm786 : (Jvm.Cond.instanceMethod ({ cls := "NearSpell", name := "fault", desc := "(I)I" } : Jvm.MethodName)) ∈ wTs := wmem (i := 786) (by decide +kernel) (by decide +kernel)
set_option maxRecDepth 20000 in
theorem wm787 : (Jvm.Cond.selects "NearSpell" ({ cls := "NearSpell", name := "fault", desc := "(I)I" } : Jvm.MethodName) ({ cls := "NearSpell", name := "fault", desc := "(I)I" } : Jvm.MethodName)) ∈ wTs := wmem (i := 787) (by decide +kernel) (by decide +kernel)
set_option maxRecDepth 20000 in
theorem wm1739 : (Jvm.Cond.methodLink "NearSpellLaw" (31 : Nat) ({ cls := "NearSpellModel", name := "fault", desc := "(I)I" } : Jvm.MethodName)) ∈ wTs := wmem (i := 1739) (by decide +kernel) (by decide +kernel)
set_option maxRecDepth 20000 in
theorem wm1742 : (Jvm.Cond.code ({ cls := "NearSpellModel", name := "fault", desc := "(I)I" } : Jvm.MethodName) prog_14_method_34_code (2 : Nat) (Option.some Jvm.ClassFile.FieldType.int)) ∈ wTs := wmem (i := 1742) (by decide +kernel) (by decide +kernel)
set_option maxRecDepth 20000 in
theorem wm1740 : (Jvm.Cond.instanceMethod ({ cls := "NearSpellModel", name := "fault", desc := "(I)I" } : Jvm.MethodName)) ∈ wTs := wmem (i := 1740) (by decide +kernel) (by decide +kernel)
set_option maxRecDepth 20000 in
theorem wm1741 : (Jvm.Cond.selects "NearSpellModel" ({ cls := "NearSpellModel", name := "fault", desc := "(I)I" } : Jvm.MethodName) ({ cls := "NearSpellModel", name := "fault", desc := "(I)I" } : Jvm.MethodName)) ∈ wTs := wmem (i := 1741) (by decide +kernel) (by decide +kernel)
set_option maxRecDepth 20000 in
theorem wm789 : (Jvm.Cond.methodLink "NearSpellLaw" (32 : Nat) ({ cls := "NearSpell", name := "entry", desc := "(II)I" } : Jvm.MethodName)) ∈ wTs := wmem (i := 789) (by decide +kernel) (by decide +kernel)
set_option maxRecDepth 20000 in
theorem wm792 : (Jvm.Cond.code ({ cls := "NearSpell", name := "entry", desc := "(II)I" } : Jvm.MethodName) prog_1_method_6_code (3 : Nat) (Option.some Jvm.ClassFile.FieldType.int)) ∈ wTs := wmem (i := 792) (by decide +kernel) (by decide +kernel)
set_option maxRecDepth 20000 in
theorem wm790 : (Jvm.Cond.instanceMethod ({ cls := "NearSpell", name := "entry", desc := "(II)I" } : Jvm.MethodName)) ∈ wTs := wmem (i := 790) (by decide +kernel) (by decide +kernel)
set_option maxRecDepth 20000 in
theorem wm791 : (Jvm.Cond.selects "NearSpell" ({ cls := "NearSpell", name := "entry", desc := "(II)I" } : Jvm.MethodName) ({ cls := "NearSpell", name := "entry", desc := "(II)I" } : Jvm.MethodName)) ∈ wTs := wmem (i := 791) (by decide +kernel) (by decide +kernel)
set_option maxRecDepth 20000 in
theorem wm1743 : (Jvm.Cond.methodLink "NearSpellLaw" (36 : Nat) ({ cls := "NearSpellModel", name := "entry", desc := "(II)I" } : Jvm.MethodName)) ∈ wTs := wmem (i := 1743) (by decide +kernel) (by decide +kernel)
set_option maxRecDepth 20000 in
theorem wm1746 : (Jvm.Cond.code ({ cls := "NearSpellModel", name := "entry", desc := "(II)I" } : Jvm.MethodName) prog_14_method_68_code (3 : Nat) (Option.some Jvm.ClassFile.FieldType.int)) ∈ wTs := wmem (i := 1746) (by decide +kernel) (by decide +kernel)
set_option maxRecDepth 20000 in
theorem wm1744 : (Jvm.Cond.instanceMethod ({ cls := "NearSpellModel", name := "entry", desc := "(II)I" } : Jvm.MethodName)) ∈ wTs := wmem (i := 1744) (by decide +kernel) (by decide +kernel)
set_option maxRecDepth 20000 in
theorem wm1745 : (Jvm.Cond.selects "NearSpellModel" ({ cls := "NearSpellModel", name := "entry", desc := "(II)I" } : Jvm.MethodName) ({ cls := "NearSpellModel", name := "entry", desc := "(II)I" } : Jvm.MethodName)) ∈ wTs := wmem (i := 1745) (by decide +kernel) (by decide +kernel)
set_option maxRecDepth 20000 in
theorem wm838 : (Jvm.Cond.methodLink "NearSpellLaw" (37 : Nat) ({ cls := "NearSpell", name := "learn", desc := "(II)I" } : Jvm.MethodName)) ∈ wTs := wmem (i := 838) (by decide +kernel) (by decide +kernel)
set_option maxRecDepth 20000 in
theorem wm841 : (Jvm.Cond.code ({ cls := "NearSpell", name := "learn", desc := "(II)I" } : Jvm.MethodName) prog_1_method_7_code (4 : Nat) (Option.some Jvm.ClassFile.FieldType.int)) ∈ wTs := wmem (i := 841) (by decide +kernel) (by decide +kernel)
set_option maxRecDepth 20000 in
theorem wm839 : (Jvm.Cond.instanceMethod ({ cls := "NearSpell", name := "learn", desc := "(II)I" } : Jvm.MethodName)) ∈ wTs := wmem (i := 839) (by decide +kernel) (by decide +kernel)
set_option maxRecDepth 20000 in
theorem wm840 : (Jvm.Cond.selects "NearSpell" ({ cls := "NearSpell", name := "learn", desc := "(II)I" } : Jvm.MethodName) ({ cls := "NearSpell", name := "learn", desc := "(II)I" } : Jvm.MethodName)) ∈ wTs := wmem (i := 840) (by decide +kernel) (by decide +kernel)
set_option maxRecDepth 20000 in
theorem wm2015 : (Jvm.Cond.methodLink "NearSpellLaw" (40 : Nat) ({ cls := "NearSpellModel", name := "learn", desc := "(II)I" } : Jvm.MethodName)) ∈ wTs := wmem (i := 2015) (by decide +kernel) (by decide +kernel)
set_option maxRecDepth 20000 in
theorem wm2018 : (Jvm.Cond.code ({ cls := "NearSpellModel", name := "learn", desc := "(II)I" } : Jvm.MethodName) prog_14_method_108_code (4 : Nat) (Option.some Jvm.ClassFile.FieldType.int)) ∈ wTs := wmem (i := 2018) (by decide +kernel) (by decide +kernel)
set_option maxRecDepth 20000 in
theorem wm2016 : (Jvm.Cond.instanceMethod ({ cls := "NearSpellModel", name := "learn", desc := "(II)I" } : Jvm.MethodName)) ∈ wTs := wmem (i := 2016) (by decide +kernel) (by decide +kernel)
set_option maxRecDepth 20000 in
theorem wm2017 : (Jvm.Cond.selects "NearSpellModel" ({ cls := "NearSpellModel", name := "learn", desc := "(II)I" } : Jvm.MethodName) ({ cls := "NearSpellModel", name := "learn", desc := "(II)I" } : Jvm.MethodName)) ∈ wTs := wmem (i := 2017) (by decide +kernel) (by decide +kernel)
set_option maxRecDepth 20000 in
theorem wm860 : (Jvm.Cond.methodLink "NearSpellLaw" (41 : Nat) ({ cls := "NearSpell", name := "forget", desc := "(I)I" } : Jvm.MethodName)) ∈ wTs := wmem (i := 860) (by decide +kernel) (by decide +kernel)
set_option maxRecDepth 20000 in
theorem wm863 : (Jvm.Cond.code ({ cls := "NearSpell", name := "forget", desc := "(I)I" } : Jvm.MethodName) prog_1_method_8_code (2 : Nat) (Option.some Jvm.ClassFile.FieldType.int)) ∈ wTs := wmem (i := 863) (by decide +kernel) (by decide +kernel)
set_option maxRecDepth 20000 in
theorem wm861 : (Jvm.Cond.instanceMethod ({ cls := "NearSpell", name := "forget", desc := "(I)I" } : Jvm.MethodName)) ∈ wTs := wmem (i := 861) (by decide +kernel) (by decide +kernel)
set_option maxRecDepth 20000 in
theorem wm862 : (Jvm.Cond.selects "NearSpell" ({ cls := "NearSpell", name := "forget", desc := "(I)I" } : Jvm.MethodName) ({ cls := "NearSpell", name := "forget", desc := "(I)I" } : Jvm.MethodName)) ∈ wTs := wmem (i := 862) (by decide +kernel) (by decide +kernel)
set_option maxRecDepth 20000 in
theorem wm2027 : (Jvm.Cond.methodLink "NearSpellLaw" (44 : Nat) ({ cls := "NearSpellModel", name := "forget", desc := "(I)I" } : Jvm.MethodName)) ∈ wTs := wmem (i := 2027) (by decide +kernel) (by decide +kernel)
set_option maxRecDepth 20000 in
theorem wm2030 : (Jvm.Cond.code ({ cls := "NearSpellModel", name := "forget", desc := "(I)I" } : Jvm.MethodName) prog_14_method_109_code (2 : Nat) (Option.some Jvm.ClassFile.FieldType.int)) ∈ wTs := wmem (i := 2030) (by decide +kernel) (by decide +kernel)
set_option maxRecDepth 20000 in
theorem wm2028 : (Jvm.Cond.instanceMethod ({ cls := "NearSpellModel", name := "forget", desc := "(I)I" } : Jvm.MethodName)) ∈ wTs := wmem (i := 2028) (by decide +kernel) (by decide +kernel)
set_option maxRecDepth 20000 in
theorem wm2029 : (Jvm.Cond.selects "NearSpellModel" ({ cls := "NearSpellModel", name := "forget", desc := "(I)I" } : Jvm.MethodName) ({ cls := "NearSpellModel", name := "forget", desc := "(I)I" } : Jvm.MethodName)) ∈ wTs := wmem (i := 2029) (by decide +kernel) (by decide +kernel)
set_option maxRecDepth 20000 in
theorem wm872 : (Jvm.Cond.methodLink "NearSpellLaw" (45 : Nat) ({ cls := "NearSpell", name := "use", desc := "(I)I" } : Jvm.MethodName)) ∈ wTs := wmem (i := 872) (by decide +kernel) (by decide +kernel)
set_option maxRecDepth 20000 in
theorem wm875 : (Jvm.Cond.code ({ cls := "NearSpell", name := "use", desc := "(I)I" } : Jvm.MethodName) prog_1_method_9_code (2 : Nat) (Option.some Jvm.ClassFile.FieldType.int)) ∈ wTs := wmem (i := 875) (by decide +kernel) (by decide +kernel)
set_option maxRecDepth 20000 in
theorem wm873 : (Jvm.Cond.instanceMethod ({ cls := "NearSpell", name := "use", desc := "(I)I" } : Jvm.MethodName)) ∈ wTs := wmem (i := 873) (by decide +kernel) (by decide +kernel)
set_option maxRecDepth 20000 in
theorem wm874 : (Jvm.Cond.selects "NearSpell" ({ cls := "NearSpell", name := "use", desc := "(I)I" } : Jvm.MethodName) ({ cls := "NearSpell", name := "use", desc := "(I)I" } : Jvm.MethodName)) ∈ wTs := wmem (i := 874) (by decide +kernel) (by decide +kernel)
set_option maxRecDepth 20000 in
theorem wm2031 : (Jvm.Cond.methodLink "NearSpellLaw" (48 : Nat) ({ cls := "NearSpellModel", name := "use", desc := "(I)I" } : Jvm.MethodName)) ∈ wTs := wmem (i := 2031) (by decide +kernel) (by decide +kernel)
set_option maxRecDepth 20000 in
theorem wm2034 : (Jvm.Cond.code ({ cls := "NearSpellModel", name := "use", desc := "(I)I" } : Jvm.MethodName) prog_14_method_110_code (2 : Nat) (Option.some Jvm.ClassFile.FieldType.int)) ∈ wTs := wmem (i := 2034) (by decide +kernel) (by decide +kernel)
set_option maxRecDepth 20000 in
theorem wm2032 : (Jvm.Cond.instanceMethod ({ cls := "NearSpellModel", name := "use", desc := "(I)I" } : Jvm.MethodName)) ∈ wTs := wmem (i := 2032) (by decide +kernel) (by decide +kernel)
set_option maxRecDepth 20000 in
theorem wm2033 : (Jvm.Cond.selects "NearSpellModel" ({ cls := "NearSpellModel", name := "use", desc := "(I)I" } : Jvm.MethodName) ({ cls := "NearSpellModel", name := "use", desc := "(I)I" } : Jvm.MethodName)) ∈ wTs := wmem (i := 2033) (by decide +kernel) (by decide +kernel)
set_option maxRecDepth 20000 in
theorem wm880 : (Jvm.Cond.methodLink "NearSpellLaw" (49 : Nat) ({ cls := "NearSpell", name := "type", desc := "(I)I" } : Jvm.MethodName)) ∈ wTs := wmem (i := 880) (by decide +kernel) (by decide +kernel)
set_option maxRecDepth 20000 in
theorem wm883 : (Jvm.Cond.code ({ cls := "NearSpell", name := "type", desc := "(I)I" } : Jvm.MethodName) prog_1_method_10_code (3 : Nat) (Option.some Jvm.ClassFile.FieldType.int)) ∈ wTs := wmem (i := 883) (by decide +kernel) (by decide +kernel)
set_option maxRecDepth 20000 in
theorem wm881 : (Jvm.Cond.instanceMethod ({ cls := "NearSpell", name := "type", desc := "(I)I" } : Jvm.MethodName)) ∈ wTs := wmem (i := 881) (by decide +kernel) (by decide +kernel)
set_option maxRecDepth 20000 in
theorem wm882 : (Jvm.Cond.selects "NearSpell" ({ cls := "NearSpell", name := "type", desc := "(I)I" } : Jvm.MethodName) ({ cls := "NearSpell", name := "type", desc := "(I)I" } : Jvm.MethodName)) ∈ wTs := wmem (i := 882) (by decide +kernel) (by decide +kernel)
set_option maxRecDepth 20000 in
theorem wm2035 : (Jvm.Cond.methodLink "NearSpellLaw" (52 : Nat) ({ cls := "NearSpellModel", name := "type", desc := "(I)I" } : Jvm.MethodName)) ∈ wTs := wmem (i := 2035) (by decide +kernel) (by decide +kernel)
set_option maxRecDepth 20000 in
theorem wm2038 : (Jvm.Cond.code ({ cls := "NearSpellModel", name := "type", desc := "(I)I" } : Jvm.MethodName) prog_14_method_111_code (3 : Nat) (Option.some Jvm.ClassFile.FieldType.int)) ∈ wTs := wmem (i := 2038) (by decide +kernel) (by decide +kernel)
set_option maxRecDepth 20000 in
theorem wm2036 : (Jvm.Cond.instanceMethod ({ cls := "NearSpellModel", name := "type", desc := "(I)I" } : Jvm.MethodName)) ∈ wTs := wmem (i := 2036) (by decide +kernel) (by decide +kernel)
set_option maxRecDepth 20000 in
theorem wm2037 : (Jvm.Cond.selects "NearSpellModel" ({ cls := "NearSpellModel", name := "type", desc := "(I)I" } : Jvm.MethodName) ({ cls := "NearSpellModel", name := "type", desc := "(I)I" } : Jvm.MethodName)) ∈ wTs := wmem (i := 2037) (by decide +kernel) (by decide +kernel)
set_option maxRecDepth 20000 in
theorem wm948 : (Jvm.Cond.methodLink "NearSpellLaw" (53 : Nat) ({ cls := "NearSpell", name := "wipe", desc := "()I" } : Jvm.MethodName)) ∈ wTs := wmem (i := 948) (by decide +kernel) (by decide +kernel)
set_option maxRecDepth 20000 in
theorem wm951 : (Jvm.Cond.code ({ cls := "NearSpell", name := "wipe", desc := "()I" } : Jvm.MethodName) prog_1_method_11_code (2 : Nat) (Option.some Jvm.ClassFile.FieldType.int)) ∈ wTs := wmem (i := 951) (by decide +kernel) (by decide +kernel)
set_option maxRecDepth 20000 in
theorem wm949 : (Jvm.Cond.instanceMethod ({ cls := "NearSpell", name := "wipe", desc := "()I" } : Jvm.MethodName)) ∈ wTs := wmem (i := 949) (by decide +kernel) (by decide +kernel)
set_option maxRecDepth 20000 in
theorem wm950 : (Jvm.Cond.selects "NearSpell" ({ cls := "NearSpell", name := "wipe", desc := "()I" } : Jvm.MethodName) ({ cls := "NearSpell", name := "wipe", desc := "()I" } : Jvm.MethodName)) ∈ wTs := wmem (i := 950) (by decide +kernel) (by decide +kernel)
set_option maxRecDepth 20000 in
theorem wm2039 : (Jvm.Cond.methodLink "NearSpellLaw" (56 : Nat) ({ cls := "NearSpellModel", name := "wipe", desc := "()I" } : Jvm.MethodName)) ∈ wTs := wmem (i := 2039) (by decide +kernel) (by decide +kernel)
set_option maxRecDepth 20000 in
theorem wm2042 : (Jvm.Cond.code ({ cls := "NearSpellModel", name := "wipe", desc := "()I" } : Jvm.MethodName) prog_14_method_112_code (2 : Nat) (Option.some Jvm.ClassFile.FieldType.int)) ∈ wTs := wmem (i := 2042) (by decide +kernel) (by decide +kernel)
set_option maxRecDepth 20000 in
theorem wm2040 : (Jvm.Cond.instanceMethod ({ cls := "NearSpellModel", name := "wipe", desc := "()I" } : Jvm.MethodName)) ∈ wTs := wmem (i := 2040) (by decide +kernel) (by decide +kernel)
set_option maxRecDepth 20000 in
theorem wm2041 : (Jvm.Cond.selects "NearSpellModel" ({ cls := "NearSpellModel", name := "wipe", desc := "()I" } : Jvm.MethodName) ({ cls := "NearSpellModel", name := "wipe", desc := "()I" } : Jvm.MethodName)) ∈ wTs := wmem (i := 2041) (by decide +kernel) (by decide +kernel)
set_option maxRecDepth 20000 in
theorem wm956 : (Jvm.Cond.methodLink "NearSpellLaw" (57 : Nat) ({ cls := "NearSpell", name := "undo", desc := "()Z" } : Jvm.MethodName)) ∈ wTs := wmem (i := 956) (by decide +kernel) (by decide +kernel)
set_option maxRecDepth 20000 in
theorem wm959 : (Jvm.Cond.code ({ cls := "NearSpell", name := "undo", desc := "()Z" } : Jvm.MethodName) prog_1_method_12_code (1 : Nat) (Option.some Jvm.ClassFile.FieldType.boolean)) ∈ wTs := wmem (i := 959) (by decide +kernel) (by decide +kernel)
set_option maxRecDepth 20000 in
theorem wm957 : (Jvm.Cond.instanceMethod ({ cls := "NearSpell", name := "undo", desc := "()Z" } : Jvm.MethodName)) ∈ wTs := wmem (i := 957) (by decide +kernel) (by decide +kernel)
set_option maxRecDepth 20000 in
theorem wm958 : (Jvm.Cond.selects "NearSpell" ({ cls := "NearSpell", name := "undo", desc := "()Z" } : Jvm.MethodName) ({ cls := "NearSpell", name := "undo", desc := "()Z" } : Jvm.MethodName)) ∈ wTs := wmem (i := 958) (by decide +kernel) (by decide +kernel)
set_option maxRecDepth 20000 in
theorem wm2043 : (Jvm.Cond.methodLink "NearSpellLaw" (61 : Nat) ({ cls := "NearSpellModel", name := "undo", desc := "()Z" } : Jvm.MethodName)) ∈ wTs := wmem (i := 2043) (by decide +kernel) (by decide +kernel)
set_option maxRecDepth 20000 in
theorem wm2046 : (Jvm.Cond.code ({ cls := "NearSpellModel", name := "undo", desc := "()Z" } : Jvm.MethodName) prog_14_method_113_code (1 : Nat) (Option.some Jvm.ClassFile.FieldType.boolean)) ∈ wTs := wmem (i := 2046) (by decide +kernel) (by decide +kernel)
set_option maxRecDepth 20000 in
theorem wm2044 : (Jvm.Cond.instanceMethod ({ cls := "NearSpellModel", name := "undo", desc := "()Z" } : Jvm.MethodName)) ∈ wTs := wmem (i := 2044) (by decide +kernel) (by decide +kernel)
set_option maxRecDepth 20000 in
theorem wm2045 : (Jvm.Cond.selects "NearSpellModel" ({ cls := "NearSpellModel", name := "undo", desc := "()Z" } : Jvm.MethodName) ({ cls := "NearSpellModel", name := "undo", desc := "()Z" } : Jvm.MethodName)) ∈ wTs := wmem (i := 2045) (by decide +kernel) (by decide +kernel)
set_option maxRecDepth 20000 in
theorem wm968 : (Jvm.Cond.methodLink "NearSpellLaw" (62 : Nat) ({ cls := "NearSpell", name := "redo", desc := "()Z" } : Jvm.MethodName)) ∈ wTs := wmem (i := 968) (by decide +kernel) (by decide +kernel)
set_option maxRecDepth 20000 in
theorem wm971 : (Jvm.Cond.code ({ cls := "NearSpell", name := "redo", desc := "()Z" } : Jvm.MethodName) prog_1_method_13_code (1 : Nat) (Option.some Jvm.ClassFile.FieldType.boolean)) ∈ wTs := wmem (i := 971) (by decide +kernel) (by decide +kernel)
set_option maxRecDepth 20000 in
theorem wm969 : (Jvm.Cond.instanceMethod ({ cls := "NearSpell", name := "redo", desc := "()Z" } : Jvm.MethodName)) ∈ wTs := wmem (i := 969) (by decide +kernel) (by decide +kernel)
set_option maxRecDepth 20000 in
theorem wm970 : (Jvm.Cond.selects "NearSpell" ({ cls := "NearSpell", name := "redo", desc := "()Z" } : Jvm.MethodName) ({ cls := "NearSpell", name := "redo", desc := "()Z" } : Jvm.MethodName)) ∈ wTs := wmem (i := 970) (by decide +kernel) (by decide +kernel)
set_option maxRecDepth 20000 in
theorem wm2051 : (Jvm.Cond.methodLink "NearSpellLaw" (65 : Nat) ({ cls := "NearSpellModel", name := "redo", desc := "()Z" } : Jvm.MethodName)) ∈ wTs := wmem (i := 2051) (by decide +kernel) (by decide +kernel)
set_option maxRecDepth 20000 in
theorem wm2054 : (Jvm.Cond.code ({ cls := "NearSpellModel", name := "redo", desc := "()Z" } : Jvm.MethodName) prog_14_method_114_code (1 : Nat) (Option.some Jvm.ClassFile.FieldType.boolean)) ∈ wTs := wmem (i := 2054) (by decide +kernel) (by decide +kernel)
set_option maxRecDepth 20000 in
theorem wm2052 : (Jvm.Cond.instanceMethod ({ cls := "NearSpellModel", name := "redo", desc := "()Z" } : Jvm.MethodName)) ∈ wTs := wmem (i := 2052) (by decide +kernel) (by decide +kernel)
set_option maxRecDepth 20000 in
theorem wm2053 : (Jvm.Cond.selects "NearSpellModel" ({ cls := "NearSpellModel", name := "redo", desc := "()Z" } : Jvm.MethodName) ({ cls := "NearSpellModel", name := "redo", desc := "()Z" } : Jvm.MethodName)) ∈ wTs := wmem (i := 2053) (by decide +kernel) (by decide +kernel)
set_option maxRecDepth 20000 in
theorem wm976 : (Jvm.Cond.methodLink "NearSpellLaw" (66 : Nat) ({ cls := "NearSpell", name := "typed", desc := "(I)I" } : Jvm.MethodName)) ∈ wTs := wmem (i := 976) (by decide +kernel) (by decide +kernel)
set_option maxRecDepth 20000 in
theorem wm979 : (Jvm.Cond.code ({ cls := "NearSpell", name := "typed", desc := "(I)I" } : Jvm.MethodName) prog_1_method_14_code (2 : Nat) (Option.some Jvm.ClassFile.FieldType.int)) ∈ wTs := wmem (i := 979) (by decide +kernel) (by decide +kernel)
set_option maxRecDepth 20000 in
theorem wm977 : (Jvm.Cond.instanceMethod ({ cls := "NearSpell", name := "typed", desc := "(I)I" } : Jvm.MethodName)) ∈ wTs := wmem (i := 977) (by decide +kernel) (by decide +kernel)
set_option maxRecDepth 20000 in
theorem wm978 : (Jvm.Cond.selects "NearSpell" ({ cls := "NearSpell", name := "typed", desc := "(I)I" } : Jvm.MethodName) ({ cls := "NearSpell", name := "typed", desc := "(I)I" } : Jvm.MethodName)) ∈ wTs := wmem (i := 978) (by decide +kernel) (by decide +kernel)
set_option maxRecDepth 20000 in
theorem wm1778 : (Jvm.Cond.methodLink "NearSpellLaw" (69 : Nat) ({ cls := "NearSpellModel", name := "typed", desc := "(I)I" } : Jvm.MethodName)) ∈ wTs := wmem (i := 1778) (by decide +kernel) (by decide +kernel)
set_option maxRecDepth 20000 in
theorem wm1781 : (Jvm.Cond.code ({ cls := "NearSpellModel", name := "typed", desc := "(I)I" } : Jvm.MethodName) prog_14_method_69_code (2 : Nat) (Option.some Jvm.ClassFile.FieldType.int)) ∈ wTs := wmem (i := 1781) (by decide +kernel) (by decide +kernel)
set_option maxRecDepth 20000 in
theorem wm1779 : (Jvm.Cond.instanceMethod ({ cls := "NearSpellModel", name := "typed", desc := "(I)I" } : Jvm.MethodName)) ∈ wTs := wmem (i := 1779) (by decide +kernel) (by decide +kernel)
set_option maxRecDepth 20000 in
theorem wm1780 : (Jvm.Cond.selects "NearSpellModel" ({ cls := "NearSpellModel", name := "typed", desc := "(I)I" } : Jvm.MethodName) ({ cls := "NearSpellModel", name := "typed", desc := "(I)I" } : Jvm.MethodName)) ∈ wTs := wmem (i := 1780) (by decide +kernel) (by decide +kernel)
set_option maxRecDepth 20000 in
theorem wm984 : (Jvm.Cond.methodLink "NearSpellLaw" (70 : Nat) ({ cls := "NearSpell", name := "distance", desc := "(II)I" } : Jvm.MethodName)) ∈ wTs := wmem (i := 984) (by decide +kernel) (by decide +kernel)
set_option maxRecDepth 20000 in
theorem wm987 : (Jvm.Cond.code ({ cls := "NearSpell", name := "distance", desc := "(II)I" } : Jvm.MethodName) prog_1_method_15_code (3 : Nat) (Option.some Jvm.ClassFile.FieldType.int)) ∈ wTs := wmem (i := 987) (by decide +kernel) (by decide +kernel)
set_option maxRecDepth 20000 in
theorem wm985 : (Jvm.Cond.instanceMethod ({ cls := "NearSpell", name := "distance", desc := "(II)I" } : Jvm.MethodName)) ∈ wTs := wmem (i := 985) (by decide +kernel) (by decide +kernel)
set_option maxRecDepth 20000 in
theorem wm986 : (Jvm.Cond.selects "NearSpell" ({ cls := "NearSpell", name := "distance", desc := "(II)I" } : Jvm.MethodName) ({ cls := "NearSpell", name := "distance", desc := "(II)I" } : Jvm.MethodName)) ∈ wTs := wmem (i := 986) (by decide +kernel) (by decide +kernel)
set_option maxRecDepth 20000 in
theorem wm1782 : (Jvm.Cond.methodLink "NearSpellLaw" (73 : Nat) ({ cls := "NearSpellModel", name := "distance", desc := "(II)I" } : Jvm.MethodName)) ∈ wTs := wmem (i := 1782) (by decide +kernel) (by decide +kernel)
set_option maxRecDepth 20000 in
theorem wm1785 : (Jvm.Cond.code ({ cls := "NearSpellModel", name := "distance", desc := "(II)I" } : Jvm.MethodName) prog_14_method_70_code (3 : Nat) (Option.some Jvm.ClassFile.FieldType.int)) ∈ wTs := wmem (i := 1785) (by decide +kernel) (by decide +kernel)
set_option maxRecDepth 20000 in
theorem wm1783 : (Jvm.Cond.instanceMethod ({ cls := "NearSpellModel", name := "distance", desc := "(II)I" } : Jvm.MethodName)) ∈ wTs := wmem (i := 1783) (by decide +kernel) (by decide +kernel)
set_option maxRecDepth 20000 in
theorem wm1784 : (Jvm.Cond.selects "NearSpellModel" ({ cls := "NearSpellModel", name := "distance", desc := "(II)I" } : Jvm.MethodName) ({ cls := "NearSpellModel", name := "distance", desc := "(II)I" } : Jvm.MethodName)) ∈ wTs := wmem (i := 1784) (by decide +kernel) (by decide +kernel)
set_option maxRecDepth 20000 in
theorem wm994 : (Jvm.Cond.methodLink "NearSpellLaw" (74 : Nat) ({ cls := "NearSpell", name := "forms", desc := "(I)I" } : Jvm.MethodName)) ∈ wTs := wmem (i := 994) (by decide +kernel) (by decide +kernel)
set_option maxRecDepth 20000 in
theorem wm997 : (Jvm.Cond.code ({ cls := "NearSpell", name := "forms", desc := "(I)I" } : Jvm.MethodName) prog_1_method_16_code (4 : Nat) (Option.some Jvm.ClassFile.FieldType.int)) ∈ wTs := wmem (i := 997) (by decide +kernel) (by decide +kernel)
set_option maxRecDepth 20000 in
theorem wm995 : (Jvm.Cond.instanceMethod ({ cls := "NearSpell", name := "forms", desc := "(I)I" } : Jvm.MethodName)) ∈ wTs := wmem (i := 995) (by decide +kernel) (by decide +kernel)
set_option maxRecDepth 20000 in
theorem wm996 : (Jvm.Cond.selects "NearSpell" ({ cls := "NearSpell", name := "forms", desc := "(I)I" } : Jvm.MethodName) ({ cls := "NearSpell", name := "forms", desc := "(I)I" } : Jvm.MethodName)) ∈ wTs := wmem (i := 996) (by decide +kernel) (by decide +kernel)
set_option maxRecDepth 20000 in
theorem wm1822 : (Jvm.Cond.methodLink "NearSpellLaw" (77 : Nat) ({ cls := "NearSpellModel", name := "forms", desc := "(I)I" } : Jvm.MethodName)) ∈ wTs := wmem (i := 1822) (by decide +kernel) (by decide +kernel)
set_option maxRecDepth 20000 in
theorem wm1825 : (Jvm.Cond.code ({ cls := "NearSpellModel", name := "forms", desc := "(I)I" } : Jvm.MethodName) prog_14_method_72_code (3 : Nat) (Option.some Jvm.ClassFile.FieldType.int)) ∈ wTs := wmem (i := 1825) (by decide +kernel) (by decide +kernel)
set_option maxRecDepth 20000 in
theorem wm1823 : (Jvm.Cond.instanceMethod ({ cls := "NearSpellModel", name := "forms", desc := "(I)I" } : Jvm.MethodName)) ∈ wTs := wmem (i := 1823) (by decide +kernel) (by decide +kernel)
set_option maxRecDepth 20000 in
theorem wm1824 : (Jvm.Cond.selects "NearSpellModel" ({ cls := "NearSpellModel", name := "forms", desc := "(I)I" } : Jvm.MethodName) ({ cls := "NearSpellModel", name := "forms", desc := "(I)I" } : Jvm.MethodName)) ∈ wTs := wmem (i := 1824) (by decide +kernel) (by decide +kernel)
set_option maxRecDepth 20000 in
theorem wm999 : (Jvm.Cond.methodLink "NearSpellLaw" (78 : Nat) ({ cls := "NearSpell", name := "bucket", desc := "(I)I" } : Jvm.MethodName)) ∈ wTs := wmem (i := 999) (by decide +kernel) (by decide +kernel)
set_option maxRecDepth 20000 in
theorem wm1002 : (Jvm.Cond.code ({ cls := "NearSpell", name := "bucket", desc := "(I)I" } : Jvm.MethodName) prog_1_method_17_code (2 : Nat) (Option.some Jvm.ClassFile.FieldType.int)) ∈ wTs := wmem (i := 1002) (by decide +kernel) (by decide +kernel)
set_option maxRecDepth 20000 in
theorem wm1000 : (Jvm.Cond.instanceMethod ({ cls := "NearSpell", name := "bucket", desc := "(I)I" } : Jvm.MethodName)) ∈ wTs := wmem (i := 1000) (by decide +kernel) (by decide +kernel)
set_option maxRecDepth 20000 in
theorem wm1001 : (Jvm.Cond.selects "NearSpell" ({ cls := "NearSpell", name := "bucket", desc := "(I)I" } : Jvm.MethodName) ({ cls := "NearSpell", name := "bucket", desc := "(I)I" } : Jvm.MethodName)) ∈ wTs := wmem (i := 1001) (by decide +kernel) (by decide +kernel)
set_option maxRecDepth 20000 in
theorem wm1826 : (Jvm.Cond.methodLink "NearSpellLaw" (81 : Nat) ({ cls := "NearSpellModel", name := "bucket", desc := "(I)I" } : Jvm.MethodName)) ∈ wTs := wmem (i := 1826) (by decide +kernel) (by decide +kernel)
set_option maxRecDepth 20000 in
theorem wm1829 : (Jvm.Cond.code ({ cls := "NearSpellModel", name := "bucket", desc := "(I)I" } : Jvm.MethodName) prog_14_method_73_code (2 : Nat) (Option.some Jvm.ClassFile.FieldType.int)) ∈ wTs := wmem (i := 1829) (by decide +kernel) (by decide +kernel)
set_option maxRecDepth 20000 in
theorem wm1827 : (Jvm.Cond.instanceMethod ({ cls := "NearSpellModel", name := "bucket", desc := "(I)I" } : Jvm.MethodName)) ∈ wTs := wmem (i := 1827) (by decide +kernel) (by decide +kernel)
set_option maxRecDepth 20000 in
theorem wm1828 : (Jvm.Cond.selects "NearSpellModel" ({ cls := "NearSpellModel", name := "bucket", desc := "(I)I" } : Jvm.MethodName) ({ cls := "NearSpellModel", name := "bucket", desc := "(I)I" } : Jvm.MethodName)) ∈ wTs := wmem (i := 1828) (by decide +kernel) (by decide +kernel)
set_option maxRecDepth 20000 in
theorem wm1030 : (Jvm.Cond.methodLink "NearSpellLaw" (82 : Nat) ({ cls := "NearSpell", name := "met", desc := "(II)I" } : Jvm.MethodName)) ∈ wTs := wmem (i := 1030) (by decide +kernel) (by decide +kernel)
set_option maxRecDepth 20000 in
theorem wm1033 : (Jvm.Cond.code ({ cls := "NearSpell", name := "met", desc := "(II)I" } : Jvm.MethodName) prog_1_method_18_code (3 : Nat) (Option.some Jvm.ClassFile.FieldType.int)) ∈ wTs := wmem (i := 1033) (by decide +kernel) (by decide +kernel)
set_option maxRecDepth 20000 in
theorem wm1031 : (Jvm.Cond.instanceMethod ({ cls := "NearSpell", name := "met", desc := "(II)I" } : Jvm.MethodName)) ∈ wTs := wmem (i := 1031) (by decide +kernel) (by decide +kernel)
set_option maxRecDepth 20000 in
theorem wm1032 : (Jvm.Cond.selects "NearSpell" ({ cls := "NearSpell", name := "met", desc := "(II)I" } : Jvm.MethodName) ({ cls := "NearSpell", name := "met", desc := "(II)I" } : Jvm.MethodName)) ∈ wTs := wmem (i := 1032) (by decide +kernel) (by decide +kernel)
set_option maxRecDepth 20000 in
theorem wm1848 : (Jvm.Cond.methodLink "NearSpellLaw" (85 : Nat) ({ cls := "NearSpellModel", name := "met", desc := "(II)I" } : Jvm.MethodName)) ∈ wTs := wmem (i := 1848) (by decide +kernel) (by decide +kernel)
set_option maxRecDepth 20000 in
theorem wm1851 : (Jvm.Cond.code ({ cls := "NearSpellModel", name := "met", desc := "(II)I" } : Jvm.MethodName) prog_14_method_74_code (3 : Nat) (Option.some Jvm.ClassFile.FieldType.int)) ∈ wTs := wmem (i := 1851) (by decide +kernel) (by decide +kernel)
set_option maxRecDepth 20000 in
theorem wm1849 : (Jvm.Cond.instanceMethod ({ cls := "NearSpellModel", name := "met", desc := "(II)I" } : Jvm.MethodName)) ∈ wTs := wmem (i := 1849) (by decide +kernel) (by decide +kernel)
set_option maxRecDepth 20000 in
theorem wm1850 : (Jvm.Cond.selects "NearSpellModel" ({ cls := "NearSpellModel", name := "met", desc := "(II)I" } : Jvm.MethodName) ({ cls := "NearSpellModel", name := "met", desc := "(II)I" } : Jvm.MethodName)) ∈ wTs := wmem (i := 1850) (by decide +kernel) (by decide +kernel)
set_option maxRecDepth 20000 in
theorem wm1044 : (Jvm.Cond.methodLink "NearSpellLaw" (86 : Nat) ({ cls := "NearSpell", name := "missed", desc := "(II)I" } : Jvm.MethodName)) ∈ wTs := wmem (i := 1044) (by decide +kernel) (by decide +kernel)
set_option maxRecDepth 20000 in
theorem wm1047 : (Jvm.Cond.code ({ cls := "NearSpell", name := "missed", desc := "(II)I" } : Jvm.MethodName) prog_1_method_19_code (3 : Nat) (Option.some Jvm.ClassFile.FieldType.int)) ∈ wTs := wmem (i := 1047) (by decide +kernel) (by decide +kernel)
set_option maxRecDepth 20000 in
theorem wm1045 : (Jvm.Cond.instanceMethod ({ cls := "NearSpell", name := "missed", desc := "(II)I" } : Jvm.MethodName)) ∈ wTs := wmem (i := 1045) (by decide +kernel) (by decide +kernel)
set_option maxRecDepth 20000 in
theorem wm1046 : (Jvm.Cond.selects "NearSpell" ({ cls := "NearSpell", name := "missed", desc := "(II)I" } : Jvm.MethodName) ({ cls := "NearSpell", name := "missed", desc := "(II)I" } : Jvm.MethodName)) ∈ wTs := wmem (i := 1046) (by decide +kernel) (by decide +kernel)
set_option maxRecDepth 20000 in
theorem wm1868 : (Jvm.Cond.methodLink "NearSpellLaw" (89 : Nat) ({ cls := "NearSpellModel", name := "missed", desc := "(II)I" } : Jvm.MethodName)) ∈ wTs := wmem (i := 1868) (by decide +kernel) (by decide +kernel)
set_option maxRecDepth 20000 in
theorem wm1871 : (Jvm.Cond.code ({ cls := "NearSpellModel", name := "missed", desc := "(II)I" } : Jvm.MethodName) prog_14_method_75_code (4 : Nat) (Option.some Jvm.ClassFile.FieldType.int)) ∈ wTs := wmem (i := 1871) (by decide +kernel) (by decide +kernel)
set_option maxRecDepth 20000 in
theorem wm1869 : (Jvm.Cond.instanceMethod ({ cls := "NearSpellModel", name := "missed", desc := "(II)I" } : Jvm.MethodName)) ∈ wTs := wmem (i := 1869) (by decide +kernel) (by decide +kernel)
set_option maxRecDepth 20000 in
theorem wm1870 : (Jvm.Cond.selects "NearSpellModel" ({ cls := "NearSpellModel", name := "missed", desc := "(II)I" } : Jvm.MethodName) ({ cls := "NearSpellModel", name := "missed", desc := "(II)I" } : Jvm.MethodName)) ∈ wTs := wmem (i := 1870) (by decide +kernel) (by decide +kernel)
set_option maxRecDepth 20000 in
theorem wm1052 : (Jvm.Cond.methodLink "NearSpellLaw" (90 : Nat) ({ cls := "NearSpell", name := "nearest", desc := "(I)I" } : Jvm.MethodName)) ∈ wTs := wmem (i := 1052) (by decide +kernel) (by decide +kernel)
set_option maxRecDepth 20000 in
theorem wm1055 : (Jvm.Cond.code ({ cls := "NearSpell", name := "nearest", desc := "(I)I" } : Jvm.MethodName) prog_1_method_20_code (2 : Nat) (Option.some Jvm.ClassFile.FieldType.int)) ∈ wTs := wmem (i := 1055) (by decide +kernel) (by decide +kernel)
set_option maxRecDepth 20000 in
theorem wm1053 : (Jvm.Cond.instanceMethod ({ cls := "NearSpell", name := "nearest", desc := "(I)I" } : Jvm.MethodName)) ∈ wTs := wmem (i := 1053) (by decide +kernel) (by decide +kernel)
set_option maxRecDepth 20000 in
theorem wm1054 : (Jvm.Cond.selects "NearSpell" ({ cls := "NearSpell", name := "nearest", desc := "(I)I" } : Jvm.MethodName) ({ cls := "NearSpell", name := "nearest", desc := "(I)I" } : Jvm.MethodName)) ∈ wTs := wmem (i := 1054) (by decide +kernel) (by decide +kernel)
set_option maxRecDepth 20000 in
theorem wm1884 : (Jvm.Cond.methodLink "NearSpellLaw" (93 : Nat) ({ cls := "NearSpellModel", name := "nearest", desc := "(I)I" } : Jvm.MethodName)) ∈ wTs := wmem (i := 1884) (by decide +kernel) (by decide +kernel)
set_option maxRecDepth 20000 in
theorem wm1887 : (Jvm.Cond.code ({ cls := "NearSpellModel", name := "nearest", desc := "(I)I" } : Jvm.MethodName) prog_14_method_76_code (2 : Nat) (Option.some Jvm.ClassFile.FieldType.int)) ∈ wTs := wmem (i := 1887) (by decide +kernel) (by decide +kernel)
set_option maxRecDepth 20000 in
theorem wm1885 : (Jvm.Cond.instanceMethod ({ cls := "NearSpellModel", name := "nearest", desc := "(I)I" } : Jvm.MethodName)) ∈ wTs := wmem (i := 1885) (by decide +kernel) (by decide +kernel)
set_option maxRecDepth 20000 in
theorem wm1886 : (Jvm.Cond.selects "NearSpellModel" ({ cls := "NearSpellModel", name := "nearest", desc := "(I)I" } : Jvm.MethodName) ({ cls := "NearSpellModel", name := "nearest", desc := "(I)I" } : Jvm.MethodName)) ∈ wTs := wmem (i := 1886) (by decide +kernel) (by decide +kernel)
set_option maxRecDepth 20000 in
theorem wm1056 : (Jvm.Cond.methodLink "NearSpellLaw" (94 : Nat) ({ cls := "NearSpell", name := "near", desc := "(II)I" } : Jvm.MethodName)) ∈ wTs := wmem (i := 1056) (by decide +kernel) (by decide +kernel)
set_option maxRecDepth 20000 in
theorem wm1059 : (Jvm.Cond.code ({ cls := "NearSpell", name := "near", desc := "(II)I" } : Jvm.MethodName) prog_1_method_21_code (3 : Nat) (Option.some Jvm.ClassFile.FieldType.int)) ∈ wTs := wmem (i := 1059) (by decide +kernel) (by decide +kernel)
set_option maxRecDepth 20000 in
theorem wm1057 : (Jvm.Cond.instanceMethod ({ cls := "NearSpell", name := "near", desc := "(II)I" } : Jvm.MethodName)) ∈ wTs := wmem (i := 1057) (by decide +kernel) (by decide +kernel)
set_option maxRecDepth 20000 in
theorem wm1058 : (Jvm.Cond.selects "NearSpell" ({ cls := "NearSpell", name := "near", desc := "(II)I" } : Jvm.MethodName) ({ cls := "NearSpell", name := "near", desc := "(II)I" } : Jvm.MethodName)) ∈ wTs := wmem (i := 1058) (by decide +kernel) (by decide +kernel)
set_option maxRecDepth 20000 in
theorem wm1896 : (Jvm.Cond.methodLink "NearSpellLaw" (97 : Nat) ({ cls := "NearSpellModel", name := "near", desc := "(II)I" } : Jvm.MethodName)) ∈ wTs := wmem (i := 1896) (by decide +kernel) (by decide +kernel)
set_option maxRecDepth 20000 in
theorem wm1899 : (Jvm.Cond.code ({ cls := "NearSpellModel", name := "near", desc := "(II)I" } : Jvm.MethodName) prog_14_method_77_code (5 : Nat) (Option.some Jvm.ClassFile.FieldType.int)) ∈ wTs := wmem (i := 1899) (by decide +kernel) (by decide +kernel)
set_option maxRecDepth 20000 in
theorem wm1897 : (Jvm.Cond.instanceMethod ({ cls := "NearSpellModel", name := "near", desc := "(II)I" } : Jvm.MethodName)) ∈ wTs := wmem (i := 1897) (by decide +kernel) (by decide +kernel)
set_option maxRecDepth 20000 in
theorem wm1898 : (Jvm.Cond.selects "NearSpellModel" ({ cls := "NearSpellModel", name := "near", desc := "(II)I" } : Jvm.MethodName) ({ cls := "NearSpellModel", name := "near", desc := "(II)I" } : Jvm.MethodName)) ∈ wTs := wmem (i := 1898) (by decide +kernel) (by decide +kernel)
set_option maxRecDepth 20000 in
theorem wm1064 : (Jvm.Cond.methodLink "NearSpellLaw" (98 : Nat) ({ cls := "NearSpell", name := "split", desc := "(II)I" } : Jvm.MethodName)) ∈ wTs := wmem (i := 1064) (by decide +kernel) (by decide +kernel)
set_option maxRecDepth 20000 in
theorem wm1067 : (Jvm.Cond.code ({ cls := "NearSpell", name := "split", desc := "(II)I" } : Jvm.MethodName) prog_1_method_22_code (3 : Nat) (Option.some Jvm.ClassFile.FieldType.int)) ∈ wTs := wmem (i := 1067) (by decide +kernel) (by decide +kernel)
set_option maxRecDepth 20000 in
theorem wm1065 : (Jvm.Cond.instanceMethod ({ cls := "NearSpell", name := "split", desc := "(II)I" } : Jvm.MethodName)) ∈ wTs := wmem (i := 1065) (by decide +kernel) (by decide +kernel)
set_option maxRecDepth 20000 in
theorem wm1066 : (Jvm.Cond.selects "NearSpell" ({ cls := "NearSpell", name := "split", desc := "(II)I" } : Jvm.MethodName) ({ cls := "NearSpell", name := "split", desc := "(II)I" } : Jvm.MethodName)) ∈ wTs := wmem (i := 1066) (by decide +kernel) (by decide +kernel)
set_option maxRecDepth 20000 in
theorem wm1900 : (Jvm.Cond.methodLink "NearSpellLaw" (101 : Nat) ({ cls := "NearSpellModel", name := "split", desc := "(II)I" } : Jvm.MethodName)) ∈ wTs := wmem (i := 1900) (by decide +kernel) (by decide +kernel)
set_option maxRecDepth 20000 in
theorem wm1903 : (Jvm.Cond.code ({ cls := "NearSpellModel", name := "split", desc := "(II)I" } : Jvm.MethodName) prog_14_method_78_code (7 : Nat) (Option.some Jvm.ClassFile.FieldType.int)) ∈ wTs := wmem (i := 1903) (by decide +kernel) (by decide +kernel)
set_option maxRecDepth 20000 in
theorem wm1901 : (Jvm.Cond.instanceMethod ({ cls := "NearSpellModel", name := "split", desc := "(II)I" } : Jvm.MethodName)) ∈ wTs := wmem (i := 1901) (by decide +kernel) (by decide +kernel)
set_option maxRecDepth 20000 in
theorem wm1902 : (Jvm.Cond.selects "NearSpellModel" ({ cls := "NearSpellModel", name := "split", desc := "(II)I" } : Jvm.MethodName) ({ cls := "NearSpellModel", name := "split", desc := "(II)I" } : Jvm.MethodName)) ∈ wTs := wmem (i := 1902) (by decide +kernel) (by decide +kernel)
set_option maxRecDepth 20000 in
theorem wm1093 : (Jvm.Cond.methodLink "NearSpellLaw" (102 : Nat) ({ cls := "NearSpell", name := "join", desc := "(II)I" } : Jvm.MethodName)) ∈ wTs := wmem (i := 1093) (by decide +kernel) (by decide +kernel)
set_option maxRecDepth 20000 in
theorem wm1096 : (Jvm.Cond.code ({ cls := "NearSpell", name := "join", desc := "(II)I" } : Jvm.MethodName) prog_1_method_23_code (3 : Nat) (Option.some Jvm.ClassFile.FieldType.int)) ∈ wTs := wmem (i := 1096) (by decide +kernel) (by decide +kernel)
set_option maxRecDepth 20000 in
theorem wm1094 : (Jvm.Cond.instanceMethod ({ cls := "NearSpell", name := "join", desc := "(II)I" } : Jvm.MethodName)) ∈ wTs := wmem (i := 1094) (by decide +kernel) (by decide +kernel)
set_option maxRecDepth 20000 in
theorem wm1095 : (Jvm.Cond.selects "NearSpell" ({ cls := "NearSpell", name := "join", desc := "(II)I" } : Jvm.MethodName) ({ cls := "NearSpell", name := "join", desc := "(II)I" } : Jvm.MethodName)) ∈ wTs := wmem (i := 1095) (by decide +kernel) (by decide +kernel)
set_option maxRecDepth 20000 in
theorem wm1904 : (Jvm.Cond.methodLink "NearSpellLaw" (105 : Nat) ({ cls := "NearSpellModel", name := "join", desc := "(II)I" } : Jvm.MethodName)) ∈ wTs := wmem (i := 1904) (by decide +kernel) (by decide +kernel)
set_option maxRecDepth 20000 in
theorem wm1907 : (Jvm.Cond.code ({ cls := "NearSpellModel", name := "join", desc := "(II)I" } : Jvm.MethodName) prog_14_method_79_code (7 : Nat) (Option.some Jvm.ClassFile.FieldType.int)) ∈ wTs := wmem (i := 1907) (by decide +kernel) (by decide +kernel)
set_option maxRecDepth 20000 in
theorem wm1905 : (Jvm.Cond.instanceMethod ({ cls := "NearSpellModel", name := "join", desc := "(II)I" } : Jvm.MethodName)) ∈ wTs := wmem (i := 1905) (by decide +kernel) (by decide +kernel)
set_option maxRecDepth 20000 in
theorem wm1906 : (Jvm.Cond.selects "NearSpellModel" ({ cls := "NearSpellModel", name := "join", desc := "(II)I" } : Jvm.MethodName) ({ cls := "NearSpellModel", name := "join", desc := "(II)I" } : Jvm.MethodName)) ∈ wTs := wmem (i := 1906) (by decide +kernel) (by decide +kernel)
set_option maxRecDepth 20000 in
theorem wm1111 : (Jvm.Cond.methodLink "NearSpellLaw" (106 : Nat) ({ cls := "NearSpell", name := "reading", desc := "()I" } : Jvm.MethodName)) ∈ wTs := wmem (i := 1111) (by decide +kernel) (by decide +kernel)
set_option maxRecDepth 20000 in
theorem wm1114 : (Jvm.Cond.code ({ cls := "NearSpell", name := "reading", desc := "()I" } : Jvm.MethodName) prog_1_method_24_code (1 : Nat) (Option.some Jvm.ClassFile.FieldType.int)) ∈ wTs := wmem (i := 1114) (by decide +kernel) (by decide +kernel)
set_option maxRecDepth 20000 in
theorem wm1112 : (Jvm.Cond.instanceMethod ({ cls := "NearSpell", name := "reading", desc := "()I" } : Jvm.MethodName)) ∈ wTs := wmem (i := 1112) (by decide +kernel) (by decide +kernel)
set_option maxRecDepth 20000 in
theorem wm1113 : (Jvm.Cond.selects "NearSpell" ({ cls := "NearSpell", name := "reading", desc := "()I" } : Jvm.MethodName) ({ cls := "NearSpell", name := "reading", desc := "()I" } : Jvm.MethodName)) ∈ wTs := wmem (i := 1113) (by decide +kernel) (by decide +kernel)
set_option maxRecDepth 20000 in
theorem wm1908 : (Jvm.Cond.methodLink "NearSpellLaw" (109 : Nat) ({ cls := "NearSpellModel", name := "reading", desc := "()I" } : Jvm.MethodName)) ∈ wTs := wmem (i := 1908) (by decide +kernel) (by decide +kernel)
set_option maxRecDepth 20000 in
theorem wm1911 : (Jvm.Cond.code ({ cls := "NearSpellModel", name := "reading", desc := "()I" } : Jvm.MethodName) prog_14_method_84_code (1 : Nat) (Option.some Jvm.ClassFile.FieldType.int)) ∈ wTs := wmem (i := 1911) (by decide +kernel) (by decide +kernel)
set_option maxRecDepth 20000 in
theorem wm1909 : (Jvm.Cond.instanceMethod ({ cls := "NearSpellModel", name := "reading", desc := "()I" } : Jvm.MethodName)) ∈ wTs := wmem (i := 1909) (by decide +kernel) (by decide +kernel)
set_option maxRecDepth 20000 in
theorem wm1910 : (Jvm.Cond.selects "NearSpellModel" ({ cls := "NearSpellModel", name := "reading", desc := "()I" } : Jvm.MethodName) ({ cls := "NearSpellModel", name := "reading", desc := "()I" } : Jvm.MethodName)) ∈ wTs := wmem (i := 1910) (by decide +kernel) (by decide +kernel)
set_option maxRecDepth 20000 in
theorem wm1135 : (Jvm.Cond.methodLink "NearSpellLaw" (110 : Nat) ({ cls := "NearSpell", name := "readings", desc := "()I" } : Jvm.MethodName)) ∈ wTs := wmem (i := 1135) (by decide +kernel) (by decide +kernel)
set_option maxRecDepth 20000 in
theorem wm1138 : (Jvm.Cond.code ({ cls := "NearSpell", name := "readings", desc := "()I" } : Jvm.MethodName) prog_1_method_25_code (1 : Nat) (Option.some Jvm.ClassFile.FieldType.int)) ∈ wTs := wmem (i := 1138) (by decide +kernel) (by decide +kernel)
set_option maxRecDepth 20000 in
theorem wm1136 : (Jvm.Cond.instanceMethod ({ cls := "NearSpell", name := "readings", desc := "()I" } : Jvm.MethodName)) ∈ wTs := wmem (i := 1136) (by decide +kernel) (by decide +kernel)
set_option maxRecDepth 20000 in
theorem wm1137 : (Jvm.Cond.selects "NearSpell" ({ cls := "NearSpell", name := "readings", desc := "()I" } : Jvm.MethodName) ({ cls := "NearSpell", name := "readings", desc := "()I" } : Jvm.MethodName)) ∈ wTs := wmem (i := 1137) (by decide +kernel) (by decide +kernel)
set_option maxRecDepth 20000 in
theorem wm1928 : (Jvm.Cond.methodLink "NearSpellLaw" (113 : Nat) ({ cls := "NearSpellModel", name := "readings", desc := "()I" } : Jvm.MethodName)) ∈ wTs := wmem (i := 1928) (by decide +kernel) (by decide +kernel)
set_option maxRecDepth 20000 in
theorem wm1931 : (Jvm.Cond.code ({ cls := "NearSpellModel", name := "readings", desc := "()I" } : Jvm.MethodName) prog_14_method_85_code (1 : Nat) (Option.some Jvm.ClassFile.FieldType.int)) ∈ wTs := wmem (i := 1931) (by decide +kernel) (by decide +kernel)
set_option maxRecDepth 20000 in
theorem wm1929 : (Jvm.Cond.instanceMethod ({ cls := "NearSpellModel", name := "readings", desc := "()I" } : Jvm.MethodName)) ∈ wTs := wmem (i := 1929) (by decide +kernel) (by decide +kernel)
set_option maxRecDepth 20000 in
theorem wm1930 : (Jvm.Cond.selects "NearSpellModel" ({ cls := "NearSpellModel", name := "readings", desc := "()I" } : Jvm.MethodName) ({ cls := "NearSpellModel", name := "readings", desc := "()I" } : Jvm.MethodName)) ∈ wTs := wmem (i := 1930) (by decide +kernel) (by decide +kernel)
set_option maxRecDepth 20000 in
theorem wm1143 : (Jvm.Cond.methodLink "NearSpellLaw" (114 : Nat) ({ cls := "NearSpell", name := "closest", desc := "(I)I" } : Jvm.MethodName)) ∈ wTs := wmem (i := 1143) (by decide +kernel) (by decide +kernel)
set_option maxRecDepth 20000 in
theorem wm1146 : (Jvm.Cond.code ({ cls := "NearSpell", name := "closest", desc := "(I)I" } : Jvm.MethodName) prog_1_method_26_code (2 : Nat) (Option.some Jvm.ClassFile.FieldType.int)) ∈ wTs := wmem (i := 1146) (by decide +kernel) (by decide +kernel)
set_option maxRecDepth 20000 in
theorem wm1144 : (Jvm.Cond.instanceMethod ({ cls := "NearSpell", name := "closest", desc := "(I)I" } : Jvm.MethodName)) ∈ wTs := wmem (i := 1144) (by decide +kernel) (by decide +kernel)
set_option maxRecDepth 20000 in
theorem wm1145 : (Jvm.Cond.selects "NearSpell" ({ cls := "NearSpell", name := "closest", desc := "(I)I" } : Jvm.MethodName) ({ cls := "NearSpell", name := "closest", desc := "(I)I" } : Jvm.MethodName)) ∈ wTs := wmem (i := 1145) (by decide +kernel) (by decide +kernel)
set_option maxRecDepth 20000 in
theorem wm1932 : (Jvm.Cond.methodLink "NearSpellLaw" (117 : Nat) ({ cls := "NearSpellModel", name := "closest", desc := "(I)I" } : Jvm.MethodName)) ∈ wTs := wmem (i := 1932) (by decide +kernel) (by decide +kernel)
set_option maxRecDepth 20000 in
theorem wm1935 : (Jvm.Cond.code ({ cls := "NearSpellModel", name := "closest", desc := "(I)I" } : Jvm.MethodName) prog_14_method_88_code (5 : Nat) (Option.some Jvm.ClassFile.FieldType.int)) ∈ wTs := wmem (i := 1935) (by decide +kernel) (by decide +kernel)
set_option maxRecDepth 20000 in
theorem wm1933 : (Jvm.Cond.instanceMethod ({ cls := "NearSpellModel", name := "closest", desc := "(I)I" } : Jvm.MethodName)) ∈ wTs := wmem (i := 1933) (by decide +kernel) (by decide +kernel)
set_option maxRecDepth 20000 in
theorem wm1934 : (Jvm.Cond.selects "NearSpellModel" ({ cls := "NearSpellModel", name := "closest", desc := "(I)I" } : Jvm.MethodName) ({ cls := "NearSpellModel", name := "closest", desc := "(I)I" } : Jvm.MethodName)) ∈ wTs := wmem (i := 1934) (by decide +kernel) (by decide +kernel)
set_option maxRecDepth 20000 in
theorem wm1164 : (Jvm.Cond.methodLink "NearSpellLaw" (118 : Nat) ({ cls := "NearSpell", name := "groups", desc := "(I)I" } : Jvm.MethodName)) ∈ wTs := wmem (i := 1164) (by decide +kernel) (by decide +kernel)
set_option maxRecDepth 20000 in
theorem wm1167 : (Jvm.Cond.code ({ cls := "NearSpell", name := "groups", desc := "(I)I" } : Jvm.MethodName) prog_1_method_27_code (2 : Nat) (Option.some Jvm.ClassFile.FieldType.int)) ∈ wTs := wmem (i := 1167) (by decide +kernel) (by decide +kernel)
set_option maxRecDepth 20000 in
theorem wm1165 : (Jvm.Cond.instanceMethod ({ cls := "NearSpell", name := "groups", desc := "(I)I" } : Jvm.MethodName)) ∈ wTs := wmem (i := 1165) (by decide +kernel) (by decide +kernel)
set_option maxRecDepth 20000 in
theorem wm1166 : (Jvm.Cond.selects "NearSpell" ({ cls := "NearSpell", name := "groups", desc := "(I)I" } : Jvm.MethodName) ({ cls := "NearSpell", name := "groups", desc := "(I)I" } : Jvm.MethodName)) ∈ wTs := wmem (i := 1166) (by decide +kernel) (by decide +kernel)
set_option maxRecDepth 20000 in
theorem wm1944 : (Jvm.Cond.methodLink "NearSpellLaw" (121 : Nat) ({ cls := "NearSpellModel", name := "groups", desc := "(I)I" } : Jvm.MethodName)) ∈ wTs := wmem (i := 1944) (by decide +kernel) (by decide +kernel)
set_option maxRecDepth 20000 in
theorem wm1947 : (Jvm.Cond.code ({ cls := "NearSpellModel", name := "groups", desc := "(I)I" } : Jvm.MethodName) prog_14_method_90_code (6 : Nat) (Option.some Jvm.ClassFile.FieldType.int)) ∈ wTs := wmem (i := 1947) (by decide +kernel) (by decide +kernel)
set_option maxRecDepth 20000 in
theorem wm1945 : (Jvm.Cond.instanceMethod ({ cls := "NearSpellModel", name := "groups", desc := "(I)I" } : Jvm.MethodName)) ∈ wTs := wmem (i := 1945) (by decide +kernel) (by decide +kernel)
set_option maxRecDepth 20000 in
theorem wm1946 : (Jvm.Cond.selects "NearSpellModel" ({ cls := "NearSpellModel", name := "groups", desc := "(I)I" } : Jvm.MethodName) ({ cls := "NearSpellModel", name := "groups", desc := "(I)I" } : Jvm.MethodName)) ∈ wTs := wmem (i := 1946) (by decide +kernel) (by decide +kernel)
set_option maxRecDepth 20000 in
theorem wm1184 : (Jvm.Cond.methodLink "NearSpellLaw" (122 : Nat) ({ cls := "NearSpell", name := "far", desc := "(II)I" } : Jvm.MethodName)) ∈ wTs := wmem (i := 1184) (by decide +kernel) (by decide +kernel)
set_option maxRecDepth 20000 in
theorem wm1187 : (Jvm.Cond.code ({ cls := "NearSpell", name := "far", desc := "(II)I" } : Jvm.MethodName) prog_1_method_28_code (4 : Nat) (Option.some Jvm.ClassFile.FieldType.int)) ∈ wTs := wmem (i := 1187) (by decide +kernel) (by decide +kernel)
set_option maxRecDepth 20000 in
theorem wm1185 : (Jvm.Cond.instanceMethod ({ cls := "NearSpell", name := "far", desc := "(II)I" } : Jvm.MethodName)) ∈ wTs := wmem (i := 1185) (by decide +kernel) (by decide +kernel)
set_option maxRecDepth 20000 in
theorem wm1186 : (Jvm.Cond.selects "NearSpell" ({ cls := "NearSpell", name := "far", desc := "(II)I" } : Jvm.MethodName) ({ cls := "NearSpell", name := "far", desc := "(II)I" } : Jvm.MethodName)) ∈ wTs := wmem (i := 1186) (by decide +kernel) (by decide +kernel)
set_option maxRecDepth 20000 in
theorem wm1959 : (Jvm.Cond.methodLink "NearSpellLaw" (125 : Nat) ({ cls := "NearSpellModel", name := "far", desc := "(II)I" } : Jvm.MethodName)) ∈ wTs := wmem (i := 1959) (by decide +kernel) (by decide +kernel)
set_option maxRecDepth 20000 in
theorem wm1962 : (Jvm.Cond.code ({ cls := "NearSpellModel", name := "far", desc := "(II)I" } : Jvm.MethodName) prog_14_method_92_code (7 : Nat) (Option.some Jvm.ClassFile.FieldType.int)) ∈ wTs := wmem (i := 1962) (by decide +kernel) (by decide +kernel)
set_option maxRecDepth 20000 in
theorem wm1960 : (Jvm.Cond.instanceMethod ({ cls := "NearSpellModel", name := "far", desc := "(II)I" } : Jvm.MethodName)) ∈ wTs := wmem (i := 1960) (by decide +kernel) (by decide +kernel)
set_option maxRecDepth 20000 in
theorem wm1961 : (Jvm.Cond.selects "NearSpellModel" ({ cls := "NearSpellModel", name := "far", desc := "(II)I" } : Jvm.MethodName) ({ cls := "NearSpellModel", name := "far", desc := "(II)I" } : Jvm.MethodName)) ∈ wTs := wmem (i := 1961) (by decide +kernel) (by decide +kernel)
set_option maxRecDepth 20000 in
theorem wm1204 : (Jvm.Cond.methodLink "NearSpellLaw" (126 : Nat) ({ cls := "NearSpell", name := "middle", desc := "()I" } : Jvm.MethodName)) ∈ wTs := wmem (i := 1204) (by decide +kernel) (by decide +kernel)
set_option maxRecDepth 20000 in
theorem wm1207 : (Jvm.Cond.code ({ cls := "NearSpell", name := "middle", desc := "()I" } : Jvm.MethodName) prog_1_method_29_code (1 : Nat) (Option.some Jvm.ClassFile.FieldType.int)) ∈ wTs := wmem (i := 1207) (by decide +kernel) (by decide +kernel)
set_option maxRecDepth 20000 in
theorem wm1205 : (Jvm.Cond.instanceMethod ({ cls := "NearSpell", name := "middle", desc := "()I" } : Jvm.MethodName)) ∈ wTs := wmem (i := 1205) (by decide +kernel) (by decide +kernel)
set_option maxRecDepth 20000 in
theorem wm1206 : (Jvm.Cond.selects "NearSpell" ({ cls := "NearSpell", name := "middle", desc := "()I" } : Jvm.MethodName) ({ cls := "NearSpell", name := "middle", desc := "()I" } : Jvm.MethodName)) ∈ wTs := wmem (i := 1206) (by decide +kernel) (by decide +kernel)
set_option maxRecDepth 20000 in
theorem wm1967 : (Jvm.Cond.methodLink "NearSpellLaw" (129 : Nat) ({ cls := "NearSpellModel", name := "middle", desc := "()I" } : Jvm.MethodName)) ∈ wTs := wmem (i := 1967) (by decide +kernel) (by decide +kernel)
set_option maxRecDepth 20000 in
theorem wm1970 : (Jvm.Cond.code ({ cls := "NearSpellModel", name := "middle", desc := "()I" } : Jvm.MethodName) prog_14_method_93_code (6 : Nat) (Option.some Jvm.ClassFile.FieldType.int)) ∈ wTs := wmem (i := 1970) (by decide +kernel) (by decide +kernel)
set_option maxRecDepth 20000 in
theorem wm1968 : (Jvm.Cond.instanceMethod ({ cls := "NearSpellModel", name := "middle", desc := "()I" } : Jvm.MethodName)) ∈ wTs := wmem (i := 1968) (by decide +kernel) (by decide +kernel)
set_option maxRecDepth 20000 in
theorem wm1969 : (Jvm.Cond.selects "NearSpellModel" ({ cls := "NearSpellModel", name := "middle", desc := "()I" } : Jvm.MethodName) ({ cls := "NearSpellModel", name := "middle", desc := "()I" } : Jvm.MethodName)) ∈ wTs := wmem (i := 1969) (by decide +kernel) (by decide +kernel)
set_option maxRecDepth 20000 in
theorem wm1216 : (Jvm.Cond.methodLink "NearSpellLaw" (130 : Nat) ({ cls := "NearSpell", name := "chain", desc := "(III)I" } : Jvm.MethodName)) ∈ wTs := wmem (i := 1216) (by decide +kernel) (by decide +kernel)
set_option maxRecDepth 20000 in
theorem wm1219 : (Jvm.Cond.code ({ cls := "NearSpell", name := "chain", desc := "(III)I" } : Jvm.MethodName) prog_1_method_30_code (4 : Nat) (Option.some Jvm.ClassFile.FieldType.int)) ∈ wTs := wmem (i := 1219) (by decide +kernel) (by decide +kernel)
set_option maxRecDepth 20000 in
theorem wm1217 : (Jvm.Cond.instanceMethod ({ cls := "NearSpell", name := "chain", desc := "(III)I" } : Jvm.MethodName)) ∈ wTs := wmem (i := 1217) (by decide +kernel) (by decide +kernel)
set_option maxRecDepth 20000 in
theorem wm1218 : (Jvm.Cond.selects "NearSpell" ({ cls := "NearSpell", name := "chain", desc := "(III)I" } : Jvm.MethodName) ({ cls := "NearSpell", name := "chain", desc := "(III)I" } : Jvm.MethodName)) ∈ wTs := wmem (i := 1218) (by decide +kernel) (by decide +kernel)
set_option maxRecDepth 20000 in
theorem wm1971 : (Jvm.Cond.methodLink "NearSpellLaw" (134 : Nat) ({ cls := "NearSpellModel", name := "chain", desc := "(III)I" } : Jvm.MethodName)) ∈ wTs := wmem (i := 1971) (by decide +kernel) (by decide +kernel)
set_option maxRecDepth 20000 in
theorem wm1974 : (Jvm.Cond.code ({ cls := "NearSpellModel", name := "chain", desc := "(III)I" } : Jvm.MethodName) prog_14_method_94_code (6 : Nat) (Option.some Jvm.ClassFile.FieldType.int)) ∈ wTs := wmem (i := 1974) (by decide +kernel) (by decide +kernel)
set_option maxRecDepth 20000 in
theorem wm1972 : (Jvm.Cond.instanceMethod ({ cls := "NearSpellModel", name := "chain", desc := "(III)I" } : Jvm.MethodName)) ∈ wTs := wmem (i := 1972) (by decide +kernel) (by decide +kernel)
set_option maxRecDepth 20000 in
theorem wm1973 : (Jvm.Cond.selects "NearSpellModel" ({ cls := "NearSpellModel", name := "chain", desc := "(III)I" } : Jvm.MethodName) ({ cls := "NearSpellModel", name := "chain", desc := "(III)I" } : Jvm.MethodName)) ∈ wTs := wmem (i := 1973) (by decide +kernel) (by decide +kernel)
set_option maxRecDepth 20000 in
theorem wm1224 : (Jvm.Cond.methodLink "NearSpellLaw" (135 : Nat) ({ cls := "NearSpell", name := "begins", desc := "(I)I" } : Jvm.MethodName)) ∈ wTs := wmem (i := 1224) (by decide +kernel) (by decide +kernel)
set_option maxRecDepth 20000 in
theorem wm1227 : (Jvm.Cond.code ({ cls := "NearSpell", name := "begins", desc := "(I)I" } : Jvm.MethodName) prog_1_method_31_code (2 : Nat) (Option.some Jvm.ClassFile.FieldType.int)) ∈ wTs := wmem (i := 1227) (by decide +kernel) (by decide +kernel)
set_option maxRecDepth 20000 in
theorem wm1225 : (Jvm.Cond.instanceMethod ({ cls := "NearSpell", name := "begins", desc := "(I)I" } : Jvm.MethodName)) ∈ wTs := wmem (i := 1225) (by decide +kernel) (by decide +kernel)
set_option maxRecDepth 20000 in
theorem wm1226 : (Jvm.Cond.selects "NearSpell" ({ cls := "NearSpell", name := "begins", desc := "(I)I" } : Jvm.MethodName) ({ cls := "NearSpell", name := "begins", desc := "(I)I" } : Jvm.MethodName)) ∈ wTs := wmem (i := 1226) (by decide +kernel) (by decide +kernel)
set_option maxRecDepth 20000 in
theorem wm1975 : (Jvm.Cond.methodLink "NearSpellLaw" (138 : Nat) ({ cls := "NearSpellModel", name := "begins", desc := "(I)I" } : Jvm.MethodName)) ∈ wTs := wmem (i := 1975) (by decide +kernel) (by decide +kernel)
set_option maxRecDepth 20000 in
theorem wm1978 : (Jvm.Cond.code ({ cls := "NearSpellModel", name := "begins", desc := "(I)I" } : Jvm.MethodName) prog_14_method_95_code (5 : Nat) (Option.some Jvm.ClassFile.FieldType.int)) ∈ wTs := wmem (i := 1978) (by decide +kernel) (by decide +kernel)
set_option maxRecDepth 20000 in
theorem wm1976 : (Jvm.Cond.instanceMethod ({ cls := "NearSpellModel", name := "begins", desc := "(I)I" } : Jvm.MethodName)) ∈ wTs := wmem (i := 1976) (by decide +kernel) (by decide +kernel)
set_option maxRecDepth 20000 in
theorem wm1977 : (Jvm.Cond.selects "NearSpellModel" ({ cls := "NearSpellModel", name := "begins", desc := "(I)I" } : Jvm.MethodName) ({ cls := "NearSpellModel", name := "begins", desc := "(I)I" } : Jvm.MethodName)) ∈ wTs := wmem (i := 1977) (by decide +kernel) (by decide +kernel)
set_option maxRecDepth 20000 in
theorem wm1234 : (Jvm.Cond.methodLink "NearSpellLaw" (139 : Nat) ({ cls := "NearSpell", name := "crowded", desc := "(I)I" } : Jvm.MethodName)) ∈ wTs := wmem (i := 1234) (by decide +kernel) (by decide +kernel)
set_option maxRecDepth 20000 in
theorem wm1237 : (Jvm.Cond.code ({ cls := "NearSpell", name := "crowded", desc := "(I)I" } : Jvm.MethodName) prog_1_method_32_code (2 : Nat) (Option.some Jvm.ClassFile.FieldType.int)) ∈ wTs := wmem (i := 1237) (by decide +kernel) (by decide +kernel)
set_option maxRecDepth 20000 in
theorem wm1235 : (Jvm.Cond.instanceMethod ({ cls := "NearSpell", name := "crowded", desc := "(I)I" } : Jvm.MethodName)) ∈ wTs := wmem (i := 1235) (by decide +kernel) (by decide +kernel)
set_option maxRecDepth 20000 in
theorem wm1236 : (Jvm.Cond.selects "NearSpell" ({ cls := "NearSpell", name := "crowded", desc := "(I)I" } : Jvm.MethodName) ({ cls := "NearSpell", name := "crowded", desc := "(I)I" } : Jvm.MethodName)) ∈ wTs := wmem (i := 1236) (by decide +kernel) (by decide +kernel)
set_option maxRecDepth 20000 in
theorem wm1979 : (Jvm.Cond.methodLink "NearSpellLaw" (142 : Nat) ({ cls := "NearSpellModel", name := "crowded", desc := "(I)I" } : Jvm.MethodName)) ∈ wTs := wmem (i := 1979) (by decide +kernel) (by decide +kernel)
set_option maxRecDepth 20000 in
theorem wm1982 : (Jvm.Cond.code ({ cls := "NearSpellModel", name := "crowded", desc := "(I)I" } : Jvm.MethodName) prog_14_method_96_code (4 : Nat) (Option.some Jvm.ClassFile.FieldType.int)) ∈ wTs := wmem (i := 1982) (by decide +kernel) (by decide +kernel)
set_option maxRecDepth 20000 in
theorem wm1980 : (Jvm.Cond.instanceMethod ({ cls := "NearSpellModel", name := "crowded", desc := "(I)I" } : Jvm.MethodName)) ∈ wTs := wmem (i := 1980) (by decide +kernel) (by decide +kernel)
set_option maxRecDepth 20000 in
theorem wm1981 : (Jvm.Cond.selects "NearSpellModel" ({ cls := "NearSpellModel", name := "crowded", desc := "(I)I" } : Jvm.MethodName) ({ cls := "NearSpellModel", name := "crowded", desc := "(I)I" } : Jvm.MethodName)) ∈ wTs := wmem (i := 1981) (by decide +kernel) (by decide +kernel)
set_option maxRecDepth 20000 in
theorem wm1242 : (Jvm.Cond.methodLink "NearSpellLaw" (143 : Nat) ({ cls := "NearSpell", name := "load", desc := "(I)I" } : Jvm.MethodName)) ∈ wTs := wmem (i := 1242) (by decide +kernel) (by decide +kernel)
set_option maxRecDepth 20000 in
theorem wm1245 : (Jvm.Cond.code ({ cls := "NearSpell", name := "load", desc := "(I)I" } : Jvm.MethodName) prog_1_method_33_code (2 : Nat) (Option.some Jvm.ClassFile.FieldType.int)) ∈ wTs := wmem (i := 1245) (by decide +kernel) (by decide +kernel)
set_option maxRecDepth 20000 in
theorem wm1243 : (Jvm.Cond.instanceMethod ({ cls := "NearSpell", name := "load", desc := "(I)I" } : Jvm.MethodName)) ∈ wTs := wmem (i := 1243) (by decide +kernel) (by decide +kernel)
set_option maxRecDepth 20000 in
theorem wm1244 : (Jvm.Cond.selects "NearSpell" ({ cls := "NearSpell", name := "load", desc := "(I)I" } : Jvm.MethodName) ({ cls := "NearSpell", name := "load", desc := "(I)I" } : Jvm.MethodName)) ∈ wTs := wmem (i := 1244) (by decide +kernel) (by decide +kernel)
set_option maxRecDepth 20000 in
theorem wm1983 : (Jvm.Cond.methodLink "NearSpellLaw" (146 : Nat) ({ cls := "NearSpellModel", name := "load", desc := "(I)I" } : Jvm.MethodName)) ∈ wTs := wmem (i := 1983) (by decide +kernel) (by decide +kernel)
set_option maxRecDepth 20000 in
theorem wm1986 : (Jvm.Cond.code ({ cls := "NearSpellModel", name := "load", desc := "(I)I" } : Jvm.MethodName) prog_14_method_98_code (3 : Nat) (Option.some Jvm.ClassFile.FieldType.int)) ∈ wTs := wmem (i := 1986) (by decide +kernel) (by decide +kernel)
set_option maxRecDepth 20000 in
theorem wm1984 : (Jvm.Cond.instanceMethod ({ cls := "NearSpellModel", name := "load", desc := "(I)I" } : Jvm.MethodName)) ∈ wTs := wmem (i := 1984) (by decide +kernel) (by decide +kernel)
set_option maxRecDepth 20000 in
theorem wm1985 : (Jvm.Cond.selects "NearSpellModel" ({ cls := "NearSpellModel", name := "load", desc := "(I)I" } : Jvm.MethodName) ({ cls := "NearSpellModel", name := "load", desc := "(I)I" } : Jvm.MethodName)) ∈ wTs := wmem (i := 1985) (by decide +kernel) (by decide +kernel)
set_option maxRecDepth 20000 in
theorem wm1270 : (Jvm.Cond.methodLink "NearSpellLaw" (147 : Nat) ({ cls := "NearSpell", name := "fullest", desc := "()I" } : Jvm.MethodName)) ∈ wTs := wmem (i := 1270) (by decide +kernel) (by decide +kernel)
set_option maxRecDepth 20000 in
theorem wm1273 : (Jvm.Cond.code ({ cls := "NearSpell", name := "fullest", desc := "()I" } : Jvm.MethodName) prog_1_method_34_code (1 : Nat) (Option.some Jvm.ClassFile.FieldType.int)) ∈ wTs := wmem (i := 1273) (by decide +kernel) (by decide +kernel)
set_option maxRecDepth 20000 in
theorem wm1271 : (Jvm.Cond.instanceMethod ({ cls := "NearSpell", name := "fullest", desc := "()I" } : Jvm.MethodName)) ∈ wTs := wmem (i := 1271) (by decide +kernel) (by decide +kernel)
set_option maxRecDepth 20000 in
theorem wm1272 : (Jvm.Cond.selects "NearSpell" ({ cls := "NearSpell", name := "fullest", desc := "()I" } : Jvm.MethodName) ({ cls := "NearSpell", name := "fullest", desc := "()I" } : Jvm.MethodName)) ∈ wTs := wmem (i := 1272) (by decide +kernel) (by decide +kernel)
set_option maxRecDepth 20000 in
theorem wm1991 : (Jvm.Cond.methodLink "NearSpellLaw" (150 : Nat) ({ cls := "NearSpellModel", name := "fullest", desc := "()I" } : Jvm.MethodName)) ∈ wTs := wmem (i := 1991) (by decide +kernel) (by decide +kernel)
set_option maxRecDepth 20000 in
theorem wm1994 : (Jvm.Cond.code ({ cls := "NearSpellModel", name := "fullest", desc := "()I" } : Jvm.MethodName) prog_14_method_99_code (6 : Nat) (Option.some Jvm.ClassFile.FieldType.int)) ∈ wTs := wmem (i := 1994) (by decide +kernel) (by decide +kernel)
set_option maxRecDepth 20000 in
theorem wm1992 : (Jvm.Cond.instanceMethod ({ cls := "NearSpellModel", name := "fullest", desc := "()I" } : Jvm.MethodName)) ∈ wTs := wmem (i := 1992) (by decide +kernel) (by decide +kernel)
set_option maxRecDepth 20000 in
theorem wm1993 : (Jvm.Cond.selects "NearSpellModel" ({ cls := "NearSpellModel", name := "fullest", desc := "()I" } : Jvm.MethodName) ({ cls := "NearSpellModel", name := "fullest", desc := "()I" } : Jvm.MethodName)) ∈ wTs := wmem (i := 1993) (by decide +kernel) (by decide +kernel)
set_option maxRecDepth 20000 in
theorem wm1278 : (Jvm.Cond.methodLink "NearSpellLaw" (151 : Nat) ({ cls := "NearSpell", name := "store", desc := "()I" } : Jvm.MethodName)) ∈ wTs := wmem (i := 1278) (by decide +kernel) (by decide +kernel)
set_option maxRecDepth 20000 in
theorem wm1281 : (Jvm.Cond.code ({ cls := "NearSpell", name := "store", desc := "()I" } : Jvm.MethodName) prog_1_method_35_code (1 : Nat) (Option.some Jvm.ClassFile.FieldType.int)) ∈ wTs := wmem (i := 1281) (by decide +kernel) (by decide +kernel)
set_option maxRecDepth 20000 in
theorem wm1279 : (Jvm.Cond.instanceMethod ({ cls := "NearSpell", name := "store", desc := "()I" } : Jvm.MethodName)) ∈ wTs := wmem (i := 1279) (by decide +kernel) (by decide +kernel)
set_option maxRecDepth 20000 in
theorem wm1280 : (Jvm.Cond.selects "NearSpell" ({ cls := "NearSpell", name := "store", desc := "()I" } : Jvm.MethodName) ({ cls := "NearSpell", name := "store", desc := "()I" } : Jvm.MethodName)) ∈ wTs := wmem (i := 1280) (by decide +kernel) (by decide +kernel)
set_option maxRecDepth 20000 in
theorem wm1995 : (Jvm.Cond.methodLink "NearSpellLaw" (154 : Nat) ({ cls := "NearSpellModel", name := "store", desc := "()I" } : Jvm.MethodName)) ∈ wTs := wmem (i := 1995) (by decide +kernel) (by decide +kernel)
set_option maxRecDepth 20000 in
theorem wm1998 : (Jvm.Cond.code ({ cls := "NearSpellModel", name := "store", desc := "()I" } : Jvm.MethodName) prog_14_method_100_code (1 : Nat) (Option.some Jvm.ClassFile.FieldType.int)) ∈ wTs := wmem (i := 1998) (by decide +kernel) (by decide +kernel)
set_option maxRecDepth 20000 in
theorem wm1996 : (Jvm.Cond.instanceMethod ({ cls := "NearSpellModel", name := "store", desc := "()I" } : Jvm.MethodName)) ∈ wTs := wmem (i := 1996) (by decide +kernel) (by decide +kernel)
set_option maxRecDepth 20000 in
theorem wm1997 : (Jvm.Cond.selects "NearSpellModel" ({ cls := "NearSpellModel", name := "store", desc := "()I" } : Jvm.MethodName) ({ cls := "NearSpellModel", name := "store", desc := "()I" } : Jvm.MethodName)) ∈ wTs := wmem (i := 1997) (by decide +kernel) (by decide +kernel)
set_option maxRecDepth 20000 in
theorem wm1286 : (Jvm.Cond.methodLink "NearSpellLaw" (155 : Nat) ({ cls := "NearSpell", name := "clashes", desc := "()I" } : Jvm.MethodName)) ∈ wTs := wmem (i := 1286) (by decide +kernel) (by decide +kernel)
set_option maxRecDepth 20000 in
theorem wm1289 : (Jvm.Cond.code ({ cls := "NearSpell", name := "clashes", desc := "()I" } : Jvm.MethodName) prog_1_method_36_code (1 : Nat) (Option.some Jvm.ClassFile.FieldType.int)) ∈ wTs := wmem (i := 1289) (by decide +kernel) (by decide +kernel)
set_option maxRecDepth 20000 in
theorem wm1287 : (Jvm.Cond.instanceMethod ({ cls := "NearSpell", name := "clashes", desc := "()I" } : Jvm.MethodName)) ∈ wTs := wmem (i := 1287) (by decide +kernel) (by decide +kernel)
set_option maxRecDepth 20000 in
theorem wm1288 : (Jvm.Cond.selects "NearSpell" ({ cls := "NearSpell", name := "clashes", desc := "()I" } : Jvm.MethodName) ({ cls := "NearSpell", name := "clashes", desc := "()I" } : Jvm.MethodName)) ∈ wTs := wmem (i := 1288) (by decide +kernel) (by decide +kernel)
set_option maxRecDepth 20000 in
theorem wm2003 : (Jvm.Cond.methodLink "NearSpellLaw" (158 : Nat) ({ cls := "NearSpellModel", name := "clashes", desc := "()I" } : Jvm.MethodName)) ∈ wTs := wmem (i := 2003) (by decide +kernel) (by decide +kernel)
set_option maxRecDepth 20000 in
theorem wm2006 : (Jvm.Cond.code ({ cls := "NearSpellModel", name := "clashes", desc := "()I" } : Jvm.MethodName) prog_14_method_103_code (7 : Nat) (Option.some Jvm.ClassFile.FieldType.int)) ∈ wTs := wmem (i := 2006) (by decide +kernel) (by decide +kernel)
set_option maxRecDepth 20000 in
theorem wm2004 : (Jvm.Cond.instanceMethod ({ cls := "NearSpellModel", name := "clashes", desc := "()I" } : Jvm.MethodName)) ∈ wTs := wmem (i := 2004) (by decide +kernel) (by decide +kernel)
set_option maxRecDepth 20000 in
theorem wm2005 : (Jvm.Cond.selects "NearSpellModel" ({ cls := "NearSpellModel", name := "clashes", desc := "()I" } : Jvm.MethodName) ({ cls := "NearSpellModel", name := "clashes", desc := "()I" } : Jvm.MethodName)) ∈ wTs := wmem (i := 2005) (by decide +kernel) (by decide +kernel)
set_option maxRecDepth 20000 in
theorem wm1294 : (Jvm.Cond.methodLink "NearSpellLaw" (159 : Nat) ({ cls := "NearSpell", name := "rarest", desc := "()I" } : Jvm.MethodName)) ∈ wTs := wmem (i := 1294) (by decide +kernel) (by decide +kernel)
set_option maxRecDepth 20000 in
theorem wm1297 : (Jvm.Cond.code ({ cls := "NearSpell", name := "rarest", desc := "()I" } : Jvm.MethodName) prog_1_method_37_code (1 : Nat) (Option.some Jvm.ClassFile.FieldType.int)) ∈ wTs := wmem (i := 1297) (by decide +kernel) (by decide +kernel)
set_option maxRecDepth 20000 in
theorem wm1295 : (Jvm.Cond.instanceMethod ({ cls := "NearSpell", name := "rarest", desc := "()I" } : Jvm.MethodName)) ∈ wTs := wmem (i := 1295) (by decide +kernel) (by decide +kernel)
set_option maxRecDepth 20000 in
theorem wm1296 : (Jvm.Cond.selects "NearSpell" ({ cls := "NearSpell", name := "rarest", desc := "()I" } : Jvm.MethodName) ({ cls := "NearSpell", name := "rarest", desc := "()I" } : Jvm.MethodName)) ∈ wTs := wmem (i := 1296) (by decide +kernel) (by decide +kernel)
set_option maxRecDepth 20000 in
theorem wm2011 : (Jvm.Cond.methodLink "NearSpellLaw" (162 : Nat) ({ cls := "NearSpellModel", name := "rarest", desc := "()I" } : Jvm.MethodName)) ∈ wTs := wmem (i := 2011) (by decide +kernel) (by decide +kernel)
set_option maxRecDepth 20000 in
theorem wm2014 : (Jvm.Cond.code ({ cls := "NearSpellModel", name := "rarest", desc := "()I" } : Jvm.MethodName) prog_14_method_104_code (8 : Nat) (Option.some Jvm.ClassFile.FieldType.int)) ∈ wTs := wmem (i := 2014) (by decide +kernel) (by decide +kernel)
set_option maxRecDepth 20000 in
theorem wm2012 : (Jvm.Cond.instanceMethod ({ cls := "NearSpellModel", name := "rarest", desc := "()I" } : Jvm.MethodName)) ∈ wTs := wmem (i := 2012) (by decide +kernel) (by decide +kernel)
set_option maxRecDepth 20000 in
theorem wm2013 : (Jvm.Cond.selects "NearSpellModel" ({ cls := "NearSpellModel", name := "rarest", desc := "()I" } : Jvm.MethodName) ({ cls := "NearSpellModel", name := "rarest", desc := "()I" } : Jvm.MethodName)) ∈ wTs := wmem (i := 2013) (by decide +kernel) (by decide +kernel)
set_option maxRecDepth 20000 in
theorem wm1306 : (Jvm.Cond.methodLink "NearSpellLaw" (163 : Nat) ({ cls := "NearSpell", name := "law", desc := "(I)I" } : Jvm.MethodName)) ∈ wTs := wmem (i := 1306) (by decide +kernel) (by decide +kernel)
set_option maxRecDepth 20000 in
theorem wm1309 : (Jvm.Cond.code ({ cls := "NearSpell", name := "law", desc := "(I)I" } : Jvm.MethodName) prog_1_method_38_code (2 : Nat) (Option.some Jvm.ClassFile.FieldType.int)) ∈ wTs := wmem (i := 1309) (by decide +kernel) (by decide +kernel)
set_option maxRecDepth 20000 in
theorem wm1307 : (Jvm.Cond.instanceMethod ({ cls := "NearSpell", name := "law", desc := "(I)I" } : Jvm.MethodName)) ∈ wTs := wmem (i := 1307) (by decide +kernel) (by decide +kernel)
set_option maxRecDepth 20000 in
theorem wm1308 : (Jvm.Cond.selects "NearSpell" ({ cls := "NearSpell", name := "law", desc := "(I)I" } : Jvm.MethodName) ({ cls := "NearSpell", name := "law", desc := "(I)I" } : Jvm.MethodName)) ∈ wTs := wmem (i := 1308) (by decide +kernel) (by decide +kernel)
set_option maxRecDepth 20000 in
theorem wm1999 : (Jvm.Cond.methodLink "NearSpellLaw" (166 : Nat) ({ cls := "NearSpellModel", name := "law", desc := "(I)I" } : Jvm.MethodName)) ∈ wTs := wmem (i := 1999) (by decide +kernel) (by decide +kernel)
set_option maxRecDepth 20000 in
theorem wm2002 : (Jvm.Cond.code ({ cls := "NearSpellModel", name := "law", desc := "(I)I" } : Jvm.MethodName) prog_14_method_101_code (2 : Nat) (Option.some Jvm.ClassFile.FieldType.int)) ∈ wTs := wmem (i := 2002) (by decide +kernel) (by decide +kernel)
set_option maxRecDepth 20000 in
theorem wm2000 : (Jvm.Cond.instanceMethod ({ cls := "NearSpellModel", name := "law", desc := "(I)I" } : Jvm.MethodName)) ∈ wTs := wmem (i := 2000) (by decide +kernel) (by decide +kernel)
set_option maxRecDepth 20000 in
theorem wm2001 : (Jvm.Cond.selects "NearSpellModel" ({ cls := "NearSpellModel", name := "law", desc := "(I)I" } : Jvm.MethodName) ({ cls := "NearSpellModel", name := "law", desc := "(I)I" } : Jvm.MethodName)) ∈ wTs := wmem (i := 2001) (by decide +kernel) (by decide +kernel)
set_option maxRecDepth 20000 in
theorem wm1310 : (Jvm.Cond.methodLink "NearSpellLaw" (167 : Nat) ({ cls := "NearSpell", name := "odds", desc := "(II)I" } : Jvm.MethodName)) ∈ wTs := wmem (i := 1310) (by decide +kernel) (by decide +kernel)
set_option maxRecDepth 20000 in
theorem wm1313 : (Jvm.Cond.code ({ cls := "NearSpell", name := "odds", desc := "(II)I" } : Jvm.MethodName) prog_1_method_39_code (8 : Nat) (Option.some Jvm.ClassFile.FieldType.int)) ∈ wTs := wmem (i := 1313) (by decide +kernel) (by decide +kernel)
set_option maxRecDepth 20000 in
theorem wm1311 : (Jvm.Cond.instanceMethod ({ cls := "NearSpell", name := "odds", desc := "(II)I" } : Jvm.MethodName)) ∈ wTs := wmem (i := 1311) (by decide +kernel) (by decide +kernel)
set_option maxRecDepth 20000 in
theorem wm1312 : (Jvm.Cond.selects "NearSpell" ({ cls := "NearSpell", name := "odds", desc := "(II)I" } : Jvm.MethodName) ({ cls := "NearSpell", name := "odds", desc := "(II)I" } : Jvm.MethodName)) ∈ wTs := wmem (i := 1312) (by decide +kernel) (by decide +kernel)
set_option maxRecDepth 20000 in
theorem wm2055 : (Jvm.Cond.methodLink "NearSpellLaw" (170 : Nat) ({ cls := "NearSpellModel", name := "odds", desc := "(II)I" } : Jvm.MethodName)) ∈ wTs := wmem (i := 2055) (by decide +kernel) (by decide +kernel)
set_option maxRecDepth 20000 in
theorem wm2058 : (Jvm.Cond.code ({ cls := "NearSpellModel", name := "odds", desc := "(II)I" } : Jvm.MethodName) prog_14_method_115_code (5 : Nat) (Option.some Jvm.ClassFile.FieldType.int)) ∈ wTs := wmem (i := 2058) (by decide +kernel) (by decide +kernel)
set_option maxRecDepth 20000 in
theorem wm2056 : (Jvm.Cond.instanceMethod ({ cls := "NearSpellModel", name := "odds", desc := "(II)I" } : Jvm.MethodName)) ∈ wTs := wmem (i := 2056) (by decide +kernel) (by decide +kernel)
set_option maxRecDepth 20000 in
theorem wm2057 : (Jvm.Cond.selects "NearSpellModel" ({ cls := "NearSpellModel", name := "odds", desc := "(II)I" } : Jvm.MethodName) ({ cls := "NearSpellModel", name := "odds", desc := "(II)I" } : Jvm.MethodName)) ∈ wTs := wmem (i := 2057) (by decide +kernel) (by decide +kernel)
set_option maxRecDepth 20000 in
theorem wm1317 : (Jvm.Cond.methodLink "NearSpellLaw" (171 : Nat) ({ cls := "NearSpell", name := "lies", desc := "(I)I" } : Jvm.MethodName)) ∈ wTs := wmem (i := 1317) (by decide +kernel) (by decide +kernel)
set_option maxRecDepth 20000 in
theorem wm1320 : (Jvm.Cond.code ({ cls := "NearSpell", name := "lies", desc := "(I)I" } : Jvm.MethodName) prog_1_method_40_code (2 : Nat) (Option.some Jvm.ClassFile.FieldType.int)) ∈ wTs := wmem (i := 1320) (by decide +kernel) (by decide +kernel)
set_option maxRecDepth 20000 in
theorem wm1318 : (Jvm.Cond.instanceMethod ({ cls := "NearSpell", name := "lies", desc := "(I)I" } : Jvm.MethodName)) ∈ wTs := wmem (i := 1318) (by decide +kernel) (by decide +kernel)
set_option maxRecDepth 20000 in
theorem wm1319 : (Jvm.Cond.selects "NearSpell" ({ cls := "NearSpell", name := "lies", desc := "(I)I" } : Jvm.MethodName) ({ cls := "NearSpell", name := "lies", desc := "(I)I" } : Jvm.MethodName)) ∈ wTs := wmem (i := 1319) (by decide +kernel) (by decide +kernel)
set_option maxRecDepth 20000 in
theorem wm1818 : (Jvm.Cond.methodLink "NearSpellLaw" (174 : Nat) ({ cls := "NearSpellModel", name := "lies", desc := "(I)I" } : Jvm.MethodName)) ∈ wTs := wmem (i := 1818) (by decide +kernel) (by decide +kernel)
set_option maxRecDepth 20000 in
theorem wm1821 : (Jvm.Cond.code ({ cls := "NearSpellModel", name := "lies", desc := "(I)I" } : Jvm.MethodName) prog_14_method_71_code (2 : Nat) (Option.some Jvm.ClassFile.FieldType.int)) ∈ wTs := wmem (i := 1821) (by decide +kernel) (by decide +kernel)
set_option maxRecDepth 20000 in
theorem wm1819 : (Jvm.Cond.instanceMethod ({ cls := "NearSpellModel", name := "lies", desc := "(I)I" } : Jvm.MethodName)) ∈ wTs := wmem (i := 1819) (by decide +kernel) (by decide +kernel)
set_option maxRecDepth 20000 in
theorem wm1820 : (Jvm.Cond.selects "NearSpellModel" ({ cls := "NearSpellModel", name := "lies", desc := "(I)I" } : Jvm.MethodName) ({ cls := "NearSpellModel", name := "lies", desc := "(I)I" } : Jvm.MethodName)) ∈ wTs := wmem (i := 1820) (by decide +kernel) (by decide +kernel)
set_option maxRecDepth 20000 in
theorem wm1321 : (Jvm.Cond.methodLink "NearSpellLaw" (175 : Nat) ({ cls := "NearSpell", name := "seen", desc := "(IIZ)I" } : Jvm.MethodName)) ∈ wTs := wmem (i := 1321) (by decide +kernel) (by decide +kernel)
set_option maxRecDepth 20000 in
theorem wm1324 : (Jvm.Cond.code ({ cls := "NearSpell", name := "seen", desc := "(IIZ)I" } : Jvm.MethodName) prog_1_method_41_code (4 : Nat) (Option.some Jvm.ClassFile.FieldType.int)) ∈ wTs := wmem (i := 1324) (by decide +kernel) (by decide +kernel)
set_option maxRecDepth 20000 in
theorem wm1322 : (Jvm.Cond.instanceMethod ({ cls := "NearSpell", name := "seen", desc := "(IIZ)I" } : Jvm.MethodName)) ∈ wTs := wmem (i := 1322) (by decide +kernel) (by decide +kernel)
set_option maxRecDepth 20000 in
theorem wm1323 : (Jvm.Cond.selects "NearSpell" ({ cls := "NearSpell", name := "seen", desc := "(IIZ)I" } : Jvm.MethodName) ({ cls := "NearSpell", name := "seen", desc := "(IIZ)I" } : Jvm.MethodName)) ∈ wTs := wmem (i := 1323) (by decide +kernel) (by decide +kernel)
set_option maxRecDepth 20000 in
theorem wm2065 : (Jvm.Cond.methodLink "NearSpellLaw" (179 : Nat) ({ cls := "NearSpellModel", name := "seen", desc := "(IIZ)I" } : Jvm.MethodName)) ∈ wTs := wmem (i := 2065) (by decide +kernel) (by decide +kernel)
set_option maxRecDepth 20000 in
theorem wm2068 : (Jvm.Cond.code ({ cls := "NearSpellModel", name := "seen", desc := "(IIZ)I" } : Jvm.MethodName) prog_14_method_117_code (4 : Nat) (Option.some Jvm.ClassFile.FieldType.int)) ∈ wTs := wmem (i := 2068) (by decide +kernel) (by decide +kernel)
set_option maxRecDepth 20000 in
theorem wm2066 : (Jvm.Cond.instanceMethod ({ cls := "NearSpellModel", name := "seen", desc := "(IIZ)I" } : Jvm.MethodName)) ∈ wTs := wmem (i := 2066) (by decide +kernel) (by decide +kernel)
set_option maxRecDepth 20000 in
theorem wm2067 : (Jvm.Cond.selects "NearSpellModel" ({ cls := "NearSpellModel", name := "seen", desc := "(IIZ)I" } : Jvm.MethodName) ({ cls := "NearSpellModel", name := "seen", desc := "(IIZ)I" } : Jvm.MethodName)) ∈ wTs := wmem (i := 2067) (by decide +kernel) (by decide +kernel)
set_option maxRecDepth 20000 in
theorem wm1329 : (Jvm.Cond.methodLink "NearSpellLaw" (180 : Nat) ({ cls := "NearSpell", name := "untell", desc := "(I)Z" } : Jvm.MethodName)) ∈ wTs := wmem (i := 1329) (by decide +kernel) (by decide +kernel)
set_option maxRecDepth 20000 in
theorem wm1332 : (Jvm.Cond.code ({ cls := "NearSpell", name := "untell", desc := "(I)Z" } : Jvm.MethodName) prog_1_method_42_code (2 : Nat) (Option.some Jvm.ClassFile.FieldType.boolean)) ∈ wTs := wmem (i := 1332) (by decide +kernel) (by decide +kernel)
set_option maxRecDepth 20000 in
theorem wm1330 : (Jvm.Cond.instanceMethod ({ cls := "NearSpell", name := "untell", desc := "(I)Z" } : Jvm.MethodName)) ∈ wTs := wmem (i := 1330) (by decide +kernel) (by decide +kernel)
set_option maxRecDepth 20000 in
theorem wm1331 : (Jvm.Cond.selects "NearSpell" ({ cls := "NearSpell", name := "untell", desc := "(I)Z" } : Jvm.MethodName) ({ cls := "NearSpell", name := "untell", desc := "(I)Z" } : Jvm.MethodName)) ∈ wTs := wmem (i := 1331) (by decide +kernel) (by decide +kernel)
set_option maxRecDepth 20000 in
theorem wm2069 : (Jvm.Cond.methodLink "NearSpellLaw" (184 : Nat) ({ cls := "NearSpellModel", name := "untell", desc := "(I)Z" } : Jvm.MethodName)) ∈ wTs := wmem (i := 2069) (by decide +kernel) (by decide +kernel)
set_option maxRecDepth 20000 in
theorem wm2072 : (Jvm.Cond.code ({ cls := "NearSpellModel", name := "untell", desc := "(I)Z" } : Jvm.MethodName) prog_14_method_118_code (2 : Nat) (Option.some Jvm.ClassFile.FieldType.boolean)) ∈ wTs := wmem (i := 2072) (by decide +kernel) (by decide +kernel)
set_option maxRecDepth 20000 in
theorem wm2070 : (Jvm.Cond.instanceMethod ({ cls := "NearSpellModel", name := "untell", desc := "(I)Z" } : Jvm.MethodName)) ∈ wTs := wmem (i := 2070) (by decide +kernel) (by decide +kernel)
set_option maxRecDepth 20000 in
theorem wm2071 : (Jvm.Cond.selects "NearSpellModel" ({ cls := "NearSpellModel", name := "untell", desc := "(I)Z" } : Jvm.MethodName) ({ cls := "NearSpellModel", name := "untell", desc := "(I)Z" } : Jvm.MethodName)) ∈ wTs := wmem (i := 2071) (by decide +kernel) (by decide +kernel)
set_option maxRecDepth 20000 in
theorem wm1337 : (Jvm.Cond.methodLink "NearSpellLaw" (185 : Nat) ({ cls := "NearSpell", name := "later", desc := "(I)I" } : Jvm.MethodName)) ∈ wTs := wmem (i := 1337) (by decide +kernel) (by decide +kernel)
set_option maxRecDepth 20000 in
theorem wm1340 : (Jvm.Cond.code ({ cls := "NearSpell", name := "later", desc := "(I)I" } : Jvm.MethodName) prog_1_method_43_code (2 : Nat) (Option.some Jvm.ClassFile.FieldType.int)) ∈ wTs := wmem (i := 1340) (by decide +kernel) (by decide +kernel)
set_option maxRecDepth 20000 in
theorem wm1338 : (Jvm.Cond.instanceMethod ({ cls := "NearSpell", name := "later", desc := "(I)I" } : Jvm.MethodName)) ∈ wTs := wmem (i := 1338) (by decide +kernel) (by decide +kernel)
set_option maxRecDepth 20000 in
theorem wm1339 : (Jvm.Cond.selects "NearSpell" ({ cls := "NearSpell", name := "later", desc := "(I)I" } : Jvm.MethodName) ({ cls := "NearSpell", name := "later", desc := "(I)I" } : Jvm.MethodName)) ∈ wTs := wmem (i := 1339) (by decide +kernel) (by decide +kernel)
set_option maxRecDepth 20000 in
theorem wm2073 : (Jvm.Cond.methodLink "NearSpellLaw" (188 : Nat) ({ cls := "NearSpellModel", name := "later", desc := "(I)I" } : Jvm.MethodName)) ∈ wTs := wmem (i := 2073) (by decide +kernel) (by decide +kernel)
set_option maxRecDepth 20000 in
theorem wm2076 : (Jvm.Cond.code ({ cls := "NearSpellModel", name := "later", desc := "(I)I" } : Jvm.MethodName) prog_14_method_119_code (2 : Nat) (Option.some Jvm.ClassFile.FieldType.int)) ∈ wTs := wmem (i := 2076) (by decide +kernel) (by decide +kernel)
set_option maxRecDepth 20000 in
theorem wm2074 : (Jvm.Cond.instanceMethod ({ cls := "NearSpellModel", name := "later", desc := "(I)I" } : Jvm.MethodName)) ∈ wTs := wmem (i := 2074) (by decide +kernel) (by decide +kernel)
set_option maxRecDepth 20000 in
theorem wm2075 : (Jvm.Cond.selects "NearSpellModel" ({ cls := "NearSpellModel", name := "later", desc := "(I)I" } : Jvm.MethodName) ({ cls := "NearSpellModel", name := "later", desc := "(I)I" } : Jvm.MethodName)) ∈ wTs := wmem (i := 2075) (by decide +kernel) (by decide +kernel)
set_option maxRecDepth 20000 in
theorem wm1346 : (Jvm.Cond.methodLink "NearSpellLaw" (189 : Nat) ({ cls := "NearSpell", name := "fits", desc := "(I)I" } : Jvm.MethodName)) ∈ wTs := wmem (i := 1346) (by decide +kernel) (by decide +kernel)
set_option maxRecDepth 20000 in
theorem wm1349 : (Jvm.Cond.code ({ cls := "NearSpell", name := "fits", desc := "(I)I" } : Jvm.MethodName) prog_1_method_44_code (2 : Nat) (Option.some Jvm.ClassFile.FieldType.int)) ∈ wTs := wmem (i := 1349) (by decide +kernel) (by decide +kernel)
set_option maxRecDepth 20000 in
theorem wm1347 : (Jvm.Cond.instanceMethod ({ cls := "NearSpell", name := "fits", desc := "(I)I" } : Jvm.MethodName)) ∈ wTs := wmem (i := 1347) (by decide +kernel) (by decide +kernel)
set_option maxRecDepth 20000 in
theorem wm1348 : (Jvm.Cond.selects "NearSpell" ({ cls := "NearSpell", name := "fits", desc := "(I)I" } : Jvm.MethodName) ({ cls := "NearSpell", name := "fits", desc := "(I)I" } : Jvm.MethodName)) ∈ wTs := wmem (i := 1348) (by decide +kernel) (by decide +kernel)
set_option maxRecDepth 20000 in
theorem wm2078 : (Jvm.Cond.methodLink "NearSpellLaw" (192 : Nat) ({ cls := "NearSpellModel", name := "fits", desc := "(I)I" } : Jvm.MethodName)) ∈ wTs := wmem (i := 2078) (by decide +kernel) (by decide +kernel)
set_option maxRecDepth 20000 in
theorem wm1364 : (Jvm.Cond.methodLink "NearSpellLaw" (193 : Nat) ({ cls := "NearSpell", name := "ask", desc := "(II)I" } : Jvm.MethodName)) ∈ wTs := wmem (i := 1364) (by decide +kernel) (by decide +kernel)
set_option maxRecDepth 20000 in
theorem wm1367 : (Jvm.Cond.code ({ cls := "NearSpell", name := "ask", desc := "(II)I" } : Jvm.MethodName) prog_1_method_45_code (3 : Nat) (Option.some Jvm.ClassFile.FieldType.int)) ∈ wTs := wmem (i := 1367) (by decide +kernel) (by decide +kernel)
set_option maxRecDepth 20000 in
theorem wm1365 : (Jvm.Cond.instanceMethod ({ cls := "NearSpell", name := "ask", desc := "(II)I" } : Jvm.MethodName)) ∈ wTs := wmem (i := 1365) (by decide +kernel) (by decide +kernel)
set_option maxRecDepth 20000 in
theorem wm1366 : (Jvm.Cond.selects "NearSpell" ({ cls := "NearSpell", name := "ask", desc := "(II)I" } : Jvm.MethodName) ({ cls := "NearSpell", name := "ask", desc := "(II)I" } : Jvm.MethodName)) ∈ wTs := wmem (i := 1366) (by decide +kernel) (by decide +kernel)
set_option maxRecDepth 20000 in
theorem wm2094 : (Jvm.Cond.methodLink "NearSpellLaw" (196 : Nat) ({ cls := "NearSpellModel", name := "ask", desc := "(II)I" } : Jvm.MethodName)) ∈ wTs := wmem (i := 2094) (by decide +kernel) (by decide +kernel)
set_option maxRecDepth 20000 in
theorem wm2097 : (Jvm.Cond.code ({ cls := "NearSpellModel", name := "ask", desc := "(II)I" } : Jvm.MethodName) prog_14_method_124_code (8 : Nat) (Option.some Jvm.ClassFile.FieldType.int)) ∈ wTs := wmem (i := 2097) (by decide +kernel) (by decide +kernel)
set_option maxRecDepth 20000 in
theorem wm2095 : (Jvm.Cond.instanceMethod ({ cls := "NearSpellModel", name := "ask", desc := "(II)I" } : Jvm.MethodName)) ∈ wTs := wmem (i := 2095) (by decide +kernel) (by decide +kernel)
set_option maxRecDepth 20000 in
theorem wm2096 : (Jvm.Cond.selects "NearSpellModel" ({ cls := "NearSpellModel", name := "ask", desc := "(II)I" } : Jvm.MethodName) ({ cls := "NearSpellModel", name := "ask", desc := "(II)I" } : Jvm.MethodName)) ∈ wTs := wmem (i := 2096) (by decide +kernel) (by decide +kernel)
set_option maxRecDepth 20000 in
theorem wm1378 : (Jvm.Cond.methodLink "NearSpellLaw" (197 : Nat) ({ cls := "NearSpell", name := "image", desc := "(I)I" } : Jvm.MethodName)) ∈ wTs := wmem (i := 1378) (by decide +kernel) (by decide +kernel)
set_option maxRecDepth 20000 in
theorem wm1381 : (Jvm.Cond.code ({ cls := "NearSpell", name := "image", desc := "(I)I" } : Jvm.MethodName) prog_1_method_46_code (2 : Nat) (Option.some Jvm.ClassFile.FieldType.int)) ∈ wTs := wmem (i := 1381) (by decide +kernel) (by decide +kernel)
set_option maxRecDepth 20000 in
theorem wm1379 : (Jvm.Cond.instanceMethod ({ cls := "NearSpell", name := "image", desc := "(I)I" } : Jvm.MethodName)) ∈ wTs := wmem (i := 1379) (by decide +kernel) (by decide +kernel)
set_option maxRecDepth 20000 in
theorem wm1380 : (Jvm.Cond.selects "NearSpell" ({ cls := "NearSpell", name := "image", desc := "(I)I" } : Jvm.MethodName) ({ cls := "NearSpell", name := "image", desc := "(I)I" } : Jvm.MethodName)) ∈ wTs := wmem (i := 1380) (by decide +kernel) (by decide +kernel)
set_option maxRecDepth 20000 in
theorem wm2103 : (Jvm.Cond.methodLink "NearSpellLaw" (200 : Nat) ({ cls := "NearSpellModel", name := "image", desc := "(I)I" } : Jvm.MethodName)) ∈ wTs := wmem (i := 2103) (by decide +kernel) (by decide +kernel)
set_option maxRecDepth 20000 in
theorem wm2106 : (Jvm.Cond.code ({ cls := "NearSpellModel", name := "image", desc := "(I)I" } : Jvm.MethodName) prog_14_method_125_code (3 : Nat) (Option.some Jvm.ClassFile.FieldType.int)) ∈ wTs := wmem (i := 2106) (by decide +kernel) (by decide +kernel)
set_option maxRecDepth 20000 in
theorem wm2104 : (Jvm.Cond.instanceMethod ({ cls := "NearSpellModel", name := "image", desc := "(I)I" } : Jvm.MethodName)) ∈ wTs := wmem (i := 2104) (by decide +kernel) (by decide +kernel)
set_option maxRecDepth 20000 in
theorem wm2105 : (Jvm.Cond.selects "NearSpellModel" ({ cls := "NearSpellModel", name := "image", desc := "(I)I" } : Jvm.MethodName) ({ cls := "NearSpellModel", name := "image", desc := "(I)I" } : Jvm.MethodName)) ∈ wTs := wmem (i := 2105) (by decide +kernel) (by decide +kernel)
set_option maxRecDepth 20000 in
theorem wm1386 : (Jvm.Cond.methodLink "NearSpellLaw" (201 : Nat) ({ cls := "NearSpell", name := "back", desc := "(I)I" } : Jvm.MethodName)) ∈ wTs := wmem (i := 1386) (by decide +kernel) (by decide +kernel)
set_option maxRecDepth 20000 in
theorem wm1389 : (Jvm.Cond.code ({ cls := "NearSpell", name := "back", desc := "(I)I" } : Jvm.MethodName) prog_1_method_47_code (2 : Nat) (Option.some Jvm.ClassFile.FieldType.int)) ∈ wTs := wmem (i := 1389) (by decide +kernel) (by decide +kernel)
set_option maxRecDepth 20000 in
theorem wm1387 : (Jvm.Cond.instanceMethod ({ cls := "NearSpell", name := "back", desc := "(I)I" } : Jvm.MethodName)) ∈ wTs := wmem (i := 1387) (by decide +kernel) (by decide +kernel)
set_option maxRecDepth 20000 in
theorem wm1388 : (Jvm.Cond.selects "NearSpell" ({ cls := "NearSpell", name := "back", desc := "(I)I" } : Jvm.MethodName) ({ cls := "NearSpell", name := "back", desc := "(I)I" } : Jvm.MethodName)) ∈ wTs := wmem (i := 1388) (by decide +kernel) (by decide +kernel)
set_option maxRecDepth 20000 in
theorem wm2107 : (Jvm.Cond.methodLink "NearSpellLaw" (204 : Nat) ({ cls := "NearSpellModel", name := "back", desc := "(I)I" } : Jvm.MethodName)) ∈ wTs := wmem (i := 2107) (by decide +kernel) (by decide +kernel)
set_option maxRecDepth 20000 in
theorem wm2110 : (Jvm.Cond.code ({ cls := "NearSpellModel", name := "back", desc := "(I)I" } : Jvm.MethodName) prog_14_method_126_code (3 : Nat) (Option.some Jvm.ClassFile.FieldType.int)) ∈ wTs := wmem (i := 2110) (by decide +kernel) (by decide +kernel)
set_option maxRecDepth 20000 in
theorem wm2108 : (Jvm.Cond.instanceMethod ({ cls := "NearSpellModel", name := "back", desc := "(I)I" } : Jvm.MethodName)) ∈ wTs := wmem (i := 2108) (by decide +kernel) (by decide +kernel)
set_option maxRecDepth 20000 in
theorem wm2109 : (Jvm.Cond.selects "NearSpellModel" ({ cls := "NearSpellModel", name := "back", desc := "(I)I" } : Jvm.MethodName) ({ cls := "NearSpellModel", name := "back", desc := "(I)I" } : Jvm.MethodName)) ∈ wTs := wmem (i := 2109) (by decide +kernel) (by decide +kernel)
set_option maxRecDepth 20000 in
theorem wm1394 : (Jvm.Cond.methodLink "NearSpellLaw" (205 : Nat) ({ cls := "NearSpell", name := "about", desc := "(I)I" } : Jvm.MethodName)) ∈ wTs := wmem (i := 1394) (by decide +kernel) (by decide +kernel)
set_option maxRecDepth 20000 in
theorem wm1397 : (Jvm.Cond.code ({ cls := "NearSpell", name := "about", desc := "(I)I" } : Jvm.MethodName) prog_1_method_48_code (2 : Nat) (Option.some Jvm.ClassFile.FieldType.int)) ∈ wTs := wmem (i := 1397) (by decide +kernel) (by decide +kernel)
set_option maxRecDepth 20000 in
theorem wm1395 : (Jvm.Cond.instanceMethod ({ cls := "NearSpell", name := "about", desc := "(I)I" } : Jvm.MethodName)) ∈ wTs := wmem (i := 1395) (by decide +kernel) (by decide +kernel)
set_option maxRecDepth 20000 in
theorem wm1396 : (Jvm.Cond.selects "NearSpell" ({ cls := "NearSpell", name := "about", desc := "(I)I" } : Jvm.MethodName) ({ cls := "NearSpell", name := "about", desc := "(I)I" } : Jvm.MethodName)) ∈ wTs := wmem (i := 1396) (by decide +kernel) (by decide +kernel)
set_option maxRecDepth 20000 in
theorem wm2111 : (Jvm.Cond.methodLink "NearSpellLaw" (208 : Nat) ({ cls := "NearSpellModel", name := "about", desc := "(I)I" } : Jvm.MethodName)) ∈ wTs := wmem (i := 2111) (by decide +kernel) (by decide +kernel)
set_option maxRecDepth 20000 in
theorem wm2114 : (Jvm.Cond.code ({ cls := "NearSpellModel", name := "about", desc := "(I)I" } : Jvm.MethodName) prog_14_method_127_code (2 : Nat) (Option.some Jvm.ClassFile.FieldType.int)) ∈ wTs := wmem (i := 2114) (by decide +kernel) (by decide +kernel)
set_option maxRecDepth 20000 in
theorem wm2112 : (Jvm.Cond.instanceMethod ({ cls := "NearSpellModel", name := "about", desc := "(I)I" } : Jvm.MethodName)) ∈ wTs := wmem (i := 2112) (by decide +kernel) (by decide +kernel)
set_option maxRecDepth 20000 in
theorem wm2113 : (Jvm.Cond.selects "NearSpellModel" ({ cls := "NearSpellModel", name := "about", desc := "(I)I" } : Jvm.MethodName) ({ cls := "NearSpellModel", name := "about", desc := "(I)I" } : Jvm.MethodName)) ∈ wTs := wmem (i := 2113) (by decide +kernel) (by decide +kernel)
theorem lkL_13 {G : rfG} (h : okG G) : wlk G "NearSpellLaw" 13 (⟨"NearSpell", "feed", "(IIIII)I"⟩, prog_1_method_2_code, 6, (some .int)) 5 ∧ Cond.instanceMethod ⟨"NearSpell", "feed", "(IIIII)I"⟩ ∈ G.2.2.1 ∧ Cond.selects "NearSpell" ⟨"NearSpell", "feed", "(IIIII)I"⟩ ⟨"NearSpell", "feed", "(IIIII)I"⟩ ∈ G.2.2.1 ∧ ((¬ 11 = 1000 ∧ ∃ T N, G.1.2.2.1[11]? = some ("NearSpell", T, N)) ∨ (11 = 1000 ∧ "NearSpell" = "java/lang/String" ∧ ∀ s, G.2.2.2 s → ∀ n, (n = 1 ∨ n = 2) → va_O "java/lang/String" (G.2.1.2.1 n) G.1.2.2.2 s s.heap)) := ⟨⟨Or.inl (wmT h (wm535)), wmT h (wm117), wmT h (wm538), by decide +kernel, by decide +kernel, by decide +kernel⟩, wmT h (wm536), wmT h (wm537), Or.inl ⟨by decide, TX11, 15, by rw [h.2.1]; rfl⟩⟩
theorem lkL_17 {G : rfG} (h : okG G) : wlk G "NearSpellLaw" 17 (⟨"NearSpellModel", "feed", "(IIIII)I"⟩, prog_14_method_128_code, 8, (some .int)) 5 ∧ Cond.instanceMethod ⟨"NearSpellModel", "feed", "(IIIII)I"⟩ ∈ G.2.2.1 ∧ Cond.selects "NearSpellModel" ⟨"NearSpellModel", "feed", "(IIIII)I"⟩ ⟨"NearSpellModel", "feed", "(IIIII)I"⟩ ∈ G.2.2.1 ∧ ((¬ 12 = 1000 ∧ ∃ T N, G.1.2.2.1[12]? = some ("NearSpellModel", T, N)) ∨ (12 = 1000 ∧ "NearSpellModel" = "java/lang/String" ∧ ∀ s, G.2.2.2 s → ∀ n, (n = 1 ∨ n = 2) → va_O "java/lang/String" (G.2.1.2.1 n) G.1.2.2.2 s s.heap)) := ⟨⟨Or.inl (wmT h (wm2115)), wmT h (wm129), wmT h (wm2118), by decide +kernel, by decide +kernel, by decide +kernel⟩, wmT h (wm2116), wmT h (wm2117), Or.inl ⟨by decide, TX12, 67, by rw [h.2.1]; rfl⟩⟩
theorem lkL_18 {G : rfG} (h : okG G) : wlk G "NearSpellLaw" 18 (⟨"NearSpell", "end", "(I)I"⟩, prog_1_method_3_code, 2, (some .int)) 1 ∧ Cond.instanceMethod ⟨"NearSpell", "end", "(I)I"⟩ ∈ G.2.2.1 ∧ Cond.selects "NearSpell" ⟨"NearSpell", "end", "(I)I"⟩ ⟨"NearSpell", "end", "(I)I"⟩ ∈ G.2.2.1 ∧ ((¬ 11 = 1000 ∧ ∃ T N, G.1.2.2.1[11]? = some ("NearSpell", T, N)) ∨ (11 = 1000 ∧ "NearSpell" = "java/lang/String" ∧ ∀ s, G.2.2.2 s → ∀ n, (n = 1 ∨ n = 2) → va_O "java/lang/String" (G.2.1.2.1 n) G.1.2.2.2 s s.heap)) := ⟨⟨Or.inl (wmT h (wm543)), wmT h (wm117), wmT h (wm546), by decide +kernel, by decide +kernel, by decide +kernel⟩, wmT h (wm544), wmT h (wm545), Or.inl ⟨by decide, TX11, 15, by rw [h.2.1]; rfl⟩⟩
theorem lkL_22 {G : rfG} (h : okG G) : wlk G "NearSpellLaw" 22 (⟨"NearSpellModel", "end", "(I)I"⟩, prog_14_method_129_code, 2, (some .int)) 1 ∧ Cond.instanceMethod ⟨"NearSpellModel", "end", "(I)I"⟩ ∈ G.2.2.1 ∧ Cond.selects "NearSpellModel" ⟨"NearSpellModel", "end", "(I)I"⟩ ⟨"NearSpellModel", "end", "(I)I"⟩ ∈ G.2.2.1 ∧ ((¬ 12 = 1000 ∧ ∃ T N, G.1.2.2.1[12]? = some ("NearSpellModel", T, N)) ∨ (12 = 1000 ∧ "NearSpellModel" = "java/lang/String" ∧ ∀ s, G.2.2.2 s → ∀ n, (n = 1 ∨ n = 2) → va_O "java/lang/String" (G.2.1.2.1 n) G.1.2.2.2 s s.heap)) := ⟨⟨Or.inl (wmT h (wm2119)), wmT h (wm129), wmT h (wm2122), by decide +kernel, by decide +kernel, by decide +kernel⟩, wmT h (wm2120), wmT h (wm2121), Or.inl ⟨by decide, TX12, 67, by rw [h.2.1]; rfl⟩⟩
theorem lkL_23 {G : rfG} (h : okG G) : wlk G "NearSpellLaw" 23 (⟨"NearSpell", "book", "()I"⟩, prog_1_method_4_code, 1, (some .int)) 0 ∧ Cond.instanceMethod ⟨"NearSpell", "book", "()I"⟩ ∈ G.2.2.1 ∧ Cond.selects "NearSpell" ⟨"NearSpell", "book", "()I"⟩ ⟨"NearSpell", "book", "()I"⟩ ∈ G.2.2.1 ∧ ((¬ 11 = 1000 ∧ ∃ T N, G.1.2.2.1[11]? = some ("NearSpell", T, N)) ∨ (11 = 1000 ∧ "NearSpell" = "java/lang/String" ∧ ∀ s, G.2.2.2 s → ∀ n, (n = 1 ∨ n = 2) → va_O "java/lang/String" (G.2.1.2.1 n) G.1.2.2.2 s s.heap)) := ⟨⟨Or.inl (wmT h (wm547)), wmT h (wm117), wmT h (wm550), by decide +kernel, by decide +kernel, by decide +kernel⟩, wmT h (wm548), wmT h (wm549), Or.inl ⟨by decide, TX11, 15, by rw [h.2.1]; rfl⟩⟩
theorem lkL_27 {G : rfG} (h : okG G) : wlk G "NearSpellLaw" 27 (⟨"NearSpellModel", "book", "()I"⟩, prog_14_method_16_code, 2, (some .int)) 0 ∧ Cond.instanceMethod ⟨"NearSpellModel", "book", "()I"⟩ ∈ G.2.2.1 ∧ Cond.selects "NearSpellModel" ⟨"NearSpellModel", "book", "()I"⟩ ⟨"NearSpellModel", "book", "()I"⟩ ∈ G.2.2.1 ∧ ((¬ 12 = 1000 ∧ ∃ T N, G.1.2.2.1[12]? = some ("NearSpellModel", T, N)) ∨ (12 = 1000 ∧ "NearSpellModel" = "java/lang/String" ∧ ∀ s, G.2.2.2 s → ∀ n, (n = 1 ∨ n = 2) → va_O "java/lang/String" (G.2.1.2.1 n) G.1.2.2.2 s s.heap)) := ⟨⟨Or.inl (wmT h (wm1618)), wmT h (wm129), wmT h (wm1621), by decide +kernel, by decide +kernel, by decide +kernel⟩, wmT h (wm1619), wmT h (wm1620), Or.inl ⟨by decide, TX12, 67, by rw [h.2.1]; rfl⟩⟩
theorem lkL_28 {G : rfG} (h : okG G) : wlk G "NearSpellLaw" 28 (⟨"NearSpell", "fault", "(I)I"⟩, prog_1_method_5_code, 2, (some .int)) 1 ∧ Cond.instanceMethod ⟨"NearSpell", "fault", "(I)I"⟩ ∈ G.2.2.1 ∧ Cond.selects "NearSpell" ⟨"NearSpell", "fault", "(I)I"⟩ ⟨"NearSpell", "fault", "(I)I"⟩ ∈ G.2.2.1 ∧ ((¬ 11 = 1000 ∧ ∃ T N, G.1.2.2.1[11]? = some ("NearSpell", T, N)) ∨ (11 = 1000 ∧ "NearSpell" = "java/lang/String" ∧ ∀ s, G.2.2.2 s → ∀ n, (n = 1 ∨ n = 2) → va_O "java/lang/String" (G.2.1.2.1 n) G.1.2.2.2 s s.heap)) := ⟨⟨Or.inl (wmT h (wm785)), wmT h (wm117), wmT h (wm788), by decide +kernel, by decide +kernel, by decide +kernel⟩, wmT h (wm786), wmT h (wm787), Or.inl ⟨by decide, TX11, 15, by rw [h.2.1]; rfl⟩⟩
theorem lkL_31 {G : rfG} (h : okG G) : wlk G "NearSpellLaw" 31 (⟨"NearSpellModel", "fault", "(I)I"⟩, prog_14_method_34_code, 2, (some .int)) 1 ∧ Cond.instanceMethod ⟨"NearSpellModel", "fault", "(I)I"⟩ ∈ G.2.2.1 ∧ Cond.selects "NearSpellModel" ⟨"NearSpellModel", "fault", "(I)I"⟩ ⟨"NearSpellModel", "fault", "(I)I"⟩ ∈ G.2.2.1 ∧ ((¬ 12 = 1000 ∧ ∃ T N, G.1.2.2.1[12]? = some ("NearSpellModel", T, N)) ∨ (12 = 1000 ∧ "NearSpellModel" = "java/lang/String" ∧ ∀ s, G.2.2.2 s → ∀ n, (n = 1 ∨ n = 2) → va_O "java/lang/String" (G.2.1.2.1 n) G.1.2.2.2 s s.heap)) := ⟨⟨Or.inl (wmT h (wm1739)), wmT h (wm129), wmT h (wm1742), by decide +kernel, by decide +kernel, by decide +kernel⟩, wmT h (wm1740), wmT h (wm1741), Or.inl ⟨by decide, TX12, 67, by rw [h.2.1]; rfl⟩⟩
theorem lkL_32 {G : rfG} (h : okG G) : wlk G "NearSpellLaw" 32 (⟨"NearSpell", "entry", "(II)I"⟩, prog_1_method_6_code, 3, (some .int)) 2 ∧ Cond.instanceMethod ⟨"NearSpell", "entry", "(II)I"⟩ ∈ G.2.2.1 ∧ Cond.selects "NearSpell" ⟨"NearSpell", "entry", "(II)I"⟩ ⟨"NearSpell", "entry", "(II)I"⟩ ∈ G.2.2.1 ∧ ((¬ 11 = 1000 ∧ ∃ T N, G.1.2.2.1[11]? = some ("NearSpell", T, N)) ∨ (11 = 1000 ∧ "NearSpell" = "java/lang/String" ∧ ∀ s, G.2.2.2 s → ∀ n, (n = 1 ∨ n = 2) → va_O "java/lang/String" (G.2.1.2.1 n) G.1.2.2.2 s s.heap)) := ⟨⟨Or.inl (wmT h (wm789)), wmT h (wm117), wmT h (wm792), by decide +kernel, by decide +kernel, by decide +kernel⟩, wmT h (wm790), wmT h (wm791), Or.inl ⟨by decide, TX11, 15, by rw [h.2.1]; rfl⟩⟩
theorem lkL_36 {G : rfG} (h : okG G) : wlk G "NearSpellLaw" 36 (⟨"NearSpellModel", "entry", "(II)I"⟩, prog_14_method_68_code, 3, (some .int)) 2 ∧ Cond.instanceMethod ⟨"NearSpellModel", "entry", "(II)I"⟩ ∈ G.2.2.1 ∧ Cond.selects "NearSpellModel" ⟨"NearSpellModel", "entry", "(II)I"⟩ ⟨"NearSpellModel", "entry", "(II)I"⟩ ∈ G.2.2.1 ∧ ((¬ 12 = 1000 ∧ ∃ T N, G.1.2.2.1[12]? = some ("NearSpellModel", T, N)) ∨ (12 = 1000 ∧ "NearSpellModel" = "java/lang/String" ∧ ∀ s, G.2.2.2 s → ∀ n, (n = 1 ∨ n = 2) → va_O "java/lang/String" (G.2.1.2.1 n) G.1.2.2.2 s s.heap)) := ⟨⟨Or.inl (wmT h (wm1743)), wmT h (wm129), wmT h (wm1746), by decide +kernel, by decide +kernel, by decide +kernel⟩, wmT h (wm1744), wmT h (wm1745), Or.inl ⟨by decide, TX12, 67, by rw [h.2.1]; rfl⟩⟩
theorem lkL_37 {G : rfG} (h : okG G) : wlk G "NearSpellLaw" 37 (⟨"NearSpell", "learn", "(II)I"⟩, prog_1_method_7_code, 4, (some .int)) 2 ∧ Cond.instanceMethod ⟨"NearSpell", "learn", "(II)I"⟩ ∈ G.2.2.1 ∧ Cond.selects "NearSpell" ⟨"NearSpell", "learn", "(II)I"⟩ ⟨"NearSpell", "learn", "(II)I"⟩ ∈ G.2.2.1 ∧ ((¬ 11 = 1000 ∧ ∃ T N, G.1.2.2.1[11]? = some ("NearSpell", T, N)) ∨ (11 = 1000 ∧ "NearSpell" = "java/lang/String" ∧ ∀ s, G.2.2.2 s → ∀ n, (n = 1 ∨ n = 2) → va_O "java/lang/String" (G.2.1.2.1 n) G.1.2.2.2 s s.heap)) := ⟨⟨Or.inl (wmT h (wm838)), wmT h (wm117), wmT h (wm841), by decide +kernel, by decide +kernel, by decide +kernel⟩, wmT h (wm839), wmT h (wm840), Or.inl ⟨by decide, TX11, 15, by rw [h.2.1]; rfl⟩⟩
theorem lkL_40 {G : rfG} (h : okG G) : wlk G "NearSpellLaw" 40 (⟨"NearSpellModel", "learn", "(II)I"⟩, prog_14_method_108_code, 4, (some .int)) 2 ∧ Cond.instanceMethod ⟨"NearSpellModel", "learn", "(II)I"⟩ ∈ G.2.2.1 ∧ Cond.selects "NearSpellModel" ⟨"NearSpellModel", "learn", "(II)I"⟩ ⟨"NearSpellModel", "learn", "(II)I"⟩ ∈ G.2.2.1 ∧ ((¬ 12 = 1000 ∧ ∃ T N, G.1.2.2.1[12]? = some ("NearSpellModel", T, N)) ∨ (12 = 1000 ∧ "NearSpellModel" = "java/lang/String" ∧ ∀ s, G.2.2.2 s → ∀ n, (n = 1 ∨ n = 2) → va_O "java/lang/String" (G.2.1.2.1 n) G.1.2.2.2 s s.heap)) := ⟨⟨Or.inl (wmT h (wm2015)), wmT h (wm129), wmT h (wm2018), by decide +kernel, by decide +kernel, by decide +kernel⟩, wmT h (wm2016), wmT h (wm2017), Or.inl ⟨by decide, TX12, 67, by rw [h.2.1]; rfl⟩⟩
theorem lkL_41 {G : rfG} (h : okG G) : wlk G "NearSpellLaw" 41 (⟨"NearSpell", "forget", "(I)I"⟩, prog_1_method_8_code, 2, (some .int)) 1 ∧ Cond.instanceMethod ⟨"NearSpell", "forget", "(I)I"⟩ ∈ G.2.2.1 ∧ Cond.selects "NearSpell" ⟨"NearSpell", "forget", "(I)I"⟩ ⟨"NearSpell", "forget", "(I)I"⟩ ∈ G.2.2.1 ∧ ((¬ 11 = 1000 ∧ ∃ T N, G.1.2.2.1[11]? = some ("NearSpell", T, N)) ∨ (11 = 1000 ∧ "NearSpell" = "java/lang/String" ∧ ∀ s, G.2.2.2 s → ∀ n, (n = 1 ∨ n = 2) → va_O "java/lang/String" (G.2.1.2.1 n) G.1.2.2.2 s s.heap)) := ⟨⟨Or.inl (wmT h (wm860)), wmT h (wm117), wmT h (wm863), by decide +kernel, by decide +kernel, by decide +kernel⟩, wmT h (wm861), wmT h (wm862), Or.inl ⟨by decide, TX11, 15, by rw [h.2.1]; rfl⟩⟩
theorem lkL_44 {G : rfG} (h : okG G) : wlk G "NearSpellLaw" 44 (⟨"NearSpellModel", "forget", "(I)I"⟩, prog_14_method_109_code, 2, (some .int)) 1 ∧ Cond.instanceMethod ⟨"NearSpellModel", "forget", "(I)I"⟩ ∈ G.2.2.1 ∧ Cond.selects "NearSpellModel" ⟨"NearSpellModel", "forget", "(I)I"⟩ ⟨"NearSpellModel", "forget", "(I)I"⟩ ∈ G.2.2.1 ∧ ((¬ 12 = 1000 ∧ ∃ T N, G.1.2.2.1[12]? = some ("NearSpellModel", T, N)) ∨ (12 = 1000 ∧ "NearSpellModel" = "java/lang/String" ∧ ∀ s, G.2.2.2 s → ∀ n, (n = 1 ∨ n = 2) → va_O "java/lang/String" (G.2.1.2.1 n) G.1.2.2.2 s s.heap)) := ⟨⟨Or.inl (wmT h (wm2027)), wmT h (wm129), wmT h (wm2030), by decide +kernel, by decide +kernel, by decide +kernel⟩, wmT h (wm2028), wmT h (wm2029), Or.inl ⟨by decide, TX12, 67, by rw [h.2.1]; rfl⟩⟩
theorem lkL_45 {G : rfG} (h : okG G) : wlk G "NearSpellLaw" 45 (⟨"NearSpell", "use", "(I)I"⟩, prog_1_method_9_code, 2, (some .int)) 1 ∧ Cond.instanceMethod ⟨"NearSpell", "use", "(I)I"⟩ ∈ G.2.2.1 ∧ Cond.selects "NearSpell" ⟨"NearSpell", "use", "(I)I"⟩ ⟨"NearSpell", "use", "(I)I"⟩ ∈ G.2.2.1 ∧ ((¬ 11 = 1000 ∧ ∃ T N, G.1.2.2.1[11]? = some ("NearSpell", T, N)) ∨ (11 = 1000 ∧ "NearSpell" = "java/lang/String" ∧ ∀ s, G.2.2.2 s → ∀ n, (n = 1 ∨ n = 2) → va_O "java/lang/String" (G.2.1.2.1 n) G.1.2.2.2 s s.heap)) := ⟨⟨Or.inl (wmT h (wm872)), wmT h (wm117), wmT h (wm875), by decide +kernel, by decide +kernel, by decide +kernel⟩, wmT h (wm873), wmT h (wm874), Or.inl ⟨by decide, TX11, 15, by rw [h.2.1]; rfl⟩⟩
theorem lkL_48 {G : rfG} (h : okG G) : wlk G "NearSpellLaw" 48 (⟨"NearSpellModel", "use", "(I)I"⟩, prog_14_method_110_code, 2, (some .int)) 1 ∧ Cond.instanceMethod ⟨"NearSpellModel", "use", "(I)I"⟩ ∈ G.2.2.1 ∧ Cond.selects "NearSpellModel" ⟨"NearSpellModel", "use", "(I)I"⟩ ⟨"NearSpellModel", "use", "(I)I"⟩ ∈ G.2.2.1 ∧ ((¬ 12 = 1000 ∧ ∃ T N, G.1.2.2.1[12]? = some ("NearSpellModel", T, N)) ∨ (12 = 1000 ∧ "NearSpellModel" = "java/lang/String" ∧ ∀ s, G.2.2.2 s → ∀ n, (n = 1 ∨ n = 2) → va_O "java/lang/String" (G.2.1.2.1 n) G.1.2.2.2 s s.heap)) := ⟨⟨Or.inl (wmT h (wm2031)), wmT h (wm129), wmT h (wm2034), by decide +kernel, by decide +kernel, by decide +kernel⟩, wmT h (wm2032), wmT h (wm2033), Or.inl ⟨by decide, TX12, 67, by rw [h.2.1]; rfl⟩⟩
theorem lkL_49 {G : rfG} (h : okG G) : wlk G "NearSpellLaw" 49 (⟨"NearSpell", "type", "(I)I"⟩, prog_1_method_10_code, 3, (some .int)) 1 ∧ Cond.instanceMethod ⟨"NearSpell", "type", "(I)I"⟩ ∈ G.2.2.1 ∧ Cond.selects "NearSpell" ⟨"NearSpell", "type", "(I)I"⟩ ⟨"NearSpell", "type", "(I)I"⟩ ∈ G.2.2.1 ∧ ((¬ 11 = 1000 ∧ ∃ T N, G.1.2.2.1[11]? = some ("NearSpell", T, N)) ∨ (11 = 1000 ∧ "NearSpell" = "java/lang/String" ∧ ∀ s, G.2.2.2 s → ∀ n, (n = 1 ∨ n = 2) → va_O "java/lang/String" (G.2.1.2.1 n) G.1.2.2.2 s s.heap)) := ⟨⟨Or.inl (wmT h (wm880)), wmT h (wm117), wmT h (wm883), by decide +kernel, by decide +kernel, by decide +kernel⟩, wmT h (wm881), wmT h (wm882), Or.inl ⟨by decide, TX11, 15, by rw [h.2.1]; rfl⟩⟩
theorem lkL_52 {G : rfG} (h : okG G) : wlk G "NearSpellLaw" 52 (⟨"NearSpellModel", "type", "(I)I"⟩, prog_14_method_111_code, 3, (some .int)) 1 ∧ Cond.instanceMethod ⟨"NearSpellModel", "type", "(I)I"⟩ ∈ G.2.2.1 ∧ Cond.selects "NearSpellModel" ⟨"NearSpellModel", "type", "(I)I"⟩ ⟨"NearSpellModel", "type", "(I)I"⟩ ∈ G.2.2.1 ∧ ((¬ 12 = 1000 ∧ ∃ T N, G.1.2.2.1[12]? = some ("NearSpellModel", T, N)) ∨ (12 = 1000 ∧ "NearSpellModel" = "java/lang/String" ∧ ∀ s, G.2.2.2 s → ∀ n, (n = 1 ∨ n = 2) → va_O "java/lang/String" (G.2.1.2.1 n) G.1.2.2.2 s s.heap)) := ⟨⟨Or.inl (wmT h (wm2035)), wmT h (wm129), wmT h (wm2038), by decide +kernel, by decide +kernel, by decide +kernel⟩, wmT h (wm2036), wmT h (wm2037), Or.inl ⟨by decide, TX12, 67, by rw [h.2.1]; rfl⟩⟩
theorem lkL_53 {G : rfG} (h : okG G) : wlk G "NearSpellLaw" 53 (⟨"NearSpell", "wipe", "()I"⟩, prog_1_method_11_code, 2, (some .int)) 0 ∧ Cond.instanceMethod ⟨"NearSpell", "wipe", "()I"⟩ ∈ G.2.2.1 ∧ Cond.selects "NearSpell" ⟨"NearSpell", "wipe", "()I"⟩ ⟨"NearSpell", "wipe", "()I"⟩ ∈ G.2.2.1 ∧ ((¬ 11 = 1000 ∧ ∃ T N, G.1.2.2.1[11]? = some ("NearSpell", T, N)) ∨ (11 = 1000 ∧ "NearSpell" = "java/lang/String" ∧ ∀ s, G.2.2.2 s → ∀ n, (n = 1 ∨ n = 2) → va_O "java/lang/String" (G.2.1.2.1 n) G.1.2.2.2 s s.heap)) := ⟨⟨Or.inl (wmT h (wm948)), wmT h (wm117), wmT h (wm951), by decide +kernel, by decide +kernel, by decide +kernel⟩, wmT h (wm949), wmT h (wm950), Or.inl ⟨by decide, TX11, 15, by rw [h.2.1]; rfl⟩⟩
theorem lkL_56 {G : rfG} (h : okG G) : wlk G "NearSpellLaw" 56 (⟨"NearSpellModel", "wipe", "()I"⟩, prog_14_method_112_code, 2, (some .int)) 0 ∧ Cond.instanceMethod ⟨"NearSpellModel", "wipe", "()I"⟩ ∈ G.2.2.1 ∧ Cond.selects "NearSpellModel" ⟨"NearSpellModel", "wipe", "()I"⟩ ⟨"NearSpellModel", "wipe", "()I"⟩ ∈ G.2.2.1 ∧ ((¬ 12 = 1000 ∧ ∃ T N, G.1.2.2.1[12]? = some ("NearSpellModel", T, N)) ∨ (12 = 1000 ∧ "NearSpellModel" = "java/lang/String" ∧ ∀ s, G.2.2.2 s → ∀ n, (n = 1 ∨ n = 2) → va_O "java/lang/String" (G.2.1.2.1 n) G.1.2.2.2 s s.heap)) := ⟨⟨Or.inl (wmT h (wm2039)), wmT h (wm129), wmT h (wm2042), by decide +kernel, by decide +kernel, by decide +kernel⟩, wmT h (wm2040), wmT h (wm2041), Or.inl ⟨by decide, TX12, 67, by rw [h.2.1]; rfl⟩⟩
theorem lkL_57 {G : rfG} (h : okG G) : wlk G "NearSpellLaw" 57 (⟨"NearSpell", "undo", "()Z"⟩, prog_1_method_12_code, 1, (some .boolean)) 0 ∧ Cond.instanceMethod ⟨"NearSpell", "undo", "()Z"⟩ ∈ G.2.2.1 ∧ Cond.selects "NearSpell" ⟨"NearSpell", "undo", "()Z"⟩ ⟨"NearSpell", "undo", "()Z"⟩ ∈ G.2.2.1 ∧ ((¬ 11 = 1000 ∧ ∃ T N, G.1.2.2.1[11]? = some ("NearSpell", T, N)) ∨ (11 = 1000 ∧ "NearSpell" = "java/lang/String" ∧ ∀ s, G.2.2.2 s → ∀ n, (n = 1 ∨ n = 2) → va_O "java/lang/String" (G.2.1.2.1 n) G.1.2.2.2 s s.heap)) := ⟨⟨Or.inl (wmT h (wm956)), wmT h (wm117), wmT h (wm959), by decide +kernel, by decide +kernel, by decide +kernel⟩, wmT h (wm957), wmT h (wm958), Or.inl ⟨by decide, TX11, 15, by rw [h.2.1]; rfl⟩⟩
theorem lkL_61 {G : rfG} (h : okG G) : wlk G "NearSpellLaw" 61 (⟨"NearSpellModel", "undo", "()Z"⟩, prog_14_method_113_code, 1, (some .boolean)) 0 ∧ Cond.instanceMethod ⟨"NearSpellModel", "undo", "()Z"⟩ ∈ G.2.2.1 ∧ Cond.selects "NearSpellModel" ⟨"NearSpellModel", "undo", "()Z"⟩ ⟨"NearSpellModel", "undo", "()Z"⟩ ∈ G.2.2.1 ∧ ((¬ 12 = 1000 ∧ ∃ T N, G.1.2.2.1[12]? = some ("NearSpellModel", T, N)) ∨ (12 = 1000 ∧ "NearSpellModel" = "java/lang/String" ∧ ∀ s, G.2.2.2 s → ∀ n, (n = 1 ∨ n = 2) → va_O "java/lang/String" (G.2.1.2.1 n) G.1.2.2.2 s s.heap)) := ⟨⟨Or.inl (wmT h (wm2043)), wmT h (wm129), wmT h (wm2046), by decide +kernel, by decide +kernel, by decide +kernel⟩, wmT h (wm2044), wmT h (wm2045), Or.inl ⟨by decide, TX12, 67, by rw [h.2.1]; rfl⟩⟩
theorem lkL_62 {G : rfG} (h : okG G) : wlk G "NearSpellLaw" 62 (⟨"NearSpell", "redo", "()Z"⟩, prog_1_method_13_code, 1, (some .boolean)) 0 ∧ Cond.instanceMethod ⟨"NearSpell", "redo", "()Z"⟩ ∈ G.2.2.1 ∧ Cond.selects "NearSpell" ⟨"NearSpell", "redo", "()Z"⟩ ⟨"NearSpell", "redo", "()Z"⟩ ∈ G.2.2.1 ∧ ((¬ 11 = 1000 ∧ ∃ T N, G.1.2.2.1[11]? = some ("NearSpell", T, N)) ∨ (11 = 1000 ∧ "NearSpell" = "java/lang/String" ∧ ∀ s, G.2.2.2 s → ∀ n, (n = 1 ∨ n = 2) → va_O "java/lang/String" (G.2.1.2.1 n) G.1.2.2.2 s s.heap)) := ⟨⟨Or.inl (wmT h (wm968)), wmT h (wm117), wmT h (wm971), by decide +kernel, by decide +kernel, by decide +kernel⟩, wmT h (wm969), wmT h (wm970), Or.inl ⟨by decide, TX11, 15, by rw [h.2.1]; rfl⟩⟩
theorem lkL_65 {G : rfG} (h : okG G) : wlk G "NearSpellLaw" 65 (⟨"NearSpellModel", "redo", "()Z"⟩, prog_14_method_114_code, 1, (some .boolean)) 0 ∧ Cond.instanceMethod ⟨"NearSpellModel", "redo", "()Z"⟩ ∈ G.2.2.1 ∧ Cond.selects "NearSpellModel" ⟨"NearSpellModel", "redo", "()Z"⟩ ⟨"NearSpellModel", "redo", "()Z"⟩ ∈ G.2.2.1 ∧ ((¬ 12 = 1000 ∧ ∃ T N, G.1.2.2.1[12]? = some ("NearSpellModel", T, N)) ∨ (12 = 1000 ∧ "NearSpellModel" = "java/lang/String" ∧ ∀ s, G.2.2.2 s → ∀ n, (n = 1 ∨ n = 2) → va_O "java/lang/String" (G.2.1.2.1 n) G.1.2.2.2 s s.heap)) := ⟨⟨Or.inl (wmT h (wm2051)), wmT h (wm129), wmT h (wm2054), by decide +kernel, by decide +kernel, by decide +kernel⟩, wmT h (wm2052), wmT h (wm2053), Or.inl ⟨by decide, TX12, 67, by rw [h.2.1]; rfl⟩⟩
theorem lkL_66 {G : rfG} (h : okG G) : wlk G "NearSpellLaw" 66 (⟨"NearSpell", "typed", "(I)I"⟩, prog_1_method_14_code, 2, (some .int)) 1 ∧ Cond.instanceMethod ⟨"NearSpell", "typed", "(I)I"⟩ ∈ G.2.2.1 ∧ Cond.selects "NearSpell" ⟨"NearSpell", "typed", "(I)I"⟩ ⟨"NearSpell", "typed", "(I)I"⟩ ∈ G.2.2.1 ∧ ((¬ 11 = 1000 ∧ ∃ T N, G.1.2.2.1[11]? = some ("NearSpell", T, N)) ∨ (11 = 1000 ∧ "NearSpell" = "java/lang/String" ∧ ∀ s, G.2.2.2 s → ∀ n, (n = 1 ∨ n = 2) → va_O "java/lang/String" (G.2.1.2.1 n) G.1.2.2.2 s s.heap)) := ⟨⟨Or.inl (wmT h (wm976)), wmT h (wm117), wmT h (wm979), by decide +kernel, by decide +kernel, by decide +kernel⟩, wmT h (wm977), wmT h (wm978), Or.inl ⟨by decide, TX11, 15, by rw [h.2.1]; rfl⟩⟩
theorem lkL_69 {G : rfG} (h : okG G) : wlk G "NearSpellLaw" 69 (⟨"NearSpellModel", "typed", "(I)I"⟩, prog_14_method_69_code, 2, (some .int)) 1 ∧ Cond.instanceMethod ⟨"NearSpellModel", "typed", "(I)I"⟩ ∈ G.2.2.1 ∧ Cond.selects "NearSpellModel" ⟨"NearSpellModel", "typed", "(I)I"⟩ ⟨"NearSpellModel", "typed", "(I)I"⟩ ∈ G.2.2.1 ∧ ((¬ 12 = 1000 ∧ ∃ T N, G.1.2.2.1[12]? = some ("NearSpellModel", T, N)) ∨ (12 = 1000 ∧ "NearSpellModel" = "java/lang/String" ∧ ∀ s, G.2.2.2 s → ∀ n, (n = 1 ∨ n = 2) → va_O "java/lang/String" (G.2.1.2.1 n) G.1.2.2.2 s s.heap)) := ⟨⟨Or.inl (wmT h (wm1778)), wmT h (wm129), wmT h (wm1781), by decide +kernel, by decide +kernel, by decide +kernel⟩, wmT h (wm1779), wmT h (wm1780), Or.inl ⟨by decide, TX12, 67, by rw [h.2.1]; rfl⟩⟩
theorem lkL_70 {G : rfG} (h : okG G) : wlk G "NearSpellLaw" 70 (⟨"NearSpell", "distance", "(II)I"⟩, prog_1_method_15_code, 3, (some .int)) 2 ∧ Cond.instanceMethod ⟨"NearSpell", "distance", "(II)I"⟩ ∈ G.2.2.1 ∧ Cond.selects "NearSpell" ⟨"NearSpell", "distance", "(II)I"⟩ ⟨"NearSpell", "distance", "(II)I"⟩ ∈ G.2.2.1 ∧ ((¬ 11 = 1000 ∧ ∃ T N, G.1.2.2.1[11]? = some ("NearSpell", T, N)) ∨ (11 = 1000 ∧ "NearSpell" = "java/lang/String" ∧ ∀ s, G.2.2.2 s → ∀ n, (n = 1 ∨ n = 2) → va_O "java/lang/String" (G.2.1.2.1 n) G.1.2.2.2 s s.heap)) := ⟨⟨Or.inl (wmT h (wm984)), wmT h (wm117), wmT h (wm987), by decide +kernel, by decide +kernel, by decide +kernel⟩, wmT h (wm985), wmT h (wm986), Or.inl ⟨by decide, TX11, 15, by rw [h.2.1]; rfl⟩⟩
theorem lkL_73 {G : rfG} (h : okG G) : wlk G "NearSpellLaw" 73 (⟨"NearSpellModel", "distance", "(II)I"⟩, prog_14_method_70_code, 3, (some .int)) 2 ∧ Cond.instanceMethod ⟨"NearSpellModel", "distance", "(II)I"⟩ ∈ G.2.2.1 ∧ Cond.selects "NearSpellModel" ⟨"NearSpellModel", "distance", "(II)I"⟩ ⟨"NearSpellModel", "distance", "(II)I"⟩ ∈ G.2.2.1 ∧ ((¬ 12 = 1000 ∧ ∃ T N, G.1.2.2.1[12]? = some ("NearSpellModel", T, N)) ∨ (12 = 1000 ∧ "NearSpellModel" = "java/lang/String" ∧ ∀ s, G.2.2.2 s → ∀ n, (n = 1 ∨ n = 2) → va_O "java/lang/String" (G.2.1.2.1 n) G.1.2.2.2 s s.heap)) := ⟨⟨Or.inl (wmT h (wm1782)), wmT h (wm129), wmT h (wm1785), by decide +kernel, by decide +kernel, by decide +kernel⟩, wmT h (wm1783), wmT h (wm1784), Or.inl ⟨by decide, TX12, 67, by rw [h.2.1]; rfl⟩⟩
theorem lkL_74 {G : rfG} (h : okG G) : wlk G "NearSpellLaw" 74 (⟨"NearSpell", "forms", "(I)I"⟩, prog_1_method_16_code, 4, (some .int)) 1 ∧ Cond.instanceMethod ⟨"NearSpell", "forms", "(I)I"⟩ ∈ G.2.2.1 ∧ Cond.selects "NearSpell" ⟨"NearSpell", "forms", "(I)I"⟩ ⟨"NearSpell", "forms", "(I)I"⟩ ∈ G.2.2.1 ∧ ((¬ 11 = 1000 ∧ ∃ T N, G.1.2.2.1[11]? = some ("NearSpell", T, N)) ∨ (11 = 1000 ∧ "NearSpell" = "java/lang/String" ∧ ∀ s, G.2.2.2 s → ∀ n, (n = 1 ∨ n = 2) → va_O "java/lang/String" (G.2.1.2.1 n) G.1.2.2.2 s s.heap)) := ⟨⟨Or.inl (wmT h (wm994)), wmT h (wm117), wmT h (wm997), by decide +kernel, by decide +kernel, by decide +kernel⟩, wmT h (wm995), wmT h (wm996), Or.inl ⟨by decide, TX11, 15, by rw [h.2.1]; rfl⟩⟩
theorem lkL_77 {G : rfG} (h : okG G) : wlk G "NearSpellLaw" 77 (⟨"NearSpellModel", "forms", "(I)I"⟩, prog_14_method_72_code, 3, (some .int)) 1 ∧ Cond.instanceMethod ⟨"NearSpellModel", "forms", "(I)I"⟩ ∈ G.2.2.1 ∧ Cond.selects "NearSpellModel" ⟨"NearSpellModel", "forms", "(I)I"⟩ ⟨"NearSpellModel", "forms", "(I)I"⟩ ∈ G.2.2.1 ∧ ((¬ 12 = 1000 ∧ ∃ T N, G.1.2.2.1[12]? = some ("NearSpellModel", T, N)) ∨ (12 = 1000 ∧ "NearSpellModel" = "java/lang/String" ∧ ∀ s, G.2.2.2 s → ∀ n, (n = 1 ∨ n = 2) → va_O "java/lang/String" (G.2.1.2.1 n) G.1.2.2.2 s s.heap)) := ⟨⟨Or.inl (wmT h (wm1822)), wmT h (wm129), wmT h (wm1825), by decide +kernel, by decide +kernel, by decide +kernel⟩, wmT h (wm1823), wmT h (wm1824), Or.inl ⟨by decide, TX12, 67, by rw [h.2.1]; rfl⟩⟩
theorem lkL_78 {G : rfG} (h : okG G) : wlk G "NearSpellLaw" 78 (⟨"NearSpell", "bucket", "(I)I"⟩, prog_1_method_17_code, 2, (some .int)) 1 ∧ Cond.instanceMethod ⟨"NearSpell", "bucket", "(I)I"⟩ ∈ G.2.2.1 ∧ Cond.selects "NearSpell" ⟨"NearSpell", "bucket", "(I)I"⟩ ⟨"NearSpell", "bucket", "(I)I"⟩ ∈ G.2.2.1 ∧ ((¬ 11 = 1000 ∧ ∃ T N, G.1.2.2.1[11]? = some ("NearSpell", T, N)) ∨ (11 = 1000 ∧ "NearSpell" = "java/lang/String" ∧ ∀ s, G.2.2.2 s → ∀ n, (n = 1 ∨ n = 2) → va_O "java/lang/String" (G.2.1.2.1 n) G.1.2.2.2 s s.heap)) := ⟨⟨Or.inl (wmT h (wm999)), wmT h (wm117), wmT h (wm1002), by decide +kernel, by decide +kernel, by decide +kernel⟩, wmT h (wm1000), wmT h (wm1001), Or.inl ⟨by decide, TX11, 15, by rw [h.2.1]; rfl⟩⟩
theorem lkL_81 {G : rfG} (h : okG G) : wlk G "NearSpellLaw" 81 (⟨"NearSpellModel", "bucket", "(I)I"⟩, prog_14_method_73_code, 2, (some .int)) 1 ∧ Cond.instanceMethod ⟨"NearSpellModel", "bucket", "(I)I"⟩ ∈ G.2.2.1 ∧ Cond.selects "NearSpellModel" ⟨"NearSpellModel", "bucket", "(I)I"⟩ ⟨"NearSpellModel", "bucket", "(I)I"⟩ ∈ G.2.2.1 ∧ ((¬ 12 = 1000 ∧ ∃ T N, G.1.2.2.1[12]? = some ("NearSpellModel", T, N)) ∨ (12 = 1000 ∧ "NearSpellModel" = "java/lang/String" ∧ ∀ s, G.2.2.2 s → ∀ n, (n = 1 ∨ n = 2) → va_O "java/lang/String" (G.2.1.2.1 n) G.1.2.2.2 s s.heap)) := ⟨⟨Or.inl (wmT h (wm1826)), wmT h (wm129), wmT h (wm1829), by decide +kernel, by decide +kernel, by decide +kernel⟩, wmT h (wm1827), wmT h (wm1828), Or.inl ⟨by decide, TX12, 67, by rw [h.2.1]; rfl⟩⟩
theorem lkL_82 {G : rfG} (h : okG G) : wlk G "NearSpellLaw" 82 (⟨"NearSpell", "met", "(II)I"⟩, prog_1_method_18_code, 3, (some .int)) 2 ∧ Cond.instanceMethod ⟨"NearSpell", "met", "(II)I"⟩ ∈ G.2.2.1 ∧ Cond.selects "NearSpell" ⟨"NearSpell", "met", "(II)I"⟩ ⟨"NearSpell", "met", "(II)I"⟩ ∈ G.2.2.1 ∧ ((¬ 11 = 1000 ∧ ∃ T N, G.1.2.2.1[11]? = some ("NearSpell", T, N)) ∨ (11 = 1000 ∧ "NearSpell" = "java/lang/String" ∧ ∀ s, G.2.2.2 s → ∀ n, (n = 1 ∨ n = 2) → va_O "java/lang/String" (G.2.1.2.1 n) G.1.2.2.2 s s.heap)) := ⟨⟨Or.inl (wmT h (wm1030)), wmT h (wm117), wmT h (wm1033), by decide +kernel, by decide +kernel, by decide +kernel⟩, wmT h (wm1031), wmT h (wm1032), Or.inl ⟨by decide, TX11, 15, by rw [h.2.1]; rfl⟩⟩
theorem lkL_85 {G : rfG} (h : okG G) : wlk G "NearSpellLaw" 85 (⟨"NearSpellModel", "met", "(II)I"⟩, prog_14_method_74_code, 3, (some .int)) 2 ∧ Cond.instanceMethod ⟨"NearSpellModel", "met", "(II)I"⟩ ∈ G.2.2.1 ∧ Cond.selects "NearSpellModel" ⟨"NearSpellModel", "met", "(II)I"⟩ ⟨"NearSpellModel", "met", "(II)I"⟩ ∈ G.2.2.1 ∧ ((¬ 12 = 1000 ∧ ∃ T N, G.1.2.2.1[12]? = some ("NearSpellModel", T, N)) ∨ (12 = 1000 ∧ "NearSpellModel" = "java/lang/String" ∧ ∀ s, G.2.2.2 s → ∀ n, (n = 1 ∨ n = 2) → va_O "java/lang/String" (G.2.1.2.1 n) G.1.2.2.2 s s.heap)) := ⟨⟨Or.inl (wmT h (wm1848)), wmT h (wm129), wmT h (wm1851), by decide +kernel, by decide +kernel, by decide +kernel⟩, wmT h (wm1849), wmT h (wm1850), Or.inl ⟨by decide, TX12, 67, by rw [h.2.1]; rfl⟩⟩
theorem lkL_86 {G : rfG} (h : okG G) : wlk G "NearSpellLaw" 86 (⟨"NearSpell", "missed", "(II)I"⟩, prog_1_method_19_code, 3, (some .int)) 2 ∧ Cond.instanceMethod ⟨"NearSpell", "missed", "(II)I"⟩ ∈ G.2.2.1 ∧ Cond.selects "NearSpell" ⟨"NearSpell", "missed", "(II)I"⟩ ⟨"NearSpell", "missed", "(II)I"⟩ ∈ G.2.2.1 ∧ ((¬ 11 = 1000 ∧ ∃ T N, G.1.2.2.1[11]? = some ("NearSpell", T, N)) ∨ (11 = 1000 ∧ "NearSpell" = "java/lang/String" ∧ ∀ s, G.2.2.2 s → ∀ n, (n = 1 ∨ n = 2) → va_O "java/lang/String" (G.2.1.2.1 n) G.1.2.2.2 s s.heap)) := ⟨⟨Or.inl (wmT h (wm1044)), wmT h (wm117), wmT h (wm1047), by decide +kernel, by decide +kernel, by decide +kernel⟩, wmT h (wm1045), wmT h (wm1046), Or.inl ⟨by decide, TX11, 15, by rw [h.2.1]; rfl⟩⟩
theorem lkL_89 {G : rfG} (h : okG G) : wlk G "NearSpellLaw" 89 (⟨"NearSpellModel", "missed", "(II)I"⟩, prog_14_method_75_code, 4, (some .int)) 2 ∧ Cond.instanceMethod ⟨"NearSpellModel", "missed", "(II)I"⟩ ∈ G.2.2.1 ∧ Cond.selects "NearSpellModel" ⟨"NearSpellModel", "missed", "(II)I"⟩ ⟨"NearSpellModel", "missed", "(II)I"⟩ ∈ G.2.2.1 ∧ ((¬ 12 = 1000 ∧ ∃ T N, G.1.2.2.1[12]? = some ("NearSpellModel", T, N)) ∨ (12 = 1000 ∧ "NearSpellModel" = "java/lang/String" ∧ ∀ s, G.2.2.2 s → ∀ n, (n = 1 ∨ n = 2) → va_O "java/lang/String" (G.2.1.2.1 n) G.1.2.2.2 s s.heap)) := ⟨⟨Or.inl (wmT h (wm1868)), wmT h (wm129), wmT h (wm1871), by decide +kernel, by decide +kernel, by decide +kernel⟩, wmT h (wm1869), wmT h (wm1870), Or.inl ⟨by decide, TX12, 67, by rw [h.2.1]; rfl⟩⟩
theorem lkL_90 {G : rfG} (h : okG G) : wlk G "NearSpellLaw" 90 (⟨"NearSpell", "nearest", "(I)I"⟩, prog_1_method_20_code, 2, (some .int)) 1 ∧ Cond.instanceMethod ⟨"NearSpell", "nearest", "(I)I"⟩ ∈ G.2.2.1 ∧ Cond.selects "NearSpell" ⟨"NearSpell", "nearest", "(I)I"⟩ ⟨"NearSpell", "nearest", "(I)I"⟩ ∈ G.2.2.1 ∧ ((¬ 11 = 1000 ∧ ∃ T N, G.1.2.2.1[11]? = some ("NearSpell", T, N)) ∨ (11 = 1000 ∧ "NearSpell" = "java/lang/String" ∧ ∀ s, G.2.2.2 s → ∀ n, (n = 1 ∨ n = 2) → va_O "java/lang/String" (G.2.1.2.1 n) G.1.2.2.2 s s.heap)) := ⟨⟨Or.inl (wmT h (wm1052)), wmT h (wm117), wmT h (wm1055), by decide +kernel, by decide +kernel, by decide +kernel⟩, wmT h (wm1053), wmT h (wm1054), Or.inl ⟨by decide, TX11, 15, by rw [h.2.1]; rfl⟩⟩
theorem lkL_93 {G : rfG} (h : okG G) : wlk G "NearSpellLaw" 93 (⟨"NearSpellModel", "nearest", "(I)I"⟩, prog_14_method_76_code, 2, (some .int)) 1 ∧ Cond.instanceMethod ⟨"NearSpellModel", "nearest", "(I)I"⟩ ∈ G.2.2.1 ∧ Cond.selects "NearSpellModel" ⟨"NearSpellModel", "nearest", "(I)I"⟩ ⟨"NearSpellModel", "nearest", "(I)I"⟩ ∈ G.2.2.1 ∧ ((¬ 12 = 1000 ∧ ∃ T N, G.1.2.2.1[12]? = some ("NearSpellModel", T, N)) ∨ (12 = 1000 ∧ "NearSpellModel" = "java/lang/String" ∧ ∀ s, G.2.2.2 s → ∀ n, (n = 1 ∨ n = 2) → va_O "java/lang/String" (G.2.1.2.1 n) G.1.2.2.2 s s.heap)) := ⟨⟨Or.inl (wmT h (wm1884)), wmT h (wm129), wmT h (wm1887), by decide +kernel, by decide +kernel, by decide +kernel⟩, wmT h (wm1885), wmT h (wm1886), Or.inl ⟨by decide, TX12, 67, by rw [h.2.1]; rfl⟩⟩
theorem lkL_94 {G : rfG} (h : okG G) : wlk G "NearSpellLaw" 94 (⟨"NearSpell", "near", "(II)I"⟩, prog_1_method_21_code, 3, (some .int)) 2 ∧ Cond.instanceMethod ⟨"NearSpell", "near", "(II)I"⟩ ∈ G.2.2.1 ∧ Cond.selects "NearSpell" ⟨"NearSpell", "near", "(II)I"⟩ ⟨"NearSpell", "near", "(II)I"⟩ ∈ G.2.2.1 ∧ ((¬ 11 = 1000 ∧ ∃ T N, G.1.2.2.1[11]? = some ("NearSpell", T, N)) ∨ (11 = 1000 ∧ "NearSpell" = "java/lang/String" ∧ ∀ s, G.2.2.2 s → ∀ n, (n = 1 ∨ n = 2) → va_O "java/lang/String" (G.2.1.2.1 n) G.1.2.2.2 s s.heap)) := ⟨⟨Or.inl (wmT h (wm1056)), wmT h (wm117), wmT h (wm1059), by decide +kernel, by decide +kernel, by decide +kernel⟩, wmT h (wm1057), wmT h (wm1058), Or.inl ⟨by decide, TX11, 15, by rw [h.2.1]; rfl⟩⟩
theorem lkL_97 {G : rfG} (h : okG G) : wlk G "NearSpellLaw" 97 (⟨"NearSpellModel", "near", "(II)I"⟩, prog_14_method_77_code, 5, (some .int)) 2 ∧ Cond.instanceMethod ⟨"NearSpellModel", "near", "(II)I"⟩ ∈ G.2.2.1 ∧ Cond.selects "NearSpellModel" ⟨"NearSpellModel", "near", "(II)I"⟩ ⟨"NearSpellModel", "near", "(II)I"⟩ ∈ G.2.2.1 ∧ ((¬ 12 = 1000 ∧ ∃ T N, G.1.2.2.1[12]? = some ("NearSpellModel", T, N)) ∨ (12 = 1000 ∧ "NearSpellModel" = "java/lang/String" ∧ ∀ s, G.2.2.2 s → ∀ n, (n = 1 ∨ n = 2) → va_O "java/lang/String" (G.2.1.2.1 n) G.1.2.2.2 s s.heap)) := ⟨⟨Or.inl (wmT h (wm1896)), wmT h (wm129), wmT h (wm1899), by decide +kernel, by decide +kernel, by decide +kernel⟩, wmT h (wm1897), wmT h (wm1898), Or.inl ⟨by decide, TX12, 67, by rw [h.2.1]; rfl⟩⟩
theorem lkL_98 {G : rfG} (h : okG G) : wlk G "NearSpellLaw" 98 (⟨"NearSpell", "split", "(II)I"⟩, prog_1_method_22_code, 3, (some .int)) 2 ∧ Cond.instanceMethod ⟨"NearSpell", "split", "(II)I"⟩ ∈ G.2.2.1 ∧ Cond.selects "NearSpell" ⟨"NearSpell", "split", "(II)I"⟩ ⟨"NearSpell", "split", "(II)I"⟩ ∈ G.2.2.1 ∧ ((¬ 11 = 1000 ∧ ∃ T N, G.1.2.2.1[11]? = some ("NearSpell", T, N)) ∨ (11 = 1000 ∧ "NearSpell" = "java/lang/String" ∧ ∀ s, G.2.2.2 s → ∀ n, (n = 1 ∨ n = 2) → va_O "java/lang/String" (G.2.1.2.1 n) G.1.2.2.2 s s.heap)) := ⟨⟨Or.inl (wmT h (wm1064)), wmT h (wm117), wmT h (wm1067), by decide +kernel, by decide +kernel, by decide +kernel⟩, wmT h (wm1065), wmT h (wm1066), Or.inl ⟨by decide, TX11, 15, by rw [h.2.1]; rfl⟩⟩
theorem lkL_101 {G : rfG} (h : okG G) : wlk G "NearSpellLaw" 101 (⟨"NearSpellModel", "split", "(II)I"⟩, prog_14_method_78_code, 7, (some .int)) 2 ∧ Cond.instanceMethod ⟨"NearSpellModel", "split", "(II)I"⟩ ∈ G.2.2.1 ∧ Cond.selects "NearSpellModel" ⟨"NearSpellModel", "split", "(II)I"⟩ ⟨"NearSpellModel", "split", "(II)I"⟩ ∈ G.2.2.1 ∧ ((¬ 12 = 1000 ∧ ∃ T N, G.1.2.2.1[12]? = some ("NearSpellModel", T, N)) ∨ (12 = 1000 ∧ "NearSpellModel" = "java/lang/String" ∧ ∀ s, G.2.2.2 s → ∀ n, (n = 1 ∨ n = 2) → va_O "java/lang/String" (G.2.1.2.1 n) G.1.2.2.2 s s.heap)) := ⟨⟨Or.inl (wmT h (wm1900)), wmT h (wm129), wmT h (wm1903), by decide +kernel, by decide +kernel, by decide +kernel⟩, wmT h (wm1901), wmT h (wm1902), Or.inl ⟨by decide, TX12, 67, by rw [h.2.1]; rfl⟩⟩
theorem lkL_102 {G : rfG} (h : okG G) : wlk G "NearSpellLaw" 102 (⟨"NearSpell", "join", "(II)I"⟩, prog_1_method_23_code, 3, (some .int)) 2 ∧ Cond.instanceMethod ⟨"NearSpell", "join", "(II)I"⟩ ∈ G.2.2.1 ∧ Cond.selects "NearSpell" ⟨"NearSpell", "join", "(II)I"⟩ ⟨"NearSpell", "join", "(II)I"⟩ ∈ G.2.2.1 ∧ ((¬ 11 = 1000 ∧ ∃ T N, G.1.2.2.1[11]? = some ("NearSpell", T, N)) ∨ (11 = 1000 ∧ "NearSpell" = "java/lang/String" ∧ ∀ s, G.2.2.2 s → ∀ n, (n = 1 ∨ n = 2) → va_O "java/lang/String" (G.2.1.2.1 n) G.1.2.2.2 s s.heap)) := ⟨⟨Or.inl (wmT h (wm1093)), wmT h (wm117), wmT h (wm1096), by decide +kernel, by decide +kernel, by decide +kernel⟩, wmT h (wm1094), wmT h (wm1095), Or.inl ⟨by decide, TX11, 15, by rw [h.2.1]; rfl⟩⟩
theorem lkL_105 {G : rfG} (h : okG G) : wlk G "NearSpellLaw" 105 (⟨"NearSpellModel", "join", "(II)I"⟩, prog_14_method_79_code, 7, (some .int)) 2 ∧ Cond.instanceMethod ⟨"NearSpellModel", "join", "(II)I"⟩ ∈ G.2.2.1 ∧ Cond.selects "NearSpellModel" ⟨"NearSpellModel", "join", "(II)I"⟩ ⟨"NearSpellModel", "join", "(II)I"⟩ ∈ G.2.2.1 ∧ ((¬ 12 = 1000 ∧ ∃ T N, G.1.2.2.1[12]? = some ("NearSpellModel", T, N)) ∨ (12 = 1000 ∧ "NearSpellModel" = "java/lang/String" ∧ ∀ s, G.2.2.2 s → ∀ n, (n = 1 ∨ n = 2) → va_O "java/lang/String" (G.2.1.2.1 n) G.1.2.2.2 s s.heap)) := ⟨⟨Or.inl (wmT h (wm1904)), wmT h (wm129), wmT h (wm1907), by decide +kernel, by decide +kernel, by decide +kernel⟩, wmT h (wm1905), wmT h (wm1906), Or.inl ⟨by decide, TX12, 67, by rw [h.2.1]; rfl⟩⟩
theorem lkL_106 {G : rfG} (h : okG G) : wlk G "NearSpellLaw" 106 (⟨"NearSpell", "reading", "()I"⟩, prog_1_method_24_code, 1, (some .int)) 0 ∧ Cond.instanceMethod ⟨"NearSpell", "reading", "()I"⟩ ∈ G.2.2.1 ∧ Cond.selects "NearSpell" ⟨"NearSpell", "reading", "()I"⟩ ⟨"NearSpell", "reading", "()I"⟩ ∈ G.2.2.1 ∧ ((¬ 11 = 1000 ∧ ∃ T N, G.1.2.2.1[11]? = some ("NearSpell", T, N)) ∨ (11 = 1000 ∧ "NearSpell" = "java/lang/String" ∧ ∀ s, G.2.2.2 s → ∀ n, (n = 1 ∨ n = 2) → va_O "java/lang/String" (G.2.1.2.1 n) G.1.2.2.2 s s.heap)) := ⟨⟨Or.inl (wmT h (wm1111)), wmT h (wm117), wmT h (wm1114), by decide +kernel, by decide +kernel, by decide +kernel⟩, wmT h (wm1112), wmT h (wm1113), Or.inl ⟨by decide, TX11, 15, by rw [h.2.1]; rfl⟩⟩
theorem lkL_109 {G : rfG} (h : okG G) : wlk G "NearSpellLaw" 109 (⟨"NearSpellModel", "reading", "()I"⟩, prog_14_method_84_code, 1, (some .int)) 0 ∧ Cond.instanceMethod ⟨"NearSpellModel", "reading", "()I"⟩ ∈ G.2.2.1 ∧ Cond.selects "NearSpellModel" ⟨"NearSpellModel", "reading", "()I"⟩ ⟨"NearSpellModel", "reading", "()I"⟩ ∈ G.2.2.1 ∧ ((¬ 12 = 1000 ∧ ∃ T N, G.1.2.2.1[12]? = some ("NearSpellModel", T, N)) ∨ (12 = 1000 ∧ "NearSpellModel" = "java/lang/String" ∧ ∀ s, G.2.2.2 s → ∀ n, (n = 1 ∨ n = 2) → va_O "java/lang/String" (G.2.1.2.1 n) G.1.2.2.2 s s.heap)) := ⟨⟨Or.inl (wmT h (wm1908)), wmT h (wm129), wmT h (wm1911), by decide +kernel, by decide +kernel, by decide +kernel⟩, wmT h (wm1909), wmT h (wm1910), Or.inl ⟨by decide, TX12, 67, by rw [h.2.1]; rfl⟩⟩
theorem lkL_110 {G : rfG} (h : okG G) : wlk G "NearSpellLaw" 110 (⟨"NearSpell", "readings", "()I"⟩, prog_1_method_25_code, 1, (some .int)) 0 ∧ Cond.instanceMethod ⟨"NearSpell", "readings", "()I"⟩ ∈ G.2.2.1 ∧ Cond.selects "NearSpell" ⟨"NearSpell", "readings", "()I"⟩ ⟨"NearSpell", "readings", "()I"⟩ ∈ G.2.2.1 ∧ ((¬ 11 = 1000 ∧ ∃ T N, G.1.2.2.1[11]? = some ("NearSpell", T, N)) ∨ (11 = 1000 ∧ "NearSpell" = "java/lang/String" ∧ ∀ s, G.2.2.2 s → ∀ n, (n = 1 ∨ n = 2) → va_O "java/lang/String" (G.2.1.2.1 n) G.1.2.2.2 s s.heap)) := ⟨⟨Or.inl (wmT h (wm1135)), wmT h (wm117), wmT h (wm1138), by decide +kernel, by decide +kernel, by decide +kernel⟩, wmT h (wm1136), wmT h (wm1137), Or.inl ⟨by decide, TX11, 15, by rw [h.2.1]; rfl⟩⟩
theorem lkL_113 {G : rfG} (h : okG G) : wlk G "NearSpellLaw" 113 (⟨"NearSpellModel", "readings", "()I"⟩, prog_14_method_85_code, 1, (some .int)) 0 ∧ Cond.instanceMethod ⟨"NearSpellModel", "readings", "()I"⟩ ∈ G.2.2.1 ∧ Cond.selects "NearSpellModel" ⟨"NearSpellModel", "readings", "()I"⟩ ⟨"NearSpellModel", "readings", "()I"⟩ ∈ G.2.2.1 ∧ ((¬ 12 = 1000 ∧ ∃ T N, G.1.2.2.1[12]? = some ("NearSpellModel", T, N)) ∨ (12 = 1000 ∧ "NearSpellModel" = "java/lang/String" ∧ ∀ s, G.2.2.2 s → ∀ n, (n = 1 ∨ n = 2) → va_O "java/lang/String" (G.2.1.2.1 n) G.1.2.2.2 s s.heap)) := ⟨⟨Or.inl (wmT h (wm1928)), wmT h (wm129), wmT h (wm1931), by decide +kernel, by decide +kernel, by decide +kernel⟩, wmT h (wm1929), wmT h (wm1930), Or.inl ⟨by decide, TX12, 67, by rw [h.2.1]; rfl⟩⟩
theorem lkL_114 {G : rfG} (h : okG G) : wlk G "NearSpellLaw" 114 (⟨"NearSpell", "closest", "(I)I"⟩, prog_1_method_26_code, 2, (some .int)) 1 ∧ Cond.instanceMethod ⟨"NearSpell", "closest", "(I)I"⟩ ∈ G.2.2.1 ∧ Cond.selects "NearSpell" ⟨"NearSpell", "closest", "(I)I"⟩ ⟨"NearSpell", "closest", "(I)I"⟩ ∈ G.2.2.1 ∧ ((¬ 11 = 1000 ∧ ∃ T N, G.1.2.2.1[11]? = some ("NearSpell", T, N)) ∨ (11 = 1000 ∧ "NearSpell" = "java/lang/String" ∧ ∀ s, G.2.2.2 s → ∀ n, (n = 1 ∨ n = 2) → va_O "java/lang/String" (G.2.1.2.1 n) G.1.2.2.2 s s.heap)) := ⟨⟨Or.inl (wmT h (wm1143)), wmT h (wm117), wmT h (wm1146), by decide +kernel, by decide +kernel, by decide +kernel⟩, wmT h (wm1144), wmT h (wm1145), Or.inl ⟨by decide, TX11, 15, by rw [h.2.1]; rfl⟩⟩
theorem lkL_117 {G : rfG} (h : okG G) : wlk G "NearSpellLaw" 117 (⟨"NearSpellModel", "closest", "(I)I"⟩, prog_14_method_88_code, 5, (some .int)) 1 ∧ Cond.instanceMethod ⟨"NearSpellModel", "closest", "(I)I"⟩ ∈ G.2.2.1 ∧ Cond.selects "NearSpellModel" ⟨"NearSpellModel", "closest", "(I)I"⟩ ⟨"NearSpellModel", "closest", "(I)I"⟩ ∈ G.2.2.1 ∧ ((¬ 12 = 1000 ∧ ∃ T N, G.1.2.2.1[12]? = some ("NearSpellModel", T, N)) ∨ (12 = 1000 ∧ "NearSpellModel" = "java/lang/String" ∧ ∀ s, G.2.2.2 s → ∀ n, (n = 1 ∨ n = 2) → va_O "java/lang/String" (G.2.1.2.1 n) G.1.2.2.2 s s.heap)) := ⟨⟨Or.inl (wmT h (wm1932)), wmT h (wm129), wmT h (wm1935), by decide +kernel, by decide +kernel, by decide +kernel⟩, wmT h (wm1933), wmT h (wm1934), Or.inl ⟨by decide, TX12, 67, by rw [h.2.1]; rfl⟩⟩
theorem lkL_118 {G : rfG} (h : okG G) : wlk G "NearSpellLaw" 118 (⟨"NearSpell", "groups", "(I)I"⟩, prog_1_method_27_code, 2, (some .int)) 1 ∧ Cond.instanceMethod ⟨"NearSpell", "groups", "(I)I"⟩ ∈ G.2.2.1 ∧ Cond.selects "NearSpell" ⟨"NearSpell", "groups", "(I)I"⟩ ⟨"NearSpell", "groups", "(I)I"⟩ ∈ G.2.2.1 ∧ ((¬ 11 = 1000 ∧ ∃ T N, G.1.2.2.1[11]? = some ("NearSpell", T, N)) ∨ (11 = 1000 ∧ "NearSpell" = "java/lang/String" ∧ ∀ s, G.2.2.2 s → ∀ n, (n = 1 ∨ n = 2) → va_O "java/lang/String" (G.2.1.2.1 n) G.1.2.2.2 s s.heap)) := ⟨⟨Or.inl (wmT h (wm1164)), wmT h (wm117), wmT h (wm1167), by decide +kernel, by decide +kernel, by decide +kernel⟩, wmT h (wm1165), wmT h (wm1166), Or.inl ⟨by decide, TX11, 15, by rw [h.2.1]; rfl⟩⟩
theorem lkL_121 {G : rfG} (h : okG G) : wlk G "NearSpellLaw" 121 (⟨"NearSpellModel", "groups", "(I)I"⟩, prog_14_method_90_code, 6, (some .int)) 1 ∧ Cond.instanceMethod ⟨"NearSpellModel", "groups", "(I)I"⟩ ∈ G.2.2.1 ∧ Cond.selects "NearSpellModel" ⟨"NearSpellModel", "groups", "(I)I"⟩ ⟨"NearSpellModel", "groups", "(I)I"⟩ ∈ G.2.2.1 ∧ ((¬ 12 = 1000 ∧ ∃ T N, G.1.2.2.1[12]? = some ("NearSpellModel", T, N)) ∨ (12 = 1000 ∧ "NearSpellModel" = "java/lang/String" ∧ ∀ s, G.2.2.2 s → ∀ n, (n = 1 ∨ n = 2) → va_O "java/lang/String" (G.2.1.2.1 n) G.1.2.2.2 s s.heap)) := ⟨⟨Or.inl (wmT h (wm1944)), wmT h (wm129), wmT h (wm1947), by decide +kernel, by decide +kernel, by decide +kernel⟩, wmT h (wm1945), wmT h (wm1946), Or.inl ⟨by decide, TX12, 67, by rw [h.2.1]; rfl⟩⟩
theorem lkL_122 {G : rfG} (h : okG G) : wlk G "NearSpellLaw" 122 (⟨"NearSpell", "far", "(II)I"⟩, prog_1_method_28_code, 4, (some .int)) 2 ∧ Cond.instanceMethod ⟨"NearSpell", "far", "(II)I"⟩ ∈ G.2.2.1 ∧ Cond.selects "NearSpell" ⟨"NearSpell", "far", "(II)I"⟩ ⟨"NearSpell", "far", "(II)I"⟩ ∈ G.2.2.1 ∧ ((¬ 11 = 1000 ∧ ∃ T N, G.1.2.2.1[11]? = some ("NearSpell", T, N)) ∨ (11 = 1000 ∧ "NearSpell" = "java/lang/String" ∧ ∀ s, G.2.2.2 s → ∀ n, (n = 1 ∨ n = 2) → va_O "java/lang/String" (G.2.1.2.1 n) G.1.2.2.2 s s.heap)) := ⟨⟨Or.inl (wmT h (wm1184)), wmT h (wm117), wmT h (wm1187), by decide +kernel, by decide +kernel, by decide +kernel⟩, wmT h (wm1185), wmT h (wm1186), Or.inl ⟨by decide, TX11, 15, by rw [h.2.1]; rfl⟩⟩
theorem lkL_125 {G : rfG} (h : okG G) : wlk G "NearSpellLaw" 125 (⟨"NearSpellModel", "far", "(II)I"⟩, prog_14_method_92_code, 7, (some .int)) 2 ∧ Cond.instanceMethod ⟨"NearSpellModel", "far", "(II)I"⟩ ∈ G.2.2.1 ∧ Cond.selects "NearSpellModel" ⟨"NearSpellModel", "far", "(II)I"⟩ ⟨"NearSpellModel", "far", "(II)I"⟩ ∈ G.2.2.1 ∧ ((¬ 12 = 1000 ∧ ∃ T N, G.1.2.2.1[12]? = some ("NearSpellModel", T, N)) ∨ (12 = 1000 ∧ "NearSpellModel" = "java/lang/String" ∧ ∀ s, G.2.2.2 s → ∀ n, (n = 1 ∨ n = 2) → va_O "java/lang/String" (G.2.1.2.1 n) G.1.2.2.2 s s.heap)) := ⟨⟨Or.inl (wmT h (wm1959)), wmT h (wm129), wmT h (wm1962), by decide +kernel, by decide +kernel, by decide +kernel⟩, wmT h (wm1960), wmT h (wm1961), Or.inl ⟨by decide, TX12, 67, by rw [h.2.1]; rfl⟩⟩
theorem lkL_126 {G : rfG} (h : okG G) : wlk G "NearSpellLaw" 126 (⟨"NearSpell", "middle", "()I"⟩, prog_1_method_29_code, 1, (some .int)) 0 ∧ Cond.instanceMethod ⟨"NearSpell", "middle", "()I"⟩ ∈ G.2.2.1 ∧ Cond.selects "NearSpell" ⟨"NearSpell", "middle", "()I"⟩ ⟨"NearSpell", "middle", "()I"⟩ ∈ G.2.2.1 ∧ ((¬ 11 = 1000 ∧ ∃ T N, G.1.2.2.1[11]? = some ("NearSpell", T, N)) ∨ (11 = 1000 ∧ "NearSpell" = "java/lang/String" ∧ ∀ s, G.2.2.2 s → ∀ n, (n = 1 ∨ n = 2) → va_O "java/lang/String" (G.2.1.2.1 n) G.1.2.2.2 s s.heap)) := ⟨⟨Or.inl (wmT h (wm1204)), wmT h (wm117), wmT h (wm1207), by decide +kernel, by decide +kernel, by decide +kernel⟩, wmT h (wm1205), wmT h (wm1206), Or.inl ⟨by decide, TX11, 15, by rw [h.2.1]; rfl⟩⟩
theorem lkL_129 {G : rfG} (h : okG G) : wlk G "NearSpellLaw" 129 (⟨"NearSpellModel", "middle", "()I"⟩, prog_14_method_93_code, 6, (some .int)) 0 ∧ Cond.instanceMethod ⟨"NearSpellModel", "middle", "()I"⟩ ∈ G.2.2.1 ∧ Cond.selects "NearSpellModel" ⟨"NearSpellModel", "middle", "()I"⟩ ⟨"NearSpellModel", "middle", "()I"⟩ ∈ G.2.2.1 ∧ ((¬ 12 = 1000 ∧ ∃ T N, G.1.2.2.1[12]? = some ("NearSpellModel", T, N)) ∨ (12 = 1000 ∧ "NearSpellModel" = "java/lang/String" ∧ ∀ s, G.2.2.2 s → ∀ n, (n = 1 ∨ n = 2) → va_O "java/lang/String" (G.2.1.2.1 n) G.1.2.2.2 s s.heap)) := ⟨⟨Or.inl (wmT h (wm1967)), wmT h (wm129), wmT h (wm1970), by decide +kernel, by decide +kernel, by decide +kernel⟩, wmT h (wm1968), wmT h (wm1969), Or.inl ⟨by decide, TX12, 67, by rw [h.2.1]; rfl⟩⟩
theorem lkL_130 {G : rfG} (h : okG G) : wlk G "NearSpellLaw" 130 (⟨"NearSpell", "chain", "(III)I"⟩, prog_1_method_30_code, 4, (some .int)) 3 ∧ Cond.instanceMethod ⟨"NearSpell", "chain", "(III)I"⟩ ∈ G.2.2.1 ∧ Cond.selects "NearSpell" ⟨"NearSpell", "chain", "(III)I"⟩ ⟨"NearSpell", "chain", "(III)I"⟩ ∈ G.2.2.1 ∧ ((¬ 11 = 1000 ∧ ∃ T N, G.1.2.2.1[11]? = some ("NearSpell", T, N)) ∨ (11 = 1000 ∧ "NearSpell" = "java/lang/String" ∧ ∀ s, G.2.2.2 s → ∀ n, (n = 1 ∨ n = 2) → va_O "java/lang/String" (G.2.1.2.1 n) G.1.2.2.2 s s.heap)) := ⟨⟨Or.inl (wmT h (wm1216)), wmT h (wm117), wmT h (wm1219), by decide +kernel, by decide +kernel, by decide +kernel⟩, wmT h (wm1217), wmT h (wm1218), Or.inl ⟨by decide, TX11, 15, by rw [h.2.1]; rfl⟩⟩
theorem lkL_134 {G : rfG} (h : okG G) : wlk G "NearSpellLaw" 134 (⟨"NearSpellModel", "chain", "(III)I"⟩, prog_14_method_94_code, 6, (some .int)) 3 ∧ Cond.instanceMethod ⟨"NearSpellModel", "chain", "(III)I"⟩ ∈ G.2.2.1 ∧ Cond.selects "NearSpellModel" ⟨"NearSpellModel", "chain", "(III)I"⟩ ⟨"NearSpellModel", "chain", "(III)I"⟩ ∈ G.2.2.1 ∧ ((¬ 12 = 1000 ∧ ∃ T N, G.1.2.2.1[12]? = some ("NearSpellModel", T, N)) ∨ (12 = 1000 ∧ "NearSpellModel" = "java/lang/String" ∧ ∀ s, G.2.2.2 s → ∀ n, (n = 1 ∨ n = 2) → va_O "java/lang/String" (G.2.1.2.1 n) G.1.2.2.2 s s.heap)) := ⟨⟨Or.inl (wmT h (wm1971)), wmT h (wm129), wmT h (wm1974), by decide +kernel, by decide +kernel, by decide +kernel⟩, wmT h (wm1972), wmT h (wm1973), Or.inl ⟨by decide, TX12, 67, by rw [h.2.1]; rfl⟩⟩
theorem lkL_135 {G : rfG} (h : okG G) : wlk G "NearSpellLaw" 135 (⟨"NearSpell", "begins", "(I)I"⟩, prog_1_method_31_code, 2, (some .int)) 1 ∧ Cond.instanceMethod ⟨"NearSpell", "begins", "(I)I"⟩ ∈ G.2.2.1 ∧ Cond.selects "NearSpell" ⟨"NearSpell", "begins", "(I)I"⟩ ⟨"NearSpell", "begins", "(I)I"⟩ ∈ G.2.2.1 ∧ ((¬ 11 = 1000 ∧ ∃ T N, G.1.2.2.1[11]? = some ("NearSpell", T, N)) ∨ (11 = 1000 ∧ "NearSpell" = "java/lang/String" ∧ ∀ s, G.2.2.2 s → ∀ n, (n = 1 ∨ n = 2) → va_O "java/lang/String" (G.2.1.2.1 n) G.1.2.2.2 s s.heap)) := ⟨⟨Or.inl (wmT h (wm1224)), wmT h (wm117), wmT h (wm1227), by decide +kernel, by decide +kernel, by decide +kernel⟩, wmT h (wm1225), wmT h (wm1226), Or.inl ⟨by decide, TX11, 15, by rw [h.2.1]; rfl⟩⟩
theorem lkL_138 {G : rfG} (h : okG G) : wlk G "NearSpellLaw" 138 (⟨"NearSpellModel", "begins", "(I)I"⟩, prog_14_method_95_code, 5, (some .int)) 1 ∧ Cond.instanceMethod ⟨"NearSpellModel", "begins", "(I)I"⟩ ∈ G.2.2.1 ∧ Cond.selects "NearSpellModel" ⟨"NearSpellModel", "begins", "(I)I"⟩ ⟨"NearSpellModel", "begins", "(I)I"⟩ ∈ G.2.2.1 ∧ ((¬ 12 = 1000 ∧ ∃ T N, G.1.2.2.1[12]? = some ("NearSpellModel", T, N)) ∨ (12 = 1000 ∧ "NearSpellModel" = "java/lang/String" ∧ ∀ s, G.2.2.2 s → ∀ n, (n = 1 ∨ n = 2) → va_O "java/lang/String" (G.2.1.2.1 n) G.1.2.2.2 s s.heap)) := ⟨⟨Or.inl (wmT h (wm1975)), wmT h (wm129), wmT h (wm1978), by decide +kernel, by decide +kernel, by decide +kernel⟩, wmT h (wm1976), wmT h (wm1977), Or.inl ⟨by decide, TX12, 67, by rw [h.2.1]; rfl⟩⟩
theorem lkL_139 {G : rfG} (h : okG G) : wlk G "NearSpellLaw" 139 (⟨"NearSpell", "crowded", "(I)I"⟩, prog_1_method_32_code, 2, (some .int)) 1 ∧ Cond.instanceMethod ⟨"NearSpell", "crowded", "(I)I"⟩ ∈ G.2.2.1 ∧ Cond.selects "NearSpell" ⟨"NearSpell", "crowded", "(I)I"⟩ ⟨"NearSpell", "crowded", "(I)I"⟩ ∈ G.2.2.1 ∧ ((¬ 11 = 1000 ∧ ∃ T N, G.1.2.2.1[11]? = some ("NearSpell", T, N)) ∨ (11 = 1000 ∧ "NearSpell" = "java/lang/String" ∧ ∀ s, G.2.2.2 s → ∀ n, (n = 1 ∨ n = 2) → va_O "java/lang/String" (G.2.1.2.1 n) G.1.2.2.2 s s.heap)) := ⟨⟨Or.inl (wmT h (wm1234)), wmT h (wm117), wmT h (wm1237), by decide +kernel, by decide +kernel, by decide +kernel⟩, wmT h (wm1235), wmT h (wm1236), Or.inl ⟨by decide, TX11, 15, by rw [h.2.1]; rfl⟩⟩
theorem lkL_142 {G : rfG} (h : okG G) : wlk G "NearSpellLaw" 142 (⟨"NearSpellModel", "crowded", "(I)I"⟩, prog_14_method_96_code, 4, (some .int)) 1 ∧ Cond.instanceMethod ⟨"NearSpellModel", "crowded", "(I)I"⟩ ∈ G.2.2.1 ∧ Cond.selects "NearSpellModel" ⟨"NearSpellModel", "crowded", "(I)I"⟩ ⟨"NearSpellModel", "crowded", "(I)I"⟩ ∈ G.2.2.1 ∧ ((¬ 12 = 1000 ∧ ∃ T N, G.1.2.2.1[12]? = some ("NearSpellModel", T, N)) ∨ (12 = 1000 ∧ "NearSpellModel" = "java/lang/String" ∧ ∀ s, G.2.2.2 s → ∀ n, (n = 1 ∨ n = 2) → va_O "java/lang/String" (G.2.1.2.1 n) G.1.2.2.2 s s.heap)) := ⟨⟨Or.inl (wmT h (wm1979)), wmT h (wm129), wmT h (wm1982), by decide +kernel, by decide +kernel, by decide +kernel⟩, wmT h (wm1980), wmT h (wm1981), Or.inl ⟨by decide, TX12, 67, by rw [h.2.1]; rfl⟩⟩
theorem lkL_143 {G : rfG} (h : okG G) : wlk G "NearSpellLaw" 143 (⟨"NearSpell", "load", "(I)I"⟩, prog_1_method_33_code, 2, (some .int)) 1 ∧ Cond.instanceMethod ⟨"NearSpell", "load", "(I)I"⟩ ∈ G.2.2.1 ∧ Cond.selects "NearSpell" ⟨"NearSpell", "load", "(I)I"⟩ ⟨"NearSpell", "load", "(I)I"⟩ ∈ G.2.2.1 ∧ ((¬ 11 = 1000 ∧ ∃ T N, G.1.2.2.1[11]? = some ("NearSpell", T, N)) ∨ (11 = 1000 ∧ "NearSpell" = "java/lang/String" ∧ ∀ s, G.2.2.2 s → ∀ n, (n = 1 ∨ n = 2) → va_O "java/lang/String" (G.2.1.2.1 n) G.1.2.2.2 s s.heap)) := ⟨⟨Or.inl (wmT h (wm1242)), wmT h (wm117), wmT h (wm1245), by decide +kernel, by decide +kernel, by decide +kernel⟩, wmT h (wm1243), wmT h (wm1244), Or.inl ⟨by decide, TX11, 15, by rw [h.2.1]; rfl⟩⟩
theorem lkL_146 {G : rfG} (h : okG G) : wlk G "NearSpellLaw" 146 (⟨"NearSpellModel", "load", "(I)I"⟩, prog_14_method_98_code, 3, (some .int)) 1 ∧ Cond.instanceMethod ⟨"NearSpellModel", "load", "(I)I"⟩ ∈ G.2.2.1 ∧ Cond.selects "NearSpellModel" ⟨"NearSpellModel", "load", "(I)I"⟩ ⟨"NearSpellModel", "load", "(I)I"⟩ ∈ G.2.2.1 ∧ ((¬ 12 = 1000 ∧ ∃ T N, G.1.2.2.1[12]? = some ("NearSpellModel", T, N)) ∨ (12 = 1000 ∧ "NearSpellModel" = "java/lang/String" ∧ ∀ s, G.2.2.2 s → ∀ n, (n = 1 ∨ n = 2) → va_O "java/lang/String" (G.2.1.2.1 n) G.1.2.2.2 s s.heap)) := ⟨⟨Or.inl (wmT h (wm1983)), wmT h (wm129), wmT h (wm1986), by decide +kernel, by decide +kernel, by decide +kernel⟩, wmT h (wm1984), wmT h (wm1985), Or.inl ⟨by decide, TX12, 67, by rw [h.2.1]; rfl⟩⟩
theorem lkL_147 {G : rfG} (h : okG G) : wlk G "NearSpellLaw" 147 (⟨"NearSpell", "fullest", "()I"⟩, prog_1_method_34_code, 1, (some .int)) 0 ∧ Cond.instanceMethod ⟨"NearSpell", "fullest", "()I"⟩ ∈ G.2.2.1 ∧ Cond.selects "NearSpell" ⟨"NearSpell", "fullest", "()I"⟩ ⟨"NearSpell", "fullest", "()I"⟩ ∈ G.2.2.1 ∧ ((¬ 11 = 1000 ∧ ∃ T N, G.1.2.2.1[11]? = some ("NearSpell", T, N)) ∨ (11 = 1000 ∧ "NearSpell" = "java/lang/String" ∧ ∀ s, G.2.2.2 s → ∀ n, (n = 1 ∨ n = 2) → va_O "java/lang/String" (G.2.1.2.1 n) G.1.2.2.2 s s.heap)) := ⟨⟨Or.inl (wmT h (wm1270)), wmT h (wm117), wmT h (wm1273), by decide +kernel, by decide +kernel, by decide +kernel⟩, wmT h (wm1271), wmT h (wm1272), Or.inl ⟨by decide, TX11, 15, by rw [h.2.1]; rfl⟩⟩
theorem lkL_150 {G : rfG} (h : okG G) : wlk G "NearSpellLaw" 150 (⟨"NearSpellModel", "fullest", "()I"⟩, prog_14_method_99_code, 6, (some .int)) 0 ∧ Cond.instanceMethod ⟨"NearSpellModel", "fullest", "()I"⟩ ∈ G.2.2.1 ∧ Cond.selects "NearSpellModel" ⟨"NearSpellModel", "fullest", "()I"⟩ ⟨"NearSpellModel", "fullest", "()I"⟩ ∈ G.2.2.1 ∧ ((¬ 12 = 1000 ∧ ∃ T N, G.1.2.2.1[12]? = some ("NearSpellModel", T, N)) ∨ (12 = 1000 ∧ "NearSpellModel" = "java/lang/String" ∧ ∀ s, G.2.2.2 s → ∀ n, (n = 1 ∨ n = 2) → va_O "java/lang/String" (G.2.1.2.1 n) G.1.2.2.2 s s.heap)) := ⟨⟨Or.inl (wmT h (wm1991)), wmT h (wm129), wmT h (wm1994), by decide +kernel, by decide +kernel, by decide +kernel⟩, wmT h (wm1992), wmT h (wm1993), Or.inl ⟨by decide, TX12, 67, by rw [h.2.1]; rfl⟩⟩
theorem lkL_151 {G : rfG} (h : okG G) : wlk G "NearSpellLaw" 151 (⟨"NearSpell", "store", "()I"⟩, prog_1_method_35_code, 1, (some .int)) 0 ∧ Cond.instanceMethod ⟨"NearSpell", "store", "()I"⟩ ∈ G.2.2.1 ∧ Cond.selects "NearSpell" ⟨"NearSpell", "store", "()I"⟩ ⟨"NearSpell", "store", "()I"⟩ ∈ G.2.2.1 ∧ ((¬ 11 = 1000 ∧ ∃ T N, G.1.2.2.1[11]? = some ("NearSpell", T, N)) ∨ (11 = 1000 ∧ "NearSpell" = "java/lang/String" ∧ ∀ s, G.2.2.2 s → ∀ n, (n = 1 ∨ n = 2) → va_O "java/lang/String" (G.2.1.2.1 n) G.1.2.2.2 s s.heap)) := ⟨⟨Or.inl (wmT h (wm1278)), wmT h (wm117), wmT h (wm1281), by decide +kernel, by decide +kernel, by decide +kernel⟩, wmT h (wm1279), wmT h (wm1280), Or.inl ⟨by decide, TX11, 15, by rw [h.2.1]; rfl⟩⟩
theorem lkL_154 {G : rfG} (h : okG G) : wlk G "NearSpellLaw" 154 (⟨"NearSpellModel", "store", "()I"⟩, prog_14_method_100_code, 1, (some .int)) 0 ∧ Cond.instanceMethod ⟨"NearSpellModel", "store", "()I"⟩ ∈ G.2.2.1 ∧ Cond.selects "NearSpellModel" ⟨"NearSpellModel", "store", "()I"⟩ ⟨"NearSpellModel", "store", "()I"⟩ ∈ G.2.2.1 ∧ ((¬ 12 = 1000 ∧ ∃ T N, G.1.2.2.1[12]? = some ("NearSpellModel", T, N)) ∨ (12 = 1000 ∧ "NearSpellModel" = "java/lang/String" ∧ ∀ s, G.2.2.2 s → ∀ n, (n = 1 ∨ n = 2) → va_O "java/lang/String" (G.2.1.2.1 n) G.1.2.2.2 s s.heap)) := ⟨⟨Or.inl (wmT h (wm1995)), wmT h (wm129), wmT h (wm1998), by decide +kernel, by decide +kernel, by decide +kernel⟩, wmT h (wm1996), wmT h (wm1997), Or.inl ⟨by decide, TX12, 67, by rw [h.2.1]; rfl⟩⟩
theorem lkL_155 {G : rfG} (h : okG G) : wlk G "NearSpellLaw" 155 (⟨"NearSpell", "clashes", "()I"⟩, prog_1_method_36_code, 1, (some .int)) 0 ∧ Cond.instanceMethod ⟨"NearSpell", "clashes", "()I"⟩ ∈ G.2.2.1 ∧ Cond.selects "NearSpell" ⟨"NearSpell", "clashes", "()I"⟩ ⟨"NearSpell", "clashes", "()I"⟩ ∈ G.2.2.1 ∧ ((¬ 11 = 1000 ∧ ∃ T N, G.1.2.2.1[11]? = some ("NearSpell", T, N)) ∨ (11 = 1000 ∧ "NearSpell" = "java/lang/String" ∧ ∀ s, G.2.2.2 s → ∀ n, (n = 1 ∨ n = 2) → va_O "java/lang/String" (G.2.1.2.1 n) G.1.2.2.2 s s.heap)) := ⟨⟨Or.inl (wmT h (wm1286)), wmT h (wm117), wmT h (wm1289), by decide +kernel, by decide +kernel, by decide +kernel⟩, wmT h (wm1287), wmT h (wm1288), Or.inl ⟨by decide, TX11, 15, by rw [h.2.1]; rfl⟩⟩
theorem lkL_158 {G : rfG} (h : okG G) : wlk G "NearSpellLaw" 158 (⟨"NearSpellModel", "clashes", "()I"⟩, prog_14_method_103_code, 7, (some .int)) 0 ∧ Cond.instanceMethod ⟨"NearSpellModel", "clashes", "()I"⟩ ∈ G.2.2.1 ∧ Cond.selects "NearSpellModel" ⟨"NearSpellModel", "clashes", "()I"⟩ ⟨"NearSpellModel", "clashes", "()I"⟩ ∈ G.2.2.1 ∧ ((¬ 12 = 1000 ∧ ∃ T N, G.1.2.2.1[12]? = some ("NearSpellModel", T, N)) ∨ (12 = 1000 ∧ "NearSpellModel" = "java/lang/String" ∧ ∀ s, G.2.2.2 s → ∀ n, (n = 1 ∨ n = 2) → va_O "java/lang/String" (G.2.1.2.1 n) G.1.2.2.2 s s.heap)) := ⟨⟨Or.inl (wmT h (wm2003)), wmT h (wm129), wmT h (wm2006), by decide +kernel, by decide +kernel, by decide +kernel⟩, wmT h (wm2004), wmT h (wm2005), Or.inl ⟨by decide, TX12, 67, by rw [h.2.1]; rfl⟩⟩
theorem lkL_159 {G : rfG} (h : okG G) : wlk G "NearSpellLaw" 159 (⟨"NearSpell", "rarest", "()I"⟩, prog_1_method_37_code, 1, (some .int)) 0 ∧ Cond.instanceMethod ⟨"NearSpell", "rarest", "()I"⟩ ∈ G.2.2.1 ∧ Cond.selects "NearSpell" ⟨"NearSpell", "rarest", "()I"⟩ ⟨"NearSpell", "rarest", "()I"⟩ ∈ G.2.2.1 ∧ ((¬ 11 = 1000 ∧ ∃ T N, G.1.2.2.1[11]? = some ("NearSpell", T, N)) ∨ (11 = 1000 ∧ "NearSpell" = "java/lang/String" ∧ ∀ s, G.2.2.2 s → ∀ n, (n = 1 ∨ n = 2) → va_O "java/lang/String" (G.2.1.2.1 n) G.1.2.2.2 s s.heap)) := ⟨⟨Or.inl (wmT h (wm1294)), wmT h (wm117), wmT h (wm1297), by decide +kernel, by decide +kernel, by decide +kernel⟩, wmT h (wm1295), wmT h (wm1296), Or.inl ⟨by decide, TX11, 15, by rw [h.2.1]; rfl⟩⟩
theorem lkL_162 {G : rfG} (h : okG G) : wlk G "NearSpellLaw" 162 (⟨"NearSpellModel", "rarest", "()I"⟩, prog_14_method_104_code, 8, (some .int)) 0 ∧ Cond.instanceMethod ⟨"NearSpellModel", "rarest", "()I"⟩ ∈ G.2.2.1 ∧ Cond.selects "NearSpellModel" ⟨"NearSpellModel", "rarest", "()I"⟩ ⟨"NearSpellModel", "rarest", "()I"⟩ ∈ G.2.2.1 ∧ ((¬ 12 = 1000 ∧ ∃ T N, G.1.2.2.1[12]? = some ("NearSpellModel", T, N)) ∨ (12 = 1000 ∧ "NearSpellModel" = "java/lang/String" ∧ ∀ s, G.2.2.2 s → ∀ n, (n = 1 ∨ n = 2) → va_O "java/lang/String" (G.2.1.2.1 n) G.1.2.2.2 s s.heap)) := ⟨⟨Or.inl (wmT h (wm2011)), wmT h (wm129), wmT h (wm2014), by decide +kernel, by decide +kernel, by decide +kernel⟩, wmT h (wm2012), wmT h (wm2013), Or.inl ⟨by decide, TX12, 67, by rw [h.2.1]; rfl⟩⟩
theorem lkL_163 {G : rfG} (h : okG G) : wlk G "NearSpellLaw" 163 (⟨"NearSpell", "law", "(I)I"⟩, prog_1_method_38_code, 2, (some .int)) 1 ∧ Cond.instanceMethod ⟨"NearSpell", "law", "(I)I"⟩ ∈ G.2.2.1 ∧ Cond.selects "NearSpell" ⟨"NearSpell", "law", "(I)I"⟩ ⟨"NearSpell", "law", "(I)I"⟩ ∈ G.2.2.1 ∧ ((¬ 11 = 1000 ∧ ∃ T N, G.1.2.2.1[11]? = some ("NearSpell", T, N)) ∨ (11 = 1000 ∧ "NearSpell" = "java/lang/String" ∧ ∀ s, G.2.2.2 s → ∀ n, (n = 1 ∨ n = 2) → va_O "java/lang/String" (G.2.1.2.1 n) G.1.2.2.2 s s.heap)) := ⟨⟨Or.inl (wmT h (wm1306)), wmT h (wm117), wmT h (wm1309), by decide +kernel, by decide +kernel, by decide +kernel⟩, wmT h (wm1307), wmT h (wm1308), Or.inl ⟨by decide, TX11, 15, by rw [h.2.1]; rfl⟩⟩
theorem lkL_166 {G : rfG} (h : okG G) : wlk G "NearSpellLaw" 166 (⟨"NearSpellModel", "law", "(I)I"⟩, prog_14_method_101_code, 2, (some .int)) 1 ∧ Cond.instanceMethod ⟨"NearSpellModel", "law", "(I)I"⟩ ∈ G.2.2.1 ∧ Cond.selects "NearSpellModel" ⟨"NearSpellModel", "law", "(I)I"⟩ ⟨"NearSpellModel", "law", "(I)I"⟩ ∈ G.2.2.1 ∧ ((¬ 12 = 1000 ∧ ∃ T N, G.1.2.2.1[12]? = some ("NearSpellModel", T, N)) ∨ (12 = 1000 ∧ "NearSpellModel" = "java/lang/String" ∧ ∀ s, G.2.2.2 s → ∀ n, (n = 1 ∨ n = 2) → va_O "java/lang/String" (G.2.1.2.1 n) G.1.2.2.2 s s.heap)) := ⟨⟨Or.inl (wmT h (wm1999)), wmT h (wm129), wmT h (wm2002), by decide +kernel, by decide +kernel, by decide +kernel⟩, wmT h (wm2000), wmT h (wm2001), Or.inl ⟨by decide, TX12, 67, by rw [h.2.1]; rfl⟩⟩
theorem lkL_167 {G : rfG} (h : okG G) : wlk G "NearSpellLaw" 167 (⟨"NearSpell", "odds", "(II)I"⟩, prog_1_method_39_code, 8, (some .int)) 2 ∧ Cond.instanceMethod ⟨"NearSpell", "odds", "(II)I"⟩ ∈ G.2.2.1 ∧ Cond.selects "NearSpell" ⟨"NearSpell", "odds", "(II)I"⟩ ⟨"NearSpell", "odds", "(II)I"⟩ ∈ G.2.2.1 ∧ ((¬ 11 = 1000 ∧ ∃ T N, G.1.2.2.1[11]? = some ("NearSpell", T, N)) ∨ (11 = 1000 ∧ "NearSpell" = "java/lang/String" ∧ ∀ s, G.2.2.2 s → ∀ n, (n = 1 ∨ n = 2) → va_O "java/lang/String" (G.2.1.2.1 n) G.1.2.2.2 s s.heap)) := ⟨⟨Or.inl (wmT h (wm1310)), wmT h (wm117), wmT h (wm1313), by decide +kernel, by decide +kernel, by decide +kernel⟩, wmT h (wm1311), wmT h (wm1312), Or.inl ⟨by decide, TX11, 15, by rw [h.2.1]; rfl⟩⟩
theorem lkL_170 {G : rfG} (h : okG G) : wlk G "NearSpellLaw" 170 (⟨"NearSpellModel", "odds", "(II)I"⟩, prog_14_method_115_code, 5, (some .int)) 2 ∧ Cond.instanceMethod ⟨"NearSpellModel", "odds", "(II)I"⟩ ∈ G.2.2.1 ∧ Cond.selects "NearSpellModel" ⟨"NearSpellModel", "odds", "(II)I"⟩ ⟨"NearSpellModel", "odds", "(II)I"⟩ ∈ G.2.2.1 ∧ ((¬ 12 = 1000 ∧ ∃ T N, G.1.2.2.1[12]? = some ("NearSpellModel", T, N)) ∨ (12 = 1000 ∧ "NearSpellModel" = "java/lang/String" ∧ ∀ s, G.2.2.2 s → ∀ n, (n = 1 ∨ n = 2) → va_O "java/lang/String" (G.2.1.2.1 n) G.1.2.2.2 s s.heap)) := ⟨⟨Or.inl (wmT h (wm2055)), wmT h (wm129), wmT h (wm2058), by decide +kernel, by decide +kernel, by decide +kernel⟩, wmT h (wm2056), wmT h (wm2057), Or.inl ⟨by decide, TX12, 67, by rw [h.2.1]; rfl⟩⟩
theorem lkL_171 {G : rfG} (h : okG G) : wlk G "NearSpellLaw" 171 (⟨"NearSpell", "lies", "(I)I"⟩, prog_1_method_40_code, 2, (some .int)) 1 ∧ Cond.instanceMethod ⟨"NearSpell", "lies", "(I)I"⟩ ∈ G.2.2.1 ∧ Cond.selects "NearSpell" ⟨"NearSpell", "lies", "(I)I"⟩ ⟨"NearSpell", "lies", "(I)I"⟩ ∈ G.2.2.1 ∧ ((¬ 11 = 1000 ∧ ∃ T N, G.1.2.2.1[11]? = some ("NearSpell", T, N)) ∨ (11 = 1000 ∧ "NearSpell" = "java/lang/String" ∧ ∀ s, G.2.2.2 s → ∀ n, (n = 1 ∨ n = 2) → va_O "java/lang/String" (G.2.1.2.1 n) G.1.2.2.2 s s.heap)) := ⟨⟨Or.inl (wmT h (wm1317)), wmT h (wm117), wmT h (wm1320), by decide +kernel, by decide +kernel, by decide +kernel⟩, wmT h (wm1318), wmT h (wm1319), Or.inl ⟨by decide, TX11, 15, by rw [h.2.1]; rfl⟩⟩
theorem lkL_174 {G : rfG} (h : okG G) : wlk G "NearSpellLaw" 174 (⟨"NearSpellModel", "lies", "(I)I"⟩, prog_14_method_71_code, 2, (some .int)) 1 ∧ Cond.instanceMethod ⟨"NearSpellModel", "lies", "(I)I"⟩ ∈ G.2.2.1 ∧ Cond.selects "NearSpellModel" ⟨"NearSpellModel", "lies", "(I)I"⟩ ⟨"NearSpellModel", "lies", "(I)I"⟩ ∈ G.2.2.1 ∧ ((¬ 12 = 1000 ∧ ∃ T N, G.1.2.2.1[12]? = some ("NearSpellModel", T, N)) ∨ (12 = 1000 ∧ "NearSpellModel" = "java/lang/String" ∧ ∀ s, G.2.2.2 s → ∀ n, (n = 1 ∨ n = 2) → va_O "java/lang/String" (G.2.1.2.1 n) G.1.2.2.2 s s.heap)) := ⟨⟨Or.inl (wmT h (wm1818)), wmT h (wm129), wmT h (wm1821), by decide +kernel, by decide +kernel, by decide +kernel⟩, wmT h (wm1819), wmT h (wm1820), Or.inl ⟨by decide, TX12, 67, by rw [h.2.1]; rfl⟩⟩
theorem lkL_175 {G : rfG} (h : okG G) : wlk G "NearSpellLaw" 175 (⟨"NearSpell", "seen", "(IIZ)I"⟩, prog_1_method_41_code, 4, (some .int)) 3 ∧ Cond.instanceMethod ⟨"NearSpell", "seen", "(IIZ)I"⟩ ∈ G.2.2.1 ∧ Cond.selects "NearSpell" ⟨"NearSpell", "seen", "(IIZ)I"⟩ ⟨"NearSpell", "seen", "(IIZ)I"⟩ ∈ G.2.2.1 ∧ ((¬ 11 = 1000 ∧ ∃ T N, G.1.2.2.1[11]? = some ("NearSpell", T, N)) ∨ (11 = 1000 ∧ "NearSpell" = "java/lang/String" ∧ ∀ s, G.2.2.2 s → ∀ n, (n = 1 ∨ n = 2) → va_O "java/lang/String" (G.2.1.2.1 n) G.1.2.2.2 s s.heap)) := ⟨⟨Or.inl (wmT h (wm1321)), wmT h (wm117), wmT h (wm1324), by decide +kernel, by decide +kernel, by decide +kernel⟩, wmT h (wm1322), wmT h (wm1323), Or.inl ⟨by decide, TX11, 15, by rw [h.2.1]; rfl⟩⟩
theorem lkL_179 {G : rfG} (h : okG G) : wlk G "NearSpellLaw" 179 (⟨"NearSpellModel", "seen", "(IIZ)I"⟩, prog_14_method_117_code, 4, (some .int)) 3 ∧ Cond.instanceMethod ⟨"NearSpellModel", "seen", "(IIZ)I"⟩ ∈ G.2.2.1 ∧ Cond.selects "NearSpellModel" ⟨"NearSpellModel", "seen", "(IIZ)I"⟩ ⟨"NearSpellModel", "seen", "(IIZ)I"⟩ ∈ G.2.2.1 ∧ ((¬ 12 = 1000 ∧ ∃ T N, G.1.2.2.1[12]? = some ("NearSpellModel", T, N)) ∨ (12 = 1000 ∧ "NearSpellModel" = "java/lang/String" ∧ ∀ s, G.2.2.2 s → ∀ n, (n = 1 ∨ n = 2) → va_O "java/lang/String" (G.2.1.2.1 n) G.1.2.2.2 s s.heap)) := ⟨⟨Or.inl (wmT h (wm2065)), wmT h (wm129), wmT h (wm2068), by decide +kernel, by decide +kernel, by decide +kernel⟩, wmT h (wm2066), wmT h (wm2067), Or.inl ⟨by decide, TX12, 67, by rw [h.2.1]; rfl⟩⟩
theorem lkL_180 {G : rfG} (h : okG G) : wlk G "NearSpellLaw" 180 (⟨"NearSpell", "untell", "(I)Z"⟩, prog_1_method_42_code, 2, (some .boolean)) 1 ∧ Cond.instanceMethod ⟨"NearSpell", "untell", "(I)Z"⟩ ∈ G.2.2.1 ∧ Cond.selects "NearSpell" ⟨"NearSpell", "untell", "(I)Z"⟩ ⟨"NearSpell", "untell", "(I)Z"⟩ ∈ G.2.2.1 ∧ ((¬ 11 = 1000 ∧ ∃ T N, G.1.2.2.1[11]? = some ("NearSpell", T, N)) ∨ (11 = 1000 ∧ "NearSpell" = "java/lang/String" ∧ ∀ s, G.2.2.2 s → ∀ n, (n = 1 ∨ n = 2) → va_O "java/lang/String" (G.2.1.2.1 n) G.1.2.2.2 s s.heap)) := ⟨⟨Or.inl (wmT h (wm1329)), wmT h (wm117), wmT h (wm1332), by decide +kernel, by decide +kernel, by decide +kernel⟩, wmT h (wm1330), wmT h (wm1331), Or.inl ⟨by decide, TX11, 15, by rw [h.2.1]; rfl⟩⟩
theorem lkL_184 {G : rfG} (h : okG G) : wlk G "NearSpellLaw" 184 (⟨"NearSpellModel", "untell", "(I)Z"⟩, prog_14_method_118_code, 2, (some .boolean)) 1 ∧ Cond.instanceMethod ⟨"NearSpellModel", "untell", "(I)Z"⟩ ∈ G.2.2.1 ∧ Cond.selects "NearSpellModel" ⟨"NearSpellModel", "untell", "(I)Z"⟩ ⟨"NearSpellModel", "untell", "(I)Z"⟩ ∈ G.2.2.1 ∧ ((¬ 12 = 1000 ∧ ∃ T N, G.1.2.2.1[12]? = some ("NearSpellModel", T, N)) ∨ (12 = 1000 ∧ "NearSpellModel" = "java/lang/String" ∧ ∀ s, G.2.2.2 s → ∀ n, (n = 1 ∨ n = 2) → va_O "java/lang/String" (G.2.1.2.1 n) G.1.2.2.2 s s.heap)) := ⟨⟨Or.inl (wmT h (wm2069)), wmT h (wm129), wmT h (wm2072), by decide +kernel, by decide +kernel, by decide +kernel⟩, wmT h (wm2070), wmT h (wm2071), Or.inl ⟨by decide, TX12, 67, by rw [h.2.1]; rfl⟩⟩
theorem lkL_185 {G : rfG} (h : okG G) : wlk G "NearSpellLaw" 185 (⟨"NearSpell", "later", "(I)I"⟩, prog_1_method_43_code, 2, (some .int)) 1 ∧ Cond.instanceMethod ⟨"NearSpell", "later", "(I)I"⟩ ∈ G.2.2.1 ∧ Cond.selects "NearSpell" ⟨"NearSpell", "later", "(I)I"⟩ ⟨"NearSpell", "later", "(I)I"⟩ ∈ G.2.2.1 ∧ ((¬ 11 = 1000 ∧ ∃ T N, G.1.2.2.1[11]? = some ("NearSpell", T, N)) ∨ (11 = 1000 ∧ "NearSpell" = "java/lang/String" ∧ ∀ s, G.2.2.2 s → ∀ n, (n = 1 ∨ n = 2) → va_O "java/lang/String" (G.2.1.2.1 n) G.1.2.2.2 s s.heap)) := ⟨⟨Or.inl (wmT h (wm1337)), wmT h (wm117), wmT h (wm1340), by decide +kernel, by decide +kernel, by decide +kernel⟩, wmT h (wm1338), wmT h (wm1339), Or.inl ⟨by decide, TX11, 15, by rw [h.2.1]; rfl⟩⟩
theorem lkL_188 {G : rfG} (h : okG G) : wlk G "NearSpellLaw" 188 (⟨"NearSpellModel", "later", "(I)I"⟩, prog_14_method_119_code, 2, (some .int)) 1 ∧ Cond.instanceMethod ⟨"NearSpellModel", "later", "(I)I"⟩ ∈ G.2.2.1 ∧ Cond.selects "NearSpellModel" ⟨"NearSpellModel", "later", "(I)I"⟩ ⟨"NearSpellModel", "later", "(I)I"⟩ ∈ G.2.2.1 ∧ ((¬ 12 = 1000 ∧ ∃ T N, G.1.2.2.1[12]? = some ("NearSpellModel", T, N)) ∨ (12 = 1000 ∧ "NearSpellModel" = "java/lang/String" ∧ ∀ s, G.2.2.2 s → ∀ n, (n = 1 ∨ n = 2) → va_O "java/lang/String" (G.2.1.2.1 n) G.1.2.2.2 s s.heap)) := ⟨⟨Or.inl (wmT h (wm2073)), wmT h (wm129), wmT h (wm2076), by decide +kernel, by decide +kernel, by decide +kernel⟩, wmT h (wm2074), wmT h (wm2075), Or.inl ⟨by decide, TX12, 67, by rw [h.2.1]; rfl⟩⟩
theorem lkL_189 {G : rfG} (h : okG G) : wlk G "NearSpellLaw" 189 (⟨"NearSpell", "fits", "(I)I"⟩, prog_1_method_44_code, 2, (some .int)) 1 ∧ Cond.instanceMethod ⟨"NearSpell", "fits", "(I)I"⟩ ∈ G.2.2.1 ∧ Cond.selects "NearSpell" ⟨"NearSpell", "fits", "(I)I"⟩ ⟨"NearSpell", "fits", "(I)I"⟩ ∈ G.2.2.1 ∧ ((¬ 11 = 1000 ∧ ∃ T N, G.1.2.2.1[11]? = some ("NearSpell", T, N)) ∨ (11 = 1000 ∧ "NearSpell" = "java/lang/String" ∧ ∀ s, G.2.2.2 s → ∀ n, (n = 1 ∨ n = 2) → va_O "java/lang/String" (G.2.1.2.1 n) G.1.2.2.2 s s.heap)) := ⟨⟨Or.inl (wmT h (wm1346)), wmT h (wm117), wmT h (wm1349), by decide +kernel, by decide +kernel, by decide +kernel⟩, wmT h (wm1347), wmT h (wm1348), Or.inl ⟨by decide, TX11, 15, by rw [h.2.1]; rfl⟩⟩
theorem lkL_192 {G : rfG} (h : okG G) : wlk G "NearSpellLaw" 192 (⟨"NearSpellModel", "fits", "(I)I"⟩, prog_14_method_122_code, 4, (some .int)) 1 ∧ Cond.instanceMethod ⟨"NearSpellModel", "fits", "(I)I"⟩ ∈ G.2.2.1 ∧ Cond.selects "NearSpellModel" ⟨"NearSpellModel", "fits", "(I)I"⟩ ⟨"NearSpellModel", "fits", "(I)I"⟩ ∈ G.2.2.1 ∧ ((¬ 12 = 1000 ∧ ∃ T N, G.1.2.2.1[12]? = some ("NearSpellModel", T, N)) ∨ (12 = 1000 ∧ "NearSpellModel" = "java/lang/String" ∧ ∀ s, G.2.2.2 s → ∀ n, (n = 1 ∨ n = 2) → va_O "java/lang/String" (G.2.1.2.1 n) G.1.2.2.2 s s.heap)) := ⟨⟨Or.inl (wmT h (wm2078)), wmT h (wm129), wmT h (wm2081), by decide +kernel, by decide +kernel, by decide +kernel⟩, wmT h (wm2079), wmT h (wm2080), Or.inl ⟨by decide, TX12, 67, by rw [h.2.1]; rfl⟩⟩
theorem lkL_193 {G : rfG} (h : okG G) : wlk G "NearSpellLaw" 193 (⟨"NearSpell", "ask", "(II)I"⟩, prog_1_method_45_code, 3, (some .int)) 2 ∧ Cond.instanceMethod ⟨"NearSpell", "ask", "(II)I"⟩ ∈ G.2.2.1 ∧ Cond.selects "NearSpell" ⟨"NearSpell", "ask", "(II)I"⟩ ⟨"NearSpell", "ask", "(II)I"⟩ ∈ G.2.2.1 ∧ ((¬ 11 = 1000 ∧ ∃ T N, G.1.2.2.1[11]? = some ("NearSpell", T, N)) ∨ (11 = 1000 ∧ "NearSpell" = "java/lang/String" ∧ ∀ s, G.2.2.2 s → ∀ n, (n = 1 ∨ n = 2) → va_O "java/lang/String" (G.2.1.2.1 n) G.1.2.2.2 s s.heap)) := ⟨⟨Or.inl (wmT h (wm1364)), wmT h (wm117), wmT h (wm1367), by decide +kernel, by decide +kernel, by decide +kernel⟩, wmT h (wm1365), wmT h (wm1366), Or.inl ⟨by decide, TX11, 15, by rw [h.2.1]; rfl⟩⟩
theorem lkL_196 {G : rfG} (h : okG G) : wlk G "NearSpellLaw" 196 (⟨"NearSpellModel", "ask", "(II)I"⟩, prog_14_method_124_code, 8, (some .int)) 2 ∧ Cond.instanceMethod ⟨"NearSpellModel", "ask", "(II)I"⟩ ∈ G.2.2.1 ∧ Cond.selects "NearSpellModel" ⟨"NearSpellModel", "ask", "(II)I"⟩ ⟨"NearSpellModel", "ask", "(II)I"⟩ ∈ G.2.2.1 ∧ ((¬ 12 = 1000 ∧ ∃ T N, G.1.2.2.1[12]? = some ("NearSpellModel", T, N)) ∨ (12 = 1000 ∧ "NearSpellModel" = "java/lang/String" ∧ ∀ s, G.2.2.2 s → ∀ n, (n = 1 ∨ n = 2) → va_O "java/lang/String" (G.2.1.2.1 n) G.1.2.2.2 s s.heap)) := ⟨⟨Or.inl (wmT h (wm2094)), wmT h (wm129), wmT h (wm2097), by decide +kernel, by decide +kernel, by decide +kernel⟩, wmT h (wm2095), wmT h (wm2096), Or.inl ⟨by decide, TX12, 67, by rw [h.2.1]; rfl⟩⟩
theorem lkL_197 {G : rfG} (h : okG G) : wlk G "NearSpellLaw" 197 (⟨"NearSpell", "image", "(I)I"⟩, prog_1_method_46_code, 2, (some .int)) 1 ∧ Cond.instanceMethod ⟨"NearSpell", "image", "(I)I"⟩ ∈ G.2.2.1 ∧ Cond.selects "NearSpell" ⟨"NearSpell", "image", "(I)I"⟩ ⟨"NearSpell", "image", "(I)I"⟩ ∈ G.2.2.1 ∧ ((¬ 11 = 1000 ∧ ∃ T N, G.1.2.2.1[11]? = some ("NearSpell", T, N)) ∨ (11 = 1000 ∧ "NearSpell" = "java/lang/String" ∧ ∀ s, G.2.2.2 s → ∀ n, (n = 1 ∨ n = 2) → va_O "java/lang/String" (G.2.1.2.1 n) G.1.2.2.2 s s.heap)) := ⟨⟨Or.inl (wmT h (wm1378)), wmT h (wm117), wmT h (wm1381), by decide +kernel, by decide +kernel, by decide +kernel⟩, wmT h (wm1379), wmT h (wm1380), Or.inl ⟨by decide, TX11, 15, by rw [h.2.1]; rfl⟩⟩
theorem lkL_200 {G : rfG} (h : okG G) : wlk G "NearSpellLaw" 200 (⟨"NearSpellModel", "image", "(I)I"⟩, prog_14_method_125_code, 3, (some .int)) 1 ∧ Cond.instanceMethod ⟨"NearSpellModel", "image", "(I)I"⟩ ∈ G.2.2.1 ∧ Cond.selects "NearSpellModel" ⟨"NearSpellModel", "image", "(I)I"⟩ ⟨"NearSpellModel", "image", "(I)I"⟩ ∈ G.2.2.1 ∧ ((¬ 12 = 1000 ∧ ∃ T N, G.1.2.2.1[12]? = some ("NearSpellModel", T, N)) ∨ (12 = 1000 ∧ "NearSpellModel" = "java/lang/String" ∧ ∀ s, G.2.2.2 s → ∀ n, (n = 1 ∨ n = 2) → va_O "java/lang/String" (G.2.1.2.1 n) G.1.2.2.2 s s.heap)) := ⟨⟨Or.inl (wmT h (wm2103)), wmT h (wm129), wmT h (wm2106), by decide +kernel, by decide +kernel, by decide +kernel⟩, wmT h (wm2104), wmT h (wm2105), Or.inl ⟨by decide, TX12, 67, by rw [h.2.1]; rfl⟩⟩
theorem lkL_201 {G : rfG} (h : okG G) : wlk G "NearSpellLaw" 201 (⟨"NearSpell", "back", "(I)I"⟩, prog_1_method_47_code, 2, (some .int)) 1 ∧ Cond.instanceMethod ⟨"NearSpell", "back", "(I)I"⟩ ∈ G.2.2.1 ∧ Cond.selects "NearSpell" ⟨"NearSpell", "back", "(I)I"⟩ ⟨"NearSpell", "back", "(I)I"⟩ ∈ G.2.2.1 ∧ ((¬ 11 = 1000 ∧ ∃ T N, G.1.2.2.1[11]? = some ("NearSpell", T, N)) ∨ (11 = 1000 ∧ "NearSpell" = "java/lang/String" ∧ ∀ s, G.2.2.2 s → ∀ n, (n = 1 ∨ n = 2) → va_O "java/lang/String" (G.2.1.2.1 n) G.1.2.2.2 s s.heap)) := ⟨⟨Or.inl (wmT h (wm1386)), wmT h (wm117), wmT h (wm1389), by decide +kernel, by decide +kernel, by decide +kernel⟩, wmT h (wm1387), wmT h (wm1388), Or.inl ⟨by decide, TX11, 15, by rw [h.2.1]; rfl⟩⟩
theorem lkL_204 {G : rfG} (h : okG G) : wlk G "NearSpellLaw" 204 (⟨"NearSpellModel", "back", "(I)I"⟩, prog_14_method_126_code, 3, (some .int)) 1 ∧ Cond.instanceMethod ⟨"NearSpellModel", "back", "(I)I"⟩ ∈ G.2.2.1 ∧ Cond.selects "NearSpellModel" ⟨"NearSpellModel", "back", "(I)I"⟩ ⟨"NearSpellModel", "back", "(I)I"⟩ ∈ G.2.2.1 ∧ ((¬ 12 = 1000 ∧ ∃ T N, G.1.2.2.1[12]? = some ("NearSpellModel", T, N)) ∨ (12 = 1000 ∧ "NearSpellModel" = "java/lang/String" ∧ ∀ s, G.2.2.2 s → ∀ n, (n = 1 ∨ n = 2) → va_O "java/lang/String" (G.2.1.2.1 n) G.1.2.2.2 s s.heap)) := ⟨⟨Or.inl (wmT h (wm2107)), wmT h (wm129), wmT h (wm2110), by decide +kernel, by decide +kernel, by decide +kernel⟩, wmT h (wm2108), wmT h (wm2109), Or.inl ⟨by decide, TX12, 67, by rw [h.2.1]; rfl⟩⟩
theorem lkL_205 {G : rfG} (h : okG G) : wlk G "NearSpellLaw" 205 (⟨"NearSpell", "about", "(I)I"⟩, prog_1_method_48_code, 2, (some .int)) 1 ∧ Cond.instanceMethod ⟨"NearSpell", "about", "(I)I"⟩ ∈ G.2.2.1 ∧ Cond.selects "NearSpell" ⟨"NearSpell", "about", "(I)I"⟩ ⟨"NearSpell", "about", "(I)I"⟩ ∈ G.2.2.1 ∧ ((¬ 11 = 1000 ∧ ∃ T N, G.1.2.2.1[11]? = some ("NearSpell", T, N)) ∨ (11 = 1000 ∧ "NearSpell" = "java/lang/String" ∧ ∀ s, G.2.2.2 s → ∀ n, (n = 1 ∨ n = 2) → va_O "java/lang/String" (G.2.1.2.1 n) G.1.2.2.2 s s.heap)) := ⟨⟨Or.inl (wmT h (wm1394)), wmT h (wm117), wmT h (wm1397), by decide +kernel, by decide +kernel, by decide +kernel⟩, wmT h (wm1395), wmT h (wm1396), Or.inl ⟨by decide, TX11, 15, by rw [h.2.1]; rfl⟩⟩
theorem lkL_208 {G : rfG} (h : okG G) : wlk G "NearSpellLaw" 208 (⟨"NearSpellModel", "about", "(I)I"⟩, prog_14_method_127_code, 2, (some .int)) 1 ∧ Cond.instanceMethod ⟨"NearSpellModel", "about", "(I)I"⟩ ∈ G.2.2.1 ∧ Cond.selects "NearSpellModel" ⟨"NearSpellModel", "about", "(I)I"⟩ ⟨"NearSpellModel", "about", "(I)I"⟩ ∈ G.2.2.1 ∧ ((¬ 12 = 1000 ∧ ∃ T N, G.1.2.2.1[12]? = some ("NearSpellModel", T, N)) ∨ (12 = 1000 ∧ "NearSpellModel" = "java/lang/String" ∧ ∀ s, G.2.2.2 s → ∀ n, (n = 1 ∨ n = 2) → va_O "java/lang/String" (G.2.1.2.1 n) G.1.2.2.2 s s.heap)) := ⟨⟨Or.inl (wmT h (wm2111)), wmT h (wm129), wmT h (wm2114), by decide +kernel, by decide +kernel, by decide +kernel⟩, wmT h (wm2112), wmT h (wm2113), Or.inl ⟨by decide, TX12, 67, by rw [h.2.1]; rfl⟩⟩
def ddL0 : List (Nat × Instr × Nat) := [(236, .aload_n 1, 1), (237, .aload_n 0, 1), (238, .iload_n 3, 1), (239, .iconst 1, 1), (240, .iadd, 1), (241, .iaload, 1), (242, .aload_n 0, 1), (243, .iload_n 3, 1), (244, .iconst 2, 1), (245, .iadd, 1), (246, .iaload, 1), (247, .aload_n 0, 1), (248, .iload_n 3, 1), (249, .iconst 3, 1), (250, .iadd, 1), (251, .iaload, 1), (252, .aload_n 0, 1), (253, .iload_n 3, 1), (254, .iconst 4, 1), (255, .iadd, 1), (256, .iaload, 1), (257, .aload_n 0, 1), (258, .iload_n 3, 1), (259, .iconst 5, 1), (260, .iadd, 1), (261, .iaload, 1), (262, .invokevirtual 13, 3), (265, .aload_n 2, 1), (266, .aload_n 0, 1), (267, .iload_n 3, 1), (268, .iconst 1, 1), (269, .iadd, 1), (270, .iaload, 1), (271, .aload_n 0, 1), (272, .iload_n 3, 1), (273, .iconst 2, 1), (274, .iadd, 1), (275, .iaload, 1), (276, .aload_n 0, 1), (277, .iload_n 3, 1), (278, .iconst 3, 1), (279, .iadd, 1), (280, .iaload, 1), (281, .aload_n 0, 1), (282, .iload_n 3, 1), (283, .iconst 4, 1), (284, .iadd, 1), (285, .iaload, 1), (286, .aload_n 0, 1), (287, .iload_n 3, 1), (288, .iconst 5, 1), (289, .iadd, 1), (290, .iaload, 1), (291, .invokevirtual 17, 3), (294, .if_icmp .eq 1119, 3), (297, .iconst 0, 1), (298, .ireturn, 1)]
set_option maxRecDepth 100000 in
theorem dkL0 : rf_decs code ddL0 := rf_decs_of (by decide +kernel)
set_option maxHeartbeats 16000000 in
set_option maxRecDepth 100000 in
theorem lw_case0 {X : rfX} {G : rfG} {b Ln : Nat} {sc : Nat → Int32} {n sl : Nat} (C : lwC X G b Ln sc n sl) {i : Int32} (h0 : 0 ≤ i.toInt) (h1 : i.toInt + 5 < (Ln : Int)) (KK : ∀ ws', kW X n sl 1413 [(3, .int i), (2, .ref (G.2.1.1 114)), (1, .ref (G.2.1.1 70)), (0, .ref b)] [] ws') {ws : va_W} (hw : rf_world G.2.1.1 G.2.1.2.1 G.2.1.2.2.1 G.2.1.2.2.2 ws) (hfr : frOK (hv ws)) : kW X n sl 236 [(3, .int i), (2, .ref (G.2.1.1 114)), (1, .ref (G.2.1.1 70)), (0, .ref b)] [] ws := by
  have hG := C.1
  have c := C.2.2.1
  have hd : ∀ n pc i len, ddL0[n]? = some (pc, i, len) → decode code pc = .ok (i, len) := fun n pc i len h => hdk dkL0 n pc i len h
  obtain ⟨a1, ea1⟩ : ∃ a, sc (i + 1).toNatClampNeg = a := ⟨_, rfl⟩
  have r1 : -2147483648 ≤ a1.toInt ∧ a1.toInt ≤ 2147483647 := ⟨(rf_in_top a1).1, (rf_in_top a1).2.1⟩
  obtain ⟨a2, ea2⟩ : ∃ a, sc (i + 2).toNatClampNeg = a := ⟨_, rfl⟩
  have r2 : -2147483648 ≤ a2.toInt ∧ a2.toInt ≤ 2147483647 := ⟨(rf_in_top a2).1, (rf_in_top a2).2.1⟩
  obtain ⟨a3, ea3⟩ : ∃ a, sc (i + 3).toNatClampNeg = a := ⟨_, rfl⟩
  have r3 : -2147483648 ≤ a3.toInt ∧ a3.toInt ≤ 2147483647 := ⟨(rf_in_top a3).1, (rf_in_top a3).2.1⟩
  obtain ⟨a4, ea4⟩ : ∃ a, sc (i + 4).toNatClampNeg = a := ⟨_, rfl⟩
  have r4 : -2147483648 ≤ a4.toInt ∧ a4.toInt ≤ 2147483647 := ⟨(rf_in_top a4).1, (rf_in_top a4).2.1⟩
  obtain ⟨a5, ea5⟩ : ∃ a, sc (i + 5).toNatClampNeg = a := ⟨_, rfl⟩
  have r5 : -2147483648 ≤ a5.toInt ∧ a5.toInt ≤ 2147483647 := ⟨(rf_in_top a5).1, (rf_in_top a5).2.1⟩
  refine k_al c (hd 0 236 _ _ rfl) (by rfl) (k_pc 237 rfl ?_)
  refine k_al c (hd 1 237 _ _ rfl) (by rfl) (k_pc 238 rfl ?_)
  refine k_il c (hd 2 238 _ _ rfl) (by rfl) (k_pc 239 rfl ?_)
  refine k_ic c (hd 3 239 _ _ rfl) (v := 1) (by decide) (k_pc 240 rfl ?_)
  refine k_addE c (hd 4 240 _ _ rfl) (k_pc 241 rfl ?_)
  refine k_sldE C (lw_in h0 h1 C.2.2.2.2.1 (by decide)) ea1 (hd 5 241 _ _ rfl) (k_pc 242 rfl ?_)
  refine k_al c (hd 6 242 _ _ rfl) (by rfl) (k_pc 243 rfl ?_)
  refine k_il c (hd 7 243 _ _ rfl) (by rfl) (k_pc 244 rfl ?_)
  refine k_ic c (hd 8 244 _ _ rfl) (v := 2) (by decide) (k_pc 245 rfl ?_)
  refine k_addE c (hd 9 245 _ _ rfl) (k_pc 246 rfl ?_)
  refine k_sldE C (lw_in h0 h1 C.2.2.2.2.1 (by decide)) ea2 (hd 10 246 _ _ rfl) (k_pc 247 rfl ?_)
  refine k_al c (hd 11 247 _ _ rfl) (by rfl) (k_pc 248 rfl ?_)
  refine k_il c (hd 12 248 _ _ rfl) (by rfl) (k_pc 249 rfl ?_)
  refine k_ic c (hd 13 249 _ _ rfl) (v := 3) (by decide) (k_pc 250 rfl ?_)
  refine k_addE c (hd 14 250 _ _ rfl) (k_pc 251 rfl ?_)
  refine k_sldE C (lw_in h0 h1 C.2.2.2.2.1 (by decide)) ea3 (hd 15 251 _ _ rfl) (k_pc 252 rfl ?_)
  refine k_al c (hd 16 252 _ _ rfl) (by rfl) (k_pc 253 rfl ?_)
  refine k_il c (hd 17 253 _ _ rfl) (by rfl) (k_pc 254 rfl ?_)
  refine k_ic c (hd 18 254 _ _ rfl) (v := 4) (by decide) (k_pc 255 rfl ?_)
  refine k_addE c (hd 19 255 _ _ rfl) (k_pc 256 rfl ?_)
  refine k_sldE C (lw_in h0 h1 C.2.2.2.2.1 (by decide)) ea4 (hd 20 256 _ _ rfl) (k_pc 257 rfl ?_)
  refine k_al c (hd 21 257 _ _ rfl) (by rfl) (k_pc 258 rfl ?_)
  refine k_il c (hd 22 258 _ _ rfl) (by rfl) (k_pc 259 rfl ?_)
  refine k_ic c (hd 23 259 _ _ rfl) (v := 5) (by decide) (k_pc 260 rfl ?_)
  refine k_addE c (hd 24 260 _ _ rfl) (k_pc 261 rfl ?_)
  refine k_sldE C (lw_in h0 h1 C.2.2.2.2.1 (by decide)) ea5 (hd 25 261 _ _ rfl) (k_pc 262 rfl ?_)
  refine k_callC C (M := q5_M) (rf_metV_of (q5_met hG)) 20 (by decide +kernel) (by decide +kernel) (wlkV (lkL_13 hG) _ rfl rfl) (j := 70) (by decide +kernel) ⟨Nat.le_of_ble_eq_true rfl, Nat.le_of_ble_eq_true rfl⟩ (hd 26 262 _ _ rfl) [.int a1, .int a2, .int a3, .int a4, .int a5] (rest := []) (by rfl) ⟨⟨70, by decide, rfl⟩, ⟨_, rfl, rf_in_top _, trivial⟩, ⟨_, rfl, rf_in_top _, trivial⟩, ⟨_, rfl, rf_in_top _, trivial⟩, ⟨_, rfl, rf_in_top _, trivial⟩, ⟨_, rfl, rf_in_top _, trivial⟩, trivial⟩ (Nat.le_of_ble_eq_true rfl) hw (fr_pre hfr (hframe_rf [] _) (by decide +kernel)) trivial (fun x1 ws1 hw1 hf1 e1 => k_pc 265 rfl ?_)
  refine k_al c (hd 27 265 _ _ rfl) (by rfl) (k_pc 266 rfl ?_)
  refine k_al c (hd 28 266 _ _ rfl) (by rfl) (k_pc 267 rfl ?_)
  refine k_il c (hd 29 267 _ _ rfl) (by rfl) (k_pc 268 rfl ?_)
  refine k_ic c (hd 30 268 _ _ rfl) (v := 1) (by decide) (k_pc 269 rfl ?_)
  refine k_addE c (hd 31 269 _ _ rfl) (k_pc 270 rfl ?_)
  refine k_sldE C (lw_in h0 h1 C.2.2.2.2.1 (by decide)) ea1 (hd 32 270 _ _ rfl) (k_pc 271 rfl ?_)
  refine k_al c (hd 33 271 _ _ rfl) (by rfl) (k_pc 272 rfl ?_)
  refine k_il c (hd 34 272 _ _ rfl) (by rfl) (k_pc 273 rfl ?_)
  refine k_ic c (hd 35 273 _ _ rfl) (v := 2) (by decide) (k_pc 274 rfl ?_)
  refine k_addE c (hd 36 274 _ _ rfl) (k_pc 275 rfl ?_)
  refine k_sldE C (lw_in h0 h1 C.2.2.2.2.1 (by decide)) ea2 (hd 37 275 _ _ rfl) (k_pc 276 rfl ?_)
  refine k_al c (hd 38 276 _ _ rfl) (by rfl) (k_pc 277 rfl ?_)
  refine k_il c (hd 39 277 _ _ rfl) (by rfl) (k_pc 278 rfl ?_)
  refine k_ic c (hd 40 278 _ _ rfl) (v := 3) (by decide) (k_pc 279 rfl ?_)
  refine k_addE c (hd 41 279 _ _ rfl) (k_pc 280 rfl ?_)
  refine k_sldE C (lw_in h0 h1 C.2.2.2.2.1 (by decide)) ea3 (hd 42 280 _ _ rfl) (k_pc 281 rfl ?_)
  refine k_al c (hd 43 281 _ _ rfl) (by rfl) (k_pc 282 rfl ?_)
  refine k_il c (hd 44 282 _ _ rfl) (by rfl) (k_pc 283 rfl ?_)
  refine k_ic c (hd 45 283 _ _ rfl) (v := 4) (by decide) (k_pc 284 rfl ?_)
  refine k_addE c (hd 46 284 _ _ rfl) (k_pc 285 rfl ?_)
  refine k_sldE C (lw_in h0 h1 C.2.2.2.2.1 (by decide)) ea4 (hd 47 285 _ _ rfl) (k_pc 286 rfl ?_)
  refine k_al c (hd 48 286 _ _ rfl) (by rfl) (k_pc 287 rfl ?_)
  refine k_il c (hd 49 287 _ _ rfl) (by rfl) (k_pc 288 rfl ?_)
  refine k_ic c (hd 50 288 _ _ rfl) (v := 5) (by decide) (k_pc 289 rfl ?_)
  refine k_addE c (hd 51 289 _ _ rfl) (k_pc 290 rfl ?_)
  refine k_sldE C (lw_in h0 h1 C.2.2.2.2.1 (by decide)) ea5 (hd 52 290 _ _ rfl) (k_pc 291 rfl ?_)
  refine k_callC C (M := q6_M) (rf_metV_of (q6_met hG)) 20 (by decide +kernel) (by decide +kernel) (wlkV (lkL_17 hG) _ rfl rfl) (j := 114) (by decide +kernel) ⟨Nat.le_of_ble_eq_true rfl, Nat.le_of_ble_eq_true rfl⟩ (hd 53 291 _ _ rfl) [.int a1, .int a2, .int a3, .int a4, .int a5] (rest := [.int x1]) (by rfl) ⟨⟨114, by decide, rfl⟩, ⟨_, rfl, rf_in_top _, trivial⟩, ⟨_, rfl, rf_in_top _, trivial⟩, ⟨_, rfl, rf_in_top _, trivial⟩, ⟨_, rfl, rf_in_top _, trivial⟩, ⟨_, rfl, rf_in_top _, trivial⟩, trivial⟩ (Nat.le_of_ble_eq_true rfl) hw1 (fr_pre hfr hf1 (by decide +kernel)) trivial (fun x2 ws2 hw2 hf2 e2 => k_pc 294 rfl ?_)
  exact k_ceq c (hd 54 294 _ _ rfl) (tgt := 1413) (by decide) (Int32.toInt_inj.mp (e1.trans e2.symm)) (KK _)
def ddL1 : List (Nat × Instr × Nat) := [(299, .aload_n 1, 1), (300, .aload_n 0, 1), (301, .iload_n 3, 1), (302, .iconst 1, 1), (303, .iadd, 1), (304, .iaload, 1), (305, .invokevirtual 18, 3), (308, .aload_n 2, 1), (309, .aload_n 0, 1), (310, .iload_n 3, 1), (311, .iconst 1, 1), (312, .iadd, 1), (313, .iaload, 1), (314, .invokevirtual 22, 3), (317, .if_icmp .eq 1096, 3), (320, .iconst 0, 1), (321, .ireturn, 1)]
set_option maxRecDepth 100000 in
theorem dkL1 : rf_decs code ddL1 := rf_decs_of (by decide +kernel)
set_option maxHeartbeats 16000000 in
set_option maxRecDepth 100000 in
theorem lw_case1 {X : rfX} {G : rfG} {b Ln : Nat} {sc : Nat → Int32} {n sl : Nat} (C : lwC X G b Ln sc n sl) {i : Int32} (h0 : 0 ≤ i.toInt) (h1 : i.toInt + 5 < (Ln : Int)) (KK : ∀ ws', kW X n sl 1413 [(3, .int i), (2, .ref (G.2.1.1 114)), (1, .ref (G.2.1.1 70)), (0, .ref b)] [] ws') {ws : va_W} (hw : rf_world G.2.1.1 G.2.1.2.1 G.2.1.2.2.1 G.2.1.2.2.2 ws) (hfr : frOK (hv ws)) : kW X n sl 299 [(3, .int i), (2, .ref (G.2.1.1 114)), (1, .ref (G.2.1.1 70)), (0, .ref b)] [] ws := by
  have hG := C.1
  have c := C.2.2.1
  have hd : ∀ n pc i len, ddL1[n]? = some (pc, i, len) → decode code pc = .ok (i, len) := fun n pc i len h => hdk dkL1 n pc i len h
  obtain ⟨a1, ea1⟩ : ∃ a, sc (i + 1).toNatClampNeg = a := ⟨_, rfl⟩
  have r1 : -2147483648 ≤ a1.toInt ∧ a1.toInt ≤ 2147483647 := ⟨(rf_in_top a1).1, (rf_in_top a1).2.1⟩
  have hc_ : (a1.toInt ≤ (-1)) ∨ (a1.toInt = 0) ∨ (1 ≤ a1.toInt) := by omega
  rcases hc_ with hc_ | hc_ | hc_
  · skip
    refine k_al c (hd 0 299 _ _ rfl) (by rfl) (k_pc 300 rfl ?_)
    refine k_al c (hd 1 300 _ _ rfl) (by rfl) (k_pc 301 rfl ?_)
    refine k_il c (hd 2 301 _ _ rfl) (by rfl) (k_pc 302 rfl ?_)
    refine k_ic c (hd 3 302 _ _ rfl) (v := 1) (by decide) (k_pc 303 rfl ?_)
    refine k_addE c (hd 4 303 _ _ rfl) (k_pc 304 rfl ?_)
    refine k_sldE C (lw_in h0 h1 C.2.2.2.2.1 (by decide)) ea1 (hd 5 304 _ _ rfl) (k_pc 305 rfl ?_)
    refine k_callC C (M := q7_M) (rf_metV_of (q7_met hG)) (-1) (by decide +kernel) (by decide +kernel) (wlkV (lkL_18 hG) _ rfl rfl) (j := 70) (by decide +kernel) ⟨Nat.le_of_ble_eq_true rfl, Nat.le_of_ble_eq_true rfl⟩ (hd 6 305 _ _ rfl) [.int a1] (rest := []) (by rfl) ⟨⟨70, by decide, rfl⟩, ⟨_, rfl, rf_in1 (by omega) (by omega), trivial⟩, trivial⟩ (Nat.le_of_ble_eq_true rfl) hw (fr_pre hfr (hframe_rf [] _) (by decide +kernel)) trivial (fun x1 ws1 hw1 hf1 e1 => k_pc 308 rfl ?_)
    refine k_al c (hd 7 308 _ _ rfl) (by rfl) (k_pc 309 rfl ?_)
    refine k_al c (hd 8 309 _ _ rfl) (by rfl) (k_pc 310 rfl ?_)
    refine k_il c (hd 9 310 _ _ rfl) (by rfl) (k_pc 311 rfl ?_)
    refine k_ic c (hd 10 311 _ _ rfl) (v := 1) (by decide) (k_pc 312 rfl ?_)
    refine k_addE c (hd 11 312 _ _ rfl) (k_pc 313 rfl ?_)
    refine k_sldE C (lw_in h0 h1 C.2.2.2.2.1 (by decide)) ea1 (hd 12 313 _ _ rfl) (k_pc 314 rfl ?_)
    refine k_callC C (M := q8_M) (rf_metV_of (q8_met hG)) (-1) (by decide +kernel) (by decide +kernel) (wlkV (lkL_22 hG) _ rfl rfl) (j := 114) (by decide +kernel) ⟨Nat.le_of_ble_eq_true rfl, Nat.le_of_ble_eq_true rfl⟩ (hd 13 314 _ _ rfl) [.int a1] (rest := [.int x1]) (by rfl) ⟨⟨114, by decide, rfl⟩, ⟨_, rfl, rf_in1 (by omega) (by omega), trivial⟩, trivial⟩ (Nat.le_of_ble_eq_true rfl) hw1 (fr_pre hfr hf1 (by decide +kernel)) trivial (fun x2 ws2 hw2 hf2 e2 => k_pc 317 rfl ?_)
    exact k_ceq c (hd 14 317 _ _ rfl) (tgt := 1413) (by decide) (Int32.toInt_inj.mp (e1.trans e2.symm)) (KK _)
  · skip
    refine k_al c (hd 0 299 _ _ rfl) (by rfl) (k_pc 300 rfl ?_)
    refine k_al c (hd 1 300 _ _ rfl) (by rfl) (k_pc 301 rfl ?_)
    refine k_il c (hd 2 301 _ _ rfl) (by rfl) (k_pc 302 rfl ?_)
    refine k_ic c (hd 3 302 _ _ rfl) (v := 1) (by decide) (k_pc 303 rfl ?_)
    refine k_addE c (hd 4 303 _ _ rfl) (k_pc 304 rfl ?_)
    refine k_sldE C (lw_in h0 h1 C.2.2.2.2.1 (by decide)) ea1 (hd 5 304 _ _ rfl) (k_pc 305 rfl ?_)
    refine k_callC C (M := q9_M) (rf_metV_of (q9_met hG)) 0 (by decide +kernel) (by decide +kernel) (wlkV (lkL_18 hG) _ rfl rfl) (j := 70) (by decide +kernel) ⟨Nat.le_of_ble_eq_true rfl, Nat.le_of_ble_eq_true rfl⟩ (hd 6 305 _ _ rfl) [.int a1] (rest := []) (by rfl) ⟨⟨70, by decide, rfl⟩, ⟨_, rfl, hcon (by omega), trivial⟩, trivial⟩ (Nat.le_of_ble_eq_true rfl) hw (fr_pre hfr (hframe_rf [] _) (by decide +kernel)) trivial (fun x1 ws1 hw1 hf1 e1 => k_pc 308 rfl ?_)
    refine k_al c (hd 7 308 _ _ rfl) (by rfl) (k_pc 309 rfl ?_)
    refine k_al c (hd 8 309 _ _ rfl) (by rfl) (k_pc 310 rfl ?_)
    refine k_il c (hd 9 310 _ _ rfl) (by rfl) (k_pc 311 rfl ?_)
    refine k_ic c (hd 10 311 _ _ rfl) (v := 1) (by decide) (k_pc 312 rfl ?_)
    refine k_addE c (hd 11 312 _ _ rfl) (k_pc 313 rfl ?_)
    refine k_sldE C (lw_in h0 h1 C.2.2.2.2.1 (by decide)) ea1 (hd 12 313 _ _ rfl) (k_pc 314 rfl ?_)
    refine k_callC C (M := q10_M) (rf_metV_of (q10_met hG)) 0 (by decide +kernel) (by decide +kernel) (wlkV (lkL_22 hG) _ rfl rfl) (j := 114) (by decide +kernel) ⟨Nat.le_of_ble_eq_true rfl, Nat.le_of_ble_eq_true rfl⟩ (hd 13 314 _ _ rfl) [.int a1] (rest := [.int x1]) (by rfl) ⟨⟨114, by decide, rfl⟩, ⟨_, rfl, hcon (by omega), trivial⟩, trivial⟩ (Nat.le_of_ble_eq_true rfl) hw1 (fr_pre hfr hf1 (by decide +kernel)) trivial (fun x2 ws2 hw2 hf2 e2 => k_pc 317 rfl ?_)
    exact k_ceq c (hd 14 317 _ _ rfl) (tgt := 1413) (by decide) (Int32.toInt_inj.mp (e1.trans e2.symm)) (KK _)
  · skip
    refine k_al c (hd 0 299 _ _ rfl) (by rfl) (k_pc 300 rfl ?_)
    refine k_al c (hd 1 300 _ _ rfl) (by rfl) (k_pc 301 rfl ?_)
    refine k_il c (hd 2 301 _ _ rfl) (by rfl) (k_pc 302 rfl ?_)
    refine k_ic c (hd 3 302 _ _ rfl) (v := 1) (by decide) (k_pc 303 rfl ?_)
    refine k_addE c (hd 4 303 _ _ rfl) (k_pc 304 rfl ?_)
    refine k_sldE C (lw_in h0 h1 C.2.2.2.2.1 (by decide)) ea1 (hd 5 304 _ _ rfl) (k_pc 305 rfl ?_)
    refine k_callC C (M := q11_M) (rf_metV_of (q11_met hG)) (-1) (by decide +kernel) (by decide +kernel) (wlkV (lkL_18 hG) _ rfl rfl) (j := 70) (by decide +kernel) ⟨Nat.le_of_ble_eq_true rfl, Nat.le_of_ble_eq_true rfl⟩ (hd 6 305 _ _ rfl) [.int a1] (rest := []) (by rfl) ⟨⟨70, by decide, rfl⟩, ⟨_, rfl, rf_in1 (by omega) (by omega), trivial⟩, trivial⟩ (Nat.le_of_ble_eq_true rfl) hw (fr_pre hfr (hframe_rf [] _) (by decide +kernel)) trivial (fun x1 ws1 hw1 hf1 e1 => k_pc 308 rfl ?_)
    refine k_al c (hd 7 308 _ _ rfl) (by rfl) (k_pc 309 rfl ?_)
    refine k_al c (hd 8 309 _ _ rfl) (by rfl) (k_pc 310 rfl ?_)
    refine k_il c (hd 9 310 _ _ rfl) (by rfl) (k_pc 311 rfl ?_)
    refine k_ic c (hd 10 311 _ _ rfl) (v := 1) (by decide) (k_pc 312 rfl ?_)
    refine k_addE c (hd 11 312 _ _ rfl) (k_pc 313 rfl ?_)
    refine k_sldE C (lw_in h0 h1 C.2.2.2.2.1 (by decide)) ea1 (hd 12 313 _ _ rfl) (k_pc 314 rfl ?_)
    refine k_callC C (M := q12_M) (rf_metV_of (q12_met hG)) (-1) (by decide +kernel) (by decide +kernel) (wlkV (lkL_22 hG) _ rfl rfl) (j := 114) (by decide +kernel) ⟨Nat.le_of_ble_eq_true rfl, Nat.le_of_ble_eq_true rfl⟩ (hd 13 314 _ _ rfl) [.int a1] (rest := [.int x1]) (by rfl) ⟨⟨114, by decide, rfl⟩, ⟨_, rfl, rf_in1 (by omega) (by omega), trivial⟩, trivial⟩ (Nat.le_of_ble_eq_true rfl) hw1 (fr_pre hfr hf1 (by decide +kernel)) trivial (fun x2 ws2 hw2 hf2 e2 => k_pc 317 rfl ?_)
    exact k_ceq c (hd 14 317 _ _ rfl) (tgt := 1413) (by decide) (Int32.toInt_inj.mp (e1.trans e2.symm)) (KK _)
def ddL2 : List (Nat × Instr × Nat) := [(322, .aload_n 1, 1), (323, .invokevirtual 23, 3), (326, .aload_n 2, 1), (327, .invokevirtual 27, 3), (330, .if_icmp .eq 1083, 3), (333, .iconst 0, 1), (334, .ireturn, 1)]
set_option maxRecDepth 100000 in
theorem dkL2 : rf_decs code ddL2 := rf_decs_of (by decide +kernel)
set_option maxHeartbeats 16000000 in
set_option maxRecDepth 100000 in
theorem lw_case2 {X : rfX} {G : rfG} {b Ln : Nat} {sc : Nat → Int32} {n sl : Nat} (C : lwC X G b Ln sc n sl) {i : Int32} (h0 : 0 ≤ i.toInt) (h1 : i.toInt + 5 < (Ln : Int)) (KK : ∀ ws', kW X n sl 1413 [(3, .int i), (2, .ref (G.2.1.1 114)), (1, .ref (G.2.1.1 70)), (0, .ref b)] [] ws') {ws : va_W} (hw : rf_world G.2.1.1 G.2.1.2.1 G.2.1.2.2.1 G.2.1.2.2.2 ws) (hfr : frOK (hv ws)) : kW X n sl 322 [(3, .int i), (2, .ref (G.2.1.1 114)), (1, .ref (G.2.1.1 70)), (0, .ref b)] [] ws := by
  have hG := C.1
  have c := C.2.2.1
  have hd : ∀ n pc i len, ddL2[n]? = some (pc, i, len) → decode code pc = .ok (i, len) := fun n pc i len h => hdk dkL2 n pc i len h
  refine k_al c (hd 0 322 _ _ rfl) (by rfl) (k_pc 323 rfl ?_)
  refine k_callC C (M := q23_M) (rf_metV_of (q23_met hG)) 0 (by decide +kernel) (by decide +kernel) (wlkV (lkL_23 hG) _ rfl rfl) (j := 70) (by decide +kernel) ⟨Nat.le_of_ble_eq_true rfl, Nat.le_of_ble_eq_true rfl⟩ (hd 1 323 _ _ rfl) [] (rest := []) (by rfl) ⟨⟨70, by decide, rfl⟩, trivial⟩ (Nat.le_of_ble_eq_true rfl) hw (fr_pre hfr (hframe_rf [] _) (by decide +kernel)) trivial (fun x1 ws1 hw1 hf1 e1 => k_pc 326 rfl ?_)
  refine k_al c (hd 2 326 _ _ rfl) (by rfl) (k_pc 327 rfl ?_)
  refine k_callC C (M := q29_M) (rf_metV_of (q29_met hG)) 0 (by decide +kernel) (by decide +kernel) (wlkV (lkL_27 hG) _ rfl rfl) (j := 114) (by decide +kernel) ⟨Nat.le_of_ble_eq_true rfl, Nat.le_of_ble_eq_true rfl⟩ (hd 3 327 _ _ rfl) [] (rest := [.int x1]) (by rfl) ⟨⟨114, by decide, rfl⟩, trivial⟩ (Nat.le_of_ble_eq_true rfl) hw1 (fr_pre hfr hf1 (by decide +kernel)) trivial (fun x2 ws2 hw2 hf2 e2 => k_pc 330 rfl ?_)
  exact k_ceq c (hd 4 330 _ _ rfl) (tgt := 1413) (by decide) (Int32.toInt_inj.mp (e1.trans e2.symm)) (KK _)
def ddL3 : List (Nat × Instr × Nat) := [(335, .aload_n 1, 1), (336, .aload_n 0, 1), (337, .iload_n 3, 1), (338, .iconst 1, 1), (339, .iadd, 1), (340, .iaload, 1), (341, .invokevirtual 28, 3), (344, .aload_n 2, 1), (345, .aload_n 0, 1), (346, .iload_n 3, 1), (347, .iconst 1, 1), (348, .iadd, 1), (349, .iaload, 1), (350, .invokevirtual 31, 3), (353, .if_icmp .eq 1060, 3), (356, .iconst 0, 1), (357, .ireturn, 1)]
set_option maxRecDepth 100000 in
theorem dkL3 : rf_decs code ddL3 := rf_decs_of (by decide +kernel)
set_option maxHeartbeats 16000000 in
set_option maxRecDepth 100000 in
theorem lw_case3 {X : rfX} {G : rfG} {b Ln : Nat} {sc : Nat → Int32} {n sl : Nat} (C : lwC X G b Ln sc n sl) {i : Int32} (h0 : 0 ≤ i.toInt) (h1 : i.toInt + 5 < (Ln : Int)) (KK : ∀ ws', kW X n sl 1413 [(3, .int i), (2, .ref (G.2.1.1 114)), (1, .ref (G.2.1.1 70)), (0, .ref b)] [] ws') {ws : va_W} (hw : rf_world G.2.1.1 G.2.1.2.1 G.2.1.2.2.1 G.2.1.2.2.2 ws) (hfr : frOK (hv ws)) : kW X n sl 335 [(3, .int i), (2, .ref (G.2.1.1 114)), (1, .ref (G.2.1.1 70)), (0, .ref b)] [] ws := by
  have hG := C.1
  have c := C.2.2.1
  have hd : ∀ n pc i len, ddL3[n]? = some (pc, i, len) → decode code pc = .ok (i, len) := fun n pc i len h => hdk dkL3 n pc i len h
  obtain ⟨a1, ea1⟩ : ∃ a, sc (i + 1).toNatClampNeg = a := ⟨_, rfl⟩
  have r1 : -2147483648 ≤ a1.toInt ∧ a1.toInt ≤ 2147483647 := ⟨(rf_in_top a1).1, (rf_in_top a1).2.1⟩
  have hc_ : (a1.toInt ≤ (-1)) ∨ (a1.toInt = 0) ∨ (a1.toInt = 1) ∨ (2 ≤ a1.toInt) := by omega
  rcases hc_ with hc_ | hc_ | hc_ | hc_
  · skip
    refine k_al c (hd 0 335 _ _ rfl) (by rfl) (k_pc 336 rfl ?_)
    refine k_al c (hd 1 336 _ _ rfl) (by rfl) (k_pc 337 rfl ?_)
    refine k_il c (hd 2 337 _ _ rfl) (by rfl) (k_pc 338 rfl ?_)
    refine k_ic c (hd 3 338 _ _ rfl) (v := 1) (by decide) (k_pc 339 rfl ?_)
    refine k_addE c (hd 4 339 _ _ rfl) (k_pc 340 rfl ?_)
    refine k_sldE C (lw_in h0 h1 C.2.2.2.2.1 (by decide)) ea1 (hd 5 340 _ _ rfl) (k_pc 341 rfl ?_)
    refine k_callC C (M := q30_M) (rf_metV_of (q30_met hG)) (-1) (by decide +kernel) (by decide +kernel) (wlkV (lkL_28 hG) _ rfl rfl) (j := 70) (by decide +kernel) ⟨Nat.le_of_ble_eq_true rfl, Nat.le_of_ble_eq_true rfl⟩ (hd 6 341 _ _ rfl) [.int a1] (rest := []) (by rfl) ⟨⟨70, by decide, rfl⟩, ⟨_, rfl, rf_in1 (by omega) (by omega), trivial⟩, trivial⟩ (Nat.le_of_ble_eq_true rfl) hw (fr_pre hfr (hframe_rf [] _) (by decide +kernel)) trivial (fun x1 ws1 hw1 hf1 e1 => k_pc 344 rfl ?_)
    refine k_al c (hd 7 344 _ _ rfl) (by rfl) (k_pc 345 rfl ?_)
    refine k_al c (hd 8 345 _ _ rfl) (by rfl) (k_pc 346 rfl ?_)
    refine k_il c (hd 9 346 _ _ rfl) (by rfl) (k_pc 347 rfl ?_)
    refine k_ic c (hd 10 347 _ _ rfl) (v := 1) (by decide) (k_pc 348 rfl ?_)
    refine k_addE c (hd 11 348 _ _ rfl) (k_pc 349 rfl ?_)
    refine k_sldE C (lw_in h0 h1 C.2.2.2.2.1 (by decide)) ea1 (hd 12 349 _ _ rfl) (k_pc 350 rfl ?_)
    refine k_callC C (M := q31_M) (rf_metV_of (q31_met hG)) (-1) (by decide +kernel) (by decide +kernel) (wlkV (lkL_31 hG) _ rfl rfl) (j := 114) (by decide +kernel) ⟨Nat.le_of_ble_eq_true rfl, Nat.le_of_ble_eq_true rfl⟩ (hd 13 350 _ _ rfl) [.int a1] (rest := [.int x1]) (by rfl) ⟨⟨114, by decide, rfl⟩, ⟨_, rfl, rf_in1 (by omega) (by omega), trivial⟩, trivial⟩ (Nat.le_of_ble_eq_true rfl) hw1 (fr_pre hfr hf1 (by decide +kernel)) trivial (fun x2 ws2 hw2 hf2 e2 => k_pc 353 rfl ?_)
    exact k_ceq c (hd 14 353 _ _ rfl) (tgt := 1413) (by decide) (Int32.toInt_inj.mp (e1.trans e2.symm)) (KK _)
  · skip
    refine k_al c (hd 0 335 _ _ rfl) (by rfl) (k_pc 336 rfl ?_)
    refine k_al c (hd 1 336 _ _ rfl) (by rfl) (k_pc 337 rfl ?_)
    refine k_il c (hd 2 337 _ _ rfl) (by rfl) (k_pc 338 rfl ?_)
    refine k_ic c (hd 3 338 _ _ rfl) (v := 1) (by decide) (k_pc 339 rfl ?_)
    refine k_addE c (hd 4 339 _ _ rfl) (k_pc 340 rfl ?_)
    refine k_sldE C (lw_in h0 h1 C.2.2.2.2.1 (by decide)) ea1 (hd 5 340 _ _ rfl) (k_pc 341 rfl ?_)
    refine k_callC C (M := q32_M) (rf_metV_of (q32_met hG)) 0 (by decide +kernel) (by decide +kernel) (wlkV (lkL_28 hG) _ rfl rfl) (j := 70) (by decide +kernel) ⟨Nat.le_of_ble_eq_true rfl, Nat.le_of_ble_eq_true rfl⟩ (hd 6 341 _ _ rfl) [.int a1] (rest := []) (by rfl) ⟨⟨70, by decide, rfl⟩, ⟨_, rfl, hcon (by omega), trivial⟩, trivial⟩ (Nat.le_of_ble_eq_true rfl) hw (fr_pre hfr (hframe_rf [] _) (by decide +kernel)) trivial (fun x1 ws1 hw1 hf1 e1 => k_pc 344 rfl ?_)
    refine k_al c (hd 7 344 _ _ rfl) (by rfl) (k_pc 345 rfl ?_)
    refine k_al c (hd 8 345 _ _ rfl) (by rfl) (k_pc 346 rfl ?_)
    refine k_il c (hd 9 346 _ _ rfl) (by rfl) (k_pc 347 rfl ?_)
    refine k_ic c (hd 10 347 _ _ rfl) (v := 1) (by decide) (k_pc 348 rfl ?_)
    refine k_addE c (hd 11 348 _ _ rfl) (k_pc 349 rfl ?_)
    refine k_sldE C (lw_in h0 h1 C.2.2.2.2.1 (by decide)) ea1 (hd 12 349 _ _ rfl) (k_pc 350 rfl ?_)
    refine k_callC C (M := q33_M) (rf_metV_of (q33_met hG)) 0 (by decide +kernel) (by decide +kernel) (wlkV (lkL_31 hG) _ rfl rfl) (j := 114) (by decide +kernel) ⟨Nat.le_of_ble_eq_true rfl, Nat.le_of_ble_eq_true rfl⟩ (hd 13 350 _ _ rfl) [.int a1] (rest := [.int x1]) (by rfl) ⟨⟨114, by decide, rfl⟩, ⟨_, rfl, hcon (by omega), trivial⟩, trivial⟩ (Nat.le_of_ble_eq_true rfl) hw1 (fr_pre hfr hf1 (by decide +kernel)) trivial (fun x2 ws2 hw2 hf2 e2 => k_pc 353 rfl ?_)
    exact k_ceq c (hd 14 353 _ _ rfl) (tgt := 1413) (by decide) (Int32.toInt_inj.mp (e1.trans e2.symm)) (KK _)
  · skip
    refine k_al c (hd 0 335 _ _ rfl) (by rfl) (k_pc 336 rfl ?_)
    refine k_al c (hd 1 336 _ _ rfl) (by rfl) (k_pc 337 rfl ?_)
    refine k_il c (hd 2 337 _ _ rfl) (by rfl) (k_pc 338 rfl ?_)
    refine k_ic c (hd 3 338 _ _ rfl) (v := 1) (by decide) (k_pc 339 rfl ?_)
    refine k_addE c (hd 4 339 _ _ rfl) (k_pc 340 rfl ?_)
    refine k_sldE C (lw_in h0 h1 C.2.2.2.2.1 (by decide)) ea1 (hd 5 340 _ _ rfl) (k_pc 341 rfl ?_)
    refine k_callC C (M := q34_M) (rf_metV_of (q34_met hG)) (-1) (by decide +kernel) (by decide +kernel) (wlkV (lkL_28 hG) _ rfl rfl) (j := 70) (by decide +kernel) ⟨Nat.le_of_ble_eq_true rfl, Nat.le_of_ble_eq_true rfl⟩ (hd 6 341 _ _ rfl) [.int a1] (rest := []) (by rfl) ⟨⟨70, by decide, rfl⟩, ⟨_, rfl, hcon (by omega), trivial⟩, trivial⟩ (Nat.le_of_ble_eq_true rfl) hw (fr_pre hfr (hframe_rf [] _) (by decide +kernel)) trivial (fun x1 ws1 hw1 hf1 e1 => k_pc 344 rfl ?_)
    refine k_al c (hd 7 344 _ _ rfl) (by rfl) (k_pc 345 rfl ?_)
    refine k_al c (hd 8 345 _ _ rfl) (by rfl) (k_pc 346 rfl ?_)
    refine k_il c (hd 9 346 _ _ rfl) (by rfl) (k_pc 347 rfl ?_)
    refine k_ic c (hd 10 347 _ _ rfl) (v := 1) (by decide) (k_pc 348 rfl ?_)
    refine k_addE c (hd 11 348 _ _ rfl) (k_pc 349 rfl ?_)
    refine k_sldE C (lw_in h0 h1 C.2.2.2.2.1 (by decide)) ea1 (hd 12 349 _ _ rfl) (k_pc 350 rfl ?_)
    refine k_callC C (M := q35_M) (rf_metV_of (q35_met hG)) (-1) (by decide +kernel) (by decide +kernel) (wlkV (lkL_31 hG) _ rfl rfl) (j := 114) (by decide +kernel) ⟨Nat.le_of_ble_eq_true rfl, Nat.le_of_ble_eq_true rfl⟩ (hd 13 350 _ _ rfl) [.int a1] (rest := [.int x1]) (by rfl) ⟨⟨114, by decide, rfl⟩, ⟨_, rfl, hcon (by omega), trivial⟩, trivial⟩ (Nat.le_of_ble_eq_true rfl) hw1 (fr_pre hfr hf1 (by decide +kernel)) trivial (fun x2 ws2 hw2 hf2 e2 => k_pc 353 rfl ?_)
    exact k_ceq c (hd 14 353 _ _ rfl) (tgt := 1413) (by decide) (Int32.toInt_inj.mp (e1.trans e2.symm)) (KK _)
  · skip
    refine k_al c (hd 0 335 _ _ rfl) (by rfl) (k_pc 336 rfl ?_)
    refine k_al c (hd 1 336 _ _ rfl) (by rfl) (k_pc 337 rfl ?_)
    refine k_il c (hd 2 337 _ _ rfl) (by rfl) (k_pc 338 rfl ?_)
    refine k_ic c (hd 3 338 _ _ rfl) (v := 1) (by decide) (k_pc 339 rfl ?_)
    refine k_addE c (hd 4 339 _ _ rfl) (k_pc 340 rfl ?_)
    refine k_sldE C (lw_in h0 h1 C.2.2.2.2.1 (by decide)) ea1 (hd 5 340 _ _ rfl) (k_pc 341 rfl ?_)
    refine k_callC C (M := q36_M) (rf_metV_of (q36_met hG)) (-1) (by decide +kernel) (by decide +kernel) (wlkV (lkL_28 hG) _ rfl rfl) (j := 70) (by decide +kernel) ⟨Nat.le_of_ble_eq_true rfl, Nat.le_of_ble_eq_true rfl⟩ (hd 6 341 _ _ rfl) [.int a1] (rest := []) (by rfl) ⟨⟨70, by decide, rfl⟩, ⟨_, rfl, rf_in1 (by omega) (by omega), trivial⟩, trivial⟩ (Nat.le_of_ble_eq_true rfl) hw (fr_pre hfr (hframe_rf [] _) (by decide +kernel)) trivial (fun x1 ws1 hw1 hf1 e1 => k_pc 344 rfl ?_)
    refine k_al c (hd 7 344 _ _ rfl) (by rfl) (k_pc 345 rfl ?_)
    refine k_al c (hd 8 345 _ _ rfl) (by rfl) (k_pc 346 rfl ?_)
    refine k_il c (hd 9 346 _ _ rfl) (by rfl) (k_pc 347 rfl ?_)
    refine k_ic c (hd 10 347 _ _ rfl) (v := 1) (by decide) (k_pc 348 rfl ?_)
    refine k_addE c (hd 11 348 _ _ rfl) (k_pc 349 rfl ?_)
    refine k_sldE C (lw_in h0 h1 C.2.2.2.2.1 (by decide)) ea1 (hd 12 349 _ _ rfl) (k_pc 350 rfl ?_)
    refine k_callC C (M := q37_M) (rf_metV_of (q37_met hG)) (-1) (by decide +kernel) (by decide +kernel) (wlkV (lkL_31 hG) _ rfl rfl) (j := 114) (by decide +kernel) ⟨Nat.le_of_ble_eq_true rfl, Nat.le_of_ble_eq_true rfl⟩ (hd 13 350 _ _ rfl) [.int a1] (rest := [.int x1]) (by rfl) ⟨⟨114, by decide, rfl⟩, ⟨_, rfl, rf_in1 (by omega) (by omega), trivial⟩, trivial⟩ (Nat.le_of_ble_eq_true rfl) hw1 (fr_pre hfr hf1 (by decide +kernel)) trivial (fun x2 ws2 hw2 hf2 e2 => k_pc 353 rfl ?_)
    exact k_ceq c (hd 14 353 _ _ rfl) (tgt := 1413) (by decide) (Int32.toInt_inj.mp (e1.trans e2.symm)) (KK _)
def ddL4 : List (Nat × Instr × Nat) := [(358, .aload_n 1, 1), (359, .aload_n 0, 1), (360, .iload_n 3, 1), (361, .iconst 1, 1), (362, .iadd, 1), (363, .iaload, 1), (364, .aload_n 0, 1), (365, .iload_n 3, 1), (366, .iconst 2, 1), (367, .iadd, 1), (368, .iaload, 1), (369, .invokevirtual 32, 3), (372, .aload_n 2, 1), (373, .aload_n 0, 1), (374, .iload_n 3, 1), (375, .iconst 1, 1), (376, .iadd, 1), (377, .iaload, 1), (378, .aload_n 0, 1), (379, .iload_n 3, 1), (380, .iconst 2, 1), (381, .iadd, 1), (382, .iaload, 1), (383, .invokevirtual 36, 3), (386, .if_icmp .eq 1027, 3), (389, .iconst 0, 1), (390, .ireturn, 1)]
set_option maxRecDepth 100000 in
theorem dkL4 : rf_decs code ddL4 := rf_decs_of (by decide +kernel)
set_option maxHeartbeats 16000000 in
set_option maxRecDepth 100000 in
theorem lw_case4 {X : rfX} {G : rfG} {b Ln : Nat} {sc : Nat → Int32} {n sl : Nat} (C : lwC X G b Ln sc n sl) {i : Int32} (h0 : 0 ≤ i.toInt) (h1 : i.toInt + 5 < (Ln : Int)) (KK : ∀ ws', kW X n sl 1413 [(3, .int i), (2, .ref (G.2.1.1 114)), (1, .ref (G.2.1.1 70)), (0, .ref b)] [] ws') {ws : va_W} (hw : rf_world G.2.1.1 G.2.1.2.1 G.2.1.2.2.1 G.2.1.2.2.2 ws) (hfr : frOK (hv ws)) : kW X n sl 358 [(3, .int i), (2, .ref (G.2.1.1 114)), (1, .ref (G.2.1.1 70)), (0, .ref b)] [] ws := by
  have hG := C.1
  have c := C.2.2.1
  have hd : ∀ n pc i len, ddL4[n]? = some (pc, i, len) → decode code pc = .ok (i, len) := fun n pc i len h => hdk dkL4 n pc i len h
  obtain ⟨a1, ea1⟩ : ∃ a, sc (i + 1).toNatClampNeg = a := ⟨_, rfl⟩
  have r1 : -2147483648 ≤ a1.toInt ∧ a1.toInt ≤ 2147483647 := ⟨(rf_in_top a1).1, (rf_in_top a1).2.1⟩
  obtain ⟨a2, ea2⟩ : ∃ a, sc (i + 2).toNatClampNeg = a := ⟨_, rfl⟩
  have r2 : -2147483648 ≤ a2.toInt ∧ a2.toInt ≤ 2147483647 := ⟨(rf_in_top a2).1, (rf_in_top a2).2.1⟩
  refine k_al c (hd 0 358 _ _ rfl) (by rfl) (k_pc 359 rfl ?_)
  refine k_al c (hd 1 359 _ _ rfl) (by rfl) (k_pc 360 rfl ?_)
  refine k_il c (hd 2 360 _ _ rfl) (by rfl) (k_pc 361 rfl ?_)
  refine k_ic c (hd 3 361 _ _ rfl) (v := 1) (by decide) (k_pc 362 rfl ?_)
  refine k_addE c (hd 4 362 _ _ rfl) (k_pc 363 rfl ?_)
  refine k_sldE C (lw_in h0 h1 C.2.2.2.2.1 (by decide)) ea1 (hd 5 363 _ _ rfl) (k_pc 364 rfl ?_)
  refine k_al c (hd 6 364 _ _ rfl) (by rfl) (k_pc 365 rfl ?_)
  refine k_il c (hd 7 365 _ _ rfl) (by rfl) (k_pc 366 rfl ?_)
  refine k_ic c (hd 8 366 _ _ rfl) (v := 2) (by decide) (k_pc 367 rfl ?_)
  refine k_addE c (hd 9 367 _ _ rfl) (k_pc 368 rfl ?_)
  refine k_sldE C (lw_in h0 h1 C.2.2.2.2.1 (by decide)) ea2 (hd 10 368 _ _ rfl) (k_pc 369 rfl ?_)
  refine k_callC C (M := q39_M) (rf_metV_of (q39_met hG)) (-1) (by decide +kernel) (by decide +kernel) (wlkV (lkL_32 hG) _ rfl rfl) (j := 70) (by decide +kernel) ⟨Nat.le_of_ble_eq_true rfl, Nat.le_of_ble_eq_true rfl⟩ (hd 11 369 _ _ rfl) [.int a1, .int a2] (rest := []) (by rfl) ⟨⟨70, by decide, rfl⟩, ⟨_, rfl, rf_in_top _, trivial⟩, ⟨_, rfl, rf_in_top _, trivial⟩, trivial⟩ (Nat.le_of_ble_eq_true rfl) hw (fr_pre hfr (hframe_rf [] _) (by decide +kernel)) trivial (fun x1 ws1 hw1 hf1 e1 => k_pc 372 rfl ?_)
  refine k_al c (hd 12 372 _ _ rfl) (by rfl) (k_pc 373 rfl ?_)
  refine k_al c (hd 13 373 _ _ rfl) (by rfl) (k_pc 374 rfl ?_)
  refine k_il c (hd 14 374 _ _ rfl) (by rfl) (k_pc 375 rfl ?_)
  refine k_ic c (hd 15 375 _ _ rfl) (v := 1) (by decide) (k_pc 376 rfl ?_)
  refine k_addE c (hd 16 376 _ _ rfl) (k_pc 377 rfl ?_)
  refine k_sldE C (lw_in h0 h1 C.2.2.2.2.1 (by decide)) ea1 (hd 17 377 _ _ rfl) (k_pc 378 rfl ?_)
  refine k_al c (hd 18 378 _ _ rfl) (by rfl) (k_pc 379 rfl ?_)
  refine k_il c (hd 19 379 _ _ rfl) (by rfl) (k_pc 380 rfl ?_)
  refine k_ic c (hd 20 380 _ _ rfl) (v := 2) (by decide) (k_pc 381 rfl ?_)
  refine k_addE c (hd 21 381 _ _ rfl) (k_pc 382 rfl ?_)
  refine k_sldE C (lw_in h0 h1 C.2.2.2.2.1 (by decide)) ea2 (hd 22 382 _ _ rfl) (k_pc 383 rfl ?_)
  refine k_callC C (M := q42_M) (rf_metV_of (q42_met hG)) (-1) (by decide +kernel) (by decide +kernel) (wlkV (lkL_36 hG) _ rfl rfl) (j := 114) (by decide +kernel) ⟨Nat.le_of_ble_eq_true rfl, Nat.le_of_ble_eq_true rfl⟩ (hd 23 383 _ _ rfl) [.int a1, .int a2] (rest := [.int x1]) (by rfl) ⟨⟨114, by decide, rfl⟩, ⟨_, rfl, rf_in_top _, trivial⟩, ⟨_, rfl, rf_in_top _, trivial⟩, trivial⟩ (Nat.le_of_ble_eq_true rfl) hw1 (fr_pre hfr hf1 (by decide +kernel)) trivial (fun x2 ws2 hw2 hf2 e2 => k_pc 386 rfl ?_)
  exact k_ceq c (hd 24 386 _ _ rfl) (tgt := 1413) (by decide) (Int32.toInt_inj.mp (e1.trans e2.symm)) (KK _)
def ddL5 : List (Nat × Instr × Nat) := [(391, .aload_n 1, 1), (392, .aload_n 0, 1), (393, .iload_n 3, 1), (394, .iconst 1, 1), (395, .iadd, 1), (396, .iaload, 1), (397, .aload_n 0, 1), (398, .iload_n 3, 1), (399, .iconst 2, 1), (400, .iadd, 1), (401, .iaload, 1), (402, .invokevirtual 37, 3), (405, .aload_n 2, 1), (406, .aload_n 0, 1), (407, .iload_n 3, 1), (408, .iconst 1, 1), (409, .iadd, 1), (410, .iaload, 1), (411, .aload_n 0, 1), (412, .iload_n 3, 1), (413, .iconst 2, 1), (414, .iadd, 1), (415, .iaload, 1), (416, .invokevirtual 40, 3), (419, .if_icmp .eq 994, 3), (422, .iconst 0, 1), (423, .ireturn, 1)]
set_option maxRecDepth 100000 in
theorem dkL5 : rf_decs code ddL5 := rf_decs_of (by decide +kernel)
set_option maxHeartbeats 16000000 in
set_option maxRecDepth 100000 in
theorem lw_case5 {X : rfX} {G : rfG} {b Ln : Nat} {sc : Nat → Int32} {n sl : Nat} (C : lwC X G b Ln sc n sl) {i : Int32} (h0 : 0 ≤ i.toInt) (h1 : i.toInt + 5 < (Ln : Int)) (KK : ∀ ws', kW X n sl 1413 [(3, .int i), (2, .ref (G.2.1.1 114)), (1, .ref (G.2.1.1 70)), (0, .ref b)] [] ws') {ws : va_W} (hw : rf_world G.2.1.1 G.2.1.2.1 G.2.1.2.2.1 G.2.1.2.2.2 ws) (hfr : frOK (hv ws)) : kW X n sl 391 [(3, .int i), (2, .ref (G.2.1.1 114)), (1, .ref (G.2.1.1 70)), (0, .ref b)] [] ws := by
  have hG := C.1
  have c := C.2.2.1
  have hd : ∀ n pc i len, ddL5[n]? = some (pc, i, len) → decode code pc = .ok (i, len) := fun n pc i len h => hdk dkL5 n pc i len h
  obtain ⟨a1, ea1⟩ : ∃ a, sc (i + 1).toNatClampNeg = a := ⟨_, rfl⟩
  have r1 : -2147483648 ≤ a1.toInt ∧ a1.toInt ≤ 2147483647 := ⟨(rf_in_top a1).1, (rf_in_top a1).2.1⟩
  obtain ⟨a2, ea2⟩ : ∃ a, sc (i + 2).toNatClampNeg = a := ⟨_, rfl⟩
  have r2 : -2147483648 ≤ a2.toInt ∧ a2.toInt ≤ 2147483647 := ⟨(rf_in_top a2).1, (rf_in_top a2).2.1⟩
  by_cases hcb : cbI a1.toInt
  · have ra_ : 0 ≤ a1.toInt ∧ a1.toInt ≤ 387420488 := ⟨hcb.1, hcb.2.1⟩
    have hc_ : (0 ≤ a2.toInt ∧ a2.toInt ≤ 999) ∨ (a2.toInt ≤ (-1)) ∨ (1000 ≤ a2.toInt) := by omega
    rcases hc_ with hc_ | hc_ | hc_
    · skip
      refine k_al c (hd 0 391 _ _ rfl) (by rfl) (k_pc 392 rfl ?_)
      refine k_al c (hd 1 392 _ _ rfl) (by rfl) (k_pc 393 rfl ?_)
      refine k_il c (hd 2 393 _ _ rfl) (by rfl) (k_pc 394 rfl ?_)
      refine k_ic c (hd 3 394 _ _ rfl) (v := 1) (by decide) (k_pc 395 rfl ?_)
      refine k_addE c (hd 4 395 _ _ rfl) (k_pc 396 rfl ?_)
      refine k_sldE C (lw_in h0 h1 C.2.2.2.2.1 (by decide)) ea1 (hd 5 396 _ _ rfl) (k_pc 397 rfl ?_)
      refine k_al c (hd 6 397 _ _ rfl) (by rfl) (k_pc 398 rfl ?_)
      refine k_il c (hd 7 398 _ _ rfl) (by rfl) (k_pc 399 rfl ?_)
      refine k_ic c (hd 8 399 _ _ rfl) (v := 2) (by decide) (k_pc 400 rfl ?_)
      refine k_addE c (hd 9 400 _ _ rfl) (k_pc 401 rfl ?_)
      refine k_sldE C (lw_in h0 h1 C.2.2.2.2.1 (by decide)) ea2 (hd 10 401 _ _ rfl) (k_pc 402 rfl ?_)
      refine k_callC C (M := q51_M) (q51_met hG) 0 (by decide +kernel) (by decide +kernel) (wlkV (lkL_37 hG) _ rfl rfl) (j := 70) (by decide +kernel) ⟨Nat.le_of_ble_eq_true rfl, Nat.le_of_ble_eq_true rfl⟩ (hd 11 402 _ _ rfl) [.int a1, .int a2] (rest := []) (by rfl) ⟨⟨70, by decide, rfl⟩, ⟨_, rfl, rf_in1 (by omega) (by omega), trivial⟩, ⟨_, rfl, rf_in1 (by omega) (by omega), trivial⟩, trivial⟩ (Nat.le_of_ble_eq_true rfl) hw (fr_pre hfr (hframe_rf [] _) (by decide +kernel)) ⟨_, rfl, ⟨fun _ => rfl, fun _ => hcb⟩⟩ (fun x1 ws1 hw1 hf1 e1 => k_pc 405 rfl ?_)
      refine k_al c (hd 12 405 _ _ rfl) (by rfl) (k_pc 406 rfl ?_)
      refine k_al c (hd 13 406 _ _ rfl) (by rfl) (k_pc 407 rfl ?_)
      refine k_il c (hd 14 407 _ _ rfl) (by rfl) (k_pc 408 rfl ?_)
      refine k_ic c (hd 15 408 _ _ rfl) (v := 1) (by decide) (k_pc 409 rfl ?_)
      refine k_addE c (hd 16 409 _ _ rfl) (k_pc 410 rfl ?_)
      refine k_sldE C (lw_in h0 h1 C.2.2.2.2.1 (by decide)) ea1 (hd 17 410 _ _ rfl) (k_pc 411 rfl ?_)
      refine k_al c (hd 18 411 _ _ rfl) (by rfl) (k_pc 412 rfl ?_)
      refine k_il c (hd 19 412 _ _ rfl) (by rfl) (k_pc 413 rfl ?_)
      refine k_ic c (hd 20 413 _ _ rfl) (v := 2) (by decide) (k_pc 414 rfl ?_)
      refine k_addE c (hd 21 414 _ _ rfl) (k_pc 415 rfl ?_)
      refine k_sldE C (lw_in h0 h1 C.2.2.2.2.1 (by decide)) ea2 (hd 22 415 _ _ rfl) (k_pc 416 rfl ?_)
      refine k_callC C (M := q71_M) (q71_met hG) 0 (by decide +kernel) (by decide +kernel) (wlkV (lkL_40 hG) _ rfl rfl) (j := 114) (by decide +kernel) ⟨Nat.le_of_ble_eq_true rfl, Nat.le_of_ble_eq_true rfl⟩ (hd 23 416 _ _ rfl) [.int a1, .int a2] (rest := [.int x1]) (by rfl) ⟨⟨114, by decide, rfl⟩, ⟨_, rfl, rf_in1 (by omega) (by omega), trivial⟩, ⟨_, rfl, rf_in1 (by omega) (by omega), trivial⟩, trivial⟩ (Nat.le_of_ble_eq_true rfl) hw1 (fr_pre hfr hf1 (by decide +kernel)) ⟨_, rfl, ⟨fun _ => rfl, fun _ => hcb⟩⟩ (fun x2 ws2 hw2 hf2 e2 => k_pc 419 rfl ?_)
      exact k_ceq c (hd 24 419 _ _ rfl) (tgt := 1413) (by decide) (Int32.toInt_inj.mp (e1.trans e2.symm)) (KK _)
    · skip
      refine k_al c (hd 0 391 _ _ rfl) (by rfl) (k_pc 392 rfl ?_)
      refine k_al c (hd 1 392 _ _ rfl) (by rfl) (k_pc 393 rfl ?_)
      refine k_il c (hd 2 393 _ _ rfl) (by rfl) (k_pc 394 rfl ?_)
      refine k_ic c (hd 3 394 _ _ rfl) (v := 1) (by decide) (k_pc 395 rfl ?_)
      refine k_addE c (hd 4 395 _ _ rfl) (k_pc 396 rfl ?_)
      refine k_sldE C (lw_in h0 h1 C.2.2.2.2.1 (by decide)) ea1 (hd 5 396 _ _ rfl) (k_pc 397 rfl ?_)
      refine k_al c (hd 6 397 _ _ rfl) (by rfl) (k_pc 398 rfl ?_)
      refine k_il c (hd 7 398 _ _ rfl) (by rfl) (k_pc 399 rfl ?_)
      refine k_ic c (hd 8 399 _ _ rfl) (v := 2) (by decide) (k_pc 400 rfl ?_)
      refine k_addE c (hd 9 400 _ _ rfl) (k_pc 401 rfl ?_)
      refine k_sldE C (lw_in h0 h1 C.2.2.2.2.1 (by decide)) ea2 (hd 10 401 _ _ rfl) (k_pc 402 rfl ?_)
      refine k_callC C (M := q73_M) (rf_metV_of (q73_met hG)) (-1) (by decide +kernel) (by decide +kernel) (wlkV (lkL_37 hG) _ rfl rfl) (j := 70) (by decide +kernel) ⟨Nat.le_of_ble_eq_true rfl, Nat.le_of_ble_eq_true rfl⟩ (hd 11 402 _ _ rfl) [.int a1, .int a2] (rest := []) (by rfl) ⟨⟨70, by decide, rfl⟩, ⟨_, rfl, rf_in_top _, trivial⟩, ⟨_, rfl, rf_in1 (by omega) (by omega), trivial⟩, trivial⟩ (Nat.le_of_ble_eq_true rfl) hw (fr_pre hfr (hframe_rf [] _) (by decide +kernel)) trivial (fun x1 ws1 hw1 hf1 e1 => k_pc 405 rfl ?_)
      refine k_al c (hd 12 405 _ _ rfl) (by rfl) (k_pc 406 rfl ?_)
      refine k_al c (hd 13 406 _ _ rfl) (by rfl) (k_pc 407 rfl ?_)
      refine k_il c (hd 14 407 _ _ rfl) (by rfl) (k_pc 408 rfl ?_)
      refine k_ic c (hd 15 408 _ _ rfl) (v := 1) (by decide) (k_pc 409 rfl ?_)
      refine k_addE c (hd 16 409 _ _ rfl) (k_pc 410 rfl ?_)
      refine k_sldE C (lw_in h0 h1 C.2.2.2.2.1 (by decide)) ea1 (hd 17 410 _ _ rfl) (k_pc 411 rfl ?_)
      refine k_al c (hd 18 411 _ _ rfl) (by rfl) (k_pc 412 rfl ?_)
      refine k_il c (hd 19 412 _ _ rfl) (by rfl) (k_pc 413 rfl ?_)
      refine k_ic c (hd 20 413 _ _ rfl) (v := 2) (by decide) (k_pc 414 rfl ?_)
      refine k_addE c (hd 21 414 _ _ rfl) (k_pc 415 rfl ?_)
      refine k_sldE C (lw_in h0 h1 C.2.2.2.2.1 (by decide)) ea2 (hd 22 415 _ _ rfl) (k_pc 416 rfl ?_)
      refine k_callC C (M := q77_M) (rf_metV_of (q77_met hG)) (-1) (by decide +kernel) (by decide +kernel) (wlkV (lkL_40 hG) _ rfl rfl) (j := 114) (by decide +kernel) ⟨Nat.le_of_ble_eq_true rfl, Nat.le_of_ble_eq_true rfl⟩ (hd 23 416 _ _ rfl) [.int a1, .int a2] (rest := [.int x1]) (by rfl) ⟨⟨114, by decide, rfl⟩, ⟨_, rfl, rf_in_top _, trivial⟩, ⟨_, rfl, rf_in1 (by omega) (by omega), trivial⟩, trivial⟩ (Nat.le_of_ble_eq_true rfl) hw1 (fr_pre hfr hf1 (by decide +kernel)) trivial (fun x2 ws2 hw2 hf2 e2 => k_pc 419 rfl ?_)
      exact k_ceq c (hd 24 419 _ _ rfl) (tgt := 1413) (by decide) (Int32.toInt_inj.mp (e1.trans e2.symm)) (KK _)
    · skip
      refine k_al c (hd 0 391 _ _ rfl) (by rfl) (k_pc 392 rfl ?_)
      refine k_al c (hd 1 392 _ _ rfl) (by rfl) (k_pc 393 rfl ?_)
      refine k_il c (hd 2 393 _ _ rfl) (by rfl) (k_pc 394 rfl ?_)
      refine k_ic c (hd 3 394 _ _ rfl) (v := 1) (by decide) (k_pc 395 rfl ?_)
      refine k_addE c (hd 4 395 _ _ rfl) (k_pc 396 rfl ?_)
      refine k_sldE C (lw_in h0 h1 C.2.2.2.2.1 (by decide)) ea1 (hd 5 396 _ _ rfl) (k_pc 397 rfl ?_)
      refine k_al c (hd 6 397 _ _ rfl) (by rfl) (k_pc 398 rfl ?_)
      refine k_il c (hd 7 398 _ _ rfl) (by rfl) (k_pc 399 rfl ?_)
      refine k_ic c (hd 8 399 _ _ rfl) (v := 2) (by decide) (k_pc 400 rfl ?_)
      refine k_addE c (hd 9 400 _ _ rfl) (k_pc 401 rfl ?_)
      refine k_sldE C (lw_in h0 h1 C.2.2.2.2.1 (by decide)) ea2 (hd 10 401 _ _ rfl) (k_pc 402 rfl ?_)
      refine k_callC C (M := q78_M) (rf_metV_of (q78_met hG)) (-1) (by decide +kernel) (by decide +kernel) (wlkV (lkL_37 hG) _ rfl rfl) (j := 70) (by decide +kernel) ⟨Nat.le_of_ble_eq_true rfl, Nat.le_of_ble_eq_true rfl⟩ (hd 11 402 _ _ rfl) [.int a1, .int a2] (rest := []) (by rfl) ⟨⟨70, by decide, rfl⟩, ⟨_, rfl, rf_in_top _, trivial⟩, ⟨_, rfl, rf_in1 (by omega) (by omega), trivial⟩, trivial⟩ (Nat.le_of_ble_eq_true rfl) hw (fr_pre hfr (hframe_rf [] _) (by decide +kernel)) trivial (fun x1 ws1 hw1 hf1 e1 => k_pc 405 rfl ?_)
      refine k_al c (hd 12 405 _ _ rfl) (by rfl) (k_pc 406 rfl ?_)
      refine k_al c (hd 13 406 _ _ rfl) (by rfl) (k_pc 407 rfl ?_)
      refine k_il c (hd 14 407 _ _ rfl) (by rfl) (k_pc 408 rfl ?_)
      refine k_ic c (hd 15 408 _ _ rfl) (v := 1) (by decide) (k_pc 409 rfl ?_)
      refine k_addE c (hd 16 409 _ _ rfl) (k_pc 410 rfl ?_)
      refine k_sldE C (lw_in h0 h1 C.2.2.2.2.1 (by decide)) ea1 (hd 17 410 _ _ rfl) (k_pc 411 rfl ?_)
      refine k_al c (hd 18 411 _ _ rfl) (by rfl) (k_pc 412 rfl ?_)
      refine k_il c (hd 19 412 _ _ rfl) (by rfl) (k_pc 413 rfl ?_)
      refine k_ic c (hd 20 413 _ _ rfl) (v := 2) (by decide) (k_pc 414 rfl ?_)
      refine k_addE c (hd 21 414 _ _ rfl) (k_pc 415 rfl ?_)
      refine k_sldE C (lw_in h0 h1 C.2.2.2.2.1 (by decide)) ea2 (hd 22 415 _ _ rfl) (k_pc 416 rfl ?_)
      refine k_callC C (M := q80_M) (rf_metV_of (q80_met hG)) (-1) (by decide +kernel) (by decide +kernel) (wlkV (lkL_40 hG) _ rfl rfl) (j := 114) (by decide +kernel) ⟨Nat.le_of_ble_eq_true rfl, Nat.le_of_ble_eq_true rfl⟩ (hd 23 416 _ _ rfl) [.int a1, .int a2] (rest := [.int x1]) (by rfl) ⟨⟨114, by decide, rfl⟩, ⟨_, rfl, rf_in_top _, trivial⟩, ⟨_, rfl, rf_in1 (by omega) (by omega), trivial⟩, trivial⟩ (Nat.le_of_ble_eq_true rfl) hw1 (fr_pre hfr hf1 (by decide +kernel)) trivial (fun x2 ws2 hw2 hf2 e2 => k_pc 419 rfl ?_)
      exact k_ceq c (hd 24 419 _ _ rfl) (tgt := 1413) (by decide) (Int32.toInt_inj.mp (e1.trans e2.symm)) (KK _)
  · skip
    refine k_al c (hd 0 391 _ _ rfl) (by rfl) (k_pc 392 rfl ?_)
    refine k_al c (hd 1 392 _ _ rfl) (by rfl) (k_pc 393 rfl ?_)
    refine k_il c (hd 2 393 _ _ rfl) (by rfl) (k_pc 394 rfl ?_)
    refine k_ic c (hd 3 394 _ _ rfl) (v := 1) (by decide) (k_pc 395 rfl ?_)
    refine k_addE c (hd 4 395 _ _ rfl) (k_pc 396 rfl ?_)
    refine k_sldE C (lw_in h0 h1 C.2.2.2.2.1 (by decide)) ea1 (hd 5 396 _ _ rfl) (k_pc 397 rfl ?_)
    refine k_al c (hd 6 397 _ _ rfl) (by rfl) (k_pc 398 rfl ?_)
    refine k_il c (hd 7 398 _ _ rfl) (by rfl) (k_pc 399 rfl ?_)
    refine k_ic c (hd 8 399 _ _ rfl) (v := 2) (by decide) (k_pc 400 rfl ?_)
    refine k_addE c (hd 9 400 _ _ rfl) (k_pc 401 rfl ?_)
    refine k_sldE C (lw_in h0 h1 C.2.2.2.2.1 (by decide)) ea2 (hd 10 401 _ _ rfl) (k_pc 402 rfl ?_)
    refine k_callC C (M := q43_M) (q43_met hG) (-1) (by decide +kernel) (by decide +kernel) (wlkV (lkL_37 hG) _ rfl rfl) (j := 70) (by decide +kernel) ⟨Nat.le_of_ble_eq_true rfl, Nat.le_of_ble_eq_true rfl⟩ (hd 11 402 _ _ rfl) [.int a1, .int a2] (rest := []) (by rfl) ⟨⟨70, by decide, rfl⟩, ⟨_, rfl, rf_in_top _, trivial⟩, ⟨_, rfl, rf_in_top _, trivial⟩, trivial⟩ (Nat.le_of_ble_eq_true rfl) hw (fr_pre hfr (hframe_rf [] _) (by decide +kernel)) ⟨_, rfl, ⟨fun h => absurd h hcb, fun h => absurd h (by decide)⟩⟩ (fun x1 ws1 hw1 hf1 e1 => k_pc 405 rfl ?_)
    refine k_al c (hd 12 405 _ _ rfl) (by rfl) (k_pc 406 rfl ?_)
    refine k_al c (hd 13 406 _ _ rfl) (by rfl) (k_pc 407 rfl ?_)
    refine k_il c (hd 14 407 _ _ rfl) (by rfl) (k_pc 408 rfl ?_)
    refine k_ic c (hd 15 408 _ _ rfl) (v := 1) (by decide) (k_pc 409 rfl ?_)
    refine k_addE c (hd 16 409 _ _ rfl) (k_pc 410 rfl ?_)
    refine k_sldE C (lw_in h0 h1 C.2.2.2.2.1 (by decide)) ea1 (hd 17 410 _ _ rfl) (k_pc 411 rfl ?_)
    refine k_al c (hd 18 411 _ _ rfl) (by rfl) (k_pc 412 rfl ?_)
    refine k_il c (hd 19 412 _ _ rfl) (by rfl) (k_pc 413 rfl ?_)
    refine k_ic c (hd 20 413 _ _ rfl) (v := 2) (by decide) (k_pc 414 rfl ?_)
    refine k_addE c (hd 21 414 _ _ rfl) (k_pc 415 rfl ?_)
    refine k_sldE C (lw_in h0 h1 C.2.2.2.2.1 (by decide)) ea2 (hd 22 415 _ _ rfl) (k_pc 416 rfl ?_)
    refine k_callC C (M := q44_M) (q44_met hG) (-1) (by decide +kernel) (by decide +kernel) (wlkV (lkL_40 hG) _ rfl rfl) (j := 114) (by decide +kernel) ⟨Nat.le_of_ble_eq_true rfl, Nat.le_of_ble_eq_true rfl⟩ (hd 23 416 _ _ rfl) [.int a1, .int a2] (rest := [.int x1]) (by rfl) ⟨⟨114, by decide, rfl⟩, ⟨_, rfl, rf_in_top _, trivial⟩, ⟨_, rfl, rf_in_top _, trivial⟩, trivial⟩ (Nat.le_of_ble_eq_true rfl) hw1 (fr_pre hfr hf1 (by decide +kernel)) ⟨_, rfl, ⟨fun h => absurd h hcb, fun h => absurd h (by decide)⟩⟩ (fun x2 ws2 hw2 hf2 e2 => k_pc 419 rfl ?_)
    exact k_ceq c (hd 24 419 _ _ rfl) (tgt := 1413) (by decide) (Int32.toInt_inj.mp (e1.trans e2.symm)) (KK _)
def ddL6 : List (Nat × Instr × Nat) := [(424, .aload_n 1, 1), (425, .aload_n 0, 1), (426, .iload_n 3, 1), (427, .iconst 1, 1), (428, .iadd, 1), (429, .iaload, 1), (430, .invokevirtual 41, 3), (433, .aload_n 2, 1), (434, .aload_n 0, 1), (435, .iload_n 3, 1), (436, .iconst 1, 1), (437, .iadd, 1), (438, .iaload, 1), (439, .invokevirtual 44, 3), (442, .if_icmp .eq 971, 3), (445, .iconst 0, 1), (446, .ireturn, 1)]
set_option maxRecDepth 100000 in
theorem dkL6 : rf_decs code ddL6 := rf_decs_of (by decide +kernel)
set_option maxHeartbeats 16000000 in
set_option maxRecDepth 100000 in
theorem lw_case6 {X : rfX} {G : rfG} {b Ln : Nat} {sc : Nat → Int32} {n sl : Nat} (C : lwC X G b Ln sc n sl) {i : Int32} (h0 : 0 ≤ i.toInt) (h1 : i.toInt + 5 < (Ln : Int)) (KK : ∀ ws', kW X n sl 1413 [(3, .int i), (2, .ref (G.2.1.1 114)), (1, .ref (G.2.1.1 70)), (0, .ref b)] [] ws') {ws : va_W} (hw : rf_world G.2.1.1 G.2.1.2.1 G.2.1.2.2.1 G.2.1.2.2.2 ws) (hfr : frOK (hv ws)) : kW X n sl 424 [(3, .int i), (2, .ref (G.2.1.1 114)), (1, .ref (G.2.1.1 70)), (0, .ref b)] [] ws := by
  have hG := C.1
  have c := C.2.2.1
  have hd : ∀ n pc i len, ddL6[n]? = some (pc, i, len) → decode code pc = .ok (i, len) := fun n pc i len h => hdk dkL6 n pc i len h
  obtain ⟨a1, ea1⟩ : ∃ a, sc (i + 1).toNatClampNeg = a := ⟨_, rfl⟩
  have r1 : -2147483648 ≤ a1.toInt ∧ a1.toInt ≤ 2147483647 := ⟨(rf_in_top a1).1, (rf_in_top a1).2.1⟩
  refine k_al c (hd 0 424 _ _ rfl) (by rfl) (k_pc 425 rfl ?_)
  refine k_al c (hd 1 425 _ _ rfl) (by rfl) (k_pc 426 rfl ?_)
  refine k_il c (hd 2 426 _ _ rfl) (by rfl) (k_pc 427 rfl ?_)
  refine k_ic c (hd 3 427 _ _ rfl) (v := 1) (by decide) (k_pc 428 rfl ?_)
  refine k_addE c (hd 4 428 _ _ rfl) (k_pc 429 rfl ?_)
  refine k_sldE C (lw_in h0 h1 C.2.2.2.2.1 (by decide)) ea1 (hd 5 429 _ _ rfl) (k_pc 430 rfl ?_)
  refine k_callC C (M := q81_M) (rf_metV_of (q81_met hG)) (-1) (by decide +kernel) (by decide +kernel) (wlkV (lkL_41 hG) _ rfl rfl) (j := 70) (by decide +kernel) ⟨Nat.le_of_ble_eq_true rfl, Nat.le_of_ble_eq_true rfl⟩ (hd 6 430 _ _ rfl) [.int a1] (rest := []) (by rfl) ⟨⟨70, by decide, rfl⟩, ⟨_, rfl, rf_in_top _, trivial⟩, trivial⟩ (Nat.le_of_ble_eq_true rfl) hw (fr_pre hfr (hframe_rf [] _) (by decide +kernel)) trivial (fun x1 ws1 hw1 hf1 e1 => k_pc 433 rfl ?_)
  refine k_al c (hd 7 433 _ _ rfl) (by rfl) (k_pc 434 rfl ?_)
  refine k_al c (hd 8 434 _ _ rfl) (by rfl) (k_pc 435 rfl ?_)
  refine k_il c (hd 9 435 _ _ rfl) (by rfl) (k_pc 436 rfl ?_)
  refine k_ic c (hd 10 436 _ _ rfl) (v := 1) (by decide) (k_pc 437 rfl ?_)
  refine k_addE c (hd 11 437 _ _ rfl) (k_pc 438 rfl ?_)
  refine k_sldE C (lw_in h0 h1 C.2.2.2.2.1 (by decide)) ea1 (hd 12 438 _ _ rfl) (k_pc 439 rfl ?_)
  refine k_callC C (M := q82_M) (rf_metV_of (q82_met hG)) (-1) (by decide +kernel) (by decide +kernel) (wlkV (lkL_44 hG) _ rfl rfl) (j := 114) (by decide +kernel) ⟨Nat.le_of_ble_eq_true rfl, Nat.le_of_ble_eq_true rfl⟩ (hd 13 439 _ _ rfl) [.int a1] (rest := [.int x1]) (by rfl) ⟨⟨114, by decide, rfl⟩, ⟨_, rfl, rf_in_top _, trivial⟩, trivial⟩ (Nat.le_of_ble_eq_true rfl) hw1 (fr_pre hfr hf1 (by decide +kernel)) trivial (fun x2 ws2 hw2 hf2 e2 => k_pc 442 rfl ?_)
  exact k_ceq c (hd 14 442 _ _ rfl) (tgt := 1413) (by decide) (Int32.toInt_inj.mp (e1.trans e2.symm)) (KK _)
def ddL7 : List (Nat × Instr × Nat) := [(447, .aload_n 1, 1), (448, .aload_n 0, 1), (449, .iload_n 3, 1), (450, .iconst 1, 1), (451, .iadd, 1), (452, .iaload, 1), (453, .invokevirtual 45, 3), (456, .aload_n 2, 1), (457, .aload_n 0, 1), (458, .iload_n 3, 1), (459, .iconst 1, 1), (460, .iadd, 1), (461, .iaload, 1), (462, .invokevirtual 48, 3), (465, .if_icmp .eq 948, 3), (468, .iconst 0, 1), (469, .ireturn, 1)]
set_option maxRecDepth 100000 in
theorem dkL7 : rf_decs code ddL7 := rf_decs_of (by decide +kernel)
set_option maxHeartbeats 16000000 in
set_option maxRecDepth 100000 in
theorem lw_case7 {X : rfX} {G : rfG} {b Ln : Nat} {sc : Nat → Int32} {n sl : Nat} (C : lwC X G b Ln sc n sl) {i : Int32} (h0 : 0 ≤ i.toInt) (h1 : i.toInt + 5 < (Ln : Int)) (KK : ∀ ws', kW X n sl 1413 [(3, .int i), (2, .ref (G.2.1.1 114)), (1, .ref (G.2.1.1 70)), (0, .ref b)] [] ws') {ws : va_W} (hw : rf_world G.2.1.1 G.2.1.2.1 G.2.1.2.2.1 G.2.1.2.2.2 ws) (hfr : frOK (hv ws)) : kW X n sl 447 [(3, .int i), (2, .ref (G.2.1.1 114)), (1, .ref (G.2.1.1 70)), (0, .ref b)] [] ws := by
  have hG := C.1
  have c := C.2.2.1
  have hd : ∀ n pc i len, ddL7[n]? = some (pc, i, len) → decode code pc = .ok (i, len) := fun n pc i len h => hdk dkL7 n pc i len h
  obtain ⟨a1, ea1⟩ : ∃ a, sc (i + 1).toNatClampNeg = a := ⟨_, rfl⟩
  have r1 : -2147483648 ≤ a1.toInt ∧ a1.toInt ≤ 2147483647 := ⟨(rf_in_top a1).1, (rf_in_top a1).2.1⟩
  refine k_al c (hd 0 447 _ _ rfl) (by rfl) (k_pc 448 rfl ?_)
  refine k_al c (hd 1 448 _ _ rfl) (by rfl) (k_pc 449 rfl ?_)
  refine k_il c (hd 2 449 _ _ rfl) (by rfl) (k_pc 450 rfl ?_)
  refine k_ic c (hd 3 450 _ _ rfl) (v := 1) (by decide) (k_pc 451 rfl ?_)
  refine k_addE c (hd 4 451 _ _ rfl) (k_pc 452 rfl ?_)
  refine k_sldE C (lw_in h0 h1 C.2.2.2.2.1 (by decide)) ea1 (hd 5 452 _ _ rfl) (k_pc 453 rfl ?_)
  refine k_callC C (M := q83_M) (rf_metV_of (q83_met hG)) (-1) (by decide +kernel) (by decide +kernel) (wlkV (lkL_45 hG) _ rfl rfl) (j := 70) (by decide +kernel) ⟨Nat.le_of_ble_eq_true rfl, Nat.le_of_ble_eq_true rfl⟩ (hd 6 453 _ _ rfl) [.int a1] (rest := []) (by rfl) ⟨⟨70, by decide, rfl⟩, ⟨_, rfl, rf_in_top _, trivial⟩, trivial⟩ (Nat.le_of_ble_eq_true rfl) hw (fr_pre hfr (hframe_rf [] _) (by decide +kernel)) trivial (fun x1 ws1 hw1 hf1 e1 => k_pc 456 rfl ?_)
  refine k_al c (hd 7 456 _ _ rfl) (by rfl) (k_pc 457 rfl ?_)
  refine k_al c (hd 8 457 _ _ rfl) (by rfl) (k_pc 458 rfl ?_)
  refine k_il c (hd 9 458 _ _ rfl) (by rfl) (k_pc 459 rfl ?_)
  refine k_ic c (hd 10 459 _ _ rfl) (v := 1) (by decide) (k_pc 460 rfl ?_)
  refine k_addE c (hd 11 460 _ _ rfl) (k_pc 461 rfl ?_)
  refine k_sldE C (lw_in h0 h1 C.2.2.2.2.1 (by decide)) ea1 (hd 12 461 _ _ rfl) (k_pc 462 rfl ?_)
  refine k_callC C (M := q84_M) (rf_metV_of (q84_met hG)) (-1) (by decide +kernel) (by decide +kernel) (wlkV (lkL_48 hG) _ rfl rfl) (j := 114) (by decide +kernel) ⟨Nat.le_of_ble_eq_true rfl, Nat.le_of_ble_eq_true rfl⟩ (hd 13 462 _ _ rfl) [.int a1] (rest := [.int x1]) (by rfl) ⟨⟨114, by decide, rfl⟩, ⟨_, rfl, rf_in_top _, trivial⟩, trivial⟩ (Nat.le_of_ble_eq_true rfl) hw1 (fr_pre hfr hf1 (by decide +kernel)) trivial (fun x2 ws2 hw2 hf2 e2 => k_pc 465 rfl ?_)
  exact k_ceq c (hd 14 465 _ _ rfl) (tgt := 1413) (by decide) (Int32.toInt_inj.mp (e1.trans e2.symm)) (KK _)
def ddL8 : List (Nat × Instr × Nat) := [(470, .aload_n 1, 1), (471, .aload_n 0, 1), (472, .iload_n 3, 1), (473, .iconst 1, 1), (474, .iadd, 1), (475, .iaload, 1), (476, .invokevirtual 49, 3), (479, .aload_n 2, 1), (480, .aload_n 0, 1), (481, .iload_n 3, 1), (482, .iconst 1, 1), (483, .iadd, 1), (484, .iaload, 1), (485, .invokevirtual 52, 3), (488, .if_icmp .eq 925, 3), (491, .iconst 0, 1), (492, .ireturn, 1)]
set_option maxRecDepth 100000 in
theorem dkL8 : rf_decs code ddL8 := rf_decs_of (by decide +kernel)
set_option maxHeartbeats 16000000 in
set_option maxRecDepth 100000 in
theorem lw_case8 {X : rfX} {G : rfG} {b Ln : Nat} {sc : Nat → Int32} {n sl : Nat} (C : lwC X G b Ln sc n sl) {i : Int32} (h0 : 0 ≤ i.toInt) (h1 : i.toInt + 5 < (Ln : Int)) (KK : ∀ ws', kW X n sl 1413 [(3, .int i), (2, .ref (G.2.1.1 114)), (1, .ref (G.2.1.1 70)), (0, .ref b)] [] ws') {ws : va_W} (hw : rf_world G.2.1.1 G.2.1.2.1 G.2.1.2.2.1 G.2.1.2.2.2 ws) (hfr : frOK (hv ws)) : kW X n sl 470 [(3, .int i), (2, .ref (G.2.1.1 114)), (1, .ref (G.2.1.1 70)), (0, .ref b)] [] ws := by
  have hG := C.1
  have c := C.2.2.1
  have hd : ∀ n pc i len, ddL8[n]? = some (pc, i, len) → decode code pc = .ok (i, len) := fun n pc i len h => hdk dkL8 n pc i len h
  obtain ⟨a1, ea1⟩ : ∃ a, sc (i + 1).toNatClampNeg = a := ⟨_, rfl⟩
  have r1 : -2147483648 ≤ a1.toInt ∧ a1.toInt ≤ 2147483647 := ⟨(rf_in_top a1).1, (rf_in_top a1).2.1⟩
  by_cases hcb : cbI a1.toInt
  · have ra_ : 0 ≤ a1.toInt ∧ a1.toInt ≤ 387420488 := ⟨hcb.1, hcb.2.1⟩
    refine k_al c (hd 0 470 _ _ rfl) (by rfl) (k_pc 471 rfl ?_)
    refine k_al c (hd 1 471 _ _ rfl) (by rfl) (k_pc 472 rfl ?_)
    refine k_il c (hd 2 472 _ _ rfl) (by rfl) (k_pc 473 rfl ?_)
    refine k_ic c (hd 3 473 _ _ rfl) (v := 1) (by decide) (k_pc 474 rfl ?_)
    refine k_addE c (hd 4 474 _ _ rfl) (k_pc 475 rfl ?_)
    refine k_sldE C (lw_in h0 h1 C.2.2.2.2.1 (by decide)) ea1 (hd 5 475 _ _ rfl) (k_pc 476 rfl ?_)
    refine k_callC C (M := q117_M) (q117_met hG) (-1) (by decide +kernel) (by decide +kernel) (wlkV (lkL_49 hG) _ rfl rfl) (j := 70) (by decide +kernel) ⟨Nat.le_of_ble_eq_true rfl, Nat.le_of_ble_eq_true rfl⟩ (hd 6 476 _ _ rfl) [.int a1] (rest := []) (by rfl) ⟨⟨70, by decide, rfl⟩, ⟨_, rfl, rf_in1 (by omega) (by omega), trivial⟩, trivial⟩ (Nat.le_of_ble_eq_true rfl) hw (fr_pre hfr (hframe_rf [] _) (by decide +kernel)) ⟨_, rfl, ⟨fun _ => rfl, fun _ => hcb⟩⟩ (fun x1 ws1 hw1 hf1 e1 => k_pc 479 rfl ?_)
    refine k_al c (hd 7 479 _ _ rfl) (by rfl) (k_pc 480 rfl ?_)
    refine k_al c (hd 8 480 _ _ rfl) (by rfl) (k_pc 481 rfl ?_)
    refine k_il c (hd 9 481 _ _ rfl) (by rfl) (k_pc 482 rfl ?_)
    refine k_ic c (hd 10 482 _ _ rfl) (v := 1) (by decide) (k_pc 483 rfl ?_)
    refine k_addE c (hd 11 483 _ _ rfl) (k_pc 484 rfl ?_)
    refine k_sldE C (lw_in h0 h1 C.2.2.2.2.1 (by decide)) ea1 (hd 12 484 _ _ rfl) (k_pc 485 rfl ?_)
    refine k_callC C (M := q155_M) (q155_met hG) (-1) (by decide +kernel) (by decide +kernel) (wlkV (lkL_52 hG) _ rfl rfl) (j := 114) (by decide +kernel) ⟨Nat.le_of_ble_eq_true rfl, Nat.le_of_ble_eq_true rfl⟩ (hd 13 485 _ _ rfl) [.int a1] (rest := [.int x1]) (by rfl) ⟨⟨114, by decide, rfl⟩, ⟨_, rfl, rf_in1 (by omega) (by omega), trivial⟩, trivial⟩ (Nat.le_of_ble_eq_true rfl) hw1 (fr_pre hfr hf1 (by decide +kernel)) ⟨_, rfl, ⟨fun _ => rfl, fun _ => hcb⟩⟩ (fun x2 ws2 hw2 hf2 e2 => k_pc 488 rfl ?_)
    exact k_ceq c (hd 14 488 _ _ rfl) (tgt := 1413) (by decide) (Int32.toInt_inj.mp (e1.trans e2.symm)) (KK _)
  · skip
    refine k_al c (hd 0 470 _ _ rfl) (by rfl) (k_pc 471 rfl ?_)
    refine k_al c (hd 1 471 _ _ rfl) (by rfl) (k_pc 472 rfl ?_)
    refine k_il c (hd 2 472 _ _ rfl) (by rfl) (k_pc 473 rfl ?_)
    refine k_ic c (hd 3 473 _ _ rfl) (v := 1) (by decide) (k_pc 474 rfl ?_)
    refine k_addE c (hd 4 474 _ _ rfl) (k_pc 475 rfl ?_)
    refine k_sldE C (lw_in h0 h1 C.2.2.2.2.1 (by decide)) ea1 (hd 5 475 _ _ rfl) (k_pc 476 rfl ?_)
    refine k_callC C (M := q85_M) (q85_met hG) (-2) (by decide +kernel) (by decide +kernel) (wlkV (lkL_49 hG) _ rfl rfl) (j := 70) (by decide +kernel) ⟨Nat.le_of_ble_eq_true rfl, Nat.le_of_ble_eq_true rfl⟩ (hd 6 476 _ _ rfl) [.int a1] (rest := []) (by rfl) ⟨⟨70, by decide, rfl⟩, ⟨_, rfl, rf_in_top _, trivial⟩, trivial⟩ (Nat.le_of_ble_eq_true rfl) hw (fr_pre hfr (hframe_rf [] _) (by decide +kernel)) ⟨_, rfl, ⟨fun h => absurd h hcb, fun h => absurd h (by decide)⟩⟩ (fun x1 ws1 hw1 hf1 e1 => k_pc 479 rfl ?_)
    refine k_al c (hd 7 479 _ _ rfl) (by rfl) (k_pc 480 rfl ?_)
    refine k_al c (hd 8 480 _ _ rfl) (by rfl) (k_pc 481 rfl ?_)
    refine k_il c (hd 9 481 _ _ rfl) (by rfl) (k_pc 482 rfl ?_)
    refine k_ic c (hd 10 482 _ _ rfl) (v := 1) (by decide) (k_pc 483 rfl ?_)
    refine k_addE c (hd 11 483 _ _ rfl) (k_pc 484 rfl ?_)
    refine k_sldE C (lw_in h0 h1 C.2.2.2.2.1 (by decide)) ea1 (hd 12 484 _ _ rfl) (k_pc 485 rfl ?_)
    refine k_callC C (M := q86_M) (q86_met hG) (-2) (by decide +kernel) (by decide +kernel) (wlkV (lkL_52 hG) _ rfl rfl) (j := 114) (by decide +kernel) ⟨Nat.le_of_ble_eq_true rfl, Nat.le_of_ble_eq_true rfl⟩ (hd 13 485 _ _ rfl) [.int a1] (rest := [.int x1]) (by rfl) ⟨⟨114, by decide, rfl⟩, ⟨_, rfl, rf_in_top _, trivial⟩, trivial⟩ (Nat.le_of_ble_eq_true rfl) hw1 (fr_pre hfr hf1 (by decide +kernel)) ⟨_, rfl, ⟨fun h => absurd h hcb, fun h => absurd h (by decide)⟩⟩ (fun x2 ws2 hw2 hf2 e2 => k_pc 488 rfl ?_)
    exact k_ceq c (hd 14 488 _ _ rfl) (tgt := 1413) (by decide) (Int32.toInt_inj.mp (e1.trans e2.symm)) (KK _)
def ddL9 : List (Nat × Instr × Nat) := [(493, .aload_n 1, 1), (494, .invokevirtual 53, 3), (497, .aload_n 2, 1), (498, .invokevirtual 56, 3), (501, .if_icmp .eq 912, 3), (504, .iconst 0, 1), (505, .ireturn, 1)]
set_option maxRecDepth 100000 in
theorem dkL9 : rf_decs code ddL9 := rf_decs_of (by decide +kernel)
set_option maxHeartbeats 16000000 in
set_option maxRecDepth 100000 in
theorem lw_case9 {X : rfX} {G : rfG} {b Ln : Nat} {sc : Nat → Int32} {n sl : Nat} (C : lwC X G b Ln sc n sl) {i : Int32} (h0 : 0 ≤ i.toInt) (h1 : i.toInt + 5 < (Ln : Int)) (KK : ∀ ws', kW X n sl 1413 [(3, .int i), (2, .ref (G.2.1.1 114)), (1, .ref (G.2.1.1 70)), (0, .ref b)] [] ws') {ws : va_W} (hw : rf_world G.2.1.1 G.2.1.2.1 G.2.1.2.2.1 G.2.1.2.2.2 ws) (hfr : frOK (hv ws)) : kW X n sl 493 [(3, .int i), (2, .ref (G.2.1.1 114)), (1, .ref (G.2.1.1 70)), (0, .ref b)] [] ws := by
  have hG := C.1
  have c := C.2.2.1
  have hd : ∀ n pc i len, ddL9[n]? = some (pc, i, len) → decode code pc = .ok (i, len) := fun n pc i len h => hdk dkL9 n pc i len h
  refine k_al c (hd 0 493 _ _ rfl) (by rfl) (k_pc 494 rfl ?_)
  refine k_callC C (M := q156_M) (rf_metV_of (q156_met hG)) (-1) (by decide +kernel) (by decide +kernel) (wlkV (lkL_53 hG) _ rfl rfl) (j := 70) (by decide +kernel) ⟨Nat.le_of_ble_eq_true rfl, Nat.le_of_ble_eq_true rfl⟩ (hd 1 494 _ _ rfl) [] (rest := []) (by rfl) ⟨⟨70, by decide, rfl⟩, trivial⟩ (Nat.le_of_ble_eq_true rfl) hw (fr_pre hfr (hframe_rf [] _) (by decide +kernel)) trivial (fun x1 ws1 hw1 hf1 e1 => k_pc 497 rfl ?_)
  refine k_al c (hd 2 497 _ _ rfl) (by rfl) (k_pc 498 rfl ?_)
  refine k_callC C (M := q157_M) (rf_metV_of (q157_met hG)) (-1) (by decide +kernel) (by decide +kernel) (wlkV (lkL_56 hG) _ rfl rfl) (j := 114) (by decide +kernel) ⟨Nat.le_of_ble_eq_true rfl, Nat.le_of_ble_eq_true rfl⟩ (hd 3 498 _ _ rfl) [] (rest := [.int x1]) (by rfl) ⟨⟨114, by decide, rfl⟩, trivial⟩ (Nat.le_of_ble_eq_true rfl) hw1 (fr_pre hfr hf1 (by decide +kernel)) trivial (fun x2 ws2 hw2 hf2 e2 => k_pc 501 rfl ?_)
  exact k_ceq c (hd 4 501 _ _ rfl) (tgt := 1413) (by decide) (Int32.toInt_inj.mp (e1.trans e2.symm)) (KK _)
def ddL10 : List (Nat × Instr × Nat) := [(506, .aload_n 1, 1), (507, .invokevirtual 57, 3), (510, .aload_n 2, 1), (511, .invokevirtual 61, 3), (514, .if_icmp .eq 899, 3), (517, .iconst 0, 1), (518, .ireturn, 1)]
set_option maxRecDepth 100000 in
theorem dkL10 : rf_decs code ddL10 := rf_decs_of (by decide +kernel)
set_option maxHeartbeats 16000000 in
set_option maxRecDepth 100000 in
theorem lw_case10 {X : rfX} {G : rfG} {b Ln : Nat} {sc : Nat → Int32} {n sl : Nat} (C : lwC X G b Ln sc n sl) {i : Int32} (h0 : 0 ≤ i.toInt) (h1 : i.toInt + 5 < (Ln : Int)) (KK : ∀ ws', kW X n sl 1413 [(3, .int i), (2, .ref (G.2.1.1 114)), (1, .ref (G.2.1.1 70)), (0, .ref b)] [] ws') {ws : va_W} (hw : rf_world G.2.1.1 G.2.1.2.1 G.2.1.2.2.1 G.2.1.2.2.2 ws) (hfr : frOK (hv ws)) : kW X n sl 506 [(3, .int i), (2, .ref (G.2.1.1 114)), (1, .ref (G.2.1.1 70)), (0, .ref b)] [] ws := by
  have hG := C.1
  have c := C.2.2.1
  have hd : ∀ n pc i len, ddL10[n]? = some (pc, i, len) → decode code pc = .ok (i, len) := fun n pc i len h => hdk dkL10 n pc i len h
  refine k_al c (hd 0 506 _ _ rfl) (by rfl) (k_pc 507 rfl ?_)
  refine k_callC C (M := q159_M) (rf_metV_of (q159_met hG)) 0 (by decide +kernel) (by decide +kernel) (wlkV (lkL_57 hG) _ rfl rfl) (j := 70) (by decide +kernel) ⟨Nat.le_of_ble_eq_true rfl, Nat.le_of_ble_eq_true rfl⟩ (hd 1 507 _ _ rfl) [] (rest := []) (by rfl) ⟨⟨70, by decide, rfl⟩, trivial⟩ (Nat.le_of_ble_eq_true rfl) hw (fr_pre hfr (hframe_rf [] _) (by decide +kernel)) trivial (fun x1 ws1 hw1 hf1 e1 => k_pc 510 rfl ?_)
  refine k_al c (hd 2 510 _ _ rfl) (by rfl) (k_pc 511 rfl ?_)
  refine k_callC C (M := q160_M) (rf_metV_of (q160_met hG)) 0 (by decide +kernel) (by decide +kernel) (wlkV (lkL_61 hG) _ rfl rfl) (j := 114) (by decide +kernel) ⟨Nat.le_of_ble_eq_true rfl, Nat.le_of_ble_eq_true rfl⟩ (hd 3 511 _ _ rfl) [] (rest := [.int x1]) (by rfl) ⟨⟨114, by decide, rfl⟩, trivial⟩ (Nat.le_of_ble_eq_true rfl) hw1 (fr_pre hfr hf1 (by decide +kernel)) trivial (fun x2 ws2 hw2 hf2 e2 => k_pc 514 rfl ?_)
  exact k_ceq c (hd 4 514 _ _ rfl) (tgt := 1413) (by decide) (Int32.toInt_inj.mp (e1.trans e2.symm)) (KK _)
def ddL11 : List (Nat × Instr × Nat) := [(519, .aload_n 1, 1), (520, .invokevirtual 62, 3), (523, .aload_n 2, 1), (524, .invokevirtual 65, 3), (527, .if_icmp .eq 886, 3), (530, .iconst 0, 1), (531, .ireturn, 1)]
set_option maxRecDepth 100000 in
theorem dkL11 : rf_decs code ddL11 := rf_decs_of (by decide +kernel)
set_option maxHeartbeats 16000000 in
set_option maxRecDepth 100000 in
theorem lw_case11 {X : rfX} {G : rfG} {b Ln : Nat} {sc : Nat → Int32} {n sl : Nat} (C : lwC X G b Ln sc n sl) {i : Int32} (h0 : 0 ≤ i.toInt) (h1 : i.toInt + 5 < (Ln : Int)) (KK : ∀ ws', kW X n sl 1413 [(3, .int i), (2, .ref (G.2.1.1 114)), (1, .ref (G.2.1.1 70)), (0, .ref b)] [] ws') {ws : va_W} (hw : rf_world G.2.1.1 G.2.1.2.1 G.2.1.2.2.1 G.2.1.2.2.2 ws) (hfr : frOK (hv ws)) : kW X n sl 519 [(3, .int i), (2, .ref (G.2.1.1 114)), (1, .ref (G.2.1.1 70)), (0, .ref b)] [] ws := by
  have hG := C.1
  have c := C.2.2.1
  have hd : ∀ n pc i len, ddL11[n]? = some (pc, i, len) → decode code pc = .ok (i, len) := fun n pc i len h => hdk dkL11 n pc i len h
  refine k_al c (hd 0 519 _ _ rfl) (by rfl) (k_pc 520 rfl ?_)
  refine k_callC C (M := q162_M) (rf_metV_of (q162_met hG)) 0 (by decide +kernel) (by decide +kernel) (wlkV (lkL_62 hG) _ rfl rfl) (j := 70) (by decide +kernel) ⟨Nat.le_of_ble_eq_true rfl, Nat.le_of_ble_eq_true rfl⟩ (hd 1 520 _ _ rfl) [] (rest := []) (by rfl) ⟨⟨70, by decide, rfl⟩, trivial⟩ (Nat.le_of_ble_eq_true rfl) hw (fr_pre hfr (hframe_rf [] _) (by decide +kernel)) trivial (fun x1 ws1 hw1 hf1 e1 => k_pc 523 rfl ?_)
  refine k_al c (hd 2 523 _ _ rfl) (by rfl) (k_pc 524 rfl ?_)
  refine k_callC C (M := q163_M) (rf_metV_of (q163_met hG)) 0 (by decide +kernel) (by decide +kernel) (wlkV (lkL_65 hG) _ rfl rfl) (j := 114) (by decide +kernel) ⟨Nat.le_of_ble_eq_true rfl, Nat.le_of_ble_eq_true rfl⟩ (hd 3 524 _ _ rfl) [] (rest := [.int x1]) (by rfl) ⟨⟨114, by decide, rfl⟩, trivial⟩ (Nat.le_of_ble_eq_true rfl) hw1 (fr_pre hfr hf1 (by decide +kernel)) trivial (fun x2 ws2 hw2 hf2 e2 => k_pc 527 rfl ?_)
  exact k_ceq c (hd 4 527 _ _ rfl) (tgt := 1413) (by decide) (Int32.toInt_inj.mp (e1.trans e2.symm)) (KK _)
def ddL12 : List (Nat × Instr × Nat) := [(532, .aload_n 1, 1), (533, .aload_n 0, 1), (534, .iload_n 3, 1), (535, .iconst 1, 1), (536, .iadd, 1), (537, .iaload, 1), (538, .invokevirtual 66, 3), (541, .aload_n 2, 1), (542, .aload_n 0, 1), (543, .iload_n 3, 1), (544, .iconst 1, 1), (545, .iadd, 1), (546, .iaload, 1), (547, .invokevirtual 69, 3), (550, .if_icmp .eq 863, 3), (553, .iconst 0, 1), (554, .ireturn, 1)]
set_option maxRecDepth 100000 in
theorem dkL12 : rf_decs code ddL12 := rf_decs_of (by decide +kernel)
set_option maxHeartbeats 16000000 in
set_option maxRecDepth 100000 in
theorem lw_case12 {X : rfX} {G : rfG} {b Ln : Nat} {sc : Nat → Int32} {n sl : Nat} (C : lwC X G b Ln sc n sl) {i : Int32} (h0 : 0 ≤ i.toInt) (h1 : i.toInt + 5 < (Ln : Int)) (KK : ∀ ws', kW X n sl 1413 [(3, .int i), (2, .ref (G.2.1.1 114)), (1, .ref (G.2.1.1 70)), (0, .ref b)] [] ws') {ws : va_W} (hw : rf_world G.2.1.1 G.2.1.2.1 G.2.1.2.2.1 G.2.1.2.2.2 ws) (hfr : frOK (hv ws)) : kW X n sl 532 [(3, .int i), (2, .ref (G.2.1.1 114)), (1, .ref (G.2.1.1 70)), (0, .ref b)] [] ws := by
  have hG := C.1
  have c := C.2.2.1
  have hd : ∀ n pc i len, ddL12[n]? = some (pc, i, len) → decode code pc = .ok (i, len) := fun n pc i len h => hdk dkL12 n pc i len h
  obtain ⟨a1, ea1⟩ : ∃ a, sc (i + 1).toNatClampNeg = a := ⟨_, rfl⟩
  have r1 : -2147483648 ≤ a1.toInt ∧ a1.toInt ≤ 2147483647 := ⟨(rf_in_top a1).1, (rf_in_top a1).2.1⟩
  refine k_al c (hd 0 532 _ _ rfl) (by rfl) (k_pc 533 rfl ?_)
  refine k_al c (hd 1 533 _ _ rfl) (by rfl) (k_pc 534 rfl ?_)
  refine k_il c (hd 2 534 _ _ rfl) (by rfl) (k_pc 535 rfl ?_)
  refine k_ic c (hd 3 535 _ _ rfl) (v := 1) (by decide) (k_pc 536 rfl ?_)
  refine k_addE c (hd 4 536 _ _ rfl) (k_pc 537 rfl ?_)
  refine k_sldE C (lw_in h0 h1 C.2.2.2.2.1 (by decide)) ea1 (hd 5 537 _ _ rfl) (k_pc 538 rfl ?_)
  refine k_callC C (M := q164_M) (rf_metV_of (q164_met hG)) (-1) (by decide +kernel) (by decide +kernel) (wlkV (lkL_66 hG) _ rfl rfl) (j := 70) (by decide +kernel) ⟨Nat.le_of_ble_eq_true rfl, Nat.le_of_ble_eq_true rfl⟩ (hd 6 538 _ _ rfl) [.int a1] (rest := []) (by rfl) ⟨⟨70, by decide, rfl⟩, ⟨_, rfl, rf_in_top _, trivial⟩, trivial⟩ (Nat.le_of_ble_eq_true rfl) hw (fr_pre hfr (hframe_rf [] _) (by decide +kernel)) trivial (fun x1 ws1 hw1 hf1 e1 => k_pc 541 rfl ?_)
  refine k_al c (hd 7 541 _ _ rfl) (by rfl) (k_pc 542 rfl ?_)
  refine k_al c (hd 8 542 _ _ rfl) (by rfl) (k_pc 543 rfl ?_)
  refine k_il c (hd 9 543 _ _ rfl) (by rfl) (k_pc 544 rfl ?_)
  refine k_ic c (hd 10 544 _ _ rfl) (v := 1) (by decide) (k_pc 545 rfl ?_)
  refine k_addE c (hd 11 545 _ _ rfl) (k_pc 546 rfl ?_)
  refine k_sldE C (lw_in h0 h1 C.2.2.2.2.1 (by decide)) ea1 (hd 12 546 _ _ rfl) (k_pc 547 rfl ?_)
  refine k_callC C (M := q165_M) (rf_metV_of (q165_met hG)) (-1) (by decide +kernel) (by decide +kernel) (wlkV (lkL_69 hG) _ rfl rfl) (j := 114) (by decide +kernel) ⟨Nat.le_of_ble_eq_true rfl, Nat.le_of_ble_eq_true rfl⟩ (hd 13 547 _ _ rfl) [.int a1] (rest := [.int x1]) (by rfl) ⟨⟨114, by decide, rfl⟩, ⟨_, rfl, rf_in_top _, trivial⟩, trivial⟩ (Nat.le_of_ble_eq_true rfl) hw1 (fr_pre hfr hf1 (by decide +kernel)) trivial (fun x2 ws2 hw2 hf2 e2 => k_pc 550 rfl ?_)
  exact k_ceq c (hd 14 550 _ _ rfl) (tgt := 1413) (by decide) (Int32.toInt_inj.mp (e1.trans e2.symm)) (KK _)
def ddL13 : List (Nat × Instr × Nat) := [(555, .aload_n 1, 1), (556, .aload_n 0, 1), (557, .iload_n 3, 1), (558, .iconst 1, 1), (559, .iadd, 1), (560, .iaload, 1), (561, .aload_n 0, 1), (562, .iload_n 3, 1), (563, .iconst 2, 1), (564, .iadd, 1), (565, .iaload, 1), (566, .invokevirtual 70, 3), (569, .aload_n 2, 1), (570, .aload_n 0, 1), (571, .iload_n 3, 1), (572, .iconst 1, 1), (573, .iadd, 1), (574, .iaload, 1), (575, .aload_n 0, 1), (576, .iload_n 3, 1), (577, .iconst 2, 1), (578, .iadd, 1), (579, .iaload, 1), (580, .invokevirtual 73, 3), (583, .if_icmp .eq 830, 3), (586, .iconst 0, 1), (587, .ireturn, 1)]
set_option maxRecDepth 100000 in
theorem dkL13 : rf_decs code ddL13 := rf_decs_of (by decide +kernel)
set_option maxHeartbeats 16000000 in
set_option maxRecDepth 100000 in
theorem lw_case13 {X : rfX} {G : rfG} {b Ln : Nat} {sc : Nat → Int32} {n sl : Nat} (C : lwC X G b Ln sc n sl) {i : Int32} (h0 : 0 ≤ i.toInt) (h1 : i.toInt + 5 < (Ln : Int)) (KK : ∀ ws', kW X n sl 1413 [(3, .int i), (2, .ref (G.2.1.1 114)), (1, .ref (G.2.1.1 70)), (0, .ref b)] [] ws') {ws : va_W} (hw : rf_world G.2.1.1 G.2.1.2.1 G.2.1.2.2.1 G.2.1.2.2.2 ws) (hfr : frOK (hv ws)) : kW X n sl 555 [(3, .int i), (2, .ref (G.2.1.1 114)), (1, .ref (G.2.1.1 70)), (0, .ref b)] [] ws := by
  have hG := C.1
  have c := C.2.2.1
  have hd : ∀ n pc i len, ddL13[n]? = some (pc, i, len) → decode code pc = .ok (i, len) := fun n pc i len h => hdk dkL13 n pc i len h
  obtain ⟨a1, ea1⟩ : ∃ a, sc (i + 1).toNatClampNeg = a := ⟨_, rfl⟩
  have r1 : -2147483648 ≤ a1.toInt ∧ a1.toInt ≤ 2147483647 := ⟨(rf_in_top a1).1, (rf_in_top a1).2.1⟩
  obtain ⟨a2, ea2⟩ : ∃ a, sc (i + 2).toNatClampNeg = a := ⟨_, rfl⟩
  have r2 : -2147483648 ≤ a2.toInt ∧ a2.toInt ≤ 2147483647 := ⟨(rf_in_top a2).1, (rf_in_top a2).2.1⟩
  refine k_al c (hd 0 555 _ _ rfl) (by rfl) (k_pc 556 rfl ?_)
  refine k_al c (hd 1 556 _ _ rfl) (by rfl) (k_pc 557 rfl ?_)
  refine k_il c (hd 2 557 _ _ rfl) (by rfl) (k_pc 558 rfl ?_)
  refine k_ic c (hd 3 558 _ _ rfl) (v := 1) (by decide) (k_pc 559 rfl ?_)
  refine k_addE c (hd 4 559 _ _ rfl) (k_pc 560 rfl ?_)
  refine k_sldE C (lw_in h0 h1 C.2.2.2.2.1 (by decide)) ea1 (hd 5 560 _ _ rfl) (k_pc 561 rfl ?_)
  refine k_al c (hd 6 561 _ _ rfl) (by rfl) (k_pc 562 rfl ?_)
  refine k_il c (hd 7 562 _ _ rfl) (by rfl) (k_pc 563 rfl ?_)
  refine k_ic c (hd 8 563 _ _ rfl) (v := 2) (by decide) (k_pc 564 rfl ?_)
  refine k_addE c (hd 9 564 _ _ rfl) (k_pc 565 rfl ?_)
  refine k_sldE C (lw_in h0 h1 C.2.2.2.2.1 (by decide)) ea2 (hd 10 565 _ _ rfl) (k_pc 566 rfl ?_)
  refine k_callH C (M := dM_dist) (dp_dist hG) (wlkV (lkL_70 hG) _ rfl rfl) (j := 70) (by decide +kernel) ⟨Nat.le_of_ble_eq_true rfl, Nat.le_of_ble_eq_true rfl⟩ (hd 11 566 _ _ rfl) [.int a1, .int a2] (rest := []) (by rfl) ⟨⟨70, by decide, rfl⟩, ⟨_, rfl, rf_in_top _, trivial⟩, ⟨_, rfl, rf_in_top _, trivial⟩, trivial⟩ (Nat.le_of_ble_eq_true rfl) hw trivial (fun rv1 ws1 hw1 hf1 hp1 => k_pc 569 rfl ?_)
  obtain ⟨b1_, u1_, y1, eb1_, eu1_, er1_, hy1⟩ := hp1
  cases eb1_; cases eu1_; subst er1_
  refine k_al c (hd 12 569 _ _ rfl) (by rfl) (k_pc 570 rfl ?_)
  refine k_al c (hd 13 570 _ _ rfl) (by rfl) (k_pc 571 rfl ?_)
  refine k_il c (hd 14 571 _ _ rfl) (by rfl) (k_pc 572 rfl ?_)
  refine k_ic c (hd 15 572 _ _ rfl) (v := 1) (by decide) (k_pc 573 rfl ?_)
  refine k_addE c (hd 16 573 _ _ rfl) (k_pc 574 rfl ?_)
  refine k_sldE C (lw_in h0 h1 C.2.2.2.2.1 (by decide)) ea1 (hd 17 574 _ _ rfl) (k_pc 575 rfl ?_)
  refine k_al c (hd 18 575 _ _ rfl) (by rfl) (k_pc 576 rfl ?_)
  refine k_il c (hd 19 576 _ _ rfl) (by rfl) (k_pc 577 rfl ?_)
  refine k_ic c (hd 20 577 _ _ rfl) (v := 2) (by decide) (k_pc 578 rfl ?_)
  refine k_addE c (hd 21 578 _ _ rfl) (k_pc 579 rfl ?_)
  refine k_sldE C (lw_in h0 h1 C.2.2.2.2.1 (by decide)) ea2 (hd 22 579 _ _ rfl) (k_pc 580 rfl ?_)
  refine k_callH C (M := dM_mdist) (dp_mdist hG) (wlkV (lkL_73 hG) _ rfl rfl) (j := 114) (by decide +kernel) ⟨Nat.le_of_ble_eq_true rfl, Nat.le_of_ble_eq_true rfl⟩ (hd 23 580 _ _ rfl) [.int a1, .int a2] (rest := [.int y1]) (by rfl) ⟨⟨114, by decide, rfl⟩, ⟨_, rfl, rf_in_top _, trivial⟩, ⟨_, rfl, rf_in_top _, trivial⟩, trivial⟩ (Nat.le_of_ble_eq_true rfl) hw1 trivial (fun rv2 ws2 hw2 hf2 hp2 => k_pc 583 rfl ?_)
  obtain ⟨b2_, u2_, y2, eb2_, eu2_, er2_, hy2⟩ := hp2
  cases eb2_; cases eu2_; subst er2_
  have exy : y1 = y2 := Int32.toInt_inj.mp (by
    rcases hy1 with ⟨p1, p2, p3⟩ | ⟨p1, p3⟩
    · rcases hy2 with ⟨q1, q2, q3⟩ | ⟨q1, q3⟩
      · rw [p3, q3]
      · exact absurd ⟨p1, p2⟩ q1
    · rcases hy2 with ⟨q1, q2, q3⟩ | ⟨q1, q3⟩
      · exact absurd ⟨q1, q2⟩ p1
      · rw [p3, q3])
  exact k_ceq c (hd 24 583 _ _ rfl) (tgt := 1413) (by decide) exy (KK _)
def ddL14 : List (Nat × Instr × Nat) := [(588, .aload_n 1, 1), (589, .aload_n 0, 1), (590, .iload_n 3, 1), (591, .iconst 1, 1), (592, .iadd, 1), (593, .iaload, 1), (594, .invokevirtual 74, 3), (597, .aload_n 2, 1), (598, .aload_n 0, 1), (599, .iload_n 3, 1), (600, .iconst 1, 1), (601, .iadd, 1), (602, .iaload, 1), (603, .invokevirtual 77, 3), (606, .if_icmp .eq 807, 3), (609, .iconst 0, 1), (610, .ireturn, 1)]
set_option maxRecDepth 100000 in
theorem dkL14 : rf_decs code ddL14 := rf_decs_of (by decide +kernel)
set_option maxHeartbeats 16000000 in
set_option maxRecDepth 100000 in
theorem lw_case14 {X : rfX} {G : rfG} {b Ln : Nat} {sc : Nat → Int32} {n sl : Nat} (C : lwC X G b Ln sc n sl) {i : Int32} (h0 : 0 ≤ i.toInt) (h1 : i.toInt + 5 < (Ln : Int)) (KK : ∀ ws', kW X n sl 1413 [(3, .int i), (2, .ref (G.2.1.1 114)), (1, .ref (G.2.1.1 70)), (0, .ref b)] [] ws') {ws : va_W} (hw : rf_world G.2.1.1 G.2.1.2.1 G.2.1.2.2.1 G.2.1.2.2.2 ws) (hfr : frOK (hv ws)) : kW X n sl 588 [(3, .int i), (2, .ref (G.2.1.1 114)), (1, .ref (G.2.1.1 70)), (0, .ref b)] [] ws := by
  have hG := C.1
  have c := C.2.2.1
  have hd : ∀ n pc i len, ddL14[n]? = some (pc, i, len) → decode code pc = .ok (i, len) := fun n pc i len h => hdk dkL14 n pc i len h
  obtain ⟨a1, ea1⟩ : ∃ a, sc (i + 1).toNatClampNeg = a := ⟨_, rfl⟩
  have r1 : -2147483648 ≤ a1.toInt ∧ a1.toInt ≤ 2147483647 := ⟨(rf_in_top a1).1, (rf_in_top a1).2.1⟩
  refine k_al c (hd 0 588 _ _ rfl) (by rfl) (k_pc 589 rfl ?_)
  refine k_al c (hd 1 589 _ _ rfl) (by rfl) (k_pc 590 rfl ?_)
  refine k_il c (hd 2 590 _ _ rfl) (by rfl) (k_pc 591 rfl ?_)
  refine k_ic c (hd 3 591 _ _ rfl) (v := 1) (by decide) (k_pc 592 rfl ?_)
  refine k_addE c (hd 4 592 _ _ rfl) (k_pc 593 rfl ?_)
  refine k_sldE C (lw_in h0 h1 C.2.2.2.2.1 (by decide)) ea1 (hd 5 593 _ _ rfl) (k_pc 594 rfl ?_)
  refine k_callH C (M := fM_forms) (fp_forms hG) (wlkV (lkL_74 hG) _ rfl rfl) (j := 70) (by decide +kernel) ⟨Nat.le_of_ble_eq_true rfl, Nat.le_of_ble_eq_true rfl⟩ (hd 6 594 _ _ rfl) [.int a1] (rest := []) (by rfl) ⟨⟨70, by decide, rfl⟩, ⟨_, rfl, rf_in_top _, trivial⟩, trivial⟩ (Nat.le_of_ble_eq_true rfl) hw ⟨(fr_at hfr 92 rfl), (fr_at hfr 1 rfl), (fr_at hfr 2 rfl)⟩ (fun rv1 ws1 hw1 hf1 hp1 => k_pc 597 rfl ?_)
  obtain ⟨b1_, y1, eb1_, er1_, hy1⟩ := hp1
  cases eb1_; subst er1_
  refine k_al c (hd 7 597 _ _ rfl) (by rfl) (k_pc 598 rfl ?_)
  refine k_al c (hd 8 598 _ _ rfl) (by rfl) (k_pc 599 rfl ?_)
  refine k_il c (hd 9 599 _ _ rfl) (by rfl) (k_pc 600 rfl ?_)
  refine k_ic c (hd 10 600 _ _ rfl) (v := 1) (by decide) (k_pc 601 rfl ?_)
  refine k_addE c (hd 11 601 _ _ rfl) (k_pc 602 rfl ?_)
  refine k_sldE C (lw_in h0 h1 C.2.2.2.2.1 (by decide)) ea1 (hd 12 602 _ _ rfl) (k_pc 603 rfl ?_)
  refine k_callH C (M := gM_forms) (gp_forms hG) (wlkV (lkL_77 hG) _ rfl rfl) (j := 114) (by decide +kernel) ⟨Nat.le_of_ble_eq_true rfl, Nat.le_of_ble_eq_true rfl⟩ (hd 13 603 _ _ rfl) [.int a1] (rest := [.int y1]) (by rfl) ⟨⟨114, by decide, rfl⟩, ⟨_, rfl, rf_in_top _, trivial⟩, trivial⟩ (Nat.le_of_ble_eq_true rfl) hw1 ⟨((congrArg Int32.toInt (hf1 114 28 (by decide) (by rfl))).trans (fr_at hfr 126 rfl)), ((congrArg Int32.toInt (hf1 75 0 (by decide) (by rfl))).trans (fr_at hfr 106 rfl)), ((congrArg Int32.toInt (hf1 76 0 (by decide) (by rfl))).trans (fr_at hfr 107 rfl))⟩ (fun rv2 ws2 hw2 hf2 hp2 => k_pc 606 rfl ?_)
  obtain ⟨b2_, y2, eb2_, er2_, hy2⟩ := hp2
  cases eb2_; subst er2_
  have exy : y1 = y2 := Int32.toInt_inj.mp (by
    rcases hy1 with ⟨p1, f, m, s1, s2, s3⟩ | ⟨p1, p3⟩
    · rcases hy2 with ⟨q1, g, k, t1, t2, t3⟩ | ⟨q1, q3⟩
      · rw [s3, t3, srt_len m k f g s1 t1 (fun x => (s2 x).trans (t2 x).symm)]
      · exact absurd p1 q1
    · rcases hy2 with ⟨q1, g, k, t1, t2, t3⟩ | ⟨q1, q3⟩
      · exact absurd q1 p1
      · rw [p3, q3])
  exact k_ceq c (hd 14 606 _ _ rfl) (tgt := 1413) (by decide) exy (KK _)
def ddL15 : List (Nat × Instr × Nat) := [(611, .aload_n 1, 1), (612, .aload_n 0, 1), (613, .iload_n 3, 1), (614, .iconst 1, 1), (615, .iadd, 1), (616, .iaload, 1), (617, .invokevirtual 78, 3), (620, .aload_n 2, 1), (621, .aload_n 0, 1), (622, .iload_n 3, 1), (623, .iconst 1, 1), (624, .iadd, 1), (625, .iaload, 1), (626, .invokevirtual 81, 3), (629, .if_icmp .eq 784, 3), (632, .iconst 0, 1), (633, .ireturn, 1)]
set_option maxRecDepth 100000 in
theorem dkL15 : rf_decs code ddL15 := rf_decs_of (by decide +kernel)
set_option maxHeartbeats 16000000 in
set_option maxRecDepth 100000 in
theorem lw_case15 {X : rfX} {G : rfG} {b Ln : Nat} {sc : Nat → Int32} {n sl : Nat} (C : lwC X G b Ln sc n sl) {i : Int32} (h0 : 0 ≤ i.toInt) (h1 : i.toInt + 5 < (Ln : Int)) (KK : ∀ ws', kW X n sl 1413 [(3, .int i), (2, .ref (G.2.1.1 114)), (1, .ref (G.2.1.1 70)), (0, .ref b)] [] ws') {ws : va_W} (hw : rf_world G.2.1.1 G.2.1.2.1 G.2.1.2.2.1 G.2.1.2.2.2 ws) (hfr : frOK (hv ws)) : kW X n sl 611 [(3, .int i), (2, .ref (G.2.1.1 114)), (1, .ref (G.2.1.1 70)), (0, .ref b)] [] ws := by
  have hG := C.1
  have c := C.2.2.1
  have hd : ∀ n pc i len, ddL15[n]? = some (pc, i, len) → decode code pc = .ok (i, len) := fun n pc i len h => hdk dkL15 n pc i len h
  obtain ⟨a1, ea1⟩ : ∃ a, sc (i + 1).toNatClampNeg = a := ⟨_, rfl⟩
  have r1 : -2147483648 ≤ a1.toInt ∧ a1.toInt ≤ 2147483647 := ⟨(rf_in_top a1).1, (rf_in_top a1).2.1⟩
  refine k_al c (hd 0 611 _ _ rfl) (by rfl) (k_pc 612 rfl ?_)
  refine k_al c (hd 1 612 _ _ rfl) (by rfl) (k_pc 613 rfl ?_)
  refine k_il c (hd 2 613 _ _ rfl) (by rfl) (k_pc 614 rfl ?_)
  refine k_ic c (hd 3 614 _ _ rfl) (v := 1) (by decide) (k_pc 615 rfl ?_)
  refine k_addE c (hd 4 615 _ _ rfl) (k_pc 616 rfl ?_)
  refine k_sldE C (lw_in h0 h1 C.2.2.2.2.1 (by decide)) ea1 (hd 5 616 _ _ rfl) (k_pc 617 rfl ?_)
  refine k_callH C (M := fM_bucket) (fp_bucket hG) (wlkV (lkL_78 hG) _ rfl rfl) (j := 70) (by decide +kernel) ⟨Nat.le_of_ble_eq_true rfl, Nat.le_of_ble_eq_true rfl⟩ (hd 6 617 _ _ rfl) [.int a1] (rest := []) (by rfl) ⟨⟨70, by decide, rfl⟩, ⟨_, rfl, rf_in_top _, trivial⟩, trivial⟩ (Nat.le_of_ble_eq_true rfl) hw ⟨(fr_at hfr 7 rfl), (fr_at hfr 3 rfl)⟩ (fun rv1 ws1 hw1 hf1 hp1 => k_pc 620 rfl ?_)
  obtain ⟨b1_, y1, eb1_, er1_, hy1⟩ := hp1
  cases eb1_; subst er1_
  refine k_al c (hd 7 620 _ _ rfl) (by rfl) (k_pc 621 rfl ?_)
  refine k_al c (hd 8 621 _ _ rfl) (by rfl) (k_pc 622 rfl ?_)
  refine k_il c (hd 9 622 _ _ rfl) (by rfl) (k_pc 623 rfl ?_)
  refine k_ic c (hd 10 623 _ _ rfl) (v := 1) (by decide) (k_pc 624 rfl ?_)
  refine k_addE c (hd 11 624 _ _ rfl) (k_pc 625 rfl ?_)
  refine k_sldE C (lw_in h0 h1 C.2.2.2.2.1 (by decide)) ea1 (hd 12 625 _ _ rfl) (k_pc 626 rfl ?_)
  refine k_callH C (M := gM_bucket) (gp_bucket hG) (wlkV (lkL_81 hG) _ rfl rfl) (j := 114) (by decide +kernel) ⟨Nat.le_of_ble_eq_true rfl, Nat.le_of_ble_eq_true rfl⟩ (hd 13 626 _ _ rfl) [.int a1] (rest := [.int y1]) (by rfl) ⟨⟨114, by decide, rfl⟩, ⟨_, rfl, rf_in_top _, trivial⟩, trivial⟩ (Nat.le_of_ble_eq_true rfl) hw1 ⟨((congrArg Int32.toInt (hf1 114 28 (by decide) (by rfl))).trans (fr_at hfr 126 rfl)), ((congrArg Int32.toInt (hf1 80 0 (by decide) (by rfl))).trans (fr_at hfr 111 rfl)), ((congrArg Int32.toInt (hf1 77 0 (by decide) (by rfl))).trans (fr_at hfr 108 rfl))⟩ (fun rv2 ws2 hw2 hf2 hp2 => k_pc 629 rfl ?_)
  obtain ⟨b2_, y2, eb2_, er2_, hy2⟩ := hp2
  cases eb2_; subst er2_
  have exy : y1 = y2 := Int32.toInt_inj.mp (by
    rcases hy1 with ⟨p1, p3⟩ | ⟨p1, p3⟩
    · rcases hy2 with ⟨q1, q3⟩ | ⟨q1, q3⟩
      · rw [p3, q3]
      · exact absurd p1 q1
    · rcases hy2 with ⟨q1, q3⟩ | ⟨q1, q3⟩
      · exact absurd q1 p1
      · rw [p3, q3])
  exact k_ceq c (hd 14 629 _ _ rfl) (tgt := 1413) (by decide) exy (KK _)
def ddL16 : List (Nat × Instr × Nat) := [(634, .aload_n 1, 1), (635, .aload_n 0, 1), (636, .iload_n 3, 1), (637, .iconst 1, 1), (638, .iadd, 1), (639, .iaload, 1), (640, .aload_n 0, 1), (641, .iload_n 3, 1), (642, .iconst 2, 1), (643, .iadd, 1), (644, .iaload, 1), (645, .invokevirtual 82, 3), (648, .aload_n 2, 1), (649, .aload_n 0, 1), (650, .iload_n 3, 1), (651, .iconst 1, 1), (652, .iadd, 1), (653, .iaload, 1), (654, .aload_n 0, 1), (655, .iload_n 3, 1), (656, .iconst 2, 1), (657, .iadd, 1), (658, .iaload, 1), (659, .invokevirtual 85, 3), (662, .if_icmp .eq 751, 3), (665, .iconst 0, 1), (666, .ireturn, 1)]
set_option maxRecDepth 100000 in
theorem dkL16 : rf_decs code ddL16 := rf_decs_of (by decide +kernel)
set_option maxHeartbeats 16000000 in
set_option maxRecDepth 100000 in
theorem lw_case16 {X : rfX} {G : rfG} {b Ln : Nat} {sc : Nat → Int32} {n sl : Nat} (C : lwC X G b Ln sc n sl) {i : Int32} (h0 : 0 ≤ i.toInt) (h1 : i.toInt + 5 < (Ln : Int)) (KK : ∀ ws', kW X n sl 1413 [(3, .int i), (2, .ref (G.2.1.1 114)), (1, .ref (G.2.1.1 70)), (0, .ref b)] [] ws') {ws : va_W} (hw : rf_world G.2.1.1 G.2.1.2.1 G.2.1.2.2.1 G.2.1.2.2.2 ws) (hfr : frOK (hv ws)) : kW X n sl 634 [(3, .int i), (2, .ref (G.2.1.1 114)), (1, .ref (G.2.1.1 70)), (0, .ref b)] [] ws := by
  have hG := C.1
  have c := C.2.2.1
  have hd : ∀ n pc i len, ddL16[n]? = some (pc, i, len) → decode code pc = .ok (i, len) := fun n pc i len h => hdk dkL16 n pc i len h
  obtain ⟨a1, ea1⟩ : ∃ a, sc (i + 1).toNatClampNeg = a := ⟨_, rfl⟩
  have r1 : -2147483648 ≤ a1.toInt ∧ a1.toInt ≤ 2147483647 := ⟨(rf_in_top a1).1, (rf_in_top a1).2.1⟩
  obtain ⟨a2, ea2⟩ : ∃ a, sc (i + 2).toNatClampNeg = a := ⟨_, rfl⟩
  have r2 : -2147483648 ≤ a2.toInt ∧ a2.toInt ≤ 2147483647 := ⟨(rf_in_top a2).1, (rf_in_top a2).2.1⟩
  by_cases hcb : cbI a1.toInt
  · have ra_ : 0 ≤ a1.toInt ∧ a1.toInt ≤ 387420488 := ⟨hcb.1, hcb.2.1⟩
    have hc_ : (a2.toInt = 0) ∨ (a2.toInt = 1) ∨ (a2.toInt = 2) ∨ (a2.toInt ≤ (-1)) ∨ (3 ≤ a2.toInt) := by omega
    rcases hc_ with hc_ | hc_ | hc_ | hc_ | hc_
    · skip
      refine k_al c (hd 0 634 _ _ rfl) (by rfl) (k_pc 635 rfl ?_)
      refine k_al c (hd 1 635 _ _ rfl) (by rfl) (k_pc 636 rfl ?_)
      refine k_il c (hd 2 636 _ _ rfl) (by rfl) (k_pc 637 rfl ?_)
      refine k_ic c (hd 3 637 _ _ rfl) (v := 1) (by decide) (k_pc 638 rfl ?_)
      refine k_addE c (hd 4 638 _ _ rfl) (k_pc 639 rfl ?_)
      refine k_sldE C (lw_in h0 h1 C.2.2.2.2.1 (by decide)) ea1 (hd 5 639 _ _ rfl) (k_pc 640 rfl ?_)
      refine k_al c (hd 6 640 _ _ rfl) (by rfl) (k_pc 641 rfl ?_)
      refine k_il c (hd 7 641 _ _ rfl) (by rfl) (k_pc 642 rfl ?_)
      refine k_ic c (hd 8 642 _ _ rfl) (v := 2) (by decide) (k_pc 643 rfl ?_)
      refine k_addE c (hd 9 643 _ _ rfl) (k_pc 644 rfl ?_)
      refine k_sldE C (lw_in h0 h1 C.2.2.2.2.1 (by decide)) ea2 (hd 10 644 _ _ rfl) (k_pc 645 rfl ?_)
      refine k_callC C (M := q172_M) (q172_met hG) 0 (by decide +kernel) (by decide +kernel) (wlkV (lkL_82 hG) _ rfl rfl) (j := 70) (by decide +kernel) ⟨Nat.le_of_ble_eq_true rfl, Nat.le_of_ble_eq_true rfl⟩ (hd 11 645 _ _ rfl) [.int a1, .int a2] (rest := []) (by rfl) ⟨⟨70, by decide, rfl⟩, ⟨_, rfl, rf_in1 (by omega) (by omega), trivial⟩, ⟨_, rfl, hcon (by omega), trivial⟩, trivial⟩ (Nat.le_of_ble_eq_true rfl) hw (fr_pre hfr (hframe_rf [] _) (by decide +kernel)) ⟨_, rfl, ⟨fun _ => rfl, fun _ => hcb⟩⟩ (fun x1 ws1 hw1 hf1 e1 => k_pc 648 rfl ?_)
      refine k_al c (hd 12 648 _ _ rfl) (by rfl) (k_pc 649 rfl ?_)
      refine k_al c (hd 13 649 _ _ rfl) (by rfl) (k_pc 650 rfl ?_)
      refine k_il c (hd 14 650 _ _ rfl) (by rfl) (k_pc 651 rfl ?_)
      refine k_ic c (hd 15 651 _ _ rfl) (v := 1) (by decide) (k_pc 652 rfl ?_)
      refine k_addE c (hd 16 652 _ _ rfl) (k_pc 653 rfl ?_)
      refine k_sldE C (lw_in h0 h1 C.2.2.2.2.1 (by decide)) ea1 (hd 17 653 _ _ rfl) (k_pc 654 rfl ?_)
      refine k_al c (hd 18 654 _ _ rfl) (by rfl) (k_pc 655 rfl ?_)
      refine k_il c (hd 19 655 _ _ rfl) (by rfl) (k_pc 656 rfl ?_)
      refine k_ic c (hd 20 656 _ _ rfl) (v := 2) (by decide) (k_pc 657 rfl ?_)
      refine k_addE c (hd 21 657 _ _ rfl) (k_pc 658 rfl ?_)
      refine k_sldE C (lw_in h0 h1 C.2.2.2.2.1 (by decide)) ea2 (hd 22 658 _ _ rfl) (k_pc 659 rfl ?_)
      refine k_callC C (M := q176_M) (q176_met hG) 0 (by decide +kernel) (by decide +kernel) (wlkV (lkL_85 hG) _ rfl rfl) (j := 114) (by decide +kernel) ⟨Nat.le_of_ble_eq_true rfl, Nat.le_of_ble_eq_true rfl⟩ (hd 23 659 _ _ rfl) [.int a1, .int a2] (rest := [.int x1]) (by rfl) ⟨⟨114, by decide, rfl⟩, ⟨_, rfl, rf_in1 (by omega) (by omega), trivial⟩, ⟨_, rfl, hcon (by omega), trivial⟩, trivial⟩ (Nat.le_of_ble_eq_true rfl) hw1 (fr_pre hfr hf1 (by decide +kernel)) ⟨_, rfl, ⟨fun _ => rfl, fun _ => hcb⟩⟩ (fun x2 ws2 hw2 hf2 e2 => k_pc 662 rfl ?_)
      exact k_ceq c (hd 24 662 _ _ rfl) (tgt := 1413) (by decide) (Int32.toInt_inj.mp (e1.trans e2.symm)) (KK _)
    · skip
      refine k_al c (hd 0 634 _ _ rfl) (by rfl) (k_pc 635 rfl ?_)
      refine k_al c (hd 1 635 _ _ rfl) (by rfl) (k_pc 636 rfl ?_)
      refine k_il c (hd 2 636 _ _ rfl) (by rfl) (k_pc 637 rfl ?_)
      refine k_ic c (hd 3 637 _ _ rfl) (v := 1) (by decide) (k_pc 638 rfl ?_)
      refine k_addE c (hd 4 638 _ _ rfl) (k_pc 639 rfl ?_)
      refine k_sldE C (lw_in h0 h1 C.2.2.2.2.1 (by decide)) ea1 (hd 5 639 _ _ rfl) (k_pc 640 rfl ?_)
      refine k_al c (hd 6 640 _ _ rfl) (by rfl) (k_pc 641 rfl ?_)
      refine k_il c (hd 7 641 _ _ rfl) (by rfl) (k_pc 642 rfl ?_)
      refine k_ic c (hd 8 642 _ _ rfl) (v := 2) (by decide) (k_pc 643 rfl ?_)
      refine k_addE c (hd 9 643 _ _ rfl) (k_pc 644 rfl ?_)
      refine k_sldE C (lw_in h0 h1 C.2.2.2.2.1 (by decide)) ea2 (hd 10 644 _ _ rfl) (k_pc 645 rfl ?_)
      refine k_callC C (M := q178_M) (q178_met hG) 0 (by decide +kernel) (by decide +kernel) (wlkV (lkL_82 hG) _ rfl rfl) (j := 70) (by decide +kernel) ⟨Nat.le_of_ble_eq_true rfl, Nat.le_of_ble_eq_true rfl⟩ (hd 11 645 _ _ rfl) [.int a1, .int a2] (rest := []) (by rfl) ⟨⟨70, by decide, rfl⟩, ⟨_, rfl, rf_in1 (by omega) (by omega), trivial⟩, ⟨_, rfl, hcon (by omega), trivial⟩, trivial⟩ (Nat.le_of_ble_eq_true rfl) hw (fr_pre hfr (hframe_rf [] _) (by decide +kernel)) ⟨_, rfl, ⟨fun _ => rfl, fun _ => hcb⟩⟩ (fun x1 ws1 hw1 hf1 e1 => k_pc 648 rfl ?_)
      refine k_al c (hd 12 648 _ _ rfl) (by rfl) (k_pc 649 rfl ?_)
      refine k_al c (hd 13 649 _ _ rfl) (by rfl) (k_pc 650 rfl ?_)
      refine k_il c (hd 14 650 _ _ rfl) (by rfl) (k_pc 651 rfl ?_)
      refine k_ic c (hd 15 651 _ _ rfl) (v := 1) (by decide) (k_pc 652 rfl ?_)
      refine k_addE c (hd 16 652 _ _ rfl) (k_pc 653 rfl ?_)
      refine k_sldE C (lw_in h0 h1 C.2.2.2.2.1 (by decide)) ea1 (hd 17 653 _ _ rfl) (k_pc 654 rfl ?_)
      refine k_al c (hd 18 654 _ _ rfl) (by rfl) (k_pc 655 rfl ?_)
      refine k_il c (hd 19 655 _ _ rfl) (by rfl) (k_pc 656 rfl ?_)
      refine k_ic c (hd 20 656 _ _ rfl) (v := 2) (by decide) (k_pc 657 rfl ?_)
      refine k_addE c (hd 21 657 _ _ rfl) (k_pc 658 rfl ?_)
      refine k_sldE C (lw_in h0 h1 C.2.2.2.2.1 (by decide)) ea2 (hd 22 658 _ _ rfl) (k_pc 659 rfl ?_)
      refine k_callC C (M := q181_M) (q181_met hG) 0 (by decide +kernel) (by decide +kernel) (wlkV (lkL_85 hG) _ rfl rfl) (j := 114) (by decide +kernel) ⟨Nat.le_of_ble_eq_true rfl, Nat.le_of_ble_eq_true rfl⟩ (hd 23 659 _ _ rfl) [.int a1, .int a2] (rest := [.int x1]) (by rfl) ⟨⟨114, by decide, rfl⟩, ⟨_, rfl, rf_in1 (by omega) (by omega), trivial⟩, ⟨_, rfl, hcon (by omega), trivial⟩, trivial⟩ (Nat.le_of_ble_eq_true rfl) hw1 (fr_pre hfr hf1 (by decide +kernel)) ⟨_, rfl, ⟨fun _ => rfl, fun _ => hcb⟩⟩ (fun x2 ws2 hw2 hf2 e2 => k_pc 662 rfl ?_)
      exact k_ceq c (hd 24 662 _ _ rfl) (tgt := 1413) (by decide) (Int32.toInt_inj.mp (e1.trans e2.symm)) (KK _)
    · skip
      refine k_al c (hd 0 634 _ _ rfl) (by rfl) (k_pc 635 rfl ?_)
      refine k_al c (hd 1 635 _ _ rfl) (by rfl) (k_pc 636 rfl ?_)
      refine k_il c (hd 2 636 _ _ rfl) (by rfl) (k_pc 637 rfl ?_)
      refine k_ic c (hd 3 637 _ _ rfl) (v := 1) (by decide) (k_pc 638 rfl ?_)
      refine k_addE c (hd 4 638 _ _ rfl) (k_pc 639 rfl ?_)
      refine k_sldE C (lw_in h0 h1 C.2.2.2.2.1 (by decide)) ea1 (hd 5 639 _ _ rfl) (k_pc 640 rfl ?_)
      refine k_al c (hd 6 640 _ _ rfl) (by rfl) (k_pc 641 rfl ?_)
      refine k_il c (hd 7 641 _ _ rfl) (by rfl) (k_pc 642 rfl ?_)
      refine k_ic c (hd 8 642 _ _ rfl) (v := 2) (by decide) (k_pc 643 rfl ?_)
      refine k_addE c (hd 9 643 _ _ rfl) (k_pc 644 rfl ?_)
      refine k_sldE C (lw_in h0 h1 C.2.2.2.2.1 (by decide)) ea2 (hd 10 644 _ _ rfl) (k_pc 645 rfl ?_)
      refine k_callC C (M := q182_M) (q182_met hG) 0 (by decide +kernel) (by decide +kernel) (wlkV (lkL_82 hG) _ rfl rfl) (j := 70) (by decide +kernel) ⟨Nat.le_of_ble_eq_true rfl, Nat.le_of_ble_eq_true rfl⟩ (hd 11 645 _ _ rfl) [.int a1, .int a2] (rest := []) (by rfl) ⟨⟨70, by decide, rfl⟩, ⟨_, rfl, rf_in1 (by omega) (by omega), trivial⟩, ⟨_, rfl, hcon (by omega), trivial⟩, trivial⟩ (Nat.le_of_ble_eq_true rfl) hw (fr_pre hfr (hframe_rf [] _) (by decide +kernel)) ⟨_, rfl, ⟨fun _ => rfl, fun _ => hcb⟩⟩ (fun x1 ws1 hw1 hf1 e1 => k_pc 648 rfl ?_)
      refine k_al c (hd 12 648 _ _ rfl) (by rfl) (k_pc 649 rfl ?_)
      refine k_al c (hd 13 649 _ _ rfl) (by rfl) (k_pc 650 rfl ?_)
      refine k_il c (hd 14 650 _ _ rfl) (by rfl) (k_pc 651 rfl ?_)
      refine k_ic c (hd 15 651 _ _ rfl) (v := 1) (by decide) (k_pc 652 rfl ?_)
      refine k_addE c (hd 16 652 _ _ rfl) (k_pc 653 rfl ?_)
      refine k_sldE C (lw_in h0 h1 C.2.2.2.2.1 (by decide)) ea1 (hd 17 653 _ _ rfl) (k_pc 654 rfl ?_)
      refine k_al c (hd 18 654 _ _ rfl) (by rfl) (k_pc 655 rfl ?_)
      refine k_il c (hd 19 655 _ _ rfl) (by rfl) (k_pc 656 rfl ?_)
      refine k_ic c (hd 20 656 _ _ rfl) (v := 2) (by decide) (k_pc 657 rfl ?_)
      refine k_addE c (hd 21 657 _ _ rfl) (k_pc 658 rfl ?_)
      refine k_sldE C (lw_in h0 h1 C.2.2.2.2.1 (by decide)) ea2 (hd 22 658 _ _ rfl) (k_pc 659 rfl ?_)
      refine k_callC C (M := q186_M) (q186_met hG) 0 (by decide +kernel) (by decide +kernel) (wlkV (lkL_85 hG) _ rfl rfl) (j := 114) (by decide +kernel) ⟨Nat.le_of_ble_eq_true rfl, Nat.le_of_ble_eq_true rfl⟩ (hd 23 659 _ _ rfl) [.int a1, .int a2] (rest := [.int x1]) (by rfl) ⟨⟨114, by decide, rfl⟩, ⟨_, rfl, rf_in1 (by omega) (by omega), trivial⟩, ⟨_, rfl, hcon (by omega), trivial⟩, trivial⟩ (Nat.le_of_ble_eq_true rfl) hw1 (fr_pre hfr hf1 (by decide +kernel)) ⟨_, rfl, ⟨fun _ => rfl, fun _ => hcb⟩⟩ (fun x2 ws2 hw2 hf2 e2 => k_pc 662 rfl ?_)
      exact k_ceq c (hd 24 662 _ _ rfl) (tgt := 1413) (by decide) (Int32.toInt_inj.mp (e1.trans e2.symm)) (KK _)
    · skip
      refine k_al c (hd 0 634 _ _ rfl) (by rfl) (k_pc 635 rfl ?_)
      refine k_al c (hd 1 635 _ _ rfl) (by rfl) (k_pc 636 rfl ?_)
      refine k_il c (hd 2 636 _ _ rfl) (by rfl) (k_pc 637 rfl ?_)
      refine k_ic c (hd 3 637 _ _ rfl) (v := 1) (by decide) (k_pc 638 rfl ?_)
      refine k_addE c (hd 4 638 _ _ rfl) (k_pc 639 rfl ?_)
      refine k_sldE C (lw_in h0 h1 C.2.2.2.2.1 (by decide)) ea1 (hd 5 639 _ _ rfl) (k_pc 640 rfl ?_)
      refine k_al c (hd 6 640 _ _ rfl) (by rfl) (k_pc 641 rfl ?_)
      refine k_il c (hd 7 641 _ _ rfl) (by rfl) (k_pc 642 rfl ?_)
      refine k_ic c (hd 8 642 _ _ rfl) (v := 2) (by decide) (k_pc 643 rfl ?_)
      refine k_addE c (hd 9 643 _ _ rfl) (k_pc 644 rfl ?_)
      refine k_sldE C (lw_in h0 h1 C.2.2.2.2.1 (by decide)) ea2 (hd 10 644 _ _ rfl) (k_pc 645 rfl ?_)
      refine k_callC C (M := q187_M) (rf_metV_of (q187_met hG)) (-1) (by decide +kernel) (by decide +kernel) (wlkV (lkL_82 hG) _ rfl rfl) (j := 70) (by decide +kernel) ⟨Nat.le_of_ble_eq_true rfl, Nat.le_of_ble_eq_true rfl⟩ (hd 11 645 _ _ rfl) [.int a1, .int a2] (rest := []) (by rfl) ⟨⟨70, by decide, rfl⟩, ⟨_, rfl, rf_in_top _, trivial⟩, ⟨_, rfl, rf_in1 (by omega) (by omega), trivial⟩, trivial⟩ (Nat.le_of_ble_eq_true rfl) hw (fr_pre hfr (hframe_rf [] _) (by decide +kernel)) trivial (fun x1 ws1 hw1 hf1 e1 => k_pc 648 rfl ?_)
      refine k_al c (hd 12 648 _ _ rfl) (by rfl) (k_pc 649 rfl ?_)
      refine k_al c (hd 13 649 _ _ rfl) (by rfl) (k_pc 650 rfl ?_)
      refine k_il c (hd 14 650 _ _ rfl) (by rfl) (k_pc 651 rfl ?_)
      refine k_ic c (hd 15 651 _ _ rfl) (v := 1) (by decide) (k_pc 652 rfl ?_)
      refine k_addE c (hd 16 652 _ _ rfl) (k_pc 653 rfl ?_)
      refine k_sldE C (lw_in h0 h1 C.2.2.2.2.1 (by decide)) ea1 (hd 17 653 _ _ rfl) (k_pc 654 rfl ?_)
      refine k_al c (hd 18 654 _ _ rfl) (by rfl) (k_pc 655 rfl ?_)
      refine k_il c (hd 19 655 _ _ rfl) (by rfl) (k_pc 656 rfl ?_)
      refine k_ic c (hd 20 656 _ _ rfl) (v := 2) (by decide) (k_pc 657 rfl ?_)
      refine k_addE c (hd 21 657 _ _ rfl) (k_pc 658 rfl ?_)
      refine k_sldE C (lw_in h0 h1 C.2.2.2.2.1 (by decide)) ea2 (hd 22 658 _ _ rfl) (k_pc 659 rfl ?_)
      refine k_callC C (M := q189_M) (rf_metV_of (q189_met hG)) (-1) (by decide +kernel) (by decide +kernel) (wlkV (lkL_85 hG) _ rfl rfl) (j := 114) (by decide +kernel) ⟨Nat.le_of_ble_eq_true rfl, Nat.le_of_ble_eq_true rfl⟩ (hd 23 659 _ _ rfl) [.int a1, .int a2] (rest := [.int x1]) (by rfl) ⟨⟨114, by decide, rfl⟩, ⟨_, rfl, rf_in_top _, trivial⟩, ⟨_, rfl, rf_in1 (by omega) (by omega), trivial⟩, trivial⟩ (Nat.le_of_ble_eq_true rfl) hw1 (fr_pre hfr hf1 (by decide +kernel)) trivial (fun x2 ws2 hw2 hf2 e2 => k_pc 662 rfl ?_)
      exact k_ceq c (hd 24 662 _ _ rfl) (tgt := 1413) (by decide) (Int32.toInt_inj.mp (e1.trans e2.symm)) (KK _)
    · skip
      refine k_al c (hd 0 634 _ _ rfl) (by rfl) (k_pc 635 rfl ?_)
      refine k_al c (hd 1 635 _ _ rfl) (by rfl) (k_pc 636 rfl ?_)
      refine k_il c (hd 2 636 _ _ rfl) (by rfl) (k_pc 637 rfl ?_)
      refine k_ic c (hd 3 637 _ _ rfl) (v := 1) (by decide) (k_pc 638 rfl ?_)
      refine k_addE c (hd 4 638 _ _ rfl) (k_pc 639 rfl ?_)
      refine k_sldE C (lw_in h0 h1 C.2.2.2.2.1 (by decide)) ea1 (hd 5 639 _ _ rfl) (k_pc 640 rfl ?_)
      refine k_al c (hd 6 640 _ _ rfl) (by rfl) (k_pc 641 rfl ?_)
      refine k_il c (hd 7 641 _ _ rfl) (by rfl) (k_pc 642 rfl ?_)
      refine k_ic c (hd 8 642 _ _ rfl) (v := 2) (by decide) (k_pc 643 rfl ?_)
      refine k_addE c (hd 9 643 _ _ rfl) (k_pc 644 rfl ?_)
      refine k_sldE C (lw_in h0 h1 C.2.2.2.2.1 (by decide)) ea2 (hd 10 644 _ _ rfl) (k_pc 645 rfl ?_)
      refine k_callC C (M := q190_M) (rf_metV_of (q190_met hG)) (-1) (by decide +kernel) (by decide +kernel) (wlkV (lkL_82 hG) _ rfl rfl) (j := 70) (by decide +kernel) ⟨Nat.le_of_ble_eq_true rfl, Nat.le_of_ble_eq_true rfl⟩ (hd 11 645 _ _ rfl) [.int a1, .int a2] (rest := []) (by rfl) ⟨⟨70, by decide, rfl⟩, ⟨_, rfl, rf_in_top _, trivial⟩, ⟨_, rfl, rf_in1 (by omega) (by omega), trivial⟩, trivial⟩ (Nat.le_of_ble_eq_true rfl) hw (fr_pre hfr (hframe_rf [] _) (by decide +kernel)) trivial (fun x1 ws1 hw1 hf1 e1 => k_pc 648 rfl ?_)
      refine k_al c (hd 12 648 _ _ rfl) (by rfl) (k_pc 649 rfl ?_)
      refine k_al c (hd 13 649 _ _ rfl) (by rfl) (k_pc 650 rfl ?_)
      refine k_il c (hd 14 650 _ _ rfl) (by rfl) (k_pc 651 rfl ?_)
      refine k_ic c (hd 15 651 _ _ rfl) (v := 1) (by decide) (k_pc 652 rfl ?_)
      refine k_addE c (hd 16 652 _ _ rfl) (k_pc 653 rfl ?_)
      refine k_sldE C (lw_in h0 h1 C.2.2.2.2.1 (by decide)) ea1 (hd 17 653 _ _ rfl) (k_pc 654 rfl ?_)
      refine k_al c (hd 18 654 _ _ rfl) (by rfl) (k_pc 655 rfl ?_)
      refine k_il c (hd 19 655 _ _ rfl) (by rfl) (k_pc 656 rfl ?_)
      refine k_ic c (hd 20 656 _ _ rfl) (v := 2) (by decide) (k_pc 657 rfl ?_)
      refine k_addE c (hd 21 657 _ _ rfl) (k_pc 658 rfl ?_)
      refine k_sldE C (lw_in h0 h1 C.2.2.2.2.1 (by decide)) ea2 (hd 22 658 _ _ rfl) (k_pc 659 rfl ?_)
      refine k_callC C (M := q192_M) (rf_metV_of (q192_met hG)) (-1) (by decide +kernel) (by decide +kernel) (wlkV (lkL_85 hG) _ rfl rfl) (j := 114) (by decide +kernel) ⟨Nat.le_of_ble_eq_true rfl, Nat.le_of_ble_eq_true rfl⟩ (hd 23 659 _ _ rfl) [.int a1, .int a2] (rest := [.int x1]) (by rfl) ⟨⟨114, by decide, rfl⟩, ⟨_, rfl, rf_in_top _, trivial⟩, ⟨_, rfl, rf_in1 (by omega) (by omega), trivial⟩, trivial⟩ (Nat.le_of_ble_eq_true rfl) hw1 (fr_pre hfr hf1 (by decide +kernel)) trivial (fun x2 ws2 hw2 hf2 e2 => k_pc 662 rfl ?_)
      exact k_ceq c (hd 24 662 _ _ rfl) (tgt := 1413) (by decide) (Int32.toInt_inj.mp (e1.trans e2.symm)) (KK _)
  · skip
    refine k_al c (hd 0 634 _ _ rfl) (by rfl) (k_pc 635 rfl ?_)
    refine k_al c (hd 1 635 _ _ rfl) (by rfl) (k_pc 636 rfl ?_)
    refine k_il c (hd 2 636 _ _ rfl) (by rfl) (k_pc 637 rfl ?_)
    refine k_ic c (hd 3 637 _ _ rfl) (v := 1) (by decide) (k_pc 638 rfl ?_)
    refine k_addE c (hd 4 638 _ _ rfl) (k_pc 639 rfl ?_)
    refine k_sldE C (lw_in h0 h1 C.2.2.2.2.1 (by decide)) ea1 (hd 5 639 _ _ rfl) (k_pc 640 rfl ?_)
    refine k_al c (hd 6 640 _ _ rfl) (by rfl) (k_pc 641 rfl ?_)
    refine k_il c (hd 7 641 _ _ rfl) (by rfl) (k_pc 642 rfl ?_)
    refine k_ic c (hd 8 642 _ _ rfl) (v := 2) (by decide) (k_pc 643 rfl ?_)
    refine k_addE c (hd 9 643 _ _ rfl) (k_pc 644 rfl ?_)
    refine k_sldE C (lw_in h0 h1 C.2.2.2.2.1 (by decide)) ea2 (hd 10 644 _ _ rfl) (k_pc 645 rfl ?_)
    refine k_callC C (M := q166_M) (q166_met hG) (-1) (by decide +kernel) (by decide +kernel) (wlkV (lkL_82 hG) _ rfl rfl) (j := 70) (by decide +kernel) ⟨Nat.le_of_ble_eq_true rfl, Nat.le_of_ble_eq_true rfl⟩ (hd 11 645 _ _ rfl) [.int a1, .int a2] (rest := []) (by rfl) ⟨⟨70, by decide, rfl⟩, ⟨_, rfl, rf_in_top _, trivial⟩, ⟨_, rfl, rf_in_top _, trivial⟩, trivial⟩ (Nat.le_of_ble_eq_true rfl) hw (fr_pre hfr (hframe_rf [] _) (by decide +kernel)) ⟨_, rfl, ⟨fun h => absurd h hcb, fun h => absurd h (by decide)⟩⟩ (fun x1 ws1 hw1 hf1 e1 => k_pc 648 rfl ?_)
    refine k_al c (hd 12 648 _ _ rfl) (by rfl) (k_pc 649 rfl ?_)
    refine k_al c (hd 13 649 _ _ rfl) (by rfl) (k_pc 650 rfl ?_)
    refine k_il c (hd 14 650 _ _ rfl) (by rfl) (k_pc 651 rfl ?_)
    refine k_ic c (hd 15 651 _ _ rfl) (v := 1) (by decide) (k_pc 652 rfl ?_)
    refine k_addE c (hd 16 652 _ _ rfl) (k_pc 653 rfl ?_)
    refine k_sldE C (lw_in h0 h1 C.2.2.2.2.1 (by decide)) ea1 (hd 17 653 _ _ rfl) (k_pc 654 rfl ?_)
    refine k_al c (hd 18 654 _ _ rfl) (by rfl) (k_pc 655 rfl ?_)
    refine k_il c (hd 19 655 _ _ rfl) (by rfl) (k_pc 656 rfl ?_)
    refine k_ic c (hd 20 656 _ _ rfl) (v := 2) (by decide) (k_pc 657 rfl ?_)
    refine k_addE c (hd 21 657 _ _ rfl) (k_pc 658 rfl ?_)
    refine k_sldE C (lw_in h0 h1 C.2.2.2.2.1 (by decide)) ea2 (hd 22 658 _ _ rfl) (k_pc 659 rfl ?_)
    refine k_callC C (M := q167_M) (q167_met hG) (-1) (by decide +kernel) (by decide +kernel) (wlkV (lkL_85 hG) _ rfl rfl) (j := 114) (by decide +kernel) ⟨Nat.le_of_ble_eq_true rfl, Nat.le_of_ble_eq_true rfl⟩ (hd 23 659 _ _ rfl) [.int a1, .int a2] (rest := [.int x1]) (by rfl) ⟨⟨114, by decide, rfl⟩, ⟨_, rfl, rf_in_top _, trivial⟩, ⟨_, rfl, rf_in_top _, trivial⟩, trivial⟩ (Nat.le_of_ble_eq_true rfl) hw1 (fr_pre hfr hf1 (by decide +kernel)) ⟨_, rfl, ⟨fun h => absurd h hcb, fun h => absurd h (by decide)⟩⟩ (fun x2 ws2 hw2 hf2 e2 => k_pc 662 rfl ?_)
    exact k_ceq c (hd 24 662 _ _ rfl) (tgt := 1413) (by decide) (Int32.toInt_inj.mp (e1.trans e2.symm)) (KK _)
def ddL17 : List (Nat × Instr × Nat) := [(667, .aload_n 1, 1), (668, .aload_n 0, 1), (669, .iload_n 3, 1), (670, .iconst 1, 1), (671, .iadd, 1), (672, .iaload, 1), (673, .aload_n 0, 1), (674, .iload_n 3, 1), (675, .iconst 2, 1), (676, .iadd, 1), (677, .iaload, 1), (678, .invokevirtual 86, 3), (681, .aload_n 2, 1), (682, .aload_n 0, 1), (683, .iload_n 3, 1), (684, .iconst 1, 1), (685, .iadd, 1), (686, .iaload, 1), (687, .aload_n 0, 1), (688, .iload_n 3, 1), (689, .iconst 2, 1), (690, .iadd, 1), (691, .iaload, 1), (692, .invokevirtual 89, 3), (695, .if_icmp .eq 718, 3), (698, .iconst 0, 1), (699, .ireturn, 1)]
set_option maxRecDepth 100000 in
theorem dkL17 : rf_decs code ddL17 := rf_decs_of (by decide +kernel)
set_option maxHeartbeats 16000000 in
set_option maxRecDepth 100000 in
theorem lw_case17 {X : rfX} {G : rfG} {b Ln : Nat} {sc : Nat → Int32} {n sl : Nat} (C : lwC X G b Ln sc n sl) {i : Int32} (h0 : 0 ≤ i.toInt) (h1 : i.toInt + 5 < (Ln : Int)) (KK : ∀ ws', kW X n sl 1413 [(3, .int i), (2, .ref (G.2.1.1 114)), (1, .ref (G.2.1.1 70)), (0, .ref b)] [] ws') {ws : va_W} (hw : rf_world G.2.1.1 G.2.1.2.1 G.2.1.2.2.1 G.2.1.2.2.2 ws) (hfr : frOK (hv ws)) : kW X n sl 667 [(3, .int i), (2, .ref (G.2.1.1 114)), (1, .ref (G.2.1.1 70)), (0, .ref b)] [] ws := by
  have hG := C.1
  have c := C.2.2.1
  have hd : ∀ n pc i len, ddL17[n]? = some (pc, i, len) → decode code pc = .ok (i, len) := fun n pc i len h => hdk dkL17 n pc i len h
  obtain ⟨a1, ea1⟩ : ∃ a, sc (i + 1).toNatClampNeg = a := ⟨_, rfl⟩
  have r1 : -2147483648 ≤ a1.toInt ∧ a1.toInt ≤ 2147483647 := ⟨(rf_in_top a1).1, (rf_in_top a1).2.1⟩
  obtain ⟨a2, ea2⟩ : ∃ a, sc (i + 2).toNatClampNeg = a := ⟨_, rfl⟩
  have r2 : -2147483648 ≤ a2.toInt ∧ a2.toInt ≤ 2147483647 := ⟨(rf_in_top a2).1, (rf_in_top a2).2.1⟩
  by_cases hcb : cbI a1.toInt
  · have ra_ : 0 ≤ a1.toInt ∧ a1.toInt ≤ 387420488 := ⟨hcb.1, hcb.2.1⟩
    have hc_ : (0 ≤ a2.toInt ∧ a2.toInt ≤ 6) ∨ (a2.toInt ≤ (-1)) ∨ (7 ≤ a2.toInt) := by omega
    rcases hc_ with hc_ | hc_ | hc_
    · skip
      refine k_al c (hd 0 667 _ _ rfl) (by rfl) (k_pc 668 rfl ?_)
      refine k_al c (hd 1 668 _ _ rfl) (by rfl) (k_pc 669 rfl ?_)
      refine k_il c (hd 2 669 _ _ rfl) (by rfl) (k_pc 670 rfl ?_)
      refine k_ic c (hd 3 670 _ _ rfl) (v := 1) (by decide) (k_pc 671 rfl ?_)
      refine k_addE c (hd 4 671 _ _ rfl) (k_pc 672 rfl ?_)
      refine k_sldE C (lw_in h0 h1 C.2.2.2.2.1 (by decide)) ea1 (hd 5 672 _ _ rfl) (k_pc 673 rfl ?_)
      refine k_al c (hd 6 673 _ _ rfl) (by rfl) (k_pc 674 rfl ?_)
      refine k_il c (hd 7 674 _ _ rfl) (by rfl) (k_pc 675 rfl ?_)
      refine k_ic c (hd 8 675 _ _ rfl) (v := 2) (by decide) (k_pc 676 rfl ?_)
      refine k_addE c (hd 9 676 _ _ rfl) (k_pc 677 rfl ?_)
      refine k_sldE C (lw_in h0 h1 C.2.2.2.2.1 (by decide)) ea2 (hd 10 677 _ _ rfl) (k_pc 678 rfl ?_)
      refine k_callC C (M := q197_M) (q197_met hG) 0 (by decide +kernel) (by decide +kernel) (wlkV (lkL_86 hG) _ rfl rfl) (j := 70) (by decide +kernel) ⟨Nat.le_of_ble_eq_true rfl, Nat.le_of_ble_eq_true rfl⟩ (hd 11 678 _ _ rfl) [.int a1, .int a2] (rest := []) (by rfl) ⟨⟨70, by decide, rfl⟩, ⟨_, rfl, rf_in1 (by omega) (by omega), trivial⟩, ⟨_, rfl, rf_in1 (by omega) (by omega), trivial⟩, trivial⟩ (Nat.le_of_ble_eq_true rfl) hw (fr_pre hfr (hframe_rf [] _) (by decide +kernel)) ⟨_, rfl, ⟨fun _ => rfl, fun _ => hcb⟩⟩ (fun x1 ws1 hw1 hf1 e1 => k_pc 681 rfl ?_)
      refine k_al c (hd 12 681 _ _ rfl) (by rfl) (k_pc 682 rfl ?_)
      refine k_al c (hd 13 682 _ _ rfl) (by rfl) (k_pc 683 rfl ?_)
      refine k_il c (hd 14 683 _ _ rfl) (by rfl) (k_pc 684 rfl ?_)
      refine k_ic c (hd 15 684 _ _ rfl) (v := 1) (by decide) (k_pc 685 rfl ?_)
      refine k_addE c (hd 16 685 _ _ rfl) (k_pc 686 rfl ?_)
      refine k_sldE C (lw_in h0 h1 C.2.2.2.2.1 (by decide)) ea1 (hd 17 686 _ _ rfl) (k_pc 687 rfl ?_)
      refine k_al c (hd 18 687 _ _ rfl) (by rfl) (k_pc 688 rfl ?_)
      refine k_il c (hd 19 688 _ _ rfl) (by rfl) (k_pc 689 rfl ?_)
      refine k_ic c (hd 20 689 _ _ rfl) (v := 2) (by decide) (k_pc 690 rfl ?_)
      refine k_addE c (hd 21 690 _ _ rfl) (k_pc 691 rfl ?_)
      refine k_sldE C (lw_in h0 h1 C.2.2.2.2.1 (by decide)) ea2 (hd 22 691 _ _ rfl) (k_pc 692 rfl ?_)
      refine k_callC C (M := q202_M) (q202_met hG) 0 (by decide +kernel) (by decide +kernel) (wlkV (lkL_89 hG) _ rfl rfl) (j := 114) (by decide +kernel) ⟨Nat.le_of_ble_eq_true rfl, Nat.le_of_ble_eq_true rfl⟩ (hd 23 692 _ _ rfl) [.int a1, .int a2] (rest := [.int x1]) (by rfl) ⟨⟨114, by decide, rfl⟩, ⟨_, rfl, rf_in1 (by omega) (by omega), trivial⟩, ⟨_, rfl, rf_in1 (by omega) (by omega), trivial⟩, trivial⟩ (Nat.le_of_ble_eq_true rfl) hw1 (fr_pre hfr hf1 (by decide +kernel)) ⟨_, rfl, ⟨fun _ => rfl, fun _ => hcb⟩⟩ (fun x2 ws2 hw2 hf2 e2 => k_pc 695 rfl ?_)
      exact k_ceq c (hd 24 695 _ _ rfl) (tgt := 1413) (by decide) (Int32.toInt_inj.mp (e1.trans e2.symm)) (KK _)
    · skip
      refine k_al c (hd 0 667 _ _ rfl) (by rfl) (k_pc 668 rfl ?_)
      refine k_al c (hd 1 668 _ _ rfl) (by rfl) (k_pc 669 rfl ?_)
      refine k_il c (hd 2 669 _ _ rfl) (by rfl) (k_pc 670 rfl ?_)
      refine k_ic c (hd 3 670 _ _ rfl) (v := 1) (by decide) (k_pc 671 rfl ?_)
      refine k_addE c (hd 4 671 _ _ rfl) (k_pc 672 rfl ?_)
      refine k_sldE C (lw_in h0 h1 C.2.2.2.2.1 (by decide)) ea1 (hd 5 672 _ _ rfl) (k_pc 673 rfl ?_)
      refine k_al c (hd 6 673 _ _ rfl) (by rfl) (k_pc 674 rfl ?_)
      refine k_il c (hd 7 674 _ _ rfl) (by rfl) (k_pc 675 rfl ?_)
      refine k_ic c (hd 8 675 _ _ rfl) (v := 2) (by decide) (k_pc 676 rfl ?_)
      refine k_addE c (hd 9 676 _ _ rfl) (k_pc 677 rfl ?_)
      refine k_sldE C (lw_in h0 h1 C.2.2.2.2.1 (by decide)) ea2 (hd 10 677 _ _ rfl) (k_pc 678 rfl ?_)
      refine k_callC C (M := q204_M) (rf_metV_of (q204_met hG)) (-1) (by decide +kernel) (by decide +kernel) (wlkV (lkL_86 hG) _ rfl rfl) (j := 70) (by decide +kernel) ⟨Nat.le_of_ble_eq_true rfl, Nat.le_of_ble_eq_true rfl⟩ (hd 11 678 _ _ rfl) [.int a1, .int a2] (rest := []) (by rfl) ⟨⟨70, by decide, rfl⟩, ⟨_, rfl, rf_in_top _, trivial⟩, ⟨_, rfl, rf_in1 (by omega) (by omega), trivial⟩, trivial⟩ (Nat.le_of_ble_eq_true rfl) hw (fr_pre hfr (hframe_rf [] _) (by decide +kernel)) trivial (fun x1 ws1 hw1 hf1 e1 => k_pc 681 rfl ?_)
      refine k_al c (hd 12 681 _ _ rfl) (by rfl) (k_pc 682 rfl ?_)
      refine k_al c (hd 13 682 _ _ rfl) (by rfl) (k_pc 683 rfl ?_)
      refine k_il c (hd 14 683 _ _ rfl) (by rfl) (k_pc 684 rfl ?_)
      refine k_ic c (hd 15 684 _ _ rfl) (v := 1) (by decide) (k_pc 685 rfl ?_)
      refine k_addE c (hd 16 685 _ _ rfl) (k_pc 686 rfl ?_)
      refine k_sldE C (lw_in h0 h1 C.2.2.2.2.1 (by decide)) ea1 (hd 17 686 _ _ rfl) (k_pc 687 rfl ?_)
      refine k_al c (hd 18 687 _ _ rfl) (by rfl) (k_pc 688 rfl ?_)
      refine k_il c (hd 19 688 _ _ rfl) (by rfl) (k_pc 689 rfl ?_)
      refine k_ic c (hd 20 689 _ _ rfl) (v := 2) (by decide) (k_pc 690 rfl ?_)
      refine k_addE c (hd 21 690 _ _ rfl) (k_pc 691 rfl ?_)
      refine k_sldE C (lw_in h0 h1 C.2.2.2.2.1 (by decide)) ea2 (hd 22 691 _ _ rfl) (k_pc 692 rfl ?_)
      refine k_callC C (M := q206_M) (rf_metV_of (q206_met hG)) (-1) (by decide +kernel) (by decide +kernel) (wlkV (lkL_89 hG) _ rfl rfl) (j := 114) (by decide +kernel) ⟨Nat.le_of_ble_eq_true rfl, Nat.le_of_ble_eq_true rfl⟩ (hd 23 692 _ _ rfl) [.int a1, .int a2] (rest := [.int x1]) (by rfl) ⟨⟨114, by decide, rfl⟩, ⟨_, rfl, rf_in_top _, trivial⟩, ⟨_, rfl, rf_in1 (by omega) (by omega), trivial⟩, trivial⟩ (Nat.le_of_ble_eq_true rfl) hw1 (fr_pre hfr hf1 (by decide +kernel)) trivial (fun x2 ws2 hw2 hf2 e2 => k_pc 695 rfl ?_)
      exact k_ceq c (hd 24 695 _ _ rfl) (tgt := 1413) (by decide) (Int32.toInt_inj.mp (e1.trans e2.symm)) (KK _)
    · skip
      refine k_al c (hd 0 667 _ _ rfl) (by rfl) (k_pc 668 rfl ?_)
      refine k_al c (hd 1 668 _ _ rfl) (by rfl) (k_pc 669 rfl ?_)
      refine k_il c (hd 2 669 _ _ rfl) (by rfl) (k_pc 670 rfl ?_)
      refine k_ic c (hd 3 670 _ _ rfl) (v := 1) (by decide) (k_pc 671 rfl ?_)
      refine k_addE c (hd 4 671 _ _ rfl) (k_pc 672 rfl ?_)
      refine k_sldE C (lw_in h0 h1 C.2.2.2.2.1 (by decide)) ea1 (hd 5 672 _ _ rfl) (k_pc 673 rfl ?_)
      refine k_al c (hd 6 673 _ _ rfl) (by rfl) (k_pc 674 rfl ?_)
      refine k_il c (hd 7 674 _ _ rfl) (by rfl) (k_pc 675 rfl ?_)
      refine k_ic c (hd 8 675 _ _ rfl) (v := 2) (by decide) (k_pc 676 rfl ?_)
      refine k_addE c (hd 9 676 _ _ rfl) (k_pc 677 rfl ?_)
      refine k_sldE C (lw_in h0 h1 C.2.2.2.2.1 (by decide)) ea2 (hd 10 677 _ _ rfl) (k_pc 678 rfl ?_)
      refine k_callC C (M := q208_M) (rf_metV_of (q208_met hG)) (-1) (by decide +kernel) (by decide +kernel) (wlkV (lkL_86 hG) _ rfl rfl) (j := 70) (by decide +kernel) ⟨Nat.le_of_ble_eq_true rfl, Nat.le_of_ble_eq_true rfl⟩ (hd 11 678 _ _ rfl) [.int a1, .int a2] (rest := []) (by rfl) ⟨⟨70, by decide, rfl⟩, ⟨_, rfl, rf_in_top _, trivial⟩, ⟨_, rfl, rf_in1 (by omega) (by omega), trivial⟩, trivial⟩ (Nat.le_of_ble_eq_true rfl) hw (fr_pre hfr (hframe_rf [] _) (by decide +kernel)) trivial (fun x1 ws1 hw1 hf1 e1 => k_pc 681 rfl ?_)
      refine k_al c (hd 12 681 _ _ rfl) (by rfl) (k_pc 682 rfl ?_)
      refine k_al c (hd 13 682 _ _ rfl) (by rfl) (k_pc 683 rfl ?_)
      refine k_il c (hd 14 683 _ _ rfl) (by rfl) (k_pc 684 rfl ?_)
      refine k_ic c (hd 15 684 _ _ rfl) (v := 1) (by decide) (k_pc 685 rfl ?_)
      refine k_addE c (hd 16 685 _ _ rfl) (k_pc 686 rfl ?_)
      refine k_sldE C (lw_in h0 h1 C.2.2.2.2.1 (by decide)) ea1 (hd 17 686 _ _ rfl) (k_pc 687 rfl ?_)
      refine k_al c (hd 18 687 _ _ rfl) (by rfl) (k_pc 688 rfl ?_)
      refine k_il c (hd 19 688 _ _ rfl) (by rfl) (k_pc 689 rfl ?_)
      refine k_ic c (hd 20 689 _ _ rfl) (v := 2) (by decide) (k_pc 690 rfl ?_)
      refine k_addE c (hd 21 690 _ _ rfl) (k_pc 691 rfl ?_)
      refine k_sldE C (lw_in h0 h1 C.2.2.2.2.1 (by decide)) ea2 (hd 22 691 _ _ rfl) (k_pc 692 rfl ?_)
      refine k_callC C (M := q210_M) (rf_metV_of (q210_met hG)) (-1) (by decide +kernel) (by decide +kernel) (wlkV (lkL_89 hG) _ rfl rfl) (j := 114) (by decide +kernel) ⟨Nat.le_of_ble_eq_true rfl, Nat.le_of_ble_eq_true rfl⟩ (hd 23 692 _ _ rfl) [.int a1, .int a2] (rest := [.int x1]) (by rfl) ⟨⟨114, by decide, rfl⟩, ⟨_, rfl, rf_in_top _, trivial⟩, ⟨_, rfl, rf_in1 (by omega) (by omega), trivial⟩, trivial⟩ (Nat.le_of_ble_eq_true rfl) hw1 (fr_pre hfr hf1 (by decide +kernel)) trivial (fun x2 ws2 hw2 hf2 e2 => k_pc 695 rfl ?_)
      exact k_ceq c (hd 24 695 _ _ rfl) (tgt := 1413) (by decide) (Int32.toInt_inj.mp (e1.trans e2.symm)) (KK _)
  · skip
    refine k_al c (hd 0 667 _ _ rfl) (by rfl) (k_pc 668 rfl ?_)
    refine k_al c (hd 1 668 _ _ rfl) (by rfl) (k_pc 669 rfl ?_)
    refine k_il c (hd 2 669 _ _ rfl) (by rfl) (k_pc 670 rfl ?_)
    refine k_ic c (hd 3 670 _ _ rfl) (v := 1) (by decide) (k_pc 671 rfl ?_)
    refine k_addE c (hd 4 671 _ _ rfl) (k_pc 672 rfl ?_)
    refine k_sldE C (lw_in h0 h1 C.2.2.2.2.1 (by decide)) ea1 (hd 5 672 _ _ rfl) (k_pc 673 rfl ?_)
    refine k_al c (hd 6 673 _ _ rfl) (by rfl) (k_pc 674 rfl ?_)
    refine k_il c (hd 7 674 _ _ rfl) (by rfl) (k_pc 675 rfl ?_)
    refine k_ic c (hd 8 675 _ _ rfl) (v := 2) (by decide) (k_pc 676 rfl ?_)
    refine k_addE c (hd 9 676 _ _ rfl) (k_pc 677 rfl ?_)
    refine k_sldE C (lw_in h0 h1 C.2.2.2.2.1 (by decide)) ea2 (hd 10 677 _ _ rfl) (k_pc 678 rfl ?_)
    refine k_callC C (M := q193_M) (q193_met hG) (-1) (by decide +kernel) (by decide +kernel) (wlkV (lkL_86 hG) _ rfl rfl) (j := 70) (by decide +kernel) ⟨Nat.le_of_ble_eq_true rfl, Nat.le_of_ble_eq_true rfl⟩ (hd 11 678 _ _ rfl) [.int a1, .int a2] (rest := []) (by rfl) ⟨⟨70, by decide, rfl⟩, ⟨_, rfl, rf_in_top _, trivial⟩, ⟨_, rfl, rf_in_top _, trivial⟩, trivial⟩ (Nat.le_of_ble_eq_true rfl) hw (fr_pre hfr (hframe_rf [] _) (by decide +kernel)) ⟨_, rfl, ⟨fun h => absurd h hcb, fun h => absurd h (by decide)⟩⟩ (fun x1 ws1 hw1 hf1 e1 => k_pc 681 rfl ?_)
    refine k_al c (hd 12 681 _ _ rfl) (by rfl) (k_pc 682 rfl ?_)
    refine k_al c (hd 13 682 _ _ rfl) (by rfl) (k_pc 683 rfl ?_)
    refine k_il c (hd 14 683 _ _ rfl) (by rfl) (k_pc 684 rfl ?_)
    refine k_ic c (hd 15 684 _ _ rfl) (v := 1) (by decide) (k_pc 685 rfl ?_)
    refine k_addE c (hd 16 685 _ _ rfl) (k_pc 686 rfl ?_)
    refine k_sldE C (lw_in h0 h1 C.2.2.2.2.1 (by decide)) ea1 (hd 17 686 _ _ rfl) (k_pc 687 rfl ?_)
    refine k_al c (hd 18 687 _ _ rfl) (by rfl) (k_pc 688 rfl ?_)
    refine k_il c (hd 19 688 _ _ rfl) (by rfl) (k_pc 689 rfl ?_)
    refine k_ic c (hd 20 689 _ _ rfl) (v := 2) (by decide) (k_pc 690 rfl ?_)
    refine k_addE c (hd 21 690 _ _ rfl) (k_pc 691 rfl ?_)
    refine k_sldE C (lw_in h0 h1 C.2.2.2.2.1 (by decide)) ea2 (hd 22 691 _ _ rfl) (k_pc 692 rfl ?_)
    refine k_callC C (M := q194_M) (q194_met hG) (-1) (by decide +kernel) (by decide +kernel) (wlkV (lkL_89 hG) _ rfl rfl) (j := 114) (by decide +kernel) ⟨Nat.le_of_ble_eq_true rfl, Nat.le_of_ble_eq_true rfl⟩ (hd 23 692 _ _ rfl) [.int a1, .int a2] (rest := [.int x1]) (by rfl) ⟨⟨114, by decide, rfl⟩, ⟨_, rfl, rf_in_top _, trivial⟩, ⟨_, rfl, rf_in_top _, trivial⟩, trivial⟩ (Nat.le_of_ble_eq_true rfl) hw1 (fr_pre hfr hf1 (by decide +kernel)) ⟨_, rfl, ⟨fun h => absurd h hcb, fun h => absurd h (by decide)⟩⟩ (fun x2 ws2 hw2 hf2 e2 => k_pc 695 rfl ?_)
    exact k_ceq c (hd 24 695 _ _ rfl) (tgt := 1413) (by decide) (Int32.toInt_inj.mp (e1.trans e2.symm)) (KK _)
def ddL18 : List (Nat × Instr × Nat) := [(700, .aload_n 1, 1), (701, .aload_n 0, 1), (702, .iload_n 3, 1), (703, .iconst 1, 1), (704, .iadd, 1), (705, .iaload, 1), (706, .invokevirtual 90, 3), (709, .aload_n 2, 1), (710, .aload_n 0, 1), (711, .iload_n 3, 1), (712, .iconst 1, 1), (713, .iadd, 1), (714, .iaload, 1), (715, .invokevirtual 93, 3), (718, .if_icmp .eq 695, 3), (721, .iconst 0, 1), (722, .ireturn, 1)]
set_option maxRecDepth 100000 in
theorem dkL18 : rf_decs code ddL18 := rf_decs_of (by decide +kernel)
set_option maxHeartbeats 16000000 in
set_option maxRecDepth 100000 in
theorem lw_case18 {X : rfX} {G : rfG} {b Ln : Nat} {sc : Nat → Int32} {n sl : Nat} (C : lwC X G b Ln sc n sl) {i : Int32} (h0 : 0 ≤ i.toInt) (h1 : i.toInt + 5 < (Ln : Int)) (KK : ∀ ws', kW X n sl 1413 [(3, .int i), (2, .ref (G.2.1.1 114)), (1, .ref (G.2.1.1 70)), (0, .ref b)] [] ws') {ws : va_W} (hw : rf_world G.2.1.1 G.2.1.2.1 G.2.1.2.2.1 G.2.1.2.2.2 ws) (hfr : frOK (hv ws)) : kW X n sl 700 [(3, .int i), (2, .ref (G.2.1.1 114)), (1, .ref (G.2.1.1 70)), (0, .ref b)] [] ws := by
  have hG := C.1
  have c := C.2.2.1
  have hd : ∀ n pc i len, ddL18[n]? = some (pc, i, len) → decode code pc = .ok (i, len) := fun n pc i len h => hdk dkL18 n pc i len h
  obtain ⟨a1, ea1⟩ : ∃ a, sc (i + 1).toNatClampNeg = a := ⟨_, rfl⟩
  have r1 : -2147483648 ≤ a1.toInt ∧ a1.toInt ≤ 2147483647 := ⟨(rf_in_top a1).1, (rf_in_top a1).2.1⟩
  refine k_al c (hd 0 700 _ _ rfl) (by rfl) (k_pc 701 rfl ?_)
  refine k_al c (hd 1 701 _ _ rfl) (by rfl) (k_pc 702 rfl ?_)
  refine k_il c (hd 2 702 _ _ rfl) (by rfl) (k_pc 703 rfl ?_)
  refine k_ic c (hd 3 703 _ _ rfl) (v := 1) (by decide) (k_pc 704 rfl ?_)
  refine k_addE c (hd 4 704 _ _ rfl) (k_pc 705 rfl ?_)
  refine k_sldE C (lw_in h0 h1 C.2.2.2.2.1 (by decide)) ea1 (hd 5 705 _ _ rfl) (k_pc 706 rfl ?_)
  refine k_callC C (M := q214_M) (rf_metV_of (q214_met hG)) (-1) (by decide +kernel) (by decide +kernel) (wlkV (lkL_90 hG) _ rfl rfl) (j := 70) (by decide +kernel) ⟨Nat.le_of_ble_eq_true rfl, Nat.le_of_ble_eq_true rfl⟩ (hd 6 706 _ _ rfl) [.int a1] (rest := []) (by rfl) ⟨⟨70, by decide, rfl⟩, ⟨_, rfl, rf_in_top _, trivial⟩, trivial⟩ (Nat.le_of_ble_eq_true rfl) hw (fr_pre hfr (hframe_rf [] _) (by decide +kernel)) trivial (fun x1 ws1 hw1 hf1 e1 => k_pc 709 rfl ?_)
  refine k_al c (hd 7 709 _ _ rfl) (by rfl) (k_pc 710 rfl ?_)
  refine k_al c (hd 8 710 _ _ rfl) (by rfl) (k_pc 711 rfl ?_)
  refine k_il c (hd 9 711 _ _ rfl) (by rfl) (k_pc 712 rfl ?_)
  refine k_ic c (hd 10 712 _ _ rfl) (v := 1) (by decide) (k_pc 713 rfl ?_)
  refine k_addE c (hd 11 713 _ _ rfl) (k_pc 714 rfl ?_)
  refine k_sldE C (lw_in h0 h1 C.2.2.2.2.1 (by decide)) ea1 (hd 12 714 _ _ rfl) (k_pc 715 rfl ?_)
  refine k_callC C (M := q217_M) (rf_metV_of (q217_met hG)) (-1) (by decide +kernel) (by decide +kernel) (wlkV (lkL_93 hG) _ rfl rfl) (j := 114) (by decide +kernel) ⟨Nat.le_of_ble_eq_true rfl, Nat.le_of_ble_eq_true rfl⟩ (hd 13 715 _ _ rfl) [.int a1] (rest := [.int x1]) (by rfl) ⟨⟨114, by decide, rfl⟩, ⟨_, rfl, rf_in_top _, trivial⟩, trivial⟩ (Nat.le_of_ble_eq_true rfl) hw1 (fr_pre hfr hf1 (by decide +kernel)) trivial (fun x2 ws2 hw2 hf2 e2 => k_pc 718 rfl ?_)
  exact k_ceq c (hd 14 718 _ _ rfl) (tgt := 1413) (by decide) (Int32.toInt_inj.mp (e1.trans e2.symm)) (KK _)
def ddL19 : List (Nat × Instr × Nat) := [(723, .aload_n 1, 1), (724, .aload_n 0, 1), (725, .iload_n 3, 1), (726, .iconst 1, 1), (727, .iadd, 1), (728, .iaload, 1), (729, .aload_n 0, 1), (730, .iload_n 3, 1), (731, .iconst 2, 1), (732, .iadd, 1), (733, .iaload, 1), (734, .invokevirtual 94, 3), (737, .aload_n 2, 1), (738, .aload_n 0, 1), (739, .iload_n 3, 1), (740, .iconst 1, 1), (741, .iadd, 1), (742, .iaload, 1), (743, .aload_n 0, 1), (744, .iload_n 3, 1), (745, .iconst 2, 1), (746, .iadd, 1), (747, .iaload, 1), (748, .invokevirtual 97, 3), (751, .if_icmp .eq 662, 3), (754, .iconst 0, 1), (755, .ireturn, 1)]
set_option maxRecDepth 100000 in
theorem dkL19 : rf_decs code ddL19 := rf_decs_of (by decide +kernel)
set_option maxHeartbeats 16000000 in
set_option maxRecDepth 100000 in
theorem lw_case19 {X : rfX} {G : rfG} {b Ln : Nat} {sc : Nat → Int32} {n sl : Nat} (C : lwC X G b Ln sc n sl) {i : Int32} (h0 : 0 ≤ i.toInt) (h1 : i.toInt + 5 < (Ln : Int)) (KK : ∀ ws', kW X n sl 1413 [(3, .int i), (2, .ref (G.2.1.1 114)), (1, .ref (G.2.1.1 70)), (0, .ref b)] [] ws') {ws : va_W} (hw : rf_world G.2.1.1 G.2.1.2.1 G.2.1.2.2.1 G.2.1.2.2.2 ws) (hfr : frOK (hv ws)) : kW X n sl 723 [(3, .int i), (2, .ref (G.2.1.1 114)), (1, .ref (G.2.1.1 70)), (0, .ref b)] [] ws := by
  have hG := C.1
  have c := C.2.2.1
  have hd : ∀ n pc i len, ddL19[n]? = some (pc, i, len) → decode code pc = .ok (i, len) := fun n pc i len h => hdk dkL19 n pc i len h
  obtain ⟨a1, ea1⟩ : ∃ a, sc (i + 1).toNatClampNeg = a := ⟨_, rfl⟩
  have r1 : -2147483648 ≤ a1.toInt ∧ a1.toInt ≤ 2147483647 := ⟨(rf_in_top a1).1, (rf_in_top a1).2.1⟩
  obtain ⟨a2, ea2⟩ : ∃ a, sc (i + 2).toNatClampNeg = a := ⟨_, rfl⟩
  have r2 : -2147483648 ≤ a2.toInt ∧ a2.toInt ≤ 2147483647 := ⟨(rf_in_top a2).1, (rf_in_top a2).2.1⟩
  by_cases hcb : cbI a1.toInt
  · have ra_ : 0 ≤ a1.toInt ∧ a1.toInt ≤ 387420488 := ⟨hcb.1, hcb.2.1⟩
    have hc_ : (0 ≤ a2.toInt ∧ a2.toInt ≤ 6) ∨ (a2.toInt ≤ (-1)) ∨ (7 ≤ a2.toInt) := by omega
    rcases hc_ with hc_ | hc_ | hc_
    · skip
      refine k_al c (hd 0 723 _ _ rfl) (by rfl) (k_pc 724 rfl ?_)
      refine k_al c (hd 1 724 _ _ rfl) (by rfl) (k_pc 725 rfl ?_)
      refine k_il c (hd 2 725 _ _ rfl) (by rfl) (k_pc 726 rfl ?_)
      refine k_ic c (hd 3 726 _ _ rfl) (v := 1) (by decide) (k_pc 727 rfl ?_)
      refine k_addE c (hd 4 727 _ _ rfl) (k_pc 728 rfl ?_)
      refine k_sldE C (lw_in h0 h1 C.2.2.2.2.1 (by decide)) ea1 (hd 5 728 _ _ rfl) (k_pc 729 rfl ?_)
      refine k_al c (hd 6 729 _ _ rfl) (by rfl) (k_pc 730 rfl ?_)
      refine k_il c (hd 7 730 _ _ rfl) (by rfl) (k_pc 731 rfl ?_)
      refine k_ic c (hd 8 731 _ _ rfl) (v := 2) (by decide) (k_pc 732 rfl ?_)
      refine k_addE c (hd 9 732 _ _ rfl) (k_pc 733 rfl ?_)
      refine k_sldE C (lw_in h0 h1 C.2.2.2.2.1 (by decide)) ea2 (hd 10 733 _ _ rfl) (k_pc 734 rfl ?_)
      refine k_callC C (M := q221_M) (q221_met hG) 0 (by decide +kernel) (by decide +kernel) (wlkV (lkL_94 hG) _ rfl rfl) (j := 70) (by decide +kernel) ⟨Nat.le_of_ble_eq_true rfl, Nat.le_of_ble_eq_true rfl⟩ (hd 11 734 _ _ rfl) [.int a1, .int a2] (rest := []) (by rfl) ⟨⟨70, by decide, rfl⟩, ⟨_, rfl, rf_in1 (by omega) (by omega), trivial⟩, ⟨_, rfl, rf_in1 (by omega) (by omega), trivial⟩, trivial⟩ (Nat.le_of_ble_eq_true rfl) hw (fr_pre hfr (hframe_rf [] _) (by decide +kernel)) ⟨_, rfl, ⟨fun _ => rfl, fun _ => hcb⟩⟩ (fun x1 ws1 hw1 hf1 e1 => k_pc 737 rfl ?_)
      refine k_al c (hd 12 737 _ _ rfl) (by rfl) (k_pc 738 rfl ?_)
      refine k_al c (hd 13 738 _ _ rfl) (by rfl) (k_pc 739 rfl ?_)
      refine k_il c (hd 14 739 _ _ rfl) (by rfl) (k_pc 740 rfl ?_)
      refine k_ic c (hd 15 740 _ _ rfl) (v := 1) (by decide) (k_pc 741 rfl ?_)
      refine k_addE c (hd 16 741 _ _ rfl) (k_pc 742 rfl ?_)
      refine k_sldE C (lw_in h0 h1 C.2.2.2.2.1 (by decide)) ea1 (hd 17 742 _ _ rfl) (k_pc 743 rfl ?_)
      refine k_al c (hd 18 743 _ _ rfl) (by rfl) (k_pc 744 rfl ?_)
      refine k_il c (hd 19 744 _ _ rfl) (by rfl) (k_pc 745 rfl ?_)
      refine k_ic c (hd 20 745 _ _ rfl) (v := 2) (by decide) (k_pc 746 rfl ?_)
      refine k_addE c (hd 21 746 _ _ rfl) (k_pc 747 rfl ?_)
      refine k_sldE C (lw_in h0 h1 C.2.2.2.2.1 (by decide)) ea2 (hd 22 747 _ _ rfl) (k_pc 748 rfl ?_)
      refine k_callC C (M := q222_M) (q222_met hG) 0 (by decide +kernel) (by decide +kernel) (wlkV (lkL_97 hG) _ rfl rfl) (j := 114) (by decide +kernel) ⟨Nat.le_of_ble_eq_true rfl, Nat.le_of_ble_eq_true rfl⟩ (hd 23 748 _ _ rfl) [.int a1, .int a2] (rest := [.int x1]) (by rfl) ⟨⟨114, by decide, rfl⟩, ⟨_, rfl, rf_in1 (by omega) (by omega), trivial⟩, ⟨_, rfl, rf_in1 (by omega) (by omega), trivial⟩, trivial⟩ (Nat.le_of_ble_eq_true rfl) hw1 (fr_pre hfr hf1 (by decide +kernel)) ⟨_, rfl, ⟨fun _ => rfl, fun _ => hcb⟩⟩ (fun x2 ws2 hw2 hf2 e2 => k_pc 751 rfl ?_)
      exact k_ceq c (hd 24 751 _ _ rfl) (tgt := 1413) (by decide) (Int32.toInt_inj.mp (e1.trans e2.symm)) (KK _)
    · skip
      refine k_al c (hd 0 723 _ _ rfl) (by rfl) (k_pc 724 rfl ?_)
      refine k_al c (hd 1 724 _ _ rfl) (by rfl) (k_pc 725 rfl ?_)
      refine k_il c (hd 2 725 _ _ rfl) (by rfl) (k_pc 726 rfl ?_)
      refine k_ic c (hd 3 726 _ _ rfl) (v := 1) (by decide) (k_pc 727 rfl ?_)
      refine k_addE c (hd 4 727 _ _ rfl) (k_pc 728 rfl ?_)
      refine k_sldE C (lw_in h0 h1 C.2.2.2.2.1 (by decide)) ea1 (hd 5 728 _ _ rfl) (k_pc 729 rfl ?_)
      refine k_al c (hd 6 729 _ _ rfl) (by rfl) (k_pc 730 rfl ?_)
      refine k_il c (hd 7 730 _ _ rfl) (by rfl) (k_pc 731 rfl ?_)
      refine k_ic c (hd 8 731 _ _ rfl) (v := 2) (by decide) (k_pc 732 rfl ?_)
      refine k_addE c (hd 9 732 _ _ rfl) (k_pc 733 rfl ?_)
      refine k_sldE C (lw_in h0 h1 C.2.2.2.2.1 (by decide)) ea2 (hd 10 733 _ _ rfl) (k_pc 734 rfl ?_)
      refine k_callC C (M := q223_M) (rf_metV_of (q223_met hG)) (-1) (by decide +kernel) (by decide +kernel) (wlkV (lkL_94 hG) _ rfl rfl) (j := 70) (by decide +kernel) ⟨Nat.le_of_ble_eq_true rfl, Nat.le_of_ble_eq_true rfl⟩ (hd 11 734 _ _ rfl) [.int a1, .int a2] (rest := []) (by rfl) ⟨⟨70, by decide, rfl⟩, ⟨_, rfl, rf_in_top _, trivial⟩, ⟨_, rfl, rf_in1 (by omega) (by omega), trivial⟩, trivial⟩ (Nat.le_of_ble_eq_true rfl) hw (fr_pre hfr (hframe_rf [] _) (by decide +kernel)) trivial (fun x1 ws1 hw1 hf1 e1 => k_pc 737 rfl ?_)
      refine k_al c (hd 12 737 _ _ rfl) (by rfl) (k_pc 738 rfl ?_)
      refine k_al c (hd 13 738 _ _ rfl) (by rfl) (k_pc 739 rfl ?_)
      refine k_il c (hd 14 739 _ _ rfl) (by rfl) (k_pc 740 rfl ?_)
      refine k_ic c (hd 15 740 _ _ rfl) (v := 1) (by decide) (k_pc 741 rfl ?_)
      refine k_addE c (hd 16 741 _ _ rfl) (k_pc 742 rfl ?_)
      refine k_sldE C (lw_in h0 h1 C.2.2.2.2.1 (by decide)) ea1 (hd 17 742 _ _ rfl) (k_pc 743 rfl ?_)
      refine k_al c (hd 18 743 _ _ rfl) (by rfl) (k_pc 744 rfl ?_)
      refine k_il c (hd 19 744 _ _ rfl) (by rfl) (k_pc 745 rfl ?_)
      refine k_ic c (hd 20 745 _ _ rfl) (v := 2) (by decide) (k_pc 746 rfl ?_)
      refine k_addE c (hd 21 746 _ _ rfl) (k_pc 747 rfl ?_)
      refine k_sldE C (lw_in h0 h1 C.2.2.2.2.1 (by decide)) ea2 (hd 22 747 _ _ rfl) (k_pc 748 rfl ?_)
      refine k_callC C (M := q224_M) (rf_metV_of (q224_met hG)) (-1) (by decide +kernel) (by decide +kernel) (wlkV (lkL_97 hG) _ rfl rfl) (j := 114) (by decide +kernel) ⟨Nat.le_of_ble_eq_true rfl, Nat.le_of_ble_eq_true rfl⟩ (hd 23 748 _ _ rfl) [.int a1, .int a2] (rest := [.int x1]) (by rfl) ⟨⟨114, by decide, rfl⟩, ⟨_, rfl, rf_in_top _, trivial⟩, ⟨_, rfl, rf_in1 (by omega) (by omega), trivial⟩, trivial⟩ (Nat.le_of_ble_eq_true rfl) hw1 (fr_pre hfr hf1 (by decide +kernel)) trivial (fun x2 ws2 hw2 hf2 e2 => k_pc 751 rfl ?_)
      exact k_ceq c (hd 24 751 _ _ rfl) (tgt := 1413) (by decide) (Int32.toInt_inj.mp (e1.trans e2.symm)) (KK _)
    · skip
      refine k_al c (hd 0 723 _ _ rfl) (by rfl) (k_pc 724 rfl ?_)
      refine k_al c (hd 1 724 _ _ rfl) (by rfl) (k_pc 725 rfl ?_)
      refine k_il c (hd 2 725 _ _ rfl) (by rfl) (k_pc 726 rfl ?_)
      refine k_ic c (hd 3 726 _ _ rfl) (v := 1) (by decide) (k_pc 727 rfl ?_)
      refine k_addE c (hd 4 727 _ _ rfl) (k_pc 728 rfl ?_)
      refine k_sldE C (lw_in h0 h1 C.2.2.2.2.1 (by decide)) ea1 (hd 5 728 _ _ rfl) (k_pc 729 rfl ?_)
      refine k_al c (hd 6 729 _ _ rfl) (by rfl) (k_pc 730 rfl ?_)
      refine k_il c (hd 7 730 _ _ rfl) (by rfl) (k_pc 731 rfl ?_)
      refine k_ic c (hd 8 731 _ _ rfl) (v := 2) (by decide) (k_pc 732 rfl ?_)
      refine k_addE c (hd 9 732 _ _ rfl) (k_pc 733 rfl ?_)
      refine k_sldE C (lw_in h0 h1 C.2.2.2.2.1 (by decide)) ea2 (hd 10 733 _ _ rfl) (k_pc 734 rfl ?_)
      refine k_callC C (M := q225_M) (rf_metV_of (q225_met hG)) (-1) (by decide +kernel) (by decide +kernel) (wlkV (lkL_94 hG) _ rfl rfl) (j := 70) (by decide +kernel) ⟨Nat.le_of_ble_eq_true rfl, Nat.le_of_ble_eq_true rfl⟩ (hd 11 734 _ _ rfl) [.int a1, .int a2] (rest := []) (by rfl) ⟨⟨70, by decide, rfl⟩, ⟨_, rfl, rf_in_top _, trivial⟩, ⟨_, rfl, rf_in1 (by omega) (by omega), trivial⟩, trivial⟩ (Nat.le_of_ble_eq_true rfl) hw (fr_pre hfr (hframe_rf [] _) (by decide +kernel)) trivial (fun x1 ws1 hw1 hf1 e1 => k_pc 737 rfl ?_)
      refine k_al c (hd 12 737 _ _ rfl) (by rfl) (k_pc 738 rfl ?_)
      refine k_al c (hd 13 738 _ _ rfl) (by rfl) (k_pc 739 rfl ?_)
      refine k_il c (hd 14 739 _ _ rfl) (by rfl) (k_pc 740 rfl ?_)
      refine k_ic c (hd 15 740 _ _ rfl) (v := 1) (by decide) (k_pc 741 rfl ?_)
      refine k_addE c (hd 16 741 _ _ rfl) (k_pc 742 rfl ?_)
      refine k_sldE C (lw_in h0 h1 C.2.2.2.2.1 (by decide)) ea1 (hd 17 742 _ _ rfl) (k_pc 743 rfl ?_)
      refine k_al c (hd 18 743 _ _ rfl) (by rfl) (k_pc 744 rfl ?_)
      refine k_il c (hd 19 744 _ _ rfl) (by rfl) (k_pc 745 rfl ?_)
      refine k_ic c (hd 20 745 _ _ rfl) (v := 2) (by decide) (k_pc 746 rfl ?_)
      refine k_addE c (hd 21 746 _ _ rfl) (k_pc 747 rfl ?_)
      refine k_sldE C (lw_in h0 h1 C.2.2.2.2.1 (by decide)) ea2 (hd 22 747 _ _ rfl) (k_pc 748 rfl ?_)
      refine k_callC C (M := q226_M) (rf_metV_of (q226_met hG)) (-1) (by decide +kernel) (by decide +kernel) (wlkV (lkL_97 hG) _ rfl rfl) (j := 114) (by decide +kernel) ⟨Nat.le_of_ble_eq_true rfl, Nat.le_of_ble_eq_true rfl⟩ (hd 23 748 _ _ rfl) [.int a1, .int a2] (rest := [.int x1]) (by rfl) ⟨⟨114, by decide, rfl⟩, ⟨_, rfl, rf_in_top _, trivial⟩, ⟨_, rfl, rf_in1 (by omega) (by omega), trivial⟩, trivial⟩ (Nat.le_of_ble_eq_true rfl) hw1 (fr_pre hfr hf1 (by decide +kernel)) trivial (fun x2 ws2 hw2 hf2 e2 => k_pc 751 rfl ?_)
      exact k_ceq c (hd 24 751 _ _ rfl) (tgt := 1413) (by decide) (Int32.toInt_inj.mp (e1.trans e2.symm)) (KK _)
  · skip
    refine k_al c (hd 0 723 _ _ rfl) (by rfl) (k_pc 724 rfl ?_)
    refine k_al c (hd 1 724 _ _ rfl) (by rfl) (k_pc 725 rfl ?_)
    refine k_il c (hd 2 725 _ _ rfl) (by rfl) (k_pc 726 rfl ?_)
    refine k_ic c (hd 3 726 _ _ rfl) (v := 1) (by decide) (k_pc 727 rfl ?_)
    refine k_addE c (hd 4 727 _ _ rfl) (k_pc 728 rfl ?_)
    refine k_sldE C (lw_in h0 h1 C.2.2.2.2.1 (by decide)) ea1 (hd 5 728 _ _ rfl) (k_pc 729 rfl ?_)
    refine k_al c (hd 6 729 _ _ rfl) (by rfl) (k_pc 730 rfl ?_)
    refine k_il c (hd 7 730 _ _ rfl) (by rfl) (k_pc 731 rfl ?_)
    refine k_ic c (hd 8 731 _ _ rfl) (v := 2) (by decide) (k_pc 732 rfl ?_)
    refine k_addE c (hd 9 732 _ _ rfl) (k_pc 733 rfl ?_)
    refine k_sldE C (lw_in h0 h1 C.2.2.2.2.1 (by decide)) ea2 (hd 10 733 _ _ rfl) (k_pc 734 rfl ?_)
    refine k_callC C (M := q218_M) (q218_met hG) (-1) (by decide +kernel) (by decide +kernel) (wlkV (lkL_94 hG) _ rfl rfl) (j := 70) (by decide +kernel) ⟨Nat.le_of_ble_eq_true rfl, Nat.le_of_ble_eq_true rfl⟩ (hd 11 734 _ _ rfl) [.int a1, .int a2] (rest := []) (by rfl) ⟨⟨70, by decide, rfl⟩, ⟨_, rfl, rf_in_top _, trivial⟩, ⟨_, rfl, rf_in_top _, trivial⟩, trivial⟩ (Nat.le_of_ble_eq_true rfl) hw (fr_pre hfr (hframe_rf [] _) (by decide +kernel)) ⟨_, rfl, ⟨fun h => absurd h hcb, fun h => absurd h (by decide)⟩⟩ (fun x1 ws1 hw1 hf1 e1 => k_pc 737 rfl ?_)
    refine k_al c (hd 12 737 _ _ rfl) (by rfl) (k_pc 738 rfl ?_)
    refine k_al c (hd 13 738 _ _ rfl) (by rfl) (k_pc 739 rfl ?_)
    refine k_il c (hd 14 739 _ _ rfl) (by rfl) (k_pc 740 rfl ?_)
    refine k_ic c (hd 15 740 _ _ rfl) (v := 1) (by decide) (k_pc 741 rfl ?_)
    refine k_addE c (hd 16 741 _ _ rfl) (k_pc 742 rfl ?_)
    refine k_sldE C (lw_in h0 h1 C.2.2.2.2.1 (by decide)) ea1 (hd 17 742 _ _ rfl) (k_pc 743 rfl ?_)
    refine k_al c (hd 18 743 _ _ rfl) (by rfl) (k_pc 744 rfl ?_)
    refine k_il c (hd 19 744 _ _ rfl) (by rfl) (k_pc 745 rfl ?_)
    refine k_ic c (hd 20 745 _ _ rfl) (v := 2) (by decide) (k_pc 746 rfl ?_)
    refine k_addE c (hd 21 746 _ _ rfl) (k_pc 747 rfl ?_)
    refine k_sldE C (lw_in h0 h1 C.2.2.2.2.1 (by decide)) ea2 (hd 22 747 _ _ rfl) (k_pc 748 rfl ?_)
    refine k_callC C (M := q219_M) (q219_met hG) (-1) (by decide +kernel) (by decide +kernel) (wlkV (lkL_97 hG) _ rfl rfl) (j := 114) (by decide +kernel) ⟨Nat.le_of_ble_eq_true rfl, Nat.le_of_ble_eq_true rfl⟩ (hd 23 748 _ _ rfl) [.int a1, .int a2] (rest := [.int x1]) (by rfl) ⟨⟨114, by decide, rfl⟩, ⟨_, rfl, rf_in_top _, trivial⟩, ⟨_, rfl, rf_in_top _, trivial⟩, trivial⟩ (Nat.le_of_ble_eq_true rfl) hw1 (fr_pre hfr hf1 (by decide +kernel)) ⟨_, rfl, ⟨fun h => absurd h hcb, fun h => absurd h (by decide)⟩⟩ (fun x2 ws2 hw2 hf2 e2 => k_pc 751 rfl ?_)
    exact k_ceq c (hd 24 751 _ _ rfl) (tgt := 1413) (by decide) (Int32.toInt_inj.mp (e1.trans e2.symm)) (KK _)
def ddL20 : List (Nat × Instr × Nat) := [(756, .aload_n 1, 1), (757, .aload_n 0, 1), (758, .iload_n 3, 1), (759, .iconst 1, 1), (760, .iadd, 1), (761, .iaload, 1), (762, .aload_n 0, 1), (763, .iload_n 3, 1), (764, .iconst 2, 1), (765, .iadd, 1), (766, .iaload, 1), (767, .invokevirtual 98, 3), (770, .aload_n 2, 1), (771, .aload_n 0, 1), (772, .iload_n 3, 1), (773, .iconst 1, 1), (774, .iadd, 1), (775, .iaload, 1), (776, .aload_n 0, 1), (777, .iload_n 3, 1), (778, .iconst 2, 1), (779, .iadd, 1), (780, .iaload, 1), (781, .invokevirtual 101, 3), (784, .if_icmp .eq 629, 3), (787, .iconst 0, 1), (788, .ireturn, 1)]
set_option maxRecDepth 100000 in
theorem dkL20 : rf_decs code ddL20 := rf_decs_of (by decide +kernel)
set_option maxHeartbeats 16000000 in
set_option maxRecDepth 100000 in
theorem lw_case20 {X : rfX} {G : rfG} {b Ln : Nat} {sc : Nat → Int32} {n sl : Nat} (C : lwC X G b Ln sc n sl) {i : Int32} (h0 : 0 ≤ i.toInt) (h1 : i.toInt + 5 < (Ln : Int)) (KK : ∀ ws', kW X n sl 1413 [(3, .int i), (2, .ref (G.2.1.1 114)), (1, .ref (G.2.1.1 70)), (0, .ref b)] [] ws') {ws : va_W} (hw : rf_world G.2.1.1 G.2.1.2.1 G.2.1.2.2.1 G.2.1.2.2.2 ws) (hfr : frOK (hv ws)) : kW X n sl 756 [(3, .int i), (2, .ref (G.2.1.1 114)), (1, .ref (G.2.1.1 70)), (0, .ref b)] [] ws := by
  have hG := C.1
  have c := C.2.2.1
  have hd : ∀ n pc i len, ddL20[n]? = some (pc, i, len) → decode code pc = .ok (i, len) := fun n pc i len h => hdk dkL20 n pc i len h
  obtain ⟨a1, ea1⟩ : ∃ a, sc (i + 1).toNatClampNeg = a := ⟨_, rfl⟩
  have r1 : -2147483648 ≤ a1.toInt ∧ a1.toInt ≤ 2147483647 := ⟨(rf_in_top a1).1, (rf_in_top a1).2.1⟩
  obtain ⟨a2, ea2⟩ : ∃ a, sc (i + 2).toNatClampNeg = a := ⟨_, rfl⟩
  have r2 : -2147483648 ≤ a2.toInt ∧ a2.toInt ≤ 2147483647 := ⟨(rf_in_top a2).1, (rf_in_top a2).2.1⟩
  refine k_al c (hd 0 756 _ _ rfl) (by rfl) (k_pc 757 rfl ?_)
  refine k_al c (hd 1 757 _ _ rfl) (by rfl) (k_pc 758 rfl ?_)
  refine k_il c (hd 2 758 _ _ rfl) (by rfl) (k_pc 759 rfl ?_)
  refine k_ic c (hd 3 759 _ _ rfl) (v := 1) (by decide) (k_pc 760 rfl ?_)
  refine k_addE c (hd 4 760 _ _ rfl) (k_pc 761 rfl ?_)
  refine k_sldE C (lw_in h0 h1 C.2.2.2.2.1 (by decide)) ea1 (hd 5 761 _ _ rfl) (k_pc 762 rfl ?_)
  refine k_al c (hd 6 762 _ _ rfl) (by rfl) (k_pc 763 rfl ?_)
  refine k_il c (hd 7 763 _ _ rfl) (by rfl) (k_pc 764 rfl ?_)
  refine k_ic c (hd 8 764 _ _ rfl) (v := 2) (by decide) (k_pc 765 rfl ?_)
  refine k_addE c (hd 9 765 _ _ rfl) (k_pc 766 rfl ?_)
  refine k_sldE C (lw_in h0 h1 C.2.2.2.2.1 (by decide)) ea2 (hd 10 766 _ _ rfl) (k_pc 767 rfl ?_)
  refine k_callC C (M := q228_M) (rf_metV_of (q228_met hG)) (-1) (by decide +kernel) (by decide +kernel) (wlkV (lkL_98 hG) _ rfl rfl) (j := 70) (by decide +kernel) ⟨Nat.le_of_ble_eq_true rfl, Nat.le_of_ble_eq_true rfl⟩ (hd 11 767 _ _ rfl) [.int a1, .int a2] (rest := []) (by rfl) ⟨⟨70, by decide, rfl⟩, ⟨_, rfl, rf_in_top _, trivial⟩, ⟨_, rfl, rf_in_top _, trivial⟩, trivial⟩ (Nat.le_of_ble_eq_true rfl) hw (fr_pre hfr (hframe_rf [] _) (by decide +kernel)) trivial (fun x1 ws1 hw1 hf1 e1 => k_pc 770 rfl ?_)
  refine k_al c (hd 12 770 _ _ rfl) (by rfl) (k_pc 771 rfl ?_)
  refine k_al c (hd 13 771 _ _ rfl) (by rfl) (k_pc 772 rfl ?_)
  refine k_il c (hd 14 772 _ _ rfl) (by rfl) (k_pc 773 rfl ?_)
  refine k_ic c (hd 15 773 _ _ rfl) (v := 1) (by decide) (k_pc 774 rfl ?_)
  refine k_addE c (hd 16 774 _ _ rfl) (k_pc 775 rfl ?_)
  refine k_sldE C (lw_in h0 h1 C.2.2.2.2.1 (by decide)) ea1 (hd 17 775 _ _ rfl) (k_pc 776 rfl ?_)
  refine k_al c (hd 18 776 _ _ rfl) (by rfl) (k_pc 777 rfl ?_)
  refine k_il c (hd 19 777 _ _ rfl) (by rfl) (k_pc 778 rfl ?_)
  refine k_ic c (hd 20 778 _ _ rfl) (v := 2) (by decide) (k_pc 779 rfl ?_)
  refine k_addE c (hd 21 779 _ _ rfl) (k_pc 780 rfl ?_)
  refine k_sldE C (lw_in h0 h1 C.2.2.2.2.1 (by decide)) ea2 (hd 22 780 _ _ rfl) (k_pc 781 rfl ?_)
  refine k_callC C (M := q230_M) (rf_metV_of (q230_met hG)) (-1) (by decide +kernel) (by decide +kernel) (wlkV (lkL_101 hG) _ rfl rfl) (j := 114) (by decide +kernel) ⟨Nat.le_of_ble_eq_true rfl, Nat.le_of_ble_eq_true rfl⟩ (hd 23 781 _ _ rfl) [.int a1, .int a2] (rest := [.int x1]) (by rfl) ⟨⟨114, by decide, rfl⟩, ⟨_, rfl, rf_in_top _, trivial⟩, ⟨_, rfl, rf_in_top _, trivial⟩, trivial⟩ (Nat.le_of_ble_eq_true rfl) hw1 (fr_pre hfr hf1 (by decide +kernel)) trivial (fun x2 ws2 hw2 hf2 e2 => k_pc 784 rfl ?_)
  exact k_ceq c (hd 24 784 _ _ rfl) (tgt := 1413) (by decide) (Int32.toInt_inj.mp (e1.trans e2.symm)) (KK _)
def ddL21 : List (Nat × Instr × Nat) := [(789, .aload_n 1, 1), (790, .aload_n 0, 1), (791, .iload_n 3, 1), (792, .iconst 1, 1), (793, .iadd, 1), (794, .iaload, 1), (795, .aload_n 0, 1), (796, .iload_n 3, 1), (797, .iconst 2, 1), (798, .iadd, 1), (799, .iaload, 1), (800, .invokevirtual 102, 3), (803, .aload_n 2, 1), (804, .aload_n 0, 1), (805, .iload_n 3, 1), (806, .iconst 1, 1), (807, .iadd, 1), (808, .iaload, 1), (809, .aload_n 0, 1), (810, .iload_n 3, 1), (811, .iconst 2, 1), (812, .iadd, 1), (813, .iaload, 1), (814, .invokevirtual 105, 3), (817, .if_icmp .eq 596, 3), (820, .iconst 0, 1), (821, .ireturn, 1)]
set_option maxRecDepth 100000 in
theorem dkL21 : rf_decs code ddL21 := rf_decs_of (by decide +kernel)
set_option maxHeartbeats 16000000 in
set_option maxRecDepth 100000 in
theorem lw_case21 {X : rfX} {G : rfG} {b Ln : Nat} {sc : Nat → Int32} {n sl : Nat} (C : lwC X G b Ln sc n sl) {i : Int32} (h0 : 0 ≤ i.toInt) (h1 : i.toInt + 5 < (Ln : Int)) (KK : ∀ ws', kW X n sl 1413 [(3, .int i), (2, .ref (G.2.1.1 114)), (1, .ref (G.2.1.1 70)), (0, .ref b)] [] ws') {ws : va_W} (hw : rf_world G.2.1.1 G.2.1.2.1 G.2.1.2.2.1 G.2.1.2.2.2 ws) (hfr : frOK (hv ws)) : kW X n sl 789 [(3, .int i), (2, .ref (G.2.1.1 114)), (1, .ref (G.2.1.1 70)), (0, .ref b)] [] ws := by
  have hG := C.1
  have c := C.2.2.1
  have hd : ∀ n pc i len, ddL21[n]? = some (pc, i, len) → decode code pc = .ok (i, len) := fun n pc i len h => hdk dkL21 n pc i len h
  obtain ⟨a1, ea1⟩ : ∃ a, sc (i + 1).toNatClampNeg = a := ⟨_, rfl⟩
  have r1 : -2147483648 ≤ a1.toInt ∧ a1.toInt ≤ 2147483647 := ⟨(rf_in_top a1).1, (rf_in_top a1).2.1⟩
  obtain ⟨a2, ea2⟩ : ∃ a, sc (i + 2).toNatClampNeg = a := ⟨_, rfl⟩
  have r2 : -2147483648 ≤ a2.toInt ∧ a2.toInt ≤ 2147483647 := ⟨(rf_in_top a2).1, (rf_in_top a2).2.1⟩
  refine k_al c (hd 0 789 _ _ rfl) (by rfl) (k_pc 790 rfl ?_)
  refine k_al c (hd 1 790 _ _ rfl) (by rfl) (k_pc 791 rfl ?_)
  refine k_il c (hd 2 791 _ _ rfl) (by rfl) (k_pc 792 rfl ?_)
  refine k_ic c (hd 3 792 _ _ rfl) (v := 1) (by decide) (k_pc 793 rfl ?_)
  refine k_addE c (hd 4 793 _ _ rfl) (k_pc 794 rfl ?_)
  refine k_sldE C (lw_in h0 h1 C.2.2.2.2.1 (by decide)) ea1 (hd 5 794 _ _ rfl) (k_pc 795 rfl ?_)
  refine k_al c (hd 6 795 _ _ rfl) (by rfl) (k_pc 796 rfl ?_)
  refine k_il c (hd 7 796 _ _ rfl) (by rfl) (k_pc 797 rfl ?_)
  refine k_ic c (hd 8 797 _ _ rfl) (v := 2) (by decide) (k_pc 798 rfl ?_)
  refine k_addE c (hd 9 798 _ _ rfl) (k_pc 799 rfl ?_)
  refine k_sldE C (lw_in h0 h1 C.2.2.2.2.1 (by decide)) ea2 (hd 10 799 _ _ rfl) (k_pc 800 rfl ?_)
  refine k_callC C (M := q231_M) (rf_metV_of (q231_met hG)) (-1) (by decide +kernel) (by decide +kernel) (wlkV (lkL_102 hG) _ rfl rfl) (j := 70) (by decide +kernel) ⟨Nat.le_of_ble_eq_true rfl, Nat.le_of_ble_eq_true rfl⟩ (hd 11 800 _ _ rfl) [.int a1, .int a2] (rest := []) (by rfl) ⟨⟨70, by decide, rfl⟩, ⟨_, rfl, rf_in_top _, trivial⟩, ⟨_, rfl, rf_in_top _, trivial⟩, trivial⟩ (Nat.le_of_ble_eq_true rfl) hw (fr_pre hfr (hframe_rf [] _) (by decide +kernel)) trivial (fun x1 ws1 hw1 hf1 e1 => k_pc 803 rfl ?_)
  refine k_al c (hd 12 803 _ _ rfl) (by rfl) (k_pc 804 rfl ?_)
  refine k_al c (hd 13 804 _ _ rfl) (by rfl) (k_pc 805 rfl ?_)
  refine k_il c (hd 14 805 _ _ rfl) (by rfl) (k_pc 806 rfl ?_)
  refine k_ic c (hd 15 806 _ _ rfl) (v := 1) (by decide) (k_pc 807 rfl ?_)
  refine k_addE c (hd 16 807 _ _ rfl) (k_pc 808 rfl ?_)
  refine k_sldE C (lw_in h0 h1 C.2.2.2.2.1 (by decide)) ea1 (hd 17 808 _ _ rfl) (k_pc 809 rfl ?_)
  refine k_al c (hd 18 809 _ _ rfl) (by rfl) (k_pc 810 rfl ?_)
  refine k_il c (hd 19 810 _ _ rfl) (by rfl) (k_pc 811 rfl ?_)
  refine k_ic c (hd 20 811 _ _ rfl) (v := 2) (by decide) (k_pc 812 rfl ?_)
  refine k_addE c (hd 21 812 _ _ rfl) (k_pc 813 rfl ?_)
  refine k_sldE C (lw_in h0 h1 C.2.2.2.2.1 (by decide)) ea2 (hd 22 813 _ _ rfl) (k_pc 814 rfl ?_)
  refine k_callC C (M := q233_M) (rf_metV_of (q233_met hG)) (-1) (by decide +kernel) (by decide +kernel) (wlkV (lkL_105 hG) _ rfl rfl) (j := 114) (by decide +kernel) ⟨Nat.le_of_ble_eq_true rfl, Nat.le_of_ble_eq_true rfl⟩ (hd 23 814 _ _ rfl) [.int a1, .int a2] (rest := [.int x1]) (by rfl) ⟨⟨114, by decide, rfl⟩, ⟨_, rfl, rf_in_top _, trivial⟩, ⟨_, rfl, rf_in_top _, trivial⟩, trivial⟩ (Nat.le_of_ble_eq_true rfl) hw1 (fr_pre hfr hf1 (by decide +kernel)) trivial (fun x2 ws2 hw2 hf2 e2 => k_pc 817 rfl ?_)
  exact k_ceq c (hd 24 817 _ _ rfl) (tgt := 1413) (by decide) (Int32.toInt_inj.mp (e1.trans e2.symm)) (KK _)
def ddL22 : List (Nat × Instr × Nat) := [(822, .aload_n 1, 1), (823, .invokevirtual 106, 3), (826, .aload_n 2, 1), (827, .invokevirtual 109, 3), (830, .if_icmp .eq 583, 3), (833, .iconst 0, 1), (834, .ireturn, 1)]
set_option maxRecDepth 100000 in
theorem dkL22 : rf_decs code ddL22 := rf_decs_of (by decide +kernel)
set_option maxHeartbeats 16000000 in
set_option maxRecDepth 100000 in
theorem lw_case22 {X : rfX} {G : rfG} {b Ln : Nat} {sc : Nat → Int32} {n sl : Nat} (C : lwC X G b Ln sc n sl) {i : Int32} (h0 : 0 ≤ i.toInt) (h1 : i.toInt + 5 < (Ln : Int)) (KK : ∀ ws', kW X n sl 1413 [(3, .int i), (2, .ref (G.2.1.1 114)), (1, .ref (G.2.1.1 70)), (0, .ref b)] [] ws') {ws : va_W} (hw : rf_world G.2.1.1 G.2.1.2.1 G.2.1.2.2.1 G.2.1.2.2.2 ws) (hfr : frOK (hv ws)) : kW X n sl 822 [(3, .int i), (2, .ref (G.2.1.1 114)), (1, .ref (G.2.1.1 70)), (0, .ref b)] [] ws := by
  have hG := C.1
  have c := C.2.2.1
  have hd : ∀ n pc i len, ddL22[n]? = some (pc, i, len) → decode code pc = .ok (i, len) := fun n pc i len h => hdk dkL22 n pc i len h
  refine k_al c (hd 0 822 _ _ rfl) (by rfl) (k_pc 823 rfl ?_)
  refine k_callC C (M := q236_M) (rf_metV_of (q236_met hG)) 0 (by decide +kernel) (by decide +kernel) (wlkV (lkL_106 hG) _ rfl rfl) (j := 70) (by decide +kernel) ⟨Nat.le_of_ble_eq_true rfl, Nat.le_of_ble_eq_true rfl⟩ (hd 1 823 _ _ rfl) [] (rest := []) (by rfl) ⟨⟨70, by decide, rfl⟩, trivial⟩ (Nat.le_of_ble_eq_true rfl) hw (fr_pre hfr (hframe_rf [] _) (by decide +kernel)) trivial (fun x1 ws1 hw1 hf1 e1 => k_pc 826 rfl ?_)
  refine k_al c (hd 2 826 _ _ rfl) (by rfl) (k_pc 827 rfl ?_)
  refine k_callC C (M := q238_M) (rf_metV_of (q238_met hG)) 0 (by decide +kernel) (by decide +kernel) (wlkV (lkL_109 hG) _ rfl rfl) (j := 114) (by decide +kernel) ⟨Nat.le_of_ble_eq_true rfl, Nat.le_of_ble_eq_true rfl⟩ (hd 3 827 _ _ rfl) [] (rest := [.int x1]) (by rfl) ⟨⟨114, by decide, rfl⟩, trivial⟩ (Nat.le_of_ble_eq_true rfl) hw1 (fr_pre hfr hf1 (by decide +kernel)) trivial (fun x2 ws2 hw2 hf2 e2 => k_pc 830 rfl ?_)
  exact k_ceq c (hd 4 830 _ _ rfl) (tgt := 1413) (by decide) (Int32.toInt_inj.mp (e1.trans e2.symm)) (KK _)
def ddL23 : List (Nat × Instr × Nat) := [(835, .aload_n 1, 1), (836, .invokevirtual 110, 3), (839, .aload_n 2, 1), (840, .invokevirtual 113, 3), (843, .if_icmp .eq 570, 3), (846, .iconst 0, 1), (847, .ireturn, 1)]
set_option maxRecDepth 100000 in
theorem dkL23 : rf_decs code ddL23 := rf_decs_of (by decide +kernel)
set_option maxHeartbeats 16000000 in
set_option maxRecDepth 100000 in
theorem lw_case23 {X : rfX} {G : rfG} {b Ln : Nat} {sc : Nat → Int32} {n sl : Nat} (C : lwC X G b Ln sc n sl) {i : Int32} (h0 : 0 ≤ i.toInt) (h1 : i.toInt + 5 < (Ln : Int)) (KK : ∀ ws', kW X n sl 1413 [(3, .int i), (2, .ref (G.2.1.1 114)), (1, .ref (G.2.1.1 70)), (0, .ref b)] [] ws') {ws : va_W} (hw : rf_world G.2.1.1 G.2.1.2.1 G.2.1.2.2.1 G.2.1.2.2.2 ws) (hfr : frOK (hv ws)) : kW X n sl 835 [(3, .int i), (2, .ref (G.2.1.1 114)), (1, .ref (G.2.1.1 70)), (0, .ref b)] [] ws := by
  have hG := C.1
  have c := C.2.2.1
  have hd : ∀ n pc i len, ddL23[n]? = some (pc, i, len) → decode code pc = .ok (i, len) := fun n pc i len h => hdk dkL23 n pc i len h
  refine k_al c (hd 0 835 _ _ rfl) (by rfl) (k_pc 836 rfl ?_)
  refine k_callC C (M := q240_M) (rf_metV_of (q240_met hG)) 1 (by decide +kernel) (by decide +kernel) (wlkV (lkL_110 hG) _ rfl rfl) (j := 70) (by decide +kernel) ⟨Nat.le_of_ble_eq_true rfl, Nat.le_of_ble_eq_true rfl⟩ (hd 1 836 _ _ rfl) [] (rest := []) (by rfl) ⟨⟨70, by decide, rfl⟩, trivial⟩ (Nat.le_of_ble_eq_true rfl) hw (fr_pre hfr (hframe_rf [] _) (by decide +kernel)) trivial (fun x1 ws1 hw1 hf1 e1 => k_pc 839 rfl ?_)
  refine k_al c (hd 2 839 _ _ rfl) (by rfl) (k_pc 840 rfl ?_)
  refine k_callC C (M := q241_M) (rf_metV_of (q241_met hG)) 1 (by decide +kernel) (by decide +kernel) (wlkV (lkL_113 hG) _ rfl rfl) (j := 114) (by decide +kernel) ⟨Nat.le_of_ble_eq_true rfl, Nat.le_of_ble_eq_true rfl⟩ (hd 3 840 _ _ rfl) [] (rest := [.int x1]) (by rfl) ⟨⟨114, by decide, rfl⟩, trivial⟩ (Nat.le_of_ble_eq_true rfl) hw1 (fr_pre hfr hf1 (by decide +kernel)) trivial (fun x2 ws2 hw2 hf2 e2 => k_pc 843 rfl ?_)
  exact k_ceq c (hd 4 843 _ _ rfl) (tgt := 1413) (by decide) (Int32.toInt_inj.mp (e1.trans e2.symm)) (KK _)
