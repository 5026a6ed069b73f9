set_option maxRecDepth 20000 in
theorem wm1049 : (Jvm.Cond.static ({ cls := "NearSpell", name := "isApart", desc := "(I)Z" } : Jvm.MethodName)) ∈ wTs := wmem (i := 1049) (by decide +kernel) (by decide +kernel)
set_option maxRecDepth 20000 in
theorem wm1050 : (Jvm.Cond.code ({ cls := "NearSpell", name := "isApart", desc := "(I)Z" } : Jvm.MethodName) prog_1_method_50_code (1 : Nat) (Option.some Jvm.ClassFile.FieldType.boolean)) ∈ wTs := wmem (i := 1050) (by decide +kernel) (by decide +kernel)
set_option maxRecDepth 20000 in
theorem wm1051 : (Jvm.Cond.methodLink "NearSpell" (235 : Nat) ({ cls := "NearSpell$Finder", name := "within", desc := "(II)I" } : Jvm.MethodName)) ∈ wTs := wmem (i := 1051) (by decide +kernel) (by decide +kernel)
set_option maxRecDepth 20000 in
theorem wm1060 : (Jvm.Cond.methodLink "NearSpell" (238 : Nat) ({ cls := "NearSpell$Finder", name := "listNear", desc := "(II[I)I" } : Jvm.MethodName)) ∈ wTs := wmem (i := 1060) (by decide +kernel) (by decide +kernel)
set_option maxRecDepth 20000 in
theorem wm1061 : (Jvm.Cond.instanceMethod ({ cls := "NearSpell$Finder", name := "listNear", desc := "(II[I)I" } : Jvm.MethodName)) ∈ wTs := wmem (i := 1061) (by decide +kernel) (by decide +kernel)
set_option maxRecDepth 20000 in
theorem wm1062 : (Jvm.Cond.selects "NearSpell$Finder" ({ cls := "NearSpell$Finder", name := "listNear", desc := "(II[I)I" } : Jvm.MethodName) ({ cls := "NearSpell$Finder", name := "listNear", desc := "(II[I)I" } : Jvm.MethodName)) ∈ wTs := wmem (i := 1062) (by decide +kernel) (by decide +kernel)
set_option maxRecDepth 20000 in
theorem wm1063 : (Jvm.Cond.code ({ cls := "NearSpell$Finder", name := "listNear", desc := "(II[I)I" } : Jvm.MethodName) prog_4_method_6_code (7 : Nat) (Option.some Jvm.ClassFile.FieldType.int)) ∈ wTs := wmem (i := 1063) (by decide +kernel) (by decide +kernel)
set_option maxRecDepth 20000 in
theorem wm1068 : (Jvm.Cond.methodLink "NearSpell" (242 : Nat) ({ cls := "NearSpell$Pieces", name := "weighSplit", desc := "(I)V" } : Jvm.MethodName)) ∈ wTs := wmem (i := 1068) (by decide +kernel) (by decide +kernel)
set_option maxRecDepth 20000 in
theorem wm1069 : (Jvm.Cond.instanceMethod ({ cls := "NearSpell$Pieces", name := "weighSplit", desc := "(I)V" } : Jvm.MethodName)) ∈ wTs := wmem (i := 1069) (by decide +kernel) (by decide +kernel)
set_option maxRecDepth 20000 in
theorem wm1070 : (Jvm.Cond.selects "NearSpell$Pieces" ({ cls := "NearSpell$Pieces", name := "weighSplit", desc := "(I)V" } : Jvm.MethodName) ({ cls := "NearSpell$Pieces", name := "weighSplit", desc := "(I)V" } : Jvm.MethodName)) ∈ wTs := wmem (i := 1070) (by decide +kernel) (by decide +kernel)
set_option maxRecDepth 20000 in
theorem wm1071 : (Jvm.Cond.code ({ cls := "NearSpell$Pieces", name := "weighSplit", desc := "(I)V" } : Jvm.MethodName) prog_7_method_2_code (2 : Nat) (Option.none : Option Jvm.ClassFile.FieldType)) ∈ wTs := wmem (i := 1071) (by decide +kernel) (by decide +kernel)
set_option maxRecDepth 20000 in
theorem wm1072 : (Jvm.Cond.methodLink "NearSpell$Pieces" (29 : Nat) ({ cls := "NearSpell$Ruler", name := "setText", desc := "(I)V" } : Jvm.MethodName)) ∈ wTs := wmem (i := 1072) (by decide +kernel) (by decide +kernel)
set_option maxRecDepth 20000 in
theorem wm1074 : (Jvm.Cond.methodLink "NearSpell$Pieces" (39 : Nat) ({ cls := "NearSpell$Pieces", name := "weighTwo", desc := "(II)V" } : Jvm.MethodName)) ∈ wTs := wmem (i := 1074) (by decide +kernel) (by decide +kernel)
set_option maxRecDepth 20000 in
theorem wm1076 : (Jvm.Cond.instanceMethod ({ cls := "NearSpell$Pieces", name := "weighTwo", desc := "(II)V" } : Jvm.MethodName)) ∈ wTs := wmem (i := 1076) (by decide +kernel) (by decide +kernel)
set_option maxRecDepth 20000 in
theorem wm1077 : (Jvm.Cond.code ({ cls := "NearSpell$Pieces", name := "weighTwo", desc := "(II)V" } : Jvm.MethodName) prog_7_method_8_code (7 : Nat) (Option.none : Option Jvm.ClassFile.FieldType)) ∈ wTs := wmem (i := 1077) (by decide +kernel) (by decide +kernel)
set_option maxRecDepth 20000 in
theorem wm1078 : (Jvm.Cond.methodLink "NearSpell$Pieces" (67 : Nat) ({ cls := "NearSpell$State", name := "given", desc := "()I" } : Jvm.MethodName)) ∈ wTs := wmem (i := 1078) (by decide +kernel) (by decide +kernel)
set_option maxRecDepth 20000 in
theorem wm1079 : (Jvm.Cond.methodLink "NearSpell$Pieces" (71 : Nat) ({ cls := "NearSpell$State", name := "isEntry", desc := "(I)Z" } : Jvm.MethodName)) ∈ wTs := wmem (i := 1079) (by decide +kernel) (by decide +kernel)
set_option maxRecDepth 20000 in
theorem wm1080 : (Jvm.Cond.methodLink "NearSpell$Pieces" (75 : Nat) ({ cls := "NearSpell$State", name := "spellingOf", desc := "(I)I" } : Jvm.MethodName)) ∈ wTs := wmem (i := 1080) (by decide +kernel) (by decide +kernel)
set_option maxRecDepth 20000 in
theorem wm1081 : (Jvm.Cond.methodLink "NearSpell$Pieces" (85 : Nat) ({ cls := "NearSpell$Ruler", name := "restart", desc := "(I)I" } : Jvm.MethodName)) ∈ wTs := wmem (i := 1081) (by decide +kernel) (by decide +kernel)
set_option maxRecDepth 20000 in
theorem wm1082 : (Jvm.Cond.instanceMethod ({ cls := "NearSpell$Ruler", name := "restart", desc := "(I)I" } : Jvm.MethodName)) ∈ wTs := wmem (i := 1082) (by decide +kernel) (by decide +kernel)
set_option maxRecDepth 20000 in
theorem wm1083 : (Jvm.Cond.selects "NearSpell$Ruler" ({ cls := "NearSpell$Ruler", name := "restart", desc := "(I)I" } : Jvm.MethodName) ({ cls := "NearSpell$Ruler", name := "restart", desc := "(I)I" } : Jvm.MethodName)) ∈ wTs := wmem (i := 1083) (by decide +kernel) (by decide +kernel)
set_option maxRecDepth 20000 in
theorem wm1084 : (Jvm.Cond.code ({ cls := "NearSpell$Ruler", name := "restart", desc := "(I)I" } : Jvm.MethodName) prog_9_method_6_code (2 : Nat) (Option.some Jvm.ClassFile.FieldType.int)) ∈ wTs := wmem (i := 1084) (by decide +kernel) (by decide +kernel)
set_option maxRecDepth 20000 in
theorem wm1085 : (Jvm.Cond.methodLink "NearSpell$Pieces" (88 : Nat) ({ cls := "java/lang/Math", name := "abs", desc := "(I)I" } : Jvm.MethodName)) ∈ wTs := wmem (i := 1085) (by decide +kernel) (by decide +kernel)
set_option maxRecDepth 20000 in
theorem wm1086 : (Jvm.Cond.static ({ cls := "java/lang/Math", name := "abs", desc := "(I)I" } : Jvm.MethodName)) ∈ wTs := wmem (i := 1086) (by decide +kernel) (by decide +kernel)
set_option maxRecDepth 20000 in
theorem wm1087 : (Jvm.Cond.code ({ cls := "java/lang/Math", name := "abs", desc := "(I)I" } : Jvm.MethodName) prog_17_method_59_code (1 : Nat) (Option.some Jvm.ClassFile.FieldType.int)) ∈ wTs := wmem (i := 1087) (by decide +kernel) (by decide +kernel)
set_option maxRecDepth 20000 in
theorem wm1088 : (Jvm.Cond.methodLink "NearSpell$Pieces" (93 : Nat) ({ cls := "NearSpell$Ruler", name := "toLonger", desc := "(II)I" } : Jvm.MethodName)) ∈ wTs := wmem (i := 1088) (by decide +kernel) (by decide +kernel)
set_option maxRecDepth 20000 in
theorem wm1089 : (Jvm.Cond.methodLink "NearSpell$Pieces" (81 : Nat) ({ cls := "NearSpell$Pieces", name := "note", desc := "(III)V" } : Jvm.MethodName)) ∈ wTs := wmem (i := 1089) (by decide +kernel) (by decide +kernel)
set_option maxRecDepth 20000 in
theorem wm1091 : (Jvm.Cond.instanceMethod ({ cls := "NearSpell$Pieces", name := "note", desc := "(III)V" } : Jvm.MethodName)) ∈ wTs := wmem (i := 1091) (by decide +kernel) (by decide +kernel)
set_option maxRecDepth 20000 in
theorem wm1092 : (Jvm.Cond.code ({ cls := "NearSpell$Pieces", name := "note", desc := "(III)V" } : Jvm.MethodName) prog_7_method_6_code (4 : Nat) (Option.none : Option Jvm.ClassFile.FieldType)) ∈ wTs := wmem (i := 1092) (by decide +kernel) (by decide +kernel)
set_option maxRecDepth 20000 in
theorem wm1097 : (Jvm.Cond.methodLink "NearSpell" (254 : Nat) ({ cls := "NearSpell$Pieces", name := "weighJoined", desc := "(I)V" } : Jvm.MethodName)) ∈ wTs := wmem (i := 1097) (by decide +kernel) (by decide +kernel)
set_option maxRecDepth 20000 in
theorem wm1098 : (Jvm.Cond.instanceMethod ({ cls := "NearSpell$Pieces", name := "weighJoined", desc := "(I)V" } : Jvm.MethodName)) ∈ wTs := wmem (i := 1098) (by decide +kernel) (by decide +kernel)
set_option maxRecDepth 20000 in
theorem wm1099 : (Jvm.Cond.selects "NearSpell$Pieces" ({ cls := "NearSpell$Pieces", name := "weighJoined", desc := "(I)V" } : Jvm.MethodName) ({ cls := "NearSpell$Pieces", name := "weighJoined", desc := "(I)V" } : Jvm.MethodName)) ∈ wTs := wmem (i := 1099) (by decide +kernel) (by decide +kernel)
set_option maxRecDepth 20000 in
theorem wm1100 : (Jvm.Cond.code ({ cls := "NearSpell$Pieces", name := "weighJoined", desc := "(I)V" } : Jvm.MethodName) prog_7_method_3_code (2 : Nat) (Option.none : Option Jvm.ClassFile.FieldType)) ∈ wTs := wmem (i := 1100) (by decide +kernel) (by decide +kernel)
set_option maxRecDepth 20000 in
theorem wm1101 : (Jvm.Cond.methodLink "NearSpell$Pieces" (43 : Nat) ({ cls := "NearSpell$State", name := "typedAt", desc := "(I)I" } : Jvm.MethodName)) ∈ wTs := wmem (i := 1101) (by decide +kernel) (by decide +kernel)
set_option maxRecDepth 20000 in
theorem wm1102 : (Jvm.Cond.methodLink "NearSpell$Pieces" (48 : Nat) ({ cls := "NearSpell$Ruler", name := "addText", desc := "(I)V" } : Jvm.MethodName)) ∈ wTs := wmem (i := 1102) (by decide +kernel) (by decide +kernel)
set_option maxRecDepth 20000 in
theorem wm1103 : (Jvm.Cond.instanceMethod ({ cls := "NearSpell$Ruler", name := "addText", desc := "(I)V" } : Jvm.MethodName)) ∈ wTs := wmem (i := 1103) (by decide +kernel) (by decide +kernel)
set_option maxRecDepth 20000 in
theorem wm1104 : (Jvm.Cond.selects "NearSpell$Ruler" ({ cls := "NearSpell$Ruler", name := "addText", desc := "(I)V" } : Jvm.MethodName) ({ cls := "NearSpell$Ruler", name := "addText", desc := "(I)V" } : Jvm.MethodName)) ∈ wTs := wmem (i := 1104) (by decide +kernel) (by decide +kernel)
set_option maxRecDepth 20000 in
theorem wm1105 : (Jvm.Cond.code ({ cls := "NearSpell$Ruler", name := "addText", desc := "(I)V" } : Jvm.MethodName) prog_9_method_4_code (2 : Nat) (Option.none : Option Jvm.ClassFile.FieldType)) ∈ wTs := wmem (i := 1105) (by decide +kernel) (by decide +kernel)
set_option maxRecDepth 20000 in
theorem wm1106 : (Jvm.Cond.methodLink "NearSpell$Pieces" (51 : Nat) ({ cls := "NearSpell$Pieces", name := "weighSingle", desc := "()V" } : Jvm.MethodName)) ∈ wTs := wmem (i := 1106) (by decide +kernel) (by decide +kernel)
set_option maxRecDepth 20000 in
theorem wm1108 : (Jvm.Cond.instanceMethod ({ cls := "NearSpell$Pieces", name := "weighSingle", desc := "()V" } : Jvm.MethodName)) ∈ wTs := wmem (i := 1108) (by decide +kernel) (by decide +kernel)
set_option maxRecDepth 20000 in
theorem wm1109 : (Jvm.Cond.code ({ cls := "NearSpell$Pieces", name := "weighSingle", desc := "()V" } : Jvm.MethodName) prog_7_method_7_code (2 : Nat) (Option.none : Option Jvm.ClassFile.FieldType)) ∈ wTs := wmem (i := 1109) (by decide +kernel) (by decide +kernel)
set_option maxRecDepth 20000 in
theorem wm1110 : (Jvm.Cond.methodLink "NearSpell$Pieces" (78 : Nat) ({ cls := "NearSpell$Ruler", name := "to", desc := "(I)I" } : Jvm.MethodName)) ∈ wTs := wmem (i := 1110) (by decide +kernel) (by decide +kernel)
set_option maxRecDepth 20000 in
theorem wm1115 : (Jvm.Cond.methodLink "NearSpell" (257 : Nat) ({ cls := "NearSpell$Pieces", name := "readPhrase", desc := "()Z" } : Jvm.MethodName)) ∈ wTs := wmem (i := 1115) (by decide +kernel) (by decide +kernel)
set_option maxRecDepth 20000 in
theorem wm1116 : (Jvm.Cond.instanceMethod ({ cls := "NearSpell$Pieces", name := "readPhrase", desc := "()Z" } : Jvm.MethodName)) ∈ wTs := wmem (i := 1116) (by decide +kernel) (by decide +kernel)
set_option maxRecDepth 20000 in
theorem wm1117 : (Jvm.Cond.selects "NearSpell$Pieces" ({ cls := "NearSpell$Pieces", name := "readPhrase", desc := "()Z" } : Jvm.MethodName) ({ cls := "NearSpell$Pieces", name := "readPhrase", desc := "()Z" } : Jvm.MethodName)) ∈ wTs := wmem (i := 1117) (by decide +kernel) (by decide +kernel)
set_option maxRecDepth 20000 in
theorem wm1118 : (Jvm.Cond.code ({ cls := "NearSpell$Pieces", name := "readPhrase", desc := "()Z" } : Jvm.MethodName) prog_7_method_9_code (3 : Nat) (Option.some Jvm.ClassFile.FieldType.boolean)) ∈ wTs := wmem (i := 1118) (by decide +kernel) (by decide +kernel)
set_option maxRecDepth 20000 in
theorem wm1119 : (Jvm.Cond.methodLink "NearSpell$Pieces" (97 : Nat) ({ cls := "NearSpell$State", name := "phraseSize", desc := "()I" } : Jvm.MethodName)) ∈ wTs := wmem (i := 1119) (by decide +kernel) (by decide +kernel)
set_option maxRecDepth 20000 in
theorem wm1120 : (Jvm.Cond.methodLink "NearSpell$Pieces" (100 : Nat) ({ cls := "NearSpell$State", name := "entries", desc := "()I" } : Jvm.MethodName)) ∈ wTs := wmem (i := 1120) (by decide +kernel) (by decide +kernel)
set_option maxRecDepth 20000 in
theorem wm1121 : (Jvm.Cond.methodLink "NearSpell$Pieces" (103 : Nat) ({ cls := "NearSpell$Pieces", name := "weighTyped", desc := "(I)V" } : Jvm.MethodName)) ∈ wTs := wmem (i := 1121) (by decide +kernel) (by decide +kernel)
set_option maxRecDepth 20000 in
theorem wm1123 : (Jvm.Cond.instanceMethod ({ cls := "NearSpell$Pieces", name := "weighTyped", desc := "(I)V" } : Jvm.MethodName)) ∈ wTs := wmem (i := 1123) (by decide +kernel) (by decide +kernel)
set_option maxRecDepth 20000 in
theorem wm1124 : (Jvm.Cond.code ({ cls := "NearSpell$Pieces", name := "weighTyped", desc := "(I)V" } : Jvm.MethodName) prog_7_method_4_code (3 : Nat) (Option.none : Option Jvm.ClassFile.FieldType)) ∈ wTs := wmem (i := 1124) (by decide +kernel) (by decide +kernel)
set_option maxRecDepth 20000 in
theorem wm1125 : (Jvm.Cond.methodLink "NearSpell$Pieces" (106 : Nat) ({ cls := "NearSpell$Pieces", name := "weighJoined", desc := "(I)V" } : Jvm.MethodName)) ∈ wTs := wmem (i := 1125) (by decide +kernel) (by decide +kernel)
set_option maxRecDepth 20000 in
theorem wm1126 : (Jvm.Cond.methodLink "NearSpell$Pieces" (109 : Nat) ({ cls := "NearSpell$Pieces", name := "takeJoined", desc := "(I)V" } : Jvm.MethodName)) ∈ wTs := wmem (i := 1126) (by decide +kernel) (by decide +kernel)
set_option maxRecDepth 20000 in
theorem wm1128 : (Jvm.Cond.instanceMethod ({ cls := "NearSpell$Pieces", name := "takeJoined", desc := "(I)V" } : Jvm.MethodName)) ∈ wTs := wmem (i := 1128) (by decide +kernel) (by decide +kernel)
set_option maxRecDepth 20000 in
theorem wm1129 : (Jvm.Cond.code ({ cls := "NearSpell$Pieces", name := "takeJoined", desc := "(I)V" } : Jvm.MethodName) prog_7_method_10_code (4 : Nat) (Option.none : Option Jvm.ClassFile.FieldType)) ∈ wTs := wmem (i := 1129) (by decide +kernel) (by decide +kernel)
set_option maxRecDepth 20000 in
theorem wm1130 : (Jvm.Cond.methodLink "NearSpell" (261 : Nat) ({ cls := "NearSpell$Pieces", name := "cost", desc := "()I" } : Jvm.MethodName)) ∈ wTs := wmem (i := 1130) (by decide +kernel) (by decide +kernel)
set_option maxRecDepth 20000 in
theorem wm1131 : (Jvm.Cond.instanceMethod ({ cls := "NearSpell$Pieces", name := "cost", desc := "()I" } : Jvm.MethodName)) ∈ wTs := wmem (i := 1131) (by decide +kernel) (by decide +kernel)
set_option maxRecDepth 20000 in
theorem wm1132 : (Jvm.Cond.selects "NearSpell$Pieces" ({ cls := "NearSpell$Pieces", name := "cost", desc := "()I" } : Jvm.MethodName) ({ cls := "NearSpell$Pieces", name := "cost", desc := "()I" } : Jvm.MethodName)) ∈ wTs := wmem (i := 1132) (by decide +kernel) (by decide +kernel)
set_option maxRecDepth 20000 in
theorem wm1133 : (Jvm.Cond.code ({ cls := "NearSpell$Pieces", name := "cost", desc := "()I" } : Jvm.MethodName) prog_7_method_11_code (1 : Nat) (Option.some Jvm.ClassFile.FieldType.int)) ∈ wTs := wmem (i := 1133) (by decide +kernel) (by decide +kernel)
set_option maxRecDepth 20000 in
theorem wm1134 : (Jvm.Cond.methodLink "NearSpell$Pieces" (112 : Nat) ({ cls := "java/lang/Math", name := "min", desc := "(II)I" } : Jvm.MethodName)) ∈ wTs := wmem (i := 1134) (by decide +kernel) (by decide +kernel)
set_option maxRecDepth 20000 in
theorem wm1139 : (Jvm.Cond.methodLink "NearSpell" (264 : Nat) ({ cls := "NearSpell$Pieces", name := "ways", desc := "()I" } : Jvm.MethodName)) ∈ wTs := wmem (i := 1139) (by decide +kernel) (by decide +kernel)
set_option maxRecDepth 20000 in
theorem wm1140 : (Jvm.Cond.instanceMethod ({ cls := "NearSpell$Pieces", name := "ways", desc := "()I" } : Jvm.MethodName)) ∈ wTs := wmem (i := 1140) (by decide +kernel) (by decide +kernel)
set_option maxRecDepth 20000 in
theorem wm1141 : (Jvm.Cond.selects "NearSpell$Pieces" ({ cls := "NearSpell$Pieces", name := "ways", desc := "()I" } : Jvm.MethodName) ({ cls := "NearSpell$Pieces", name := "ways", desc := "()I" } : Jvm.MethodName)) ∈ wTs := wmem (i := 1141) (by decide +kernel) (by decide +kernel)
set_option maxRecDepth 20000 in
theorem wm1142 : (Jvm.Cond.code ({ cls := "NearSpell$Pieces", name := "ways", desc := "()I" } : Jvm.MethodName) prog_7_method_12_code (1 : Nat) (Option.some Jvm.ClassFile.FieldType.int)) ∈ wTs := wmem (i := 1142) (by decide +kernel) (by decide +kernel)
set_option maxRecDepth 20000 in
theorem wm1147 : (Jvm.Cond.methodLink "NearSpell" (267 : Nat) ({ cls := "NearSpell$Web", name := "closestPair", desc := "(I)I" } : Jvm.MethodName)) ∈ wTs := wmem (i := 1147) (by decide +kernel) (by decide +kernel)
set_option maxRecDepth 20000 in
theorem wm1148 : (Jvm.Cond.instanceMethod ({ cls := "NearSpell$Web", name := "closestPair", desc := "(I)I" } : Jvm.MethodName)) ∈ wTs := wmem (i := 1148) (by decide +kernel) (by decide +kernel)
set_option maxRecDepth 20000 in
theorem wm1149 : (Jvm.Cond.selects "NearSpell$Web" ({ cls := "NearSpell$Web", name := "closestPair", desc := "(I)I" } : Jvm.MethodName) ({ cls := "NearSpell$Web", name := "closestPair", desc := "(I)I" } : Jvm.MethodName)) ∈ wTs := wmem (i := 1149) (by decide +kernel) (by decide +kernel)
set_option maxRecDepth 20000 in
theorem wm1150 : (Jvm.Cond.code ({ cls := "NearSpell$Web", name := "closestPair", desc := "(I)I" } : Jvm.MethodName) prog_11_method_5_code (8 : Nat) (Option.some Jvm.ClassFile.FieldType.int)) ∈ wTs := wmem (i := 1150) (by decide +kernel) (by decide +kernel)
set_option maxRecDepth 20000 in
theorem wm1151 : (Jvm.Cond.methodLink "NearSpell$Web" (57 : Nat) ({ cls := "NearSpell$Web", name := "measure", desc := "()V" } : Jvm.MethodName)) ∈ wTs := wmem (i := 1151) (by decide +kernel) (by decide +kernel)
set_option maxRecDepth 20000 in
theorem wm1153 : (Jvm.Cond.instanceMethod ({ cls := "NearSpell$Web", name := "measure", desc := "()V" } : Jvm.MethodName)) ∈ wTs := wmem (i := 1153) (by decide +kernel) (by decide +kernel)
set_option maxRecDepth 20000 in
theorem wm1154 : (Jvm.Cond.code ({ cls := "NearSpell$Web", name := "measure", desc := "()V" } : Jvm.MethodName) prog_11_method_2_code (4 : Nat) (Option.none : Option Jvm.ClassFile.FieldType)) ∈ wTs := wmem (i := 1154) (by decide +kernel) (by decide +kernel)
set_option maxRecDepth 20000 in
theorem wm1155 : (Jvm.Cond.methodLink "NearSpell$Web" (30 : Nat) ({ cls := "NearSpell$State", name := "given", desc := "()I" } : Jvm.MethodName)) ∈ wTs := wmem (i := 1155) (by decide +kernel) (by decide +kernel)
set_option maxRecDepth 20000 in
theorem wm1156 : (Jvm.Cond.methodLink "NearSpell$Web" (36 : Nat) ({ cls := "NearSpell$State", name := "isEntry", desc := "(I)Z" } : Jvm.MethodName)) ∈ wTs := wmem (i := 1156) (by decide +kernel) (by decide +kernel)
set_option maxRecDepth 20000 in
theorem wm1157 : (Jvm.Cond.methodLink "NearSpell$Web" (40 : Nat) ({ cls := "NearSpell$State", name := "spellingOf", desc := "(I)I" } : Jvm.MethodName)) ∈ wTs := wmem (i := 1157) (by decide +kernel) (by decide +kernel)
set_option maxRecDepth 20000 in
theorem wm1158 : (Jvm.Cond.methodLink "NearSpell$Web" (44 : Nat) ({ cls := "NearSpell$Ruler", name := "setText", desc := "(I)V" } : Jvm.MethodName)) ∈ wTs := wmem (i := 1158) (by decide +kernel) (by decide +kernel)
set_option maxRecDepth 20000 in
theorem wm1159 : (Jvm.Cond.methodLink "NearSpell$Web" (50 : Nat) ({ cls := "NearSpell$Web", name := "isIn", desc := "(II)Z" } : Jvm.MethodName)) ∈ wTs := wmem (i := 1159) (by decide +kernel) (by decide +kernel)
set_option maxRecDepth 20000 in
theorem wm1161 : (Jvm.Cond.instanceMethod ({ cls := "NearSpell$Web", name := "isIn", desc := "(II)Z" } : Jvm.MethodName)) ∈ wTs := wmem (i := 1161) (by decide +kernel) (by decide +kernel)
set_option maxRecDepth 20000 in
theorem wm1162 : (Jvm.Cond.code ({ cls := "NearSpell$Web", name := "isIn", desc := "(II)Z" } : Jvm.MethodName) prog_11_method_3_code (3 : Nat) (Option.some Jvm.ClassFile.FieldType.boolean)) ∈ wTs := wmem (i := 1162) (by decide +kernel) (by decide +kernel)
set_option maxRecDepth 20000 in
theorem wm1163 : (Jvm.Cond.methodLink "NearSpell$Web" (54 : Nat) ({ cls := "NearSpell$Ruler", name := "to", desc := "(I)I" } : Jvm.MethodName)) ∈ wTs := wmem (i := 1163) (by decide +kernel) (by decide +kernel)
set_option maxRecDepth 20000 in
theorem wm1168 : (Jvm.Cond.methodLink "NearSpell" (270 : Nat) ({ cls := "NearSpell$Web", name := "countGroups", desc := "(I)I" } : Jvm.MethodName)) ∈ wTs := wmem (i := 1168) (by decide +kernel) (by decide +kernel)
set_option maxRecDepth 20000 in
theorem wm1169 : (Jvm.Cond.instanceMethod ({ cls := "NearSpell$Web", name := "countGroups", desc := "(I)I" } : Jvm.MethodName)) ∈ wTs := wmem (i := 1169) (by decide +kernel) (by decide +kernel)
set_option maxRecDepth 20000 in
theorem wm1170 : (Jvm.Cond.selects "NearSpell$Web" ({ cls := "NearSpell$Web", name := "countGroups", desc := "(I)I" } : Jvm.MethodName) ({ cls := "NearSpell$Web", name := "countGroups", desc := "(I)I" } : Jvm.MethodName)) ∈ wTs := wmem (i := 1170) (by decide +kernel) (by decide +kernel)
set_option maxRecDepth 20000 in
theorem wm1171 : (Jvm.Cond.code ({ cls := "NearSpell$Web", name := "countGroups", desc := "(I)I" } : Jvm.MethodName) prog_11_method_6_code (5 : Nat) (Option.some Jvm.ClassFile.FieldType.int)) ∈ wTs := wmem (i := 1171) (by decide +kernel) (by decide +kernel)
set_option maxRecDepth 20000 in
theorem wm1172 : (Jvm.Cond.methodLink "NearSpell$Web" (60 : Nat) ({ cls := "NearSpell$Web", name := "link", desc := "(I)V" } : Jvm.MethodName)) ∈ wTs := wmem (i := 1172) (by decide +kernel) (by decide +kernel)
set_option maxRecDepth 20000 in
theorem wm1174 : (Jvm.Cond.instanceMethod ({ cls := "NearSpell$Web", name := "link", desc := "(I)V" } : Jvm.MethodName)) ∈ wTs := wmem (i := 1174) (by decide +kernel) (by decide +kernel)
set_option maxRecDepth 20000 in
theorem wm1175 : (Jvm.Cond.code ({ cls := "NearSpell$Web", name := "link", desc := "(I)V" } : Jvm.MethodName) prog_11_method_4_code (5 : Nat) (Option.none : Option Jvm.ClassFile.FieldType)) ∈ wTs := wmem (i := 1175) (by decide +kernel) (by decide +kernel)
set_option maxRecDepth 20000 in
theorem wm1176 : (Jvm.Cond.methodLink "NearSpell$Web" (63 : Nat) ({ cls := "NearSpell$Web", name := "hangingTo", desc := "(I)I" } : Jvm.MethodName)) ∈ wTs := wmem (i := 1176) (by decide +kernel) (by decide +kernel)
set_option maxRecDepth 20000 in
theorem wm1178 : (Jvm.Cond.instanceMethod ({ cls := "NearSpell$Web", name := "hangingTo", desc := "(I)I" } : Jvm.MethodName)) ∈ wTs := wmem (i := 1178) (by decide +kernel) (by decide +kernel)
set_option maxRecDepth 20000 in
theorem wm1179 : (Jvm.Cond.code ({ cls := "NearSpell$Web", name := "hangingTo", desc := "(I)I" } : Jvm.MethodName) prog_11_method_7_code (4 : Nat) (Option.some Jvm.ClassFile.FieldType.int)) ∈ wTs := wmem (i := 1179) (by decide +kernel) (by decide +kernel)
set_option maxRecDepth 20000 in
theorem wm1180 : (Jvm.Cond.methodLink "NearSpell$Web" (66 : Nat) ({ cls := "NearSpell$Web", name := "stepOn", desc := "(I)I" } : Jvm.MethodName)) ∈ wTs := wmem (i := 1180) (by decide +kernel) (by decide +kernel)
set_option maxRecDepth 20000 in
theorem wm1182 : (Jvm.Cond.instanceMethod ({ cls := "NearSpell$Web", name := "stepOn", desc := "(I)I" } : Jvm.MethodName)) ∈ wTs := wmem (i := 1182) (by decide +kernel) (by decide +kernel)
set_option maxRecDepth 20000 in
theorem wm1183 : (Jvm.Cond.code ({ cls := "NearSpell$Web", name := "stepOn", desc := "(I)I" } : Jvm.MethodName) prog_11_method_8_code (4 : Nat) (Option.some Jvm.ClassFile.FieldType.int)) ∈ wTs := wmem (i := 1183) (by decide +kernel) (by decide +kernel)
set_option maxRecDepth 20000 in
theorem wm1188 : (Jvm.Cond.methodLink "NearSpell" (273 : Nat) ({ cls := "NearSpell$Web", name := "farApart", desc := "(I)I" } : Jvm.MethodName)) ∈ wTs := wmem (i := 1188) (by decide +kernel) (by decide +kernel)
set_option maxRecDepth 20000 in
theorem wm1189 : (Jvm.Cond.instanceMethod ({ cls := "NearSpell$Web", name := "farApart", desc := "(I)I" } : Jvm.MethodName)) ∈ wTs := wmem (i := 1189) (by decide +kernel) (by decide +kernel)
set_option maxRecDepth 20000 in
theorem wm1190 : (Jvm.Cond.selects "NearSpell$Web" ({ cls := "NearSpell$Web", name := "farApart", desc := "(I)I" } : Jvm.MethodName) ({ cls := "NearSpell$Web", name := "farApart", desc := "(I)I" } : Jvm.MethodName)) ∈ wTs := wmem (i := 1190) (by decide +kernel) (by decide +kernel)
set_option maxRecDepth 20000 in
theorem wm1191 : (Jvm.Cond.code ({ cls := "NearSpell$Web", name := "farApart", desc := "(I)I" } : Jvm.MethodName) prog_11_method_13_code (6 : Nat) (Option.some Jvm.ClassFile.FieldType.int)) ∈ wTs := wmem (i := 1191) (by decide +kernel) (by decide +kernel)
set_option maxRecDepth 20000 in
theorem wm1192 : (Jvm.Cond.methodLink "NearSpell$Web" (72 : Nat) ({ cls := "NearSpell$Web", name := "mostOf", desc := "(II)I" } : Jvm.MethodName)) ∈ wTs := wmem (i := 1192) (by decide +kernel) (by decide +kernel)
set_option maxRecDepth 20000 in
theorem wm1194 : (Jvm.Cond.instanceMethod ({ cls := "NearSpell$Web", name := "mostOf", desc := "(II)I" } : Jvm.MethodName)) ∈ wTs := wmem (i := 1194) (by decide +kernel) (by decide +kernel)
set_option maxRecDepth 20000 in
theorem wm1195 : (Jvm.Cond.code ({ cls := "NearSpell$Web", name := "mostOf", desc := "(II)I" } : Jvm.MethodName) prog_11_method_14_code (5 : Nat) (Option.some Jvm.ClassFile.FieldType.int)) ∈ wTs := wmem (i := 1195) (by decide +kernel) (by decide +kernel)
set_option maxRecDepth 20000 in
theorem wm1196 : (Jvm.Cond.methodLink "NearSpell$Web" (76 : Nat) ({ cls := "java/lang/Integer", name := "bitCount", desc := "(I)I" } : Jvm.MethodName)) ∈ wTs := wmem (i := 1196) (by decide +kernel) (by decide +kernel)
set_option maxRecDepth 20000 in
theorem wm1197 : (Jvm.Cond.static ({ cls := "java/lang/Integer", name := "bitCount", desc := "(I)I" } : Jvm.MethodName)) ∈ wTs := wmem (i := 1197) (by decide +kernel) (by decide +kernel)
set_option maxRecDepth 20000 in
theorem wm1198 : (Jvm.Cond.code ({ cls := "java/lang/Integer", name := "bitCount", desc := "(I)I" } : Jvm.MethodName) prog_16_method_49_code (1 : Nat) (Option.some Jvm.ClassFile.FieldType.int)) ∈ wTs := wmem (i := 1198) (by decide +kernel) (by decide +kernel)
set_option maxRecDepth 20000 in
theorem wm1199 : (Jvm.Cond.constant "java/lang/Integer" (265 : Nat) (1431655765 : Int32)) ∈ wTs := wmem (i := 1199) (by decide +kernel) (by decide +kernel)
set_option maxRecDepth 20000 in
theorem wm1200 : (Jvm.Cond.constant "java/lang/Integer" (266 : Nat) (858993459 : Int32)) ∈ wTs := wmem (i := 1200) (by decide +kernel) (by decide +kernel)
set_option maxRecDepth 20000 in
theorem wm1201 : (Jvm.Cond.constant "java/lang/Integer" (267 : Nat) (252645135 : Int32)) ∈ wTs := wmem (i := 1201) (by decide +kernel) (by decide +kernel)
set_option maxRecDepth 20000 in
theorem wm1202 : (Jvm.Cond.methodLink "NearSpell$Web" (81 : Nat) ({ cls := "java/lang/Math", name := "max", desc := "(II)I" } : Jvm.MethodName)) ∈ wTs := wmem (i := 1202) (by decide +kernel) (by decide +kernel)
set_option maxRecDepth 20000 in
theorem wm1203 : (Jvm.Cond.methodLink "NearSpell" (276 : Nat) ({ cls := "java/lang/Integer", name := "bitCount", desc := "(I)I" } : Jvm.MethodName)) ∈ wTs := wmem (i := 1203) (by decide +kernel) (by decide +kernel)
set_option maxRecDepth 20000 in
theorem wm1208 : (Jvm.Cond.methodLink "NearSpell" (281 : Nat) ({ cls := "NearSpell$Web", name := "middleEntry", desc := "()I" } : Jvm.MethodName)) ∈ wTs := wmem (i := 1208) (by decide +kernel) (by decide +kernel)
set_option maxRecDepth 20000 in
theorem wm1209 : (Jvm.Cond.instanceMethod ({ cls := "NearSpell$Web", name := "middleEntry", desc := "()I" } : Jvm.MethodName)) ∈ wTs := wmem (i := 1209) (by decide +kernel) (by decide +kernel)
set_option maxRecDepth 20000 in
theorem wm1210 : (Jvm.Cond.selects "NearSpell$Web" ({ cls := "NearSpell$Web", name := "middleEntry", desc := "()I" } : Jvm.MethodName) ({ cls := "NearSpell$Web", name := "middleEntry", desc := "()I" } : Jvm.MethodName)) ∈ wTs := wmem (i := 1210) (by decide +kernel) (by decide +kernel)
set_option maxRecDepth 20000 in
theorem wm1211 : (Jvm.Cond.code ({ cls := "NearSpell$Web", name := "middleEntry", desc := "()I" } : Jvm.MethodName) prog_11_method_11_code (5 : Nat) (Option.some Jvm.ClassFile.FieldType.int)) ∈ wTs := wmem (i := 1211) (by decide +kernel) (by decide +kernel)
set_option maxRecDepth 20000 in
theorem wm1212 : (Jvm.Cond.methodLink "NearSpell$Web" (69 : Nat) ({ cls := "NearSpell$Web", name := "sumFrom", desc := "(I)I" } : Jvm.MethodName)) ∈ wTs := wmem (i := 1212) (by decide +kernel) (by decide +kernel)
set_option maxRecDepth 20000 in
theorem wm1214 : (Jvm.Cond.instanceMethod ({ cls := "NearSpell$Web", name := "sumFrom", desc := "(I)I" } : Jvm.MethodName)) ∈ wTs := wmem (i := 1214) (by decide +kernel) (by decide +kernel)
set_option maxRecDepth 20000 in
theorem wm1215 : (Jvm.Cond.code ({ cls := "NearSpell$Web", name := "sumFrom", desc := "(I)I" } : Jvm.MethodName) prog_11_method_12_code (4 : Nat) (Option.some Jvm.ClassFile.FieldType.int)) ∈ wTs := wmem (i := 1215) (by decide +kernel) (by decide +kernel)
set_option maxRecDepth 20000 in
theorem wm1220 : (Jvm.Cond.methodLink "NearSpell" (284 : Nat) ({ cls := "NearSpell$Web", name := "stepsBetween", desc := "(III)I" } : Jvm.MethodName)) ∈ wTs := wmem (i := 1220) (by decide +kernel) (by decide +kernel)
set_option maxRecDepth 20000 in
theorem wm1221 : (Jvm.Cond.instanceMethod ({ cls := "NearSpell$Web", name := "stepsBetween", desc := "(III)I" } : Jvm.MethodName)) ∈ wTs := wmem (i := 1221) (by decide +kernel) (by decide +kernel)
set_option maxRecDepth 20000 in
theorem wm1222 : (Jvm.Cond.selects "NearSpell$Web" ({ cls := "NearSpell$Web", name := "stepsBetween", desc := "(III)I" } : Jvm.MethodName) ({ cls := "NearSpell$Web", name := "stepsBetween", desc := "(III)I" } : Jvm.MethodName)) ∈ wTs := wmem (i := 1222) (by decide +kernel) (by decide +kernel)
set_option maxRecDepth 20000 in
theorem wm1223 : (Jvm.Cond.code ({ cls := "NearSpell$Web", name := "stepsBetween", desc := "(III)I" } : Jvm.MethodName) prog_11_method_9_code (6 : Nat) (Option.some Jvm.ClassFile.FieldType.int)) ∈ wTs := wmem (i := 1223) (by decide +kernel) (by decide +kernel)
set_option maxRecDepth 20000 in
theorem wm1228 : (Jvm.Cond.methodLink "NearSpell" (288 : Nat) ({ cls := "NearSpell$Finder", name := "mostUsedFrom", desc := "(I)I" } : Jvm.MethodName)) ∈ wTs := wmem (i := 1228) (by decide +kernel) (by decide +kernel)
set_option maxRecDepth 20000 in
theorem wm1229 : (Jvm.Cond.instanceMethod ({ cls := "NearSpell$Finder", name := "mostUsedFrom", desc := "(I)I" } : Jvm.MethodName)) ∈ wTs := wmem (i := 1229) (by decide +kernel) (by decide +kernel)
set_option maxRecDepth 20000 in
theorem wm1230 : (Jvm.Cond.selects "NearSpell$Finder" ({ cls := "NearSpell$Finder", name := "mostUsedFrom", desc := "(I)I" } : Jvm.MethodName) ({ cls := "NearSpell$Finder", name := "mostUsedFrom", desc := "(I)I" } : Jvm.MethodName)) ∈ wTs := wmem (i := 1230) (by decide +kernel) (by decide +kernel)
set_option maxRecDepth 20000 in
theorem wm1231 : (Jvm.Cond.code ({ cls := "NearSpell$Finder", name := "mostUsedFrom", desc := "(I)I" } : Jvm.MethodName) prog_4_method_9_code (6 : Nat) (Option.some Jvm.ClassFile.FieldType.int)) ∈ wTs := wmem (i := 1231) (by decide +kernel) (by decide +kernel)
set_option maxRecDepth 20000 in
theorem wm1238 : (Jvm.Cond.methodLink "NearSpell" (291 : Nat) ({ cls := "NearSpell$Web", name := "countCrowded", desc := "(I)I" } : Jvm.MethodName)) ∈ wTs := wmem (i := 1238) (by decide +kernel) (by decide +kernel)
set_option maxRecDepth 20000 in
theorem wm1239 : (Jvm.Cond.instanceMethod ({ cls := "NearSpell$Web", name := "countCrowded", desc := "(I)I" } : Jvm.MethodName)) ∈ wTs := wmem (i := 1239) (by decide +kernel) (by decide +kernel)
set_option maxRecDepth 20000 in
theorem wm1240 : (Jvm.Cond.selects "NearSpell$Web" ({ cls := "NearSpell$Web", name := "countCrowded", desc := "(I)I" } : Jvm.MethodName) ({ cls := "NearSpell$Web", name := "countCrowded", desc := "(I)I" } : Jvm.MethodName)) ∈ wTs := wmem (i := 1240) (by decide +kernel) (by decide +kernel)
set_option maxRecDepth 20000 in
theorem wm1241 : (Jvm.Cond.code ({ cls := "NearSpell$Web", name := "countCrowded", desc := "(I)I" } : Jvm.MethodName) prog_11_method_10_code (4 : Nat) (Option.some Jvm.ClassFile.FieldType.int)) ∈ wTs := wmem (i := 1241) (by decide +kernel) (by decide +kernel)
set_option maxRecDepth 20000 in
theorem wm1246 : (Jvm.Cond.methodLink "NearSpell" (297 : Nat) ({ cls := "NearSpell$Laid", name := "countIn", desc := "(I)I" } : Jvm.MethodName)) ∈ wTs := wmem (i := 1246) (by decide +kernel) (by decide +kernel)
set_option maxRecDepth 20000 in
theorem wm1247 : (Jvm.Cond.instanceMethod ({ cls := "NearSpell$Laid", name := "countIn", desc := "(I)I" } : Jvm.MethodName)) ∈ wTs := wmem (i := 1247) (by decide +kernel) (by decide +kernel)
set_option maxRecDepth 20000 in
theorem wm1248 : (Jvm.Cond.selects "NearSpell$Laid" ({ cls := "NearSpell$Laid", name := "countIn", desc := "(I)I" } : Jvm.MethodName) ({ cls := "NearSpell$Laid", name := "countIn", desc := "(I)I" } : Jvm.MethodName)) ∈ wTs := wmem (i := 1248) (by decide +kernel) (by decide +kernel)
set_option maxRecDepth 20000 in
theorem wm1249 : (Jvm.Cond.code ({ cls := "NearSpell$Laid", name := "countIn", desc := "(I)I" } : Jvm.MethodName) prog_6_method_5_code (2 : Nat) (Option.some Jvm.ClassFile.FieldType.int)) ∈ wTs := wmem (i := 1249) (by decide +kernel) (by decide +kernel)
set_option maxRecDepth 20000 in
theorem wm1250 : (Jvm.Cond.methodLink "NearSpell$Laid" (61 : Nat) ({ cls := "NearSpell$Laid", name := "tally", desc := "(Z)V" } : Jvm.MethodName)) ∈ wTs := wmem (i := 1250) (by decide +kernel) (by decide +kernel)
set_option maxRecDepth 20000 in
theorem wm1252 : (Jvm.Cond.instanceMethod ({ cls := "NearSpell$Laid", name := "tally", desc := "(Z)V" } : Jvm.MethodName)) ∈ wTs := wmem (i := 1252) (by decide +kernel) (by decide +kernel)
set_option maxRecDepth 20000 in
theorem wm1253 : (Jvm.Cond.code ({ cls := "NearSpell$Laid", name := "tally", desc := "(Z)V" } : Jvm.MethodName) prog_6_method_12_code (3 : Nat) (Option.none : Option Jvm.ClassFile.FieldType)) ∈ wTs := wmem (i := 1253) (by decide +kernel) (by decide +kernel)
set_option maxRecDepth 20000 in
theorem wm1254 : (Jvm.Cond.methodLink "NearSpell$Laid" (72 : Nat) ({ cls := "NearSpell$Laid", name := "refresh", desc := "()V" } : Jvm.MethodName)) ∈ wTs := wmem (i := 1254) (by decide +kernel) (by decide +kernel)
set_option maxRecDepth 20000 in
theorem wm1256 : (Jvm.Cond.instanceMethod ({ cls := "NearSpell$Laid", name := "refresh", desc := "()V" } : Jvm.MethodName)) ∈ wTs := wmem (i := 1256) (by decide +kernel) (by decide +kernel)
set_option maxRecDepth 20000 in
theorem wm1257 : (Jvm.Cond.code ({ cls := "NearSpell$Laid", name := "refresh", desc := "()V" } : Jvm.MethodName) prog_6_method_4_code (2 : Nat) (Option.none : Option Jvm.ClassFile.FieldType)) ∈ wTs := wmem (i := 1257) (by decide +kernel) (by decide +kernel)
set_option maxRecDepth 20000 in
theorem wm1258 : (Jvm.Cond.methodLink "NearSpell$Laid" (57 : Nat) ({ cls := "NearSpell$State", name := "given", desc := "()I" } : Jvm.MethodName)) ∈ wTs := wmem (i := 1258) (by decide +kernel) (by decide +kernel)
set_option maxRecDepth 20000 in
theorem wm1259 : (Jvm.Cond.methodLink "NearSpell$Laid" (65 : Nat) ({ cls := "NearSpell$State", name := "isEntry", desc := "(I)Z" } : Jvm.MethodName)) ∈ wTs := wmem (i := 1259) (by decide +kernel) (by decide +kernel)
set_option maxRecDepth 20000 in
theorem wm1260 : (Jvm.Cond.methodLink "NearSpell$Laid" (88 : Nat) ({ cls := "NearSpell$Laid", name := "tallyEntry", desc := "(IZ)V" } : Jvm.MethodName)) ∈ wTs := wmem (i := 1260) (by decide +kernel) (by decide +kernel)
set_option maxRecDepth 20000 in
theorem wm1262 : (Jvm.Cond.instanceMethod ({ cls := "NearSpell$Laid", name := "tallyEntry", desc := "(IZ)V" } : Jvm.MethodName)) ∈ wTs := wmem (i := 1262) (by decide +kernel) (by decide +kernel)
set_option maxRecDepth 20000 in
theorem wm1263 : (Jvm.Cond.code ({ cls := "NearSpell$Laid", name := "tallyEntry", desc := "(IZ)V" } : Jvm.MethodName) prog_6_method_13_code (7 : Nat) (Option.none : Option Jvm.ClassFile.FieldType)) ∈ wTs := wmem (i := 1263) (by decide +kernel) (by decide +kernel)
set_option maxRecDepth 20000 in
theorem wm1264 : (Jvm.Cond.methodLink "NearSpell$Laid" (92 : Nat) ({ cls := "NearSpell$Book", name := "bucketOf", desc := "(I)I" } : Jvm.MethodName)) ∈ wTs := wmem (i := 1264) (by decide +kernel) (by decide +kernel)
set_option maxRecDepth 20000 in
theorem wm1265 : (Jvm.Cond.methodLink "NearSpell$Laid" (81 : Nat) ({ cls := "NearSpell$Laid", name := "isOfOthers", desc := "(III)Z" } : Jvm.MethodName)) ∈ wTs := wmem (i := 1265) (by decide +kernel) (by decide +kernel)
set_option maxRecDepth 20000 in
theorem wm1267 : (Jvm.Cond.instanceMethod ({ cls := "NearSpell$Laid", name := "isOfOthers", desc := "(III)Z" } : Jvm.MethodName)) ∈ wTs := wmem (i := 1267) (by decide +kernel) (by decide +kernel)
set_option maxRecDepth 20000 in
theorem wm1268 : (Jvm.Cond.code ({ cls := "NearSpell$Laid", name := "isOfOthers", desc := "(III)Z" } : Jvm.MethodName) prog_6_method_11_code (5 : Nat) (Option.some Jvm.ClassFile.FieldType.boolean)) ∈ wTs := wmem (i := 1268) (by decide +kernel) (by decide +kernel)
set_option maxRecDepth 20000 in
theorem wm1269 : (Jvm.Cond.methodLink "NearSpell$Laid" (85 : Nat) ({ cls := "NearSpell$FormList", name := "has", desc := "(I)Z" } : Jvm.MethodName)) ∈ wTs := wmem (i := 1269) (by decide +kernel) (by decide +kernel)
set_option maxRecDepth 20000 in
theorem wm1274 : (Jvm.Cond.methodLink "NearSpell" (300 : Nat) ({ cls := "NearSpell$Laid", name := "fullestBucket", desc := "()I" } : Jvm.MethodName)) ∈ wTs := wmem (i := 1274) (by decide +kernel) (by decide +kernel)
set_option maxRecDepth 20000 in
theorem wm1275 : (Jvm.Cond.instanceMethod ({ cls := "NearSpell$Laid", name := "fullestBucket", desc := "()I" } : Jvm.MethodName)) ∈ wTs := wmem (i := 1275) (by decide +kernel) (by decide +kernel)
set_option maxRecDepth 20000 in
theorem wm1276 : (Jvm.Cond.selects "NearSpell$Laid" ({ cls := "NearSpell$Laid", name := "fullestBucket", desc := "()I" } : Jvm.MethodName) ({ cls := "NearSpell$Laid", name := "fullestBucket", desc := "()I" } : Jvm.MethodName)) ∈ wTs := wmem (i := 1276) (by decide +kernel) (by decide +kernel)
set_option maxRecDepth 20000 in
theorem wm1277 : (Jvm.Cond.code ({ cls := "NearSpell$Laid", name := "fullestBucket", desc := "()I" } : Jvm.MethodName) prog_6_method_6_code (3 : Nat) (Option.some Jvm.ClassFile.FieldType.int)) ∈ wTs := wmem (i := 1277) (by decide +kernel) (by decide +kernel)
set_option maxRecDepth 20000 in
theorem wm1282 : (Jvm.Cond.methodLink "NearSpell" (306 : Nat) ({ cls := "NearSpell$Laid", name := "countAll", desc := "(I)I" } : Jvm.MethodName)) ∈ wTs := wmem (i := 1282) (by decide +kernel) (by decide +kernel)
set_option maxRecDepth 20000 in
theorem wm1283 : (Jvm.Cond.instanceMethod ({ cls := "NearSpell$Laid", name := "countAll", desc := "(I)I" } : Jvm.MethodName)) ∈ wTs := wmem (i := 1283) (by decide +kernel) (by decide +kernel)
set_option maxRecDepth 20000 in
theorem wm1284 : (Jvm.Cond.selects "NearSpell$Laid" ({ cls := "NearSpell$Laid", name := "countAll", desc := "(I)I" } : Jvm.MethodName) ({ cls := "NearSpell$Laid", name := "countAll", desc := "(I)I" } : Jvm.MethodName)) ∈ wTs := wmem (i := 1284) (by decide +kernel) (by decide +kernel)
set_option maxRecDepth 20000 in
theorem wm1285 : (Jvm.Cond.code ({ cls := "NearSpell$Laid", name := "countAll", desc := "(I)I" } : Jvm.MethodName) prog_6_method_7_code (4 : Nat) (Option.some Jvm.ClassFile.FieldType.int)) ∈ wTs := wmem (i := 1285) (by decide +kernel) (by decide +kernel)
set_option maxRecDepth 20000 in
theorem wm1290 : (Jvm.Cond.methodLink "NearSpell" (309 : Nat) ({ cls := "NearSpell$Laid", name := "countClashes", desc := "()I" } : Jvm.MethodName)) ∈ wTs := wmem (i := 1290) (by decide +kernel) (by decide +kernel)
set_option maxRecDepth 20000 in
theorem wm1291 : (Jvm.Cond.instanceMethod ({ cls := "NearSpell$Laid", name := "countClashes", desc := "()I" } : Jvm.MethodName)) ∈ wTs := wmem (i := 1291) (by decide +kernel) (by decide +kernel)
set_option maxRecDepth 20000 in
theorem wm1292 : (Jvm.Cond.selects "NearSpell$Laid" ({ cls := "NearSpell$Laid", name := "countClashes", desc := "()I" } : Jvm.MethodName) ({ cls := "NearSpell$Laid", name := "countClashes", desc := "()I" } : Jvm.MethodName)) ∈ wTs := wmem (i := 1292) (by decide +kernel) (by decide +kernel)
set_option maxRecDepth 20000 in
theorem wm1293 : (Jvm.Cond.code ({ cls := "NearSpell$Laid", name := "countClashes", desc := "()I" } : Jvm.MethodName) prog_6_method_8_code (3 : Nat) (Option.some Jvm.ClassFile.FieldType.int)) ∈ wTs := wmem (i := 1293) (by decide +kernel) (by decide +kernel)
set_option maxRecDepth 20000 in
theorem wm1298 : (Jvm.Cond.methodLink "NearSpell" (312 : Nat) ({ cls := "NearSpell$Laid", name := "rarestEntry", desc := "()I" } : Jvm.MethodName)) ∈ wTs := wmem (i := 1298) (by decide +kernel) (by decide +kernel)
set_option maxRecDepth 20000 in
theorem wm1299 : (Jvm.Cond.instanceMethod ({ cls := "NearSpell$Laid", name := "rarestEntry", desc := "()I" } : Jvm.MethodName)) ∈ wTs := wmem (i := 1299) (by decide +kernel) (by decide +kernel)
set_option maxRecDepth 20000 in
theorem wm1300 : (Jvm.Cond.selects "NearSpell$Laid" ({ cls := "NearSpell$Laid", name := "rarestEntry", desc := "()I" } : Jvm.MethodName) ({ cls := "NearSpell$Laid", name := "rarestEntry", desc := "()I" } : Jvm.MethodName)) ∈ wTs := wmem (i := 1300) (by decide +kernel) (by decide +kernel)
set_option maxRecDepth 20000 in
theorem wm1301 : (Jvm.Cond.code ({ cls := "NearSpell$Laid", name := "rarestEntry", desc := "()I" } : Jvm.MethodName) prog_6_method_9_code (5 : Nat) (Option.some Jvm.ClassFile.FieldType.int)) ∈ wTs := wmem (i := 1301) (by decide +kernel) (by decide +kernel)
set_option maxRecDepth 20000 in
theorem wm1302 : (Jvm.Cond.methodLink "NearSpell$Laid" (75 : Nat) ({ cls := "NearSpell$Laid", name := "countOwn", desc := "(I)I" } : Jvm.MethodName)) ∈ wTs := wmem (i := 1302) (by decide +kernel) (by decide +kernel)
set_option maxRecDepth 20000 in
theorem wm1304 : (Jvm.Cond.instanceMethod ({ cls := "NearSpell$Laid", name := "countOwn", desc := "(I)I" } : Jvm.MethodName)) ∈ wTs := wmem (i := 1304) (by decide +kernel) (by decide +kernel)
set_option maxRecDepth 20000 in
theorem wm1305 : (Jvm.Cond.code ({ cls := "NearSpell$Laid", name := "countOwn", desc := "(I)I" } : Jvm.MethodName) prog_6_method_10_code (5 : Nat) (Option.some Jvm.ClassFile.FieldType.int)) ∈ wTs := wmem (i := 1305) (by decide +kernel) (by decide +kernel)
set_option maxRecDepth 20000 in
theorem wm1314 : (Jvm.Cond.methodLink "NearSpell" (315 : Nat) ({ cls := "NearSpell", name := "commonDivisor", desc := "(II)I" } : Jvm.MethodName)) ∈ wTs := wmem (i := 1314) (by decide +kernel) (by decide +kernel)
set_option maxRecDepth 20000 in
theorem wm1315 : (Jvm.Cond.static ({ cls := "NearSpell", name := "commonDivisor", desc := "(II)I" } : Jvm.MethodName)) ∈ wTs := wmem (i := 1315) (by decide +kernel) (by decide +kernel)
set_option maxRecDepth 20000 in
theorem wm1316 : (Jvm.Cond.code ({ cls := "NearSpell", name := "commonDivisor", desc := "(II)I" } : Jvm.MethodName) prog_1_method_51_code (6 : Nat) (Option.some Jvm.ClassFile.FieldType.int)) ∈ wTs := wmem (i := 1316) (by decide +kernel) (by decide +kernel)
set_option maxRecDepth 20000 in
theorem wm1325 : (Jvm.Cond.methodLink "NearSpell" (318 : Nat) ({ cls := "NearSpell$Witness", name := "tell", desc := "(IIZ)I" } : Jvm.MethodName)) ∈ wTs := wmem (i := 1325) (by decide +kernel) (by decide +kernel)
set_option maxRecDepth 20000 in
theorem wm1326 : (Jvm.Cond.instanceMethod ({ cls := "NearSpell$Witness", name := "tell", desc := "(IIZ)I" } : Jvm.MethodName)) ∈ wTs := wmem (i := 1326) (by decide +kernel) (by decide +kernel)
set_option maxRecDepth 20000 in
theorem wm1327 : (Jvm.Cond.selects "NearSpell$Witness" ({ cls := "NearSpell$Witness", name := "tell", desc := "(IIZ)I" } : Jvm.MethodName) ({ cls := "NearSpell$Witness", name := "tell", desc := "(IIZ)I" } : Jvm.MethodName)) ∈ wTs := wmem (i := 1327) (by decide +kernel) (by decide +kernel)
set_option maxRecDepth 20000 in
theorem wm1328 : (Jvm.Cond.code ({ cls := "NearSpell$Witness", name := "tell", desc := "(IIZ)I" } : Jvm.MethodName) prog_12_method_4_code (5 : Nat) (Option.some Jvm.ClassFile.FieldType.int)) ∈ wTs := wmem (i := 1328) (by decide +kernel) (by decide +kernel)
set_option maxRecDepth 20000 in
theorem wm1333 : (Jvm.Cond.methodLink "NearSpell" (322 : Nat) ({ cls := "NearSpell$Witness", name := "takeBack", desc := "(I)Z" } : Jvm.MethodName)) ∈ wTs := wmem (i := 1333) (by decide +kernel) (by decide +kernel)
set_option maxRecDepth 20000 in
theorem wm1334 : (Jvm.Cond.instanceMethod ({ cls := "NearSpell$Witness", name := "takeBack", desc := "(I)Z" } : Jvm.MethodName)) ∈ wTs := wmem (i := 1334) (by decide +kernel) (by decide +kernel)
set_option maxRecDepth 20000 in
theorem wm1335 : (Jvm.Cond.selects "NearSpell$Witness" ({ cls := "NearSpell$Witness", name := "takeBack", desc := "(I)Z" } : Jvm.MethodName) ({ cls := "NearSpell$Witness", name := "takeBack", desc := "(I)Z" } : Jvm.MethodName)) ∈ wTs := wmem (i := 1335) (by decide +kernel) (by decide +kernel)
set_option maxRecDepth 20000 in
theorem wm1336 : (Jvm.Cond.code ({ cls := "NearSpell$Witness", name := "takeBack", desc := "(I)Z" } : Jvm.MethodName) prog_12_method_5_code (2 : Nat) (Option.some Jvm.ClassFile.FieldType.boolean)) ∈ wTs := wmem (i := 1336) (by decide +kernel) (by decide +kernel)
set_option maxRecDepth 20000 in
theorem wm1345 : (Jvm.Cond.constant "NearSpell$Witness" (46 : Nat) (100000 : Int32)) ∈ wTs := wmem (i := 1345) (by decide +kernel) (by decide +kernel)
set_option maxRecDepth 20000 in
theorem wm1350 : (Jvm.Cond.methodLink "NearSpell" (327 : Nat) ({ cls := "NearSpell$Witness", name := "fitting", desc := "(I)I" } : Jvm.MethodName)) ∈ wTs := wmem (i := 1350) (by decide +kernel) (by decide +kernel)
set_option maxRecDepth 20000 in
theorem wm1351 : (Jvm.Cond.instanceMethod ({ cls := "NearSpell$Witness", name := "fitting", desc := "(I)I" } : Jvm.MethodName)) ∈ wTs := wmem (i := 1351) (by decide +kernel) (by decide +kernel)
set_option maxRecDepth 20000 in
theorem wm1352 : (Jvm.Cond.selects "NearSpell$Witness" ({ cls := "NearSpell$Witness", name := "fitting", desc := "(I)I" } : Jvm.MethodName) ({ cls := "NearSpell$Witness", name := "fitting", desc := "(I)I" } : Jvm.MethodName)) ∈ wTs := wmem (i := 1352) (by decide +kernel) (by decide +kernel)
set_option maxRecDepth 20000 in
theorem wm1353 : (Jvm.Cond.code ({ cls := "NearSpell$Witness", name := "fitting", desc := "(I)I" } : Jvm.MethodName) prog_12_method_7_code (4 : Nat) (Option.some Jvm.ClassFile.FieldType.int)) ∈ wTs := wmem (i := 1353) (by decide +kernel) (by decide +kernel)
set_option maxRecDepth 20000 in
theorem wm1354 : (Jvm.Cond.methodLink "NearSpell$Witness" (55 : Nat) ({ cls := "NearSpell$Witness", name := "isFitting", desc := "(II)Z" } : Jvm.MethodName)) ∈ wTs := wmem (i := 1354) (by decide +kernel) (by decide +kernel)
set_option maxRecDepth 20000 in
theorem wm1356 : (Jvm.Cond.instanceMethod ({ cls := "NearSpell$Witness", name := "isFitting", desc := "(II)Z" } : Jvm.MethodName)) ∈ wTs := wmem (i := 1356) (by decide +kernel) (by decide +kernel)
set_option maxRecDepth 20000 in
theorem wm1357 : (Jvm.Cond.code ({ cls := "NearSpell$Witness", name := "isFitting", desc := "(II)Z" } : Jvm.MethodName) prog_12_method_8_code (4 : Nat) (Option.some Jvm.ClassFile.FieldType.boolean)) ∈ wTs := wmem (i := 1357) (by decide +kernel) (by decide +kernel)
set_option maxRecDepth 20000 in
theorem wm1358 : (Jvm.Cond.methodLink "NearSpell$Witness" (59 : Nat) ({ cls := "NearSpell$Ruler", name := "setText", desc := "(I)V" } : Jvm.MethodName)) ∈ wTs := wmem (i := 1358) (by decide +kernel) (by decide +kernel)
set_option maxRecDepth 20000 in
theorem wm1359 : (Jvm.Cond.methodLink "NearSpell$Witness" (65 : Nat) ({ cls := "NearSpell$Witness", name := "countsAt", desc := "(II)Z" } : Jvm.MethodName)) ∈ wTs := wmem (i := 1359) (by decide +kernel) (by decide +kernel)
set_option maxRecDepth 20000 in
theorem wm1361 : (Jvm.Cond.instanceMethod ({ cls := "NearSpell$Witness", name := "countsAt", desc := "(II)Z" } : Jvm.MethodName)) ∈ wTs := wmem (i := 1361) (by decide +kernel) (by decide +kernel)
set_option maxRecDepth 20000 in
theorem wm1362 : (Jvm.Cond.code ({ cls := "NearSpell$Witness", name := "countsAt", desc := "(II)Z" } : Jvm.MethodName) prog_12_method_6_code (4 : Nat) (Option.some Jvm.ClassFile.FieldType.boolean)) ∈ wTs := wmem (i := 1362) (by decide +kernel) (by decide +kernel)
set_option maxRecDepth 20000 in
theorem wm1363 : (Jvm.Cond.methodLink "NearSpell$Witness" (68 : Nat) ({ cls := "NearSpell$Ruler", name := "to", desc := "(I)I" } : Jvm.MethodName)) ∈ wTs := wmem (i := 1363) (by decide +kernel) (by decide +kernel)
set_option maxRecDepth 20000 in
theorem wm1368 : (Jvm.Cond.methodLink "NearSpell" (330 : Nat) ({ cls := "NearSpell$Witness", name := "bestToAsk", desc := "(II)I" } : Jvm.MethodName)) ∈ wTs := wmem (i := 1368) (by decide +kernel) (by decide +kernel)
set_option maxRecDepth 20000 in
theorem wm1369 : (Jvm.Cond.instanceMethod ({ cls := "NearSpell$Witness", name := "bestToAsk", desc := "(II)I" } : Jvm.MethodName)) ∈ wTs := wmem (i := 1369) (by decide +kernel) (by decide +kernel)
set_option maxRecDepth 20000 in
theorem wm1370 : (Jvm.Cond.selects "NearSpell$Witness" ({ cls := "NearSpell$Witness", name := "bestToAsk", desc := "(II)I" } : Jvm.MethodName) ({ cls := "NearSpell$Witness", name := "bestToAsk", desc := "(II)I" } : Jvm.MethodName)) ∈ wTs := wmem (i := 1370) (by decide +kernel) (by decide +kernel)
set_option maxRecDepth 20000 in
theorem wm1371 : (Jvm.Cond.code ({ cls := "NearSpell$Witness", name := "bestToAsk", desc := "(II)I" } : Jvm.MethodName) prog_12_method_9_code (8 : Nat) (Option.some Jvm.ClassFile.FieldType.int)) ∈ wTs := wmem (i := 1371) (by decide +kernel) (by decide +kernel)
set_option maxRecDepth 20000 in
theorem wm1372 : (Jvm.Cond.methodLink "NearSpell$Witness" (72 : Nat) ({ cls := "NearSpell$Witness", name := "fitting", desc := "(I)I" } : Jvm.MethodName)) ∈ wTs := wmem (i := 1372) (by decide +kernel) (by decide +kernel)
set_option maxRecDepth 20000 in
theorem wm1373 : (Jvm.Cond.methodLink "NearSpell$Witness" (75 : Nat) ({ cls := "NearSpell$Witness", name := "mostLeftBy", desc := "(II)I" } : Jvm.MethodName)) ∈ wTs := wmem (i := 1373) (by decide +kernel) (by decide +kernel)
set_option maxRecDepth 20000 in
theorem wm1375 : (Jvm.Cond.instanceMethod ({ cls := "NearSpell$Witness", name := "mostLeftBy", desc := "(II)I" } : Jvm.MethodName)) ∈ wTs := wmem (i := 1375) (by decide +kernel) (by decide +kernel)
set_option maxRecDepth 20000 in
theorem wm1376 : (Jvm.Cond.code ({ cls := "NearSpell$Witness", name := "mostLeftBy", desc := "(II)I" } : Jvm.MethodName) prog_12_method_10_code (6 : Nat) (Option.some Jvm.ClassFile.FieldType.int)) ∈ wTs := wmem (i := 1376) (by decide +kernel) (by decide +kernel)
set_option maxRecDepth 20000 in
theorem wm1377 : (Jvm.Cond.methodLink "NearSpell$Witness" (79 : Nat) ({ cls := "java/lang/Math", name := "max", desc := "(II)I" } : Jvm.MethodName)) ∈ wTs := wmem (i := 1377) (by decide +kernel) (by decide +kernel)
set_option maxRecDepth 20000 in
theorem wm1382 : (Jvm.Cond.methodLink "NearSpell" (333 : Nat) ({ cls := "NearSpell$Archive", name := "keepBox", desc := "(ILNearSpell$State;)V" } : Jvm.MethodName)) ∈ wTs := wmem (i := 1382) (by decide +kernel) (by decide +kernel)
set_option maxRecDepth 20000 in
theorem wm1383 : (Jvm.Cond.instanceMethod ({ cls := "NearSpell$Archive", name := "keepBox", desc := "(ILNearSpell$State;)V" } : Jvm.MethodName)) ∈ wTs := wmem (i := 1383) (by decide +kernel) (by decide +kernel)
set_option maxRecDepth 20000 in
theorem wm1384 : (Jvm.Cond.selects "NearSpell$Archive" ({ cls := "NearSpell$Archive", name := "keepBox", desc := "(ILNearSpell$State;)V" } : Jvm.MethodName) ({ cls := "NearSpell$Archive", name := "keepBox", desc := "(ILNearSpell$State;)V" } : Jvm.MethodName)) ∈ wTs := wmem (i := 1384) (by decide +kernel) (by decide +kernel)
set_option maxRecDepth 20000 in
theorem wm1385 : (Jvm.Cond.code ({ cls := "NearSpell$Archive", name := "keepBox", desc := "(ILNearSpell$State;)V" } : Jvm.MethodName) prog_2_method_10_code (3 : Nat) (Option.none : Option Jvm.ClassFile.FieldType)) ∈ wTs := wmem (i := 1385) (by decide +kernel) (by decide +kernel)
set_option maxRecDepth 20000 in
theorem wm1390 : (Jvm.Cond.methodLink "NearSpell" (337 : Nat) ({ cls := "NearSpell$Archive", name := "openBox", desc := "(ILNearSpell$State;)Z" } : Jvm.MethodName)) ∈ wTs := wmem (i := 1390) (by decide +kernel) (by decide +kernel)
set_option maxRecDepth 20000 in
theorem wm1391 : (Jvm.Cond.instanceMethod ({ cls := "NearSpell$Archive", name := "openBox", desc := "(ILNearSpell$State;)Z" } : Jvm.MethodName)) ∈ wTs := wmem (i := 1391) (by decide +kernel) (by decide +kernel)
set_option maxRecDepth 20000 in
theorem wm1392 : (Jvm.Cond.selects "NearSpell$Archive" ({ cls := "NearSpell$Archive", name := "openBox", desc := "(ILNearSpell$State;)Z" } : Jvm.MethodName) ({ cls := "NearSpell$Archive", name := "openBox", desc := "(ILNearSpell$State;)Z" } : Jvm.MethodName)) ∈ wTs := wmem (i := 1392) (by decide +kernel) (by decide +kernel)
set_option maxRecDepth 20000 in
theorem wm1393 : (Jvm.Cond.code ({ cls := "NearSpell$Archive", name := "openBox", desc := "(ILNearSpell$State;)Z" } : Jvm.MethodName) prog_2_method_11_code (3 : Nat) (Option.some Jvm.ClassFile.FieldType.boolean)) ∈ wTs := wmem (i := 1393) (by decide +kernel) (by decide +kernel)
set_option maxRecDepth 20000 in
theorem wm1398 : (Jvm.Cond.methodLink "NearSpell" (344 : Nat) ({ cls := "NearSpell$State", name := "seed", desc := "()I" } : Jvm.MethodName)) ∈ wTs := wmem (i := 1398) (by decide +kernel) (by decide +kernel)
set_option maxRecDepth 20000 in
theorem wm1399 : (Jvm.Cond.instanceMethod ({ cls := "NearSpell$State", name := "seed", desc := "()I" } : Jvm.MethodName)) ∈ wTs := wmem (i := 1399) (by decide +kernel) (by decide +kernel)
set_option maxRecDepth 20000 in
theorem wm1400 : (Jvm.Cond.selects "NearSpell$State" ({ cls := "NearSpell$State", name := "seed", desc := "()I" } : Jvm.MethodName) ({ cls := "NearSpell$State", name := "seed", desc := "()I" } : Jvm.MethodName)) ∈ wTs := wmem (i := 1400) (by decide +kernel) (by decide +kernel)
set_option maxRecDepth 20000 in
theorem wm1401 : (Jvm.Cond.code ({ cls := "NearSpell$State", name := "seed", desc := "()I" } : Jvm.MethodName) prog_10_method_5_code (1 : Nat) (Option.some Jvm.ClassFile.FieldType.int)) ∈ wTs := wmem (i := 1401) (by decide +kernel) (by decide +kernel)
set_option maxRecDepth 20000 in
theorem wm1408 : (Jvm.Cond.methodLink "NearSpellModel" (145 : Nat) ({ cls := "NearSpellModel", name := "clearBank", desc := "()V" } : Jvm.MethodName)) ∈ wTs := wmem (i := 1408) (by decide +kernel) (by decide +kernel)
set_option maxRecDepth 20000 in
theorem wm1410 : (Jvm.Cond.instanceMethod ({ cls := "NearSpellModel", name := "clearBank", desc := "()V" } : Jvm.MethodName)) ∈ wTs := wmem (i := 1410) (by decide +kernel) (by decide +kernel)
set_option maxRecDepth 20000 in
theorem wm1411 : (Jvm.Cond.code ({ cls := "NearSpellModel", name := "clearBank", desc := "()V" } : Jvm.MethodName) prog_14_method_15_code (1 : Nat) (Option.none : Option Jvm.ClassFile.FieldType)) ∈ wTs := wmem (i := 1411) (by decide +kernel) (by decide +kernel)
set_option maxRecDepth 20000 in
theorem wm1412 : (Jvm.Cond.methodLink "NearSpellModel" (148 : Nat) ({ cls := "NearSpellModel", name := "startAnew", desc := "()V" } : Jvm.MethodName)) ∈ wTs := wmem (i := 1412) (by decide +kernel) (by decide +kernel)
set_option maxRecDepth 20000 in
theorem wm1414 : (Jvm.Cond.instanceMethod ({ cls := "NearSpellModel", name := "startAnew", desc := "()V" } : Jvm.MethodName)) ∈ wTs := wmem (i := 1414) (by decide +kernel) (by decide +kernel)
set_option maxRecDepth 20000 in
theorem wm1415 : (Jvm.Cond.code ({ cls := "NearSpellModel", name := "startAnew", desc := "()V" } : Jvm.MethodName) prog_14_method_45_code (2 : Nat) (Option.none : Option Jvm.ClassFile.FieldType)) ∈ wTs := wmem (i := 1415) (by decide +kernel) (by decide +kernel)
set_option maxRecDepth 20000 in
theorem wm1416 : (Jvm.Cond.fieldLink "NearSpellModel" (7 : Nat) "NearSpellModel" "tape" "[B") ∈ wTs := wmem (i := 1416) (by decide +kernel) (by decide +kernel)
set_option maxRecDepth 20000 in
theorem wm1417 : (Jvm.Cond.fieldLink "NearSpellModel" (13 : Nat) "NearSpellModel" "text" "[B") ∈ wTs := wmem (i := 1417) (by decide +kernel) (by decide +kernel)
set_option maxRecDepth 20000 in
theorem wm1418 : (Jvm.Cond.fieldLink "NearSpellModel" (239 : Nat) "NearSpellModel" "taped" "I") ∈ wTs := wmem (i := 1418) (by decide +kernel) (by decide +kernel)
set_option maxRecDepth 20000 in
theorem wm1419 : (Jvm.Cond.fieldLink "NearSpellModel" (151 : Nat) "NearSpellModel" "size" "I") ∈ wTs := wmem (i := 1419) (by decide +kernel) (by decide +kernel)
set_option maxRecDepth 20000 in
theorem wm1420 : (Jvm.Cond.fieldLink "NearSpellModel" (154 : Nat) "NearSpellModel" "faultKind" "I") ∈ wTs := wmem (i := 1420) (by decide +kernel) (by decide +kernel)
set_option maxRecDepth 20000 in
theorem wm1421 : (Jvm.Cond.fieldLink "NearSpellModel" (16 : Nat) "NearSpellModel" "faultPlace" "I") ∈ wTs := wmem (i := 1421) (by decide +kernel) (by decide +kernel)
set_option maxRecDepth 20000 in
theorem wm1422 : (Jvm.Cond.fieldLink "NearSpellModel" (188 : Nat) "NearSpellModel" "at" "I") ∈ wTs := wmem (i := 1422) (by decide +kernel) (by decide +kernel)
set_option maxRecDepth 20000 in
theorem wm1423 : (Jvm.Cond.fieldLink "NearSpellModel" (185 : Nat) "NearSpellModel" "end" "I") ∈ wTs := wmem (i := 1423) (by decide +kernel) (by decide +kernel)
set_option maxRecDepth 20000 in
theorem wm1424 : (Jvm.Cond.fieldLink "NearSpellModel" (195 : Nat) "NearSpellModel" "token" "I") ∈ wTs := wmem (i := 1424) (by decide +kernel) (by decide +kernel)
set_option maxRecDepth 20000 in
theorem wm1425 : (Jvm.Cond.fieldLink "NearSpellModel" (213 : Nat) "NearSpellModel" "number" "I") ∈ wTs := wmem (i := 1425) (by decide +kernel) (by decide +kernel)
set_option maxRecDepth 20000 in
theorem wm1426 : (Jvm.Cond.fieldLink "NearSpellModel" (202 : Nat) "NearSpellModel" "name" "J") ∈ wTs := wmem (i := 1426) (by decide +kernel) (by decide +kernel)
set_option maxRecDepth 20000 in
theorem wm1427 : (Jvm.Cond.fieldLink "NearSpellModel" (20 : Nat) "NearSpellModel" "words" "[I") ∈ wTs := wmem (i := 1427) (by decide +kernel) (by decide +kernel)
set_option maxRecDepth 20000 in
theorem wm1428 : (Jvm.Cond.fieldLink "NearSpellModel" (24 : Nat) "NearSpellModel" "units" "[I") ∈ wTs := wmem (i := 1428) (by decide +kernel) (by decide +kernel)
set_option maxRecDepth 20000 in
theorem wm1429 : (Jvm.Cond.fieldLink "NearSpellModel" (27 : Nat) "NearSpellModel" "prefix" "[I") ∈ wTs := wmem (i := 1429) (by decide +kernel) (by decide +kernel)
set_option maxRecDepth 20000 in
theorem wm1430 : (Jvm.Cond.fieldLink "NearSpellModel" (30 : Nat) "NearSpellModel" "errors" "[I") ∈ wTs := wmem (i := 1430) (by decide +kernel) (by decide +kernel)
set_option maxRecDepth 20000 in
theorem wm1431 : (Jvm.Cond.fieldLink "NearSpellModel" (33 : Nat) "NearSpellModel" "buckets" "[I") ∈ wTs := wmem (i := 1431) (by decide +kernel) (by decide +kernel)
set_option maxRecDepth 20000 in
theorem wm1432 : (Jvm.Cond.fieldLink "NearSpellModel" (36 : Nat) "NearSpellModel" "slips" "[I") ∈ wTs := wmem (i := 1432) (by decide +kernel) (by decide +kernel)
set_option maxRecDepth 20000 in
theorem wm1433 : (Jvm.Cond.fieldLink "NearSpellModel" (39 : Nat) "NearSpellModel" "draw" "[I") ∈ wTs := wmem (i := 1433) (by decide +kernel) (by decide +kernel)
set_option maxRecDepth 20000 in
theorem wm1434 : (Jvm.Cond.fieldLink "NearSpellModel" (42 : Nat) "NearSpellModel" "told" "[I") ∈ wTs := wmem (i := 1434) (by decide +kernel) (by decide +kernel)
set_option maxRecDepth 20000 in
theorem wm1435 : (Jvm.Cond.fieldLink "NearSpellModel" (45 : Nat) "NearSpellModel" "spelled" "[I") ∈ wTs := wmem (i := 1435) (by decide +kernel) (by decide +kernel)
set_option maxRecDepth 20000 in
theorem wm1436 : (Jvm.Cond.fieldLink "NearSpellModel" (48 : Nat) "NearSpellModel" "uses" "[I") ∈ wTs := wmem (i := 1436) (by decide +kernel) (by decide +kernel)
set_option maxRecDepth 20000 in
theorem wm1437 : (Jvm.Cond.fieldLink "NearSpellModel" (51 : Nat) "NearSpellModel" "ruleFrom" "[I") ∈ wTs := wmem (i := 1437) (by decide +kernel) (by decide +kernel)
set_option maxRecDepth 20000 in
theorem wm1438 : (Jvm.Cond.fieldLink "NearSpellModel" (54 : Nat) "NearSpellModel" "ruleTo" "[I") ∈ wTs := wmem (i := 1438) (by decide +kernel) (by decide +kernel)
set_option maxRecDepth 20000 in
theorem wm1439 : (Jvm.Cond.fieldLink "NearSpellModel" (57 : Nat) "NearSpellModel" "code" "[I") ∈ wTs := wmem (i := 1439) (by decide +kernel) (by decide +kernel)
set_option maxRecDepth 20000 in
theorem wm1440 : (Jvm.Cond.fieldLink "NearSpellModel" (60 : Nat) "NearSpellModel" "codeNumber" "[I") ∈ wTs := wmem (i := 1440) (by decide +kernel) (by decide +kernel)
set_option maxRecDepth 20000 in
theorem wm1441 : (Jvm.Cond.fieldLink "NearSpellModel" (63 : Nat) "NearSpellModel" "eWhat" "[I") ∈ wTs := wmem (i := 1441) (by decide +kernel) (by decide +kernel)
set_option maxRecDepth 20000 in
theorem wm1442 : (Jvm.Cond.fieldLink "NearSpellModel" (66 : Nat) "NearSpellModel" "eSign" "[I") ∈ wTs := wmem (i := 1442) (by decide +kernel) (by decide +kernel)
set_option maxRecDepth 20000 in
theorem wm1443 : (Jvm.Cond.fieldLink "NearSpellModel" (69 : Nat) "NearSpellModel" "pile" "[I") ∈ wTs := wmem (i := 1443) (by decide +kernel) (by decide +kernel)
set_option maxRecDepth 20000 in
theorem wm1444 : (Jvm.Cond.fieldLink "NearSpellModel" (242 : Nat) "NearSpellModel" "bank" "I") ∈ wTs := wmem (i := 1444) (by decide +kernel) (by decide +kernel)
set_option maxRecDepth 20000 in
theorem wm1445 : (Jvm.Cond.fieldLink "NearSpellModel" (233 : Nat) "NearSpellModel" "rb" "I") ∈ wTs := wmem (i := 1445) (by decide +kernel) (by decide +kernel)
set_option maxRecDepth 20000 in
theorem wm1446 : (Jvm.Cond.fieldLink "NearSpellModel" (236 : Nat) "NearSpellModel" "codes" "I") ∈ wTs := wmem (i := 1446) (by decide +kernel) (by decide +kernel)
set_option maxRecDepth 20000 in
theorem wm1447 : (Jvm.Cond.fieldLink "NearSpellModel" (288 : Nat) "NearSpellModel" "within" "I") ∈ wTs := wmem (i := 1447) (by decide +kernel) (by decide +kernel)
set_option maxRecDepth 20000 in
theorem wm1448 : (Jvm.Cond.fieldLink "NearSpellModel" (285 : Nat) "NearSpellModel" "piled" "I") ∈ wTs := wmem (i := 1448) (by decide +kernel) (by decide +kernel)
set_option maxRecDepth 20000 in
theorem wm1449 : (Jvm.Cond.fieldLink "NearSpellModel" (279 : Nat) "NearSpellModel" "unitsInRule" "I") ∈ wTs := wmem (i := 1449) (by decide +kernel) (by decide +kernel)
set_option maxRecDepth 20000 in
theorem wm1450 : (Jvm.Cond.fieldLink "NearSpellModel" (313 : Nat) "NearSpellModel" "askForm" "I") ∈ wTs := wmem (i := 1450) (by decide +kernel) (by decide +kernel)
set_option maxRecDepth 20000 in
theorem wm1451 : (Jvm.Cond.fieldLink "NearSpellModel" (72 : Nat) "NearSpellModel" "all" "[I") ∈ wTs := wmem (i := 1451) (by decide +kernel) (by decide +kernel)
set_option maxRecDepth 20000 in
theorem wm1452 : (Jvm.Cond.fieldLink "NearSpellModel" (75 : Nat) "NearSpellModel" "formRow" "[I") ∈ wTs := wmem (i := 1452) (by decide +kernel) (by decide +kernel)
set_option maxRecDepth 20000 in
theorem wm1453 : (Jvm.Cond.fieldLink "NearSpellModel" (78 : Nat) "NearSpellModel" "storeRow" "[I") ∈ wTs := wmem (i := 1453) (by decide +kernel) (by decide +kernel)
set_option maxRecDepth 20000 in
theorem wm1454 : (Jvm.Cond.fieldLink "NearSpellModel" (81 : Nat) "NearSpellModel" "storeMany" "[I") ∈ wTs := wmem (i := 1454) (by decide +kernel) (by decide +kernel)
set_option maxRecDepth 20000 in
theorem wm1455 : (Jvm.Cond.fieldLink "NearSpellModel" (353 : Nat) "NearSpellModel" "formMany" "I") ∈ wTs := wmem (i := 1455) (by decide +kernel) (by decide +kernel)
set_option maxRecDepth 20000 in
theorem wm1456 : (Jvm.Cond.fieldLink "NearSpellModel" (84 : Nat) "NearSpellModel" "one" "[I") ∈ wTs := wmem (i := 1456) (by decide +kernel) (by decide +kernel)
set_option maxRecDepth 20000 in
theorem wm1457 : (Jvm.Cond.fieldLink "NearSpellModel" (87 : Nat) "NearSpellModel" "two" "[I") ∈ wTs := wmem (i := 1457) (by decide +kernel) (by decide +kernel)
set_option maxRecDepth 20000 in
theorem wm1458 : (Jvm.Cond.fieldLink "NearSpellModel" (90 : Nat) "NearSpellModel" "can" "[I") ∈ wTs := wmem (i := 1458) (by decide +kernel) (by decide +kernel)
set_option maxRecDepth 20000 in
theorem wm1459 : (Jvm.Cond.fieldLink "NearSpellModel" (93 : Nat) "NearSpellModel" "then" "[I") ∈ wTs := wmem (i := 1459) (by decide +kernel) (by decide +kernel)
set_option maxRecDepth 20000 in
theorem wm1460 : (Jvm.Cond.fieldLink "NearSpellModel" (384 : Nat) "NearSpellModel" "oneLong" "I") ∈ wTs := wmem (i := 1460) (by decide +kernel) (by decide +kernel)
set_option maxRecDepth 20000 in
theorem wm1461 : (Jvm.Cond.fieldLink "NearSpellModel" (387 : Nat) "NearSpellModel" "twoLong" "I") ∈ wTs := wmem (i := 1461) (by decide +kernel) (by decide +kernel)
set_option maxRecDepth 20000 in
theorem wm1462 : (Jvm.Cond.fieldLink "NearSpellModel" (96 : Nat) "NearSpellModel" "farBy" "[I") ∈ wTs := wmem (i := 1462) (by decide +kernel) (by decide +kernel)
set_option maxRecDepth 20000 in
theorem wm1463 : (Jvm.Cond.fieldLink "NearSpellModel" (99 : Nat) "NearSpellModel" "laidRow" "[I") ∈ wTs := wmem (i := 1463) (by decide +kernel) (by decide +kernel)
set_option maxRecDepth 20000 in
theorem wm1464 : (Jvm.Cond.fieldLink "NearSpellModel" (347 : Nat) "NearSpellModel" "laid" "I") ∈ wTs := wmem (i := 1464) (by decide +kernel) (by decide +kernel)
set_option maxRecDepth 20000 in
theorem wm1465 : (Jvm.Cond.fieldLink "NearSpellModel" (102 : Nat) "NearSpellModel" "costs" "[I") ∈ wTs := wmem (i := 1465) (by decide +kernel) (by decide +kernel)
set_option maxRecDepth 20000 in
theorem wm1466 : (Jvm.Cond.fieldLink "NearSpellModel" (105 : Nat) "NearSpellModel" "ways" "[I") ∈ wTs := wmem (i := 1466) (by decide +kernel) (by decide +kernel)
set_option maxRecDepth 20000 in
theorem wm1467 : (Jvm.Cond.fieldLink "NearSpellModel" (108 : Nat) "NearSpellModel" "nearBy" "[I") ∈ wTs := wmem (i := 1467) (by decide +kernel) (by decide +kernel)
set_option maxRecDepth 20000 in
theorem wm1468 : (Jvm.Cond.fieldLink "NearSpellModel" (111 : Nat) "NearSpellModel" "apartBy" "[I") ∈ wTs := wmem (i := 1468) (by decide +kernel) (by decide +kernel)
set_option maxRecDepth 20000 in
theorem wm1469 : (Jvm.Cond.fieldLink "NearSpellModel" (114 : Nat) "NearSpellModel" "unlike" "[I") ∈ wTs := wmem (i := 1469) (by decide +kernel) (by decide +kernel)
set_option maxRecDepth 20000 in
theorem wm1470 : (Jvm.Cond.fieldLink "NearSpellModel" (117 : Nat) "NearSpellModel" "was" "[I") ∈ wTs := wmem (i := 1470) (by decide +kernel) (by decide +kernel)
set_option maxRecDepth 20000 in
theorem wm1471 : (Jvm.Cond.fieldLink "NearSpellModel" (338 : Nat) "NearSpellModel" "acts" "I") ∈ wTs := wmem (i := 1471) (by decide +kernel) (by decide +kernel)
set_option maxRecDepth 20000 in
theorem wm1472 : (Jvm.Cond.fieldLink "NearSpellModel" (341 : Nat) "NearSpellModel" "undone" "I") ∈ wTs := wmem (i := 1472) (by decide +kernel) (by decide +kernel)
set_option maxRecDepth 20000 in
theorem wm1473 : (Jvm.Cond.fieldLink "NearSpellModel" (120 : Nat) "NearSpellModel" "sSpelled" "[I") ∈ wTs := wmem (i := 1473) (by decide +kernel) (by decide +kernel)
set_option maxRecDepth 20000 in
theorem wm1474 : (Jvm.Cond.fieldLink "NearSpellModel" (123 : Nat) "NearSpellModel" "sFar" "[I") ∈ wTs := wmem (i := 1474) (by decide +kernel) (by decide +kernel)
set_option maxRecDepth 20000 in
theorem wm1475 : (Jvm.Cond.fieldLink "NearSpellModel" (126 : Nat) "NearSpellModel" "sIs" "[I") ∈ wTs := wmem (i := 1475) (by decide +kernel) (by decide +kernel)
set_option maxRecDepth 20000 in
theorem wm1476 : (Jvm.Cond.fieldLink "NearSpellModel" (129 : Nat) "NearSpellModel" "sTold" "[I") ∈ wTs := wmem (i := 1476) (by decide +kernel) (by decide +kernel)
set_option maxRecDepth 20000 in
theorem wm1477 : (Jvm.Cond.fieldLink "NearSpellModel" (132 : Nat) "NearSpellModel" "sUntold" "[I") ∈ wTs := wmem (i := 1477) (by decide +kernel) (by decide +kernel)
set_option maxRecDepth 20000 in
theorem wm1478 : (Jvm.Cond.fieldLink "NearSpellModel" (135 : Nat) "NearSpellModel" "parted" "[I") ∈ wTs := wmem (i := 1478) (by decide +kernel) (by decide +kernel)
set_option maxRecDepth 20000 in
theorem wm1479 : (Jvm.Cond.fieldLink "NearSpellModel" (344 : Nat) "NearSpellModel" "seens" "I") ∈ wTs := wmem (i := 1479) (by decide +kernel) (by decide +kernel)
set_option maxRecDepth 20000 in
theorem wm1480 : (Jvm.Cond.fieldLink "NearSpellModel" (483 : Nat) "NearSpellModel" "time" "I") ∈ wTs := wmem (i := 1480) (by decide +kernel) (by decide +kernel)
set_option maxRecDepth 20000 in
theorem wm1481 : (Jvm.Cond.fieldLink "NearSpellModel" (138 : Nat) "NearSpellModel" "boxAll" "[I") ∈ wTs := wmem (i := 1481) (by decide +kernel) (by decide +kernel)
set_option maxRecDepth 20000 in
theorem wm1482 : (Jvm.Cond.fieldLink "NearSpellModel" (141 : Nat) "NearSpellModel" "isBoxed" "[Z") ∈ wTs := wmem (i := 1482) (by decide +kernel) (by decide +kernel)
set_option maxRecDepth 20000 in
theorem wm1622 : (Jvm.Cond.methodLink "NearSpellModel" (227 : Nat) ({ cls := "NearSpellModel", name := "goOn", desc := "()V" } : Jvm.MethodName)) ∈ wTs := wmem (i := 1622) (by decide +kernel) (by decide +kernel)
set_option maxRecDepth 20000 in
theorem wm1624 : (Jvm.Cond.instanceMethod ({ cls := "NearSpellModel", name := "goOn", desc := "()V" } : Jvm.MethodName)) ∈ wTs := wmem (i := 1624) (by decide +kernel) (by decide +kernel)
set_option maxRecDepth 20000 in
theorem wm1625 : (Jvm.Cond.code ({ cls := "NearSpellModel", name := "goOn", desc := "()V" } : Jvm.MethodName) prog_14_method_9_code (3 : Nat) (Option.none : Option Jvm.ClassFile.FieldType)) ∈ wTs := wmem (i := 1625) (by decide +kernel) (by decide +kernel)
set_option maxRecDepth 20000 in
theorem wm1626 : (Jvm.Cond.methodLink "NearSpellModel" (191 : Nat) ({ cls := "NearSpellModel", name := "sign", desc := "(I)I" } : Jvm.MethodName)) ∈ wTs := wmem (i := 1626) (by decide +kernel) (by decide +kernel)
set_option maxRecDepth 20000 in
theorem wm1628 : (Jvm.Cond.instanceMethod ({ cls := "NearSpellModel", name := "sign", desc := "(I)I" } : Jvm.MethodName)) ∈ wTs := wmem (i := 1628) (by decide +kernel) (by decide +kernel)
set_option maxRecDepth 20000 in
theorem wm1629 : (Jvm.Cond.code ({ cls := "NearSpellModel", name := "sign", desc := "(I)I" } : Jvm.MethodName) prog_14_method_2_code (2 : Nat) (Option.some Jvm.ClassFile.FieldType.int)) ∈ wTs := wmem (i := 1629) (by decide +kernel) (by decide +kernel)
set_option maxRecDepth 20000 in
theorem wm1636 : (Jvm.Cond.constantLong "NearSpellModel" (157 : Nat) (2003792484 : Int64)) ∈ wTs := wmem (i := 1636) (by decide +kernel) (by decide +kernel)
set_option maxRecDepth 20000 in
theorem wm1637 : (Jvm.Cond.constantLong "NearSpellModel" (159 : Nat) (123636629793144 : Int64)) ∈ wTs := wmem (i := 1637) (by decide +kernel) (by decide +kernel)
set_option maxRecDepth 20000 in
theorem wm1638 : (Jvm.Cond.constantLong "NearSpellModel" (161 : Nat) (111542220583539 : Int64)) ∈ wTs := wmem (i := 1638) (by decide +kernel) (by decide +kernel)
set_option maxRecDepth 20000 in
theorem wm1639 : (Jvm.Cond.constantLong "NearSpellModel" (163 : Nat) (1751217000 : Int64)) ∈ wTs := wmem (i := 1639) (by decide +kernel) (by decide +kernel)
set_option maxRecDepth 20000 in
theorem wm1640 : (Jvm.Cond.constantLong "NearSpellModel" (165 : Nat) (27713617581667443 : Int64)) ∈ wTs := wmem (i := 1640) (by decide +kernel) (by decide +kernel)
set_option maxRecDepth 20000 in
theorem wm1641 : (Jvm.Cond.constantLong "NearSpellModel" (167 : Nat) (495740088435 : Int64)) ∈ wTs := wmem (i := 1641) (by decide +kernel) (by decide +kernel)
set_option maxRecDepth 20000 in
theorem wm1642 : (Jvm.Cond.constantLong "NearSpellModel" (169 : Nat) (1685217655 : Int64)) ∈ wTs := wmem (i := 1642) (by decide +kernel) (by decide +kernel)
set_option maxRecDepth 20000 in
theorem wm1643 : (Jvm.Cond.constantLong "NearSpellModel" (171 : Nat) (500086104428 : Int64)) ∈ wTs := wmem (i := 1643) (by decide +kernel) (by decide +kernel)
set_option maxRecDepth 20000 in
theorem wm1644 : (Jvm.Cond.constantLong "NearSpellModel" (173 : Nat) (119182899770472 : Int64)) ∈ wTs := wmem (i := 1644) (by decide +kernel) (by decide +kernel)
set_option maxRecDepth 20000 in
theorem wm1645 : (Jvm.Cond.constantLong "NearSpellModel" (175 : Nat) (439855772532 : Int64)) ∈ wTs := wmem (i := 1645) (by decide +kernel) (by decide +kernel)
set_option maxRecDepth 20000 in
theorem wm1646 : (Jvm.Cond.constantLong "NearSpellModel" (177 : Nat) (1818325876 : Int64)) ∈ wTs := wmem (i := 1646) (by decide +kernel) (by decide +kernel)
