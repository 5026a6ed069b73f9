set_option maxRecDepth 20000 in
theorem wm624 : (Jvm.Cond.methodLink "NearSpell$Reader" (136 : Nat) ({ cls := "NearSpell$Reader", name := "takeDigits", desc := "()V" } : Jvm.MethodName)) ∈ wTs := wmem (i := 624) (by decide +kernel) (by decide +kernel)
set_option maxRecDepth 20000 in
theorem wm626 : (Jvm.Cond.instanceMethod ({ cls := "NearSpell$Reader", name := "takeDigits", desc := "()V" } : Jvm.MethodName)) ∈ wTs := wmem (i := 626) (by decide +kernel) (by decide +kernel)
set_option maxRecDepth 20000 in
theorem wm627 : (Jvm.Cond.code ({ cls := "NearSpell$Reader", name := "takeDigits", desc := "()V" } : Jvm.MethodName) prog_8_method_17_code (1 : Nat) (Option.none : Option Jvm.ClassFile.FieldType)) ∈ wTs := wmem (i := 627) (by decide +kernel) (by decide +kernel)
set_option maxRecDepth 20000 in
theorem wm629 : (Jvm.Cond.methodLink "NearSpell$Reader" (141 : Nat) ({ cls := "java/lang/String", name := "indexOf", desc := "(I)I" } : Jvm.MethodName)) ∈ wTs := wmem (i := 629) (by decide +kernel) (by decide +kernel)
set_option maxRecDepth 20000 in
theorem wm630 : (Jvm.Cond.instanceMethod ({ cls := "java/lang/String", name := "indexOf", desc := "(I)I" } : Jvm.MethodName)) ∈ wTs := wmem (i := 630) (by decide +kernel) (by decide +kernel)
set_option maxRecDepth 20000 in
theorem wm631 : (Jvm.Cond.selects "java/lang/String" ({ cls := "java/lang/String", name := "indexOf", desc := "(I)I" } : Jvm.MethodName) ({ cls := "java/lang/String", name := "indexOf", desc := "(I)I" } : Jvm.MethodName)) ∈ wTs := wmem (i := 631) (by decide +kernel) (by decide +kernel)
set_option maxRecDepth 20000 in
theorem wm632 : (Jvm.Cond.code ({ cls := "java/lang/String", name := "indexOf", desc := "(I)I" } : Jvm.MethodName) prog_18_method_79_code (2 : Nat) (Option.some Jvm.ClassFile.FieldType.int)) ∈ wTs := wmem (i := 632) (by decide +kernel) (by decide +kernel)
set_option maxRecDepth 20000 in
theorem wm633 : (Jvm.Cond.methodLink "java/lang/String" (633 : Nat) ({ cls := "java/lang/String", name := "indexOf", desc := "(II)I" } : Jvm.MethodName)) ∈ wTs := wmem (i := 633) (by decide +kernel) (by decide +kernel)
set_option maxRecDepth 20000 in
theorem wm634 : (Jvm.Cond.instanceMethod ({ cls := "java/lang/String", name := "indexOf", desc := "(II)I" } : Jvm.MethodName)) ∈ wTs := wmem (i := 634) (by decide +kernel) (by decide +kernel)
set_option maxRecDepth 20000 in
theorem wm635 : (Jvm.Cond.selects "java/lang/String" ({ cls := "java/lang/String", name := "indexOf", desc := "(II)I" } : Jvm.MethodName) ({ cls := "java/lang/String", name := "indexOf", desc := "(II)I" } : Jvm.MethodName)) ∈ wTs := wmem (i := 635) (by decide +kernel) (by decide +kernel)
set_option maxRecDepth 20000 in
theorem wm636 : (Jvm.Cond.code ({ cls := "java/lang/String", name := "indexOf", desc := "(II)I" } : Jvm.MethodName) prog_18_method_80_code (3 : Nat) (Option.some Jvm.ClassFile.FieldType.int)) ∈ wTs := wmem (i := 636) (by decide +kernel) (by decide +kernel)
set_option maxRecDepth 20000 in
theorem wm637 : (Jvm.Cond.methodLink "java/lang/String" (505 : Nat) ({ cls := "java/lang/String", name := "length", desc := "()I" } : Jvm.MethodName)) ∈ wTs := wmem (i := 637) (by decide +kernel) (by decide +kernel)
set_option maxRecDepth 20000 in
theorem wm638 : (Jvm.Cond.instanceMethod ({ cls := "java/lang/String", name := "length", desc := "()I" } : Jvm.MethodName)) ∈ wTs := wmem (i := 638) (by decide +kernel) (by decide +kernel)
set_option maxRecDepth 20000 in
theorem wm639 : (Jvm.Cond.selects "java/lang/String" ({ cls := "java/lang/String", name := "length", desc := "()I" } : Jvm.MethodName) ({ cls := "java/lang/String", name := "length", desc := "()I" } : Jvm.MethodName)) ∈ wTs := wmem (i := 639) (by decide +kernel) (by decide +kernel)
set_option maxRecDepth 20000 in
theorem wm640 : (Jvm.Cond.code ({ cls := "java/lang/String", name := "length", desc := "()I" } : Jvm.MethodName) prog_18_method_54_code (1 : Nat) (Option.some Jvm.ClassFile.FieldType.int)) ∈ wTs := wmem (i := 640) (by decide +kernel) (by decide +kernel)
set_option maxRecDepth 20000 in
theorem wm641 : (Jvm.Cond.methodLink "java/lang/String" (335 : Nat) ({ cls := "java/lang/String", name := "coder", desc := "()B" } : Jvm.MethodName)) ∈ wTs := wmem (i := 641) (by decide +kernel) (by decide +kernel)
set_option maxRecDepth 20000 in
theorem wm642 : (Jvm.Cond.instanceMethod ({ cls := "java/lang/String", name := "coder", desc := "()B" } : Jvm.MethodName)) ∈ wTs := wmem (i := 642) (by decide +kernel) (by decide +kernel)
set_option maxRecDepth 20000 in
theorem wm643 : (Jvm.Cond.selects "java/lang/String" ({ cls := "java/lang/String", name := "coder", desc := "()B" } : Jvm.MethodName) ({ cls := "java/lang/String", name := "coder", desc := "()B" } : Jvm.MethodName)) ∈ wTs := wmem (i := 643) (by decide +kernel) (by decide +kernel)
set_option maxRecDepth 20000 in
theorem wm644 : (Jvm.Cond.code ({ cls := "java/lang/String", name := "coder", desc := "()B" } : Jvm.MethodName) prog_18_method_152_code (1 : Nat) (Option.some Jvm.ClassFile.FieldType.byte)) ∈ wTs := wmem (i := 644) (by decide +kernel) (by decide +kernel)
set_option maxRecDepth 20000 in
theorem wm645 : (Jvm.Cond.methodLink "java/lang/String" (637 : Nat) ({ cls := "java/lang/StringLatin1", name := "indexOf", desc := "([BIII)I" } : Jvm.MethodName)) ∈ wTs := wmem (i := 645) (by decide +kernel) (by decide +kernel)
set_option maxRecDepth 20000 in
theorem wm646 : (Jvm.Cond.static ({ cls := "java/lang/StringLatin1", name := "indexOf", desc := "([BIII)I" } : Jvm.MethodName)) ∈ wTs := wmem (i := 646) (by decide +kernel) (by decide +kernel)
set_option maxRecDepth 20000 in
theorem wm647 : (Jvm.Cond.code ({ cls := "java/lang/StringLatin1", name := "indexOf", desc := "([BIII)I" } : Jvm.MethodName) prog_19_method_22_code (4 : Nat) (Option.some Jvm.ClassFile.FieldType.int)) ∈ wTs := wmem (i := 647) (by decide +kernel) (by decide +kernel)
set_option maxRecDepth 20000 in
theorem wm648 : (Jvm.Cond.methodLink "java/lang/StringLatin1" (88 : Nat) ({ cls := "java/lang/StringLatin1", name := "canEncode", desc := "(I)Z" } : Jvm.MethodName)) ∈ wTs := wmem (i := 648) (by decide +kernel) (by decide +kernel)
set_option maxRecDepth 20000 in
theorem wm649 : (Jvm.Cond.static ({ cls := "java/lang/StringLatin1", name := "canEncode", desc := "(I)Z" } : Jvm.MethodName)) ∈ wTs := wmem (i := 649) (by decide +kernel) (by decide +kernel)
set_option maxRecDepth 20000 in
theorem wm650 : (Jvm.Cond.code ({ cls := "java/lang/StringLatin1", name := "canEncode", desc := "(I)Z" } : Jvm.MethodName) prog_19_method_4_code (1 : Nat) (Option.some Jvm.ClassFile.FieldType.boolean)) ∈ wTs := wmem (i := 650) (by decide +kernel) (by decide +kernel)
set_option maxRecDepth 20000 in
theorem wm651 : (Jvm.Cond.methodLink "java/lang/StringLatin1" (92 : Nat) ({ cls := "java/lang/Math", name := "max", desc := "(II)I" } : Jvm.MethodName)) ∈ wTs := wmem (i := 651) (by decide +kernel) (by decide +kernel)
set_option maxRecDepth 20000 in
theorem wm652 : (Jvm.Cond.static ({ cls := "java/lang/Math", name := "max", desc := "(II)I" } : Jvm.MethodName)) ∈ wTs := wmem (i := 652) (by decide +kernel) (by decide +kernel)
set_option maxRecDepth 20000 in
theorem wm653 : (Jvm.Cond.code ({ cls := "java/lang/Math", name := "max", desc := "(II)I" } : Jvm.MethodName) prog_17_method_65_code (2 : Nat) (Option.some Jvm.ClassFile.FieldType.int)) ∈ wTs := wmem (i := 653) (by decide +kernel) (by decide +kernel)
set_option maxRecDepth 20000 in
theorem wm654 : (Jvm.Cond.methodLink "java/lang/StringLatin1" (38 : Nat) ({ cls := "java/lang/Math", name := "min", desc := "(II)I" } : Jvm.MethodName)) ∈ wTs := wmem (i := 654) (by decide +kernel) (by decide +kernel)
set_option maxRecDepth 20000 in
theorem wm655 : (Jvm.Cond.methodLink "java/lang/StringLatin1" (95 : Nat) ({ cls := "java/lang/StringLatin1", name := "indexOfChar", desc := "([BIII)I" } : Jvm.MethodName)) ∈ wTs := wmem (i := 655) (by decide +kernel) (by decide +kernel)
set_option maxRecDepth 20000 in
theorem wm656 : (Jvm.Cond.static ({ cls := "java/lang/StringLatin1", name := "indexOfChar", desc := "([BIII)I" } : Jvm.MethodName)) ∈ wTs := wmem (i := 656) (by decide +kernel) (by decide +kernel)
set_option maxRecDepth 20000 in
theorem wm657 : (Jvm.Cond.code ({ cls := "java/lang/StringLatin1", name := "indexOfChar", desc := "([BIII)I" } : Jvm.MethodName) prog_19_method_23_code (6 : Nat) (Option.some Jvm.ClassFile.FieldType.int)) ∈ wTs := wmem (i := 657) (by decide +kernel) (by decide +kernel)
set_option maxRecDepth 20000 in
theorem wm663 : (Jvm.Cond.constant "java/lang/StringUTF16" (227 : Nat) (65536 : Int32)) ∈ wTs := wmem (i := 663) (by decide +kernel) (by decide +kernel)
set_option maxRecDepth 20000 in
theorem wm688 : (Jvm.Cond.constant "java/lang/Character" (110 : Nat) (55232 : Int32)) ∈ wTs := wmem (i := 688) (by decide +kernel) (by decide +kernel)
set_option maxRecDepth 20000 in
theorem wm692 : (Jvm.Cond.constant "java/lang/Character" (76 : Nat) (56320 : Int32)) ∈ wTs := wmem (i := 692) (by decide +kernel) (by decide +kernel)
set_option maxRecDepth 20000 in
theorem wm693 : (Jvm.Cond.methodLink "NearSpell$Reader" (52 : Nat) ({ cls := "NearSpell$Reader", name := "readLine", desc := "()V" } : Jvm.MethodName)) ∈ wTs := wmem (i := 693) (by decide +kernel) (by decide +kernel)
set_option maxRecDepth 20000 in
theorem wm695 : (Jvm.Cond.instanceMethod ({ cls := "NearSpell$Reader", name := "readLine", desc := "()V" } : Jvm.MethodName)) ∈ wTs := wmem (i := 695) (by decide +kernel) (by decide +kernel)
set_option maxRecDepth 20000 in
theorem wm696 : (Jvm.Cond.code ({ cls := "NearSpell$Reader", name := "readLine", desc := "()V" } : Jvm.MethodName) prog_8_method_4_code (2 : Nat) (Option.none : Option Jvm.ClassFile.FieldType)) ∈ wTs := wmem (i := 696) (by decide +kernel) (by decide +kernel)
set_option maxRecDepth 20000 in
theorem wm697 : (Jvm.Cond.methodLink "NearSpell$Reader" (58 : Nat) ({ cls := "NearSpell$Reader", name := "isTooMany", desc := "(I)Z" } : Jvm.MethodName)) ∈ wTs := wmem (i := 697) (by decide +kernel) (by decide +kernel)
set_option maxRecDepth 20000 in
theorem wm699 : (Jvm.Cond.instanceMethod ({ cls := "NearSpell$Reader", name := "isTooMany", desc := "(I)Z" } : Jvm.MethodName)) ∈ wTs := wmem (i := 699) (by decide +kernel) (by decide +kernel)
set_option maxRecDepth 20000 in
theorem wm700 : (Jvm.Cond.code ({ cls := "NearSpell$Reader", name := "isTooMany", desc := "(I)Z" } : Jvm.MethodName) prog_8_method_5_code (2 : Nat) (Option.some Jvm.ClassFile.FieldType.boolean)) ∈ wTs := wmem (i := 700) (by decide +kernel) (by decide +kernel)
set_option maxRecDepth 20000 in
theorem wm701 : (Jvm.Cond.methodLink "NearSpell$Reader" (66 : Nat) ({ cls := "NearSpell$Reader", name := "readWord", desc := "()V" } : Jvm.MethodName)) ∈ wTs := wmem (i := 701) (by decide +kernel) (by decide +kernel)
set_option maxRecDepth 20000 in
theorem wm703 : (Jvm.Cond.instanceMethod ({ cls := "NearSpell$Reader", name := "readWord", desc := "()V" } : Jvm.MethodName)) ∈ wTs := wmem (i := 703) (by decide +kernel) (by decide +kernel)
set_option maxRecDepth 20000 in
theorem wm704 : (Jvm.Cond.code ({ cls := "NearSpell$Reader", name := "readWord", desc := "()V" } : Jvm.MethodName) prog_8_method_6_code (2 : Nat) (Option.none : Option Jvm.ClassFile.FieldType)) ∈ wTs := wmem (i := 704) (by decide +kernel) (by decide +kernel)
set_option maxRecDepth 20000 in
theorem wm705 : (Jvm.Cond.methodLink "NearSpell$Reader" (99 : Nat) ({ cls := "NearSpell$Book", name := "tells", desc := "(I)Z" } : Jvm.MethodName)) ∈ wTs := wmem (i := 705) (by decide +kernel) (by decide +kernel)
set_option maxRecDepth 20000 in
theorem wm706 : (Jvm.Cond.instanceMethod ({ cls := "NearSpell$Book", name := "tells", desc := "(I)Z" } : Jvm.MethodName)) ∈ wTs := wmem (i := 706) (by decide +kernel) (by decide +kernel)
set_option maxRecDepth 20000 in
theorem wm707 : (Jvm.Cond.selects "NearSpell$Book" ({ cls := "NearSpell$Book", name := "tells", desc := "(I)Z" } : Jvm.MethodName) ({ cls := "NearSpell$Book", name := "tells", desc := "(I)Z" } : Jvm.MethodName)) ∈ wTs := wmem (i := 707) (by decide +kernel) (by decide +kernel)
set_option maxRecDepth 20000 in
theorem wm708 : (Jvm.Cond.code ({ cls := "NearSpell$Book", name := "tells", desc := "(I)Z" } : Jvm.MethodName) prog_3_method_4_code (3 : Nat) (Option.some Jvm.ClassFile.FieldType.boolean)) ∈ wTs := wmem (i := 708) (by decide +kernel) (by decide +kernel)
set_option maxRecDepth 20000 in
theorem wm709 : (Jvm.Cond.methodLink "NearSpell$Reader" (69 : Nat) ({ cls := "NearSpell$Reader", name := "readNumber", desc := "(II)I" } : Jvm.MethodName)) ∈ wTs := wmem (i := 709) (by decide +kernel) (by decide +kernel)
set_option maxRecDepth 20000 in
theorem wm711 : (Jvm.Cond.instanceMethod ({ cls := "NearSpell$Reader", name := "readNumber", desc := "(II)I" } : Jvm.MethodName)) ∈ wTs := wmem (i := 711) (by decide +kernel) (by decide +kernel)
set_option maxRecDepth 20000 in
theorem wm712 : (Jvm.Cond.code ({ cls := "NearSpell$Reader", name := "readNumber", desc := "(II)I" } : Jvm.MethodName) prog_8_method_7_code (4 : Nat) (Option.some Jvm.ClassFile.FieldType.int)) ∈ wTs := wmem (i := 712) (by decide +kernel) (by decide +kernel)
set_option maxRecDepth 20000 in
theorem wm713 : (Jvm.Cond.methodLink "NearSpell$Reader" (102 : Nat) ({ cls := "NearSpell$Book", name := "addWord", desc := "(II)V" } : Jvm.MethodName)) ∈ wTs := wmem (i := 713) (by decide +kernel) (by decide +kernel)
set_option maxRecDepth 20000 in
theorem wm714 : (Jvm.Cond.instanceMethod ({ cls := "NearSpell$Book", name := "addWord", desc := "(II)V" } : Jvm.MethodName)) ∈ wTs := wmem (i := 714) (by decide +kernel) (by decide +kernel)
set_option maxRecDepth 20000 in
theorem wm715 : (Jvm.Cond.selects "NearSpell$Book" ({ cls := "NearSpell$Book", name := "addWord", desc := "(II)V" } : Jvm.MethodName) ({ cls := "NearSpell$Book", name := "addWord", desc := "(II)V" } : Jvm.MethodName)) ∈ wTs := wmem (i := 715) (by decide +kernel) (by decide +kernel)
set_option maxRecDepth 20000 in
theorem wm716 : (Jvm.Cond.code ({ cls := "NearSpell$Book", name := "addWord", desc := "(II)V" } : Jvm.MethodName) prog_3_method_5_code (3 : Nat) (Option.none : Option Jvm.ClassFile.FieldType)) ∈ wTs := wmem (i := 716) (by decide +kernel) (by decide +kernel)
set_option maxRecDepth 20000 in
theorem wm717 : (Jvm.Cond.methodLink "NearSpell$Reader" (78 : Nat) ({ cls := "NearSpell$Reader", name := "readEither", desc := "(I)V" } : Jvm.MethodName)) ∈ wTs := wmem (i := 717) (by decide +kernel) (by decide +kernel)
set_option maxRecDepth 20000 in
theorem wm719 : (Jvm.Cond.instanceMethod ({ cls := "NearSpell$Reader", name := "readEither", desc := "(I)V" } : Jvm.MethodName)) ∈ wTs := wmem (i := 719) (by decide +kernel) (by decide +kernel)
set_option maxRecDepth 20000 in
theorem wm720 : (Jvm.Cond.code ({ cls := "NearSpell$Reader", name := "readEither", desc := "(I)V" } : Jvm.MethodName) prog_8_method_9_code (3 : Nat) (Option.none : Option Jvm.ClassFile.FieldType)) ∈ wTs := wmem (i := 720) (by decide +kernel) (by decide +kernel)
set_option maxRecDepth 20000 in
theorem wm721 : (Jvm.Cond.methodLink "NearSpell$Reader" (106 : Nat) ({ cls := "NearSpell$Reader", name := "readBoth", desc := "(I)V" } : Jvm.MethodName)) ∈ wTs := wmem (i := 721) (by decide +kernel) (by decide +kernel)
set_option maxRecDepth 20000 in
theorem wm723 : (Jvm.Cond.instanceMethod ({ cls := "NearSpell$Reader", name := "readBoth", desc := "(I)V" } : Jvm.MethodName)) ∈ wTs := wmem (i := 723) (by decide +kernel) (by decide +kernel)
set_option maxRecDepth 20000 in
theorem wm724 : (Jvm.Cond.code ({ cls := "NearSpell$Reader", name := "readBoth", desc := "(I)V" } : Jvm.MethodName) prog_8_method_10_code (3 : Nat) (Option.none : Option Jvm.ClassFile.FieldType)) ∈ wTs := wmem (i := 724) (by decide +kernel) (by decide +kernel)
set_option maxRecDepth 20000 in
theorem wm725 : (Jvm.Cond.methodLink "NearSpell$Reader" (112 : Nat) ({ cls := "NearSpell$Reader", name := "readOne", desc := "(I)V" } : Jvm.MethodName)) ∈ wTs := wmem (i := 725) (by decide +kernel) (by decide +kernel)
set_option maxRecDepth 20000 in
theorem wm727 : (Jvm.Cond.instanceMethod ({ cls := "NearSpell$Reader", name := "readOne", desc := "(I)V" } : Jvm.MethodName)) ∈ wTs := wmem (i := 727) (by decide +kernel) (by decide +kernel)
set_option maxRecDepth 20000 in
theorem wm728 : (Jvm.Cond.code ({ cls := "NearSpell$Reader", name := "readOne", desc := "(I)V" } : Jvm.MethodName) prog_8_method_11_code (3 : Nat) (Option.none : Option Jvm.ClassFile.FieldType)) ∈ wTs := wmem (i := 728) (by decide +kernel) (by decide +kernel)
set_option maxRecDepth 20000 in
theorem wm729 : (Jvm.Cond.methodLink "NearSpell$Reader" (109 : Nat) ({ cls := "NearSpell$Book", name := "addStep", desc := "(I)V" } : Jvm.MethodName)) ∈ wTs := wmem (i := 729) (by decide +kernel) (by decide +kernel)
set_option maxRecDepth 20000 in
theorem wm730 : (Jvm.Cond.instanceMethod ({ cls := "NearSpell$Book", name := "addStep", desc := "(I)V" } : Jvm.MethodName)) ∈ wTs := wmem (i := 730) (by decide +kernel) (by decide +kernel)
set_option maxRecDepth 20000 in
theorem wm731 : (Jvm.Cond.selects "NearSpell$Book" ({ cls := "NearSpell$Book", name := "addStep", desc := "(I)V" } : Jvm.MethodName) ({ cls := "NearSpell$Book", name := "addStep", desc := "(I)V" } : Jvm.MethodName)) ∈ wTs := wmem (i := 731) (by decide +kernel) (by decide +kernel)
set_option maxRecDepth 20000 in
theorem wm732 : (Jvm.Cond.code ({ cls := "NearSpell$Book", name := "addStep", desc := "(I)V" } : Jvm.MethodName) prog_3_method_6_code (2 : Nat) (Option.none : Option Jvm.ClassFile.FieldType)) ∈ wTs := wmem (i := 732) (by decide +kernel) (by decide +kernel)
set_option maxRecDepth 20000 in
theorem wm733 : (Jvm.Cond.methodLink "NearSpell$Reader" (115 : Nat) ({ cls := "NearSpell$Reader", name := "readSum", desc := "(I)V" } : Jvm.MethodName)) ∈ wTs := wmem (i := 733) (by decide +kernel) (by decide +kernel)
set_option maxRecDepth 20000 in
theorem wm735 : (Jvm.Cond.instanceMethod ({ cls := "NearSpell$Reader", name := "readSum", desc := "(I)V" } : Jvm.MethodName)) ∈ wTs := wmem (i := 735) (by decide +kernel) (by decide +kernel)
set_option maxRecDepth 20000 in
theorem wm736 : (Jvm.Cond.code ({ cls := "NearSpell$Reader", name := "readSum", desc := "(I)V" } : Jvm.MethodName) prog_8_method_12_code (4 : Nat) (Option.none : Option Jvm.ClassFile.FieldType)) ∈ wTs := wmem (i := 736) (by decide +kernel) (by decide +kernel)
set_option maxRecDepth 20000 in
theorem wm737 : (Jvm.Cond.methodLink "NearSpell$Reader" (118 : Nat) ({ cls := "NearSpell$Reader", name := "readTerm", desc := "(I)V" } : Jvm.MethodName)) ∈ wTs := wmem (i := 737) (by decide +kernel) (by decide +kernel)
set_option maxRecDepth 20000 in
theorem wm739 : (Jvm.Cond.instanceMethod ({ cls := "NearSpell$Reader", name := "readTerm", desc := "(I)V" } : Jvm.MethodName)) ∈ wTs := wmem (i := 739) (by decide +kernel) (by decide +kernel)
set_option maxRecDepth 20000 in
theorem wm740 : (Jvm.Cond.code ({ cls := "NearSpell$Reader", name := "readTerm", desc := "(I)V" } : Jvm.MethodName) prog_8_method_13_code (4 : Nat) (Option.none : Option Jvm.ClassFile.FieldType)) ∈ wTs := wmem (i := 740) (by decide +kernel) (by decide +kernel)
set_option maxRecDepth 20000 in
theorem wm741 : (Jvm.Cond.methodLink "NearSpell$Reader" (121 : Nat) ({ cls := "NearSpell$Reader", name := "readUnit", desc := "(I)V" } : Jvm.MethodName)) ∈ wTs := wmem (i := 741) (by decide +kernel) (by decide +kernel)
set_option maxRecDepth 20000 in
theorem wm743 : (Jvm.Cond.instanceMethod ({ cls := "NearSpell$Reader", name := "readUnit", desc := "(I)V" } : Jvm.MethodName)) ∈ wTs := wmem (i := 743) (by decide +kernel) (by decide +kernel)
set_option maxRecDepth 20000 in
theorem wm744 : (Jvm.Cond.code ({ cls := "NearSpell$Reader", name := "readUnit", desc := "(I)V" } : Jvm.MethodName) prog_8_method_14_code (4 : Nat) (Option.none : Option Jvm.ClassFile.FieldType)) ∈ wTs := wmem (i := 744) (by decide +kernel) (by decide +kernel)
set_option maxRecDepth 20000 in
theorem wm745 : (Jvm.Cond.methodLink "NearSpell$Reader" (90 : Nat) ({ cls := "NearSpell$Reader", name := "expect", desc := "(I)V" } : Jvm.MethodName)) ∈ wTs := wmem (i := 745) (by decide +kernel) (by decide +kernel)
set_option maxRecDepth 20000 in
theorem wm747 : (Jvm.Cond.instanceMethod ({ cls := "NearSpell$Reader", name := "expect", desc := "(I)V" } : Jvm.MethodName)) ∈ wTs := wmem (i := 747) (by decide +kernel) (by decide +kernel)
set_option maxRecDepth 20000 in
theorem wm748 : (Jvm.Cond.code ({ cls := "NearSpell$Reader", name := "expect", desc := "(I)V" } : Jvm.MethodName) prog_8_method_8_code (2 : Nat) (Option.none : Option Jvm.ClassFile.FieldType)) ∈ wTs := wmem (i := 748) (by decide +kernel) (by decide +kernel)
set_option maxRecDepth 20000 in
theorem wm749 : (Jvm.Cond.methodLink "NearSpell" (115 : Nat) ({ cls := "NearSpell$Book", name := "takeOver", desc := "(LNearSpell$Book;)V" } : Jvm.MethodName)) ∈ wTs := wmem (i := 749) (by decide +kernel) (by decide +kernel)
set_option maxRecDepth 20000 in
theorem wm750 : (Jvm.Cond.instanceMethod ({ cls := "NearSpell$Book", name := "takeOver", desc := "(LNearSpell$Book;)V" } : Jvm.MethodName)) ∈ wTs := wmem (i := 750) (by decide +kernel) (by decide +kernel)
set_option maxRecDepth 20000 in
theorem wm751 : (Jvm.Cond.selects "NearSpell$Book" ({ cls := "NearSpell$Book", name := "takeOver", desc := "(LNearSpell$Book;)V" } : Jvm.MethodName) ({ cls := "NearSpell$Book", name := "takeOver", desc := "(LNearSpell$Book;)V" } : Jvm.MethodName)) ∈ wTs := wmem (i := 751) (by decide +kernel) (by decide +kernel)
set_option maxRecDepth 20000 in
theorem wm752 : (Jvm.Cond.code ({ cls := "NearSpell$Book", name := "takeOver", desc := "(LNearSpell$Book;)V" } : Jvm.MethodName) prog_3_method_3_code (2 : Nat) (Option.none : Option Jvm.ClassFile.FieldType)) ∈ wTs := wmem (i := 752) (by decide +kernel) (by decide +kernel)
set_option maxRecDepth 20000 in
theorem wm753 : (Jvm.Cond.methodLink "NearSpell$Book" (55 : Nat) ({ cls := "java/lang/System", name := "arraycopy", desc := "(Ljava/lang/Object;ILjava/lang/Object;II)V" } : Jvm.MethodName)) ∈ wTs := wmem (i := 753) (by decide +kernel) (by decide +kernel)
set_option maxRecDepth 20000 in
theorem wm754 : (Jvm.Cond.static ({ cls := "java/lang/System", name := "arraycopy", desc := "(Ljava/lang/Object;ILjava/lang/Object;II)V" } : Jvm.MethodName)) ∈ wTs := wmem (i := 754) (by decide +kernel) (by decide +kernel)
set_option maxRecDepth 20000 in
theorem wm755 : (Jvm.Cond.native ({ cls := "java/lang/System", name := "arraycopy", desc := "(Ljava/lang/Object;ILjava/lang/Object;II)V" } : Jvm.MethodName)) ∈ wTs := wmem (i := 755) (by decide +kernel) (by decide +kernel)
set_option maxRecDepth 20000 in
theorem wm756 : (Jvm.Cond.methodLink "NearSpell" (119 : Nat) ({ cls := "NearSpell$State", name := "begin", desc := "(LNearSpell$Book;)V" } : Jvm.MethodName)) ∈ wTs := wmem (i := 756) (by decide +kernel) (by decide +kernel)
set_option maxRecDepth 20000 in
theorem wm757 : (Jvm.Cond.instanceMethod ({ cls := "NearSpell$State", name := "begin", desc := "(LNearSpell$Book;)V" } : Jvm.MethodName)) ∈ wTs := wmem (i := 757) (by decide +kernel) (by decide +kernel)
set_option maxRecDepth 20000 in
theorem wm758 : (Jvm.Cond.selects "NearSpell$State" ({ cls := "NearSpell$State", name := "begin", desc := "(LNearSpell$Book;)V" } : Jvm.MethodName) ({ cls := "NearSpell$State", name := "begin", desc := "(LNearSpell$Book;)V" } : Jvm.MethodName)) ∈ wTs := wmem (i := 758) (by decide +kernel) (by decide +kernel)
set_option maxRecDepth 20000 in
theorem wm759 : (Jvm.Cond.code ({ cls := "NearSpell$State", name := "begin", desc := "(LNearSpell$Book;)V" } : Jvm.MethodName) prog_10_method_2_code (3 : Nat) (Option.none : Option Jvm.ClassFile.FieldType)) ∈ wTs := wmem (i := 759) (by decide +kernel) (by decide +kernel)
set_option maxRecDepth 20000 in
theorem wm760 : (Jvm.Cond.methodLink "NearSpell$State" (27 : Nat) ({ cls := "NearSpell$State", name := "addEntry", desc := "(II)I" } : Jvm.MethodName)) ∈ wTs := wmem (i := 760) (by decide +kernel) (by decide +kernel)
set_option maxRecDepth 20000 in
theorem wm761 : (Jvm.Cond.instanceMethod ({ cls := "NearSpell$State", name := "addEntry", desc := "(II)I" } : Jvm.MethodName)) ∈ wTs := wmem (i := 761) (by decide +kernel) (by decide +kernel)
set_option maxRecDepth 20000 in
theorem wm762 : (Jvm.Cond.selects "NearSpell$State" ({ cls := "NearSpell$State", name := "addEntry", desc := "(II)I" } : Jvm.MethodName) ({ cls := "NearSpell$State", name := "addEntry", desc := "(II)I" } : Jvm.MethodName)) ∈ wTs := wmem (i := 762) (by decide +kernel) (by decide +kernel)
set_option maxRecDepth 20000 in
theorem wm763 : (Jvm.Cond.code ({ cls := "NearSpell$State", name := "addEntry", desc := "(II)I" } : Jvm.MethodName) prog_10_method_12_code (4 : Nat) (Option.some Jvm.ClassFile.FieldType.int)) ∈ wTs := wmem (i := 763) (by decide +kernel) (by decide +kernel)
set_option maxRecDepth 20000 in
theorem wm764 : (Jvm.Cond.methodLink "NearSpell" (122 : Nat) ({ cls := "NearSpell$Archive", name := "dropActs", desc := "(LNearSpell$State;)V" } : Jvm.MethodName)) ∈ wTs := wmem (i := 764) (by decide +kernel) (by decide +kernel)
set_option maxRecDepth 20000 in
theorem wm765 : (Jvm.Cond.instanceMethod ({ cls := "NearSpell$Archive", name := "dropActs", desc := "(LNearSpell$State;)V" } : Jvm.MethodName)) ∈ wTs := wmem (i := 765) (by decide +kernel) (by decide +kernel)
set_option maxRecDepth 20000 in
theorem wm766 : (Jvm.Cond.selects "NearSpell$Archive" ({ cls := "NearSpell$Archive", name := "dropActs", desc := "(LNearSpell$State;)V" } : Jvm.MethodName) ({ cls := "NearSpell$Archive", name := "dropActs", desc := "(LNearSpell$State;)V" } : Jvm.MethodName)) ∈ wTs := wmem (i := 766) (by decide +kernel) (by decide +kernel)
set_option maxRecDepth 20000 in
theorem wm767 : (Jvm.Cond.code ({ cls := "NearSpell$Archive", name := "dropActs", desc := "(LNearSpell$State;)V" } : Jvm.MethodName) prog_2_method_2_code (2 : Nat) (Option.none : Option Jvm.ClassFile.FieldType)) ∈ wTs := wmem (i := 767) (by decide +kernel) (by decide +kernel)
set_option maxRecDepth 20000 in
theorem wm768 : (Jvm.Cond.methodLink "NearSpell$Archive" (33 : Nat) ({ cls := "NearSpell$Archive", name := "keepRow", desc := "(LNearSpell$State;)V" } : Jvm.MethodName)) ∈ wTs := wmem (i := 768) (by decide +kernel) (by decide +kernel)
set_option maxRecDepth 20000 in
theorem wm770 : (Jvm.Cond.instanceMethod ({ cls := "NearSpell$Archive", name := "keepRow", desc := "(LNearSpell$State;)V" } : Jvm.MethodName)) ∈ wTs := wmem (i := 770) (by decide +kernel) (by decide +kernel)
set_option maxRecDepth 20000 in
theorem wm771 : (Jvm.Cond.code ({ cls := "NearSpell$Archive", name := "keepRow", desc := "(LNearSpell$State;)V" } : Jvm.MethodName) prog_2_method_7_code (2 : Nat) (Option.none : Option Jvm.ClassFile.FieldType)) ∈ wTs := wmem (i := 771) (by decide +kernel) (by decide +kernel)
set_option maxRecDepth 20000 in
theorem wm772 : (Jvm.Cond.methodLink "NearSpell$Archive" (43 : Nat) ({ cls := "NearSpell$Archive", name := "rowPlace", desc := "()I" } : Jvm.MethodName)) ∈ wTs := wmem (i := 772) (by decide +kernel) (by decide +kernel)
set_option maxRecDepth 20000 in
theorem wm774 : (Jvm.Cond.instanceMethod ({ cls := "NearSpell$Archive", name := "rowPlace", desc := "()I" } : Jvm.MethodName)) ∈ wTs := wmem (i := 774) (by decide +kernel) (by decide +kernel)
set_option maxRecDepth 20000 in
theorem wm775 : (Jvm.Cond.code ({ cls := "NearSpell$Archive", name := "rowPlace", desc := "()I" } : Jvm.MethodName) prog_2_method_6_code (1 : Nat) (Option.some Jvm.ClassFile.FieldType.int)) ∈ wTs := wmem (i := 775) (by decide +kernel) (by decide +kernel)
set_option maxRecDepth 20000 in
theorem wm776 : (Jvm.Cond.methodLink "NearSpell$Archive" (47 : Nat) ({ cls := "java/lang/System", name := "arraycopy", desc := "(Ljava/lang/Object;ILjava/lang/Object;II)V" } : Jvm.MethodName)) ∈ wTs := wmem (i := 776) (by decide +kernel) (by decide +kernel)
set_option maxRecDepth 20000 in
theorem wm777 : (Jvm.Cond.methodLink "NearSpell" (126 : Nat) ({ cls := "NearSpell$Archive", name := "dropBoxes", desc := "()V" } : Jvm.MethodName)) ∈ wTs := wmem (i := 777) (by decide +kernel) (by decide +kernel)
set_option maxRecDepth 20000 in
theorem wm778 : (Jvm.Cond.instanceMethod ({ cls := "NearSpell$Archive", name := "dropBoxes", desc := "()V" } : Jvm.MethodName)) ∈ wTs := wmem (i := 778) (by decide +kernel) (by decide +kernel)
set_option maxRecDepth 20000 in
theorem wm779 : (Jvm.Cond.selects "NearSpell$Archive" ({ cls := "NearSpell$Archive", name := "dropBoxes", desc := "()V" } : Jvm.MethodName) ({ cls := "NearSpell$Archive", name := "dropBoxes", desc := "()V" } : Jvm.MethodName)) ∈ wTs := wmem (i := 779) (by decide +kernel) (by decide +kernel)
set_option maxRecDepth 20000 in
theorem wm780 : (Jvm.Cond.code ({ cls := "NearSpell$Archive", name := "dropBoxes", desc := "()V" } : Jvm.MethodName) prog_2_method_9_code (1 : Nat) (Option.none : Option Jvm.ClassFile.FieldType)) ∈ wTs := wmem (i := 780) (by decide +kernel) (by decide +kernel)
set_option maxRecDepth 20000 in
theorem wm781 : (Jvm.Cond.methodLink "NearSpell" (129 : Nat) ({ cls := "NearSpell$Witness", name := "dropSeen", desc := "()V" } : Jvm.MethodName)) ∈ wTs := wmem (i := 781) (by decide +kernel) (by decide +kernel)
set_option maxRecDepth 20000 in
theorem wm782 : (Jvm.Cond.instanceMethod ({ cls := "NearSpell$Witness", name := "dropSeen", desc := "()V" } : Jvm.MethodName)) ∈ wTs := wmem (i := 782) (by decide +kernel) (by decide +kernel)
set_option maxRecDepth 20000 in
theorem wm783 : (Jvm.Cond.selects "NearSpell$Witness" ({ cls := "NearSpell$Witness", name := "dropSeen", desc := "()V" } : Jvm.MethodName) ({ cls := "NearSpell$Witness", name := "dropSeen", desc := "()V" } : Jvm.MethodName)) ∈ wTs := wmem (i := 783) (by decide +kernel) (by decide +kernel)
set_option maxRecDepth 20000 in
theorem wm784 : (Jvm.Cond.code ({ cls := "NearSpell$Witness", name := "dropSeen", desc := "()V" } : Jvm.MethodName) prog_12_method_2_code (1 : Nat) (Option.none : Option Jvm.ClassFile.FieldType)) ∈ wTs := wmem (i := 784) (by decide +kernel) (by decide +kernel)
set_option maxRecDepth 20000 in
theorem wm793 : (Jvm.Cond.methodLink "NearSpell" (141 : Nat) ({ cls := "NearSpell$State", name := "isEntry", desc := "(I)Z" } : Jvm.MethodName)) ∈ wTs := wmem (i := 793) (by decide +kernel) (by decide +kernel)
set_option maxRecDepth 20000 in
theorem wm794 : (Jvm.Cond.instanceMethod ({ cls := "NearSpell$State", name := "isEntry", desc := "(I)Z" } : Jvm.MethodName)) ∈ wTs := wmem (i := 794) (by decide +kernel) (by decide +kernel)
set_option maxRecDepth 20000 in
theorem wm795 : (Jvm.Cond.selects "NearSpell$State" ({ cls := "NearSpell$State", name := "isEntry", desc := "(I)Z" } : Jvm.MethodName) ({ cls := "NearSpell$State", name := "isEntry", desc := "(I)Z" } : Jvm.MethodName)) ∈ wTs := wmem (i := 795) (by decide +kernel) (by decide +kernel)
set_option maxRecDepth 20000 in
theorem wm796 : (Jvm.Cond.code ({ cls := "NearSpell$State", name := "isEntry", desc := "(I)Z" } : Jvm.MethodName) prog_10_method_6_code (2 : Nat) (Option.some Jvm.ClassFile.FieldType.boolean)) ∈ wTs := wmem (i := 796) (by decide +kernel) (by decide +kernel)
set_option maxRecDepth 20000 in
theorem wm797 : (Jvm.Cond.methodLink "NearSpell" (144 : Nat) ({ cls := "NearSpell$State", name := "spellingOf", desc := "(I)I" } : Jvm.MethodName)) ∈ wTs := wmem (i := 797) (by decide +kernel) (by decide +kernel)
set_option maxRecDepth 20000 in
theorem wm798 : (Jvm.Cond.instanceMethod ({ cls := "NearSpell$State", name := "spellingOf", desc := "(I)I" } : Jvm.MethodName)) ∈ wTs := wmem (i := 798) (by decide +kernel) (by decide +kernel)
set_option maxRecDepth 20000 in
theorem wm799 : (Jvm.Cond.selects "NearSpell$State" ({ cls := "NearSpell$State", name := "spellingOf", desc := "(I)I" } : Jvm.MethodName) ({ cls := "NearSpell$State", name := "spellingOf", desc := "(I)I" } : Jvm.MethodName)) ∈ wTs := wmem (i := 799) (by decide +kernel) (by decide +kernel)
set_option maxRecDepth 20000 in
theorem wm800 : (Jvm.Cond.code ({ cls := "NearSpell$State", name := "spellingOf", desc := "(I)I" } : Jvm.MethodName) prog_10_method_7_code (2 : Nat) (Option.some Jvm.ClassFile.FieldType.int)) ∈ wTs := wmem (i := 800) (by decide +kernel) (by decide +kernel)
set_option maxRecDepth 20000 in
theorem wm801 : (Jvm.Cond.methodLink "NearSpell" (148 : Nat) ({ cls := "NearSpell", name := "lengthOf", desc := "(I)I" } : Jvm.MethodName)) ∈ wTs := wmem (i := 801) (by decide +kernel) (by decide +kernel)
set_option maxRecDepth 20000 in
theorem wm802 : (Jvm.Cond.static ({ cls := "NearSpell", name := "lengthOf", desc := "(I)I" } : Jvm.MethodName)) ∈ wTs := wmem (i := 802) (by decide +kernel) (by decide +kernel)
set_option maxRecDepth 20000 in
theorem wm803 : (Jvm.Cond.code ({ cls := "NearSpell", name := "lengthOf", desc := "(I)I" } : Jvm.MethodName) prog_1_method_53_code (2 : Nat) (Option.some Jvm.ClassFile.FieldType.int)) ∈ wTs := wmem (i := 803) (by decide +kernel) (by decide +kernel)
set_option maxRecDepth 20000 in
theorem wm804 : (Jvm.Cond.fieldLink "NearSpell" (360 : Nat) "NearSpell" "POWERS" "[I") ∈ wTs := wmem (i := 804) (by decide +kernel) (by decide +kernel)
set_option maxRecDepth 20000 in
theorem wm806 : (Jvm.Cond.methodLink "NearSpell" (151 : Nat) ({ cls := "NearSpell$State", name := "usesOf", desc := "(I)I" } : Jvm.MethodName)) ∈ wTs := wmem (i := 806) (by decide +kernel) (by decide +kernel)
set_option maxRecDepth 20000 in
theorem wm807 : (Jvm.Cond.instanceMethod ({ cls := "NearSpell$State", name := "usesOf", desc := "(I)I" } : Jvm.MethodName)) ∈ wTs := wmem (i := 807) (by decide +kernel) (by decide +kernel)
set_option maxRecDepth 20000 in
theorem wm808 : (Jvm.Cond.selects "NearSpell$State" ({ cls := "NearSpell$State", name := "usesOf", desc := "(I)I" } : Jvm.MethodName) ({ cls := "NearSpell$State", name := "usesOf", desc := "(I)I" } : Jvm.MethodName)) ∈ wTs := wmem (i := 808) (by decide +kernel) (by decide +kernel)
set_option maxRecDepth 20000 in
theorem wm809 : (Jvm.Cond.code ({ cls := "NearSpell$State", name := "usesOf", desc := "(I)I" } : Jvm.MethodName) prog_10_method_8_code (2 : Nat) (Option.some Jvm.ClassFile.FieldType.int)) ∈ wTs := wmem (i := 809) (by decide +kernel) (by decide +kernel)
set_option maxRecDepth 20000 in
theorem wm810 : (Jvm.Cond.methodLink "NearSpell" (154 : Nat) ({ cls := "NearSpell$Laid", name := "formsOf", desc := "(I)LNearSpell$FormList;" } : Jvm.MethodName)) ∈ wTs := wmem (i := 810) (by decide +kernel) (by decide +kernel)
set_option maxRecDepth 20000 in
theorem wm811 : (Jvm.Cond.instanceMethod ({ cls := "NearSpell$Laid", name := "formsOf", desc := "(I)LNearSpell$FormList;" } : Jvm.MethodName)) ∈ wTs := wmem (i := 811) (by decide +kernel) (by decide +kernel)
set_option maxRecDepth 20000 in
theorem wm812 : (Jvm.Cond.selects "NearSpell$Laid" ({ cls := "NearSpell$Laid", name := "formsOf", desc := "(I)LNearSpell$FormList;" } : Jvm.MethodName) ({ cls := "NearSpell$Laid", name := "formsOf", desc := "(I)LNearSpell$FormList;" } : Jvm.MethodName)) ∈ wTs := wmem (i := 812) (by decide +kernel) (by decide +kernel)
set_option maxRecDepth 20000 in
theorem wm813 : (Jvm.Cond.code ({ cls := "NearSpell$Laid", name := "formsOf", desc := "(I)LNearSpell$FormList;" } : Jvm.MethodName) prog_6_method_3_code (2 : Nat) (Option.some (Jvm.ClassFile.FieldType.object "NearSpell$FormList"))) ∈ wTs := wmem (i := 813) (by decide +kernel) (by decide +kernel)
set_option maxRecDepth 20000 in
theorem wm815 : (Jvm.Cond.instanceMethod ({ cls := "NearSpell$Laid", name := "formsFor", desc := "(I)LNearSpell$FormList;" } : Jvm.MethodName)) ∈ wTs := wmem (i := 815) (by decide +kernel) (by decide +kernel)
set_option maxRecDepth 20000 in
theorem wm816 : (Jvm.Cond.selects "NearSpell$Laid" ({ cls := "NearSpell$Laid", name := "formsFor", desc := "(I)LNearSpell$FormList;" } : Jvm.MethodName) ({ cls := "NearSpell$Laid", name := "formsFor", desc := "(I)LNearSpell$FormList;" } : Jvm.MethodName)) ∈ wTs := wmem (i := 816) (by decide +kernel) (by decide +kernel)
set_option maxRecDepth 20000 in
theorem wm817 : (Jvm.Cond.code ({ cls := "NearSpell$Laid", name := "formsFor", desc := "(I)LNearSpell$FormList;" } : Jvm.MethodName) prog_6_method_2_code (2 : Nat) (Option.some (Jvm.ClassFile.FieldType.object "NearSpell$FormList"))) ∈ wTs := wmem (i := 817) (by decide +kernel) (by decide +kernel)
set_option maxRecDepth 20000 in
theorem wm818 : (Jvm.Cond.methodLink "NearSpell$Laid" (43 : Nat) ({ cls := "NearSpell$FormList", name := "fill", desc := "(III)V" } : Jvm.MethodName)) ∈ wTs := wmem (i := 818) (by decide +kernel) (by decide +kernel)
set_option maxRecDepth 20000 in
theorem wm819 : (Jvm.Cond.instanceMethod ({ cls := "NearSpell$FormList", name := "fill", desc := "(III)V" } : Jvm.MethodName)) ∈ wTs := wmem (i := 819) (by decide +kernel) (by decide +kernel)
set_option maxRecDepth 20000 in
theorem wm820 : (Jvm.Cond.selects "NearSpell$FormList" ({ cls := "NearSpell$FormList", name := "fill", desc := "(III)V" } : Jvm.MethodName) ({ cls := "NearSpell$FormList", name := "fill", desc := "(III)V" } : Jvm.MethodName)) ∈ wTs := wmem (i := 820) (by decide +kernel) (by decide +kernel)
set_option maxRecDepth 20000 in
theorem wm821 : (Jvm.Cond.code ({ cls := "NearSpell$FormList", name := "fill", desc := "(III)V" } : Jvm.MethodName) prog_5_method_2_code (5 : Nat) (Option.none : Option Jvm.ClassFile.FieldType)) ∈ wTs := wmem (i := 821) (by decide +kernel) (by decide +kernel)
set_option maxRecDepth 20000 in
theorem wm823 : (Jvm.Cond.static ({ cls := "NearSpell", name := "beginningOf", desc := "(II)I" } : Jvm.MethodName)) ∈ wTs := wmem (i := 823) (by decide +kernel) (by decide +kernel)
set_option maxRecDepth 20000 in
theorem wm824 : (Jvm.Cond.code ({ cls := "NearSpell", name := "beginningOf", desc := "(II)I" } : Jvm.MethodName) prog_1_method_55_code (3 : Nat) (Option.some Jvm.ClassFile.FieldType.int)) ∈ wTs := wmem (i := 824) (by decide +kernel) (by decide +kernel)
set_option maxRecDepth 20000 in
theorem wm825 : (Jvm.Cond.methodLink "NearSpell$FormList" (32 : Nat) ({ cls := "NearSpell$FormList", name := "add", desc := "(I)V" } : Jvm.MethodName)) ∈ wTs := wmem (i := 825) (by decide +kernel) (by decide +kernel)
set_option maxRecDepth 20000 in
theorem wm827 : (Jvm.Cond.instanceMethod ({ cls := "NearSpell$FormList", name := "add", desc := "(I)V" } : Jvm.MethodName)) ∈ wTs := wmem (i := 827) (by decide +kernel) (by decide +kernel)
set_option maxRecDepth 20000 in
theorem wm828 : (Jvm.Cond.code ({ cls := "NearSpell$FormList", name := "add", desc := "(I)V" } : Jvm.MethodName) prog_5_method_4_code (4 : Nat) (Option.none : Option Jvm.ClassFile.FieldType)) ∈ wTs := wmem (i := 828) (by decide +kernel) (by decide +kernel)
set_option maxRecDepth 20000 in
theorem wm829 : (Jvm.Cond.methodLink "NearSpell$FormList" (36 : Nat) ({ cls := "NearSpell$FormList", name := "shorten", desc := "(I)V" } : Jvm.MethodName)) ∈ wTs := wmem (i := 829) (by decide +kernel) (by decide +kernel)
set_option maxRecDepth 20000 in
theorem wm831 : (Jvm.Cond.instanceMethod ({ cls := "NearSpell$FormList", name := "shorten", desc := "(I)V" } : Jvm.MethodName)) ∈ wTs := wmem (i := 831) (by decide +kernel) (by decide +kernel)
set_option maxRecDepth 20000 in
theorem wm832 : (Jvm.Cond.code ({ cls := "NearSpell$FormList", name := "shorten", desc := "(I)V" } : Jvm.MethodName) prog_5_method_3_code (6 : Nat) (Option.none : Option Jvm.ClassFile.FieldType)) ∈ wTs := wmem (i := 832) (by decide +kernel) (by decide +kernel)
set_option maxRecDepth 20000 in
theorem wm835 : (Jvm.Cond.static ({ cls := "NearSpell", name := "without", desc := "(II)I" } : Jvm.MethodName)) ∈ wTs := wmem (i := 835) (by decide +kernel) (by decide +kernel)
set_option maxRecDepth 20000 in
theorem wm836 : (Jvm.Cond.code ({ cls := "NearSpell", name := "without", desc := "(II)I" } : Jvm.MethodName) prog_1_method_56_code (2 : Nat) (Option.some Jvm.ClassFile.FieldType.int)) ∈ wTs := wmem (i := 836) (by decide +kernel) (by decide +kernel)
set_option maxRecDepth 20000 in
theorem wm837 : (Jvm.Cond.methodLink "NearSpell$Laid" (51 : Nat) ({ cls := "NearSpell$State", name := "spellingOf", desc := "(I)I" } : Jvm.MethodName)) ∈ wTs := wmem (i := 837) (by decide +kernel) (by decide +kernel)
set_option maxRecDepth 20000 in
theorem wm842 : (Jvm.Cond.methodLink "NearSpell" (163 : Nat) ({ cls := "NearSpell", name := "canBe", desc := "(I)Z" } : Jvm.MethodName)) ∈ wTs := wmem (i := 842) (by decide +kernel) (by decide +kernel)
set_option maxRecDepth 20000 in
theorem wm843 : (Jvm.Cond.static ({ cls := "NearSpell", name := "canBe", desc := "(I)Z" } : Jvm.MethodName)) ∈ wTs := wmem (i := 843) (by decide +kernel) (by decide +kernel)
set_option maxRecDepth 20000 in
theorem wm844 : (Jvm.Cond.code ({ cls := "NearSpell", name := "canBe", desc := "(I)Z" } : Jvm.MethodName) prog_1_method_52_code (3 : Nat) (Option.some Jvm.ClassFile.FieldType.boolean)) ∈ wTs := wmem (i := 844) (by decide +kernel) (by decide +kernel)
set_option maxRecDepth 20000 in
theorem wm845 : (Jvm.Cond.methodLink "NearSpell" (166 : Nat) ({ cls := "NearSpell$State", name := "numberOf", desc := "(I)I" } : Jvm.MethodName)) ∈ wTs := wmem (i := 845) (by decide +kernel) (by decide +kernel)
set_option maxRecDepth 20000 in
theorem wm846 : (Jvm.Cond.instanceMethod ({ cls := "NearSpell$State", name := "numberOf", desc := "(I)I" } : Jvm.MethodName)) ∈ wTs := wmem (i := 846) (by decide +kernel) (by decide +kernel)
set_option maxRecDepth 20000 in
theorem wm847 : (Jvm.Cond.selects "NearSpell$State" ({ cls := "NearSpell$State", name := "numberOf", desc := "(I)I" } : Jvm.MethodName) ({ cls := "NearSpell$State", name := "numberOf", desc := "(I)I" } : Jvm.MethodName)) ∈ wTs := wmem (i := 847) (by decide +kernel) (by decide +kernel)
set_option maxRecDepth 20000 in
theorem wm848 : (Jvm.Cond.code ({ cls := "NearSpell$State", name := "numberOf", desc := "(I)I" } : Jvm.MethodName) prog_10_method_11_code (3 : Nat) (Option.some Jvm.ClassFile.FieldType.int)) ∈ wTs := wmem (i := 848) (by decide +kernel) (by decide +kernel)
set_option maxRecDepth 20000 in
theorem wm849 : (Jvm.Cond.methodLink "NearSpell$State" (34 : Nat) ({ cls := "NearSpell$State", name := "isEntry", desc := "(I)Z" } : Jvm.MethodName)) ∈ wTs := wmem (i := 849) (by decide +kernel) (by decide +kernel)
set_option maxRecDepth 20000 in
theorem wm850 : (Jvm.Cond.methodLink "NearSpell$State" (38 : Nat) ({ cls := "NearSpell$State", name := "spellingOf", desc := "(I)I" } : Jvm.MethodName)) ∈ wTs := wmem (i := 850) (by decide +kernel) (by decide +kernel)
set_option maxRecDepth 20000 in
theorem wm851 : (Jvm.Cond.methodLink "NearSpell" (169 : Nat) ({ cls := "NearSpell$State", name := "given", desc := "()I" } : Jvm.MethodName)) ∈ wTs := wmem (i := 851) (by decide +kernel) (by decide +kernel)
set_option maxRecDepth 20000 in
theorem wm852 : (Jvm.Cond.instanceMethod ({ cls := "NearSpell$State", name := "given", desc := "()I" } : Jvm.MethodName)) ∈ wTs := wmem (i := 852) (by decide +kernel) (by decide +kernel)
set_option maxRecDepth 20000 in
theorem wm853 : (Jvm.Cond.selects "NearSpell$State" ({ cls := "NearSpell$State", name := "given", desc := "()I" } : Jvm.MethodName) ({ cls := "NearSpell$State", name := "given", desc := "()I" } : Jvm.MethodName)) ∈ wTs := wmem (i := 853) (by decide +kernel) (by decide +kernel)
set_option maxRecDepth 20000 in
theorem wm854 : (Jvm.Cond.code ({ cls := "NearSpell$State", name := "given", desc := "()I" } : Jvm.MethodName) prog_10_method_3_code (1 : Nat) (Option.some Jvm.ClassFile.FieldType.int)) ∈ wTs := wmem (i := 854) (by decide +kernel) (by decide +kernel)
set_option maxRecDepth 20000 in
theorem wm855 : (Jvm.Cond.methodLink "NearSpell" (173 : Nat) ({ cls := "NearSpell$State", name := "addEntry", desc := "(II)I" } : Jvm.MethodName)) ∈ wTs := wmem (i := 855) (by decide +kernel) (by decide +kernel)
set_option maxRecDepth 20000 in
theorem wm856 : (Jvm.Cond.methodLink "NearSpell" (177 : Nat) ({ cls := "NearSpell$Archive", name := "keepAct", desc := "(LNearSpell$State;)V" } : Jvm.MethodName)) ∈ wTs := wmem (i := 856) (by decide +kernel) (by decide +kernel)
set_option maxRecDepth 20000 in
theorem wm857 : (Jvm.Cond.instanceMethod ({ cls := "NearSpell$Archive", name := "keepAct", desc := "(LNearSpell$State;)V" } : Jvm.MethodName)) ∈ wTs := wmem (i := 857) (by decide +kernel) (by decide +kernel)
set_option maxRecDepth 20000 in
theorem wm858 : (Jvm.Cond.selects "NearSpell$Archive" ({ cls := "NearSpell$Archive", name := "keepAct", desc := "(LNearSpell$State;)V" } : Jvm.MethodName) ({ cls := "NearSpell$Archive", name := "keepAct", desc := "(LNearSpell$State;)V" } : Jvm.MethodName)) ∈ wTs := wmem (i := 858) (by decide +kernel) (by decide +kernel)
set_option maxRecDepth 20000 in
theorem wm859 : (Jvm.Cond.code ({ cls := "NearSpell$Archive", name := "keepAct", desc := "(LNearSpell$State;)V" } : Jvm.MethodName) prog_2_method_3_code (2 : Nat) (Option.none : Option Jvm.ClassFile.FieldType)) ∈ wTs := wmem (i := 859) (by decide +kernel) (by decide +kernel)
set_option maxRecDepth 20000 in
theorem wm864 : (Jvm.Cond.methodLink "NearSpell" (180 : Nat) ({ cls := "NearSpell$State", name := "dropEntry", desc := "(I)V" } : Jvm.MethodName)) ∈ wTs := wmem (i := 864) (by decide +kernel) (by decide +kernel)
set_option maxRecDepth 20000 in
theorem wm865 : (Jvm.Cond.instanceMethod ({ cls := "NearSpell$State", name := "dropEntry", desc := "(I)V" } : Jvm.MethodName)) ∈ wTs := wmem (i := 865) (by decide +kernel) (by decide +kernel)
set_option maxRecDepth 20000 in
theorem wm866 : (Jvm.Cond.selects "NearSpell$State" ({ cls := "NearSpell$State", name := "dropEntry", desc := "(I)V" } : Jvm.MethodName) ({ cls := "NearSpell$State", name := "dropEntry", desc := "(I)V" } : Jvm.MethodName)) ∈ wTs := wmem (i := 866) (by decide +kernel) (by decide +kernel)
set_option maxRecDepth 20000 in
theorem wm867 : (Jvm.Cond.code ({ cls := "NearSpell$State", name := "dropEntry", desc := "(I)V" } : Jvm.MethodName) prog_10_method_13_code (2 : Nat) (Option.none : Option Jvm.ClassFile.FieldType)) ∈ wTs := wmem (i := 867) (by decide +kernel) (by decide +kernel)
set_option maxRecDepth 20000 in
theorem wm868 : (Jvm.Cond.methodLink "NearSpell" (183 : Nat) ({ cls := "NearSpell$State", name := "entries", desc := "()I" } : Jvm.MethodName)) ∈ wTs := wmem (i := 868) (by decide +kernel) (by decide +kernel)
set_option maxRecDepth 20000 in
theorem wm869 : (Jvm.Cond.instanceMethod ({ cls := "NearSpell$State", name := "entries", desc := "()I" } : Jvm.MethodName)) ∈ wTs := wmem (i := 869) (by decide +kernel) (by decide +kernel)
set_option maxRecDepth 20000 in
theorem wm870 : (Jvm.Cond.selects "NearSpell$State" ({ cls := "NearSpell$State", name := "entries", desc := "()I" } : Jvm.MethodName) ({ cls := "NearSpell$State", name := "entries", desc := "()I" } : Jvm.MethodName)) ∈ wTs := wmem (i := 870) (by decide +kernel) (by decide +kernel)
set_option maxRecDepth 20000 in
theorem wm871 : (Jvm.Cond.code ({ cls := "NearSpell$State", name := "entries", desc := "()I" } : Jvm.MethodName) prog_10_method_10_code (3 : Nat) (Option.some Jvm.ClassFile.FieldType.int)) ∈ wTs := wmem (i := 871) (by decide +kernel) (by decide +kernel)
set_option maxRecDepth 20000 in
theorem wm876 : (Jvm.Cond.methodLink "NearSpell" (186 : Nat) ({ cls := "NearSpell$State", name := "useOnce", desc := "(I)V" } : Jvm.MethodName)) ∈ wTs := wmem (i := 876) (by decide +kernel) (by decide +kernel)
set_option maxRecDepth 20000 in
theorem wm877 : (Jvm.Cond.instanceMethod ({ cls := "NearSpell$State", name := "useOnce", desc := "(I)V" } : Jvm.MethodName)) ∈ wTs := wmem (i := 877) (by decide +kernel) (by decide +kernel)
set_option maxRecDepth 20000 in
theorem wm878 : (Jvm.Cond.selects "NearSpell$State" ({ cls := "NearSpell$State", name := "useOnce", desc := "(I)V" } : Jvm.MethodName) ({ cls := "NearSpell$State", name := "useOnce", desc := "(I)V" } : Jvm.MethodName)) ∈ wTs := wmem (i := 878) (by decide +kernel) (by decide +kernel)
set_option maxRecDepth 20000 in
theorem wm879 : (Jvm.Cond.code ({ cls := "NearSpell$State", name := "useOnce", desc := "(I)V" } : Jvm.MethodName) prog_10_method_14_code (2 : Nat) (Option.none : Option Jvm.ClassFile.FieldType)) ∈ wTs := wmem (i := 879) (by decide +kernel) (by decide +kernel)
set_option maxRecDepth 20000 in
theorem wm884 : (Jvm.Cond.methodLink "NearSpell" (189 : Nat) ({ cls := "NearSpell$State", name := "phraseSize", desc := "()I" } : Jvm.MethodName)) ∈ wTs := wmem (i := 884) (by decide +kernel) (by decide +kernel)
set_option maxRecDepth 20000 in
theorem wm885 : (Jvm.Cond.instanceMethod ({ cls := "NearSpell$State", name := "phraseSize", desc := "()I" } : Jvm.MethodName)) ∈ wTs := wmem (i := 885) (by decide +kernel) (by decide +kernel)
set_option maxRecDepth 20000 in
theorem wm886 : (Jvm.Cond.selects "NearSpell$State" ({ cls := "NearSpell$State", name := "phraseSize", desc := "()I" } : Jvm.MethodName) ({ cls := "NearSpell$State", name := "phraseSize", desc := "()I" } : Jvm.MethodName)) ∈ wTs := wmem (i := 886) (by decide +kernel) (by decide +kernel)
set_option maxRecDepth 20000 in
theorem wm887 : (Jvm.Cond.code ({ cls := "NearSpell$State", name := "phraseSize", desc := "()I" } : Jvm.MethodName) prog_10_method_4_code (1 : Nat) (Option.some Jvm.ClassFile.FieldType.int)) ∈ wTs := wmem (i := 887) (by decide +kernel) (by decide +kernel)
set_option maxRecDepth 20000 in
theorem wm888 : (Jvm.Cond.methodLink "NearSpell" (195 : Nat) ({ cls := "NearSpell$State", name := "addTyped", desc := "(II)I" } : Jvm.MethodName)) ∈ wTs := wmem (i := 888) (by decide +kernel) (by decide +kernel)
set_option maxRecDepth 20000 in
theorem wm889 : (Jvm.Cond.instanceMethod ({ cls := "NearSpell$State", name := "addTyped", desc := "(II)I" } : Jvm.MethodName)) ∈ wTs := wmem (i := 889) (by decide +kernel) (by decide +kernel)
set_option maxRecDepth 20000 in
theorem wm890 : (Jvm.Cond.selects "NearSpell$State" ({ cls := "NearSpell$State", name := "addTyped", desc := "(II)I" } : Jvm.MethodName) ({ cls := "NearSpell$State", name := "addTyped", desc := "(II)I" } : Jvm.MethodName)) ∈ wTs := wmem (i := 890) (by decide +kernel) (by decide +kernel)
set_option maxRecDepth 20000 in
theorem wm891 : (Jvm.Cond.code ({ cls := "NearSpell$State", name := "addTyped", desc := "(II)I" } : Jvm.MethodName) prog_10_method_15_code (4 : Nat) (Option.some Jvm.ClassFile.FieldType.int)) ∈ wTs := wmem (i := 891) (by decide +kernel) (by decide +kernel)
set_option maxRecDepth 20000 in
theorem wm892 : (Jvm.Cond.methodLink "NearSpell" (198 : Nat) ({ cls := "NearSpell$Finder", name := "nearestTo", desc := "(I)I" } : Jvm.MethodName)) ∈ wTs := wmem (i := 892) (by decide +kernel) (by decide +kernel)
set_option maxRecDepth 20000 in
theorem wm893 : (Jvm.Cond.instanceMethod ({ cls := "NearSpell$Finder", name := "nearestTo", desc := "(I)I" } : Jvm.MethodName)) ∈ wTs := wmem (i := 893) (by decide +kernel) (by decide +kernel)
set_option maxRecDepth 20000 in
theorem wm894 : (Jvm.Cond.selects "NearSpell$Finder" ({ cls := "NearSpell$Finder", name := "nearestTo", desc := "(I)I" } : Jvm.MethodName) ({ cls := "NearSpell$Finder", name := "nearestTo", desc := "(I)I" } : Jvm.MethodName)) ∈ wTs := wmem (i := 894) (by decide +kernel) (by decide +kernel)
set_option maxRecDepth 20000 in
theorem wm895 : (Jvm.Cond.code ({ cls := "NearSpell$Finder", name := "nearestTo", desc := "(I)I" } : Jvm.MethodName) prog_4_method_5_code (3 : Nat) (Option.some Jvm.ClassFile.FieldType.int)) ∈ wTs := wmem (i := 895) (by decide +kernel) (by decide +kernel)
set_option maxRecDepth 20000 in
theorem wm896 : (Jvm.Cond.methodLink "NearSpell$Finder" (73 : Nat) ({ cls := "NearSpell$Finder", name := "within", desc := "(II)I" } : Jvm.MethodName)) ∈ wTs := wmem (i := 896) (by decide +kernel) (by decide +kernel)
set_option maxRecDepth 20000 in
theorem wm897 : (Jvm.Cond.instanceMethod ({ cls := "NearSpell$Finder", name := "within", desc := "(II)I" } : Jvm.MethodName)) ∈ wTs := wmem (i := 897) (by decide +kernel) (by decide +kernel)
set_option maxRecDepth 20000 in
theorem wm898 : (Jvm.Cond.selects "NearSpell$Finder" ({ cls := "NearSpell$Finder", name := "within", desc := "(II)I" } : Jvm.MethodName) ({ cls := "NearSpell$Finder", name := "within", desc := "(II)I" } : Jvm.MethodName)) ∈ wTs := wmem (i := 898) (by decide +kernel) (by decide +kernel)
set_option maxRecDepth 20000 in
theorem wm899 : (Jvm.Cond.code ({ cls := "NearSpell$Finder", name := "within", desc := "(II)I" } : Jvm.MethodName) prog_4_method_4_code (5 : Nat) (Option.some Jvm.ClassFile.FieldType.int)) ∈ wTs := wmem (i := 899) (by decide +kernel) (by decide +kernel)
set_option maxRecDepth 20000 in
theorem wm900 : (Jvm.Cond.methodLink "NearSpell$Finder" (60 : Nat) ({ cls := "NearSpell$Ruler", name := "setText", desc := "(I)V" } : Jvm.MethodName)) ∈ wTs := wmem (i := 900) (by decide +kernel) (by decide +kernel)
set_option maxRecDepth 20000 in
theorem wm901 : (Jvm.Cond.instanceMethod ({ cls := "NearSpell$Ruler", name := "setText", desc := "(I)V" } : Jvm.MethodName)) ∈ wTs := wmem (i := 901) (by decide +kernel) (by decide +kernel)
set_option maxRecDepth 20000 in
theorem wm902 : (Jvm.Cond.selects "NearSpell$Ruler" ({ cls := "NearSpell$Ruler", name := "setText", desc := "(I)V" } : Jvm.MethodName) ({ cls := "NearSpell$Ruler", name := "setText", desc := "(I)V" } : Jvm.MethodName)) ∈ wTs := wmem (i := 902) (by decide +kernel) (by decide +kernel)
set_option maxRecDepth 20000 in
theorem wm903 : (Jvm.Cond.code ({ cls := "NearSpell$Ruler", name := "setText", desc := "(I)V" } : Jvm.MethodName) prog_9_method_3_code (2 : Nat) (Option.none : Option Jvm.ClassFile.FieldType)) ∈ wTs := wmem (i := 903) (by decide +kernel) (by decide +kernel)
set_option maxRecDepth 20000 in
theorem wm904 : (Jvm.Cond.methodLink "NearSpell$Ruler" (36 : Nat) ({ cls := "NearSpell$Ruler", name := "putLetters", desc := "(I[II)I" } : Jvm.MethodName)) ∈ wTs := wmem (i := 904) (by decide +kernel) (by decide +kernel)
set_option maxRecDepth 20000 in
theorem wm905 : (Jvm.Cond.static ({ cls := "NearSpell$Ruler", name := "putLetters", desc := "(I[II)I" } : Jvm.MethodName)) ∈ wTs := wmem (i := 905) (by decide +kernel) (by decide +kernel)
set_option maxRecDepth 20000 in
theorem wm906 : (Jvm.Cond.code ({ cls := "NearSpell$Ruler", name := "putLetters", desc := "(I[II)I" } : Jvm.MethodName) prog_9_method_8_code (6 : Nat) (Option.some Jvm.ClassFile.FieldType.int)) ∈ wTs := wmem (i := 906) (by decide +kernel) (by decide +kernel)
set_option maxRecDepth 20000 in
theorem wm908 : (Jvm.Cond.methodLink "NearSpell$Finder" (43 : Nat) ({ cls := "NearSpell$State", name := "given", desc := "()I" } : Jvm.MethodName)) ∈ wTs := wmem (i := 908) (by decide +kernel) (by decide +kernel)
set_option maxRecDepth 20000 in
theorem wm909 : (Jvm.Cond.methodLink "NearSpell$Finder" (49 : Nat) ({ cls := "NearSpell$State", name := "isEntry", desc := "(I)Z" } : Jvm.MethodName)) ∈ wTs := wmem (i := 909) (by decide +kernel) (by decide +kernel)
set_option maxRecDepth 20000 in
theorem wm910 : (Jvm.Cond.methodLink "NearSpell$Finder" (66 : Nat) ({ cls := "NearSpell$State", name := "spellingOf", desc := "(I)I" } : Jvm.MethodName)) ∈ wTs := wmem (i := 910) (by decide +kernel) (by decide +kernel)
set_option maxRecDepth 20000 in
theorem wm911 : (Jvm.Cond.methodLink "NearSpell$Finder" (70 : Nat) ({ cls := "NearSpell$Ruler", name := "to", desc := "(I)I" } : Jvm.MethodName)) ∈ wTs := wmem (i := 911) (by decide +kernel) (by decide +kernel)
set_option maxRecDepth 20000 in
theorem wm912 : (Jvm.Cond.instanceMethod ({ cls := "NearSpell$Ruler", name := "to", desc := "(I)I" } : Jvm.MethodName)) ∈ wTs := wmem (i := 912) (by decide +kernel) (by decide +kernel)
set_option maxRecDepth 20000 in
theorem wm913 : (Jvm.Cond.selects "NearSpell$Ruler" ({ cls := "NearSpell$Ruler", name := "to", desc := "(I)I" } : Jvm.MethodName) ({ cls := "NearSpell$Ruler", name := "to", desc := "(I)I" } : Jvm.MethodName)) ∈ wTs := wmem (i := 913) (by decide +kernel) (by decide +kernel)
set_option maxRecDepth 20000 in
theorem wm914 : (Jvm.Cond.code ({ cls := "NearSpell$Ruler", name := "to", desc := "(I)I" } : Jvm.MethodName) prog_9_method_5_code (2 : Nat) (Option.some Jvm.ClassFile.FieldType.int)) ∈ wTs := wmem (i := 914) (by decide +kernel) (by decide +kernel)
set_option maxRecDepth 20000 in
theorem wm915 : (Jvm.Cond.methodLink "NearSpell$Ruler" (40 : Nat) ({ cls := "NearSpell$Ruler", name := "toLonger", desc := "(II)I" } : Jvm.MethodName)) ∈ wTs := wmem (i := 915) (by decide +kernel) (by decide +kernel)
set_option maxRecDepth 20000 in
theorem wm916 : (Jvm.Cond.instanceMethod ({ cls := "NearSpell$Ruler", name := "toLonger", desc := "(II)I" } : Jvm.MethodName)) ∈ wTs := wmem (i := 916) (by decide +kernel) (by decide +kernel)
set_option maxRecDepth 20000 in
theorem wm917 : (Jvm.Cond.selects "NearSpell$Ruler" ({ cls := "NearSpell$Ruler", name := "toLonger", desc := "(II)I" } : Jvm.MethodName) ({ cls := "NearSpell$Ruler", name := "toLonger", desc := "(II)I" } : Jvm.MethodName)) ∈ wTs := wmem (i := 917) (by decide +kernel) (by decide +kernel)
set_option maxRecDepth 20000 in
theorem wm918 : (Jvm.Cond.code ({ cls := "NearSpell$Ruler", name := "toLonger", desc := "(II)I" } : Jvm.MethodName) prog_9_method_7_code (5 : Nat) (Option.some Jvm.ClassFile.FieldType.int)) ∈ wTs := wmem (i := 918) (by decide +kernel) (by decide +kernel)
set_option maxRecDepth 20000 in
theorem wm919 : (Jvm.Cond.methodLink "NearSpell$Ruler" (44 : Nat) ({ cls := "java/lang/Math", name := "min", desc := "(II)I" } : Jvm.MethodName)) ∈ wTs := wmem (i := 919) (by decide +kernel) (by decide +kernel)
set_option maxRecDepth 20000 in
theorem wm920 : (Jvm.Cond.methodLink "NearSpell$Ruler" (49 : Nat) ({ cls := "java/lang/Math", name := "max", desc := "(II)I" } : Jvm.MethodName)) ∈ wTs := wmem (i := 920) (by decide +kernel) (by decide +kernel)
set_option maxRecDepth 20000 in
theorem wm921 : (Jvm.Cond.methodLink "NearSpell$Ruler" (52 : Nat) ({ cls := "NearSpell$Ruler", name := "fillRow", desc := "(I)V" } : Jvm.MethodName)) ∈ wTs := wmem (i := 921) (by decide +kernel) (by decide +kernel)
set_option maxRecDepth 20000 in
theorem wm923 : (Jvm.Cond.instanceMethod ({ cls := "NearSpell$Ruler", name := "fillRow", desc := "(I)V" } : Jvm.MethodName)) ∈ wTs := wmem (i := 923) (by decide +kernel) (by decide +kernel)
set_option maxRecDepth 20000 in
theorem wm924 : (Jvm.Cond.code ({ cls := "NearSpell$Ruler", name := "fillRow", desc := "(I)V" } : Jvm.MethodName) prog_9_method_9_code (7 : Nat) (Option.none : Option Jvm.ClassFile.FieldType)) ∈ wTs := wmem (i := 924) (by decide +kernel) (by decide +kernel)
set_option maxRecDepth 20000 in
theorem wm925 : (Jvm.Cond.methodLink "NearSpell$Finder" (77 : Nat) ({ cls := "NearSpell$Finder", name := "trulyMetBy", desc := "(I)I" } : Jvm.MethodName)) ∈ wTs := wmem (i := 925) (by decide +kernel) (by decide +kernel)
set_option maxRecDepth 20000 in
theorem wm926 : (Jvm.Cond.instanceMethod ({ cls := "NearSpell$Finder", name := "trulyMetBy", desc := "(I)I" } : Jvm.MethodName)) ∈ wTs := wmem (i := 926) (by decide +kernel) (by decide +kernel)
set_option maxRecDepth 20000 in
theorem wm927 : (Jvm.Cond.selects "NearSpell$Finder" ({ cls := "NearSpell$Finder", name := "trulyMetBy", desc := "(I)I" } : Jvm.MethodName) ({ cls := "NearSpell$Finder", name := "trulyMetBy", desc := "(I)I" } : Jvm.MethodName)) ∈ wTs := wmem (i := 927) (by decide +kernel) (by decide +kernel)
set_option maxRecDepth 20000 in
theorem wm928 : (Jvm.Cond.code ({ cls := "NearSpell$Finder", name := "trulyMetBy", desc := "(I)I" } : Jvm.MethodName) prog_4_method_3_code (5 : Nat) (Option.some Jvm.ClassFile.FieldType.int)) ∈ wTs := wmem (i := 928) (by decide +kernel) (by decide +kernel)
set_option maxRecDepth 20000 in
theorem wm929 : (Jvm.Cond.methodLink "NearSpell$Finder" (31 : Nat) ({ cls := "NearSpell$Laid", name := "formsFor", desc := "(I)LNearSpell$FormList;" } : Jvm.MethodName)) ∈ wTs := wmem (i := 929) (by decide +kernel) (by decide +kernel)
set_option maxRecDepth 20000 in
theorem wm930 : (Jvm.Cond.methodLink "NearSpell$Finder" (53 : Nat) ({ cls := "NearSpell$Laid", name := "formsOf", desc := "(I)LNearSpell$FormList;" } : Jvm.MethodName)) ∈ wTs := wmem (i := 930) (by decide +kernel) (by decide +kernel)
set_option maxRecDepth 20000 in
theorem wm931 : (Jvm.Cond.methodLink "NearSpell$Finder" (56 : Nat) ({ cls := "NearSpell$FormList", name := "shares", desc := "(LNearSpell$FormList;)Z" } : Jvm.MethodName)) ∈ wTs := wmem (i := 931) (by decide +kernel) (by decide +kernel)
set_option maxRecDepth 20000 in
theorem wm932 : (Jvm.Cond.instanceMethod ({ cls := "NearSpell$FormList", name := "shares", desc := "(LNearSpell$FormList;)Z" } : Jvm.MethodName)) ∈ wTs := wmem (i := 932) (by decide +kernel) (by decide +kernel)
set_option maxRecDepth 20000 in
theorem wm933 : (Jvm.Cond.selects "NearSpell$FormList" ({ cls := "NearSpell$FormList", name := "shares", desc := "(LNearSpell$FormList;)Z" } : Jvm.MethodName) ({ cls := "NearSpell$FormList", name := "shares", desc := "(LNearSpell$FormList;)Z" } : Jvm.MethodName)) ∈ wTs := wmem (i := 933) (by decide +kernel) (by decide +kernel)
set_option maxRecDepth 20000 in
theorem wm934 : (Jvm.Cond.code ({ cls := "NearSpell$FormList", name := "shares", desc := "(LNearSpell$FormList;)Z" } : Jvm.MethodName) prog_5_method_6_code (3 : Nat) (Option.some Jvm.ClassFile.FieldType.boolean)) ∈ wTs := wmem (i := 934) (by decide +kernel) (by decide +kernel)
set_option maxRecDepth 20000 in
theorem wm935 : (Jvm.Cond.methodLink "NearSpell$FormList" (46 : Nat) ({ cls := "NearSpell$FormList", name := "has", desc := "(I)Z" } : Jvm.MethodName)) ∈ wTs := wmem (i := 935) (by decide +kernel) (by decide +kernel)
set_option maxRecDepth 20000 in
theorem wm936 : (Jvm.Cond.instanceMethod ({ cls := "NearSpell$FormList", name := "has", desc := "(I)Z" } : Jvm.MethodName)) ∈ wTs := wmem (i := 936) (by decide +kernel) (by decide +kernel)
set_option maxRecDepth 20000 in
theorem wm937 : (Jvm.Cond.selects "NearSpell$FormList" ({ cls := "NearSpell$FormList", name := "has", desc := "(I)Z" } : Jvm.MethodName) ({ cls := "NearSpell$FormList", name := "has", desc := "(I)Z" } : Jvm.MethodName)) ∈ wTs := wmem (i := 937) (by decide +kernel) (by decide +kernel)
set_option maxRecDepth 20000 in
theorem wm938 : (Jvm.Cond.code ({ cls := "NearSpell$FormList", name := "has", desc := "(I)Z" } : Jvm.MethodName) prog_5_method_5_code (3 : Nat) (Option.some Jvm.ClassFile.FieldType.boolean)) ∈ wTs := wmem (i := 938) (by decide +kernel) (by decide +kernel)
set_option maxRecDepth 20000 in
theorem wm939 : (Jvm.Cond.methodLink "NearSpell$Finder" (80 : Nat) ({ cls := "NearSpell$Finder", name := "firstOf", desc := "(I)I" } : Jvm.MethodName)) ∈ wTs := wmem (i := 939) (by decide +kernel) (by decide +kernel)
set_option maxRecDepth 20000 in
theorem wm941 : (Jvm.Cond.instanceMethod ({ cls := "NearSpell$Finder", name := "firstOf", desc := "(I)I" } : Jvm.MethodName)) ∈ wTs := wmem (i := 941) (by decide +kernel) (by decide +kernel)
set_option maxRecDepth 20000 in
theorem wm942 : (Jvm.Cond.code ({ cls := "NearSpell$Finder", name := "firstOf", desc := "(I)I" } : Jvm.MethodName) prog_4_method_7_code (4 : Nat) (Option.some Jvm.ClassFile.FieldType.int)) ∈ wTs := wmem (i := 942) (by decide +kernel) (by decide +kernel)
set_option maxRecDepth 20000 in
theorem wm943 : (Jvm.Cond.methodLink "NearSpell$Finder" (83 : Nat) ({ cls := "NearSpell$Finder", name := "comesAhead", desc := "(II)Z" } : Jvm.MethodName)) ∈ wTs := wmem (i := 943) (by decide +kernel) (by decide +kernel)
set_option maxRecDepth 20000 in
theorem wm945 : (Jvm.Cond.instanceMethod ({ cls := "NearSpell$Finder", name := "comesAhead", desc := "(II)Z" } : Jvm.MethodName)) ∈ wTs := wmem (i := 945) (by decide +kernel) (by decide +kernel)
set_option maxRecDepth 20000 in
theorem wm946 : (Jvm.Cond.code ({ cls := "NearSpell$Finder", name := "comesAhead", desc := "(II)Z" } : Jvm.MethodName) prog_4_method_8_code (3 : Nat) (Option.some Jvm.ClassFile.FieldType.boolean)) ∈ wTs := wmem (i := 946) (by decide +kernel) (by decide +kernel)
set_option maxRecDepth 20000 in
theorem wm947 : (Jvm.Cond.methodLink "NearSpell$Finder" (87 : Nat) ({ cls := "NearSpell$State", name := "usesOf", desc := "(I)I" } : Jvm.MethodName)) ∈ wTs := wmem (i := 947) (by decide +kernel) (by decide +kernel)
set_option maxRecDepth 20000 in
theorem wm952 : (Jvm.Cond.methodLink "NearSpell" (201 : Nat) ({ cls := "NearSpell$State", name := "dropPhrase", desc := "()V" } : Jvm.MethodName)) ∈ wTs := wmem (i := 952) (by decide +kernel) (by decide +kernel)
set_option maxRecDepth 20000 in
theorem wm953 : (Jvm.Cond.instanceMethod ({ cls := "NearSpell$State", name := "dropPhrase", desc := "()V" } : Jvm.MethodName)) ∈ wTs := wmem (i := 953) (by decide +kernel) (by decide +kernel)
set_option maxRecDepth 20000 in
theorem wm954 : (Jvm.Cond.selects "NearSpell$State" ({ cls := "NearSpell$State", name := "dropPhrase", desc := "()V" } : Jvm.MethodName) ({ cls := "NearSpell$State", name := "dropPhrase", desc := "()V" } : Jvm.MethodName)) ∈ wTs := wmem (i := 954) (by decide +kernel) (by decide +kernel)
set_option maxRecDepth 20000 in
theorem wm955 : (Jvm.Cond.code ({ cls := "NearSpell$State", name := "dropPhrase", desc := "()V" } : Jvm.MethodName) prog_10_method_16_code (1 : Nat) (Option.none : Option Jvm.ClassFile.FieldType)) ∈ wTs := wmem (i := 955) (by decide +kernel) (by decide +kernel)
set_option maxRecDepth 20000 in
theorem wm960 : (Jvm.Cond.methodLink "NearSpell" (204 : Nat) ({ cls := "NearSpell$Archive", name := "takeBack", desc := "(LNearSpell$State;)Z" } : Jvm.MethodName)) ∈ wTs := wmem (i := 960) (by decide +kernel) (by decide +kernel)
set_option maxRecDepth 20000 in
theorem wm961 : (Jvm.Cond.instanceMethod ({ cls := "NearSpell$Archive", name := "takeBack", desc := "(LNearSpell$State;)Z" } : Jvm.MethodName)) ∈ wTs := wmem (i := 961) (by decide +kernel) (by decide +kernel)
set_option maxRecDepth 20000 in
theorem wm962 : (Jvm.Cond.selects "NearSpell$Archive" ({ cls := "NearSpell$Archive", name := "takeBack", desc := "(LNearSpell$State;)Z" } : Jvm.MethodName) ({ cls := "NearSpell$Archive", name := "takeBack", desc := "(LNearSpell$State;)Z" } : Jvm.MethodName)) ∈ wTs := wmem (i := 962) (by decide +kernel) (by decide +kernel)
set_option maxRecDepth 20000 in
theorem wm963 : (Jvm.Cond.code ({ cls := "NearSpell$Archive", name := "takeBack", desc := "(LNearSpell$State;)Z" } : Jvm.MethodName) prog_2_method_4_code (2 : Nat) (Option.some Jvm.ClassFile.FieldType.boolean)) ∈ wTs := wmem (i := 963) (by decide +kernel) (by decide +kernel)
set_option maxRecDepth 20000 in
theorem wm964 : (Jvm.Cond.methodLink "NearSpell$Archive" (37 : Nat) ({ cls := "NearSpell$Archive", name := "fetchRow", desc := "(LNearSpell$State;)V" } : Jvm.MethodName)) ∈ wTs := wmem (i := 964) (by decide +kernel) (by decide +kernel)
set_option maxRecDepth 20000 in
theorem wm966 : (Jvm.Cond.instanceMethod ({ cls := "NearSpell$Archive", name := "fetchRow", desc := "(LNearSpell$State;)V" } : Jvm.MethodName)) ∈ wTs := wmem (i := 966) (by decide +kernel) (by decide +kernel)
set_option maxRecDepth 20000 in
theorem wm967 : (Jvm.Cond.code ({ cls := "NearSpell$Archive", name := "fetchRow", desc := "(LNearSpell$State;)V" } : Jvm.MethodName) prog_2_method_8_code (2 : Nat) (Option.none : Option Jvm.ClassFile.FieldType)) ∈ wTs := wmem (i := 967) (by decide +kernel) (by decide +kernel)
set_option maxRecDepth 20000 in
theorem wm972 : (Jvm.Cond.methodLink "NearSpell" (208 : Nat) ({ cls := "NearSpell$Archive", name := "doAgain", desc := "(LNearSpell$State;)Z" } : Jvm.MethodName)) ∈ wTs := wmem (i := 972) (by decide +kernel) (by decide +kernel)
set_option maxRecDepth 20000 in
theorem wm973 : (Jvm.Cond.instanceMethod ({ cls := "NearSpell$Archive", name := "doAgain", desc := "(LNearSpell$State;)Z" } : Jvm.MethodName)) ∈ wTs := wmem (i := 973) (by decide +kernel) (by decide +kernel)
set_option maxRecDepth 20000 in
theorem wm974 : (Jvm.Cond.selects "NearSpell$Archive" ({ cls := "NearSpell$Archive", name := "doAgain", desc := "(LNearSpell$State;)Z" } : Jvm.MethodName) ({ cls := "NearSpell$Archive", name := "doAgain", desc := "(LNearSpell$State;)Z" } : Jvm.MethodName)) ∈ wTs := wmem (i := 974) (by decide +kernel) (by decide +kernel)
set_option maxRecDepth 20000 in
theorem wm975 : (Jvm.Cond.code ({ cls := "NearSpell$Archive", name := "doAgain", desc := "(LNearSpell$State;)Z" } : Jvm.MethodName) prog_2_method_5_code (2 : Nat) (Option.some Jvm.ClassFile.FieldType.boolean)) ∈ wTs := wmem (i := 975) (by decide +kernel) (by decide +kernel)
set_option maxRecDepth 20000 in
theorem wm980 : (Jvm.Cond.methodLink "NearSpell" (211 : Nat) ({ cls := "NearSpell$State", name := "typedAt", desc := "(I)I" } : Jvm.MethodName)) ∈ wTs := wmem (i := 980) (by decide +kernel) (by decide +kernel)
set_option maxRecDepth 20000 in
theorem wm981 : (Jvm.Cond.instanceMethod ({ cls := "NearSpell$State", name := "typedAt", desc := "(I)I" } : Jvm.MethodName)) ∈ wTs := wmem (i := 981) (by decide +kernel) (by decide +kernel)
set_option maxRecDepth 20000 in
theorem wm982 : (Jvm.Cond.selects "NearSpell$State" ({ cls := "NearSpell$State", name := "typedAt", desc := "(I)I" } : Jvm.MethodName) ({ cls := "NearSpell$State", name := "typedAt", desc := "(I)I" } : Jvm.MethodName)) ∈ wTs := wmem (i := 982) (by decide +kernel) (by decide +kernel)
set_option maxRecDepth 20000 in
theorem wm983 : (Jvm.Cond.code ({ cls := "NearSpell$State", name := "typedAt", desc := "(I)I" } : Jvm.MethodName) prog_10_method_9_code (2 : Nat) (Option.some Jvm.ClassFile.FieldType.int)) ∈ wTs := wmem (i := 983) (by decide +kernel) (by decide +kernel)
set_option maxRecDepth 20000 in
theorem wm988 : (Jvm.Cond.methodLink "NearSpell" (214 : Nat) ({ cls := "NearSpell$Ruler", name := "between", desc := "(II)I" } : Jvm.MethodName)) ∈ wTs := wmem (i := 988) (by decide +kernel) (by decide +kernel)
set_option maxRecDepth 20000 in
theorem wm989 : (Jvm.Cond.instanceMethod ({ cls := "NearSpell$Ruler", name := "between", desc := "(II)I" } : Jvm.MethodName)) ∈ wTs := wmem (i := 989) (by decide +kernel) (by decide +kernel)
set_option maxRecDepth 20000 in
theorem wm990 : (Jvm.Cond.selects "NearSpell$Ruler" ({ cls := "NearSpell$Ruler", name := "between", desc := "(II)I" } : Jvm.MethodName) ({ cls := "NearSpell$Ruler", name := "between", desc := "(II)I" } : Jvm.MethodName)) ∈ wTs := wmem (i := 990) (by decide +kernel) (by decide +kernel)
set_option maxRecDepth 20000 in
theorem wm991 : (Jvm.Cond.code ({ cls := "NearSpell$Ruler", name := "between", desc := "(II)I" } : Jvm.MethodName) prog_9_method_2_code (3 : Nat) (Option.some Jvm.ClassFile.FieldType.int)) ∈ wTs := wmem (i := 991) (by decide +kernel) (by decide +kernel)
set_option maxRecDepth 20000 in
theorem wm992 : (Jvm.Cond.methodLink "NearSpell$Ruler" (28 : Nat) ({ cls := "NearSpell$Ruler", name := "setText", desc := "(I)V" } : Jvm.MethodName)) ∈ wTs := wmem (i := 992) (by decide +kernel) (by decide +kernel)
set_option maxRecDepth 20000 in
theorem wm993 : (Jvm.Cond.methodLink "NearSpell$Ruler" (32 : Nat) ({ cls := "NearSpell$Ruler", name := "to", desc := "(I)I" } : Jvm.MethodName)) ∈ wTs := wmem (i := 993) (by decide +kernel) (by decide +kernel)
set_option maxRecDepth 20000 in
theorem wm998 : (Jvm.Cond.methodLink "NearSpell" (217 : Nat) ({ cls := "NearSpell$Laid", name := "formsFor", desc := "(I)LNearSpell$FormList;" } : Jvm.MethodName)) ∈ wTs := wmem (i := 998) (by decide +kernel) (by decide +kernel)
set_option maxRecDepth 20000 in
theorem wm1003 : (Jvm.Cond.methodLink "NearSpell" (223 : Nat) ({ cls := "NearSpell$Book", name := "bucketOf", desc := "(I)I" } : Jvm.MethodName)) ∈ wTs := wmem (i := 1003) (by decide +kernel) (by decide +kernel)
set_option maxRecDepth 20000 in
theorem wm1004 : (Jvm.Cond.instanceMethod ({ cls := "NearSpell$Book", name := "bucketOf", desc := "(I)I" } : Jvm.MethodName)) ∈ wTs := wmem (i := 1004) (by decide +kernel) (by decide +kernel)
set_option maxRecDepth 20000 in
theorem wm1005 : (Jvm.Cond.selects "NearSpell$Book" ({ cls := "NearSpell$Book", name := "bucketOf", desc := "(I)I" } : Jvm.MethodName) ({ cls := "NearSpell$Book", name := "bucketOf", desc := "(I)I" } : Jvm.MethodName)) ∈ wTs := wmem (i := 1005) (by decide +kernel) (by decide +kernel)
set_option maxRecDepth 20000 in
theorem wm1006 : (Jvm.Cond.code ({ cls := "NearSpell$Book", name := "bucketOf", desc := "(I)I" } : Jvm.MethodName) prog_3_method_7_code (4 : Nat) (Option.some Jvm.ClassFile.FieldType.int)) ∈ wTs := wmem (i := 1006) (by decide +kernel) (by decide +kernel)
set_option maxRecDepth 20000 in
theorem wm1008 : (Jvm.Cond.static ({ cls := "NearSpell", name := "totalOf", desc := "(I)I" } : Jvm.MethodName)) ∈ wTs := wmem (i := 1008) (by decide +kernel) (by decide +kernel)
set_option maxRecDepth 20000 in
theorem wm1009 : (Jvm.Cond.code ({ cls := "NearSpell", name := "totalOf", desc := "(I)I" } : Jvm.MethodName) prog_1_method_54_code (4 : Nat) (Option.some Jvm.ClassFile.FieldType.int)) ∈ wTs := wmem (i := 1009) (by decide +kernel) (by decide +kernel)
set_option maxRecDepth 20000 in
theorem wm1011 : (Jvm.Cond.methodLink "NearSpell$Book" (68 : Nat) ({ cls := "NearSpell$Book", name := "work", desc := "(I)I" } : Jvm.MethodName)) ∈ wTs := wmem (i := 1011) (by decide +kernel) (by decide +kernel)
set_option maxRecDepth 20000 in
theorem wm1013 : (Jvm.Cond.instanceMethod ({ cls := "NearSpell$Book", name := "work", desc := "(I)I" } : Jvm.MethodName)) ∈ wTs := wmem (i := 1013) (by decide +kernel) (by decide +kernel)
set_option maxRecDepth 20000 in
theorem wm1014 : (Jvm.Cond.code ({ cls := "NearSpell$Book", name := "work", desc := "(I)I" } : Jvm.MethodName) prog_3_method_8_code (9 : Nat) (Option.some Jvm.ClassFile.FieldType.int)) ∈ wTs := wmem (i := 1014) (by decide +kernel) (by decide +kernel)
set_option maxRecDepth 20000 in
theorem wm1016 : (Jvm.Cond.methodLink "NearSpell$Book" (75 : Nat) ({ cls := "NearSpell$Book", name := "push", desc := "(I)V" } : Jvm.MethodName)) ∈ wTs := wmem (i := 1016) (by decide +kernel) (by decide +kernel)
set_option maxRecDepth 20000 in
theorem wm1018 : (Jvm.Cond.instanceMethod ({ cls := "NearSpell$Book", name := "push", desc := "(I)V" } : Jvm.MethodName)) ∈ wTs := wmem (i := 1018) (by decide +kernel) (by decide +kernel)
set_option maxRecDepth 20000 in
theorem wm1019 : (Jvm.Cond.code ({ cls := "NearSpell$Book", name := "push", desc := "(I)V" } : Jvm.MethodName) prog_3_method_9_code (2 : Nat) (Option.none : Option Jvm.ClassFile.FieldType)) ∈ wTs := wmem (i := 1019) (by decide +kernel) (by decide +kernel)
set_option maxRecDepth 20000 in
theorem wm1020 : (Jvm.Cond.methodLink "NearSpell$Book" (81 : Nat) ({ cls := "NearSpell$Book", name := "pop", desc := "()I" } : Jvm.MethodName)) ∈ wTs := wmem (i := 1020) (by decide +kernel) (by decide +kernel)
set_option maxRecDepth 20000 in
theorem wm1022 : (Jvm.Cond.instanceMethod ({ cls := "NearSpell$Book", name := "pop", desc := "()I" } : Jvm.MethodName)) ∈ wTs := wmem (i := 1022) (by decide +kernel) (by decide +kernel)
set_option maxRecDepth 20000 in
theorem wm1023 : (Jvm.Cond.code ({ cls := "NearSpell$Book", name := "pop", desc := "()I" } : Jvm.MethodName) prog_3_method_10_code (1 : Nat) (Option.some Jvm.ClassFile.FieldType.int)) ∈ wTs := wmem (i := 1023) (by decide +kernel) (by decide +kernel)
set_option maxRecDepth 20000 in
theorem wm1024 : (Jvm.Cond.methodLink "NearSpell$Book" (85 : Nat) ({ cls := "NearSpell$Book", name := "truth", desc := "(Z)I" } : Jvm.MethodName)) ∈ wTs := wmem (i := 1024) (by decide +kernel) (by decide +kernel)
set_option maxRecDepth 20000 in
theorem wm1025 : (Jvm.Cond.static ({ cls := "NearSpell$Book", name := "truth", desc := "(Z)I" } : Jvm.MethodName)) ∈ wTs := wmem (i := 1025) (by decide +kernel) (by decide +kernel)
set_option maxRecDepth 20000 in
theorem wm1026 : (Jvm.Cond.code ({ cls := "NearSpell$Book", name := "truth", desc := "(Z)I" } : Jvm.MethodName) prog_3_method_11_code (1 : Nat) (Option.some Jvm.ClassFile.FieldType.int)) ∈ wTs := wmem (i := 1026) (by decide +kernel) (by decide +kernel)
set_option maxRecDepth 20000 in
theorem wm1027 : (Jvm.Cond.methodLink "NearSpell$Book" (89 : Nat) ({ cls := "NearSpell$Book", name := "combine", desc := "(III)I" } : Jvm.MethodName)) ∈ wTs := wmem (i := 1027) (by decide +kernel) (by decide +kernel)
set_option maxRecDepth 20000 in
theorem wm1028 : (Jvm.Cond.static ({ cls := "NearSpell$Book", name := "combine", desc := "(III)I" } : Jvm.MethodName)) ∈ wTs := wmem (i := 1028) (by decide +kernel) (by decide +kernel)
set_option maxRecDepth 20000 in
theorem wm1029 : (Jvm.Cond.code ({ cls := "NearSpell$Book", name := "combine", desc := "(III)I" } : Jvm.MethodName) prog_3_method_12_code (3 : Nat) (Option.some Jvm.ClassFile.FieldType.int)) ∈ wTs := wmem (i := 1029) (by decide +kernel) (by decide +kernel)
set_option maxRecDepth 20000 in
theorem wm1034 : (Jvm.Cond.methodLink "NearSpell" (226 : Nat) ({ cls := "NearSpell$Finder", name := "metBy", desc := "(I)I" } : Jvm.MethodName)) ∈ wTs := wmem (i := 1034) (by decide +kernel) (by decide +kernel)
set_option maxRecDepth 20000 in
theorem wm1035 : (Jvm.Cond.instanceMethod ({ cls := "NearSpell$Finder", name := "metBy", desc := "(I)I" } : Jvm.MethodName)) ∈ wTs := wmem (i := 1035) (by decide +kernel) (by decide +kernel)
set_option maxRecDepth 20000 in
theorem wm1036 : (Jvm.Cond.selects "NearSpell$Finder" ({ cls := "NearSpell$Finder", name := "metBy", desc := "(I)I" } : Jvm.MethodName) ({ cls := "NearSpell$Finder", name := "metBy", desc := "(I)I" } : Jvm.MethodName)) ∈ wTs := wmem (i := 1036) (by decide +kernel) (by decide +kernel)
set_option maxRecDepth 20000 in
theorem wm1037 : (Jvm.Cond.code ({ cls := "NearSpell$Finder", name := "metBy", desc := "(I)I" } : Jvm.MethodName) prog_4_method_2_code (5 : Nat) (Option.some Jvm.ClassFile.FieldType.int)) ∈ wTs := wmem (i := 1037) (by decide +kernel) (by decide +kernel)
set_option maxRecDepth 20000 in
theorem wm1038 : (Jvm.Cond.methodLink "NearSpell$Finder" (37 : Nat) ({ cls := "NearSpell$FormList", name := "bucketBits", desc := "(LNearSpell$Book;)I" } : Jvm.MethodName)) ∈ wTs := wmem (i := 1038) (by decide +kernel) (by decide +kernel)
set_option maxRecDepth 20000 in
theorem wm1039 : (Jvm.Cond.instanceMethod ({ cls := "NearSpell$FormList", name := "bucketBits", desc := "(LNearSpell$Book;)I" } : Jvm.MethodName)) ∈ wTs := wmem (i := 1039) (by decide +kernel) (by decide +kernel)
set_option maxRecDepth 20000 in
theorem wm1040 : (Jvm.Cond.selects "NearSpell$FormList" ({ cls := "NearSpell$FormList", name := "bucketBits", desc := "(LNearSpell$Book;)I" } : Jvm.MethodName) ({ cls := "NearSpell$FormList", name := "bucketBits", desc := "(LNearSpell$Book;)I" } : Jvm.MethodName)) ∈ wTs := wmem (i := 1040) (by decide +kernel) (by decide +kernel)
set_option maxRecDepth 20000 in
theorem wm1041 : (Jvm.Cond.code ({ cls := "NearSpell$FormList", name := "bucketBits", desc := "(LNearSpell$Book;)I" } : Jvm.MethodName) prog_5_method_7_code (4 : Nat) (Option.some Jvm.ClassFile.FieldType.int)) ∈ wTs := wmem (i := 1041) (by decide +kernel) (by decide +kernel)
set_option maxRecDepth 20000 in
theorem wm1042 : (Jvm.Cond.methodLink "NearSpell$FormList" (50 : Nat) ({ cls := "NearSpell$Book", name := "bucketOf", desc := "(I)I" } : Jvm.MethodName)) ∈ wTs := wmem (i := 1042) (by decide +kernel) (by decide +kernel)
set_option maxRecDepth 20000 in
theorem wm1043 : (Jvm.Cond.methodLink "NearSpell" (229 : Nat) ({ cls := "NearSpell$Finder", name := "trulyMetBy", desc := "(I)I" } : Jvm.MethodName)) ∈ wTs := wmem (i := 1043) (by decide +kernel) (by decide +kernel)
set_option maxRecDepth 20000 in
theorem wm1048 : (Jvm.Cond.methodLink "NearSpell" (232 : Nat) ({ cls := "NearSpell", name := "isApart", desc := "(I)Z" } : Jvm.MethodName)) ∈ wTs := wmem (i := 1048) (by decide +kernel) (by decide +kernel)
