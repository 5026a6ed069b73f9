set_option maxRecDepth 20000 in
theorem wm1647 : (Jvm.Cond.constantLong "NearSpellModel" (179 : Nat) (28530 : Int64)) ∈ wTs := wmem (i := 1647) (by decide +kernel) (by decide +kernel)
set_option maxRecDepth 20000 in
theorem wm1648 : (Jvm.Cond.constantLong "NearSpellModel" (181 : Nat) (6385252 : Int64)) ∈ wTs := wmem (i := 1648) (by decide +kernel) (by decide +kernel)
set_option maxRecDepth 20000 in
theorem wm1649 : (Jvm.Cond.constantLong "NearSpellModel" (183 : Nat) (7237492 : Int64)) ∈ wTs := wmem (i := 1649) (by decide +kernel) (by decide +kernel)
set_option maxRecDepth 20000 in
theorem wm1656 : (Jvm.Cond.methodLink "NearSpellModel" (223 : Nat) ({ cls := "NearSpellModel", name := "isGood", desc := "()Z" } : Jvm.MethodName)) ∈ wTs := wmem (i := 1656) (by decide +kernel) (by decide +kernel)
set_option maxRecDepth 20000 in
theorem wm1658 : (Jvm.Cond.instanceMethod ({ cls := "NearSpellModel", name := "isGood", desc := "()Z" } : Jvm.MethodName)) ∈ wTs := wmem (i := 1658) (by decide +kernel) (by decide +kernel)
set_option maxRecDepth 20000 in
theorem wm1659 : (Jvm.Cond.code ({ cls := "NearSpellModel", name := "isGood", desc := "()Z" } : Jvm.MethodName) prog_14_method_6_code (1 : Nat) (Option.some Jvm.ClassFile.FieldType.boolean)) ∈ wTs := wmem (i := 1659) (by decide +kernel) (by decide +kernel)
set_option maxRecDepth 20000 in
theorem wm1660 : (Jvm.Cond.methodLink "NearSpellModel" (245 : Nat) ({ cls := "NearSpellModel", name := "readLine", desc := "()V" } : Jvm.MethodName)) ∈ wTs := wmem (i := 1660) (by decide +kernel) (by decide +kernel)
set_option maxRecDepth 20000 in
theorem wm1662 : (Jvm.Cond.instanceMethod ({ cls := "NearSpellModel", name := "readLine", desc := "()V" } : Jvm.MethodName)) ∈ wTs := wmem (i := 1662) (by decide +kernel) (by decide +kernel)
set_option maxRecDepth 20000 in
theorem wm1663 : (Jvm.Cond.code ({ cls := "NearSpellModel", name := "readLine", desc := "()V" } : Jvm.MethodName) prog_14_method_19_code (3 : Nat) (Option.none : Option Jvm.ClassFile.FieldType)) ∈ wTs := wmem (i := 1663) (by decide +kernel) (by decide +kernel)
set_option maxRecDepth 20000 in
theorem wm1664 : (Jvm.Cond.methodLink "NearSpellModel" (259 : Nat) ({ cls := "NearSpellModel", name := "isFull", desc := "()Z" } : Jvm.MethodName)) ∈ wTs := wmem (i := 1664) (by decide +kernel) (by decide +kernel)
set_option maxRecDepth 20000 in
theorem wm1666 : (Jvm.Cond.instanceMethod ({ cls := "NearSpellModel", name := "isFull", desc := "()Z" } : Jvm.MethodName)) ∈ wTs := wmem (i := 1666) (by decide +kernel) (by decide +kernel)
set_option maxRecDepth 20000 in
theorem wm1667 : (Jvm.Cond.code ({ cls := "NearSpellModel", name := "isFull", desc := "()Z" } : Jvm.MethodName) prog_14_method_17_code (1 : Nat) (Option.some Jvm.ClassFile.FieldType.boolean)) ∈ wTs := wmem (i := 1667) (by decide +kernel) (by decide +kernel)
set_option maxRecDepth 20000 in
theorem wm1668 : (Jvm.Cond.methodLink "NearSpellModel" (248 : Nat) ({ cls := "NearSpellModel", name := "isWord", desc := "(J)Z" } : Jvm.MethodName)) ∈ wTs := wmem (i := 1668) (by decide +kernel) (by decide +kernel)
set_option maxRecDepth 20000 in
theorem wm1670 : (Jvm.Cond.instanceMethod ({ cls := "NearSpellModel", name := "isWord", desc := "(J)Z" } : Jvm.MethodName)) ∈ wTs := wmem (i := 1670) (by decide +kernel) (by decide +kernel)
set_option maxRecDepth 20000 in
theorem wm1671 : (Jvm.Cond.code ({ cls := "NearSpellModel", name := "isWord", desc := "(J)Z" } : Jvm.MethodName) prog_14_method_11_code (3 : Nat) (Option.some Jvm.ClassFile.FieldType.boolean)) ∈ wTs := wmem (i := 1671) (by decide +kernel) (by decide +kernel)
set_option maxRecDepth 20000 in
theorem wm1672 : (Jvm.Cond.methodLink "NearSpellModel" (251 : Nat) ({ cls := "NearSpellModel", name := "bit", desc := "(II)Z" } : Jvm.MethodName)) ∈ wTs := wmem (i := 1672) (by decide +kernel) (by decide +kernel)
set_option maxRecDepth 20000 in
theorem wm1673 : (Jvm.Cond.static ({ cls := "NearSpellModel", name := "bit", desc := "(II)Z" } : Jvm.MethodName)) ∈ wTs := wmem (i := 1673) (by decide +kernel) (by decide +kernel)
set_option maxRecDepth 20000 in
theorem wm1674 : (Jvm.Cond.code ({ cls := "NearSpellModel", name := "bit", desc := "(II)Z" } : Jvm.MethodName) prog_14_method_36_code (2 : Nat) (Option.some Jvm.ClassFile.FieldType.boolean)) ∈ wTs := wmem (i := 1674) (by decide +kernel) (by decide +kernel)
set_option maxRecDepth 20000 in
theorem wm1675 : (Jvm.Cond.methodLink "NearSpellModel" (230 : Nat) ({ cls := "NearSpellModel", name := "misplaced", desc := "()V" } : Jvm.MethodName)) ∈ wTs := wmem (i := 1675) (by decide +kernel) (by decide +kernel)
set_option maxRecDepth 20000 in
theorem wm1677 : (Jvm.Cond.instanceMethod ({ cls := "NearSpellModel", name := "misplaced", desc := "()V" } : Jvm.MethodName)) ∈ wTs := wmem (i := 1677) (by decide +kernel) (by decide +kernel)
set_option maxRecDepth 20000 in
theorem wm1678 : (Jvm.Cond.code ({ cls := "NearSpellModel", name := "misplaced", desc := "()V" } : Jvm.MethodName) prog_14_method_12_code (1 : Nat) (Option.none : Option Jvm.ClassFile.FieldType)) ∈ wTs := wmem (i := 1678) (by decide +kernel) (by decide +kernel)
set_option maxRecDepth 20000 in
theorem wm1679 : (Jvm.Cond.methodLink "NearSpellModel" (219 : Nat) ({ cls := "NearSpellModel", name := "fails", desc := "(II)V" } : Jvm.MethodName)) ∈ wTs := wmem (i := 1679) (by decide +kernel) (by decide +kernel)
set_option maxRecDepth 20000 in
theorem wm1681 : (Jvm.Cond.instanceMethod ({ cls := "NearSpellModel", name := "fails", desc := "(II)V" } : Jvm.MethodName)) ∈ wTs := wmem (i := 1681) (by decide +kernel) (by decide +kernel)
set_option maxRecDepth 20000 in
theorem wm1682 : (Jvm.Cond.code ({ cls := "NearSpellModel", name := "fails", desc := "(II)V" } : Jvm.MethodName) prog_14_method_5_code (3 : Nat) (Option.none : Option Jvm.ClassFile.FieldType)) ∈ wTs := wmem (i := 1682) (by decide +kernel) (by decide +kernel)
set_option maxRecDepth 20000 in
theorem wm1683 : (Jvm.Cond.methodLink "NearSpellModel" (262 : Nat) ({ cls := "NearSpellModel", name := "readWord", desc := "()V" } : Jvm.MethodName)) ∈ wTs := wmem (i := 1683) (by decide +kernel) (by decide +kernel)
set_option maxRecDepth 20000 in
theorem wm1685 : (Jvm.Cond.instanceMethod ({ cls := "NearSpellModel", name := "readWord", desc := "()V" } : Jvm.MethodName)) ∈ wTs := wmem (i := 1685) (by decide +kernel) (by decide +kernel)
set_option maxRecDepth 20000 in
theorem wm1686 : (Jvm.Cond.code ({ cls := "NearSpellModel", name := "readWord", desc := "()V" } : Jvm.MethodName) prog_14_method_20_code (3 : Nat) (Option.none : Option Jvm.ClassFile.FieldType)) ∈ wTs := wmem (i := 1686) (by decide +kernel) (by decide +kernel)
set_option maxRecDepth 20000 in
theorem wm1687 : (Jvm.Cond.methodLink "NearSpellModel" (275 : Nat) ({ cls := "NearSpellModel", name := "must", desc := "(Z)V" } : Jvm.MethodName)) ∈ wTs := wmem (i := 1687) (by decide +kernel) (by decide +kernel)
set_option maxRecDepth 20000 in
theorem wm1689 : (Jvm.Cond.instanceMethod ({ cls := "NearSpellModel", name := "must", desc := "(Z)V" } : Jvm.MethodName)) ∈ wTs := wmem (i := 1689) (by decide +kernel) (by decide +kernel)
set_option maxRecDepth 20000 in
theorem wm1690 : (Jvm.Cond.code ({ cls := "NearSpellModel", name := "must", desc := "(Z)V" } : Jvm.MethodName) prog_14_method_13_code (2 : Nat) (Option.none : Option Jvm.ClassFile.FieldType)) ∈ wTs := wmem (i := 1690) (by decide +kernel) (by decide +kernel)
set_option maxRecDepth 20000 in
theorem wm1691 : (Jvm.Cond.methodLink "NearSpellModel" (255 : Nat) ({ cls := "NearSpellModel", name := "numeral", desc := "(II)I" } : Jvm.MethodName)) ∈ wTs := wmem (i := 1691) (by decide +kernel) (by decide +kernel)
set_option maxRecDepth 20000 in
theorem wm1693 : (Jvm.Cond.instanceMethod ({ cls := "NearSpellModel", name := "numeral", desc := "(II)I" } : Jvm.MethodName)) ∈ wTs := wmem (i := 1693) (by decide +kernel) (by decide +kernel)
set_option maxRecDepth 20000 in
theorem wm1694 : (Jvm.Cond.code ({ cls := "NearSpellModel", name := "numeral", desc := "(II)I" } : Jvm.MethodName) prog_14_method_14_code (4 : Nat) (Option.some Jvm.ClassFile.FieldType.int)) ∈ wTs := wmem (i := 1694) (by decide +kernel) (by decide +kernel)
set_option maxRecDepth 20000 in
theorem wm1695 : (Jvm.Cond.methodLink "NearSpellModel" (265 : Nat) ({ cls := "NearSpellModel", name := "once", desc := "(III)I" } : Jvm.MethodName)) ∈ wTs := wmem (i := 1695) (by decide +kernel) (by decide +kernel)
set_option maxRecDepth 20000 in
theorem wm1697 : (Jvm.Cond.instanceMethod ({ cls := "NearSpellModel", name := "once", desc := "(III)I" } : Jvm.MethodName)) ∈ wTs := wmem (i := 1697) (by decide +kernel) (by decide +kernel)
set_option maxRecDepth 20000 in
theorem wm1698 : (Jvm.Cond.code ({ cls := "NearSpellModel", name := "once", desc := "(III)I" } : Jvm.MethodName) prog_14_method_18_code (4 : Nat) (Option.some Jvm.ClassFile.FieldType.int)) ∈ wTs := wmem (i := 1698) (by decide +kernel) (by decide +kernel)
set_option maxRecDepth 20000 in
theorem wm1699 : (Jvm.Cond.methodLink "NearSpellModel" (269 : Nat) ({ cls := "NearSpellModel", name := "readRule", desc := "()V" } : Jvm.MethodName)) ∈ wTs := wmem (i := 1699) (by decide +kernel) (by decide +kernel)
set_option maxRecDepth 20000 in
theorem wm1701 : (Jvm.Cond.instanceMethod ({ cls := "NearSpellModel", name := "readRule", desc := "()V" } : Jvm.MethodName)) ∈ wTs := wmem (i := 1701) (by decide +kernel) (by decide +kernel)
set_option maxRecDepth 20000 in
theorem wm1702 : (Jvm.Cond.code ({ cls := "NearSpellModel", name := "readRule", desc := "()V" } : Jvm.MethodName) prog_14_method_21_code (1 : Nat) (Option.none : Option Jvm.ClassFile.FieldType)) ∈ wTs := wmem (i := 1702) (by decide +kernel) (by decide +kernel)
set_option maxRecDepth 20000 in
theorem wm1715 : (Jvm.Cond.methodLink "NearSpellModel" (272 : Nat) ({ cls := "NearSpellModel", name := "isSignHere", desc := "(I)Z" } : Jvm.MethodName)) ∈ wTs := wmem (i := 1715) (by decide +kernel) (by decide +kernel)
set_option maxRecDepth 20000 in
theorem wm1717 : (Jvm.Cond.instanceMethod ({ cls := "NearSpellModel", name := "isSignHere", desc := "(I)Z" } : Jvm.MethodName)) ∈ wTs := wmem (i := 1717) (by decide +kernel) (by decide +kernel)
set_option maxRecDepth 20000 in
theorem wm1718 : (Jvm.Cond.code ({ cls := "NearSpellModel", name := "isSignHere", desc := "(I)Z" } : Jvm.MethodName) prog_14_method_10_code (2 : Nat) (Option.some Jvm.ClassFile.FieldType.boolean)) ∈ wTs := wmem (i := 1718) (by decide +kernel) (by decide +kernel)
set_option maxRecDepth 20000 in
theorem wm1747 : (Jvm.Cond.methodLink "NearSpellModel" (350 : Nat) ({ cls := "NearSpellModel", name := "isEntry", desc := "(I)Z" } : Jvm.MethodName)) ∈ wTs := wmem (i := 1747) (by decide +kernel) (by decide +kernel)
set_option maxRecDepth 20000 in
theorem wm1749 : (Jvm.Cond.instanceMethod ({ cls := "NearSpellModel", name := "isEntry", desc := "(I)Z" } : Jvm.MethodName)) ∈ wTs := wmem (i := 1749) (by decide +kernel) (by decide +kernel)
set_option maxRecDepth 20000 in
theorem wm1750 : (Jvm.Cond.code ({ cls := "NearSpellModel", name := "isEntry", desc := "(I)Z" } : Jvm.MethodName) prog_14_method_46_code (2 : Nat) (Option.some Jvm.ClassFile.FieldType.boolean)) ∈ wTs := wmem (i := 1750) (by decide +kernel) (by decide +kernel)
set_option maxRecDepth 20000 in
theorem wm1751 : (Jvm.Cond.methodLink "NearSpellModel" (334 : Nat) ({ cls := "NearSpellModel", name := "isIn", desc := "(III)Z" } : Jvm.MethodName)) ∈ wTs := wmem (i := 1751) (by decide +kernel) (by decide +kernel)
set_option maxRecDepth 20000 in
theorem wm1752 : (Jvm.Cond.static ({ cls := "NearSpellModel", name := "isIn", desc := "(III)Z" } : Jvm.MethodName)) ∈ wTs := wmem (i := 1752) (by decide +kernel) (by decide +kernel)
set_option maxRecDepth 20000 in
theorem wm1753 : (Jvm.Cond.code ({ cls := "NearSpellModel", name := "isIn", desc := "(III)Z" } : Jvm.MethodName) prog_14_method_35_code (3 : Nat) (Option.some Jvm.ClassFile.FieldType.boolean)) ∈ wTs := wmem (i := 1753) (by decide +kernel) (by decide +kernel)
set_option maxRecDepth 20000 in
theorem wm1754 : (Jvm.Cond.methodLink "NearSpellModel" (319 : Nat) ({ cls := "NearSpellModel", name := "lengthOf", desc := "(I)I" } : Jvm.MethodName)) ∈ wTs := wmem (i := 1754) (by decide +kernel) (by decide +kernel)
set_option maxRecDepth 20000 in
theorem wm1755 : (Jvm.Cond.static ({ cls := "NearSpellModel", name := "lengthOf", desc := "(I)I" } : Jvm.MethodName)) ∈ wTs := wmem (i := 1755) (by decide +kernel) (by decide +kernel)
set_option maxRecDepth 20000 in
theorem wm1756 : (Jvm.Cond.code ({ cls := "NearSpellModel", name := "lengthOf", desc := "(I)I" } : Jvm.MethodName) prog_14_method_41_code (3 : Nat) (Option.some Jvm.ClassFile.FieldType.int)) ∈ wTs := wmem (i := 1756) (by decide +kernel) (by decide +kernel)
set_option maxRecDepth 20000 in
theorem wm1757 : (Jvm.Cond.methodLink "NearSpellModel" (372 : Nat) ({ cls := "NearSpellModel", name := "errorsNow", desc := "()I" } : Jvm.MethodName)) ∈ wTs := wmem (i := 1757) (by decide +kernel) (by decide +kernel)
set_option maxRecDepth 20000 in
theorem wm1759 : (Jvm.Cond.instanceMethod ({ cls := "NearSpellModel", name := "errorsNow", desc := "()I" } : Jvm.MethodName)) ∈ wTs := wmem (i := 1759) (by decide +kernel) (by decide +kernel)
set_option maxRecDepth 20000 in
theorem wm1760 : (Jvm.Cond.code ({ cls := "NearSpellModel", name := "errorsNow", desc := "()I" } : Jvm.MethodName) prog_14_method_52_code (1 : Nat) (Option.some Jvm.ClassFile.FieldType.int)) ∈ wTs := wmem (i := 1760) (by decide +kernel) (by decide +kernel)
set_option maxRecDepth 20000 in
theorem wm1761 : (Jvm.Cond.methodLink "NearSpellModel" (366 : Nat) ({ cls := "NearSpellModel", name := "layForms", desc := "(II)V" } : Jvm.MethodName)) ∈ wTs := wmem (i := 1761) (by decide +kernel) (by decide +kernel)
set_option maxRecDepth 20000 in
theorem wm1763 : (Jvm.Cond.instanceMethod ({ cls := "NearSpellModel", name := "layForms", desc := "(II)V" } : Jvm.MethodName)) ∈ wTs := wmem (i := 1763) (by decide +kernel) (by decide +kernel)
set_option maxRecDepth 20000 in
theorem wm1764 : (Jvm.Cond.code ({ cls := "NearSpellModel", name := "layForms", desc := "(II)V" } : Jvm.MethodName) prog_14_method_50_code (8 : Nat) (Option.none : Option Jvm.ClassFile.FieldType)) ∈ wTs := wmem (i := 1764) (by decide +kernel) (by decide +kernel)
set_option maxRecDepth 20000 in
theorem wm1765 : (Jvm.Cond.methodLink "NearSpellModel" (322 : Nat) ({ cls := "NearSpellModel", name := "firstLetters", desc := "(II)I" } : Jvm.MethodName)) ∈ wTs := wmem (i := 1765) (by decide +kernel) (by decide +kernel)
set_option maxRecDepth 20000 in
theorem wm1766 : (Jvm.Cond.static ({ cls := "NearSpellModel", name := "firstLetters", desc := "(II)I" } : Jvm.MethodName)) ∈ wTs := wmem (i := 1766) (by decide +kernel) (by decide +kernel)
set_option maxRecDepth 20000 in
theorem wm1767 : (Jvm.Cond.code ({ cls := "NearSpellModel", name := "firstLetters", desc := "(II)I" } : Jvm.MethodName) prog_14_method_43_code (4 : Nat) (Option.some Jvm.ClassFile.FieldType.int)) ∈ wTs := wmem (i := 1767) (by decide +kernel) (by decide +kernel)
set_option maxRecDepth 20000 in
theorem wm1768 : (Jvm.Cond.methodLink "NearSpellModel" (356 : Nat) ({ cls := "NearSpellModel", name := "many", desc := "(I)I" } : Jvm.MethodName)) ∈ wTs := wmem (i := 1768) (by decide +kernel) (by decide +kernel)
set_option maxRecDepth 20000 in
theorem wm1769 : (Jvm.Cond.static ({ cls := "NearSpellModel", name := "many", desc := "(I)I" } : Jvm.MethodName)) ∈ wTs := wmem (i := 1769) (by decide +kernel) (by decide +kernel)
set_option maxRecDepth 20000 in
theorem wm1770 : (Jvm.Cond.code ({ cls := "NearSpellModel", name := "many", desc := "(I)I" } : Jvm.MethodName) prog_14_method_37_code (3 : Nat) (Option.some Jvm.ClassFile.FieldType.int)) ∈ wTs := wmem (i := 1770) (by decide +kernel) (by decide +kernel)
set_option maxRecDepth 20000 in
theorem wm1771 : (Jvm.Cond.methodLink "NearSpellModel" (359 : Nat) ({ cls := "NearSpellModel", name := "letterOf", desc := "(II)I" } : Jvm.MethodName)) ∈ wTs := wmem (i := 1771) (by decide +kernel) (by decide +kernel)
set_option maxRecDepth 20000 in
theorem wm1772 : (Jvm.Cond.static ({ cls := "NearSpellModel", name := "letterOf", desc := "(II)I" } : Jvm.MethodName)) ∈ wTs := wmem (i := 1772) (by decide +kernel) (by decide +kernel)
set_option maxRecDepth 20000 in
theorem wm1773 : (Jvm.Cond.code ({ cls := "NearSpellModel", name := "letterOf", desc := "(II)I" } : Jvm.MethodName) prog_14_method_44_code (2 : Nat) (Option.some Jvm.ClassFile.FieldType.int)) ∈ wTs := wmem (i := 1773) (by decide +kernel) (by decide +kernel)
set_option maxRecDepth 20000 in
theorem wm1774 : (Jvm.Cond.methodLink "NearSpellModel" (362 : Nat) ({ cls := "NearSpellModel", name := "insertForm", desc := "(I)V" } : Jvm.MethodName)) ∈ wTs := wmem (i := 1774) (by decide +kernel) (by decide +kernel)
set_option maxRecDepth 20000 in
theorem wm1776 : (Jvm.Cond.instanceMethod ({ cls := "NearSpellModel", name := "insertForm", desc := "(I)V" } : Jvm.MethodName)) ∈ wTs := wmem (i := 1776) (by decide +kernel) (by decide +kernel)
set_option maxRecDepth 20000 in
theorem wm1777 : (Jvm.Cond.code ({ cls := "NearSpellModel", name := "insertForm", desc := "(I)V" } : Jvm.MethodName) prog_14_method_49_code (4 : Nat) (Option.none : Option Jvm.ClassFile.FieldType)) ∈ wTs := wmem (i := 1777) (by decide +kernel) (by decide +kernel)
set_option maxRecDepth 20000 in
theorem wm1786 : (Jvm.Cond.methodLink "NearSpellModel" (420 : Nat) ({ cls := "NearSpellModel", name := "canBe", desc := "(I)Z" } : Jvm.MethodName)) ∈ wTs := wmem (i := 1786) (by decide +kernel) (by decide +kernel)
set_option maxRecDepth 20000 in
theorem wm1787 : (Jvm.Cond.static ({ cls := "NearSpellModel", name := "canBe", desc := "(I)Z" } : Jvm.MethodName)) ∈ wTs := wmem (i := 1787) (by decide +kernel) (by decide +kernel)
set_option maxRecDepth 20000 in
theorem wm1788 : (Jvm.Cond.code ({ cls := "NearSpellModel", name := "canBe", desc := "(I)Z" } : Jvm.MethodName) prog_14_method_40_code (2 : Nat) (Option.some Jvm.ClassFile.FieldType.boolean)) ∈ wTs := wmem (i := 1788) (by decide +kernel) (by decide +kernel)
set_option maxRecDepth 20000 in
theorem wm1789 : (Jvm.Cond.constant "NearSpellModel" (333 : Nat) (387420488 : Int32)) ∈ wTs := wmem (i := 1789) (by decide +kernel) (by decide +kernel)
set_option maxRecDepth 20000 in
theorem wm1790 : (Jvm.Cond.methodLink "NearSpellModel" (408 : Nat) ({ cls := "NearSpellModel", name := "apart", desc := "(II)I" } : Jvm.MethodName)) ∈ wTs := wmem (i := 1790) (by decide +kernel) (by decide +kernel)
set_option maxRecDepth 20000 in
theorem wm1792 : (Jvm.Cond.instanceMethod ({ cls := "NearSpellModel", name := "apart", desc := "(II)I" } : Jvm.MethodName)) ∈ wTs := wmem (i := 1792) (by decide +kernel) (by decide +kernel)
set_option maxRecDepth 20000 in
theorem wm1793 : (Jvm.Cond.code ({ cls := "NearSpellModel", name := "apart", desc := "(II)I" } : Jvm.MethodName) prog_14_method_62_code (3 : Nat) (Option.some Jvm.ClassFile.FieldType.int)) ∈ wTs := wmem (i := 1793) (by decide +kernel) (by decide +kernel)
set_option maxRecDepth 20000 in
theorem wm1794 : (Jvm.Cond.methodLink "NearSpellModel" (399 : Nat) ({ cls := "NearSpellModel", name := "layOne", desc := "(II)V" } : Jvm.MethodName)) ∈ wTs := wmem (i := 1794) (by decide +kernel) (by decide +kernel)
set_option maxRecDepth 20000 in
theorem wm1796 : (Jvm.Cond.instanceMethod ({ cls := "NearSpellModel", name := "layOne", desc := "(II)V" } : Jvm.MethodName)) ∈ wTs := wmem (i := 1796) (by decide +kernel) (by decide +kernel)
set_option maxRecDepth 20000 in
theorem wm1797 : (Jvm.Cond.code ({ cls := "NearSpellModel", name := "layOne", desc := "(II)V" } : Jvm.MethodName) prog_14_method_56_code (4 : Nat) (Option.none : Option Jvm.ClassFile.FieldType)) ∈ wTs := wmem (i := 1797) (by decide +kernel) (by decide +kernel)
set_option maxRecDepth 20000 in
theorem wm1798 : (Jvm.Cond.methodLink "NearSpellModel" (402 : Nat) ({ cls := "NearSpellModel", name := "layTwo", desc := "(II)V" } : Jvm.MethodName)) ∈ wTs := wmem (i := 1798) (by decide +kernel) (by decide +kernel)
set_option maxRecDepth 20000 in
theorem wm1800 : (Jvm.Cond.instanceMethod ({ cls := "NearSpellModel", name := "layTwo", desc := "(II)V" } : Jvm.MethodName)) ∈ wTs := wmem (i := 1800) (by decide +kernel) (by decide +kernel)
set_option maxRecDepth 20000 in
theorem wm1801 : (Jvm.Cond.code ({ cls := "NearSpellModel", name := "layTwo", desc := "(II)V" } : Jvm.MethodName) prog_14_method_57_code (4 : Nat) (Option.none : Option Jvm.ClassFile.FieldType)) ∈ wTs := wmem (i := 1801) (by decide +kernel) (by decide +kernel)
set_option maxRecDepth 20000 in
theorem wm1802 : (Jvm.Cond.methodLink "NearSpellModel" (405 : Nat) ({ cls := "NearSpellModel", name := "stepsNow", desc := "()I" } : Jvm.MethodName)) ∈ wTs := wmem (i := 1802) (by decide +kernel) (by decide +kernel)
set_option maxRecDepth 20000 in
theorem wm1804 : (Jvm.Cond.instanceMethod ({ cls := "NearSpellModel", name := "stepsNow", desc := "()I" } : Jvm.MethodName)) ∈ wTs := wmem (i := 1804) (by decide +kernel) (by decide +kernel)
set_option maxRecDepth 20000 in
theorem wm1805 : (Jvm.Cond.code ({ cls := "NearSpellModel", name := "stepsNow", desc := "()I" } : Jvm.MethodName) prog_14_method_61_code (2 : Nat) (Option.some Jvm.ClassFile.FieldType.int)) ∈ wTs := wmem (i := 1805) (by decide +kernel) (by decide +kernel)
set_option maxRecDepth 20000 in
theorem wm1830 : (Jvm.Cond.methodLink "NearSpellModel" (369 : Nat) ({ cls := "NearSpellModel", name := "bucketOf", desc := "(I)I" } : Jvm.MethodName)) ∈ wTs := wmem (i := 1830) (by decide +kernel) (by decide +kernel)
set_option maxRecDepth 20000 in
theorem wm1832 : (Jvm.Cond.instanceMethod ({ cls := "NearSpellModel", name := "bucketOf", desc := "(I)I" } : Jvm.MethodName)) ∈ wTs := wmem (i := 1832) (by decide +kernel) (by decide +kernel)
set_option maxRecDepth 20000 in
theorem wm1833 : (Jvm.Cond.code ({ cls := "NearSpellModel", name := "bucketOf", desc := "(I)I" } : Jvm.MethodName) prog_14_method_33_code (3 : Nat) (Option.some Jvm.ClassFile.FieldType.int)) ∈ wTs := wmem (i := 1833) (by decide +kernel) (by decide +kernel)
set_option maxRecDepth 20000 in
theorem wm1834 : (Jvm.Cond.methodLink "NearSpellModel" (330 : Nat) ({ cls := "NearSpellModel", name := "comes", desc := "()I" } : Jvm.MethodName)) ∈ wTs := wmem (i := 1834) (by decide +kernel) (by decide +kernel)
set_option maxRecDepth 20000 in
theorem wm1836 : (Jvm.Cond.instanceMethod ({ cls := "NearSpellModel", name := "comes", desc := "()I" } : Jvm.MethodName)) ∈ wTs := wmem (i := 1836) (by decide +kernel) (by decide +kernel)
set_option maxRecDepth 20000 in
theorem wm1837 : (Jvm.Cond.code ({ cls := "NearSpellModel", name := "comes", desc := "()I" } : Jvm.MethodName) prog_14_method_32_code (4 : Nat) (Option.some Jvm.ClassFile.FieldType.int)) ∈ wTs := wmem (i := 1837) (by decide +kernel) (by decide +kernel)
set_option maxRecDepth 20000 in
theorem wm1842 : (Jvm.Cond.methodLink "NearSpellModel" (316 : Nat) ({ cls := "NearSpellModel", name := "totalOf", desc := "(I)I" } : Jvm.MethodName)) ∈ wTs := wmem (i := 1842) (by decide +kernel) (by decide +kernel)
set_option maxRecDepth 20000 in
theorem wm1843 : (Jvm.Cond.static ({ cls := "NearSpellModel", name := "totalOf", desc := "(I)I" } : Jvm.MethodName)) ∈ wTs := wmem (i := 1843) (by decide +kernel) (by decide +kernel)
set_option maxRecDepth 20000 in
theorem wm1844 : (Jvm.Cond.code ({ cls := "NearSpellModel", name := "totalOf", desc := "(I)I" } : Jvm.MethodName) prog_14_method_42_code (3 : Nat) (Option.some Jvm.ClassFile.FieldType.int)) ∈ wTs := wmem (i := 1844) (by decide +kernel) (by decide +kernel)
set_option maxRecDepth 20000 in
theorem wm1852 : (Jvm.Cond.methodLink "NearSpellModel" (411 : Nat) ({ cls := "NearSpellModel", name := "metBy", desc := "(II)I" } : Jvm.MethodName)) ∈ wTs := wmem (i := 1852) (by decide +kernel) (by decide +kernel)
set_option maxRecDepth 20000 in
theorem wm1854 : (Jvm.Cond.instanceMethod ({ cls := "NearSpellModel", name := "metBy", desc := "(II)I" } : Jvm.MethodName)) ∈ wTs := wmem (i := 1854) (by decide +kernel) (by decide +kernel)
set_option maxRecDepth 20000 in
theorem wm1855 : (Jvm.Cond.code ({ cls := "NearSpellModel", name := "metBy", desc := "(II)I" } : Jvm.MethodName) prog_14_method_55_code (9 : Nat) (Option.some Jvm.ClassFile.FieldType.int)) ∈ wTs := wmem (i := 1855) (by decide +kernel) (by decide +kernel)
set_option maxRecDepth 20000 in
theorem wm1856 : (Jvm.Cond.methodLink "NearSpellModel" (375 : Nat) ({ cls := "NearSpellModel", name := "layStore", desc := "(I)I" } : Jvm.MethodName)) ∈ wTs := wmem (i := 1856) (by decide +kernel) (by decide +kernel)
set_option maxRecDepth 20000 in
theorem wm1858 : (Jvm.Cond.instanceMethod ({ cls := "NearSpellModel", name := "layStore", desc := "(I)I" } : Jvm.MethodName)) ∈ wTs := wmem (i := 1858) (by decide +kernel) (by decide +kernel)
set_option maxRecDepth 20000 in
theorem wm1859 : (Jvm.Cond.code ({ cls := "NearSpellModel", name := "layStore", desc := "(I)I" } : Jvm.MethodName) prog_14_method_51_code (5 : Nat) (Option.some Jvm.ClassFile.FieldType.int)) ∈ wTs := wmem (i := 1859) (by decide +kernel) (by decide +kernel)
set_option maxRecDepth 20000 in
theorem wm1860 : (Jvm.Cond.methodLink "NearSpellModel" (378 : Nat) ({ cls := "NearSpellModel", name := "bucketsOf", desc := "(I)I" } : Jvm.MethodName)) ∈ wTs := wmem (i := 1860) (by decide +kernel) (by decide +kernel)
set_option maxRecDepth 20000 in
theorem wm1862 : (Jvm.Cond.instanceMethod ({ cls := "NearSpellModel", name := "bucketsOf", desc := "(I)I" } : Jvm.MethodName)) ∈ wTs := wmem (i := 1862) (by decide +kernel) (by decide +kernel)
set_option maxRecDepth 20000 in
theorem wm1863 : (Jvm.Cond.code ({ cls := "NearSpellModel", name := "bucketsOf", desc := "(I)I" } : Jvm.MethodName) prog_14_method_54_code (4 : Nat) (Option.some Jvm.ClassFile.FieldType.int)) ∈ wTs := wmem (i := 1863) (by decide +kernel) (by decide +kernel)
set_option maxRecDepth 20000 in
theorem wm1864 : (Jvm.Cond.methodLink "NearSpellModel" (381 : Nat) ({ cls := "NearSpellModel", name := "hasForm", desc := "(II)Z" } : Jvm.MethodName)) ∈ wTs := wmem (i := 1864) (by decide +kernel) (by decide +kernel)
set_option maxRecDepth 20000 in
theorem wm1866 : (Jvm.Cond.instanceMethod ({ cls := "NearSpellModel", name := "hasForm", desc := "(II)Z" } : Jvm.MethodName)) ∈ wTs := wmem (i := 1866) (by decide +kernel) (by decide +kernel)
set_option maxRecDepth 20000 in
theorem wm1867 : (Jvm.Cond.code ({ cls := "NearSpellModel", name := "hasForm", desc := "(II)Z" } : Jvm.MethodName) prog_14_method_53_code (4 : Nat) (Option.some Jvm.ClassFile.FieldType.boolean)) ∈ wTs := wmem (i := 1867) (by decide +kernel) (by decide +kernel)
set_option maxRecDepth 20000 in
theorem wm1872 : (Jvm.Cond.methodLink "NearSpellModel" (423 : Nat) ({ cls := "NearSpellModel", name := "entriesNow", desc := "()I" } : Jvm.MethodName)) ∈ wTs := wmem (i := 1872) (by decide +kernel) (by decide +kernel)
set_option maxRecDepth 20000 in
theorem wm1874 : (Jvm.Cond.instanceMethod ({ cls := "NearSpellModel", name := "entriesNow", desc := "()I" } : Jvm.MethodName)) ∈ wTs := wmem (i := 1874) (by decide +kernel) (by decide +kernel)
set_option maxRecDepth 20000 in
theorem wm1875 : (Jvm.Cond.code ({ cls := "NearSpellModel", name := "entriesNow", desc := "()I" } : Jvm.MethodName) prog_14_method_47_code (3 : Nat) (Option.some Jvm.ClassFile.FieldType.int)) ∈ wTs := wmem (i := 1875) (by decide +kernel) (by decide +kernel)
set_option maxRecDepth 20000 in
theorem wm1876 : (Jvm.Cond.methodLink "NearSpellModel" (414 : Nat) ({ cls := "NearSpellModel", name := "layFar", desc := "(I)V" } : Jvm.MethodName)) ∈ wTs := wmem (i := 1876) (by decide +kernel) (by decide +kernel)
set_option maxRecDepth 20000 in
theorem wm1878 : (Jvm.Cond.instanceMethod ({ cls := "NearSpellModel", name := "layFar", desc := "(I)V" } : Jvm.MethodName)) ∈ wTs := wmem (i := 1878) (by decide +kernel) (by decide +kernel)
set_option maxRecDepth 20000 in
theorem wm1879 : (Jvm.Cond.code ({ cls := "NearSpellModel", name := "layFar", desc := "(I)V" } : Jvm.MethodName) prog_14_method_64_code (3 : Nat) (Option.none : Option Jvm.ClassFile.FieldType)) ∈ wTs := wmem (i := 1879) (by decide +kernel) (by decide +kernel)
set_option maxRecDepth 20000 in
theorem wm1880 : (Jvm.Cond.methodLink "NearSpellModel" (426 : Nat) ({ cls := "NearSpellModel", name := "within", desc := "(II)I" } : Jvm.MethodName)) ∈ wTs := wmem (i := 1880) (by decide +kernel) (by decide +kernel)
set_option maxRecDepth 20000 in
theorem wm1882 : (Jvm.Cond.instanceMethod ({ cls := "NearSpellModel", name := "within", desc := "(II)I" } : Jvm.MethodName)) ∈ wTs := wmem (i := 1882) (by decide +kernel) (by decide +kernel)
set_option maxRecDepth 20000 in
theorem wm1883 : (Jvm.Cond.code ({ cls := "NearSpellModel", name := "within", desc := "(II)I" } : Jvm.MethodName) prog_14_method_65_code (5 : Nat) (Option.some Jvm.ClassFile.FieldType.int)) ∈ wTs := wmem (i := 1883) (by decide +kernel) (by decide +kernel)
set_option maxRecDepth 20000 in
theorem wm1888 : (Jvm.Cond.methodLink "NearSpellModel" (428 : Nat) ({ cls := "NearSpellModel", name := "nearestTo", desc := "(I)I" } : Jvm.MethodName)) ∈ wTs := wmem (i := 1888) (by decide +kernel) (by decide +kernel)
set_option maxRecDepth 20000 in
theorem wm1890 : (Jvm.Cond.instanceMethod ({ cls := "NearSpellModel", name := "nearestTo", desc := "(I)I" } : Jvm.MethodName)) ∈ wTs := wmem (i := 1890) (by decide +kernel) (by decide +kernel)
set_option maxRecDepth 20000 in
theorem wm1891 : (Jvm.Cond.code ({ cls := "NearSpellModel", name := "nearestTo", desc := "(I)I" } : Jvm.MethodName) prog_14_method_67_code (3 : Nat) (Option.some Jvm.ClassFile.FieldType.int)) ∈ wTs := wmem (i := 1891) (by decide +kernel) (by decide +kernel)
set_option maxRecDepth 20000 in
theorem wm1892 : (Jvm.Cond.methodLink "NearSpellModel" (417 : Nat) ({ cls := "NearSpellModel", name := "nearestOf", desc := "(I)I" } : Jvm.MethodName)) ∈ wTs := wmem (i := 1892) (by decide +kernel) (by decide +kernel)
set_option maxRecDepth 20000 in
theorem wm1894 : (Jvm.Cond.instanceMethod ({ cls := "NearSpellModel", name := "nearestOf", desc := "(I)I" } : Jvm.MethodName)) ∈ wTs := wmem (i := 1894) (by decide +kernel) (by decide +kernel)
set_option maxRecDepth 20000 in
theorem wm1895 : (Jvm.Cond.code ({ cls := "NearSpellModel", name := "nearestOf", desc := "(I)I" } : Jvm.MethodName) prog_14_method_66_code (4 : Nat) (Option.some Jvm.ClassFile.FieldType.int)) ∈ wTs := wmem (i := 1895) (by decide +kernel) (by decide +kernel)
set_option maxRecDepth 20000 in
theorem wm1912 : (Jvm.Cond.methodLink "NearSpellModel" (441 : Nat) ({ cls := "NearSpellModel", name := "layReadings", desc := "()V" } : Jvm.MethodName)) ∈ wTs := wmem (i := 1912) (by decide +kernel) (by decide +kernel)
set_option maxRecDepth 20000 in
theorem wm1914 : (Jvm.Cond.instanceMethod ({ cls := "NearSpellModel", name := "layReadings", desc := "()V" } : Jvm.MethodName)) ∈ wTs := wmem (i := 1914) (by decide +kernel) (by decide +kernel)
set_option maxRecDepth 20000 in
theorem wm1915 : (Jvm.Cond.code ({ cls := "NearSpellModel", name := "layReadings", desc := "()V" } : Jvm.MethodName) prog_14_method_83_code (2 : Nat) (Option.none : Option Jvm.ClassFile.FieldType)) ∈ wTs := wmem (i := 1915) (by decide +kernel) (by decide +kernel)
set_option maxRecDepth 20000 in
theorem wm1916 : (Jvm.Cond.methodLink "NearSpellModel" (435 : Nat) ({ cls := "NearSpellModel", name := "readOne", desc := "(I)V" } : Jvm.MethodName)) ∈ wTs := wmem (i := 1916) (by decide +kernel) (by decide +kernel)
set_option maxRecDepth 20000 in
theorem wm1918 : (Jvm.Cond.instanceMethod ({ cls := "NearSpellModel", name := "readOne", desc := "(I)V" } : Jvm.MethodName)) ∈ wTs := wmem (i := 1918) (by decide +kernel) (by decide +kernel)
set_option maxRecDepth 20000 in
theorem wm1919 : (Jvm.Cond.code ({ cls := "NearSpellModel", name := "readOne", desc := "(I)V" } : Jvm.MethodName) prog_14_method_81_code (4 : Nat) (Option.none : Option Jvm.ClassFile.FieldType)) ∈ wTs := wmem (i := 1919) (by decide +kernel) (by decide +kernel)
set_option maxRecDepth 20000 in
theorem wm1920 : (Jvm.Cond.methodLink "NearSpellModel" (431 : Nat) ({ cls := "NearSpellModel", name := "reads", desc := "(III)V" } : Jvm.MethodName)) ∈ wTs := wmem (i := 1920) (by decide +kernel) (by decide +kernel)
set_option maxRecDepth 20000 in
theorem wm1922 : (Jvm.Cond.instanceMethod ({ cls := "NearSpellModel", name := "reads", desc := "(III)V" } : Jvm.MethodName)) ∈ wTs := wmem (i := 1922) (by decide +kernel) (by decide +kernel)
set_option maxRecDepth 20000 in
theorem wm1923 : (Jvm.Cond.code ({ cls := "NearSpellModel", name := "reads", desc := "(III)V" } : Jvm.MethodName) prog_14_method_80_code (5 : Nat) (Option.none : Option Jvm.ClassFile.FieldType)) ∈ wTs := wmem (i := 1923) (by decide +kernel) (by decide +kernel)
set_option maxRecDepth 20000 in
theorem wm1924 : (Jvm.Cond.methodLink "NearSpellModel" (438 : Nat) ({ cls := "NearSpellModel", name := "readTwo", desc := "(I)V" } : Jvm.MethodName)) ∈ wTs := wmem (i := 1924) (by decide +kernel) (by decide +kernel)
set_option maxRecDepth 20000 in
theorem wm1926 : (Jvm.Cond.instanceMethod ({ cls := "NearSpellModel", name := "readTwo", desc := "(I)V" } : Jvm.MethodName)) ∈ wTs := wmem (i := 1926) (by decide +kernel) (by decide +kernel)
set_option maxRecDepth 20000 in
theorem wm1927 : (Jvm.Cond.code ({ cls := "NearSpellModel", name := "readTwo", desc := "(I)V" } : Jvm.MethodName) prog_14_method_82_code (3 : Nat) (Option.none : Option Jvm.ClassFile.FieldType)) ∈ wTs := wmem (i := 1927) (by decide +kernel) (by decide +kernel)
set_option maxRecDepth 20000 in
theorem wm1936 : (Jvm.Cond.methodLink "NearSpellModel" (447 : Nat) ({ cls := "NearSpellModel", name := "layApart", desc := "()V" } : Jvm.MethodName)) ∈ wTs := wmem (i := 1936) (by decide +kernel) (by decide +kernel)
set_option maxRecDepth 20000 in
theorem wm1938 : (Jvm.Cond.instanceMethod ({ cls := "NearSpellModel", name := "layApart", desc := "()V" } : Jvm.MethodName)) ∈ wTs := wmem (i := 1938) (by decide +kernel) (by decide +kernel)
set_option maxRecDepth 20000 in
theorem wm1939 : (Jvm.Cond.code ({ cls := "NearSpellModel", name := "layApart", desc := "()V" } : Jvm.MethodName) prog_14_method_86_code (4 : Nat) (Option.none : Option Jvm.ClassFile.FieldType)) ∈ wTs := wmem (i := 1939) (by decide +kernel) (by decide +kernel)
set_option maxRecDepth 20000 in
theorem wm1940 : (Jvm.Cond.methodLink "NearSpellModel" (444 : Nat) ({ cls := "NearSpellModel", name := "apartFrom", desc := "(II)I" } : Jvm.MethodName)) ∈ wTs := wmem (i := 1940) (by decide +kernel) (by decide +kernel)
set_option maxRecDepth 20000 in
theorem wm1942 : (Jvm.Cond.instanceMethod ({ cls := "NearSpellModel", name := "apartFrom", desc := "(II)I" } : Jvm.MethodName)) ∈ wTs := wmem (i := 1942) (by decide +kernel) (by decide +kernel)
set_option maxRecDepth 20000 in
theorem wm1943 : (Jvm.Cond.code ({ cls := "NearSpellModel", name := "apartFrom", desc := "(II)I" } : Jvm.MethodName) prog_14_method_63_code (3 : Nat) (Option.some Jvm.ClassFile.FieldType.int)) ∈ wTs := wmem (i := 1943) (by decide +kernel) (by decide +kernel)
set_option maxRecDepth 20000 in
theorem wm1948 : (Jvm.Cond.methodLink "NearSpellModel" (450 : Nat) ({ cls := "NearSpellModel", name := "layNear", desc := "(I)V" } : Jvm.MethodName)) ∈ wTs := wmem (i := 1948) (by decide +kernel) (by decide +kernel)
set_option maxRecDepth 20000 in
theorem wm1950 : (Jvm.Cond.instanceMethod ({ cls := "NearSpellModel", name := "layNear", desc := "(I)V" } : Jvm.MethodName)) ∈ wTs := wmem (i := 1950) (by decide +kernel) (by decide +kernel)
set_option maxRecDepth 20000 in
theorem wm1951 : (Jvm.Cond.code ({ cls := "NearSpellModel", name := "layNear", desc := "(I)V" } : Jvm.MethodName) prog_14_method_87_code (4 : Nat) (Option.none : Option Jvm.ClassFile.FieldType)) ∈ wTs := wmem (i := 1951) (by decide +kernel) (by decide +kernel)
set_option maxRecDepth 20000 in
theorem wm1955 : (Jvm.Cond.methodLink "NearSpellModel" (456 : Nat) ({ cls := "NearSpellModel", name := "oneStep", desc := "(I)I" } : Jvm.MethodName)) ∈ wTs := wmem (i := 1955) (by decide +kernel) (by decide +kernel)
set_option maxRecDepth 20000 in
theorem wm1957 : (Jvm.Cond.instanceMethod ({ cls := "NearSpellModel", name := "oneStep", desc := "(I)I" } : Jvm.MethodName)) ∈ wTs := wmem (i := 1957) (by decide +kernel) (by decide +kernel)
set_option maxRecDepth 20000 in
theorem wm1958 : (Jvm.Cond.code ({ cls := "NearSpellModel", name := "oneStep", desc := "(I)I" } : Jvm.MethodName) prog_14_method_89_code (4 : Nat) (Option.some Jvm.ClassFile.FieldType.int)) ∈ wTs := wmem (i := 1958) (by decide +kernel) (by decide +kernel)
set_option maxRecDepth 20000 in
theorem wm1963 : (Jvm.Cond.methodLink "NearSpellModel" (459 : Nat) ({ cls := "NearSpellModel", name := "areFar", desc := "(I)Z" } : Jvm.MethodName)) ∈ wTs := wmem (i := 1963) (by decide +kernel) (by decide +kernel)
set_option maxRecDepth 20000 in
theorem wm1965 : (Jvm.Cond.instanceMethod ({ cls := "NearSpellModel", name := "areFar", desc := "(I)Z" } : Jvm.MethodName)) ∈ wTs := wmem (i := 1965) (by decide +kernel) (by decide +kernel)
set_option maxRecDepth 20000 in
theorem wm1966 : (Jvm.Cond.code ({ cls := "NearSpellModel", name := "areFar", desc := "(I)Z" } : Jvm.MethodName) prog_14_method_91_code (3 : Nat) (Option.some Jvm.ClassFile.FieldType.boolean)) ∈ wTs := wmem (i := 1966) (by decide +kernel) (by decide +kernel)
set_option maxRecDepth 20000 in
theorem wm1987 : (Jvm.Cond.methodLink "NearSpellModel" (462 : Nat) ({ cls := "NearSpellModel", name := "loadOf", desc := "(I)I" } : Jvm.MethodName)) ∈ wTs := wmem (i := 1987) (by decide +kernel) (by decide +kernel)
set_option maxRecDepth 20000 in
theorem wm1989 : (Jvm.Cond.instanceMethod ({ cls := "NearSpellModel", name := "loadOf", desc := "(I)I" } : Jvm.MethodName)) ∈ wTs := wmem (i := 1989) (by decide +kernel) (by decide +kernel)
set_option maxRecDepth 20000 in
theorem wm1990 : (Jvm.Cond.code ({ cls := "NearSpellModel", name := "loadOf", desc := "(I)I" } : Jvm.MethodName) prog_14_method_97_code (5 : Nat) (Option.some Jvm.ClassFile.FieldType.int)) ∈ wTs := wmem (i := 1990) (by decide +kernel) (by decide +kernel)
set_option maxRecDepth 20000 in
theorem wm2007 : (Jvm.Cond.methodLink "NearSpellModel" (465 : Nat) ({ cls := "NearSpellModel", name := "isElsewhere", desc := "(III)Z" } : Jvm.MethodName)) ∈ wTs := wmem (i := 2007) (by decide +kernel) (by decide +kernel)
set_option maxRecDepth 20000 in
theorem wm2009 : (Jvm.Cond.instanceMethod ({ cls := "NearSpellModel", name := "isElsewhere", desc := "(III)Z" } : Jvm.MethodName)) ∈ wTs := wmem (i := 2009) (by decide +kernel) (by decide +kernel)
set_option maxRecDepth 20000 in
theorem wm2010 : (Jvm.Cond.code ({ cls := "NearSpellModel", name := "isElsewhere", desc := "(III)Z" } : Jvm.MethodName) prog_14_method_102_code (5 : Nat) (Option.some Jvm.ClassFile.FieldType.boolean)) ∈ wTs := wmem (i := 2010) (by decide +kernel) (by decide +kernel)
set_option maxRecDepth 20000 in
theorem wm2019 : (Jvm.Cond.methodLink "NearSpellModel" (468 : Nat) ({ cls := "NearSpellModel", name := "isSpelled", desc := "(I)Z" } : Jvm.MethodName)) ∈ wTs := wmem (i := 2019) (by decide +kernel) (by decide +kernel)
set_option maxRecDepth 20000 in
theorem wm2021 : (Jvm.Cond.instanceMethod ({ cls := "NearSpellModel", name := "isSpelled", desc := "(I)Z" } : Jvm.MethodName)) ∈ wTs := wmem (i := 2021) (by decide +kernel) (by decide +kernel)
set_option maxRecDepth 20000 in
theorem wm2022 : (Jvm.Cond.code ({ cls := "NearSpellModel", name := "isSpelled", desc := "(I)Z" } : Jvm.MethodName) prog_14_method_107_code (3 : Nat) (Option.some Jvm.ClassFile.FieldType.boolean)) ∈ wTs := wmem (i := 2022) (by decide +kernel) (by decide +kernel)
set_option maxRecDepth 20000 in
theorem wm2023 : (Jvm.Cond.methodLink "NearSpellModel" (471 : Nat) ({ cls := "NearSpellModel", name := "keepAct", desc := "()V" } : Jvm.MethodName)) ∈ wTs := wmem (i := 2023) (by decide +kernel) (by decide +kernel)
set_option maxRecDepth 20000 in
theorem wm2025 : (Jvm.Cond.instanceMethod ({ cls := "NearSpellModel", name := "keepAct", desc := "()V" } : Jvm.MethodName)) ∈ wTs := wmem (i := 2025) (by decide +kernel) (by decide +kernel)
set_option maxRecDepth 20000 in
theorem wm2026 : (Jvm.Cond.code ({ cls := "NearSpellModel", name := "keepAct", desc := "()V" } : Jvm.MethodName) prog_14_method_105_code (2 : Nat) (Option.none : Option Jvm.ClassFile.FieldType)) ∈ wTs := wmem (i := 2026) (by decide +kernel) (by decide +kernel)
set_option maxRecDepth 20000 in
theorem wm2047 : (Jvm.Cond.methodLink "NearSpellModel" (474 : Nat) ({ cls := "NearSpellModel", name := "swapAll", desc := "()V" } : Jvm.MethodName)) ∈ wTs := wmem (i := 2047) (by decide +kernel) (by decide +kernel)
set_option maxRecDepth 20000 in
theorem wm2049 : (Jvm.Cond.instanceMethod ({ cls := "NearSpellModel", name := "swapAll", desc := "()V" } : Jvm.MethodName)) ∈ wTs := wmem (i := 2049) (by decide +kernel) (by decide +kernel)
set_option maxRecDepth 20000 in
theorem wm2050 : (Jvm.Cond.code ({ cls := "NearSpellModel", name := "swapAll", desc := "()V" } : Jvm.MethodName) prog_14_method_106_code (3 : Nat) (Option.none : Option Jvm.ClassFile.FieldType)) ∈ wTs := wmem (i := 2050) (by decide +kernel) (by decide +kernel)
set_option maxRecDepth 20000 in
theorem wm2059 : (Jvm.Cond.methodLink "NearSpellModel" (477 : Nat) ({ cls := "NearSpellModel", name := "power", desc := "(II)I" } : Jvm.MethodName)) ∈ wTs := wmem (i := 2059) (by decide +kernel) (by decide +kernel)
set_option maxRecDepth 20000 in
theorem wm2060 : (Jvm.Cond.static ({ cls := "NearSpellModel", name := "power", desc := "(II)I" } : Jvm.MethodName)) ∈ wTs := wmem (i := 2060) (by decide +kernel) (by decide +kernel)
set_option maxRecDepth 20000 in
theorem wm2061 : (Jvm.Cond.code ({ cls := "NearSpellModel", name := "power", desc := "(II)I" } : Jvm.MethodName) prog_14_method_39_code (4 : Nat) (Option.some Jvm.ClassFile.FieldType.int)) ∈ wTs := wmem (i := 2061) (by decide +kernel) (by decide +kernel)
set_option maxRecDepth 20000 in
theorem wm2062 : (Jvm.Cond.methodLink "NearSpellModel" (480 : Nat) ({ cls := "NearSpellModel", name := "divisor", desc := "(II)I" } : Jvm.MethodName)) ∈ wTs := wmem (i := 2062) (by decide +kernel) (by decide +kernel)
set_option maxRecDepth 20000 in
theorem wm2063 : (Jvm.Cond.static ({ cls := "NearSpellModel", name := "divisor", desc := "(II)I" } : Jvm.MethodName)) ∈ wTs := wmem (i := 2063) (by decide +kernel) (by decide +kernel)
set_option maxRecDepth 20000 in
theorem wm2064 : (Jvm.Cond.code ({ cls := "NearSpellModel", name := "divisor", desc := "(II)I" } : Jvm.MethodName) prog_14_method_38_code (5 : Nat) (Option.some Jvm.ClassFile.FieldType.int)) ∈ wTs := wmem (i := 2064) (by decide +kernel) (by decide +kernel)
set_option maxRecDepth 20000 in
theorem wm2077 : (Jvm.Cond.constant "NearSpellModel" (486 : Nat) (100000 : Int32)) ∈ wTs := wmem (i := 2077) (by decide +kernel) (by decide +kernel)
set_option maxRecDepth 20000 in
theorem wm2079 : (Jvm.Cond.instanceMethod ({ cls := "NearSpellModel", name := "fits", desc := "(I)I" } : Jvm.MethodName)) ∈ wTs := wmem (i := 2079) (by decide +kernel) (by decide +kernel)
set_option maxRecDepth 20000 in
theorem wm2080 : (Jvm.Cond.selects "NearSpellModel" ({ cls := "NearSpellModel", name := "fits", desc := "(I)I" } : Jvm.MethodName) ({ cls := "NearSpellModel", name := "fits", desc := "(I)I" } : Jvm.MethodName)) ∈ wTs := wmem (i := 2080) (by decide +kernel) (by decide +kernel)
set_option maxRecDepth 20000 in
theorem wm2081 : (Jvm.Cond.code ({ cls := "NearSpellModel", name := "fits", desc := "(I)I" } : Jvm.MethodName) prog_14_method_122_code (4 : Nat) (Option.some Jvm.ClassFile.FieldType.int)) ∈ wTs := wmem (i := 2081) (by decide +kernel) (by decide +kernel)
set_option maxRecDepth 20000 in
theorem wm2082 : (Jvm.Cond.methodLink "NearSpellModel" (493 : Nat) ({ cls := "NearSpellModel", name := "doesFit", desc := "(II)Z" } : Jvm.MethodName)) ∈ wTs := wmem (i := 2082) (by decide +kernel) (by decide +kernel)
set_option maxRecDepth 20000 in
theorem wm2084 : (Jvm.Cond.instanceMethod ({ cls := "NearSpellModel", name := "doesFit", desc := "(II)Z" } : Jvm.MethodName)) ∈ wTs := wmem (i := 2084) (by decide +kernel) (by decide +kernel)
set_option maxRecDepth 20000 in
theorem wm2085 : (Jvm.Cond.code ({ cls := "NearSpellModel", name := "doesFit", desc := "(II)Z" } : Jvm.MethodName) prog_14_method_121_code (4 : Nat) (Option.some Jvm.ClassFile.FieldType.boolean)) ∈ wTs := wmem (i := 2085) (by decide +kernel) (by decide +kernel)
set_option maxRecDepth 20000 in
theorem wm2086 : (Jvm.Cond.methodLink "NearSpellModel" (487 : Nat) ({ cls := "NearSpellModel", name := "doesCount", desc := "(II)Z" } : Jvm.MethodName)) ∈ wTs := wmem (i := 2086) (by decide +kernel) (by decide +kernel)
set_option maxRecDepth 20000 in
theorem wm2088 : (Jvm.Cond.instanceMethod ({ cls := "NearSpellModel", name := "doesCount", desc := "(II)Z" } : Jvm.MethodName)) ∈ wTs := wmem (i := 2088) (by decide +kernel) (by decide +kernel)
set_option maxRecDepth 20000 in
theorem wm2089 : (Jvm.Cond.code ({ cls := "NearSpellModel", name := "doesCount", desc := "(II)Z" } : Jvm.MethodName) prog_14_method_120_code (3 : Nat) (Option.some Jvm.ClassFile.FieldType.boolean)) ∈ wTs := wmem (i := 2089) (by decide +kernel) (by decide +kernel)
set_option maxRecDepth 20000 in
theorem wm2090 : (Jvm.Cond.methodLink "NearSpellModel" (490 : Nat) ({ cls := "NearSpellModel", name := "wordOf", desc := "(I)I" } : Jvm.MethodName)) ∈ wTs := wmem (i := 2090) (by decide +kernel) (by decide +kernel)
set_option maxRecDepth 20000 in
theorem wm2092 : (Jvm.Cond.instanceMethod ({ cls := "NearSpellModel", name := "wordOf", desc := "(I)I" } : Jvm.MethodName)) ∈ wTs := wmem (i := 2092) (by decide +kernel) (by decide +kernel)
set_option maxRecDepth 20000 in
theorem wm2093 : (Jvm.Cond.code ({ cls := "NearSpellModel", name := "wordOf", desc := "(I)I" } : Jvm.MethodName) prog_14_method_116_code (2 : Nat) (Option.some Jvm.ClassFile.FieldType.int)) ∈ wTs := wmem (i := 2093) (by decide +kernel) (by decide +kernel)
set_option maxRecDepth 20000 in
theorem wm2098 : (Jvm.Cond.methodLink "NearSpellModel" (496 : Nat) ({ cls := "NearSpellModel", name := "fits", desc := "(I)I" } : Jvm.MethodName)) ∈ wTs := wmem (i := 2098) (by decide +kernel) (by decide +kernel)
set_option maxRecDepth 20000 in
theorem wm2099 : (Jvm.Cond.methodLink "NearSpellModel" (499 : Nat) ({ cls := "NearSpellModel", name := "mostBehind", desc := "(II)I" } : Jvm.MethodName)) ∈ wTs := wmem (i := 2099) (by decide +kernel) (by decide +kernel)
set_option maxRecDepth 20000 in
theorem wm2101 : (Jvm.Cond.instanceMethod ({ cls := "NearSpellModel", name := "mostBehind", desc := "(II)I" } : Jvm.MethodName)) ∈ wTs := wmem (i := 2101) (by decide +kernel) (by decide +kernel)
set_option maxRecDepth 20000 in
theorem wm2102 : (Jvm.Cond.code ({ cls := "NearSpellModel", name := "mostBehind", desc := "(II)I" } : Jvm.MethodName) prog_14_method_123_code (6 : Nat) (Option.some Jvm.ClassFile.FieldType.int)) ∈ wTs := wmem (i := 2102) (by decide +kernel) (by decide +kernel)
set_option maxRecDepth 20000 in
theorem wm2123 : (Jvm.Cond.fieldLink "java/lang/String" (15 : Nat) "java/lang/String" "coder" "B") ∈ wTs := wmem (i := 2123) (by decide +kernel) (by decide +kernel)
set_option maxRecDepth 20000 in
theorem wm2124 : (Jvm.Cond.fieldLink "java/lang/String" (9 : Nat) "java/lang/String" "value" "[B") ∈ wTs := wmem (i := 2124) (by decide +kernel) (by decide +kernel)
