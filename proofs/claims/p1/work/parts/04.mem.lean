set_option maxRecDepth 20000 in
theorem wm0 : (Cond.selects "NearSpell$Pieces" ⟨"NearSpell$Pieces", "forgetLeast", "()V"⟩ ⟨"NearSpell$Pieces", "forgetLeast", "()V"⟩) ∈ wTs := wmem (i := 0) (by decide +kernel) (by decide +kernel)
set_option maxRecDepth 20000 in
theorem wm1 : (Cond.selects "NearSpell" ⟨"NearSpell", "putBytes", "(I)V"⟩ ⟨"NearSpell", "putBytes", "(I)V"⟩) ∈ wTs := wmem (i := 1) (by decide +kernel) (by decide +kernel)
set_option maxRecDepth 20000 in
theorem wm2 : (Cond.selects "NearSpell$Reader" ⟨"NearSpell$Reader", "takeToken", "()V"⟩ ⟨"NearSpell$Reader", "takeToken", "()V"⟩) ∈ wTs := wmem (i := 2) (by decide +kernel) (by decide +kernel)
set_option maxRecDepth 20000 in
theorem wm3 : (Cond.selects "NearSpell$Reader" ⟨"NearSpell$Reader", "isLetter", "(I)Z"⟩ ⟨"NearSpell$Reader", "isLetter", "(I)Z"⟩) ∈ wTs := wmem (i := 3) (by decide +kernel) (by decide +kernel)
set_option maxRecDepth 20000 in
theorem wm4 : (Cond.selects "NearSpell$Reader" ⟨"NearSpell$Reader", "takeLetters", "()V"⟩ ⟨"NearSpell$Reader", "takeLetters", "()V"⟩) ∈ wTs := wmem (i := 4) (by decide +kernel) (by decide +kernel)
set_option maxRecDepth 20000 in
theorem wm5 : (Cond.selects "NearSpell$Reader" ⟨"NearSpell$Reader", "fail", "(I)V"⟩ ⟨"NearSpell$Reader", "fail", "(I)V"⟩) ∈ wTs := wmem (i := 5) (by decide +kernel) (by decide +kernel)
set_option maxRecDepth 20000 in
theorem wm6 : (Cond.selects "NearSpell$Reader" ⟨"NearSpell$Reader", "isOwnWord", "(I)Z"⟩ ⟨"NearSpell$Reader", "isOwnWord", "(I)Z"⟩) ∈ wTs := wmem (i := 6) (by decide +kernel) (by decide +kernel)
set_option maxRecDepth 20000 in
theorem wm7 : (Cond.selects "NearSpell$Reader" ⟨"NearSpell$Reader", "isDigit", "(I)Z"⟩ ⟨"NearSpell$Reader", "isDigit", "(I)Z"⟩) ∈ wTs := wmem (i := 7) (by decide +kernel) (by decide +kernel)
set_option maxRecDepth 20000 in
theorem wm8 : (Cond.selects "NearSpell$Reader" ⟨"NearSpell$Reader", "takeDigits", "()V"⟩ ⟨"NearSpell$Reader", "takeDigits", "()V"⟩) ∈ wTs := wmem (i := 8) (by decide +kernel) (by decide +kernel)
set_option maxRecDepth 20000 in
theorem wm9 : (Cond.selects "NearSpell$Reader" ⟨"NearSpell$Reader", "readLine", "()V"⟩ ⟨"NearSpell$Reader", "readLine", "()V"⟩) ∈ wTs := wmem (i := 9) (by decide +kernel) (by decide +kernel)
set_option maxRecDepth 20000 in
theorem wm10 : (Cond.selects "NearSpell$Reader" ⟨"NearSpell$Reader", "isTooMany", "(I)Z"⟩ ⟨"NearSpell$Reader", "isTooMany", "(I)Z"⟩) ∈ wTs := wmem (i := 10) (by decide +kernel) (by decide +kernel)
set_option maxRecDepth 20000 in
theorem wm11 : (Cond.selects "NearSpell$Reader" ⟨"NearSpell$Reader", "readWord", "()V"⟩ ⟨"NearSpell$Reader", "readWord", "()V"⟩) ∈ wTs := wmem (i := 11) (by decide +kernel) (by decide +kernel)
set_option maxRecDepth 20000 in
theorem wm12 : (Cond.selects "NearSpell$Reader" ⟨"NearSpell$Reader", "readNumber", "(II)I"⟩ ⟨"NearSpell$Reader", "readNumber", "(II)I"⟩) ∈ wTs := wmem (i := 12) (by decide +kernel) (by decide +kernel)
set_option maxRecDepth 20000 in
theorem wm13 : (Cond.selects "NearSpell$Reader" ⟨"NearSpell$Reader", "readEither", "(I)V"⟩ ⟨"NearSpell$Reader", "readEither", "(I)V"⟩) ∈ wTs := wmem (i := 13) (by decide +kernel) (by decide +kernel)
set_option maxRecDepth 20000 in
theorem wm14 : (Cond.selects "NearSpell$Reader" ⟨"NearSpell$Reader", "readBoth", "(I)V"⟩ ⟨"NearSpell$Reader", "readBoth", "(I)V"⟩) ∈ wTs := wmem (i := 14) (by decide +kernel) (by decide +kernel)
set_option maxRecDepth 20000 in
theorem wm15 : (Cond.selects "NearSpell$Reader" ⟨"NearSpell$Reader", "readOne", "(I)V"⟩ ⟨"NearSpell$Reader", "readOne", "(I)V"⟩) ∈ wTs := wmem (i := 15) (by decide +kernel) (by decide +kernel)
set_option maxRecDepth 20000 in
theorem wm16 : (Cond.selects "NearSpell$Reader" ⟨"NearSpell$Reader", "readSum", "(I)V"⟩ ⟨"NearSpell$Reader", "readSum", "(I)V"⟩) ∈ wTs := wmem (i := 16) (by decide +kernel) (by decide +kernel)
set_option maxRecDepth 20000 in
theorem wm17 : (Cond.selects "NearSpell$Reader" ⟨"NearSpell$Reader", "readTerm", "(I)V"⟩ ⟨"NearSpell$Reader", "readTerm", "(I)V"⟩) ∈ wTs := wmem (i := 17) (by decide +kernel) (by decide +kernel)
set_option maxRecDepth 20000 in
theorem wm18 : (Cond.selects "NearSpell$Reader" ⟨"NearSpell$Reader", "readUnit", "(I)V"⟩ ⟨"NearSpell$Reader", "readUnit", "(I)V"⟩) ∈ wTs := wmem (i := 18) (by decide +kernel) (by decide +kernel)
set_option maxRecDepth 20000 in
theorem wm19 : (Cond.selects "NearSpell$Reader" ⟨"NearSpell$Reader", "expect", "(I)V"⟩ ⟨"NearSpell$Reader", "expect", "(I)V"⟩) ∈ wTs := wmem (i := 19) (by decide +kernel) (by decide +kernel)
set_option maxRecDepth 20000 in
theorem wm20 : (Cond.selects "NearSpell$Archive" ⟨"NearSpell$Archive", "keepRow", "(LNearSpell$State;)V"⟩ ⟨"NearSpell$Archive", "keepRow", "(LNearSpell$State;)V"⟩) ∈ wTs := wmem (i := 20) (by decide +kernel) (by decide +kernel)
set_option maxRecDepth 20000 in
theorem wm21 : (Cond.selects "NearSpell$Archive" ⟨"NearSpell$Archive", "rowPlace", "()I"⟩ ⟨"NearSpell$Archive", "rowPlace", "()I"⟩) ∈ wTs := wmem (i := 21) (by decide +kernel) (by decide +kernel)
set_option maxRecDepth 20000 in
theorem wm22 : (Cond.selects "NearSpell$FormList" ⟨"NearSpell$FormList", "add", "(I)V"⟩ ⟨"NearSpell$FormList", "add", "(I)V"⟩) ∈ wTs := wmem (i := 22) (by decide +kernel) (by decide +kernel)
set_option maxRecDepth 20000 in
theorem wm23 : (Cond.selects "NearSpell$FormList" ⟨"NearSpell$FormList", "shorten", "(I)V"⟩ ⟨"NearSpell$FormList", "shorten", "(I)V"⟩) ∈ wTs := wmem (i := 23) (by decide +kernel) (by decide +kernel)
set_option maxRecDepth 20000 in
theorem wm24 : (Cond.selects "NearSpell$Ruler" ⟨"NearSpell$Ruler", "fillRow", "(I)V"⟩ ⟨"NearSpell$Ruler", "fillRow", "(I)V"⟩) ∈ wTs := wmem (i := 24) (by decide +kernel) (by decide +kernel)
set_option maxRecDepth 20000 in
theorem wm25 : (Cond.selects "NearSpell$Finder" ⟨"NearSpell$Finder", "firstOf", "(I)I"⟩ ⟨"NearSpell$Finder", "firstOf", "(I)I"⟩) ∈ wTs := wmem (i := 25) (by decide +kernel) (by decide +kernel)
set_option maxRecDepth 20000 in
theorem wm26 : (Cond.selects "NearSpell$Finder" ⟨"NearSpell$Finder", "comesAhead", "(II)Z"⟩ ⟨"NearSpell$Finder", "comesAhead", "(II)Z"⟩) ∈ wTs := wmem (i := 26) (by decide +kernel) (by decide +kernel)
set_option maxRecDepth 20000 in
theorem wm27 : (Cond.selects "NearSpell$Archive" ⟨"NearSpell$Archive", "fetchRow", "(LNearSpell$State;)V"⟩ ⟨"NearSpell$Archive", "fetchRow", "(LNearSpell$State;)V"⟩) ∈ wTs := wmem (i := 27) (by decide +kernel) (by decide +kernel)
set_option maxRecDepth 20000 in
theorem wm28 : (Cond.selects "NearSpell$Book" ⟨"NearSpell$Book", "work", "(I)I"⟩ ⟨"NearSpell$Book", "work", "(I)I"⟩) ∈ wTs := wmem (i := 28) (by decide +kernel) (by decide +kernel)
set_option maxRecDepth 20000 in
theorem wm29 : (Cond.selects "NearSpell$Book" ⟨"NearSpell$Book", "push", "(I)V"⟩ ⟨"NearSpell$Book", "push", "(I)V"⟩) ∈ wTs := wmem (i := 29) (by decide +kernel) (by decide +kernel)
set_option maxRecDepth 20000 in
theorem wm30 : (Cond.selects "NearSpell$Book" ⟨"NearSpell$Book", "pop", "()I"⟩ ⟨"NearSpell$Book", "pop", "()I"⟩) ∈ wTs := wmem (i := 30) (by decide +kernel) (by decide +kernel)
set_option maxRecDepth 20000 in
theorem wm31 : (Cond.selects "NearSpell$Pieces" ⟨"NearSpell$Pieces", "weighTwo", "(II)V"⟩ ⟨"NearSpell$Pieces", "weighTwo", "(II)V"⟩) ∈ wTs := wmem (i := 31) (by decide +kernel) (by decide +kernel)
set_option maxRecDepth 20000 in
theorem wm32 : (Cond.selects "NearSpell$Pieces" ⟨"NearSpell$Pieces", "note", "(III)V"⟩ ⟨"NearSpell$Pieces", "note", "(III)V"⟩) ∈ wTs := wmem (i := 32) (by decide +kernel) (by decide +kernel)
set_option maxRecDepth 20000 in
theorem wm33 : (Cond.selects "NearSpell$Pieces" ⟨"NearSpell$Pieces", "weighSingle", "()V"⟩ ⟨"NearSpell$Pieces", "weighSingle", "()V"⟩) ∈ wTs := wmem (i := 33) (by decide +kernel) (by decide +kernel)
set_option maxRecDepth 20000 in
theorem wm34 : (Cond.selects "NearSpell$Pieces" ⟨"NearSpell$Pieces", "weighTyped", "(I)V"⟩ ⟨"NearSpell$Pieces", "weighTyped", "(I)V"⟩) ∈ wTs := wmem (i := 34) (by decide +kernel) (by decide +kernel)
set_option maxRecDepth 20000 in
theorem wm35 : (Cond.selects "NearSpell$Pieces" ⟨"NearSpell$Pieces", "takeJoined", "(I)V"⟩ ⟨"NearSpell$Pieces", "takeJoined", "(I)V"⟩) ∈ wTs := wmem (i := 35) (by decide +kernel) (by decide +kernel)
set_option maxRecDepth 20000 in
theorem wm36 : (Cond.selects "NearSpell$Web" ⟨"NearSpell$Web", "measure", "()V"⟩ ⟨"NearSpell$Web", "measure", "()V"⟩) ∈ wTs := wmem (i := 36) (by decide +kernel) (by decide +kernel)
set_option maxRecDepth 20000 in
theorem wm37 : (Cond.selects "NearSpell$Web" ⟨"NearSpell$Web", "isIn", "(II)Z"⟩ ⟨"NearSpell$Web", "isIn", "(II)Z"⟩) ∈ wTs := wmem (i := 37) (by decide +kernel) (by decide +kernel)
set_option maxRecDepth 20000 in
theorem wm38 : (Cond.selects "NearSpell$Web" ⟨"NearSpell$Web", "link", "(I)V"⟩ ⟨"NearSpell$Web", "link", "(I)V"⟩) ∈ wTs := wmem (i := 38) (by decide +kernel) (by decide +kernel)
set_option maxRecDepth 20000 in
theorem wm39 : (Cond.selects "NearSpell$Web" ⟨"NearSpell$Web", "hangingTo", "(I)I"⟩ ⟨"NearSpell$Web", "hangingTo", "(I)I"⟩) ∈ wTs := wmem (i := 39) (by decide +kernel) (by decide +kernel)
set_option maxRecDepth 20000 in
theorem wm40 : (Cond.selects "NearSpell$Web" ⟨"NearSpell$Web", "stepOn", "(I)I"⟩ ⟨"NearSpell$Web", "stepOn", "(I)I"⟩) ∈ wTs := wmem (i := 40) (by decide +kernel) (by decide +kernel)
set_option maxRecDepth 20000 in
theorem wm41 : (Cond.selects "NearSpell$Web" ⟨"NearSpell$Web", "mostOf", "(II)I"⟩ ⟨"NearSpell$Web", "mostOf", "(II)I"⟩) ∈ wTs := wmem (i := 41) (by decide +kernel) (by decide +kernel)
set_option maxRecDepth 20000 in
theorem wm42 : (Cond.selects "NearSpell$Web" ⟨"NearSpell$Web", "sumFrom", "(I)I"⟩ ⟨"NearSpell$Web", "sumFrom", "(I)I"⟩) ∈ wTs := wmem (i := 42) (by decide +kernel) (by decide +kernel)
set_option maxRecDepth 20000 in
theorem wm43 : (Cond.selects "NearSpell$Laid" ⟨"NearSpell$Laid", "tally", "(Z)V"⟩ ⟨"NearSpell$Laid", "tally", "(Z)V"⟩) ∈ wTs := wmem (i := 43) (by decide +kernel) (by decide +kernel)
set_option maxRecDepth 20000 in
theorem wm44 : (Cond.selects "NearSpell$Laid" ⟨"NearSpell$Laid", "refresh", "()V"⟩ ⟨"NearSpell$Laid", "refresh", "()V"⟩) ∈ wTs := wmem (i := 44) (by decide +kernel) (by decide +kernel)
set_option maxRecDepth 20000 in
theorem wm45 : (Cond.selects "NearSpell$Laid" ⟨"NearSpell$Laid", "tallyEntry", "(IZ)V"⟩ ⟨"NearSpell$Laid", "tallyEntry", "(IZ)V"⟩) ∈ wTs := wmem (i := 45) (by decide +kernel) (by decide +kernel)
set_option maxRecDepth 20000 in
theorem wm46 : (Cond.selects "NearSpell$Laid" ⟨"NearSpell$Laid", "isOfOthers", "(III)Z"⟩ ⟨"NearSpell$Laid", "isOfOthers", "(III)Z"⟩) ∈ wTs := wmem (i := 46) (by decide +kernel) (by decide +kernel)
set_option maxRecDepth 20000 in
theorem wm47 : (Cond.selects "NearSpell$Laid" ⟨"NearSpell$Laid", "countOwn", "(I)I"⟩ ⟨"NearSpell$Laid", "countOwn", "(I)I"⟩) ∈ wTs := wmem (i := 47) (by decide +kernel) (by decide +kernel)
set_option maxRecDepth 20000 in
theorem wm48 : (Cond.selects "NearSpell$Witness" ⟨"NearSpell$Witness", "isFitting", "(II)Z"⟩ ⟨"NearSpell$Witness", "isFitting", "(II)Z"⟩) ∈ wTs := wmem (i := 48) (by decide +kernel) (by decide +kernel)
set_option maxRecDepth 20000 in
theorem wm49 : (Cond.selects "NearSpell$Witness" ⟨"NearSpell$Witness", "countsAt", "(II)Z"⟩ ⟨"NearSpell$Witness", "countsAt", "(II)Z"⟩) ∈ wTs := wmem (i := 49) (by decide +kernel) (by decide +kernel)
set_option maxRecDepth 20000 in
theorem wm50 : (Cond.selects "NearSpell$Witness" ⟨"NearSpell$Witness", "mostLeftBy", "(II)I"⟩ ⟨"NearSpell$Witness", "mostLeftBy", "(II)I"⟩) ∈ wTs := wmem (i := 50) (by decide +kernel) (by decide +kernel)
set_option maxRecDepth 20000 in
theorem wm51 : (Cond.selects "NearSpellModel" ⟨"NearSpellModel", "clearBank", "()V"⟩ ⟨"NearSpellModel", "clearBank", "()V"⟩) ∈ wTs := wmem (i := 51) (by decide +kernel) (by decide +kernel)
set_option maxRecDepth 20000 in
theorem wm52 : (Cond.selects "NearSpellModel" ⟨"NearSpellModel", "startAnew", "()V"⟩ ⟨"NearSpellModel", "startAnew", "()V"⟩) ∈ wTs := wmem (i := 52) (by decide +kernel) (by decide +kernel)
set_option maxRecDepth 20000 in
theorem wm53 : (Cond.selects "NearSpellModel" ⟨"NearSpellModel", "goOn", "()V"⟩ ⟨"NearSpellModel", "goOn", "()V"⟩) ∈ wTs := wmem (i := 53) (by decide +kernel) (by decide +kernel)
set_option maxRecDepth 20000 in
theorem wm54 : (Cond.selects "NearSpellModel" ⟨"NearSpellModel", "sign", "(I)I"⟩ ⟨"NearSpellModel", "sign", "(I)I"⟩) ∈ wTs := wmem (i := 54) (by decide +kernel) (by decide +kernel)
set_option maxRecDepth 20000 in
theorem wm55 : (Cond.selects "NearSpellModel" ⟨"NearSpellModel", "isGood", "()Z"⟩ ⟨"NearSpellModel", "isGood", "()Z"⟩) ∈ wTs := wmem (i := 55) (by decide +kernel) (by decide +kernel)
set_option maxRecDepth 20000 in
theorem wm56 : (Cond.selects "NearSpellModel" ⟨"NearSpellModel", "readLine", "()V"⟩ ⟨"NearSpellModel", "readLine", "()V"⟩) ∈ wTs := wmem (i := 56) (by decide +kernel) (by decide +kernel)
set_option maxRecDepth 20000 in
theorem wm57 : (Cond.selects "NearSpellModel" ⟨"NearSpellModel", "isFull", "()Z"⟩ ⟨"NearSpellModel", "isFull", "()Z"⟩) ∈ wTs := wmem (i := 57) (by decide +kernel) (by decide +kernel)
set_option maxRecDepth 20000 in
theorem wm58 : (Cond.selects "NearSpellModel" ⟨"NearSpellModel", "isWord", "(J)Z"⟩ ⟨"NearSpellModel", "isWord", "(J)Z"⟩) ∈ wTs := wmem (i := 58) (by decide +kernel) (by decide +kernel)
set_option maxRecDepth 20000 in
theorem wm59 : (Cond.selects "NearSpellModel" ⟨"NearSpellModel", "misplaced", "()V"⟩ ⟨"NearSpellModel", "misplaced", "()V"⟩) ∈ wTs := wmem (i := 59) (by decide +kernel) (by decide +kernel)
set_option maxRecDepth 20000 in
theorem wm60 : (Cond.selects "NearSpellModel" ⟨"NearSpellModel", "fails", "(II)V"⟩ ⟨"NearSpellModel", "fails", "(II)V"⟩) ∈ wTs := wmem (i := 60) (by decide +kernel) (by decide +kernel)
set_option maxRecDepth 20000 in
theorem wm61 : (Cond.selects "NearSpellModel" ⟨"NearSpellModel", "readWord", "()V"⟩ ⟨"NearSpellModel", "readWord", "()V"⟩) ∈ wTs := wmem (i := 61) (by decide +kernel) (by decide +kernel)
set_option maxRecDepth 20000 in
theorem wm62 : (Cond.selects "NearSpellModel" ⟨"NearSpellModel", "must", "(Z)V"⟩ ⟨"NearSpellModel", "must", "(Z)V"⟩) ∈ wTs := wmem (i := 62) (by decide +kernel) (by decide +kernel)
set_option maxRecDepth 20000 in
theorem wm63 : (Cond.selects "NearSpellModel" ⟨"NearSpellModel", "numeral", "(II)I"⟩ ⟨"NearSpellModel", "numeral", "(II)I"⟩) ∈ wTs := wmem (i := 63) (by decide +kernel) (by decide +kernel)
set_option maxRecDepth 20000 in
theorem wm64 : (Cond.selects "NearSpellModel" ⟨"NearSpellModel", "once", "(III)I"⟩ ⟨"NearSpellModel", "once", "(III)I"⟩) ∈ wTs := wmem (i := 64) (by decide +kernel) (by decide +kernel)
set_option maxRecDepth 20000 in
theorem wm65 : (Cond.selects "NearSpellModel" ⟨"NearSpellModel", "readRule", "()V"⟩ ⟨"NearSpellModel", "readRule", "()V"⟩) ∈ wTs := wmem (i := 65) (by decide +kernel) (by decide +kernel)
set_option maxRecDepth 20000 in
theorem wm69 : (Cond.selects "NearSpellModel" ⟨"NearSpellModel", "isSignHere", "(I)Z"⟩ ⟨"NearSpellModel", "isSignHere", "(I)Z"⟩) ∈ wTs := wmem (i := 69) (by decide +kernel) (by decide +kernel)
set_option maxRecDepth 20000 in
theorem wm75 : (Cond.selects "NearSpellModel" ⟨"NearSpellModel", "isEntry", "(I)Z"⟩ ⟨"NearSpellModel", "isEntry", "(I)Z"⟩) ∈ wTs := wmem (i := 75) (by decide +kernel) (by decide +kernel)
set_option maxRecDepth 20000 in
theorem wm76 : (Cond.selects "NearSpellModel" ⟨"NearSpellModel", "errorsNow", "()I"⟩ ⟨"NearSpellModel", "errorsNow", "()I"⟩) ∈ wTs := wmem (i := 76) (by decide +kernel) (by decide +kernel)
set_option maxRecDepth 20000 in
theorem wm77 : (Cond.selects "NearSpellModel" ⟨"NearSpellModel", "layForms", "(II)V"⟩ ⟨"NearSpellModel", "layForms", "(II)V"⟩) ∈ wTs := wmem (i := 77) (by decide +kernel) (by decide +kernel)
set_option maxRecDepth 20000 in
theorem wm78 : (Cond.selects "NearSpellModel" ⟨"NearSpellModel", "insertForm", "(I)V"⟩ ⟨"NearSpellModel", "insertForm", "(I)V"⟩) ∈ wTs := wmem (i := 78) (by decide +kernel) (by decide +kernel)
set_option maxRecDepth 20000 in
theorem wm79 : (Cond.selects "NearSpellModel" ⟨"NearSpellModel", "apart", "(II)I"⟩ ⟨"NearSpellModel", "apart", "(II)I"⟩) ∈ wTs := wmem (i := 79) (by decide +kernel) (by decide +kernel)
set_option maxRecDepth 20000 in
theorem wm80 : (Cond.selects "NearSpellModel" ⟨"NearSpellModel", "layOne", "(II)V"⟩ ⟨"NearSpellModel", "layOne", "(II)V"⟩) ∈ wTs := wmem (i := 80) (by decide +kernel) (by decide +kernel)
set_option maxRecDepth 20000 in
theorem wm81 : (Cond.selects "NearSpellModel" ⟨"NearSpellModel", "layTwo", "(II)V"⟩ ⟨"NearSpellModel", "layTwo", "(II)V"⟩) ∈ wTs := wmem (i := 81) (by decide +kernel) (by decide +kernel)
set_option maxRecDepth 20000 in
theorem wm82 : (Cond.selects "NearSpellModel" ⟨"NearSpellModel", "stepsNow", "()I"⟩ ⟨"NearSpellModel", "stepsNow", "()I"⟩) ∈ wTs := wmem (i := 82) (by decide +kernel) (by decide +kernel)
set_option maxRecDepth 20000 in
theorem wm86 : (Cond.selects "NearSpellModel" ⟨"NearSpellModel", "bucketOf", "(I)I"⟩ ⟨"NearSpellModel", "bucketOf", "(I)I"⟩) ∈ wTs := wmem (i := 86) (by decide +kernel) (by decide +kernel)
set_option maxRecDepth 20000 in
theorem wm87 : (Cond.selects "NearSpellModel" ⟨"NearSpellModel", "comes", "()I"⟩ ⟨"NearSpellModel", "comes", "()I"⟩) ∈ wTs := wmem (i := 87) (by decide +kernel) (by decide +kernel)
set_option maxRecDepth 20000 in
theorem wm89 : (Cond.selects "NearSpellModel" ⟨"NearSpellModel", "metBy", "(II)I"⟩ ⟨"NearSpellModel", "metBy", "(II)I"⟩) ∈ wTs := wmem (i := 89) (by decide +kernel) (by decide +kernel)
set_option maxRecDepth 20000 in
theorem wm90 : (Cond.selects "NearSpellModel" ⟨"NearSpellModel", "layStore", "(I)I"⟩ ⟨"NearSpellModel", "layStore", "(I)I"⟩) ∈ wTs := wmem (i := 90) (by decide +kernel) (by decide +kernel)
set_option maxRecDepth 20000 in
theorem wm91 : (Cond.selects "NearSpellModel" ⟨"NearSpellModel", "bucketsOf", "(I)I"⟩ ⟨"NearSpellModel", "bucketsOf", "(I)I"⟩) ∈ wTs := wmem (i := 91) (by decide +kernel) (by decide +kernel)
set_option maxRecDepth 20000 in
theorem wm92 : (Cond.selects "NearSpellModel" ⟨"NearSpellModel", "hasForm", "(II)Z"⟩ ⟨"NearSpellModel", "hasForm", "(II)Z"⟩) ∈ wTs := wmem (i := 92) (by decide +kernel) (by decide +kernel)
set_option maxRecDepth 20000 in
theorem wm93 : (Cond.selects "NearSpellModel" ⟨"NearSpellModel", "entriesNow", "()I"⟩ ⟨"NearSpellModel", "entriesNow", "()I"⟩) ∈ wTs := wmem (i := 93) (by decide +kernel) (by decide +kernel)
set_option maxRecDepth 20000 in
theorem wm94 : (Cond.selects "NearSpellModel" ⟨"NearSpellModel", "layFar", "(I)V"⟩ ⟨"NearSpellModel", "layFar", "(I)V"⟩) ∈ wTs := wmem (i := 94) (by decide +kernel) (by decide +kernel)
set_option maxRecDepth 20000 in
theorem wm95 : (Cond.selects "NearSpellModel" ⟨"NearSpellModel", "within", "(II)I"⟩ ⟨"NearSpellModel", "within", "(II)I"⟩) ∈ wTs := wmem (i := 95) (by decide +kernel) (by decide +kernel)
set_option maxRecDepth 20000 in
theorem wm96 : (Cond.selects "NearSpellModel" ⟨"NearSpellModel", "nearestTo", "(I)I"⟩ ⟨"NearSpellModel", "nearestTo", "(I)I"⟩) ∈ wTs := wmem (i := 96) (by decide +kernel) (by decide +kernel)
set_option maxRecDepth 20000 in
theorem wm97 : (Cond.selects "NearSpellModel" ⟨"NearSpellModel", "nearestOf", "(I)I"⟩ ⟨"NearSpellModel", "nearestOf", "(I)I"⟩) ∈ wTs := wmem (i := 97) (by decide +kernel) (by decide +kernel)
set_option maxRecDepth 20000 in
theorem wm98 : (Cond.selects "NearSpellModel" ⟨"NearSpellModel", "layReadings", "()V"⟩ ⟨"NearSpellModel", "layReadings", "()V"⟩) ∈ wTs := wmem (i := 98) (by decide +kernel) (by decide +kernel)
set_option maxRecDepth 20000 in
theorem wm99 : (Cond.selects "NearSpellModel" ⟨"NearSpellModel", "readOne", "(I)V"⟩ ⟨"NearSpellModel", "readOne", "(I)V"⟩) ∈ wTs := wmem (i := 99) (by decide +kernel) (by decide +kernel)
set_option maxRecDepth 20000 in
theorem wm100 : (Cond.selects "NearSpellModel" ⟨"NearSpellModel", "reads", "(III)V"⟩ ⟨"NearSpellModel", "reads", "(III)V"⟩) ∈ wTs := wmem (i := 100) (by decide +kernel) (by decide +kernel)
set_option maxRecDepth 20000 in
theorem wm101 : (Cond.selects "NearSpellModel" ⟨"NearSpellModel", "readTwo", "(I)V"⟩ ⟨"NearSpellModel", "readTwo", "(I)V"⟩) ∈ wTs := wmem (i := 101) (by decide +kernel) (by decide +kernel)
set_option maxRecDepth 20000 in
theorem wm102 : (Cond.selects "NearSpellModel" ⟨"NearSpellModel", "layApart", "()V"⟩ ⟨"NearSpellModel", "layApart", "()V"⟩) ∈ wTs := wmem (i := 102) (by decide +kernel) (by decide +kernel)
set_option maxRecDepth 20000 in
theorem wm103 : (Cond.selects "NearSpellModel" ⟨"NearSpellModel", "apartFrom", "(II)I"⟩ ⟨"NearSpellModel", "apartFrom", "(II)I"⟩) ∈ wTs := wmem (i := 103) (by decide +kernel) (by decide +kernel)
set_option maxRecDepth 20000 in
theorem wm104 : (Cond.selects "NearSpellModel" ⟨"NearSpellModel", "layNear", "(I)V"⟩ ⟨"NearSpellModel", "layNear", "(I)V"⟩) ∈ wTs := wmem (i := 104) (by decide +kernel) (by decide +kernel)
set_option maxRecDepth 20000 in
theorem wm105 : (Cond.selects "NearSpellModel" ⟨"NearSpellModel", "oneStep", "(I)I"⟩ ⟨"NearSpellModel", "oneStep", "(I)I"⟩) ∈ wTs := wmem (i := 105) (by decide +kernel) (by decide +kernel)
set_option maxRecDepth 20000 in
theorem wm106 : (Cond.selects "NearSpellModel" ⟨"NearSpellModel", "areFar", "(I)Z"⟩ ⟨"NearSpellModel", "areFar", "(I)Z"⟩) ∈ wTs := wmem (i := 106) (by decide +kernel) (by decide +kernel)
set_option maxRecDepth 20000 in
theorem wm107 : (Cond.selects "NearSpellModel" ⟨"NearSpellModel", "loadOf", "(I)I"⟩ ⟨"NearSpellModel", "loadOf", "(I)I"⟩) ∈ wTs := wmem (i := 107) (by decide +kernel) (by decide +kernel)
set_option maxRecDepth 20000 in
theorem wm108 : (Cond.selects "NearSpellModel" ⟨"NearSpellModel", "isElsewhere", "(III)Z"⟩ ⟨"NearSpellModel", "isElsewhere", "(III)Z"⟩) ∈ wTs := wmem (i := 108) (by decide +kernel) (by decide +kernel)
set_option maxRecDepth 20000 in
theorem wm109 : (Cond.selects "NearSpellModel" ⟨"NearSpellModel", "isSpelled", "(I)Z"⟩ ⟨"NearSpellModel", "isSpelled", "(I)Z"⟩) ∈ wTs := wmem (i := 109) (by decide +kernel) (by decide +kernel)
set_option maxRecDepth 20000 in
theorem wm110 : (Cond.selects "NearSpellModel" ⟨"NearSpellModel", "keepAct", "()V"⟩ ⟨"NearSpellModel", "keepAct", "()V"⟩) ∈ wTs := wmem (i := 110) (by decide +kernel) (by decide +kernel)
set_option maxRecDepth 20000 in
theorem wm111 : (Cond.selects "NearSpellModel" ⟨"NearSpellModel", "swapAll", "()V"⟩ ⟨"NearSpellModel", "swapAll", "()V"⟩) ∈ wTs := wmem (i := 111) (by decide +kernel) (by decide +kernel)
set_option maxRecDepth 20000 in
theorem wm112 : (Cond.selects "NearSpellModel" ⟨"NearSpellModel", "doesFit", "(II)Z"⟩ ⟨"NearSpellModel", "doesFit", "(II)Z"⟩) ∈ wTs := wmem (i := 112) (by decide +kernel) (by decide +kernel)
set_option maxRecDepth 20000 in
theorem wm113 : (Cond.selects "NearSpellModel" ⟨"NearSpellModel", "doesCount", "(II)Z"⟩ ⟨"NearSpellModel", "doesCount", "(II)Z"⟩) ∈ wTs := wmem (i := 113) (by decide +kernel) (by decide +kernel)
set_option maxRecDepth 20000 in
theorem wm114 : (Cond.selects "NearSpellModel" ⟨"NearSpellModel", "wordOf", "(I)I"⟩ ⟨"NearSpellModel", "wordOf", "(I)I"⟩) ∈ wTs := wmem (i := 114) (by decide +kernel) (by decide +kernel)
set_option maxRecDepth 20000 in
theorem wm115 : (Cond.selects "NearSpellModel" ⟨"NearSpellModel", "mostBehind", "(II)I"⟩ ⟨"NearSpellModel", "mostBehind", "(II)I"⟩) ∈ wTs := wmem (i := 115) (by decide +kernel) (by decide +kernel)
set_option maxRecDepth 20000 in
theorem wm117 : (Jvm.Cond.initialized "NearSpell") ∈ wTs := wmem (i := 117) (by decide +kernel) (by decide +kernel)
set_option maxRecDepth 20000 in
theorem wm118 : (Jvm.Cond.initialized "NearSpell$Book") ∈ wTs := wmem (i := 118) (by decide +kernel) (by decide +kernel)
set_option maxRecDepth 20000 in
theorem wm119 : (Jvm.Cond.initialized "NearSpell$Reader") ∈ wTs := wmem (i := 119) (by decide +kernel) (by decide +kernel)
set_option maxRecDepth 20000 in
theorem wm120 : (Jvm.Cond.initialized "NearSpell$State") ∈ wTs := wmem (i := 120) (by decide +kernel) (by decide +kernel)
set_option maxRecDepth 20000 in
theorem wm121 : (Jvm.Cond.initialized "NearSpell$Archive") ∈ wTs := wmem (i := 121) (by decide +kernel) (by decide +kernel)
set_option maxRecDepth 20000 in
theorem wm122 : (Jvm.Cond.initialized "NearSpell$Ruler") ∈ wTs := wmem (i := 122) (by decide +kernel) (by decide +kernel)
set_option maxRecDepth 20000 in
theorem wm123 : (Jvm.Cond.initialized "NearSpell$Laid") ∈ wTs := wmem (i := 123) (by decide +kernel) (by decide +kernel)
set_option maxRecDepth 20000 in
theorem wm124 : (Jvm.Cond.initialized "NearSpell$FormList") ∈ wTs := wmem (i := 124) (by decide +kernel) (by decide +kernel)
set_option maxRecDepth 20000 in
theorem wm125 : (Jvm.Cond.initialized "NearSpell$Finder") ∈ wTs := wmem (i := 125) (by decide +kernel) (by decide +kernel)
set_option maxRecDepth 20000 in
theorem wm126 : (Jvm.Cond.initialized "NearSpell$Pieces") ∈ wTs := wmem (i := 126) (by decide +kernel) (by decide +kernel)
set_option maxRecDepth 20000 in
theorem wm127 : (Jvm.Cond.initialized "NearSpell$Web") ∈ wTs := wmem (i := 127) (by decide +kernel) (by decide +kernel)
set_option maxRecDepth 20000 in
theorem wm128 : (Jvm.Cond.initialized "NearSpell$Witness") ∈ wTs := wmem (i := 128) (by decide +kernel) (by decide +kernel)
set_option maxRecDepth 20000 in
theorem wm129 : (Jvm.Cond.initialized "NearSpellModel") ∈ wTs := wmem (i := 129) (by decide +kernel) (by decide +kernel)
set_option maxRecDepth 20000 in
theorem wm130 : (Jvm.Cond.initialized "java/lang/Math") ∈ wTs := wmem (i := 130) (by decide +kernel) (by decide +kernel)
set_option maxRecDepth 20000 in
theorem wm131 : (Jvm.Cond.initialized "java/lang/String") ∈ wTs := wmem (i := 131) (by decide +kernel) (by decide +kernel)
set_option maxRecDepth 20000 in
theorem wm132 : (Jvm.Cond.initialized "java/lang/StringLatin1") ∈ wTs := wmem (i := 132) (by decide +kernel) (by decide +kernel)
set_option maxRecDepth 20000 in
theorem wm133 : (Jvm.Cond.initialized "jdk/internal/util/Preconditions") ∈ wTs := wmem (i := 133) (by decide +kernel) (by decide +kernel)
set_option maxRecDepth 20000 in
theorem wm136 : (Jvm.Cond.initialized "java/lang/System") ∈ wTs := wmem (i := 136) (by decide +kernel) (by decide +kernel)
set_option maxRecDepth 20000 in
theorem wm137 : (Jvm.Cond.initialized "java/lang/Integer") ∈ wTs := wmem (i := 137) (by decide +kernel) (by decide +kernel)
set_option maxRecDepth 20000 in
theorem wm153 : (Jvm.Cond.instanceMethod ({ cls := "NearSpell$Book", name := "reset", desc := "()V" } : Jvm.MethodName)) ∈ wTs := wmem (i := 153) (by decide +kernel) (by decide +kernel)
set_option maxRecDepth 20000 in
theorem wm154 : (Jvm.Cond.selects "NearSpell$Book" ({ cls := "NearSpell$Book", name := "reset", desc := "()V" } : Jvm.MethodName) ({ cls := "NearSpell$Book", name := "reset", desc := "()V" } : Jvm.MethodName)) ∈ wTs := wmem (i := 154) (by decide +kernel) (by decide +kernel)
set_option maxRecDepth 20000 in
theorem wm155 : (Jvm.Cond.code ({ cls := "NearSpell$Book", name := "reset", desc := "()V" } : Jvm.MethodName) prog_3_method_2_code (1 : Nat) (Option.none : Option Jvm.ClassFile.FieldType)) ∈ wTs := wmem (i := 155) (by decide +kernel) (by decide +kernel)
set_option maxRecDepth 20000 in
theorem wm156 : (Jvm.Cond.fieldLink "NearSpell$Book" (9 : Nat) "NearSpell$Book" "names" "[I") ∈ wTs := wmem (i := 156) (by decide +kernel) (by decide +kernel)
set_option maxRecDepth 20000 in
theorem wm157 : (Jvm.Cond.fieldLink "NearSpell$State" (21 : Nat) "NearSpell$Book" "names" "[I") ∈ wTs := wmem (i := 157) (by decide +kernel) (by decide +kernel)
set_option maxRecDepth 20000 in
theorem wm158 : (Jvm.Cond.fieldLink "NearSpell$Witness" (52 : Nat) "NearSpell$Book" "names" "[I") ∈ wTs := wmem (i := 158) (by decide +kernel) (by decide +kernel)
set_option maxRecDepth 20000 in
theorem wm159 : (Jvm.Cond.fieldLink "NearSpell$Book" (15 : Nat) "NearSpell$Book" "uses" "[I") ∈ wTs := wmem (i := 159) (by decide +kernel) (by decide +kernel)
set_option maxRecDepth 20000 in
theorem wm160 : (Jvm.Cond.fieldLink "NearSpell$State" (24 : Nat) "NearSpell$Book" "uses" "[I") ∈ wTs := wmem (i := 160) (by decide +kernel) (by decide +kernel)
set_option maxRecDepth 20000 in
theorem wm161 : (Jvm.Cond.fieldLink "NearSpell$Book" (18 : Nat) "NearSpell$Book" "steps" "[I") ∈ wTs := wmem (i := 161) (by decide +kernel) (by decide +kernel)
set_option maxRecDepth 20000 in
theorem wm162 : (Jvm.Cond.fieldLink "NearSpell$Book" (21 : Nat) "NearSpell$Book" "stack" "[I") ∈ wTs := wmem (i := 162) (by decide +kernel) (by decide +kernel)
set_option maxRecDepth 20000 in
theorem wm163 : (Jvm.Cond.fieldLink "NearSpell$Book" (27 : Nat) "NearSpell$Book" "words" "I") ∈ wTs := wmem (i := 163) (by decide +kernel) (by decide +kernel)
set_option maxRecDepth 20000 in
theorem wm164 : (Jvm.Cond.fieldLink "NearSpell$State" (15 : Nat) "NearSpell$Book" "words" "I") ∈ wTs := wmem (i := 164) (by decide +kernel) (by decide +kernel)
set_option maxRecDepth 20000 in
theorem wm165 : (Jvm.Cond.fieldLink "NearSpell$Witness" (47 : Nat) "NearSpell$Book" "words" "I") ∈ wTs := wmem (i := 165) (by decide +kernel) (by decide +kernel)
set_option maxRecDepth 20000 in
theorem wm166 : (Jvm.Cond.fieldLink "NearSpell" (132 : Nat) "NearSpell$Book" "words" "I") ∈ wTs := wmem (i := 166) (by decide +kernel) (by decide +kernel)
set_option maxRecDepth 20000 in
theorem wm167 : (Jvm.Cond.fieldLink "NearSpell$Reader" (93 : Nat) "NearSpell$Book" "words" "I") ∈ wTs := wmem (i := 167) (by decide +kernel) (by decide +kernel)
set_option maxRecDepth 20000 in
theorem wm168 : (Jvm.Cond.fieldLink "NearSpell$Book" (31 : Nat) "NearSpell$Book" "prefix" "I") ∈ wTs := wmem (i := 168) (by decide +kernel) (by decide +kernel)
set_option maxRecDepth 20000 in
theorem wm169 : (Jvm.Cond.fieldLink "NearSpell$Laid" (34 : Nat) "NearSpell$Book" "prefix" "I") ∈ wTs := wmem (i := 169) (by decide +kernel) (by decide +kernel)
set_option maxRecDepth 20000 in
theorem wm170 : (Jvm.Cond.fieldLink "NearSpell$Reader" (72 : Nat) "NearSpell$Book" "prefix" "I") ∈ wTs := wmem (i := 170) (by decide +kernel) (by decide +kernel)
set_option maxRecDepth 20000 in
theorem wm171 : (Jvm.Cond.fieldLink "NearSpell" (341 : Nat) "NearSpell$Book" "prefix" "I") ∈ wTs := wmem (i := 171) (by decide +kernel) (by decide +kernel)
set_option maxRecDepth 20000 in
theorem wm172 : (Jvm.Cond.fieldLink "NearSpell$Book" (34 : Nat) "NearSpell$Book" "errors" "I") ∈ wTs := wmem (i := 172) (by decide +kernel) (by decide +kernel)
set_option maxRecDepth 20000 in
theorem wm173 : (Jvm.Cond.fieldLink "NearSpell$Laid" (40 : Nat) "NearSpell$Book" "errors" "I") ∈ wTs := wmem (i := 173) (by decide +kernel) (by decide +kernel)
set_option maxRecDepth 20000 in
theorem wm174 : (Jvm.Cond.fieldLink "NearSpell$Reader" (75 : Nat) "NearSpell$Book" "errors" "I") ∈ wTs := wmem (i := 174) (by decide +kernel) (by decide +kernel)
set_option maxRecDepth 20000 in
theorem wm175 : (Jvm.Cond.fieldLink "NearSpell" (303 : Nat) "NearSpell$Book" "errors" "I") ∈ wTs := wmem (i := 175) (by decide +kernel) (by decide +kernel)
set_option maxRecDepth 20000 in
theorem wm176 : (Jvm.Cond.fieldLink "NearSpell$Book" (37 : Nat) "NearSpell$Book" "buckets" "I") ∈ wTs := wmem (i := 176) (by decide +kernel) (by decide +kernel)
set_option maxRecDepth 20000 in
theorem wm177 : (Jvm.Cond.fieldLink "NearSpell$Reader" (81 : Nat) "NearSpell$Book" "buckets" "I") ∈ wTs := wmem (i := 177) (by decide +kernel) (by decide +kernel)
set_option maxRecDepth 20000 in
theorem wm178 : (Jvm.Cond.fieldLink "NearSpell" (294 : Nat) "NearSpell$Book" "buckets" "I") ∈ wTs := wmem (i := 178) (by decide +kernel) (by decide +kernel)
set_option maxRecDepth 20000 in
theorem wm179 : (Jvm.Cond.fieldLink "NearSpell$Book" (40 : Nat) "NearSpell$Book" "slips" "I") ∈ wTs := wmem (i := 179) (by decide +kernel) (by decide +kernel)
set_option maxRecDepth 20000 in
theorem wm180 : (Jvm.Cond.fieldLink "NearSpell$Reader" (84 : Nat) "NearSpell$Book" "slips" "I") ∈ wTs := wmem (i := 180) (by decide +kernel) (by decide +kernel)
set_option maxRecDepth 20000 in
theorem wm181 : (Jvm.Cond.fieldLink "NearSpell" (192 : Nat) "NearSpell$Book" "slips" "I") ∈ wTs := wmem (i := 181) (by decide +kernel) (by decide +kernel)
set_option maxRecDepth 20000 in
theorem wm182 : (Jvm.Cond.fieldLink "NearSpell$Book" (43 : Nat) "NearSpell$Book" "draw" "I") ∈ wTs := wmem (i := 182) (by decide +kernel) (by decide +kernel)
set_option maxRecDepth 20000 in
theorem wm183 : (Jvm.Cond.fieldLink "NearSpell$State" (31 : Nat) "NearSpell$Book" "draw" "I") ∈ wTs := wmem (i := 183) (by decide +kernel) (by decide +kernel)
set_option maxRecDepth 20000 in
theorem wm184 : (Jvm.Cond.fieldLink "NearSpell$Reader" (87 : Nat) "NearSpell$Book" "draw" "I") ∈ wTs := wmem (i := 184) (by decide +kernel) (by decide +kernel)
set_option maxRecDepth 20000 in
theorem wm185 : (Jvm.Cond.fieldLink "NearSpell$Book" (46 : Nat) "NearSpell$Book" "units" "I") ∈ wTs := wmem (i := 185) (by decide +kernel) (by decide +kernel)
set_option maxRecDepth 20000 in
theorem wm186 : (Jvm.Cond.fieldLink "NearSpell$Reader" (124 : Nat) "NearSpell$Book" "units" "I") ∈ wTs := wmem (i := 186) (by decide +kernel) (by decide +kernel)
set_option maxRecDepth 20000 in
theorem wm187 : (Jvm.Cond.fieldLink "NearSpell" (357 : Nat) "NearSpell$Book" "units" "I") ∈ wTs := wmem (i := 187) (by decide +kernel) (by decide +kernel)
set_option maxRecDepth 20000 in
theorem wm188 : (Jvm.Cond.fieldLink "NearSpell$Book" (49 : Nat) "NearSpell$Book" "stepCount" "I") ∈ wTs := wmem (i := 188) (by decide +kernel) (by decide +kernel)
set_option maxRecDepth 20000 in
theorem wm189 : (Jvm.Cond.fieldLink "NearSpell$Book" (52 : Nat) "NearSpell$Book" "top" "I") ∈ wTs := wmem (i := 189) (by decide +kernel) (by decide +kernel)
set_option maxRecDepth 20000 in
theorem wm225 : (Jvm.Cond.fieldLink "NearSpell$Reader" (9 : Nat) "NearSpell$Reader" "text" "[B") ∈ wTs := wmem (i := 225) (by decide +kernel) (by decide +kernel)
set_option maxRecDepth 20000 in
theorem wm226 : (Jvm.Cond.fieldLink "NearSpell$Reader" (15 : Nat) "NearSpell$Reader" "draft" "LNearSpell$Book;") ∈ wTs := wmem (i := 226) (by decide +kernel) (by decide +kernel)
set_option maxRecDepth 20000 in
theorem wm227 : (Jvm.Cond.fieldLink "NearSpell$Reader" (37 : Nat) "NearSpell$Reader" "size" "I") ∈ wTs := wmem (i := 227) (by decide +kernel) (by decide +kernel)
set_option maxRecDepth 20000 in
theorem wm228 : (Jvm.Cond.fieldLink "NearSpell$Reader" (40 : Nat) "NearSpell$Reader" "at" "I") ∈ wTs := wmem (i := 228) (by decide +kernel) (by decide +kernel)
set_option maxRecDepth 20000 in
theorem wm229 : (Jvm.Cond.fieldLink "NearSpell$Reader" (55 : Nat) "NearSpell$Reader" "start" "I") ∈ wTs := wmem (i := 229) (by decide +kernel) (by decide +kernel)
set_option maxRecDepth 20000 in
theorem wm230 : (Jvm.Cond.fieldLink "NearSpell$Reader" (49 : Nat) "NearSpell$Reader" "token" "I") ∈ wTs := wmem (i := 230) (by decide +kernel) (by decide +kernel)
set_option maxRecDepth 20000 in
theorem wm231 : (Jvm.Cond.fieldLink "NearSpell$Reader" (96 : Nat) "NearSpell$Reader" "value" "I") ∈ wTs := wmem (i := 231) (by decide +kernel) (by decide +kernel)
set_option maxRecDepth 20000 in
theorem wm232 : (Jvm.Cond.fieldLink "NearSpell$Reader" (43 : Nat) "NearSpell$Reader" "linesTold" "I") ∈ wTs := wmem (i := 232) (by decide +kernel) (by decide +kernel)
set_option maxRecDepth 20000 in
theorem wm233 : (Jvm.Cond.fieldLink "NearSpell$Reader" (19 : Nat) "NearSpell$Reader" "faultKind" "I") ∈ wTs := wmem (i := 233) (by decide +kernel) (by decide +kernel)
set_option maxRecDepth 20000 in
theorem wm234 : (Jvm.Cond.fieldLink "NearSpell" (135 : Nat) "NearSpell$Reader" "faultKind" "I") ∈ wTs := wmem (i := 234) (by decide +kernel) (by decide +kernel)
set_option maxRecDepth 20000 in
theorem wm235 : (Jvm.Cond.fieldLink "NearSpell$Reader" (23 : Nat) "NearSpell$Reader" "faultPlace" "I") ∈ wTs := wmem (i := 235) (by decide +kernel) (by decide +kernel)
set_option maxRecDepth 20000 in
theorem wm236 : (Jvm.Cond.fieldLink "NearSpell" (138 : Nat) "NearSpell$Reader" "faultPlace" "I") ∈ wTs := wmem (i := 236) (by decide +kernel) (by decide +kernel)
set_option maxRecDepth 20000 in
theorem wm264 : (Jvm.Cond.fieldLink "NearSpell$State" (11 : Nat) "NearSpell$State" "cells" "[I") ∈ wTs := wmem (i := 264) (by decide +kernel) (by decide +kernel)
set_option maxRecDepth 20000 in
theorem wm265 : (Jvm.Cond.fieldLink "NearSpell$Archive" (40 : Nat) "NearSpell$State" "cells" "[I") ∈ wTs := wmem (i := 265) (by decide +kernel) (by decide +kernel)
set_option maxRecDepth 20000 in
theorem wm275 : (Jvm.Cond.fieldLink "NearSpell$Archive" (13 : Nat) "NearSpell$Archive" "rows" "[I") ∈ wTs := wmem (i := 275) (by decide +kernel) (by decide +kernel)
set_option maxRecDepth 20000 in
theorem wm276 : (Jvm.Cond.fieldLink "NearSpell$Archive" (17 : Nat) "NearSpell$Archive" "boxes" "[I") ∈ wTs := wmem (i := 276) (by decide +kernel) (by decide +kernel)
set_option maxRecDepth 20000 in
theorem wm277 : (Jvm.Cond.fieldLink "NearSpell$Archive" (20 : Nat) "NearSpell$Archive" "boxesKept" "I") ∈ wTs := wmem (i := 277) (by decide +kernel) (by decide +kernel)
set_option maxRecDepth 20000 in
theorem wm278 : (Jvm.Cond.fieldLink "NearSpell$Archive" (24 : Nat) "NearSpell$Archive" "oldest" "I") ∈ wTs := wmem (i := 278) (by decide +kernel) (by decide +kernel)
set_option maxRecDepth 20000 in
theorem wm279 : (Jvm.Cond.fieldLink "NearSpell$Archive" (27 : Nat) "NearSpell$Archive" "done" "I") ∈ wTs := wmem (i := 279) (by decide +kernel) (by decide +kernel)
set_option maxRecDepth 20000 in
theorem wm280 : (Jvm.Cond.fieldLink "NearSpell" (347 : Nat) "NearSpell$Archive" "done" "I") ∈ wTs := wmem (i := 280) (by decide +kernel) (by decide +kernel)
set_option maxRecDepth 20000 in
theorem wm281 : (Jvm.Cond.fieldLink "NearSpell$Archive" (30 : Nat) "NearSpell$Archive" "undone" "I") ∈ wTs := wmem (i := 281) (by decide +kernel) (by decide +kernel)
set_option maxRecDepth 20000 in
theorem wm282 : (Jvm.Cond.fieldLink "NearSpell" (350 : Nat) "NearSpell$Archive" "undone" "I") ∈ wTs := wmem (i := 282) (by decide +kernel) (by decide +kernel)
set_option maxRecDepth 20000 in
theorem wm302 : (Jvm.Cond.fieldLink "NearSpell$Ruler" (11 : Nat) "NearSpell$Ruler" "text" "[I") ∈ wTs := wmem (i := 302) (by decide +kernel) (by decide +kernel)
set_option maxRecDepth 20000 in
theorem wm303 : (Jvm.Cond.fieldLink "NearSpell$Ruler" (15 : Nat) "NearSpell$Ruler" "other" "[I") ∈ wTs := wmem (i := 303) (by decide +kernel) (by decide +kernel)
set_option maxRecDepth 20000 in
theorem wm304 : (Jvm.Cond.fieldLink "NearSpell$Ruler" (18 : Nat) "NearSpell$Ruler" "table" "[I") ∈ wTs := wmem (i := 304) (by decide +kernel) (by decide +kernel)
set_option maxRecDepth 20000 in
theorem wm305 : (Jvm.Cond.fieldLink "NearSpell$Ruler" (21 : Nat) "NearSpell$Ruler" "textSize" "I") ∈ wTs := wmem (i := 305) (by decide +kernel) (by decide +kernel)
set_option maxRecDepth 20000 in
theorem wm306 : (Jvm.Cond.fieldLink "NearSpell$Ruler" (25 : Nat) "NearSpell$Ruler" "otherSize" "I") ∈ wTs := wmem (i := 306) (by decide +kernel) (by decide +kernel)
set_option maxRecDepth 20000 in
theorem wm331 : (Jvm.Cond.fieldLink "NearSpell$FormList" (9 : Nat) "NearSpell$FormList" "list" "[I") ∈ wTs := wmem (i := 331) (by decide +kernel) (by decide +kernel)
set_option maxRecDepth 20000 in
theorem wm332 : (Jvm.Cond.fieldLink "NearSpell$Laid" (78 : Nat) "NearSpell$FormList" "list" "[I") ∈ wTs := wmem (i := 332) (by decide +kernel) (by decide +kernel)
set_option maxRecDepth 20000 in
theorem wm333 : (Jvm.Cond.fieldLink "NearSpell" (220 : Nat) "NearSpell$FormList" "list" "[I") ∈ wTs := wmem (i := 333) (by decide +kernel) (by decide +kernel)
set_option maxRecDepth 20000 in
theorem wm334 : (Jvm.Cond.fieldLink "NearSpell$FormList" (15 : Nat) "NearSpell$FormList" "size" "I") ∈ wTs := wmem (i := 334) (by decide +kernel) (by decide +kernel)
set_option maxRecDepth 20000 in
theorem wm335 : (Jvm.Cond.fieldLink "NearSpell" (158 : Nat) "NearSpell$FormList" "size" "I") ∈ wTs := wmem (i := 335) (by decide +kernel) (by decide +kernel)
set_option maxRecDepth 20000 in
theorem wm336 : (Jvm.Cond.fieldLink "NearSpell$Laid" (69 : Nat) "NearSpell$FormList" "size" "I") ∈ wTs := wmem (i := 336) (by decide +kernel) (by decide +kernel)
set_option maxRecDepth 20000 in
theorem wm337 : (Jvm.Cond.fieldLink "NearSpell$FormList" (19 : Nat) "NearSpell$FormList" "spelling" "I") ∈ wTs := wmem (i := 337) (by decide +kernel) (by decide +kernel)
set_option maxRecDepth 20000 in
theorem wm338 : (Jvm.Cond.fieldLink "NearSpell$FormList" (22 : Nat) "NearSpell$FormList" "prefix" "I") ∈ wTs := wmem (i := 338) (by decide +kernel) (by decide +kernel)
set_option maxRecDepth 20000 in
theorem wm339 : (Jvm.Cond.fieldLink "NearSpell$FormList" (25 : Nat) "NearSpell$FormList" "errors" "I") ∈ wTs := wmem (i := 339) (by decide +kernel) (by decide +kernel)
set_option maxRecDepth 20000 in
theorem wm351 : (Jvm.Cond.fieldLink "NearSpell$Laid" (9 : Nat) "NearSpell$Laid" "book" "LNearSpell$Book;") ∈ wTs := wmem (i := 351) (by decide +kernel) (by decide +kernel)
set_option maxRecDepth 20000 in
theorem wm352 : (Jvm.Cond.fieldLink "NearSpell$Laid" (15 : Nat) "NearSpell$Laid" "state" "LNearSpell$State;") ∈ wTs := wmem (i := 352) (by decide +kernel) (by decide +kernel)
set_option maxRecDepth 20000 in
theorem wm353 : (Jvm.Cond.fieldLink "NearSpell$Laid" (21 : Nat) "NearSpell$Laid" "rows" "[LNearSpell$FormList;") ∈ wTs := wmem (i := 353) (by decide +kernel) (by decide +kernel)
set_option maxRecDepth 20000 in
theorem wm354 : (Jvm.Cond.fieldLink "NearSpell$Laid" (26 : Nat) "NearSpell$Laid" "asked" "LNearSpell$FormList;") ∈ wTs := wmem (i := 354) (by decide +kernel) (by decide +kernel)
set_option maxRecDepth 20000 in
theorem wm355 : (Jvm.Cond.fieldLink "NearSpell$Laid" (30 : Nat) "NearSpell$Laid" "counts" "[I") ∈ wTs := wmem (i := 355) (by decide +kernel) (by decide +kernel)
set_option maxRecDepth 20000 in
theorem wm373 : (Jvm.Cond.fieldLink "NearSpell$Finder" (9 : Nat) "NearSpell$Finder" "book" "LNearSpell$Book;") ∈ wTs := wmem (i := 373) (by decide +kernel) (by decide +kernel)
set_option maxRecDepth 20000 in
theorem wm374 : (Jvm.Cond.fieldLink "NearSpell$Finder" (15 : Nat) "NearSpell$Finder" "state" "LNearSpell$State;") ∈ wTs := wmem (i := 374) (by decide +kernel) (by decide +kernel)
set_option maxRecDepth 20000 in
theorem wm375 : (Jvm.Cond.fieldLink "NearSpell$Finder" (19 : Nat) "NearSpell$Finder" "laid" "LNearSpell$Laid;") ∈ wTs := wmem (i := 375) (by decide +kernel) (by decide +kernel)
set_option maxRecDepth 20000 in
theorem wm376 : (Jvm.Cond.fieldLink "NearSpell$Finder" (23 : Nat) "NearSpell$Finder" "ruler" "LNearSpell$Ruler;") ∈ wTs := wmem (i := 376) (by decide +kernel) (by decide +kernel)
set_option maxRecDepth 20000 in
theorem wm377 : (Jvm.Cond.fieldLink "NearSpell$Finder" (27 : Nat) "NearSpell$Finder" "apart" "[I") ∈ wTs := wmem (i := 377) (by decide +kernel) (by decide +kernel)
set_option maxRecDepth 20000 in
theorem wm395 : (Jvm.Cond.methodLink "NearSpell$Pieces" (26 : Nat) ({ cls := "NearSpell$Pieces", name := "forgetLeast", desc := "()V" } : Jvm.MethodName)) ∈ wTs := wmem (i := 395) (by decide +kernel) (by decide +kernel)
set_option maxRecDepth 20000 in
theorem wm397 : (Jvm.Cond.instanceMethod ({ cls := "NearSpell$Pieces", name := "forgetLeast", desc := "()V" } : Jvm.MethodName)) ∈ wTs := wmem (i := 397) (by decide +kernel) (by decide +kernel)
set_option maxRecDepth 20000 in
theorem wm398 : (Jvm.Cond.code ({ cls := "NearSpell$Pieces", name := "forgetLeast", desc := "()V" } : Jvm.MethodName) prog_7_method_5_code (1 : Nat) (Option.none : Option Jvm.ClassFile.FieldType)) ∈ wTs := wmem (i := 398) (by decide +kernel) (by decide +kernel)
set_option maxRecDepth 20000 in
theorem wm399 : (Jvm.Cond.fieldLink "NearSpell$Pieces" (9 : Nat) "NearSpell$Pieces" "state" "LNearSpell$State;") ∈ wTs := wmem (i := 399) (by decide +kernel) (by decide +kernel)
set_option maxRecDepth 20000 in
theorem wm400 : (Jvm.Cond.fieldLink "NearSpell$Pieces" (15 : Nat) "NearSpell$Pieces" "ruler" "LNearSpell$Ruler;") ∈ wTs := wmem (i := 400) (by decide +kernel) (by decide +kernel)
set_option maxRecDepth 20000 in
theorem wm401 : (Jvm.Cond.fieldLink "NearSpell$Pieces" (19 : Nat) "NearSpell$Pieces" "costs" "[I") ∈ wTs := wmem (i := 401) (by decide +kernel) (by decide +kernel)
set_option maxRecDepth 20000 in
theorem wm402 : (Jvm.Cond.fieldLink "NearSpell$Pieces" (23 : Nat) "NearSpell$Pieces" "counts" "[I") ∈ wTs := wmem (i := 402) (by decide +kernel) (by decide +kernel)
set_option maxRecDepth 20000 in
theorem wm403 : (Jvm.Cond.fieldLink "NearSpell$Pieces" (54 : Nat) "NearSpell$Pieces" "least" "I") ∈ wTs := wmem (i := 403) (by decide +kernel) (by decide +kernel)
set_option maxRecDepth 20000 in
theorem wm404 : (Jvm.Cond.fieldLink "NearSpell" (245 : Nat) "NearSpell$Pieces" "least" "I") ∈ wTs := wmem (i := 404) (by decide +kernel) (by decide +kernel)
set_option maxRecDepth 20000 in
theorem wm405 : (Jvm.Cond.fieldLink "NearSpell$Pieces" (58 : Nat) "NearSpell$Pieces" "first" "I") ∈ wTs := wmem (i := 405) (by decide +kernel) (by decide +kernel)
set_option maxRecDepth 20000 in
theorem wm406 : (Jvm.Cond.fieldLink "NearSpell" (248 : Nat) "NearSpell$Pieces" "first" "I") ∈ wTs := wmem (i := 406) (by decide +kernel) (by decide +kernel)
set_option maxRecDepth 20000 in
theorem wm407 : (Jvm.Cond.fieldLink "NearSpell$Pieces" (61 : Nat) "NearSpell$Pieces" "other" "I") ∈ wTs := wmem (i := 407) (by decide +kernel) (by decide +kernel)
set_option maxRecDepth 20000 in
theorem wm408 : (Jvm.Cond.fieldLink "NearSpell" (251 : Nat) "NearSpell$Pieces" "other" "I") ∈ wTs := wmem (i := 408) (by decide +kernel) (by decide +kernel)
set_option maxRecDepth 20000 in
theorem wm409 : (Jvm.Cond.fieldLink "NearSpell$Pieces" (64 : Nat) "NearSpell$Pieces" "likeOnes" "I") ∈ wTs := wmem (i := 409) (by decide +kernel) (by decide +kernel)
set_option maxRecDepth 20000 in
theorem wm433 : (Jvm.Cond.fieldLink "NearSpell$Web" (9 : Nat) "NearSpell$Web" "state" "LNearSpell$State;") ∈ wTs := wmem (i := 433) (by decide +kernel) (by decide +kernel)
set_option maxRecDepth 20000 in
theorem wm434 : (Jvm.Cond.fieldLink "NearSpell$Web" (15 : Nat) "NearSpell$Web" "ruler" "LNearSpell$Ruler;") ∈ wTs := wmem (i := 434) (by decide +kernel) (by decide +kernel)
set_option maxRecDepth 20000 in
theorem wm435 : (Jvm.Cond.fieldLink "NearSpell$Web" (19 : Nat) "NearSpell$Web" "apart" "[I") ∈ wTs := wmem (i := 435) (by decide +kernel) (by decide +kernel)
set_option maxRecDepth 20000 in
theorem wm436 : (Jvm.Cond.fieldLink "NearSpell$Web" (23 : Nat) "NearSpell$Web" "linked" "[I") ∈ wTs := wmem (i := 436) (by decide +kernel) (by decide +kernel)
set_option maxRecDepth 20000 in
theorem wm437 : (Jvm.Cond.fieldLink "NearSpell$Web" (26 : Nat) "NearSpell$Web" "all" "I") ∈ wTs := wmem (i := 437) (by decide +kernel) (by decide +kernel)
set_option maxRecDepth 20000 in
theorem wm455 : (Jvm.Cond.fieldLink "NearSpell$Witness" (38 : Nat) "NearSpell$Witness" "book" "LNearSpell$Book;") ∈ wTs := wmem (i := 455) (by decide +kernel) (by decide +kernel)
set_option maxRecDepth 20000 in
theorem wm456 : (Jvm.Cond.fieldLink "NearSpell$Witness" (42 : Nat) "NearSpell$Witness" "ruler" "LNearSpell$Ruler;") ∈ wTs := wmem (i := 456) (by decide +kernel) (by decide +kernel)
set_option maxRecDepth 20000 in
theorem wm457 : (Jvm.Cond.fieldLink "NearSpell$Witness" (11 : Nat) "NearSpell$Witness" "spellings" "[I") ∈ wTs := wmem (i := 457) (by decide +kernel) (by decide +kernel)
set_option maxRecDepth 20000 in
theorem wm458 : (Jvm.Cond.fieldLink "NearSpell$Witness" (15 : Nat) "NearSpell$Witness" "limits" "[I") ∈ wTs := wmem (i := 458) (by decide +kernel) (by decide +kernel)
set_option maxRecDepth 20000 in
theorem wm459 : (Jvm.Cond.fieldLink "NearSpell$Witness" (18 : Nat) "NearSpell$Witness" "truths" "[Z") ∈ wTs := wmem (i := 459) (by decide +kernel) (by decide +kernel)
set_option maxRecDepth 20000 in
theorem wm460 : (Jvm.Cond.fieldLink "NearSpell$Witness" (22 : Nat) "NearSpell$Witness" "toldAt" "[I") ∈ wTs := wmem (i := 460) (by decide +kernel) (by decide +kernel)
set_option maxRecDepth 20000 in
theorem wm461 : (Jvm.Cond.fieldLink "NearSpell$Witness" (25 : Nat) "NearSpell$Witness" "untoldAt" "[I") ∈ wTs := wmem (i := 461) (by decide +kernel) (by decide +kernel)
set_option maxRecDepth 20000 in
theorem wm462 : (Jvm.Cond.fieldLink "NearSpell$Witness" (28 : Nat) "NearSpell$Witness" "counts" "[I") ∈ wTs := wmem (i := 462) (by decide +kernel) (by decide +kernel)
set_option maxRecDepth 20000 in
theorem wm463 : (Jvm.Cond.fieldLink "NearSpell$Witness" (31 : Nat) "NearSpell$Witness" "size" "I") ∈ wTs := wmem (i := 463) (by decide +kernel) (by decide +kernel)
set_option maxRecDepth 20000 in
theorem wm464 : (Jvm.Cond.fieldLink "NearSpell" (353 : Nat) "NearSpell$Witness" "size" "I") ∈ wTs := wmem (i := 464) (by decide +kernel) (by decide +kernel)
set_option maxRecDepth 20000 in
theorem wm465 : (Jvm.Cond.fieldLink "NearSpell$Witness" (35 : Nat) "NearSpell$Witness" "time" "I") ∈ wTs := wmem (i := 465) (by decide +kernel) (by decide +kernel)
set_option maxRecDepth 20000 in
theorem wm466 : (Jvm.Cond.fieldLink "NearSpell" (354 : Nat) "NearSpell$Witness" "time" "I") ∈ wTs := wmem (i := 466) (by decide +kernel) (by decide +kernel)
set_option maxRecDepth 20000 in
theorem wm489 : (Jvm.Cond.fieldLink "NearSpell" (9 : Nat) "NearSpell" "tape" "[B") ∈ wTs := wmem (i := 489) (by decide +kernel) (by decide +kernel)
set_option maxRecDepth 20000 in
theorem wm490 : (Jvm.Cond.fieldLink "NearSpell" (100 : Nat) "NearSpell" "tapeSize" "I") ∈ wTs := wmem (i := 490) (by decide +kernel) (by decide +kernel)
set_option maxRecDepth 20000 in
theorem wm491 : (Jvm.Cond.fieldLink "NearSpell" (16 : Nat) "NearSpell" "told" "LNearSpell$Book;") ∈ wTs := wmem (i := 491) (by decide +kernel) (by decide +kernel)
set_option maxRecDepth 20000 in
theorem wm492 : (Jvm.Cond.fieldLink "NearSpell" (20 : Nat) "NearSpell" "draft" "LNearSpell$Book;") ∈ wTs := wmem (i := 492) (by decide +kernel) (by decide +kernel)
set_option maxRecDepth 20000 in
theorem wm493 : (Jvm.Cond.fieldLink "NearSpell" (28 : Nat) "NearSpell" "reader" "LNearSpell$Reader;") ∈ wTs := wmem (i := 493) (by decide +kernel) (by decide +kernel)
set_option maxRecDepth 20000 in
theorem wm494 : (Jvm.Cond.fieldLink "NearSpell" (35 : Nat) "NearSpell" "state" "LNearSpell$State;") ∈ wTs := wmem (i := 494) (by decide +kernel) (by decide +kernel)
set_option maxRecDepth 20000 in
theorem wm495 : (Jvm.Cond.fieldLink "NearSpell" (42 : Nat) "NearSpell" "archive" "LNearSpell$Archive;") ∈ wTs := wmem (i := 495) (by decide +kernel) (by decide +kernel)
set_option maxRecDepth 20000 in
theorem wm496 : (Jvm.Cond.fieldLink "NearSpell" (49 : Nat) "NearSpell" "ruler" "LNearSpell$Ruler;") ∈ wTs := wmem (i := 496) (by decide +kernel) (by decide +kernel)
set_option maxRecDepth 20000 in
theorem wm497 : (Jvm.Cond.fieldLink "NearSpell" (58 : Nat) "NearSpell" "laid" "LNearSpell$Laid;") ∈ wTs := wmem (i := 497) (by decide +kernel) (by decide +kernel)
set_option maxRecDepth 20000 in
theorem wm498 : (Jvm.Cond.fieldLink "NearSpell" (67 : Nat) "NearSpell" "finder" "LNearSpell$Finder;") ∈ wTs := wmem (i := 498) (by decide +kernel) (by decide +kernel)
set_option maxRecDepth 20000 in
theorem wm499 : (Jvm.Cond.fieldLink "NearSpell" (76 : Nat) "NearSpell" "pieces" "LNearSpell$Pieces;") ∈ wTs := wmem (i := 499) (by decide +kernel) (by decide +kernel)
set_option maxRecDepth 20000 in
theorem wm500 : (Jvm.Cond.fieldLink "NearSpell" (83 : Nat) "NearSpell" "web" "LNearSpell$Web;") ∈ wTs := wmem (i := 500) (by decide +kernel) (by decide +kernel)
set_option maxRecDepth 20000 in
theorem wm501 : (Jvm.Cond.fieldLink "NearSpell" (92 : Nat) "NearSpell" "witness" "LNearSpell$Witness;") ∈ wTs := wmem (i := 501) (by decide +kernel) (by decide +kernel)
set_option maxRecDepth 20000 in
theorem wm502 : (Jvm.Cond.fieldLink "NearSpell" (96 : Nat) "NearSpell" "lying" "[I") ∈ wTs := wmem (i := 502) (by decide +kernel) (by decide +kernel)
set_option maxRecDepth 20000 in
theorem wm503 : (Jvm.Cond.fieldLink "NearSpell" (104 : Nat) "NearSpell" "lyingSize" "I") ∈ wTs := wmem (i := 503) (by decide +kernel) (by decide +kernel)
set_option maxRecDepth 20000 in
theorem wm539 : (Jvm.Cond.methodLink "NearSpell" (107 : Nat) ({ cls := "NearSpell", name := "putBytes", desc := "(I)V" } : Jvm.MethodName)) ∈ wTs := wmem (i := 539) (by decide +kernel) (by decide +kernel)
set_option maxRecDepth 20000 in
theorem wm541 : (Jvm.Cond.instanceMethod ({ cls := "NearSpell", name := "putBytes", desc := "(I)V" } : Jvm.MethodName)) ∈ wTs := wmem (i := 541) (by decide +kernel) (by decide +kernel)
set_option maxRecDepth 20000 in
theorem wm542 : (Jvm.Cond.code ({ cls := "NearSpell", name := "putBytes", desc := "(I)V" } : Jvm.MethodName) prog_1_method_49_code (3 : Nat) (Option.none : Option Jvm.ClassFile.FieldType)) ∈ wTs := wmem (i := 542) (by decide +kernel) (by decide +kernel)
set_option maxRecDepth 20000 in
theorem wm551 : (Jvm.Cond.methodLink "NearSpell" (111 : Nat) ({ cls := "NearSpell$Reader", name := "readText", desc := "(I)Z" } : Jvm.MethodName)) ∈ wTs := wmem (i := 551) (by decide +kernel) (by decide +kernel)
set_option maxRecDepth 20000 in
theorem wm552 : (Jvm.Cond.instanceMethod ({ cls := "NearSpell$Reader", name := "readText", desc := "(I)Z" } : Jvm.MethodName)) ∈ wTs := wmem (i := 552) (by decide +kernel) (by decide +kernel)
set_option maxRecDepth 20000 in
theorem wm553 : (Jvm.Cond.selects "NearSpell$Reader" ({ cls := "NearSpell$Reader", name := "readText", desc := "(I)Z" } : Jvm.MethodName) ({ cls := "NearSpell$Reader", name := "readText", desc := "(I)Z" } : Jvm.MethodName)) ∈ wTs := wmem (i := 553) (by decide +kernel) (by decide +kernel)
set_option maxRecDepth 20000 in
theorem wm554 : (Jvm.Cond.code ({ cls := "NearSpell$Reader", name := "readText", desc := "(I)Z" } : Jvm.MethodName) prog_8_method_2_code (3 : Nat) (Option.some Jvm.ClassFile.FieldType.boolean)) ∈ wTs := wmem (i := 554) (by decide +kernel) (by decide +kernel)
set_option maxRecDepth 20000 in
theorem wm555 : (Jvm.Cond.methodLink "NearSpell$Reader" (26 : Nat) ({ cls := "NearSpell$Book", name := "reset", desc := "()V" } : Jvm.MethodName)) ∈ wTs := wmem (i := 555) (by decide +kernel) (by decide +kernel)
set_option maxRecDepth 20000 in
theorem wm556 : (Jvm.Cond.methodLink "NearSpell$Reader" (31 : Nat) ({ cls := "java/lang/Math", name := "min", desc := "(II)I" } : Jvm.MethodName)) ∈ wTs := wmem (i := 556) (by decide +kernel) (by decide +kernel)
set_option maxRecDepth 20000 in
theorem wm557 : (Jvm.Cond.static ({ cls := "java/lang/Math", name := "min", desc := "(II)I" } : Jvm.MethodName)) ∈ wTs := wmem (i := 557) (by decide +kernel) (by decide +kernel)
set_option maxRecDepth 20000 in
theorem wm558 : (Jvm.Cond.code ({ cls := "java/lang/Math", name := "min", desc := "(II)I" } : Jvm.MethodName) prog_17_method_69_code (2 : Nat) (Option.some Jvm.ClassFile.FieldType.int)) ∈ wTs := wmem (i := 558) (by decide +kernel) (by decide +kernel)
set_option maxRecDepth 20000 in
theorem wm559 : (Jvm.Cond.methodLink "NearSpell$Reader" (46 : Nat) ({ cls := "NearSpell$Reader", name := "takeToken", desc := "()V" } : Jvm.MethodName)) ∈ wTs := wmem (i := 559) (by decide +kernel) (by decide +kernel)
set_option maxRecDepth 20000 in
theorem wm561 : (Jvm.Cond.instanceMethod ({ cls := "NearSpell$Reader", name := "takeToken", desc := "()V" } : Jvm.MethodName)) ∈ wTs := wmem (i := 561) (by decide +kernel) (by decide +kernel)
set_option maxRecDepth 20000 in
theorem wm562 : (Jvm.Cond.code ({ cls := "NearSpell$Reader", name := "takeToken", desc := "()V" } : Jvm.MethodName) prog_8_method_15_code (1 : Nat) (Option.none : Option Jvm.ClassFile.FieldType)) ∈ wTs := wmem (i := 562) (by decide +kernel) (by decide +kernel)
set_option maxRecDepth 20000 in
theorem wm563 : (Jvm.Cond.methodLink "NearSpell$Reader" (127 : Nat) ({ cls := "NearSpell$Reader", name := "isLetter", desc := "(I)Z" } : Jvm.MethodName)) ∈ wTs := wmem (i := 563) (by decide +kernel) (by decide +kernel)
set_option maxRecDepth 20000 in
theorem wm565 : (Jvm.Cond.instanceMethod ({ cls := "NearSpell$Reader", name := "isLetter", desc := "(I)Z" } : Jvm.MethodName)) ∈ wTs := wmem (i := 565) (by decide +kernel) (by decide +kernel)
set_option maxRecDepth 20000 in
theorem wm566 : (Jvm.Cond.code ({ cls := "NearSpell$Reader", name := "isLetter", desc := "(I)Z" } : Jvm.MethodName) prog_8_method_19_code (2 : Nat) (Option.some Jvm.ClassFile.FieldType.boolean)) ∈ wTs := wmem (i := 566) (by decide +kernel) (by decide +kernel)
set_option maxRecDepth 20000 in
theorem wm567 : (Jvm.Cond.methodLink "NearSpell$Reader" (130 : Nat) ({ cls := "NearSpell$Reader", name := "takeLetters", desc := "()V" } : Jvm.MethodName)) ∈ wTs := wmem (i := 567) (by decide +kernel) (by decide +kernel)
set_option maxRecDepth 20000 in
theorem wm569 : (Jvm.Cond.instanceMethod ({ cls := "NearSpell$Reader", name := "takeLetters", desc := "()V" } : Jvm.MethodName)) ∈ wTs := wmem (i := 569) (by decide +kernel) (by decide +kernel)
set_option maxRecDepth 20000 in
theorem wm570 : (Jvm.Cond.code ({ cls := "NearSpell$Reader", name := "takeLetters", desc := "()V" } : Jvm.MethodName) prog_8_method_16_code (2 : Nat) (Option.none : Option Jvm.ClassFile.FieldType)) ∈ wTs := wmem (i := 570) (by decide +kernel) (by decide +kernel)
set_option maxRecDepth 20000 in
theorem wm571 : (Jvm.Cond.methodLink "NearSpell$Reader" (62 : Nat) ({ cls := "NearSpell$Reader", name := "fail", desc := "(I)V" } : Jvm.MethodName)) ∈ wTs := wmem (i := 571) (by decide +kernel) (by decide +kernel)
set_option maxRecDepth 20000 in
theorem wm573 : (Jvm.Cond.instanceMethod ({ cls := "NearSpell$Reader", name := "fail", desc := "(I)V" } : Jvm.MethodName)) ∈ wTs := wmem (i := 573) (by decide +kernel) (by decide +kernel)
set_option maxRecDepth 20000 in
theorem wm574 : (Jvm.Cond.code ({ cls := "NearSpell$Reader", name := "fail", desc := "(I)V" } : Jvm.MethodName) prog_8_method_3_code (2 : Nat) (Option.none : Option Jvm.ClassFile.FieldType)) ∈ wTs := wmem (i := 574) (by decide +kernel) (by decide +kernel)
set_option maxRecDepth 20000 in
theorem wm575 : (Jvm.Cond.methodLink "NearSpell$Reader" (147 : Nat) ({ cls := "NearSpell$Reader", name := "isOwnWord", desc := "(I)Z" } : Jvm.MethodName)) ∈ wTs := wmem (i := 575) (by decide +kernel) (by decide +kernel)
set_option maxRecDepth 20000 in
theorem wm577 : (Jvm.Cond.instanceMethod ({ cls := "NearSpell$Reader", name := "isOwnWord", desc := "(I)Z" } : Jvm.MethodName)) ∈ wTs := wmem (i := 577) (by decide +kernel) (by decide +kernel)
set_option maxRecDepth 20000 in
theorem wm578 : (Jvm.Cond.code ({ cls := "NearSpell$Reader", name := "isOwnWord", desc := "(I)Z" } : Jvm.MethodName) prog_8_method_18_code (5 : Nat) (Option.some Jvm.ClassFile.FieldType.boolean)) ∈ wTs := wmem (i := 578) (by decide +kernel) (by decide +kernel)
set_option maxRecDepth 20000 in
theorem wm580 : (Jvm.Cond.methodLink "NearSpell$Reader" (152 : Nat) ({ cls := "java/lang/String", name := "charAt", desc := "(I)C" } : Jvm.MethodName)) ∈ wTs := wmem (i := 580) (by decide +kernel) (by decide +kernel)
set_option maxRecDepth 20000 in
theorem wm581 : (Jvm.Cond.instanceMethod ({ cls := "java/lang/String", name := "charAt", desc := "(I)C" } : Jvm.MethodName)) ∈ wTs := wmem (i := 581) (by decide +kernel) (by decide +kernel)
set_option maxRecDepth 20000 in
theorem wm582 : (Jvm.Cond.selects "java/lang/String" ({ cls := "java/lang/String", name := "charAt", desc := "(I)C" } : Jvm.MethodName) ({ cls := "java/lang/String", name := "charAt", desc := "(I)C" } : Jvm.MethodName)) ∈ wTs := wmem (i := 582) (by decide +kernel) (by decide +kernel)
set_option maxRecDepth 20000 in
theorem wm583 : (Jvm.Cond.code ({ cls := "java/lang/String", name := "charAt", desc := "(I)C" } : Jvm.MethodName) prog_18_method_56_code (2 : Nat) (Option.some Jvm.ClassFile.FieldType.char)) ∈ wTs := wmem (i := 583) (by decide +kernel) (by decide +kernel)
set_option maxRecDepth 20000 in
theorem wm584 : (Jvm.Cond.methodLink "java/lang/String" (492 : Nat) ({ cls := "java/lang/String", name := "isLatin1", desc := "()Z" } : Jvm.MethodName)) ∈ wTs := wmem (i := 584) (by decide +kernel) (by decide +kernel)
set_option maxRecDepth 20000 in
theorem wm585 : (Jvm.Cond.instanceMethod ({ cls := "java/lang/String", name := "isLatin1", desc := "()Z" } : Jvm.MethodName)) ∈ wTs := wmem (i := 585) (by decide +kernel) (by decide +kernel)
set_option maxRecDepth 20000 in
theorem wm586 : (Jvm.Cond.selects "java/lang/String" ({ cls := "java/lang/String", name := "isLatin1", desc := "()Z" } : Jvm.MethodName) ({ cls := "java/lang/String", name := "isLatin1", desc := "()Z" } : Jvm.MethodName)) ∈ wTs := wmem (i := 586) (by decide +kernel) (by decide +kernel)
set_option maxRecDepth 20000 in
theorem wm587 : (Jvm.Cond.code ({ cls := "java/lang/String", name := "isLatin1", desc := "()Z" } : Jvm.MethodName) prog_18_method_154_code (1 : Nat) (Option.some Jvm.ClassFile.FieldType.boolean)) ∈ wTs := wmem (i := 587) (by decide +kernel) (by decide +kernel)
set_option maxRecDepth 20000 in
theorem wm588 : (Jvm.Cond.fieldLink "java/lang/String" (38 : Nat) "java/lang/String" "COMPACT_STRINGS" "Z") ∈ wTs := wmem (i := 588) (by decide +kernel) (by decide +kernel)
set_option maxRecDepth 20000 in
theorem wm590 : (Jvm.Cond.methodLink "java/lang/String" (495 : Nat) ({ cls := "java/lang/StringLatin1", name := "charAt", desc := "([BI)C" } : Jvm.MethodName)) ∈ wTs := wmem (i := 590) (by decide +kernel) (by decide +kernel)
set_option maxRecDepth 20000 in
theorem wm591 : (Jvm.Cond.static ({ cls := "java/lang/StringLatin1", name := "charAt", desc := "([BI)C" } : Jvm.MethodName)) ∈ wTs := wmem (i := 591) (by decide +kernel) (by decide +kernel)
set_option maxRecDepth 20000 in
theorem wm592 : (Jvm.Cond.code ({ cls := "java/lang/StringLatin1", name := "charAt", desc := "([BI)C" } : Jvm.MethodName) prog_19_method_2_code (2 : Nat) (Option.some Jvm.ClassFile.FieldType.char)) ∈ wTs := wmem (i := 592) (by decide +kernel) (by decide +kernel)
set_option maxRecDepth 20000 in
theorem wm593 : (Jvm.Cond.methodLink "java/lang/StringLatin1" (9 : Nat) ({ cls := "java/lang/String", name := "checkIndex", desc := "(II)V" } : Jvm.MethodName)) ∈ wTs := wmem (i := 593) (by decide +kernel) (by decide +kernel)
set_option maxRecDepth 20000 in
theorem wm594 : (Jvm.Cond.static ({ cls := "java/lang/String", name := "checkIndex", desc := "(II)V" } : Jvm.MethodName)) ∈ wTs := wmem (i := 594) (by decide +kernel) (by decide +kernel)
set_option maxRecDepth 20000 in
theorem wm595 : (Jvm.Cond.code ({ cls := "java/lang/String", name := "checkIndex", desc := "(II)V" } : Jvm.MethodName) prog_18_method_155_code (2 : Nat) (Option.none : Option Jvm.ClassFile.FieldType)) ∈ wTs := wmem (i := 595) (by decide +kernel) (by decide +kernel)
set_option maxRecDepth 20000 in
theorem wm596 : (Jvm.Cond.fieldLink "java/lang/String" (1053 : Nat) "jdk/internal/util/Preconditions" "SIOOBE_FORMATTER" "Ljava/util/function/BiFunction;") ∈ wTs := wmem (i := 596) (by decide +kernel) (by decide +kernel)
set_option maxRecDepth 20000 in
theorem wm598 : (Jvm.Cond.methodLink "java/lang/String" (1059 : Nat) ({ cls := "jdk/internal/util/Preconditions", name := "checkIndex", desc := "(IILjava/util/function/BiFunction;)I" } : Jvm.MethodName)) ∈ wTs := wmem (i := 598) (by decide +kernel) (by decide +kernel)
set_option maxRecDepth 20000 in
theorem wm599 : (Jvm.Cond.static ({ cls := "jdk/internal/util/Preconditions", name := "checkIndex", desc := "(IILjava/util/function/BiFunction;)I" } : Jvm.MethodName)) ∈ wTs := wmem (i := 599) (by decide +kernel) (by decide +kernel)
set_option maxRecDepth 20000 in
theorem wm600 : (Jvm.Cond.code ({ cls := "jdk/internal/util/Preconditions", name := "checkIndex", desc := "(IILjava/util/function/BiFunction;)I" } : Jvm.MethodName) prog_22_method_11_code (3 : Nat) (Option.some Jvm.ClassFile.FieldType.int)) ∈ wTs := wmem (i := 600) (by decide +kernel) (by decide +kernel)
set_option maxRecDepth 20000 in
theorem wm620 : (Jvm.Cond.methodLink "NearSpell$Reader" (133 : Nat) ({ cls := "NearSpell$Reader", name := "isDigit", desc := "(I)Z" } : Jvm.MethodName)) ∈ wTs := wmem (i := 620) (by decide +kernel) (by decide +kernel)
set_option maxRecDepth 20000 in
theorem wm622 : (Jvm.Cond.instanceMethod ({ cls := "NearSpell$Reader", name := "isDigit", desc := "(I)Z" } : Jvm.MethodName)) ∈ wTs := wmem (i := 622) (by decide +kernel) (by decide +kernel)
set_option maxRecDepth 20000 in
theorem wm623 : (Jvm.Cond.code ({ cls := "NearSpell$Reader", name := "isDigit", desc := "(I)Z" } : Jvm.MethodName) prog_8_method_20_code (2 : Nat) (Option.some Jvm.ClassFile.FieldType.boolean)) ∈ wTs := wmem (i := 623) (by decide +kernel) (by decide +kernel)
