def RX0 : String := "NearSpell$Archive"
def TX0 : u_T := fun k => match k with
  | 0 => ("NearSpell$Archive", "rows", "[I", true)
  | 1 => ("NearSpell$Archive", "boxes", "[I", true)
  | 2 => ("NearSpell$Archive", "boxesKept", "I", false)
  | 3 => ("NearSpell$Archive", "oldest", "I", false)
  | 4 => ("NearSpell$Archive", "done", "I", false)
  | _ => ("NearSpell$Archive", "undone", "I", false)
def tyX0 : Nat → FieldType := fun k => match k with
  | 0 => .array .int
  | 1 => .array .int
  | 2 => .int
  | 3 => .int
  | 4 => .int
  | _ => .int
set_option maxRecDepth 20000 in
theorem nmX0 : ∀ a, a < 6 → ∀ b, b < 6 → a ≠ b → (TX0 a).2.1 ≠ (TX0 b).2.1 := by decide +kernel
set_option maxRecDepth 20000 in
theorem tyX0_ok : ∀ k, k < 6 → parseFieldDescriptor (TX0 k).2.2.1 = some (tyX0 k) := by decide +kernel
def RX1 : String := "NearSpell$Book"
def TX1 : u_T := fun k => match k with
  | 0 => ("NearSpell$Book", "names", "[I", true)
  | 1 => ("NearSpell$Book", "uses", "[I", true)
  | 2 => ("NearSpell$Book", "steps", "[I", true)
  | 3 => ("NearSpell$Book", "stack", "[I", true)
  | 4 => ("NearSpell$Book", "words", "I", false)
  | 5 => ("NearSpell$Book", "prefix", "I", false)
  | 6 => ("NearSpell$Book", "errors", "I", false)
  | 7 => ("NearSpell$Book", "buckets", "I", false)
  | 8 => ("NearSpell$Book", "slips", "I", false)
  | 9 => ("NearSpell$Book", "draw", "I", false)
  | 10 => ("NearSpell$Book", "units", "I", false)
  | 11 => ("NearSpell$Book", "stepCount", "I", false)
  | _ => ("NearSpell$Book", "top", "I", false)
def tyX1 : Nat → FieldType := fun k => match k with
  | 0 => .array .int
  | 1 => .array .int
  | 2 => .array .int
  | 3 => .array .int
  | 4 => .int
  | 5 => .int
  | 6 => .int
  | 7 => .int
  | 8 => .int
  | 9 => .int
  | 10 => .int
  | 11 => .int
  | _ => .int
set_option maxRecDepth 20000 in
theorem nmX1 : ∀ a, a < 13 → ∀ b, b < 13 → a ≠ b → (TX1 a).2.1 ≠ (TX1 b).2.1 := by decide +kernel
set_option maxRecDepth 20000 in
theorem tyX1_ok : ∀ k, k < 13 → parseFieldDescriptor (TX1 k).2.2.1 = some (tyX1 k) := by decide +kernel
def RX2 : String := "NearSpell$Finder"
def TX2 : u_T := fun k => match k with
  | 0 => ("NearSpell$Finder", "book", "LNearSpell$Book;", true)
  | 1 => ("NearSpell$Finder", "state", "LNearSpell$State;", true)
  | 2 => ("NearSpell$Finder", "laid", "LNearSpell$Laid;", true)
  | 3 => ("NearSpell$Finder", "ruler", "LNearSpell$Ruler;", true)
  | _ => ("NearSpell$Finder", "apart", "[I", true)
def tyX2 : Nat → FieldType := fun k => match k with
  | 0 => .object "NearSpell$Book"
  | 1 => .object "NearSpell$State"
  | 2 => .object "NearSpell$Laid"
  | 3 => .object "NearSpell$Ruler"
  | _ => .array .int
set_option maxRecDepth 20000 in
theorem nmX2 : ∀ a, a < 5 → ∀ b, b < 5 → a ≠ b → (TX2 a).2.1 ≠ (TX2 b).2.1 := by decide +kernel
set_option maxRecDepth 20000 in
theorem tyX2_ok : ∀ k, k < 5 → parseFieldDescriptor (TX2 k).2.2.1 = some (tyX2 k) := by decide +kernel
def RX3 : String := "NearSpell$FormList"
def TX3 : u_T := fun k => match k with
  | 0 => ("NearSpell$FormList", "list", "[I", true)
  | 1 => ("NearSpell$FormList", "size", "I", false)
  | 2 => ("NearSpell$FormList", "spelling", "I", false)
  | 3 => ("NearSpell$FormList", "prefix", "I", false)
  | _ => ("NearSpell$FormList", "errors", "I", false)
def tyX3 : Nat → FieldType := fun k => match k with
  | 0 => .array .int
  | 1 => .int
  | 2 => .int
  | 3 => .int
  | _ => .int
set_option maxRecDepth 20000 in
theorem nmX3 : ∀ a, a < 5 → ∀ b, b < 5 → a ≠ b → (TX3 a).2.1 ≠ (TX3 b).2.1 := by decide +kernel
set_option maxRecDepth 20000 in
theorem tyX3_ok : ∀ k, k < 5 → parseFieldDescriptor (TX3 k).2.2.1 = some (tyX3 k) := by decide +kernel
def RX4 : String := "NearSpell$Laid"
def TX4 : u_T := fun k => match k with
  | 0 => ("NearSpell$Laid", "book", "LNearSpell$Book;", true)
  | 1 => ("NearSpell$Laid", "state", "LNearSpell$State;", true)
  | 2 => ("NearSpell$Laid", "rows", "[LNearSpell$FormList;", true)
  | 3 => ("NearSpell$Laid", "asked", "LNearSpell$FormList;", true)
  | _ => ("NearSpell$Laid", "counts", "[I", true)
def tyX4 : Nat → FieldType := fun k => match k with
  | 0 => .object "NearSpell$Book"
  | 1 => .object "NearSpell$State"
  | 2 => .array (.object "NearSpell$FormList")
  | 3 => .object "NearSpell$FormList"
  | _ => .array .int
set_option maxRecDepth 20000 in
theorem nmX4 : ∀ a, a < 5 → ∀ b, b < 5 → a ≠ b → (TX4 a).2.1 ≠ (TX4 b).2.1 := by decide +kernel
set_option maxRecDepth 20000 in
theorem tyX4_ok : ∀ k, k < 5 → parseFieldDescriptor (TX4 k).2.2.1 = some (tyX4 k) := by decide +kernel
def RX5 : String := "NearSpell$Pieces"
def TX5 : u_T := fun k => match k with
  | 0 => ("NearSpell$Pieces", "state", "LNearSpell$State;", true)
  | 1 => ("NearSpell$Pieces", "ruler", "LNearSpell$Ruler;", true)
  | 2 => ("NearSpell$Pieces", "costs", "[I", true)
  | 3 => ("NearSpell$Pieces", "counts", "[I", true)
  | 4 => ("NearSpell$Pieces", "least", "I", false)
  | 5 => ("NearSpell$Pieces", "first", "I", false)
  | 6 => ("NearSpell$Pieces", "other", "I", false)
  | _ => ("NearSpell$Pieces", "likeOnes", "I", false)
def tyX5 : Nat → FieldType := fun k => match k with
  | 0 => .object "NearSpell$State"
  | 1 => .object "NearSpell$Ruler"
  | 2 => .array .int
  | 3 => .array .int
  | 4 => .int
  | 5 => .int
  | 6 => .int
  | _ => .int
set_option maxRecDepth 20000 in
theorem nmX5 : ∀ a, a < 8 → ∀ b, b < 8 → a ≠ b → (TX5 a).2.1 ≠ (TX5 b).2.1 := by decide +kernel
set_option maxRecDepth 20000 in
theorem tyX5_ok : ∀ k, k < 8 → parseFieldDescriptor (TX5 k).2.2.1 = some (tyX5 k) := by decide +kernel
def RX6 : String := "NearSpell$Reader"
def TX6 : u_T := fun k => match k with
  | 0 => ("NearSpell$Reader", "text", "[B", true)
  | 1 => ("NearSpell$Reader", "draft", "LNearSpell$Book;", true)
  | 2 => ("NearSpell$Reader", "size", "I", false)
  | 3 => ("NearSpell$Reader", "at", "I", false)
  | 4 => ("NearSpell$Reader", "start", "I", false)
  | 5 => ("NearSpell$Reader", "token", "I", false)
  | 6 => ("NearSpell$Reader", "value", "I", false)
  | 7 => ("NearSpell$Reader", "linesTold", "I", false)
  | 8 => ("NearSpell$Reader", "faultKind", "I", false)
  | _ => ("NearSpell$Reader", "faultPlace", "I", false)
def tyX6 : Nat → FieldType := fun k => match k with
  | 0 => .array .byte
  | 1 => .object "NearSpell$Book"
  | 2 => .int
  | 3 => .int
  | 4 => .int
  | 5 => .int
  | 6 => .int
  | 7 => .int
  | 8 => .int
  | _ => .int
set_option maxRecDepth 20000 in
theorem nmX6 : ∀ a, a < 10 → ∀ b, b < 10 → a ≠ b → (TX6 a).2.1 ≠ (TX6 b).2.1 := by decide +kernel
set_option maxRecDepth 20000 in
theorem tyX6_ok : ∀ k, k < 10 → parseFieldDescriptor (TX6 k).2.2.1 = some (tyX6 k) := by decide +kernel
def RX7 : String := "NearSpell$Ruler"
def TX7 : u_T := fun k => match k with
  | 0 => ("NearSpell$Ruler", "text", "[I", true)
  | 1 => ("NearSpell$Ruler", "other", "[I", true)
  | 2 => ("NearSpell$Ruler", "table", "[I", true)
  | 3 => ("NearSpell$Ruler", "textSize", "I", false)
  | _ => ("NearSpell$Ruler", "otherSize", "I", false)
def tyX7 : Nat → FieldType := fun k => match k with
  | 0 => .array .int
  | 1 => .array .int
  | 2 => .array .int
  | 3 => .int
  | _ => .int
set_option maxRecDepth 20000 in
theorem nmX7 : ∀ a, a < 5 → ∀ b, b < 5 → a ≠ b → (TX7 a).2.1 ≠ (TX7 b).2.1 := by decide +kernel
set_option maxRecDepth 20000 in
theorem tyX7_ok : ∀ k, k < 5 → parseFieldDescriptor (TX7 k).2.2.1 = some (tyX7 k) := by decide +kernel
def RX8 : String := "NearSpell$State"
def TX8 : u_T := fun k => match k with
  | _ => ("NearSpell$State", "cells", "[I", true)
def tyX8 : Nat → FieldType := fun k => match k with
  | _ => .array .int
set_option maxRecDepth 20000 in
theorem nmX8 : ∀ a, a < 1 → ∀ b, b < 1 → a ≠ b → (TX8 a).2.1 ≠ (TX8 b).2.1 := by decide +kernel
set_option maxRecDepth 20000 in
theorem tyX8_ok : ∀ k, k < 1 → parseFieldDescriptor (TX8 k).2.2.1 = some (tyX8 k) := by decide +kernel
def RX9 : String := "NearSpell$Web"
def TX9 : u_T := fun k => match k with
  | 0 => ("NearSpell$Web", "state", "LNearSpell$State;", true)
  | 1 => ("NearSpell$Web", "ruler", "LNearSpell$Ruler;", true)
  | 2 => ("NearSpell$Web", "apart", "[I", true)
  | 3 => ("NearSpell$Web", "linked", "[I", true)
  | _ => ("NearSpell$Web", "all", "I", false)
def tyX9 : Nat → FieldType := fun k => match k with
  | 0 => .object "NearSpell$State"
  | 1 => .object "NearSpell$Ruler"
  | 2 => .array .int
  | 3 => .array .int
  | _ => .int
set_option maxRecDepth 20000 in
theorem nmX9 : ∀ a, a < 5 → ∀ b, b < 5 → a ≠ b → (TX9 a).2.1 ≠ (TX9 b).2.1 := by decide +kernel
set_option maxRecDepth 20000 in
theorem tyX9_ok : ∀ k, k < 5 → parseFieldDescriptor (TX9 k).2.2.1 = some (tyX9 k) := by decide +kernel
def RX10 : String := "NearSpell$Witness"
def TX10 : u_T := fun k => match k with
  | 0 => ("NearSpell$Witness", "book", "LNearSpell$Book;", true)
  | 1 => ("NearSpell$Witness", "ruler", "LNearSpell$Ruler;", true)
  | 2 => ("NearSpell$Witness", "spellings", "[I", true)
  | 3 => ("NearSpell$Witness", "limits", "[I", true)
  | 4 => ("NearSpell$Witness", "truths", "[Z", true)
  | 5 => ("NearSpell$Witness", "toldAt", "[I", true)
  | 6 => ("NearSpell$Witness", "untoldAt", "[I", true)
  | 7 => ("NearSpell$Witness", "counts", "[I", true)
  | 8 => ("NearSpell$Witness", "size", "I", false)
  | _ => ("NearSpell$Witness", "time", "I", false)
def tyX10 : Nat → FieldType := fun k => match k with
  | 0 => .object "NearSpell$Book"
  | 1 => .object "NearSpell$Ruler"
  | 2 => .array .int
  | 3 => .array .int
  | 4 => .array .boolean
  | 5 => .array .int
  | 6 => .array .int
  | 7 => .array .int
  | 8 => .int
  | _ => .int
set_option maxRecDepth 20000 in
theorem nmX10 : ∀ a, a < 10 → ∀ b, b < 10 → a ≠ b → (TX10 a).2.1 ≠ (TX10 b).2.1 := by decide +kernel
set_option maxRecDepth 20000 in
theorem tyX10_ok : ∀ k, k < 10 → parseFieldDescriptor (TX10 k).2.2.1 = some (tyX10 k) := by decide +kernel
def RX11 : String := "NearSpell"
def TX11 : u_T := fun k => match k with
  | 0 => ("NearSpell", "tape", "[B", true)
  | 1 => ("NearSpell", "tapeSize", "I", false)
  | 2 => ("NearSpell", "told", "LNearSpell$Book;", true)
  | 3 => ("NearSpell", "draft", "LNearSpell$Book;", true)
  | 4 => ("NearSpell", "reader", "LNearSpell$Reader;", true)
  | 5 => ("NearSpell", "state", "LNearSpell$State;", true)
  | 6 => ("NearSpell", "archive", "LNearSpell$Archive;", true)
  | 7 => ("NearSpell", "ruler", "LNearSpell$Ruler;", true)
  | 8 => ("NearSpell", "laid", "LNearSpell$Laid;", true)
  | 9 => ("NearSpell", "finder", "LNearSpell$Finder;", true)
  | 10 => ("NearSpell", "pieces", "LNearSpell$Pieces;", true)
  | 11 => ("NearSpell", "web", "LNearSpell$Web;", true)
  | 12 => ("NearSpell", "witness", "LNearSpell$Witness;", true)
  | 13 => ("NearSpell", "lying", "[I", true)
  | _ => ("NearSpell", "lyingSize", "I", false)
def tyX11 : Nat → FieldType := fun k => match k with
  | 0 => .array .byte
  | 1 => .int
  | 2 => .object "NearSpell$Book"
  | 3 => .object "NearSpell$Book"
  | 4 => .object "NearSpell$Reader"
  | 5 => .object "NearSpell$State"
  | 6 => .object "NearSpell$Archive"
  | 7 => .object "NearSpell$Ruler"
  | 8 => .object "NearSpell$Laid"
  | 9 => .object "NearSpell$Finder"
  | 10 => .object "NearSpell$Pieces"
  | 11 => .object "NearSpell$Web"
  | 12 => .object "NearSpell$Witness"
  | 13 => .array .int
  | _ => .int
set_option maxRecDepth 20000 in
theorem nmX11 : ∀ a, a < 15 → ∀ b, b < 15 → a ≠ b → (TX11 a).2.1 ≠ (TX11 b).2.1 := by decide +kernel
set_option maxRecDepth 20000 in
theorem tyX11_ok : ∀ k, k < 15 → parseFieldDescriptor (TX11 k).2.2.1 = some (tyX11 k) := by decide +kernel
def RX12 : String := "NearSpellModel"
def TX12 : u_T := fun k => match k with
  | 0 => ("NearSpellModel", "tape", "[B", true)
  | 1 => ("NearSpellModel", "text", "[B", true)
  | 2 => ("NearSpellModel", "taped", "I", false)
  | 3 => ("NearSpellModel", "size", "I", false)
  | 4 => ("NearSpellModel", "faultKind", "I", false)
  | 5 => ("NearSpellModel", "faultPlace", "I", false)
  | 6 => ("NearSpellModel", "at", "I", false)
  | 7 => ("NearSpellModel", "end", "I", false)
  | 8 => ("NearSpellModel", "token", "I", false)
  | 9 => ("NearSpellModel", "number", "I", false)
  | 10 => ("NearSpellModel", "name", "J", false)
  | 11 => ("NearSpellModel", "words", "[I", true)
  | 12 => ("NearSpellModel", "units", "[I", true)
  | 13 => ("NearSpellModel", "prefix", "[I", true)
  | 14 => ("NearSpellModel", "errors", "[I", true)
  | 15 => ("NearSpellModel", "buckets", "[I", true)
  | 16 => ("NearSpellModel", "slips", "[I", true)
  | 17 => ("NearSpellModel", "draw", "[I", true)
  | 18 => ("NearSpellModel", "told", "[I", true)
  | 19 => ("NearSpellModel", "spelled", "[I", true)
  | 20 => ("NearSpellModel", "uses", "[I", true)
  | 21 => ("NearSpellModel", "ruleFrom", "[I", true)
  | 22 => ("NearSpellModel", "ruleTo", "[I", true)
  | 23 => ("NearSpellModel", "code", "[I", true)
  | 24 => ("NearSpellModel", "codeNumber", "[I", true)
  | 25 => ("NearSpellModel", "eWhat", "[I", true)
  | 26 => ("NearSpellModel", "eSign", "[I", true)
  | 27 => ("NearSpellModel", "pile", "[I", true)
  | 28 => ("NearSpellModel", "bank", "I", false)
  | 29 => ("NearSpellModel", "rb", "I", false)
  | 30 => ("NearSpellModel", "codes", "I", false)
  | 31 => ("NearSpellModel", "within", "I", false)
  | 32 => ("NearSpellModel", "piled", "I", false)
  | 33 => ("NearSpellModel", "unitsInRule", "I", false)
  | 34 => ("NearSpellModel", "askForm", "I", false)
  | 35 => ("NearSpellModel", "all", "[I", true)
  | 36 => ("NearSpellModel", "formRow", "[I", true)
  | 37 => ("NearSpellModel", "storeRow", "[I", true)
  | 38 => ("NearSpellModel", "storeMany", "[I", true)
  | 39 => ("NearSpellModel", "formMany", "I", false)
  | 40 => ("NearSpellModel", "one", "[I", true)
  | 41 => ("NearSpellModel", "two", "[I", true)
  | 42 => ("NearSpellModel", "can", "[I", true)
  | 43 => ("NearSpellModel", "then", "[I", true)
  | 44 => ("NearSpellModel", "oneLong", "I", false)
  | 45 => ("NearSpellModel", "twoLong", "I", false)
  | 46 => ("NearSpellModel", "farBy", "[I", true)
  | 47 => ("NearSpellModel", "laidRow", "[I", true)
  | 48 => ("NearSpellModel", "laid", "I", false)
  | 49 => ("NearSpellModel", "costs", "[I", true)
  | 50 => ("NearSpellModel", "ways", "[I", true)
  | 51 => ("NearSpellModel", "nearBy", "[I", true)
  | 52 => ("NearSpellModel", "apartBy", "[I", true)
  | 53 => ("NearSpellModel", "unlike", "[I", true)
  | 54 => ("NearSpellModel", "was", "[I", true)
  | 55 => ("NearSpellModel", "acts", "I", false)
  | 56 => ("NearSpellModel", "undone", "I", false)
  | 57 => ("NearSpellModel", "sSpelled", "[I", true)
  | 58 => ("NearSpellModel", "sFar", "[I", true)
  | 59 => ("NearSpellModel", "sIs", "[I", true)
  | 60 => ("NearSpellModel", "sTold", "[I", true)
  | 61 => ("NearSpellModel", "sUntold", "[I", true)
  | 62 => ("NearSpellModel", "parted", "[I", true)
  | 63 => ("NearSpellModel", "seens", "I", false)
  | 64 => ("NearSpellModel", "time", "I", false)
  | 65 => ("NearSpellModel", "boxAll", "[I", true)
  | _ => ("NearSpellModel", "isBoxed", "[Z", true)
def tyX12 : Nat → FieldType := fun k => match k with
  | 0 => .array .byte
  | 1 => .array .byte
  | 2 => .int
  | 3 => .int
  | 4 => .int
  | 5 => .int
  | 6 => .int
  | 7 => .int
  | 8 => .int
  | 9 => .int
  | 10 => .long
  | 11 => .array .int
  | 12 => .array .int
  | 13 => .array .int
  | 14 => .array .int
  | 15 => .array .int
  | 16 => .array .int
  | 17 => .array .int
  | 18 => .array .int
  | 19 => .array .int
  | 20 => .array .int
  | 21 => .array .int
  | 22 => .array .int
  | 23 => .array .int
  | 24 => .array .int
  | 25 => .array .int
  | 26 => .array .int
  | 27 => .array .int
  | 28 => .int
  | 29 => .int
  | 30 => .int
  | 31 => .int
  | 32 => .int
  | 33 => .int
  | 34 => .int
  | 35 => .array .int
  | 36 => .array .int
  | 37 => .array .int
  | 38 => .array .int
  | 39 => .int
  | 40 => .array .int
  | 41 => .array .int
  | 42 => .array .int
  | 43 => .array .int
  | 44 => .int
  | 45 => .int
  | 46 => .array .int
  | 47 => .array .int
  | 48 => .int
  | 49 => .array .int
  | 50 => .array .int
  | 51 => .array .int
  | 52 => .array .int
  | 53 => .array .int
  | 54 => .array .int
  | 55 => .int
  | 56 => .int
  | 57 => .array .int
  | 58 => .array .int
  | 59 => .array .int
  | 60 => .array .int
  | 61 => .array .int
  | 62 => .array .int
  | 63 => .int
  | 64 => .int
  | 65 => .array .int
  | _ => .array .boolean
set_option maxRecDepth 20000 in
theorem nmX12 : ∀ a, a < 67 → ∀ b, b < 67 → a ≠ b → (TX12 a).2.1 ≠ (TX12 b).2.1 := by decide +kernel
set_option maxRecDepth 20000 in
theorem tyX12_ok : ∀ k, k < 67 → parseFieldDescriptor (TX12 k).2.2.1 = some (tyX12 k) := by decide +kernel
def wCl : List vw_C := [(RX0, TX0, 6), (RX1, TX1, 13), (RX2, TX2, 5), (RX3, TX3, 5), (RX4, TX4, 5), (RX5, TX5, 8), (RX6, TX6, 10), (RX7, TX7, 5), (RX8, TX8, 1), (RX9, TX9, 5), (RX10, TX10, 10), (RX11, TX11, 15), (RX12, TX12, 67)]
