/-! ===== what every contract carries ===== -/
def nestM : List (String × Nat × MethodName × String) := [(RX9, 9, yX2_init, "FrogParliament"), (RX2, 33, yX6_init, "FrogParliament"), (RX9, 24, yX5_init, "FrogParliament"), (RX5, 17, yX2_init, "FrogParliament"), (RX9, 31, yX8_init, "FrogParliament"), (RX9, 38, yX4_init, "FrogParliament"), (RX4, 17, yX3_init, "FrogParliament"), (RX9, 130, yX2_countOn, "FrogParliament"), (RX9, 406, yX2_hasMotion, "FrogParliament"), (RX9, 175, yX2_refusalToCall, "FrogParliament"), (RX9, 412, yX8_clear, "FrogParliament"), (RX9, 415, yX8_put, "FrogParliament"), (RX9, 196, yX8_takeFirst, "FrogParliament"), (RX9, 203, yX2_firstPlace, "FrogParliament"), (RX9, 260, yX6_sumOfSide, "FrogParliament"), (RX9, 264, yX2_sumForFromPond, "FrogParliament"), (RX2, 231, yX6_isFor, "FrogParliament"), (RX9, 60, yX2_refusalToAdmit, "FrogParliament"), (RX9, 68, yX5_push, "FrogParliament"), (RX5, 22, yX2_copyFrom, "FrogParliament"), (RX2, 53, yX6_copyFrom, "FrogParliament"), (RX9, 72, yX2_admit, "FrogParliament"), (RX9, 76, yX2_refusalToLay, "FrogParliament"), (RX9, 80, yX2_lay, "FrogParliament"), (RX9, 84, yX2_refusalToSeat, "FrogParliament"), (RX9, 87, yX2_seat, "FrogParliament"), (RX9, 90, yX2_refusalToUnseat, "FrogParliament"), (RX9, 93, yX2_unseat, "FrogParliament"), (RX9, 147, yX2_refusalToPropose, "FrogParliament"), (RX9, 150, yX2_propose, "FrogParliament"), (RX9, 163, yX2_refusalToEnlist, "FrogParliament"), (RX2, 157, yX6_placeOf, "FrogParliament"), (RX9, 166, yX2_enlist, "FrogParliament"), (RX2, 163, yX6_addToList, "FrogParliament"), (RX9, 178, yX2_callFirst, "FrogParliament"), (RX2, 173, yX6_clearPlace, "FrogParliament"), (RX9, 219, yX2_countRankedBefore, "FrogParliament"), (RX9, 248, yX2_refusalToSettle, "FrogParliament"), (RX9, 251, yX2_settle, "FrogParliament"), (RX2, 224, yX6_sumOfSide, "FrogParliament"), (RX9, 304, yX4_read, "FrogParliament"), (RX4, 85, yX3_addNumber, "FrogParliament"), (RX9, 316, yX2_copyFrom, "FrogParliament"), (RX9, 423, yX2_refusalOf, "FrogParliament"), (RX2, 214, yX6_hasCroakOf, "FrogParliament"), (RX9, 427, yX2_carryOut, "FrogParliament"), (RX2, 220, yX6_addCroak, "FrogParliament"), (RX9, 110, yX2_sits, "FrogParliament"), (RX9, 136, yX2_weightOfSet, "FrogParliament"), (RX9, 377, yX5_pop, "FrogParliament"), (RX9, 385, yX5_forget, "FrogParliament"), (RX9, 169, yX2_refusalToUnlist, "FrogParliament"), (RX9, 172, yX2_unlist, "FrogParliament"), (RX9, 224, yX2_refusalToSupport, "FrogParliament"), (RX9, 227, yX2_support, "FrogParliament"), (RX9, 240, yX2_refusalToHear, "FrogParliament"), (RX9, 244, yX2_hear, "FrogParliament"), (RX9, 388, yX2_hasFrog, "FrogParliament"), (RX9, 400, yX2_hasPad, "FrogParliament"), (RX9, 133, yX2_sittersOf, "FrogParliament"), (RX9, 206, yX6_placeOf, "FrogParliament"), (RX9, 209, yX2_isCalledBefore, "FrogParliament"), (RX9, 156, yX2_refusalOfPair, "FrogParliament"), (RX9, 159, yX2_entitles, "FrogParliament"), (RX9, 237, yX2_entitledTo, "FrogParliament")]
def nestF : List (String × Nat × String × String × String × String) := [(RX2, 127, "FrogParliament$Motion", "mask", "I", "FrogParliament"), (RX9, 200, "FrogParliament$Motion", "list", "[I", "FrogParliament"), (RX2, 182, "FrogParliament$Motion", "list", "[I", "FrogParliament"), (RX9, 188, "FrogParliament$Motion", "listed", "I", "FrogParliament"), (RX2, 167, "FrogParliament$Motion", "listed", "I", "FrogParliament"), (RX2, 148, "FrogParliament$Motion", "closed", "Z", "FrogParliament"), (RX9, 230, "FrogParliament$Motion", "closed", "Z", "FrogParliament"), (RX9, 234, "FrogParliament$Motion", "supporters", "I", "FrogParliament"), (RX2, 198, "FrogParliament$Motion", "supporters", "I", "FrogParliament"), (RX2, 234, "FrogParliament$Motion", "croakers", "[I", "FrogParliament"), (RX9, 275, "FrogParliament$Motion", "croakers", "[I", "FrogParliament"), (RX2, 237, "FrogParliament$Motion", "strengths", "[I", "FrogParliament"), (RX9, 272, "FrogParliament$Motion", "strengths", "[I", "FrogParliament"), (RX2, 228, "FrogParliament$Motion", "croaks", "I", "FrogParliament"), (RX9, 267, "FrogParliament$Motion", "croaks", "I", "FrogParliament"), (RX2, 141, "FrogParliament$Motion", "decided", "Z", "FrogParliament"), (RX9, 254, "FrogParliament$Motion", "decided", "Z", "FrogParliament"), (RX9, 257, "FrogParliament$Motion", "adopted", "Z", "FrogParliament"), (RX2, 246, "FrogParliament$Motion", "adopted", "Z", "FrogParliament"), (RX9, 216, "FrogParliament$Motion", "spoken", "I", "FrogParliament"), (RX2, 185, "FrogParliament$Motion", "spoken", "I", "FrogParliament"), (RX9, 96, "FrogParliament$Assembly", "frogs", "I", "FrogParliament"), (RX9, 103, "FrogParliament$Assembly", "ponds", "[I", "FrogParliament"), (RX9, 107, "FrogParliament$Assembly", "weights", "[I", "FrogParliament"), (RX9, 121, "FrogParliament$Assembly", "seats", "[I", "FrogParliament"), (RX9, 213, "FrogParliament$Assembly", "speechesBy", "[I", "FrogParliament"), (RX9, 139, "FrogParliament$Assembly", "sitting", "I", "FrogParliament"), (RX9, 124, "FrogParliament$Assembly", "pads", "I", "FrogParliament"), (RX9, 153, "FrogParliament$Assembly", "motionsMade", "I", "FrogParliament"), (RX9, 184, "FrogParliament$Assembly", "motions", "[LFrogParliament$Motion;", "FrogParliament"), (RX9, 281, "FrogParliament$Assembly", "speechesMade", "I", "FrogParliament"), (RX9, 284, "FrogParliament$Assembly", "turnsMissed", "I", "FrogParliament"), (RX9, 372, "FrogParliament$History", "size", "I", "FrogParliament"), (RX4, 43, "FrogParliament$Command", "action", "LFrogParliament$Action;", "FrogParliament"), (RX2, 259, "FrogParliament$Command", "action", "LFrogParliament$Action;", "FrogParliament"), (RX2, 249, "FrogParliament$Command", "numbers", "[I", "FrogParliament"), (RX4, 47, "FrogParliament$Command", "count", "I", "FrogParliament"), (RX9, 419, "FrogParliament$CommandReader", "commands", "[LFrogParliament$Command;", "FrogParliament"), (RX9, 322, "FrogParliament$CommandReader", "count", "I", "FrogParliament"), (RX9, 311, "FrogParliament$CommandReader", "position", "I", "FrogParliament"), (RX4, 57, "FrogParliament$Action", "form", "Ljava/lang/String;", "FrogParliament")]
def castL : List (String × String) := [("java/lang/IndexOutOfBoundsException", "java/lang/IndexOutOfBoundsException"), ("java/lang/IllegalArgumentException", "java/lang/IllegalArgumentException"), ("java/lang/IllegalStateException", "java/lang/IllegalStateException"), ("java/lang/UnsupportedOperationException", "java/lang/UnsupportedOperationException"), ("java/util/NoSuchElementException", "java/util/NoSuchElementException"), ("java/lang/ArrayIndexOutOfBoundsException", "java/lang/ArrayIndexOutOfBoundsException"), ("java/lang/ArithmeticException", "java/lang/ArithmeticException"), ("[B", "java/lang/Cloneable"), ("java/lang/ArrayIndexOutOfBoundsException", "java/lang/IndexOutOfBoundsException"), ("java/lang/StringIndexOutOfBoundsException", "java/lang/IndexOutOfBoundsException")]
def ncastL : List (String × String) := [("java/lang/IllegalStateException", "java/lang/IndexOutOfBoundsException"), ("java/util/NoSuchElementException", "java/lang/IndexOutOfBoundsException"), ("java/lang/IllegalArgumentException", "java/lang/IndexOutOfBoundsException"), ("java/lang/UnsupportedOperationException", "java/lang/IndexOutOfBoundsException"), ("java/lang/ArithmeticException", "java/lang/IndexOutOfBoundsException"), ("java/lang/IllegalStateException", "java/lang/IllegalArgumentException"), ("java/util/NoSuchElementException", "java/lang/IllegalArgumentException"), ("java/lang/IndexOutOfBoundsException", "java/lang/IllegalArgumentException"), ("java/lang/UnsupportedOperationException", "java/lang/IllegalArgumentException"), ("java/lang/ArithmeticException", "java/lang/IllegalArgumentException"), ("java/util/NoSuchElementException", "java/lang/IllegalStateException"), ("java/lang/IllegalArgumentException", "java/lang/IllegalStateException"), ("java/lang/IndexOutOfBoundsException", "java/lang/IllegalStateException"), ("java/lang/UnsupportedOperationException", "java/lang/IllegalStateException"), ("java/lang/ArithmeticException", "java/lang/IllegalStateException"), ("java/lang/IllegalStateException", "java/lang/UnsupportedOperationException"), ("java/util/NoSuchElementException", "java/lang/UnsupportedOperationException"), ("java/lang/IllegalArgumentException", "java/lang/UnsupportedOperationException"), ("java/lang/IndexOutOfBoundsException", "java/lang/UnsupportedOperationException"), ("java/lang/ArithmeticException", "java/lang/UnsupportedOperationException"), ("java/lang/IllegalStateException", "java/util/NoSuchElementException"), ("java/lang/IllegalArgumentException", "java/util/NoSuchElementException"), ("java/lang/IndexOutOfBoundsException", "java/util/NoSuchElementException"), ("java/lang/UnsupportedOperationException", "java/util/NoSuchElementException"), ("java/lang/ArithmeticException", "java/util/NoSuchElementException"), ("java/lang/IllegalStateException", "java/lang/ArithmeticException"), ("java/util/NoSuchElementException", "java/lang/ArithmeticException"), ("java/lang/IllegalArgumentException", "java/lang/ArithmeticException"), ("java/lang/IndexOutOfBoundsException", "java/lang/ArithmeticException"), ("java/lang/UnsupportedOperationException", "java/lang/ArithmeticException")]
def aoL : List String := ["FrogParliament$Motion", "FrogParliament$Assembly", "FrogParliament$Command"]
def decL : List MethodName := [yJx29ce0_ordinal_8abf5, ⟨"java/lang/RuntimeException", "<init>", "()V"⟩, ⟨"java/lang/RuntimeException", "<init>", "(Ljava/lang/String;)V"⟩, ⟨"java/lang/Exception", "<init>", "()V"⟩, ⟨"java/lang/Exception", "<init>", "(Ljava/lang/String;)V"⟩, ⟨"java/lang/Throwable", "<init>", "()V"⟩, ⟨"java/lang/Throwable", "<init>", "(Ljava/lang/String;)V"⟩, ⟨"java/lang/IndexOutOfBoundsException", "<init>", "()V"⟩, ⟨"java/lang/IndexOutOfBoundsException", "<init>", "(Ljava/lang/String;)V"⟩, ⟨"java/lang/Object", "toString", "()Ljava/lang/String;"⟩]
def strL : List (String × Nat × String) := [(RX9, 439, "there is no such pond"), (RX9, 441, "there is no such frog"), (RX9, 443, "there is no such pad"), (RX9, 445, "there is no such motion"), (RX9, 447, "the weight is not from 1 to 9"), (RX9, 449, "the capacity is not from 1 to 4"), (RX9, 451, "the mask is not from 1 to 15"), (RX9, 453, "the loudness is not from 1 to 9"), (RX9, 455, "the frog is not entitled to the motion"), (RX9, 457, "there are as many as there can be"), (RX9, 459, "the frog sits on this pad"), (RX9, 461, "the pad is full"), (RX9, 116, "the frog does not sit on a pad"), (RX9, 463, "the motion is decided"), (RX9, 465, "the list of the motion is closed"), (RX9, 467, "the list of the motion is not closed"), (RX9, 469, "a frog is on the list"), (RX9, 476, "the frog is on the list"), (RX9, 479, "the frog has croaked on the motion"), (RX9, 481, "the frog is not on the list"), (RX9, 483, "no frog is on the list"), (RX9, 222, "there is no such rank"), (RX9, 270, "no frog has croaked on the motion"), (RX9, 289, "the code of the character is not from 32 to 126"), (RX9, 297, "the command text has 60 characters"), (RX9, 314, "the text is not a command text"), (RX9, 325, "a command fails"), (RX9, 327, "no error position was set"), (RX9, 329, "no command has failed"), (RX9, 336, "the line has no such index"), (RX9, 343, "no frog sits on a pad"), (RX9, 375, "there is no change to undo"), (RX9, 383, "there is no snapshot"), (RX1, 61, "frog DD"), (RX1, 60, "FROG"), (RX1, 67, "pad D"), (RX1, 66, "PAD"), (RX1, 70, "hop N D"), (RX1, 69, "HOP"), (RX1, 73, "dive N"), (RX1, 72, "DIVE"), (RX1, 76, "motion N"), (RX1, 75, "MOTION"), (RX1, 79, "list D N"), (RX1, 78, "LIST"), (RX1, 82, "strike D N"), (RX1, 81, "STRIKE"), (RX1, 85, "call D"), (RX1, 84, "CALL"), (RX1, 88, "end D N"), (RX1, 87, "END"), (RX1, 91, "croak D NSD"), (RX1, 90, "CROAK"), (RX1, 94, "decide D"), (RX1, 93, "DECIDE")]
/-- words that are carried by every method: links of nest mates, casts, strings -/
def NW (U : State) : Prop :=
  (∀ q ∈ nestM, va_Nw (.methodLinkNest q.1 q.2.1 q.2.2.1 q.2.2.2) U) ∧ (∀ q ∈ nestF, va_Nw (.fieldLinkNest q.1 q.2.1 q.2.2.1 q.2.2.2.1 q.2.2.2.2.1 q.2.2.2.2.2) U) ∧
  (∀ q ∈ castL, va_Nw (.castable q.1 q.2) U) ∧ (∀ q ∈ ncastL, va_Nc q.1 q.2 U) ∧ (∀ C ∈ aoL, va_AO C U) ∧ (∀ x ∈ decL, va_Nw (.declares x) U) ∧ (∀ q ∈ strL, ∃ a : Nat, vk_R q.1 q.2.1 q.2.2 a U)
theorem NW.warm {s U : State} (hW : s.WarmedH U.vm) (h : NW s) : NW U :=
  ⟨fun q hq => va_Nw.warmM hW (h.1 q hq), fun q hq => va_Nw.warmF hW (h.2.1 q hq), fun q hq => va_Nw.warmC hW (h.2.2.1 q hq), fun q hq => va_Nc.moved hW.alike (h.2.2.2.1 q hq),
   fun C hC => va_AO.moved hW.alike (h.2.2.2.2.1 C hC), fun x hx => va_Nw.warmD hW (h.2.2.2.2.2.1 x hx), fun q hq => (h.2.2.2.2.2.2 q hq).elim fun a ha => ⟨a, vk_R.warm hW ha⟩⟩
theorem NW.calling {U : State} {g : JFrame} {mk : MethodId} {a : Array Value} (h : NW U) : NW (U.calling g mk a) := NW.warm (s := U) (U := U.calling g mk a) (State.WarmedH.refl U) h
/-- a program's constants: the enums, their tables, the strings of the forms; the JDK's statics that are read -/
abbrev GG : Type := va_G × (Nat → ClassId) × (Nat → Nat → Nat)
def swRl : List Int32 := [0, 1, 2, 3, 4, 5, 6, 7, 8, 9, 10, 11, 12, 13, 14, 15, 16, 17, 18, 19, 20, 21, 22]
def swAl : List Int32 := [1, 2, 3, 4, 5, 6, 7, 8, 9, 10, 0]
def dOnl : List Int32 := [48, 49, 50, 51, 52, 53, 54, 55, 56, 57, 48, 49, 50, 51, 52, 53, 54, 55, 56, 57, 48, 49, 50, 51, 52, 53, 54, 55, 56, 57, 48, 49, 50, 51, 52, 53, 54, 55, 56, 57, 48, 49, 50, 51, 52, 53, 54, 55, 56, 57, 48, 49, 50, 51, 52, 53, 54, 55, 56, 57, 48, 49, 50, 51, 52, 53, 54, 55, 56, 57, 48, 49, 50, 51, 52, 53, 54, 55, 56, 57, 48, 49, 50, 51, 52, 53, 54, 55, 56, 57, 48, 49, 50, 51, 52, 53, 54, 55, 56, 57]
def dTel : List Int32 := [48, 48, 48, 48, 48, 48, 48, 48, 48, 48, 49, 49, 49, 49, 49, 49, 49, 49, 49, 49, 50, 50, 50, 50, 50, 50, 50, 50, 50, 50, 51, 51, 51, 51, 51, 51, 51, 51, 51, 51, 52, 52, 52, 52, 52, 52, 52, 52, 52, 52, 53, 53, 53, 53, 53, 53, 53, 53, 53, 53, 54, 54, 54, 54, 54, 54, 54, 54, 54, 54, 55, 55, 55, 55, 55, 55, 55, 55, 55, 55, 56, 56, 56, 56, 56, 56, 56, 56, 56, 56, 57, 57, 57, 57, 57, 57, 57, 57, 57, 57]
abbrev nmR : List String := ["NOTHING", "NO_SUCH_POND", "NO_SUCH_FROG", "NO_SUCH_PAD", "NO_SUCH_MOTION", "WRONG_WEIGHT", "WRONG_CAPACITY", "WRONG_MASK", "WRONG_LOUDNESS", "NOT_ENTITLED", "TOO_MANY", "SITS_THERE", "PAD_FULL", "IN_WATER", "DECIDED", "LIST_CLOSED", "LIST_OPEN", "LIST_IN_USE", "ON_LIST", "NO_SEAT", "HAS_CROAKED", "NOT_ON_LIST", "LIST_EMPTY"]
abbrev nmA : List String := ["FROG", "PAD", "HOP", "DIVE", "MOTION", "LIST", "STRIKE", "CALL", "END", "CROAK", "DECIDE"]
def ST (g : GG) (A : Nat → Prop) (U : State) (H : Heap) : Prop :=
  va_En RX7 "LFrogParliament$Refusal;" nmR [("java/lang/Enum", "ordinal", "I", [0, 1, 2, 3, 4, 5, 6, 7, 8, 9, 10, 11, 12, 13, 14, 15, 16, 17, 18, 19, 20, 21, 22])] (g.2.2 0) A U H ∧
  va_En RX1 "LFrogParliament$Action;" nmA [("java/lang/Enum", "ordinal", "I", [0, 1, 2, 3, 4, 5, 6, 7, 8, 9, 10])] (g.2.2 1) A U H ∧
  va_Z RX0 "$SwitchMap$FrogParliament$Refusal" "[I" (.ref (g.2.2 2 0)) A U H ∧ va_T .int (g.2.2 2 0) 23 (fun j => .int (swRl.getD j 0)) A U H ∧
  va_Z RX0 "$SwitchMap$FrogParliament$Action" "[I" (.ref (g.2.2 2 1)) A U H ∧ va_T .int (g.2.2 2 1) 11 (fun j => .int (swAl.getD j 0)) A U H ∧
  va_Z RX4 "ACTIONS" "[LFrogParliament$Action;" (.ref (g.2.2 2 2)) A U H ∧ va_T (.object "FrogParliament$Action") (g.2.2 2 2) 11 (fun j => .ref (g.2.2 1 j)) A U H ∧
  va_Ef 11 RX1 "form" "Ljava/lang/String;" (fun i => .ref (g.2.2 3 i)) (g.2.2 1) A U H ∧ vk_S 11 [7, 5, 7, 6, 8, 8, 10, 6, 7, 11, 8] [[102, 114, 111, 103, 32, 68, 68], [112, 97, 100, 32, 68], [104, 111, 112, 32, 78, 32, 68], [100, 105, 118, 101, 32, 78], [109, 111, 116, 105, 111, 110, 32, 78], [108, 105, 115, 116, 32, 68, 32, 78], [115, 116, 114, 105, 107, 101, 32, 68, 32, 78], [99, 97, 108, 108, 32, 68], [101, 110, 100, 32, 68, 32, 78], [99, 114, 111, 97, 107, 32, 68, 32, 78, 83, 68], [100, 101, 99, 105, 100, 101, 32, 68]] (g.2.2 3) (g.2.2 4) A U H ∧
  vx_Zq Bundle.tN "UNASSIGNED_STACK" Bundle.steD A U H ∧ vx_Zq Bundle.tN "SUPPRESSED_SENTINEL" Bundle.listD A U H ∧
  va_Z RJ0 "COMPACT_STRINGS" "Z" (.int 1) A U H ∧
  va_Z RJ6 "DigitOnes" "[B" (.ref (g.2.2 2 3)) A U H ∧ va_T .byte (g.2.2 2 3) 100 (fun j => .int (dOnl.getD j 0)) A U H ∧
  va_Z RJ6 "DigitTens" "[B" (.ref (g.2.2 2 4)) A U H ∧ va_T .byte (g.2.2 2 4) 100 (fun j => .int (dTel.getD j 0)) A U H ∧
  vx_Zq "jdk/internal/util/Preconditions" "SIOOBE_FORMATTER" "Ljava/util/function/BiFunction;" A U H
theorem ST.moved {g : GG} {A : Nat → Prop} {u U : State} {H : Heap} (hv : u.vm.Alike U.vm) (h : ST g A u H) : ST g A U H := by
  obtain ⟨h1, h2, h3, h4, h5, h6, h7, h8, h9, h10, h11, h12, h13, h14, h15, h16, h17, h18⟩ := h
  exact ⟨va_En.moved hv h1, va_En.moved hv h2, va_Z.moved hv h3, va_T.moved hv h4, va_Z.moved hv h5, va_T.moved hv h6, va_Z.moved hv h7, va_T.moved hv h8, va_Ef.moved hv h9, vk_S.moved hv h10, vx_Zq.moved hv h11, vx_Zq.moved hv h12, va_Z.moved hv h13, va_Z.moved hv h14, va_T.moved hv h15, va_Z.moved hv h16, va_T.moved hv h17, vx_Zq.moved hv h18⟩
theorem ST.kept {g : GG} {A : Nat → Prop} {U : State} {H H1 : Heap} (h : ST g A U H) (hq : ∀ a : Nat, a < H.size → ¬ A a → H1[a]? = H[a]?) : ST g A U H1 := by
  obtain ⟨h1, h2, h3, h4, h5, h6, h7, h8, h9, h10, h11, h12, h13, h14, h15, h16, h17, h18⟩ := h
  exact ⟨h1.kept hq, h2.kept hq, h3.kept hq, h4.kept hq, h5.kept hq, h6.kept hq, h7.kept hq, h8.kept hq, h9.kept hq, h10.kept hq, h11.kept hq, h12.kept hq, h13.kept hq, h14.kept hq, h15.kept hq, h16.kept hq, h17.kept hq, h18.kept hq⟩
theorem ST.narrow {g : GG} {A B : Nat → Prop} {U : State} {H : Heap} (h : ST g A U H) (hq : ∀ q, B q → A q) : ST g B U H := by
  obtain ⟨h1, h2, h3, h4, h5, h6, h7, h8, h9, h10, h11, h12, h13, h14, h15, h16, h17, h18⟩ := h
  exact ⟨h1.narrow hq, h2.narrow hq, h3.narrow hq, h4.narrow hq, h5.narrow hq, h6.narrow hq, h7.narrow hq, h8.narrow hq, h9.narrow hq, h10.narrow hq, h11.narrow hq, h12.narrow hq, h13.narrow hq, h14.narrow hq, h15.narrow hq, h16.narrow hq, h17.narrow hq, h18.narrow hq⟩
/-! ===== the pool: a system's cells lie one behind another from b; M k j is the int in slot j of cell k ===== -/
abbrev Mem : Type := Nat → Nat → Int32
def upr (M : Mem) (k : Nat) (v : Nat → Int32) : Mem := fun k' => if k' = k then v else M k'
def up2 (M : Mem) (k j : Nat) (x : Int32) : Mem := upr M k (upd (M k) j x)
abbrev Shp : Type := Nat → (Nat → Int32) → va_E
def pw (N : Nat) (sh : Shp) (b : Nat → Nat) (M : Mem) : va_W := (List.range N).map (fun k => (b k, sh k (M k)))
theorem pw_get {N : Nat} {sh : Shp} {b : Nat → Nat} {M : Mem} {k : Nat} (X : va_W) (hk : k < N) : (X ++ pw N sh b M)[X.length + k]? = some (b k, sh k (M k)) := by
  rw [List.getElem?_append_right (by omega), Nat.add_sub_cancel_left]
  simp [pw, hk]
theorem pw_set {N : Nat} {sh : Shp} {b : Nat → Nat} {M : Mem} {k : Nat} {v : Nat → Int32} (X : va_W) (hk : k < N) : (X ++ pw N sh b M).set (X.length + k) (b k, sh k v) = X ++ pw N sh b (upr M k v) := by
  rw [List.set_append_right _ _ (by omega), Nat.add_sub_cancel_left]
  congr 1
  apply List.ext_getElem?
  intro i
  rw [List.getElem?_set]
  simp only [pw, List.length_map, List.length_range, List.getElem?_map]
  by_cases h : k = i
  · subst h
    simp [hk, upr]
  · rw [if_neg h]
    by_cases hi : i < N
    · simp [hi, upr, Ne.symm h]
    · simp [hi]
/-- the cells that a method may change: its world's, and new ones -/
def AA (X : va_W) (b : Nat → Nat) (N sz : Nat) : Nat → Prop := fun q => (∃ (k : Nat) (e : va_E), X[k]? = some (q, e)) ∨ (∃ k : Nat, k < N ∧ b k = q) ∨ sz ≤ q
theorem AA.mono {X : va_W} {b : Nat → Nat} {N sz sz' : Nat} (h : sz ≤ sz') : ∀ q, AA X b N sz' q → AA X b N sz q := fun q hq => by
  rcases hq with h1 | h1 | h1
  · exact Or.inl h1
  · exact Or.inr (Or.inl h1)
  · exact Or.inr (Or.inr (Nat.le_trans h h1))
theorem AA.new {X : va_W} {b : Nat → Nat} {N sz : Nat} : ∀ q, sz ≤ q → AA X b N sz q := fun _ h => Or.inr (Or.inr h)
theorem pw_D {X : va_W} {N : Nat} {sh : Shp} {b : Nat → Nat} {M M' : Mem} {A : Nat → Prop} (h : va_D A (X ++ pw N sh b M)) : va_D A (X ++ pw N sh b M') := by
  have key : ∀ (k : Nat) (q : Nat × va_E), (X ++ pw N sh b M')[k]? = some q → ∃ e, (X ++ pw N sh b M)[k]? = some (q.1, e) := by
    intro k q hk
    by_cases hl : k < X.length
    · rw [List.getElem?_append_left hl] at hk ⊢
      exact ⟨q.2, hk⟩
    · rw [List.getElem?_append_right (by omega)] at hk ⊢
      simp only [pw, List.getElem?_map] at hk ⊢
      cases hr : (List.range N)[k - X.length]? with
      | none => rw [hr] at hk; cases hk
      | some i => rw [hr] at hk; cases hk; exact ⟨_, rfl⟩
  refine ⟨fun i j x y hi hj hxy => ?_, fun k q hk => ?_⟩
  · obtain ⟨e1, h1⟩ := key i x hi
    obtain ⟨e2, h2⟩ := key j y hj
    exact h.1 i j _ _ h1 h2 hxy
  · obtain ⟨e1, h1⟩ := key k q hk
    exact (h.2 k (q.1, e1) h1 : A q.1)
theorem pw_A {X : va_W} {N : Nat} {sh : Shp} {b : Nat → Nat} {sz : Nat} {M : Mem} {A : Nat → Prop} (h : va_D A (X ++ pw N sh b M)) : va_D (AA X b N sz) (X ++ pw N sh b M) := by
  refine ⟨h.1, fun k q hk => ?_⟩
  by_cases hl : k < X.length
  · rw [List.getElem?_append_left hl] at hk
    exact Or.inl ⟨k, q.2, hk⟩
  · rw [List.getElem?_append_right (by omega)] at hk
    simp only [pw, List.getElem?_map] at hk
    cases hr : (List.range N)[k - X.length]? with
    | none => rw [hr] at hk; cases hk
    | some i =>
      have hi : i < N := List.mem_range.mp (List.mem_of_getElem? hr)
      rw [hr] at hk; cases hk
      exact Or.inr (Or.inl ⟨i, hi, rfl⟩)
abbrev tysG (g : GG) : List (ClassId × FieldType) := [(g.2.1 0, .int), (g.2.1 1, .object "FrogParliament$Motion"), (g.2.1 2, .object "FrogParliament$Assembly"), (g.2.1 3, .object "FrogParliament$Command"), (g.2.1 4, .byte)]
/-- a method's start -/
def PreP (g : GG) (X : va_W) (N : Nat) (sh : Shp) (b : Nat → Nat) (sz : Nat) (M : Mem) (U : State) : Prop :=
  U.heap.size = sz ∧ va_P g.1 vwCl (X ++ pw N sh b M) U.heap ∧ va_K g.1 vwCl (tysG g) U ∧ va_D (fun _ => True) (X ++ pw N sh b M) ∧ ST g (AA X b N sz) U U.heap ∧ NW U
/-- its end -/
def PoP (g : GG) (X : va_W) (N : Nat) (sh : Shp) (b : Nat → Nat) (M : Mem) (t : State) : Prop := va_P g.1 vwCl (X ++ pw N sh b M) t.heap
/-- what stays over a walk -/
def CX (g : GG) (X : va_W) (N : Nat) (sh : Shp) (b : Nat → Nat) (s : State) : Prop :=
  va_K g.1 vwCl (tysG g) s ∧ (∀ M, va_D (AA X b N s.heap.size) (X ++ pw N sh b M)) ∧ ST g (AA X b N s.heap.size) s s.heap ∧ NW s
/-- what moves -/
def PI (g : GG) (X : va_W) (N : Nat) (sh : Shp) (b : Nat → Nat) (s : State) (M : Mem) (H : Heap) (locs : List Loc) : Prop :=
  va_P g.1 vwCl (X ++ pw N sh b M) H ∧ va_S (AA X b N s.heap.size) s.heap H locs
theorem PreP.blind {g : GG} {X : va_W} {N : Nat} {sh : Shp} {b : Nat → Nat} {sz : Nat} {M : Mem} {av : List Value} : FrameBlind (va_Pc av (PreP g X N sh b sz M)) := fun a U gf mk h => by
  obtain ⟨h0, h1, h2, h3, h4, h5, h6⟩ := h
  exact ⟨h0, h1, h2, va_K.moved (u := U) (U := U.calling gf mk a) (Vm.Alike.refl U.vm) h3, h4, ST.moved (u := U) (U := U.calling gf mk a) (Vm.Alike.refl U.vm) h5, NW.calling h6⟩
/-- the caller's side of a start -/
theorem PreP.call {g : GG} {X : va_W} {N : Nat} {sh : Shp} {b : Nat → Nat} {M : Mem} {s : State} {H : Heap} {locs : List Loc} (C1 : CX g X N sh b s) (hI : PI g X N sh b s M H locs) {U : State} (hU : U.heap = H) (hW : s.WarmedH U.vm) : PreP g X N sh b H.size M U :=
  ⟨by rw [hU], by rw [hU]; exact hI.1, va_K.moved hW.alike C1.1, (C1.2.1 M).weaken (fun _ _ _ _ => trivial), by rw [hU]; exact ((C1.2.2.1.kept hI.2.2.1).moved hW.alike).narrow (AA.mono hI.2.1), NW.warm hW C1.2.2.2⟩
/-- a start gives the walk's facts -/
theorem PreP.go {g : GG} {X : va_W} {N : Nat} {sh : Shp} {b : Nat → Nat} {sz : Nat} {M : Mem} {s : State} (h : PreP g X N sh b sz M s) : sz = s.heap.size ∧ CX g X N sh b s ∧ PI g X N sh b s M s.heap [] := by
  obtain ⟨h1, h2, h3, h4, h5, h6⟩ := h
  subst h1
  exact ⟨rfl, ⟨h3, fun M' => pw_A (pw_D h4), h5, h6⟩, h2, va_S.rf⟩
theorem CX.fr {g : GG} {X : va_W} {N : Nat} {sh : Shp} {b : Nat → Nat} {M : Mem} {s : State} {H : Heap} {locs : List Loc} (hI : PI g X N sh b s M H locs) : ∀ q, AA X b N H.size q → AA X b N s.heap.size q := AA.mono hI.2.1
