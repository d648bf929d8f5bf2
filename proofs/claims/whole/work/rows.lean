section
-- ===== PART A: goes FIRST, ahead of the names: the tables' words, and 'selects' of the private methods out of them =====
/-- a private method of a class that the tables say can be made, by its rows of tables_1 -/
def lw_okq (q : MethodName × Nat) : Prop := (q.1.cls ≠ "java/lang/invoke/MethodHandle" ∧ q.1.cls ≠ "java/lang/invoke/VarHandle") ∧ Cond.instantiable q.1.cls q.2 ∈ tables_1 ∧ Cond.privateMethod q.1 ∈ tables_1 ∧ Cond.instanceMethod q.1 ∈ tables_1
theorem lw_p0 : lw_okq (⟨"PaperSetter$Bank", "weightOf", "(II)I"⟩, 5) := ⟨⟨by decide +kernel, by decide +kernel⟩, List.mem_of_getElem? (i := 23) (by decide +kernel), List.mem_of_getElem? (i := 361) (by decide +kernel), List.mem_of_getElem? (i := 362) (by decide +kernel)⟩
theorem lw_p1 : lw_okq (⟨"PaperSetter$Bank", "fitsInto", "(II)Z"⟩, 5) := ⟨⟨by decide +kernel, by decide +kernel⟩, List.mem_of_getElem? (i := 23) (by decide +kernel), List.mem_of_getElem? (i := 375) (by decide +kernel), List.mem_of_getElem? (i := 376) (by decide +kernel)⟩
theorem lw_p2 : lw_okq (⟨"PaperSetter$Units", "sumUpFromEachOn", "()V"⟩, 5) := ⟨⟨by decide +kernel, by decide +kernel⟩, List.mem_of_getElem? (i := 78) (by decide +kernel), List.mem_of_getElem? (i := 413) (by decide +kernel), List.mem_of_getElem? (i := 414) (by decide +kernel)⟩
theorem lw_p3 : lw_okq (⟨"PaperSetter$WhySearch", "keepable", "(I)I"⟩, 6) := ⟨⟨by decide +kernel, by decide +kernel⟩, List.mem_of_getElem? (i := 169) (by decide +kernel), List.mem_of_getElem? (i := 446) (by decide +kernel), List.mem_of_getElem? (i := 447) (by decide +kernel)⟩
theorem lw_p4 : lw_okq (⟨"PaperSetter$VersionSearch", "pairWithOthers", "(III)V"⟩, 13) := ⟨⟨by decide +kernel, by decide +kernel⟩, List.mem_of_getElem? (i := 185) (by decide +kernel), List.mem_of_getElem? (i := 506) (by decide +kernel), List.mem_of_getElem? (i := 507) (by decide +kernel)⟩
theorem lw_p5 : lw_okq (⟨"PaperSetter$VersionSearch", "areAlike", "(III)Z"⟩, 13) := ⟨⟨by decide +kernel, by decide +kernel⟩, List.mem_of_getElem? (i := 185) (by decide +kernel), List.mem_of_getElem? (i := 511) (by decide +kernel), List.mem_of_getElem? (i := 512) (by decide +kernel)⟩
theorem lw_p6 : lw_okq (⟨"PaperSetter$VersionSearch", "isBetter", "(II)Z"⟩, 13) := ⟨⟨by decide +kernel, by decide +kernel⟩, List.mem_of_getElem? (i := 185) (by decide +kernel), List.mem_of_getElem? (i := 518) (by decide +kernel), List.mem_of_getElem? (i := 519) (by decide +kernel)⟩
theorem lw_p7 : lw_okq (⟨"PaperSetter$VersionSearch", "countOfBoth", "(II)I"⟩, 13) := ⟨⟨by decide +kernel, by decide +kernel⟩, List.mem_of_getElem? (i := 185) (by decide +kernel), List.mem_of_getElem? (i := 522) (by decide +kernel), List.mem_of_getElem? (i := 523) (by decide +kernel)⟩
theorem lw_p8 : lw_okq (⟨"PaperSetter$Ordering", "reckonJoinCosts", "(LPaperSetter$Bank;)V"⟩, 10) := ⟨⟨by decide +kernel, by decide +kernel⟩, List.mem_of_getElem? (i := 224) (by decide +kernel), List.mem_of_getElem? (i := 549) (by decide +kernel), List.mem_of_getElem? (i := 550) (by decide +kernel)⟩
theorem lw_p9 : lw_okq (⟨"PaperSetter$Ordering", "reckonRestCosts", "()V"⟩, 10) := ⟨⟨by decide +kernel, by decide +kernel⟩, List.mem_of_getElem? (i := 224) (by decide +kernel), List.mem_of_getElem? (i := 560) (by decide +kernel), List.mem_of_getElem? (i := 561) (by decide +kernel)⟩
theorem lw_p10 : lw_okq (⟨"PaperSetter$Ordering", "cheapestBehind", "(II)I"⟩, 10) := ⟨⟨by decide +kernel, by decide +kernel⟩, List.mem_of_getElem? (i := 224) (by decide +kernel), List.mem_of_getElem? (i := 564) (by decide +kernel), List.mem_of_getElem? (i := 565) (by decide +kernel)⟩
theorem lw_p11 : lw_okq (⟨"PaperSetter$Ordering", "costBehind", "(III)I"⟩, 10) := ⟨⟨by decide +kernel, by decide +kernel⟩, List.mem_of_getElem? (i := 224) (by decide +kernel), List.mem_of_getElem? (i := 569) (by decide +kernel), List.mem_of_getElem? (i := 570) (by decide +kernel)⟩
theorem lw_p12 : lw_okq (⟨"PaperSetter$Ordering", "placeUnits", "()V"⟩, 10) := ⟨⟨by decide +kernel, by decide +kernel⟩, List.mem_of_getElem? (i := 224) (by decide +kernel), List.mem_of_getElem? (i := 573) (by decide +kernel), List.mem_of_getElem? (i := 574) (by decide +kernel)⟩
theorem lw_p13 : lw_okq (⟨"PaperSetter$Ordering", "placeQuestions", "(I)V"⟩, 10) := ⟨⟨by decide +kernel, by decide +kernel⟩, List.mem_of_getElem? (i := 224) (by decide +kernel), List.mem_of_getElem? (i := 577) (by decide +kernel), List.mem_of_getElem? (i := 578) (by decide +kernel)⟩
theorem lw_p14 : lw_okq (⟨"PaperSetter$Ordering", "countSteps", "(LPaperSetter$Bank;)V"⟩, 10) := ⟨⟨by decide +kernel, by decide +kernel⟩, List.mem_of_getElem? (i := 224) (by decide +kernel), List.mem_of_getElem? (i := 581) (by decide +kernel), List.mem_of_getElem? (i := 582) (by decide +kernel)⟩
theorem lw_p15 : lw_okq (⟨"PaperSetterModel", "isQuestion", "(I)Z"⟩, 30) := ⟨⟨by decide +kernel, by decide +kernel⟩, List.mem_of_getElem? (i := 597) (by decide +kernel), List.mem_of_getElem? (i := 707) (by decide +kernel), List.mem_of_getElem? (i := 708) (by decide +kernel)⟩
def lw_privs_1 : List (MethodName × Nat) := [(⟨"PaperSetter$Bank", "weightOf", "(II)I"⟩, 5), (⟨"PaperSetter$Bank", "fitsInto", "(II)Z"⟩, 5), (⟨"PaperSetter$Units", "sumUpFromEachOn", "()V"⟩, 5), (⟨"PaperSetter$WhySearch", "keepable", "(I)I"⟩, 6), (⟨"PaperSetter$VersionSearch", "pairWithOthers", "(III)V"⟩, 13), (⟨"PaperSetter$VersionSearch", "areAlike", "(III)Z"⟩, 13), (⟨"PaperSetter$VersionSearch", "isBetter", "(II)Z"⟩, 13), (⟨"PaperSetter$VersionSearch", "countOfBoth", "(II)I"⟩, 13), (⟨"PaperSetter$Ordering", "reckonJoinCosts", "(LPaperSetter$Bank;)V"⟩, 10), (⟨"PaperSetter$Ordering", "reckonRestCosts", "()V"⟩, 10), (⟨"PaperSetter$Ordering", "cheapestBehind", "(II)I"⟩, 10), (⟨"PaperSetter$Ordering", "costBehind", "(III)I"⟩, 10), (⟨"PaperSetter$Ordering", "placeUnits", "()V"⟩, 10), (⟨"PaperSetter$Ordering", "placeQuestions", "(I)V"⟩, 10), (⟨"PaperSetter$Ordering", "countSteps", "(LPaperSetter$Bank;)V"⟩, 10), (⟨"PaperSetterModel", "isQuestion", "(I)Z"⟩, 30)]
theorem lw_r1 : ∀ q ∈ lw_privs_1, lw_okq q := List.forall_mem_cons.mpr ⟨lw_p0, List.forall_mem_cons.mpr ⟨lw_p1, List.forall_mem_cons.mpr ⟨lw_p2, List.forall_mem_cons.mpr ⟨lw_p3, List.forall_mem_cons.mpr ⟨lw_p4, List.forall_mem_cons.mpr ⟨lw_p5, List.forall_mem_cons.mpr ⟨lw_p6, List.forall_mem_cons.mpr ⟨lw_p7, List.forall_mem_cons.mpr ⟨lw_p8, List.forall_mem_cons.mpr ⟨lw_p9, List.forall_mem_cons.mpr ⟨lw_p10, List.forall_mem_cons.mpr ⟨lw_p11, List.forall_mem_cons.mpr ⟨lw_p12, List.forall_mem_cons.mpr ⟨lw_p13, List.forall_mem_cons.mpr ⟨lw_p14, List.forall_mem_cons.mpr ⟨lw_p15, fun _ h => absurd h List.not_mem_nil⟩⟩⟩⟩⟩⟩⟩⟩⟩⟩⟩⟩⟩⟩⟩⟩
theorem lw_p16 : lw_okq (⟨"PaperSetterModel", "isSet", "(I)Z"⟩, 30) := ⟨⟨by decide +kernel, by decide +kernel⟩, List.mem_of_getElem? (i := 597) (by decide +kernel), List.mem_of_getElem? (i := 738) (by decide +kernel), List.mem_of_getElem? (i := 739) (by decide +kernel)⟩
theorem lw_p17 : lw_okq (⟨"PaperSetterModel", "isResting", "(I)Z"⟩, 30) := ⟨⟨by decide +kernel, by decide +kernel⟩, List.mem_of_getElem? (i := 597) (by decide +kernel), List.mem_of_getElem? (i := 746) (by decide +kernel), List.mem_of_getElem? (i := 747) (by decide +kernel)⟩
theorem lw_p18 : lw_okq (⟨"PaperSetterModel", "sumOf", "(II)I"⟩, 30) := ⟨⟨by decide +kernel, by decide +kernel⟩, List.mem_of_getElem? (i := 597) (by decide +kernel), List.mem_of_getElem? (i := 754) (by decide +kernel), List.mem_of_getElem? (i := 755) (by decide +kernel)⟩
theorem lw_p19 : lw_okq (⟨"PaperSetterModel", "adds", "(II)I"⟩, 30) := ⟨⟨by decide +kernel, by decide +kernel⟩, List.mem_of_getElem? (i := 597) (by decide +kernel), List.mem_of_getElem? (i := 758) (by decide +kernel), List.mem_of_getElem? (i := 759) (by decide +kernel)⟩
theorem lw_p20 : lw_okq (⟨"PaperSetterModel", "isFit", "(I)Z"⟩, 30) := ⟨⟨by decide +kernel, by decide +kernel⟩, List.mem_of_getElem? (i := 597) (by decide +kernel), List.mem_of_getElem? (i := 762) (by decide +kernel), List.mem_of_getElem? (i := 763) (by decide +kernel)⟩
theorem lw_p21 : lw_okq (⟨"PaperSetterModel", "brokenBy", "(I)I"⟩, 30) := ⟨⟨by decide +kernel, by decide +kernel⟩, List.mem_of_getElem? (i := 597) (by decide +kernel), List.mem_of_getElem? (i := 766) (by decide +kernel), List.mem_of_getElem? (i := 767) (by decide +kernel)⟩
theorem lw_p22 : lw_okq (⟨"PaperSetterModel", "spreadOf", "(I)I"⟩, 30) := ⟨⟨by decide +kernel, by decide +kernel⟩, List.mem_of_getElem? (i := 597) (by decide +kernel), List.mem_of_getElem? (i := 770) (by decide +kernel), List.mem_of_getElem? (i := 771) (by decide +kernel)⟩
theorem lw_p23 : lw_okq (⟨"PaperSetterModel", "atHand", "()I"⟩, 30) := ⟨⟨by decide +kernel, by decide +kernel⟩, List.mem_of_getElem? (i := 597) (by decide +kernel), List.mem_of_getElem? (i := 781) (by decide +kernel), List.mem_of_getElem? (i := 782) (by decide +kernel)⟩
theorem lw_p24 : lw_okq (⟨"PaperSetterModel", "works", "()V"⟩, 30) := ⟨⟨by decide +kernel, by decide +kernel⟩, List.mem_of_getElem? (i := 597) (by decide +kernel), List.mem_of_getElem? (i := 785) (by decide +kernel), List.mem_of_getElem? (i := 786) (by decide +kernel)⟩
theorem lw_p25 : lw_okq (⟨"PaperSetterModel", "areOnePassage", "(II)Z"⟩, 30) := ⟨⟨by decide +kernel, by decide +kernel⟩, List.mem_of_getElem? (i := 597) (by decide +kernel), List.mem_of_getElem? (i := 789) (by decide +kernel), List.mem_of_getElem? (i := 790) (by decide +kernel)⟩
theorem lw_p26 : lw_okq (⟨"PaperSetterModel", "isPaper", "(I)Z"⟩, 30) := ⟨⟨by decide +kernel, by decide +kernel⟩, List.mem_of_getElem? (i := 597) (by decide +kernel), List.mem_of_getElem? (i := 793) (by decide +kernel), List.mem_of_getElem? (i := 794) (by decide +kernel)⟩
theorem lw_p27 : lw_okq (⟨"PaperSetterModel", "spread", "(I)I"⟩, 30) := ⟨⟨by decide +kernel, by decide +kernel⟩, List.mem_of_getElem? (i := 597) (by decide +kernel), List.mem_of_getElem? (i := 797) (by decide +kernel), List.mem_of_getElem? (i := 798) (by decide +kernel)⟩
theorem lw_p28 : lw_okq (⟨"PaperSetterModel", "told", "(I)I"⟩, 30) := ⟨⟨by decide +kernel, by decide +kernel⟩, List.mem_of_getElem? (i := 597) (by decide +kernel), List.mem_of_getElem? (i := 804) (by decide +kernel), List.mem_of_getElem? (i := 805) (by decide +kernel)⟩
theorem lw_p29 : lw_okq (⟨"PaperSetterModel", "isKept", "(I)Z"⟩, 30) := ⟨⟨by decide +kernel, by decide +kernel⟩, List.mem_of_getElem? (i := 597) (by decide +kernel), List.mem_of_getElem? (i := 815) (by decide +kernel), List.mem_of_getElem? (i := 816) (by decide +kernel)⟩
theorem lw_p30 : lw_okq (⟨"PaperSetterModel", "lays", "(I)V"⟩, 30) := ⟨⟨by decide +kernel, by decide +kernel⟩, List.mem_of_getElem? (i := 597) (by decide +kernel), List.mem_of_getElem? (i := 831) (by decide +kernel), List.mem_of_getElem? (i := 832) (by decide +kernel)⟩
theorem lw_p31 : lw_okq (⟨"PaperSetterModel", "nextRow", "()Z"⟩, 30) := ⟨⟨by decide +kernel, by decide +kernel⟩, List.mem_of_getElem? (i := 597) (by decide +kernel), List.mem_of_getElem? (i := 835) (by decide +kernel), List.mem_of_getElem? (i := 836) (by decide +kernel)⟩
def lw_privs_2 : List (MethodName × Nat) := [(⟨"PaperSetterModel", "isSet", "(I)Z"⟩, 30), (⟨"PaperSetterModel", "isResting", "(I)Z"⟩, 30), (⟨"PaperSetterModel", "sumOf", "(II)I"⟩, 30), (⟨"PaperSetterModel", "adds", "(II)I"⟩, 30), (⟨"PaperSetterModel", "isFit", "(I)Z"⟩, 30), (⟨"PaperSetterModel", "brokenBy", "(I)I"⟩, 30), (⟨"PaperSetterModel", "spreadOf", "(I)I"⟩, 30), (⟨"PaperSetterModel", "atHand", "()I"⟩, 30), (⟨"PaperSetterModel", "works", "()V"⟩, 30), (⟨"PaperSetterModel", "areOnePassage", "(II)Z"⟩, 30), (⟨"PaperSetterModel", "isPaper", "(I)Z"⟩, 30), (⟨"PaperSetterModel", "spread", "(I)I"⟩, 30), (⟨"PaperSetterModel", "told", "(I)I"⟩, 30), (⟨"PaperSetterModel", "isKept", "(I)Z"⟩, 30), (⟨"PaperSetterModel", "lays", "(I)V"⟩, 30), (⟨"PaperSetterModel", "nextRow", "()Z"⟩, 30)]
theorem lw_r2 : ∀ q ∈ lw_privs_2, lw_okq q := List.forall_mem_cons.mpr ⟨lw_p16, List.forall_mem_cons.mpr ⟨lw_p17, List.forall_mem_cons.mpr ⟨lw_p18, List.forall_mem_cons.mpr ⟨lw_p19, List.forall_mem_cons.mpr ⟨lw_p20, List.forall_mem_cons.mpr ⟨lw_p21, List.forall_mem_cons.mpr ⟨lw_p22, List.forall_mem_cons.mpr ⟨lw_p23, List.forall_mem_cons.mpr ⟨lw_p24, List.forall_mem_cons.mpr ⟨lw_p25, List.forall_mem_cons.mpr ⟨lw_p26, List.forall_mem_cons.mpr ⟨lw_p27, List.forall_mem_cons.mpr ⟨lw_p28, List.forall_mem_cons.mpr ⟨lw_p29, List.forall_mem_cons.mpr ⟨lw_p30, List.forall_mem_cons.mpr ⟨lw_p31, fun _ h => absurd h List.not_mem_nil⟩⟩⟩⟩⟩⟩⟩⟩⟩⟩⟩⟩⟩⟩⟩⟩
def lw_privs : List (MethodName × Nat) := lw_privs_1 ++ (lw_privs_2)
def lw_tbl : List Cond := k2_sels lw_privs ++ tables_1
theorem lw_privs_ok : ∀ q ∈ lw_privs, lw_okq q := by
  show ∀ q ∈ lw_privs_1 ++ (lw_privs_2), lw_okq q
  exact List.forall_mem_append.mpr ⟨lw_r1, lw_r2⟩

def RX0 : String := "PaperSetter$Bank"
def TX0 : u_T := fun k => match k with
  | 0 => ("PaperSetter$Bank", "facts", "[[I", true)
  | 1 => ("PaperSetter$Bank", "givesAway", "[I", true)
  | 2 => ("PaperSetter$Bank", "size", "I", false)
  | 3 => ("PaperSetter$Bank", "termNow", "I", false)
  | _ => ("PaperSetter$Bank", "restTerms", "I", false)
def tyX0 : Nat → FieldType := fun k => match k with
  | 0 => .array (.array .int)
  | 1 => .array .int
  | 2 => .int
  | 3 => .int
  | _ => .int
abbrev wsX00 : List Cond := u_ws RX0 TX0 5
theorem nmX0 : ∀ a, a < 5 → ∀ b, b < 5 → a ≠ b → (TX0 a).2.1 ≠ (TX0 b).2.1 := by decide +kernel
theorem tyX0_ok : ∀ k, k < 5 → parseFieldDescriptor (TX0 k).2.2.1 = some (tyX0 k) := by decide +kernel
abbrev cX0_init : ByteArray := prog_2_method_1_code
def yX0_init : MethodName := ⟨RX0, "<init>", "()V"⟩
abbrev cX0_has : ByteArray := prog_2_method_2_code
def yX0_has : MethodName := ⟨RX0, "has", "(I)Z"⟩
abbrev cX0_hasAll : ByteArray := prog_2_method_3_code
def yX0_hasAll : MethodName := ⟨RX0, "hasAll", "(I)Z"⟩
abbrev cX0_isResting : ByteArray := prog_2_method_4_code
def yX0_isResting : MethodName := ⟨RX0, "isResting", "(I)Z"⟩
abbrev cX0_countAtHand : ByteArray := prog_2_method_5_code
def yX0_countAtHand : MethodName := ⟨RX0, "countAtHand", "()I"⟩
abbrev cX0_wholeOf : ByteArray := prog_2_method_6_code
def yX0_wholeOf : MethodName := ⟨RX0, "wholeOf", "(I)I"⟩
abbrev cX0_isFit : ByteArray := prog_2_method_7_code
def yX0_isFit : MethodName := ⟨RX0, "isFit", "(I)Z"⟩
abbrev cX0_fitsInto : ByteArray := prog_2_method_8_code
def yX0_fitsInto : MethodName := ⟨RX0, "fitsInto", "(II)Z"⟩
abbrev cX0_clashesWith : ByteArray := prog_2_method_9_code
def yX0_clashesWith : MethodName := ⟨RX0, "clashesWith", "(I)I"⟩
abbrev cX0_sumUp : ByteArray := prog_2_method_10_code
def yX0_sumUp : MethodName := ⟨RX0, "sumUp", "(I[I)V"⟩
abbrev cX0_weightOf : ByteArray := prog_2_method_11_code
def yX0_weightOf : MethodName := ⟨RX0, "weightOf", "(II)I"⟩
def RX1 : String := "PaperSetter$BestSearch"
def TX1 : u_T := fun k => match k with
  | 0 => ("PaperSetter$Search", "units", "LPaperSetter$Units;", true)
  | 1 => ("PaperSetter$Search", "limits", "LPaperSetter$Limits;", true)
  | 2 => ("PaperSetter$Search", "sums", "[I", true)
  | 3 => ("PaperSetter$Search", "set", "I", false)
  | 4 => ("PaperSetter$Search", "takenUnits", "I", false)
  | 5 => ("PaperSetter$BestSearch", "bestSet", "I", false)
  | 6 => ("PaperSetter$BestSearch", "bestSpread", "I", false)
  | _ => ("PaperSetter$BestSearch", "bestCount", "I", false)
def tyX1 : Nat → FieldType := fun k => match k with
  | 0 => .object "PaperSetter$Units"
  | 1 => .object "PaperSetter$Limits"
  | 2 => .array .int
  | 3 => .int
  | 4 => .int
  | 5 => .int
  | 6 => .int
  | _ => .int
abbrev wsX10 : List Cond := u_ws RX1 TX1 8
theorem nmX1 : ∀ a, a < 8 → ∀ b, b < 8 → a ≠ b → (TX1 a).2.1 ≠ (TX1 b).2.1 := by decide +kernel
theorem tyX1_ok : ∀ k, k < 8 → parseFieldDescriptor (TX1 k).2.2.1 = some (tyX1 k) := by decide +kernel
abbrev cX1_init : ByteArray := prog_3_method_1_code
def yX1_init : MethodName := ⟨RX1, "<init>", "(LPaperSetter$Units;LPaperSetter$Limits;)V"⟩
abbrev cX1_findBest : ByteArray := prog_3_method_2_code
def yX1_findBest : MethodName := ⟨RX1, "findBest", "()I"⟩
abbrev cX1_isHopeless : ByteArray := prog_3_method_3_code
def yX1_isHopeless : MethodName := ⟨RX1, "isHopeless", "(I)Z"⟩
abbrev cX1_meet : ByteArray := prog_3_method_4_code
def yX1_meet : MethodName := ⟨RX1, "meet", "()V"⟩
def RX2 : String := "PaperSetter$Limits"
def TX2 : u_T := fun k => match k with
  | 0 => ("PaperSetter$Limits", "least", "[I", true)
  | 1 => ("PaperSetter$Limits", "greatest", "[I", true)
  | _ => ("PaperSetter$Limits", "wished", "[I", true)
def tyX2 : Nat → FieldType := fun k => match k with
  | 0 => .array .int
  | 1 => .array .int
  | _ => .array .int
abbrev wsX20 : List Cond := u_ws RX2 TX2 3
theorem nmX2 : ∀ a, a < 3 → ∀ b, b < 3 → a ≠ b → (TX2 a).2.1 ≠ (TX2 b).2.1 := by decide +kernel
theorem tyX2_ok : ∀ k, k < 3 → parseFieldDescriptor (TX2 k).2.2.1 = some (tyX2 k) := by decide +kernel
abbrev cX2_init : ByteArray := prog_4_method_1_code
def yX2_init : MethodName := ⟨RX2, "<init>", "()V"⟩
abbrev cX2_surelyBroken : ByteArray := prog_4_method_2_code
def yX2_surelyBroken : MethodName := ⟨RX2, "surelyBroken", "([I[I)I"⟩
abbrev cX2_leastSpread : ByteArray := prog_4_method_3_code
def yX2_leastSpread : MethodName := ⟨RX2, "leastSpread", "([I[I)I"⟩
def RX3 : String := "PaperSetter$Ordering"
def TX3 : u_T := fun k => match k with
  | 0 => ("PaperSetter$Ordering", "members", "[I", true)
  | 1 => ("PaperSetter$Ordering", "firstQuestions", "[I", true)
  | 2 => ("PaperSetter$Ordering", "lastQuestions", "[I", true)
  | 3 => ("PaperSetter$Ordering", "joinCosts", "[[I", true)
  | 4 => ("PaperSetter$Ordering", "restCosts", "[I", true)
  | 5 => ("PaperSetter$Ordering", "size", "I", false)
  | 6 => ("PaperSetter$Ordering", "places", "[I", true)
  | 7 => ("PaperSetter$Ordering", "placed", "I", false)
  | 8 => ("PaperSetter$Ordering", "stepsDown", "I", false)
  | _ => ("PaperSetter$Ordering", "alike", "I", false)
def tyX3 : Nat → FieldType := fun k => match k with
  | 0 => .array .int
  | 1 => .array .int
  | 2 => .array .int
  | 3 => .array (.array .int)
  | 4 => .array .int
  | 5 => .int
  | 6 => .array .int
  | 7 => .int
  | 8 => .int
  | _ => .int
abbrev wsX30 : List Cond := u_ws RX3 TX3 10
theorem nmX3 : ∀ a, a < 10 → ∀ b, b < 10 → a ≠ b → (TX3 a).2.1 ≠ (TX3 b).2.1 := by decide +kernel
theorem tyX3_ok : ∀ k, k < 10 → parseFieldDescriptor (TX3 k).2.2.1 = some (tyX3 k) := by decide +kernel
abbrev cX3_init : ByteArray := prog_5_method_1_code
def yX3_init : MethodName := ⟨RX3, "<init>", "()V"⟩
abbrev cX3_splitSet : ByteArray := prog_5_method_2_code
def yX3_splitSet : MethodName := ⟨RX3, "splitSet", "(LPaperSetter$Bank;I)Z"⟩
abbrev cX3_arrange : ByteArray := prog_5_method_3_code
def yX3_arrange : MethodName := ⟨RX3, "arrange", "(LPaperSetter$Bank;)V"⟩
abbrev cX3_highestOf : ByteArray := prog_5_method_4_code
def yX3_highestOf : MethodName := ⟨RX3, "highestOf", "(I)I"⟩
abbrev cX3_reckonJoinCosts : ByteArray := prog_5_method_5_code
def yX3_reckonJoinCosts : MethodName := ⟨RX3, "reckonJoinCosts", "(LPaperSetter$Bank;)V"⟩
abbrev cX3_reckonRestCosts : ByteArray := prog_5_method_6_code
def yX3_reckonRestCosts : MethodName := ⟨RX3, "reckonRestCosts", "()V"⟩
abbrev cX3_costBehind : ByteArray := prog_5_method_7_code
def yX3_costBehind : MethodName := ⟨RX3, "costBehind", "(III)I"⟩
abbrev cX3_cheapestBehind : ByteArray := prog_5_method_8_code
def yX3_cheapestBehind : MethodName := ⟨RX3, "cheapestBehind", "(II)I"⟩
abbrev cX3_placeUnits : ByteArray := prog_5_method_9_code
def yX3_placeUnits : MethodName := ⟨RX3, "placeUnits", "()V"⟩
abbrev cX3_placeQuestions : ByteArray := prog_5_method_10_code
def yX3_placeQuestions : MethodName := ⟨RX3, "placeQuestions", "(I)V"⟩
abbrev cX3_countSteps : ByteArray := prog_5_method_11_code
def yX3_countSteps : MethodName := ⟨RX3, "countSteps", "(LPaperSetter$Bank;)V"⟩
abbrev cX3_isStepDown : ByteArray := prog_5_method_12_code
def yX3_isStepDown : MethodName := ⟨RX3, "isStepDown", "(LPaperSetter$Bank;II)Z"⟩
abbrev cX3_areAlike : ByteArray := prog_5_method_13_code
def yX3_areAlike : MethodName := ⟨RX3, "areAlike", "(LPaperSetter$Bank;II)Z"⟩
def RX4 : String := "PaperSetter$Search"
def TX4 : u_T := fun k => match k with
  | _ => ("", "", "", false)
def tyX4 : Nat → FieldType := fun k => match k with
  | _ => .int
abbrev wsX40 : List Cond := u_ws RX4 TX4 0
theorem nmX4 : ∀ a, a < 0 → ∀ b, b < 0 → a ≠ b → (TX4 a).2.1 ≠ (TX4 b).2.1 := by decide +kernel
theorem tyX4_ok : ∀ k, k < 0 → parseFieldDescriptor (TX4 k).2.2.1 = some (tyX4 k) := by decide +kernel
abbrev cX4_init : ByteArray := prog_6_method_1_code
def yX4_init : MethodName := ⟨RX4, "<init>", "(LPaperSetter$Units;LPaperSetter$Limits;)V"⟩
abbrev cX4_walkAll : ByteArray := prog_6_method_4_code
def yX4_walkAll : MethodName := ⟨RX4, "walkAll", "()V"⟩
abbrev cX4_walk : ByteArray := prog_6_method_5_code
def yX4_walk : MethodName := ⟨RX4, "walk", "(LPaperSetter$Search;I)V"⟩
abbrev cX4_take : ByteArray := prog_6_method_6_code
def yX4_take : MethodName := ⟨RX4, "take", "(I)V"⟩
abbrev cX4_drop : ByteArray := prog_6_method_7_code
def yX4_drop : MethodName := ⟨RX4, "drop", "(I)V"⟩
def RX5 : String := "PaperSetter$Units"
def TX5 : u_T := fun k => match k with
  | 0 => ("PaperSetter$Units", "members", "[I", true)
  | 1 => ("PaperSetter$Units", "clashes", "[I", true)
  | 2 => ("PaperSetter$Units", "sums", "[[I", true)
  | 3 => ("PaperSetter$Units", "sumsFrom", "[[I", true)
  | _ => ("PaperSetter$Units", "size", "I", false)
def tyX5 : Nat → FieldType := fun k => match k with
  | 0 => .array .int
  | 1 => .array .int
  | 2 => .array (.array .int)
  | 3 => .array (.array .int)
  | _ => .int
abbrev wsX50 : List Cond := u_ws RX5 TX5 5
theorem nmX5 : ∀ a, a < 5 → ∀ b, b < 5 → a ≠ b → (TX5 a).2.1 ≠ (TX5 b).2.1 := by decide +kernel
theorem tyX5_ok : ∀ k, k < 5 → parseFieldDescriptor (TX5 k).2.2.1 = some (tyX5 k) := by decide +kernel
abbrev cX5_init : ByteArray := prog_7_method_1_code
def yX5_init : MethodName := ⟨RX5, "<init>", "()V"⟩
abbrev cX5_splitBank : ByteArray := prog_7_method_2_code
def yX5_splitBank : MethodName := ⟨RX5, "splitBank", "(LPaperSetter$Bank;)V"⟩
abbrev cX5_sumUpFromEachOn : ByteArray := prog_7_method_3_code
def yX5_sumUpFromEachOn : MethodName := ⟨RX5, "sumUpFromEachOn", "()V"⟩
def RX6 : String := "PaperSetter$VersionSearch"
def TX6 : u_T := fun k => match k with
  | 0 => ("PaperSetter$Search", "units", "LPaperSetter$Units;", true)
  | 1 => ("PaperSetter$Search", "limits", "LPaperSetter$Limits;", true)
  | 2 => ("PaperSetter$Search", "sums", "[I", true)
  | 3 => ("PaperSetter$Search", "set", "I", false)
  | 4 => ("PaperSetter$Search", "takenUnits", "I", false)
  | 5 => ("PaperSetter$VersionSearch", "papers", "[I", true)
  | 6 => ("PaperSetter$VersionSearch", "minutes", "[I", true)
  | 7 => ("PaperSetter$VersionSearch", "marks", "[I", true)
  | 8 => ("PaperSetter$VersionSearch", "spreads", "[I", true)
  | 9 => ("PaperSetter$VersionSearch", "bestSpread", "I", false)
  | 10 => ("PaperSetter$VersionSearch", "bestCount", "I", false)
  | 11 => ("PaperSetter$VersionSearch", "bestFirst", "I", false)
  | _ => ("PaperSetter$VersionSearch", "bestSecond", "I", false)
def tyX6 : Nat → FieldType := fun k => match k with
  | 0 => .object "PaperSetter$Units"
  | 1 => .object "PaperSetter$Limits"
  | 2 => .array .int
  | 3 => .int
  | 4 => .int
  | 5 => .array .int
  | 6 => .array .int
  | 7 => .array .int
  | 8 => .array .int
  | 9 => .int
  | 10 => .int
  | 11 => .int
  | _ => .int
abbrev wsX60 : List Cond := u_ws RX6 TX6 13
theorem nmX6 : ∀ a, a < 13 → ∀ b, b < 13 → a ≠ b → (TX6 a).2.1 ≠ (TX6 b).2.1 := by decide +kernel
theorem tyX6_ok : ∀ k, k < 13 → parseFieldDescriptor (TX6 k).2.2.1 = some (tyX6 k) := by decide +kernel
abbrev cX6_init : ByteArray := prog_8_method_1_code
def yX6_init : MethodName := ⟨RX6, "<init>", "(LPaperSetter$Units;LPaperSetter$Limits;)V"⟩
abbrev cX6_findTwo : ByteArray := prog_8_method_2_code
def yX6_findTwo : MethodName := ⟨RX6, "findTwo", "(I)V"⟩
abbrev cX6_isHopeless : ByteArray := prog_8_method_3_code
def yX6_isHopeless : MethodName := ⟨RX6, "isHopeless", "(I)Z"⟩
abbrev cX6_meet : ByteArray := prog_8_method_4_code
def yX6_meet : MethodName := ⟨RX6, "meet", "()V"⟩
abbrev cX6_pairWithOthers : ByteArray := prog_8_method_5_code
def yX6_pairWithOthers : MethodName := ⟨RX6, "pairWithOthers", "(III)V"⟩
abbrev cX6_areAlike : ByteArray := prog_8_method_6_code
def yX6_areAlike : MethodName := ⟨RX6, "areAlike", "(III)Z"⟩
abbrev cX6_isBetter : ByteArray := prog_8_method_7_code
def yX6_isBetter : MethodName := ⟨RX6, "isBetter", "(II)Z"⟩
abbrev cX6_countOfBoth : ByteArray := prog_8_method_8_code
def yX6_countOfBoth : MethodName := ⟨RX6, "countOfBoth", "(II)I"⟩
def RX7 : String := "PaperSetter$WhySearch"
def TX7 : u_T := fun k => match k with
  | 0 => ("PaperSetter$Search", "units", "LPaperSetter$Units;", true)
  | 1 => ("PaperSetter$Search", "limits", "LPaperSetter$Limits;", true)
  | 2 => ("PaperSetter$Search", "sums", "[I", true)
  | 3 => ("PaperSetter$Search", "set", "I", false)
  | 4 => ("PaperSetter$Search", "takenUnits", "I", false)
  | _ => ("PaperSetter$WhySearch", "kept", "[Z", true)
def tyX7 : Nat → FieldType := fun k => match k with
  | 0 => .object "PaperSetter$Units"
  | 1 => .object "PaperSetter$Limits"
  | 2 => .array .int
  | 3 => .int
  | 4 => .int
  | _ => .array .boolean
abbrev wsX70 : List Cond := u_ws RX7 TX7 6
theorem nmX7 : ∀ a, a < 6 → ∀ b, b < 6 → a ≠ b → (TX7 a).2.1 ≠ (TX7 b).2.1 := by decide +kernel
theorem tyX7_ok : ∀ k, k < 6 → parseFieldDescriptor (TX7 k).2.2.1 = some (tyX7 k) := by decide +kernel
abbrev cX7_init : ByteArray := prog_9_method_1_code
def yX7_init : MethodName := ⟨RX7, "<init>", "(LPaperSetter$Units;LPaperSetter$Limits;)V"⟩
abbrev cX7_findFewestUnkept : ByteArray := prog_9_method_2_code
def yX7_findFewestUnkept : MethodName := ⟨RX7, "findFewestUnkept", "()I"⟩
abbrev cX7_isHopeless : ByteArray := prog_9_method_3_code
def yX7_isHopeless : MethodName := ⟨RX7, "isHopeless", "(I)Z"⟩
abbrev cX7_meet : ByteArray := prog_9_method_4_code
def yX7_meet : MethodName := ⟨RX7, "meet", "()V"⟩
abbrev cX7_keepable : ByteArray := prog_9_method_5_code
def yX7_keepable : MethodName := ⟨RX7, "keepable", "(I)I"⟩
def RX8 : String := "PaperSetter"
def TX8 : u_T := fun k => match k with
  | 0 => ("PaperSetter", "bank", "LPaperSetter$Bank;", true)
  | 1 => ("PaperSetter", "limits", "LPaperSetter$Limits;", true)
  | 2 => ("PaperSetter", "units", "LPaperSetter$Units;", true)
  | 3 => ("PaperSetter", "bestSearch", "LPaperSetter$BestSearch;", true)
  | 4 => ("PaperSetter", "whySearch", "LPaperSetter$WhySearch;", true)
  | 5 => ("PaperSetter", "versionSearch", "LPaperSetter$VersionSearch;", true)
  | 6 => ("PaperSetter", "ordering", "LPaperSetter$Ordering;", true)
  | 7 => ("PaperSetter", "sumsLookedAt", "[I", true)
  | _ => ("PaperSetter", "secondVersion", "I", false)
def tyX8 : Nat → FieldType := fun k => match k with
  | 0 => .object "PaperSetter$Bank"
  | 1 => .object "PaperSetter$Limits"
  | 2 => .object "PaperSetter$Units"
  | 3 => .object "PaperSetter$BestSearch"
  | 4 => .object "PaperSetter$WhySearch"
  | 5 => .object "PaperSetter$VersionSearch"
  | 6 => .object "PaperSetter$Ordering"
  | 7 => .array .int
  | _ => .int
abbrev wsX80 : List Cond := u_ws RX8 TX8 9
theorem nmX8 : ∀ a, a < 9 → ∀ b, b < 9 → a ≠ b → (TX8 a).2.1 ≠ (TX8 b).2.1 := by decide +kernel
theorem tyX8_ok : ∀ k, k < 9 → parseFieldDescriptor (TX8 k).2.2.1 = some (tyX8 k) := by decide +kernel
abbrev cX8_init : ByteArray := prog_1_method_1_code
def yX8_init : MethodName := ⟨RX8, "<init>", "()V"⟩
abbrev cX8_question : ByteArray := prog_1_method_2_code
def yX8_question : MethodName := ⟨RX8, "question", "(IIIII)I"⟩
abbrev cX8_passage : ByteArray := prog_1_method_3_code
def yX8_passage : MethodName := ⟨RX8, "passage", "(II)Z"⟩
abbrev cX8_gives : ByteArray := prog_1_method_4_code
def yX8_gives : MethodName := ⟨RX8, "gives", "(IIZ)Z"⟩
abbrev cX8_bound : ByteArray := prog_1_method_5_code
def yX8_bound : MethodName := ⟨RX8, "bound", "(III)Z"⟩
abbrev cX8_profile : ByteArray := prog_1_method_6_code
def yX8_profile : MethodName := ⟨RX8, "profile", "(II)Z"⟩
abbrev cX8_rest : ByteArray := prog_1_method_7_code
def yX8_rest : MethodName := ⟨RX8, "rest", "(I)Z"⟩
abbrev cX8_term : ByteArray := prog_1_method_8_code
def yX8_term : MethodName := ⟨RX8, "term", "()I"⟩
abbrev cX8_use : ByteArray := prog_1_method_9_code
def yX8_use : MethodName := ⟨RX8, "use", "(I)Z"⟩
abbrev cX8_rests : ByteArray := prog_1_method_10_code
def yX8_rests : MethodName := ⟨RX8, "rests", "(I)I"⟩
abbrev cX8_look : ByteArray := prog_1_method_11_code
def yX8_look : MethodName := ⟨RX8, "look", "(II)I"⟩
abbrev cX8_best : ByteArray := prog_1_method_12_code
def yX8_best : MethodName := ⟨RX8, "best", "()I"⟩
abbrev cX8_why : ByteArray := prog_1_method_13_code
def yX8_why : MethodName := ⟨RX8, "why", "()I"⟩
abbrev cX8_versions : ByteArray := prog_1_method_14_code
def yX8_versions : MethodName := ⟨RX8, "versions", "(I)I"⟩
abbrev cX8_second : ByteArray := prog_1_method_15_code
def yX8_second : MethodName := ⟨RX8, "second", "()I"⟩
abbrev cX8_order : ByteArray := prog_1_method_16_code
def yX8_order : MethodName := ⟨RX8, "order", "(I)I"⟩
abbrev cX8_place : ByteArray := prog_1_method_17_code
def yX8_place : MethodName := ⟨RX8, "place", "(I)I"⟩
abbrev cX8_told : ByteArray := prog_1_method_18_code
def yX8_told : MethodName := ⟨RX8, "told", "(II)I"⟩
abbrev cX8_count : ByteArray := prog_1_method_19_code
def yX8_count : MethodName := ⟨RX8, "count", "(I)I"⟩
abbrev cX8_within : ByteArray := prog_1_method_20_code
def yX8_within : MethodName := ⟨RX8, "within", "(III)Z"⟩
abbrev cX8_oneIf : ByteArray := prog_1_method_21_code
def yX8_oneIf : MethodName := ⟨RX8, "oneIf", "(Z)I"⟩
abbrev cX8_contains : ByteArray := prog_1_method_22_code
def yX8_contains : MethodName := ⟨RX8, "contains", "(II)Z"⟩
abbrev cX8_lowestOf : ByteArray := prog_1_method_23_code
def yX8_lowestOf : MethodName := ⟨RX8, "lowestOf", "(I)I"⟩
def RX9 : String := "PaperSetterModel"
def TX9 : u_T := fun k => match k with
  | 0 => ("PaperSetterModel", "questions", "I", false)
  | 1 => ("PaperSetterModel", "term", "I", false)
  | 2 => ("PaperSetterModel", "rest", "I", false)
  | 3 => ("PaperSetterModel", "topic", "[I", true)
  | 4 => ("PaperSetterModel", "skill", "[I", true)
  | 5 => ("PaperSetterModel", "minutes", "[I", true)
  | 6 => ("PaperSetterModel", "marks", "[I", true)
  | 7 => ("PaperSetterModel", "hard", "[I", true)
  | 8 => ("PaperSetterModel", "passage", "[I", true)
  | 9 => ("PaperSetterModel", "used", "[I", true)
  | 10 => ("PaperSetterModel", "away", "[I", true)
  | 11 => ("PaperSetterModel", "low", "[I", true)
  | 12 => ("PaperSetterModel", "high", "[I", true)
  | 13 => ("PaperSetterModel", "wished", "[I", true)
  | 14 => ("PaperSetterModel", "many", "I", false)
  | 15 => ("PaperSetterModel", "hand", "[I", true)
  | 16 => ("PaperSetterModel", "sum", "[I", true)
  | 17 => ("PaperSetterModel", "fit", "[Z", true)
  | 18 => ("PaperSetterModel", "broken", "[I", true)
  | 19 => ("PaperSetterModel", "clash", "[I", true)
  | 20 => ("PaperSetterModel", "whole", "[I", true)
  | 21 => ("PaperSetterModel", "isBroken", "[Z", true)
  | 22 => ("PaperSetterModel", "second", "I", false)
  | 23 => ("PaperSetterModel", "units", "I", false)
  | 24 => ("PaperSetterModel", "ordered", "I", false)
  | 25 => ("PaperSetterModel", "alike", "I", false)
  | 26 => ("PaperSetterModel", "unitFirst", "[I", true)
  | 27 => ("PaperSetterModel", "row", "[I", true)
  | 28 => ("PaperSetterModel", "order", "[I", true)
  | _ => ("PaperSetterModel", "now", "[I", true)
def tyX9 : Nat → FieldType := fun k => match k with
  | 0 => .int
  | 1 => .int
  | 2 => .int
  | 3 => .array .int
  | 4 => .array .int
  | 5 => .array .int
  | 6 => .array .int
  | 7 => .array .int
  | 8 => .array .int
  | 9 => .array .int
  | 10 => .array .int
  | 11 => .array .int
  | 12 => .array .int
  | 13 => .array .int
  | 14 => .int
  | 15 => .array .int
  | 16 => .array .int
  | 17 => .array .boolean
  | 18 => .array .int
  | 19 => .array .int
  | 20 => .array .int
  | 21 => .array .boolean
  | 22 => .int
  | 23 => .int
  | 24 => .int
  | 25 => .int
  | 26 => .array .int
  | 27 => .array .int
  | 28 => .array .int
  | _ => .array .int
abbrev wsX90 : List Cond := u_ws RX9 TX9 30
theorem nmX9 : ∀ a, a < 30 → ∀ b, b < 30 → a ≠ b → (TX9 a).2.1 ≠ (TX9 b).2.1 := by decide +kernel
theorem tyX9_ok : ∀ k, k < 30 → parseFieldDescriptor (TX9 k).2.2.1 = some (tyX9 k) := by decide +kernel
abbrev cX9_init : ByteArray := prog_11_method_1_code
def yX9_init : MethodName := ⟨RX9, "<init>", "()V"⟩
abbrev cX9_lies : ByteArray := prog_11_method_2_code
def yX9_lies : MethodName := ⟨RX9, "lies", "(III)Z"⟩
abbrev cX9_isQuestion : ByteArray := prog_11_method_3_code
def yX9_isQuestion : MethodName := ⟨RX9, "isQuestion", "(I)Z"⟩
abbrev cX9_isSet : ByteArray := prog_11_method_4_code
def yX9_isSet : MethodName := ⟨RX9, "isSet", "(I)Z"⟩
abbrev cX9_has : ByteArray := prog_11_method_5_code
def yX9_has : MethodName := ⟨RX9, "has", "(II)Z"⟩
abbrev cX9_size : ByteArray := prog_11_method_6_code
def yX9_size : MethodName := ⟨RX9, "size", "(I)I"⟩
abbrev cX9_question : ByteArray := prog_11_method_7_code
def yX9_question : MethodName := ⟨RX9, "question", "(IIIII)I"⟩
abbrev cX9_passage : ByteArray := prog_11_method_8_code
def yX9_passage : MethodName := ⟨RX9, "passage", "(II)Z"⟩
abbrev cX9_gives : ByteArray := prog_11_method_9_code
def yX9_gives : MethodName := ⟨RX9, "gives", "(IIZ)Z"⟩
abbrev cX9_bound : ByteArray := prog_11_method_10_code
def yX9_bound : MethodName := ⟨RX9, "bound", "(III)Z"⟩
abbrev cX9_profile : ByteArray := prog_11_method_11_code
def yX9_profile : MethodName := ⟨RX9, "profile", "(II)Z"⟩
abbrev cX9_rest : ByteArray := prog_11_method_12_code
def yX9_rest : MethodName := ⟨RX9, "rest", "(I)Z"⟩
abbrev cX9_term : ByteArray := prog_11_method_13_code
def yX9_term : MethodName := ⟨RX9, "term", "()I"⟩
abbrev cX9_use : ByteArray := prog_11_method_14_code
def yX9_use : MethodName := ⟨RX9, "use", "(I)Z"⟩
abbrev cX9_isResting : ByteArray := prog_11_method_15_code
def yX9_isResting : MethodName := ⟨RX9, "isResting", "(I)Z"⟩
abbrev cX9_rests : ByteArray := prog_11_method_16_code
def yX9_rests : MethodName := ⟨RX9, "rests", "(I)I"⟩
abbrev cX9_adds : ByteArray := prog_11_method_17_code
def yX9_adds : MethodName := ⟨RX9, "adds", "(II)I"⟩
abbrev cX9_sumOf : ByteArray := prog_11_method_18_code
def yX9_sumOf : MethodName := ⟨RX9, "sumOf", "(II)I"⟩
abbrev cX9_isFit : ByteArray := prog_11_method_19_code
def yX9_isFit : MethodName := ⟨RX9, "isFit", "(I)Z"⟩
abbrev cX9_brokenBy : ByteArray := prog_11_method_20_code
def yX9_brokenBy : MethodName := ⟨RX9, "brokenBy", "(I)I"⟩
abbrev cX9_far : ByteArray := prog_11_method_21_code
def yX9_far : MethodName := ⟨RX9, "far", "(II)I"⟩
abbrev cX9_spreadOf : ByteArray := prog_11_method_22_code
def yX9_spreadOf : MethodName := ⟨RX9, "spreadOf", "(I)I"⟩
abbrev cX9_look : ByteArray := prog_11_method_23_code
def yX9_look : MethodName := ⟨RX9, "look", "(II)I"⟩
abbrev cX9_atHand : ByteArray := prog_11_method_24_code
def yX9_atHand : MethodName := ⟨RX9, "atHand", "()I"⟩
abbrev cX9_areOnePassage : ByteArray := prog_11_method_25_code
def yX9_areOnePassage : MethodName := ⟨RX9, "areOnePassage", "(II)Z"⟩
abbrev cX9_works : ByteArray := prog_11_method_26_code
def yX9_works : MethodName := ⟨RX9, "works", "()V"⟩
abbrev cX9_isPaper : ByteArray := prog_11_method_27_code
def yX9_isPaper : MethodName := ⟨RX9, "isPaper", "(I)Z"⟩
abbrev cX9_spread : ByteArray := prog_11_method_28_code
def yX9_spread : MethodName := ⟨RX9, "spread", "(I)I"⟩
abbrev cX9_told : ByteArray := prog_11_method_29_code
def yX9_told : MethodName := ⟨RX9, "told", "(I)I"⟩
abbrev cX9_isAhead : ByteArray := prog_11_method_30_code
def yX9_isAhead : MethodName := ⟨RX9, "isAhead", "(II)Z"⟩
abbrev cX9_best : ByteArray := prog_11_method_31_code
def yX9_best : MethodName := ⟨RX9, "best", "()I"⟩
abbrev cX9_isKept : ByteArray := prog_11_method_32_code
def yX9_isKept : MethodName := ⟨RX9, "isKept", "(I)Z"⟩
abbrev cX9_why : ByteArray := prog_11_method_33_code
def yX9_why : MethodName := ⟨RX9, "why", "()I"⟩
abbrev cX9_versions : ByteArray := prog_11_method_34_code
def yX9_versions : MethodName := ⟨RX9, "versions", "(I)I"⟩
abbrev cX9_second : ByteArray := prog_11_method_35_code
def yX9_second : MethodName := ⟨RX9, "second", "()I"⟩
abbrev cX9_nextRow : ByteArray := prog_11_method_36_code
def yX9_nextRow : MethodName := ⟨RX9, "nextRow", "()Z"⟩
abbrev cX9_lays : ByteArray := prog_11_method_37_code
def yX9_lays : MethodName := ⟨RX9, "lays", "(I)V"⟩
abbrev cX9_order : ByteArray := prog_11_method_38_code
def yX9_order : MethodName := ⟨RX9, "order", "(I)I"⟩
abbrev cX9_place : ByteArray := prog_11_method_39_code
def yX9_place : MethodName := ⟨RX9, "place", "(I)I"⟩
abbrev cX9_told_ : ByteArray := prog_11_method_40_code
def yX9_told_ : MethodName := ⟨RX9, "told", "(II)I"⟩
abbrev cX9_count : ByteArray := prog_11_method_41_code
def yX9_count : MethodName := ⟨RX9, "count", "(I)I"⟩
def RJ6 : String := "java/lang/Integer"
def TJ6 : u_T := fun k => match k with
  | _ => ("", "", "", false)
def tyJ6 : Nat → FieldType := fun k => match k with
  | _ => .int
abbrev wsJ60 : List Cond := u_ws RJ6 TJ6 0
theorem nmJ6 : ∀ a, a < 0 → ∀ b, b < 0 → a ≠ b → (TJ6 a).2.1 ≠ (TJ6 b).2.1 := by decide +kernel
theorem tyJ6_ok : ∀ k, k < 0 → parseFieldDescriptor (TJ6 k).2.2.1 = some (tyJ6 k) := by decide +kernel
abbrev cJ6_bitCount_0f7a4 : ByteArray := prog_12_method_49_code
def yJ6_bitCount_0f7a4 : MethodName := ⟨RJ6, "bitCount", "(I)I"⟩
def RJ9 : String := "java/lang/Math"
def TJ9 : u_T := fun k => match k with
  | _ => ("", "", "", false)
def tyJ9 : Nat → FieldType := fun k => match k with
  | _ => .int
abbrev wsJ90 : List Cond := u_ws RJ9 TJ9 0
theorem nmJ9 : ∀ a, a < 0 → ∀ b, b < 0 → a ≠ b → (TJ9 a).2.1 ≠ (TJ9 b).2.1 := by decide +kernel
theorem tyJ9_ok : ∀ k, k < 0 → parseFieldDescriptor (TJ9 k).2.2.1 = some (tyJ9 k) := by decide +kernel
abbrev cJ9_abs_0f7a4 : ByteArray := prog_13_method_59_code
def yJ9_abs_0f7a4 : MethodName := ⟨RJ9, "abs", "(I)I"⟩
abbrev cJ9_max_7cf53 : ByteArray := prog_13_method_65_code
def yJ9_max_7cf53 : MethodName := ⟨RJ9, "max", "(II)I"⟩
abbrev cJ9_min_7cf53 : ByteArray := prog_13_method_69_code
def yJ9_min_7cf53 : MethodName := ⟨RJ9, "min", "(II)I"⟩
def RJ7 : String := "java/util/Arrays"
def TJ7 : u_T := fun k => match k with
  | _ => ("", "", "", false)
def tyJ7 : Nat → FieldType := fun k => match k with
  | _ => .int
abbrev wsJ70 : List Cond := u_ws RJ7 TJ7 0
theorem nmJ7 : ∀ a, a < 0 → ∀ b, b < 0 → a ≠ b → (TJ7 a).2.1 ≠ (TJ7 b).2.1 := by decide +kernel
theorem tyJ7_ok : ∀ k, k < 0 → parseFieldDescriptor (TJ7 k).2.2.1 = some (tyJ7 k) := by decide +kernel
abbrev cJ7_fill_53178 : ByteArray := prog_14_method_103_code
def yJ7_fill_53178 : MethodName := ⟨RJ7, "fill", "([II)V"⟩
def RL : String := "PaperSetterLaw"
abbrev cL_law : ByteArray := code
def yL_law : MethodName := ⟨RL, "law", "([I)Z"⟩
abbrev MI_ : Type := String × MethodName × ByteArray × Nat × Option FieldType
abbrev mX0_init : MI_ := (RX0, yX0_init, cX0_init, 1, none)
abbrev mX0_has : MI_ := (RX0, yX0_has, cX0_has, 2, (some .boolean))
abbrev mX0_hasAll : MI_ := (RX0, yX0_hasAll, cX0_hasAll, 2, (some .boolean))
abbrev mX0_isResting : MI_ := (RX0, yX0_isResting, cX0_isResting, 3, (some .boolean))
abbrev mX0_countAtHand : MI_ := (RX0, yX0_countAtHand, cX0_countAtHand, 3, (some .int))
abbrev mX0_wholeOf : MI_ := (RX0, yX0_wholeOf, cX0_wholeOf, 5, (some .int))
abbrev mX0_isFit : MI_ := (RX0, yX0_isFit, cX0_isFit, 3, (some .boolean))
abbrev mX0_fitsInto : MI_ := (RX0, yX0_fitsInto, cX0_fitsInto, 3, (some .boolean))
abbrev mX0_clashesWith : MI_ := (RX0, yX0_clashesWith, cX0_clashesWith, 4, (some .int))
abbrev mX0_sumUp : MI_ := (RX0, yX0_sumUp, cX0_sumUp, 5, none)
abbrev mX0_weightOf : MI_ := (RX0, yX0_weightOf, cX0_weightOf, 4, (some .int))
abbrev mX1_init : MI_ := (RX1, yX1_init, cX1_init, 3, none)
abbrev mX1_findBest : MI_ := (RX1, yX1_findBest, cX1_findBest, 1, (some .int))
abbrev mX1_isHopeless : MI_ := (RX1, yX1_isHopeless, cX1_isHopeless, 3, (some .boolean))
abbrev mX1_meet : MI_ := (RX1, yX1_meet, cX1_meet, 1, none)
abbrev mX2_init : MI_ := (RX2, yX2_init, cX2_init, 1, none)
abbrev mX2_surelyBroken : MI_ := (RX2, yX2_surelyBroken, cX2_surelyBroken, 5, (some .int))
abbrev mX2_leastSpread : MI_ := (RX2, yX2_leastSpread, cX2_leastSpread, 7, (some .int))
abbrev mX3_init : MI_ := (RX3, yX3_init, cX3_init, 1, none)
abbrev mX3_splitSet : MI_ := (RX3, yX3_splitSet, cX3_splitSet, 5, (some .boolean))
abbrev mX3_arrange : MI_ := (RX3, yX3_arrange, cX3_arrange, 2, none)
abbrev mX3_highestOf : MI_ := (RX3, yX3_highestOf, cX3_highestOf, 3, (some .int))
abbrev mX3_reckonJoinCosts : MI_ := (RX3, yX3_reckonJoinCosts, cX3_reckonJoinCosts, 6, none)
abbrev mX3_reckonRestCosts : MI_ := (RX3, yX3_reckonRestCosts, cX3_reckonRestCosts, 4, none)
abbrev mX3_costBehind : MI_ := (RX3, yX3_costBehind, cX3_costBehind, 6, (some .int))
abbrev mX3_cheapestBehind : MI_ := (RX3, yX3_cheapestBehind, cX3_cheapestBehind, 7, (some .int))
abbrev mX3_placeUnits : MI_ := (RX3, yX3_placeUnits, cX3_placeUnits, 4, none)
abbrev mX3_placeQuestions : MI_ := (RX3, yX3_placeQuestions, cX3_placeQuestions, 3, none)
abbrev mX3_countSteps : MI_ := (RX3, yX3_countSteps, cX3_countSteps, 3, none)
abbrev mX3_isStepDown : MI_ := (RX3, yX3_isStepDown, cX3_isStepDown, 3, (some .boolean))
abbrev mX3_areAlike : MI_ := (RX3, yX3_areAlike, cX3_areAlike, 3, (some .boolean))
abbrev mX4_init : MI_ := (RX4, yX4_init, cX4_init, 3, none)
abbrev mX4_walkAll : MI_ := (RX4, yX4_walkAll, cX4_walkAll, 1, none)
abbrev mX4_walk : MI_ := (RX4, yX4_walk, cX4_walk, 2, none)
abbrev mX4_take : MI_ := (RX4, yX4_take, cX4_take, 3, none)
abbrev mX4_drop : MI_ := (RX4, yX4_drop, cX4_drop, 3, none)
abbrev mX5_init : MI_ := (RX5, yX5_init, cX5_init, 1, none)
abbrev mX5_splitBank : MI_ := (RX5, yX5_splitBank, cX5_splitBank, 4, none)
abbrev mX5_sumUpFromEachOn : MI_ := (RX5, yX5_sumUpFromEachOn, cX5_sumUpFromEachOn, 3, none)
abbrev mX6_init : MI_ := (RX6, yX6_init, cX6_init, 3, none)
abbrev mX6_findTwo : MI_ := (RX6, yX6_findTwo, cX6_findTwo, 4, none)
abbrev mX6_isHopeless : MI_ := (RX6, yX6_isHopeless, cX6_isHopeless, 2, (some .boolean))
abbrev mX6_meet : MI_ := (RX6, yX6_meet, cX6_meet, 1, none)
abbrev mX6_pairWithOthers : MI_ := (RX6, yX6_pairWithOthers, cX6_pairWithOthers, 8, none)
abbrev mX6_areAlike : MI_ := (RX6, yX6_areAlike, cX6_areAlike, 4, (some .boolean))
abbrev mX6_isBetter : MI_ := (RX6, yX6_isBetter, cX6_isBetter, 5, (some .boolean))
abbrev mX6_countOfBoth : MI_ := (RX6, yX6_countOfBoth, cX6_countOfBoth, 3, (some .int))
abbrev mX7_init : MI_ := (RX7, yX7_init, cX7_init, 3, none)
abbrev mX7_findFewestUnkept : MI_ := (RX7, yX7_findFewestUnkept, cX7_findFewestUnkept, 4, (some .int))
abbrev mX7_isHopeless : MI_ := (RX7, yX7_isHopeless, cX7_isHopeless, 2, (some .boolean))
abbrev mX7_meet : MI_ := (RX7, yX7_meet, cX7_meet, 3, none)
abbrev mX7_keepable : MI_ := (RX7, yX7_keepable, cX7_keepable, 2, (some .int))
abbrev mX8_init : MI_ := (RX8, yX8_init, cX8_init, 1, none)
abbrev mX8_question : MI_ := (RX8, yX8_question, cX8_question, 9, (some .int))
abbrev mX8_passage : MI_ := (RX8, yX8_passage, cX8_passage, 3, (some .boolean))
abbrev mX8_gives : MI_ := (RX8, yX8_gives, cX8_gives, 5, (some .boolean))
abbrev mX8_bound : MI_ := (RX8, yX8_bound, cX8_bound, 5, (some .boolean))
abbrev mX8_profile : MI_ := (RX8, yX8_profile, cX8_profile, 3, (some .boolean))
abbrev mX8_rest : MI_ := (RX8, yX8_rest, cX8_rest, 2, (some .boolean))
abbrev mX8_term : MI_ := (RX8, yX8_term, cX8_term, 1, (some .int))
abbrev mX8_use : MI_ := (RX8, yX8_use, cX8_use, 3, (some .boolean))
abbrev mX8_rests : MI_ := (RX8, yX8_rests, cX8_rests, 2, (some .int))
abbrev mX8_look : MI_ := (RX8, yX8_look, cX8_look, 4, (some .int))
abbrev mX8_best : MI_ := (RX8, yX8_best, cX8_best, 1, (some .int))
abbrev mX8_why : MI_ := (RX8, yX8_why, cX8_why, 1, (some .int))
abbrev mX8_versions : MI_ := (RX8, yX8_versions, cX8_versions, 2, (some .int))
abbrev mX8_second : MI_ := (RX8, yX8_second, cX8_second, 1, (some .int))
abbrev mX8_order : MI_ := (RX8, yX8_order, cX8_order, 2, (some .int))
abbrev mX8_place : MI_ := (RX8, yX8_place, cX8_place, 2, (some .int))
abbrev mX8_told : MI_ := (RX8, yX8_told, cX8_told, 3, (some .int))
abbrev mX8_count : MI_ := (RX8, yX8_count, cX8_count, 2, (some .int))
abbrev mX8_within : MI_ := (RX8, yX8_within, cX8_within, 3, (some .boolean))
abbrev mX8_oneIf : MI_ := (RX8, yX8_oneIf, cX8_oneIf, 1, (some .int))
abbrev mX8_contains : MI_ := (RX8, yX8_contains, cX8_contains, 2, (some .boolean))
abbrev mX8_lowestOf : MI_ := (RX8, yX8_lowestOf, cX8_lowestOf, 1, (some .int))
abbrev mX9_init : MI_ := (RX9, yX9_init, cX9_init, 2, none)
abbrev mX9_lies : MI_ := (RX9, yX9_lies, cX9_lies, 3, (some .boolean))
abbrev mX9_isQuestion : MI_ := (RX9, yX9_isQuestion, cX9_isQuestion, 2, (some .boolean))
abbrev mX9_isSet : MI_ := (RX9, yX9_isSet, cX9_isSet, 2, (some .boolean))
abbrev mX9_has : MI_ := (RX9, yX9_has, cX9_has, 2, (some .boolean))
abbrev mX9_size : MI_ := (RX9, yX9_size, cX9_size, 3, (some .int))
abbrev mX9_question : MI_ := (RX9, yX9_question, cX9_question, 6, (some .int))
abbrev mX9_passage : MI_ := (RX9, yX9_passage, cX9_passage, 3, (some .boolean))
abbrev mX9_gives : MI_ := (RX9, yX9_gives, cX9_gives, 4, (some .boolean))
abbrev mX9_bound : MI_ := (RX9, yX9_bound, cX9_bound, 4, (some .boolean))
abbrev mX9_profile : MI_ := (RX9, yX9_profile, cX9_profile, 3, (some .boolean))
abbrev mX9_rest : MI_ := (RX9, yX9_rest, cX9_rest, 2, (some .boolean))
abbrev mX9_term : MI_ := (RX9, yX9_term, cX9_term, 1, (some .int))
abbrev mX9_use : MI_ := (RX9, yX9_use, cX9_use, 3, (some .boolean))
abbrev mX9_isResting : MI_ := (RX9, yX9_isResting, cX9_isResting, 2, (some .boolean))
abbrev mX9_rests : MI_ := (RX9, yX9_rests, cX9_rests, 2, (some .int))
abbrev mX9_adds : MI_ := (RX9, yX9_adds, cX9_adds, 3, (some .int))
abbrev mX9_sumOf : MI_ := (RX9, yX9_sumOf, cX9_sumOf, 5, (some .int))
abbrev mX9_isFit : MI_ := (RX9, yX9_isFit, cX9_isFit, 4, (some .boolean))
abbrev mX9_brokenBy : MI_ := (RX9, yX9_brokenBy, cX9_brokenBy, 4, (some .int))
abbrev mX9_far : MI_ := (RX9, yX9_far, cX9_far, 2, (some .int))
abbrev mX9_spreadOf : MI_ := (RX9, yX9_spreadOf, cX9_spreadOf, 4, (some .int))
abbrev mX9_look : MI_ := (RX9, yX9_look, cX9_look, 3, (some .int))
abbrev mX9_atHand : MI_ := (RX9, yX9_atHand, cX9_atHand, 3, (some .int))
abbrev mX9_areOnePassage : MI_ := (RX9, yX9_areOnePassage, cX9_areOnePassage, 3, (some .boolean))
abbrev mX9_works : MI_ := (RX9, yX9_works, cX9_works, 6, none)
abbrev mX9_isPaper : MI_ := (RX9, yX9_isPaper, cX9_isPaper, 2, (some .boolean))
abbrev mX9_spread : MI_ := (RX9, yX9_spread, cX9_spread, 4, (some .int))
abbrev mX9_told : MI_ := (RX9, yX9_told, cX9_told, 4, (some .int))
abbrev mX9_isAhead : MI_ := (RX9, yX9_isAhead, cX9_isAhead, 3, (some .boolean))
abbrev mX9_best : MI_ := (RX9, yX9_best, cX9_best, 7, (some .int))
abbrev mX9_isKept : MI_ := (RX9, yX9_isKept, cX9_isKept, 3, (some .boolean))
abbrev mX9_why : MI_ := (RX9, yX9_why, cX9_why, 3, (some .int))
abbrev mX9_versions : MI_ := (RX9, yX9_versions, cX9_versions, 10, (some .int))
abbrev mX9_second : MI_ := (RX9, yX9_second, cX9_second, 1, (some .int))
abbrev mX9_nextRow : MI_ := (RX9, yX9_nextRow, cX9_nextRow, 6, (some .boolean))
abbrev mX9_lays : MI_ := (RX9, yX9_lays, cX9_lays, 6, none)
abbrev mX9_order : MI_ := (RX9, yX9_order, cX9_order, 8, (some .int))
abbrev mX9_place : MI_ := (RX9, yX9_place, cX9_place, 2, (some .int))
abbrev mX9_told_ : MI_ := (RX9, yX9_told_, cX9_told_, 3, (some .int))
abbrev mX9_count : MI_ := (RX9, yX9_count, cX9_count, 2, (some .int))
abbrev mJ6_bitCount_0f7a4 : MI_ := (RJ6, yJ6_bitCount_0f7a4, cJ6_bitCount_0f7a4, 1, (some .int))
abbrev mJ9_abs_0f7a4 : MI_ := (RJ9, yJ9_abs_0f7a4, cJ9_abs_0f7a4, 1, (some .int))
abbrev mJ9_max_7cf53 : MI_ := (RJ9, yJ9_max_7cf53, cJ9_max_7cf53, 2, (some .int))
abbrev mJ9_min_7cf53 : MI_ := (RJ9, yJ9_min_7cf53, cJ9_min_7cf53, 2, (some .int))
abbrev mJ7_fill_53178 : MI_ := (RJ7, yJ7_fill_53178, cJ7_fill_53178, 4, none)
abbrev kcl : List vw_C := [(RX0, TX0, 5), (RX1, TX1, 8), (RX2, TX2, 3), (RX3, TX3, 10), (RX5, TX5, 5), (RX6, TX6, 13), (RX7, TX7, 6), (RX8, TX8, 9), (RX9, TX9, 30)]
/-- the words of the tables that every state of the run keeps -/
def TB_ : List Cond := lw_tbl.filter goodWord
theorem tb_1 {w : Cond} (i : Nat) (h : lw_tbl[i]? = some w) (g : goodWord w = true) : w ∈ TB_ := List.mem_filter.mpr ⟨List.mem_of_getElem? h, g⟩
theorem tb_l (ws : List Cond) (ps : List Nat) (hp : ws = ps.filterMap (fun i => lw_tbl[i]?)) (h : ws.all goodWord = true) : ∀ w ∈ ws, w ∈ TB_ := by
  intro w hw
  have h1 := List.all_eq_true.mp h w hw
  rw [hp] at hw
  obtain ⟨i, -, hi⟩ := List.mem_filterMap.mp hw
  exact tb_1 i hi h1
theorem tb_good {ws : List Cond} (h : ∀ w ∈ ws, w ∈ TB_) : GoodIn TB_ ws := fun w hw => ⟨h w hw, good_of_word (List.mem_filter.mp (h w hw)).2⟩
end
section
theorem k_0 : Cond.selects "PaperSetter$Bank" ⟨"PaperSetter$Bank", "weightOf", "(II)I"⟩ ⟨"PaperSetter$Bank", "weightOf", "(II)I"⟩ ∈ TB_ := tb_1 0 (by decide +kernel) (by decide +kernel)
theorem k_1 : Cond.selects "PaperSetter$Bank" ⟨"PaperSetter$Bank", "fitsInto", "(II)Z"⟩ ⟨"PaperSetter$Bank", "fitsInto", "(II)Z"⟩ ∈ TB_ := tb_1 1 (by decide +kernel) (by decide +kernel)
theorem k_2 : Cond.selects "PaperSetter$Units" ⟨"PaperSetter$Units", "sumUpFromEachOn", "()V"⟩ ⟨"PaperSetter$Units", "sumUpFromEachOn", "()V"⟩ ∈ TB_ := tb_1 2 (by decide +kernel) (by decide +kernel)
theorem k_3 : Cond.selects "PaperSetter$WhySearch" ⟨"PaperSetter$WhySearch", "keepable", "(I)I"⟩ ⟨"PaperSetter$WhySearch", "keepable", "(I)I"⟩ ∈ TB_ := tb_1 3 (by decide +kernel) (by decide +kernel)
theorem k_4 : Cond.selects "PaperSetter$VersionSearch" ⟨"PaperSetter$VersionSearch", "pairWithOthers", "(III)V"⟩ ⟨"PaperSetter$VersionSearch", "pairWithOthers", "(III)V"⟩ ∈ TB_ := tb_1 4 (by decide +kernel) (by decide +kernel)
theorem k_5 : Cond.selects "PaperSetter$VersionSearch" ⟨"PaperSetter$VersionSearch", "areAlike", "(III)Z"⟩ ⟨"PaperSetter$VersionSearch", "areAlike", "(III)Z"⟩ ∈ TB_ := tb_1 5 (by decide +kernel) (by decide +kernel)
theorem k_6 : Cond.selects "PaperSetter$VersionSearch" ⟨"PaperSetter$VersionSearch", "isBetter", "(II)Z"⟩ ⟨"PaperSetter$VersionSearch", "isBetter", "(II)Z"⟩ ∈ TB_ := tb_1 6 (by decide +kernel) (by decide +kernel)
theorem k_7 : Cond.selects "PaperSetter$VersionSearch" ⟨"PaperSetter$VersionSearch", "countOfBoth", "(II)I"⟩ ⟨"PaperSetter$VersionSearch", "countOfBoth", "(II)I"⟩ ∈ TB_ := tb_1 7 (by decide +kernel) (by decide +kernel)
theorem k_8 : Cond.selects "PaperSetter$Ordering" ⟨"PaperSetter$Ordering", "reckonJoinCosts", "(LPaperSetter$Bank;)V"⟩ ⟨"PaperSetter$Ordering", "reckonJoinCosts", "(LPaperSetter$Bank;)V"⟩ ∈ TB_ := tb_1 8 (by decide +kernel) (by decide +kernel)
theorem k_9 : Cond.selects "PaperSetter$Ordering" ⟨"PaperSetter$Ordering", "reckonRestCosts", "()V"⟩ ⟨"PaperSetter$Ordering", "reckonRestCosts", "()V"⟩ ∈ TB_ := tb_1 9 (by decide +kernel) (by decide +kernel)
theorem k_10 : Cond.selects "PaperSetter$Ordering" ⟨"PaperSetter$Ordering", "cheapestBehind", "(II)I"⟩ ⟨"PaperSetter$Ordering", "cheapestBehind", "(II)I"⟩ ∈ TB_ := tb_1 10 (by decide +kernel) (by decide +kernel)
theorem k_11 : Cond.selects "PaperSetter$Ordering" ⟨"PaperSetter$Ordering", "costBehind", "(III)I"⟩ ⟨"PaperSetter$Ordering", "costBehind", "(III)I"⟩ ∈ TB_ := tb_1 11 (by decide +kernel) (by decide +kernel)
theorem k_12 : Cond.selects "PaperSetter$Ordering" ⟨"PaperSetter$Ordering", "placeUnits", "()V"⟩ ⟨"PaperSetter$Ordering", "placeUnits", "()V"⟩ ∈ TB_ := tb_1 12 (by decide +kernel) (by decide +kernel)
theorem k_13 : Cond.selects "PaperSetter$Ordering" ⟨"PaperSetter$Ordering", "placeQuestions", "(I)V"⟩ ⟨"PaperSetter$Ordering", "placeQuestions", "(I)V"⟩ ∈ TB_ := tb_1 13 (by decide +kernel) (by decide +kernel)
theorem k_14 : Cond.selects "PaperSetter$Ordering" ⟨"PaperSetter$Ordering", "countSteps", "(LPaperSetter$Bank;)V"⟩ ⟨"PaperSetter$Ordering", "countSteps", "(LPaperSetter$Bank;)V"⟩ ∈ TB_ := tb_1 14 (by decide +kernel) (by decide +kernel)
theorem k_15 : Cond.selects "PaperSetterModel" ⟨"PaperSetterModel", "isQuestion", "(I)Z"⟩ ⟨"PaperSetterModel", "isQuestion", "(I)Z"⟩ ∈ TB_ := tb_1 15 (by decide +kernel) (by decide +kernel)
theorem k_16 : Cond.selects "PaperSetterModel" ⟨"PaperSetterModel", "isSet", "(I)Z"⟩ ⟨"PaperSetterModel", "isSet", "(I)Z"⟩ ∈ TB_ := tb_1 16 (by decide +kernel) (by decide +kernel)
theorem k_17 : Cond.selects "PaperSetterModel" ⟨"PaperSetterModel", "isResting", "(I)Z"⟩ ⟨"PaperSetterModel", "isResting", "(I)Z"⟩ ∈ TB_ := tb_1 17 (by decide +kernel) (by decide +kernel)
theorem k_18 : Cond.selects "PaperSetterModel" ⟨"PaperSetterModel", "sumOf", "(II)I"⟩ ⟨"PaperSetterModel", "sumOf", "(II)I"⟩ ∈ TB_ := tb_1 18 (by decide +kernel) (by decide +kernel)
theorem k_19 : Cond.selects "PaperSetterModel" ⟨"PaperSetterModel", "adds", "(II)I"⟩ ⟨"PaperSetterModel", "adds", "(II)I"⟩ ∈ TB_ := tb_1 19 (by decide +kernel) (by decide +kernel)
theorem k_20 : Cond.selects "PaperSetterModel" ⟨"PaperSetterModel", "isFit", "(I)Z"⟩ ⟨"PaperSetterModel", "isFit", "(I)Z"⟩ ∈ TB_ := tb_1 20 (by decide +kernel) (by decide +kernel)
theorem k_21 : Cond.selects "PaperSetterModel" ⟨"PaperSetterModel", "brokenBy", "(I)I"⟩ ⟨"PaperSetterModel", "brokenBy", "(I)I"⟩ ∈ TB_ := tb_1 21 (by decide +kernel) (by decide +kernel)
theorem k_22 : Cond.selects "PaperSetterModel" ⟨"PaperSetterModel", "spreadOf", "(I)I"⟩ ⟨"PaperSetterModel", "spreadOf", "(I)I"⟩ ∈ TB_ := tb_1 22 (by decide +kernel) (by decide +kernel)
theorem k_23 : Cond.selects "PaperSetterModel" ⟨"PaperSetterModel", "atHand", "()I"⟩ ⟨"PaperSetterModel", "atHand", "()I"⟩ ∈ TB_ := tb_1 23 (by decide +kernel) (by decide +kernel)
theorem k_24 : Cond.selects "PaperSetterModel" ⟨"PaperSetterModel", "works", "()V"⟩ ⟨"PaperSetterModel", "works", "()V"⟩ ∈ TB_ := tb_1 24 (by decide +kernel) (by decide +kernel)
theorem k_25 : Cond.selects "PaperSetterModel" ⟨"PaperSetterModel", "areOnePassage", "(II)Z"⟩ ⟨"PaperSetterModel", "areOnePassage", "(II)Z"⟩ ∈ TB_ := tb_1 25 (by decide +kernel) (by decide +kernel)
theorem k_26 : Cond.selects "PaperSetterModel" ⟨"PaperSetterModel", "isPaper", "(I)Z"⟩ ⟨"PaperSetterModel", "isPaper", "(I)Z"⟩ ∈ TB_ := tb_1 26 (by decide +kernel) (by decide +kernel)
theorem k_27 : Cond.selects "PaperSetterModel" ⟨"PaperSetterModel", "spread", "(I)I"⟩ ⟨"PaperSetterModel", "spread", "(I)I"⟩ ∈ TB_ := tb_1 27 (by decide +kernel) (by decide +kernel)
theorem k_28 : Cond.selects "PaperSetterModel" ⟨"PaperSetterModel", "told", "(I)I"⟩ ⟨"PaperSetterModel", "told", "(I)I"⟩ ∈ TB_ := tb_1 28 (by decide +kernel) (by decide +kernel)
theorem k_29 : Cond.selects "PaperSetterModel" ⟨"PaperSetterModel", "isKept", "(I)Z"⟩ ⟨"PaperSetterModel", "isKept", "(I)Z"⟩ ∈ TB_ := tb_1 29 (by decide +kernel) (by decide +kernel)
theorem k_30 : Cond.selects "PaperSetterModel" ⟨"PaperSetterModel", "lays", "(I)V"⟩ ⟨"PaperSetterModel", "lays", "(I)V"⟩ ∈ TB_ := tb_1 30 (by decide +kernel) (by decide +kernel)
theorem k_31 : Cond.selects "PaperSetterModel" ⟨"PaperSetterModel", "nextRow", "()Z"⟩ ⟨"PaperSetterModel", "nextRow", "()Z"⟩ ∈ TB_ := tb_1 31 (by decide +kernel) (by decide +kernel)
theorem k_32 : Cond.initialized "PaperSetterLaw" ∈ TB_ := tb_1 32 (by decide +kernel) (by decide +kernel)
theorem k_33 : Cond.initialized "PaperSetter" ∈ TB_ := tb_1 33 (by decide +kernel) (by decide +kernel)
theorem k_34 : Cond.initialized "PaperSetter$Bank" ∈ TB_ := tb_1 34 (by decide +kernel) (by decide +kernel)
theorem k_35 : Cond.initialized "PaperSetter$Limits" ∈ TB_ := tb_1 35 (by decide +kernel) (by decide +kernel)
theorem k_36 : Cond.initialized "java/util/Arrays" ∈ TB_ := tb_1 36 (by decide +kernel) (by decide +kernel)
theorem k_37 : Cond.initialized "PaperSetter$Units" ∈ TB_ := tb_1 37 (by decide +kernel) (by decide +kernel)
theorem k_38 : Cond.initialized "PaperSetter$Search" ∈ TB_ := tb_1 38 (by decide +kernel) (by decide +kernel)
theorem k_39 : Cond.initialized "PaperSetter$BestSearch" ∈ TB_ := tb_1 39 (by decide +kernel) (by decide +kernel)
theorem k_40 : Cond.initialized "PaperSetter$WhySearch" ∈ TB_ := tb_1 40 (by decide +kernel) (by decide +kernel)
theorem k_41 : Cond.initialized "PaperSetter$VersionSearch" ∈ TB_ := tb_1 41 (by decide +kernel) (by decide +kernel)
theorem k_42 : Cond.initialized "PaperSetter$Ordering" ∈ TB_ := tb_1 42 (by decide +kernel) (by decide +kernel)
theorem k_43 : Cond.initialized "PaperSetterModel" ∈ TB_ := tb_1 43 (by decide +kernel) (by decide +kernel)
theorem k_44 : Cond.initialized "java/lang/Math" ∈ TB_ := tb_1 44 (by decide +kernel) (by decide +kernel)
theorem k_45 : Cond.initialized "java/lang/Integer" ∈ TB_ := tb_1 45 (by decide +kernel) (by decide +kernel)
theorem k_46 : Cond.classLink "PaperSetterLaw" 7 "PaperSetter" ∈ TB_ := tb_1 46 (by decide +kernel) (by decide +kernel)
theorem k_47 : Cond.instantiable "PaperSetter" 9 ∈ TB_ := tb_1 47 (by decide +kernel) (by decide +kernel)
theorem k_48 : Cond.methodLink "PaperSetterLaw" 9 ⟨"PaperSetter", "<init>", "()V"⟩ ∈ TB_ := tb_1 48 (by decide +kernel) (by decide +kernel)
theorem k_49 : Cond.instanceMethod ⟨"PaperSetter", "<init>", "()V"⟩ ∈ TB_ := tb_1 49 (by decide +kernel) (by decide +kernel)
theorem k_50 : Cond.code ⟨"PaperSetter", "<init>", "()V"⟩ prog_1_method_1_code 1 (none : Option FieldType) ∈ TB_ := tb_1 50 (by decide +kernel) (by decide +kernel)
theorem k_51 : Cond.methodLink "PaperSetter" 3 ⟨"java/lang/Object", "<init>", "()V"⟩ ∈ TB_ := tb_1 51 (by decide +kernel) (by decide +kernel)
theorem k_52 : Cond.instanceMethod ⟨"java/lang/Object", "<init>", "()V"⟩ ∈ TB_ := tb_1 52 (by decide +kernel) (by decide +kernel)
theorem k_53 : Cond.code ⟨"java/lang/Object", "<init>", "()V"⟩ object_method_1_code 1 (none : Option FieldType) ∈ TB_ := tb_1 53 (by decide +kernel) (by decide +kernel)
theorem k_54 : Cond.classLink "PaperSetter" 9 "PaperSetter$Bank" ∈ TB_ := tb_1 54 (by decide +kernel) (by decide +kernel)
theorem k_55 : Cond.instantiable "PaperSetter$Bank" 5 ∈ TB_ := tb_1 55 (by decide +kernel) (by decide +kernel)
theorem k_57 : Cond.instanceMethod ⟨"PaperSetter$Bank", "<init>", "()V"⟩ ∈ TB_ := tb_1 57 (by decide +kernel) (by decide +kernel)
theorem k_58 : Cond.code ⟨"PaperSetter$Bank", "<init>", "()V"⟩ prog_2_method_1_code 1 (none : Option FieldType) ∈ TB_ := tb_1 58 (by decide +kernel) (by decide +kernel)
theorem k_59 : Cond.methodLink "PaperSetter$Bank" 3 ⟨"java/lang/Object", "<init>", "()V"⟩ ∈ TB_ := tb_1 59 (by decide +kernel) (by decide +kernel)
theorem k_60 : Cond.classLink "PaperSetter$Bank" 9 "[[I" ∈ TB_ := tb_1 60 (by decide +kernel) (by decide +kernel)
theorem k_62 : Cond.fieldLink "PaperSetter$Bank" 11 "PaperSetter$Bank" "facts" "[[I" ∈ TB_ := tb_1 62 (by decide +kernel) (by decide +kernel)
theorem k_63 : Cond.fieldLink "PaperSetter" 75 "PaperSetter$Bank" "facts" "[[I" ∈ TB_ := tb_1 63 (by decide +kernel) (by decide +kernel)
theorem k_64 : Cond.fieldLink "PaperSetter$Ordering" 99 "PaperSetter$Bank" "facts" "[[I" ∈ TB_ := tb_1 64 (by decide +kernel) (by decide +kernel)
theorem k_65 : Cond.fieldLink "PaperSetter$Bank" 16 "PaperSetter$Bank" "givesAway" "[I" ∈ TB_ := tb_1 65 (by decide +kernel) (by decide +kernel)
theorem k_66 : Cond.fieldLink "PaperSetter" 83 "PaperSetter$Bank" "givesAway" "[I" ∈ TB_ := tb_1 66 (by decide +kernel) (by decide +kernel)
theorem k_67 : Cond.fieldLink "PaperSetter$Bank" 20 "PaperSetter$Bank" "size" "I" ∈ TB_ := tb_1 67 (by decide +kernel) (by decide +kernel)
theorem k_68 : Cond.fieldLink "PaperSetter$Units" 30 "PaperSetter$Bank" "size" "I" ∈ TB_ := tb_1 68 (by decide +kernel) (by decide +kernel)
theorem k_69 : Cond.fieldLink "PaperSetter$Ordering" 45 "PaperSetter$Bank" "size" "I" ∈ TB_ := tb_1 69 (by decide +kernel) (by decide +kernel)
theorem k_70 : Cond.fieldLink "PaperSetter" 72 "PaperSetter$Bank" "size" "I" ∈ TB_ := tb_1 70 (by decide +kernel) (by decide +kernel)
theorem k_71 : Cond.fieldLink "PaperSetter$Bank" 24 "PaperSetter$Bank" "termNow" "I" ∈ TB_ := tb_1 71 (by decide +kernel) (by decide +kernel)
theorem k_72 : Cond.fieldLink "PaperSetter" 102 "PaperSetter$Bank" "termNow" "I" ∈ TB_ := tb_1 72 (by decide +kernel) (by decide +kernel)
theorem k_73 : Cond.fieldLink "PaperSetter$Bank" 27 "PaperSetter$Bank" "restTerms" "I" ∈ TB_ := tb_1 73 (by decide +kernel) (by decide +kernel)
theorem k_74 : Cond.fieldLink "PaperSetter" 99 "PaperSetter$Bank" "restTerms" "I" ∈ TB_ := tb_1 74 (by decide +kernel) (by decide +kernel)
theorem k_86 : Cond.arrayClass FieldType.int ∈ TB_ := tb_1 86 (by decide +kernel) (by decide +kernel)
theorem k_87 : Cond.classLink "PaperSetter" 16 "PaperSetter$Limits" ∈ TB_ := tb_1 87 (by decide +kernel) (by decide +kernel)
theorem k_88 : Cond.instantiable "PaperSetter$Limits" 3 ∈ TB_ := tb_1 88 (by decide +kernel) (by decide +kernel)
theorem k_89 : Cond.methodLink "PaperSetter" 18 ⟨"PaperSetter$Limits", "<init>", "()V"⟩ ∈ TB_ := tb_1 89 (by decide +kernel) (by decide +kernel)
theorem k_90 : Cond.instanceMethod ⟨"PaperSetter$Limits", "<init>", "()V"⟩ ∈ TB_ := tb_1 90 (by decide +kernel) (by decide +kernel)
theorem k_91 : Cond.code ⟨"PaperSetter$Limits", "<init>", "()V"⟩ prog_4_method_1_code 1 (none : Option FieldType) ∈ TB_ := tb_1 91 (by decide +kernel) (by decide +kernel)
theorem k_92 : Cond.methodLink "PaperSetter$Limits" 3 ⟨"java/lang/Object", "<init>", "()V"⟩ ∈ TB_ := tb_1 92 (by decide +kernel) (by decide +kernel)
theorem k_93 : Cond.methodLink "PaperSetter$Limits" 21 ⟨"java/util/Arrays", "fill", "([II)V"⟩ ∈ TB_ := tb_1 93 (by decide +kernel) (by decide +kernel)
theorem k_94 : Cond.static ⟨"java/util/Arrays", "fill", "([II)V"⟩ ∈ TB_ := tb_1 94 (by decide +kernel) (by decide +kernel)
theorem k_95 : Cond.code ⟨"java/util/Arrays", "fill", "([II)V"⟩ prog_14_method_103_code 4 (none : Option FieldType) ∈ TB_ := tb_1 95 (by decide +kernel) (by decide +kernel)
theorem k_96 : Cond.fieldLink "PaperSetter$Limits" 9 "PaperSetter$Limits" "least" "[I" ∈ TB_ := tb_1 96 (by decide +kernel) (by decide +kernel)
theorem k_97 : Cond.fieldLink "PaperSetter" 90 "PaperSetter$Limits" "least" "[I" ∈ TB_ := tb_1 97 (by decide +kernel) (by decide +kernel)
theorem k_98 : Cond.fieldLink "PaperSetter$Limits" 15 "PaperSetter$Limits" "greatest" "[I" ∈ TB_ := tb_1 98 (by decide +kernel) (by decide +kernel)
theorem k_99 : Cond.fieldLink "PaperSetter" 93 "PaperSetter$Limits" "greatest" "[I" ∈ TB_ := tb_1 99 (by decide +kernel) (by decide +kernel)
theorem k_100 : Cond.fieldLink "PaperSetter$Limits" 18 "PaperSetter$Limits" "wished" "[I" ∈ TB_ := tb_1 100 (by decide +kernel) (by decide +kernel)
theorem k_101 : Cond.fieldLink "PaperSetter" 96 "PaperSetter$Limits" "wished" "[I" ∈ TB_ := tb_1 101 (by decide +kernel) (by decide +kernel)
theorem k_109 : Cond.classLink "PaperSetter" 23 "PaperSetter$Units" ∈ TB_ := tb_1 109 (by decide +kernel) (by decide +kernel)
theorem k_110 : Cond.instantiable "PaperSetter$Units" 5 ∈ TB_ := tb_1 110 (by decide +kernel) (by decide +kernel)
theorem k_112 : Cond.instanceMethod ⟨"PaperSetter$Units", "<init>", "()V"⟩ ∈ TB_ := tb_1 112 (by decide +kernel) (by decide +kernel)
theorem k_113 : Cond.code ⟨"PaperSetter$Units", "<init>", "()V"⟩ prog_7_method_1_code 1 (none : Option FieldType) ∈ TB_ := tb_1 113 (by decide +kernel) (by decide +kernel)
theorem k_114 : Cond.methodLink "PaperSetter$Units" 3 ⟨"java/lang/Object", "<init>", "()V"⟩ ∈ TB_ := tb_1 114 (by decide +kernel) (by decide +kernel)
theorem k_115 : Cond.classLink "PaperSetter$Units" 18 "[[I" ∈ TB_ := tb_1 115 (by decide +kernel) (by decide +kernel)
theorem k_116 : Cond.fieldLink "PaperSetter$Units" 9 "PaperSetter$Units" "members" "[I" ∈ TB_ := tb_1 116 (by decide +kernel) (by decide +kernel)
theorem k_117 : Cond.fieldLink "PaperSetter$Search" 56 "PaperSetter$Units" "members" "[I" ∈ TB_ := tb_1 117 (by decide +kernel) (by decide +kernel)
theorem k_118 : Cond.fieldLink "PaperSetter$Units" 15 "PaperSetter$Units" "clashes" "[I" ∈ TB_ := tb_1 118 (by decide +kernel) (by decide +kernel)
theorem k_119 : Cond.fieldLink "PaperSetter$Search" 46 "PaperSetter$Units" "clashes" "[I" ∈ TB_ := tb_1 119 (by decide +kernel) (by decide +kernel)
theorem k_120 : Cond.fieldLink "PaperSetter$Units" 20 "PaperSetter$Units" "sums" "[[I" ∈ TB_ := tb_1 120 (by decide +kernel) (by decide +kernel)
theorem k_121 : Cond.fieldLink "PaperSetter$Search" 59 "PaperSetter$Units" "sums" "[[I" ∈ TB_ := tb_1 121 (by decide +kernel) (by decide +kernel)
theorem k_122 : Cond.fieldLink "PaperSetter$Units" 23 "PaperSetter$Units" "sumsFrom" "[[I" ∈ TB_ := tb_1 122 (by decide +kernel) (by decide +kernel)
theorem k_123 : Cond.fieldLink "PaperSetter$BestSearch" 38 "PaperSetter$Units" "sumsFrom" "[[I" ∈ TB_ := tb_1 123 (by decide +kernel) (by decide +kernel)
theorem k_124 : Cond.fieldLink "PaperSetter$VersionSearch" 74 "PaperSetter$Units" "sumsFrom" "[[I" ∈ TB_ := tb_1 124 (by decide +kernel) (by decide +kernel)
theorem k_125 : Cond.fieldLink "PaperSetter$WhySearch" 46 "PaperSetter$Units" "sumsFrom" "[[I" ∈ TB_ := tb_1 125 (by decide +kernel) (by decide +kernel)
theorem k_126 : Cond.fieldLink "PaperSetter$Units" 26 "PaperSetter$Units" "size" "I" ∈ TB_ := tb_1 126 (by decide +kernel) (by decide +kernel)
theorem k_127 : Cond.fieldLink "PaperSetter$VersionSearch" 52 "PaperSetter$Units" "size" "I" ∈ TB_ := tb_1 127 (by decide +kernel) (by decide +kernel)
theorem k_128 : Cond.fieldLink "PaperSetter$WhySearch" 32 "PaperSetter$Units" "size" "I" ∈ TB_ := tb_1 128 (by decide +kernel) (by decide +kernel)
theorem k_129 : Cond.fieldLink "PaperSetter$Search" 34 "PaperSetter$Units" "size" "I" ∈ TB_ := tb_1 129 (by decide +kernel) (by decide +kernel)
theorem k_141 : Cond.classLink "PaperSetter" 30 "PaperSetter$BestSearch" ∈ TB_ := tb_1 141 (by decide +kernel) (by decide +kernel)
theorem k_142 : Cond.instantiable "PaperSetter$BestSearch" 8 ∈ TB_ := tb_1 142 (by decide +kernel) (by decide +kernel)
theorem k_143 : Cond.methodLink "PaperSetter" 32 ⟨"PaperSetter$BestSearch", "<init>", "(LPaperSetter$Units;LPaperSetter$Limits;)V"⟩ ∈ TB_ := tb_1 143 (by decide +kernel) (by decide +kernel)
theorem k_144 : Cond.instanceMethod ⟨"PaperSetter$BestSearch", "<init>", "(LPaperSetter$Units;LPaperSetter$Limits;)V"⟩ ∈ TB_ := tb_1 144 (by decide +kernel) (by decide +kernel)
theorem k_145 : Cond.code ⟨"PaperSetter$BestSearch", "<init>", "(LPaperSetter$Units;LPaperSetter$Limits;)V"⟩ prog_3_method_1_code 3 (none : Option FieldType) ∈ TB_ := tb_1 145 (by decide +kernel) (by decide +kernel)
theorem k_146 : Cond.methodLink "PaperSetter$BestSearch" 3 ⟨"PaperSetter$Search", "<init>", "(LPaperSetter$Units;LPaperSetter$Limits;)V"⟩ ∈ TB_ := tb_1 146 (by decide +kernel) (by decide +kernel)
theorem k_147 : Cond.instanceMethod ⟨"PaperSetter$Search", "<init>", "(LPaperSetter$Units;LPaperSetter$Limits;)V"⟩ ∈ TB_ := tb_1 147 (by decide +kernel) (by decide +kernel)
theorem k_148 : Cond.code ⟨"PaperSetter$Search", "<init>", "(LPaperSetter$Units;LPaperSetter$Limits;)V"⟩ prog_6_method_1_code 3 (none : Option FieldType) ∈ TB_ := tb_1 148 (by decide +kernel) (by decide +kernel)
theorem k_149 : Cond.methodLink "PaperSetter$Search" 3 ⟨"java/lang/Object", "<init>", "()V"⟩ ∈ TB_ := tb_1 149 (by decide +kernel) (by decide +kernel)
theorem k_150 : Cond.constant "PaperSetter$BestSearch" 15 (1000000) ∈ TB_ := tb_1 150 (by decide +kernel) (by decide +kernel)
theorem k_151 : Cond.fieldLink "PaperSetter$BestSearch" 9 "PaperSetter$BestSearch" "bestSet" "I" ∈ TB_ := tb_1 151 (by decide +kernel) (by decide +kernel)
theorem k_152 : Cond.fieldLink "PaperSetter$BestSearch" 16 "PaperSetter$BestSearch" "bestSpread" "I" ∈ TB_ := tb_1 152 (by decide +kernel) (by decide +kernel)
theorem k_153 : Cond.fieldLink "PaperSetter$BestSearch" 19 "PaperSetter$BestSearch" "bestCount" "I" ∈ TB_ := tb_1 153 (by decide +kernel) (by decide +kernel)
theorem k_154 : Cond.fieldLink "PaperSetter$Search" 22 "PaperSetter$Search" "units" "LPaperSetter$Units;" ∈ TB_ := tb_1 154 (by decide +kernel) (by decide +kernel)
theorem k_155 : Cond.fieldLink "PaperSetter$VersionSearch" 48 "PaperSetter$VersionSearch" "units" "LPaperSetter$Units;" ∈ TB_ := tb_1 155 (by decide +kernel) (by decide +kernel)
theorem k_156 : Cond.sameField "PaperSetter$VersionSearch" "PaperSetter$Search" "units" "LPaperSetter$Units;" ∈ TB_ := tb_1 156 (by decide +kernel) (by decide +kernel)
theorem k_157 : Cond.fieldLink "PaperSetter$BestSearch" 34 "PaperSetter$BestSearch" "units" "LPaperSetter$Units;" ∈ TB_ := tb_1 157 (by decide +kernel) (by decide +kernel)
theorem k_158 : Cond.sameField "PaperSetter$BestSearch" "PaperSetter$Search" "units" "LPaperSetter$Units;" ∈ TB_ := tb_1 158 (by decide +kernel) (by decide +kernel)
theorem k_159 : Cond.fieldLink "PaperSetter$WhySearch" 28 "PaperSetter$WhySearch" "units" "LPaperSetter$Units;" ∈ TB_ := tb_1 159 (by decide +kernel) (by decide +kernel)
theorem k_160 : Cond.sameField "PaperSetter$WhySearch" "PaperSetter$Search" "units" "LPaperSetter$Units;" ∈ TB_ := tb_1 160 (by decide +kernel) (by decide +kernel)
theorem k_161 : Cond.fieldLink "PaperSetter$Search" 26 "PaperSetter$Search" "limits" "LPaperSetter$Limits;" ∈ TB_ := tb_1 161 (by decide +kernel) (by decide +kernel)
theorem k_162 : Cond.fieldLink "PaperSetter$BestSearch" 26 "PaperSetter$BestSearch" "limits" "LPaperSetter$Limits;" ∈ TB_ := tb_1 162 (by decide +kernel) (by decide +kernel)
theorem k_163 : Cond.sameField "PaperSetter$BestSearch" "PaperSetter$Search" "limits" "LPaperSetter$Limits;" ∈ TB_ := tb_1 163 (by decide +kernel) (by decide +kernel)
theorem k_164 : Cond.fieldLink "PaperSetter$VersionSearch" 67 "PaperSetter$VersionSearch" "limits" "LPaperSetter$Limits;" ∈ TB_ := tb_1 164 (by decide +kernel) (by decide +kernel)
theorem k_165 : Cond.sameField "PaperSetter$VersionSearch" "PaperSetter$Search" "limits" "LPaperSetter$Limits;" ∈ TB_ := tb_1 165 (by decide +kernel) (by decide +kernel)
theorem k_166 : Cond.fieldLink "PaperSetter$WhySearch" 38 "PaperSetter$WhySearch" "limits" "LPaperSetter$Limits;" ∈ TB_ := tb_1 166 (by decide +kernel) (by decide +kernel)
theorem k_167 : Cond.sameField "PaperSetter$WhySearch" "PaperSetter$Search" "limits" "LPaperSetter$Limits;" ∈ TB_ := tb_1 167 (by decide +kernel) (by decide +kernel)
theorem k_168 : Cond.fieldLink "PaperSetter$Search" 9 "PaperSetter$Search" "sums" "[I" ∈ TB_ := tb_1 168 (by decide +kernel) (by decide +kernel)
theorem k_169 : Cond.fieldLink "PaperSetter$BestSearch" 30 "PaperSetter$BestSearch" "sums" "[I" ∈ TB_ := tb_1 169 (by decide +kernel) (by decide +kernel)
theorem k_170 : Cond.sameField "PaperSetter$BestSearch" "PaperSetter$Search" "sums" "[I" ∈ TB_ := tb_1 170 (by decide +kernel) (by decide +kernel)
theorem k_171 : Cond.fieldLink "PaperSetter$VersionSearch" 71 "PaperSetter$VersionSearch" "sums" "[I" ∈ TB_ := tb_1 171 (by decide +kernel) (by decide +kernel)
theorem k_172 : Cond.sameField "PaperSetter$VersionSearch" "PaperSetter$Search" "sums" "[I" ∈ TB_ := tb_1 172 (by decide +kernel) (by decide +kernel)
theorem k_173 : Cond.fieldLink "PaperSetter$WhySearch" 42 "PaperSetter$WhySearch" "sums" "[I" ∈ TB_ := tb_1 173 (by decide +kernel) (by decide +kernel)
theorem k_174 : Cond.sameField "PaperSetter$WhySearch" "PaperSetter$Search" "sums" "[I" ∈ TB_ := tb_1 174 (by decide +kernel) (by decide +kernel)
theorem k_175 : Cond.fieldLink "PaperSetter$Search" 15 "PaperSetter$Search" "set" "I" ∈ TB_ := tb_1 175 (by decide +kernel) (by decide +kernel)
theorem k_176 : Cond.fieldLink "PaperSetter$BestSearch" 53 "PaperSetter$BestSearch" "set" "I" ∈ TB_ := tb_1 176 (by decide +kernel) (by decide +kernel)
theorem k_177 : Cond.sameField "PaperSetter$BestSearch" "PaperSetter$Search" "set" "I" ∈ TB_ := tb_1 177 (by decide +kernel) (by decide +kernel)
theorem k_178 : Cond.fieldLink "PaperSetter$VersionSearch" 87 "PaperSetter$VersionSearch" "set" "I" ∈ TB_ := tb_1 178 (by decide +kernel) (by decide +kernel)
theorem k_179 : Cond.sameField "PaperSetter$VersionSearch" "PaperSetter$Search" "set" "I" ∈ TB_ := tb_1 179 (by decide +kernel) (by decide +kernel)
theorem k_180 : Cond.fieldLink "PaperSetter$Search" 19 "PaperSetter$Search" "takenUnits" "I" ∈ TB_ := tb_1 180 (by decide +kernel) (by decide +kernel)
theorem k_181 : Cond.fieldLink "PaperSetter$VersionSearch" 84 "PaperSetter$VersionSearch" "takenUnits" "I" ∈ TB_ := tb_1 181 (by decide +kernel) (by decide +kernel)
theorem k_182 : Cond.sameField "PaperSetter$VersionSearch" "PaperSetter$Search" "takenUnits" "I" ∈ TB_ := tb_1 182 (by decide +kernel) (by decide +kernel)
theorem k_200 : Cond.classLink "PaperSetter" 39 "PaperSetter$WhySearch" ∈ TB_ := tb_1 200 (by decide +kernel) (by decide +kernel)
theorem k_201 : Cond.instantiable "PaperSetter$WhySearch" 6 ∈ TB_ := tb_1 201 (by decide +kernel) (by decide +kernel)
theorem k_202 : Cond.methodLink "PaperSetter" 41 ⟨"PaperSetter$WhySearch", "<init>", "(LPaperSetter$Units;LPaperSetter$Limits;)V"⟩ ∈ TB_ := tb_1 202 (by decide +kernel) (by decide +kernel)
theorem k_203 : Cond.instanceMethod ⟨"PaperSetter$WhySearch", "<init>", "(LPaperSetter$Units;LPaperSetter$Limits;)V"⟩ ∈ TB_ := tb_1 203 (by decide +kernel) (by decide +kernel)
theorem k_204 : Cond.code ⟨"PaperSetter$WhySearch", "<init>", "(LPaperSetter$Units;LPaperSetter$Limits;)V"⟩ prog_9_method_1_code 3 (none : Option FieldType) ∈ TB_ := tb_1 204 (by decide +kernel) (by decide +kernel)
theorem k_205 : Cond.methodLink "PaperSetter$WhySearch" 3 ⟨"PaperSetter$Search", "<init>", "(LPaperSetter$Units;LPaperSetter$Limits;)V"⟩ ∈ TB_ := tb_1 205 (by decide +kernel) (by decide +kernel)
theorem k_206 : Cond.fieldLink "PaperSetter$WhySearch" 9 "PaperSetter$WhySearch" "kept" "[Z" ∈ TB_ := tb_1 206 (by decide +kernel) (by decide +kernel)
theorem k_215 : Cond.arrayClass FieldType.boolean ∈ TB_ := tb_1 215 (by decide +kernel) (by decide +kernel)
theorem k_216 : Cond.classLink "PaperSetter" 46 "PaperSetter$VersionSearch" ∈ TB_ := tb_1 216 (by decide +kernel) (by decide +kernel)
theorem k_217 : Cond.instantiable "PaperSetter$VersionSearch" 13 ∈ TB_ := tb_1 217 (by decide +kernel) (by decide +kernel)
theorem k_218 : Cond.methodLink "PaperSetter" 48 ⟨"PaperSetter$VersionSearch", "<init>", "(LPaperSetter$Units;LPaperSetter$Limits;)V"⟩ ∈ TB_ := tb_1 218 (by decide +kernel) (by decide +kernel)
theorem k_219 : Cond.instanceMethod ⟨"PaperSetter$VersionSearch", "<init>", "(LPaperSetter$Units;LPaperSetter$Limits;)V"⟩ ∈ TB_ := tb_1 219 (by decide +kernel) (by decide +kernel)
theorem k_220 : Cond.code ⟨"PaperSetter$VersionSearch", "<init>", "(LPaperSetter$Units;LPaperSetter$Limits;)V"⟩ prog_8_method_1_code 3 (none : Option FieldType) ∈ TB_ := tb_1 220 (by decide +kernel) (by decide +kernel)
theorem k_221 : Cond.methodLink "PaperSetter$VersionSearch" 3 ⟨"PaperSetter$Search", "<init>", "(LPaperSetter$Units;LPaperSetter$Limits;)V"⟩ ∈ TB_ := tb_1 221 (by decide +kernel) (by decide +kernel)
theorem k_222 : Cond.constant "PaperSetter$VersionSearch" 24 (1000000) ∈ TB_ := tb_1 222 (by decide +kernel) (by decide +kernel)
theorem k_223 : Cond.fieldLink "PaperSetter$VersionSearch" 9 "PaperSetter$VersionSearch" "papers" "[I" ∈ TB_ := tb_1 223 (by decide +kernel) (by decide +kernel)
theorem k_224 : Cond.fieldLink "PaperSetter$VersionSearch" 15 "PaperSetter$VersionSearch" "minutes" "[I" ∈ TB_ := tb_1 224 (by decide +kernel) (by decide +kernel)
theorem k_225 : Cond.fieldLink "PaperSetter$VersionSearch" 18 "PaperSetter$VersionSearch" "marks" "[I" ∈ TB_ := tb_1 225 (by decide +kernel) (by decide +kernel)
theorem k_226 : Cond.fieldLink "PaperSetter$VersionSearch" 21 "PaperSetter$VersionSearch" "spreads" "[I" ∈ TB_ := tb_1 226 (by decide +kernel) (by decide +kernel)
theorem k_227 : Cond.fieldLink "PaperSetter$VersionSearch" 25 "PaperSetter$VersionSearch" "bestSpread" "I" ∈ TB_ := tb_1 227 (by decide +kernel) (by decide +kernel)
theorem k_228 : Cond.fieldLink "PaperSetter$VersionSearch" 29 "PaperSetter$VersionSearch" "bestCount" "I" ∈ TB_ := tb_1 228 (by decide +kernel) (by decide +kernel)
theorem k_229 : Cond.fieldLink "PaperSetter$VersionSearch" 32 "PaperSetter$VersionSearch" "bestFirst" "I" ∈ TB_ := tb_1 229 (by decide +kernel) (by decide +kernel)
theorem k_230 : Cond.fieldLink "PaperSetter" 153 "PaperSetter$VersionSearch" "bestFirst" "I" ∈ TB_ := tb_1 230 (by decide +kernel) (by decide +kernel)
theorem k_231 : Cond.fieldLink "PaperSetter$VersionSearch" 35 "PaperSetter$VersionSearch" "bestSecond" "I" ∈ TB_ := tb_1 231 (by decide +kernel) (by decide +kernel)
theorem k_232 : Cond.fieldLink "PaperSetter" 150 "PaperSetter$VersionSearch" "bestSecond" "I" ∈ TB_ := tb_1 232 (by decide +kernel) (by decide +kernel)
theorem k_255 : Cond.classLink "PaperSetter" 53 "PaperSetter$Ordering" ∈ TB_ := tb_1 255 (by decide +kernel) (by decide +kernel)
theorem k_256 : Cond.instantiable "PaperSetter$Ordering" 10 ∈ TB_ := tb_1 256 (by decide +kernel) (by decide +kernel)
theorem k_258 : Cond.instanceMethod ⟨"PaperSetter$Ordering", "<init>", "()V"⟩ ∈ TB_ := tb_1 258 (by decide +kernel) (by decide +kernel)
theorem k_259 : Cond.code ⟨"PaperSetter$Ordering", "<init>", "()V"⟩ prog_5_method_1_code 1 (none : Option FieldType) ∈ TB_ := tb_1 259 (by decide +kernel) (by decide +kernel)
theorem k_260 : Cond.methodLink "PaperSetter$Ordering" 3 ⟨"java/lang/Object", "<init>", "()V"⟩ ∈ TB_ := tb_1 260 (by decide +kernel) (by decide +kernel)
theorem k_261 : Cond.classLink "PaperSetter$Ordering" 21 "[[I" ∈ TB_ := tb_1 261 (by decide +kernel) (by decide +kernel)
theorem k_262 : Cond.fieldLink "PaperSetter$Ordering" 9 "PaperSetter$Ordering" "members" "[I" ∈ TB_ := tb_1 262 (by decide +kernel) (by decide +kernel)
theorem k_263 : Cond.fieldLink "PaperSetter$Ordering" 15 "PaperSetter$Ordering" "firstQuestions" "[I" ∈ TB_ := tb_1 263 (by decide +kernel) (by decide +kernel)
theorem k_264 : Cond.fieldLink "PaperSetter$Ordering" 18 "PaperSetter$Ordering" "lastQuestions" "[I" ∈ TB_ := tb_1 264 (by decide +kernel) (by decide +kernel)
theorem k_265 : Cond.fieldLink "PaperSetter$Ordering" 23 "PaperSetter$Ordering" "joinCosts" "[[I" ∈ TB_ := tb_1 265 (by decide +kernel) (by decide +kernel)
theorem k_266 : Cond.fieldLink "PaperSetter$Ordering" 26 "PaperSetter$Ordering" "restCosts" "[I" ∈ TB_ := tb_1 266 (by decide +kernel) (by decide +kernel)
theorem k_267 : Cond.fieldLink "PaperSetter$Ordering" 29 "PaperSetter$Ordering" "size" "I" ∈ TB_ := tb_1 267 (by decide +kernel) (by decide +kernel)
theorem k_268 : Cond.fieldLink "PaperSetter$Ordering" 33 "PaperSetter$Ordering" "places" "[I" ∈ TB_ := tb_1 268 (by decide +kernel) (by decide +kernel)
theorem k_269 : Cond.fieldLink "PaperSetter" 169 "PaperSetter$Ordering" "places" "[I" ∈ TB_ := tb_1 269 (by decide +kernel) (by decide +kernel)
theorem k_270 : Cond.fieldLink "PaperSetter$Ordering" 36 "PaperSetter$Ordering" "placed" "I" ∈ TB_ := tb_1 270 (by decide +kernel) (by decide +kernel)
theorem k_271 : Cond.fieldLink "PaperSetter" 166 "PaperSetter$Ordering" "placed" "I" ∈ TB_ := tb_1 271 (by decide +kernel) (by decide +kernel)
theorem k_272 : Cond.fieldLink "PaperSetter$Ordering" 39 "PaperSetter$Ordering" "stepsDown" "I" ∈ TB_ := tb_1 272 (by decide +kernel) (by decide +kernel)
theorem k_273 : Cond.fieldLink "PaperSetter" 163 "PaperSetter$Ordering" "stepsDown" "I" ∈ TB_ := tb_1 273 (by decide +kernel) (by decide +kernel)
theorem k_274 : Cond.fieldLink "PaperSetter$Ordering" 42 "PaperSetter$Ordering" "alike" "I" ∈ TB_ := tb_1 274 (by decide +kernel) (by decide +kernel)
theorem k_275 : Cond.fieldLink "PaperSetter" 172 "PaperSetter$Ordering" "alike" "I" ∈ TB_ := tb_1 275 (by decide +kernel) (by decide +kernel)
theorem k_297 : Cond.fieldLink "PaperSetter" 12 "PaperSetter" "bank" "LPaperSetter$Bank;" ∈ TB_ := tb_1 297 (by decide +kernel) (by decide +kernel)
theorem k_298 : Cond.fieldLink "PaperSetter" 19 "PaperSetter" "limits" "LPaperSetter$Limits;" ∈ TB_ := tb_1 298 (by decide +kernel) (by decide +kernel)
theorem k_299 : Cond.fieldLink "PaperSetter" 26 "PaperSetter" "units" "LPaperSetter$Units;" ∈ TB_ := tb_1 299 (by decide +kernel) (by decide +kernel)
theorem k_300 : Cond.fieldLink "PaperSetter" 35 "PaperSetter" "bestSearch" "LPaperSetter$BestSearch;" ∈ TB_ := tb_1 300 (by decide +kernel) (by decide +kernel)
theorem k_301 : Cond.fieldLink "PaperSetter" 42 "PaperSetter" "whySearch" "LPaperSetter$WhySearch;" ∈ TB_ := tb_1 301 (by decide +kernel) (by decide +kernel)
theorem k_302 : Cond.fieldLink "PaperSetter" 49 "PaperSetter" "versionSearch" "LPaperSetter$VersionSearch;" ∈ TB_ := tb_1 302 (by decide +kernel) (by decide +kernel)
theorem k_303 : Cond.fieldLink "PaperSetter" 56 "PaperSetter" "ordering" "LPaperSetter$Ordering;" ∈ TB_ := tb_1 303 (by decide +kernel) (by decide +kernel)
theorem k_304 : Cond.fieldLink "PaperSetter" 60 "PaperSetter" "sumsLookedAt" "[I" ∈ TB_ := tb_1 304 (by decide +kernel) (by decide +kernel)
theorem k_305 : Cond.fieldLink "PaperSetter" 64 "PaperSetter" "secondVersion" "I" ∈ TB_ := tb_1 305 (by decide +kernel) (by decide +kernel)
theorem k_325 : Cond.methodLink "PaperSetterLaw" 13 ⟨"PaperSetter", "question", "(IIIII)I"⟩ ∈ TB_ := tb_1 325 (by decide +kernel) (by decide +kernel)
theorem k_326 : Cond.instanceMethod ⟨"PaperSetter", "question", "(IIIII)I"⟩ ∈ TB_ := tb_1 326 (by decide +kernel) (by decide +kernel)
theorem k_327 : Cond.selects "PaperSetter" ⟨"PaperSetter", "question", "(IIIII)I"⟩ ⟨"PaperSetter", "question", "(IIIII)I"⟩ ∈ TB_ := tb_1 327 (by decide +kernel) (by decide +kernel)
theorem k_328 : Cond.code ⟨"PaperSetter", "question", "(IIIII)I"⟩ prog_1_method_2_code 9 (some FieldType.int) ∈ TB_ := tb_1 328 (by decide +kernel) (by decide +kernel)
theorem k_329 : Cond.methodLink "PaperSetter" 68 ⟨"PaperSetter", "within", "(III)Z"⟩ ∈ TB_ := tb_1 329 (by decide +kernel) (by decide +kernel)
theorem k_330 : Cond.static ⟨"PaperSetter", "within", "(III)Z"⟩ ∈ TB_ := tb_1 330 (by decide +kernel) (by decide +kernel)
theorem k_331 : Cond.code ⟨"PaperSetter", "within", "(III)Z"⟩ prog_1_method_20_code 3 (some FieldType.boolean) ∈ TB_ := tb_1 331 (by decide +kernel) (by decide +kernel)
theorem k_332 : Cond.methodLink "PaperSetterLaw" 18 ⟨"PaperSetter", "passage", "(II)Z"⟩ ∈ TB_ := tb_1 332 (by decide +kernel) (by decide +kernel)
theorem k_333 : Cond.instanceMethod ⟨"PaperSetter", "passage", "(II)Z"⟩ ∈ TB_ := tb_1 333 (by decide +kernel) (by decide +kernel)
theorem k_334 : Cond.selects "PaperSetter" ⟨"PaperSetter", "passage", "(II)Z"⟩ ⟨"PaperSetter", "passage", "(II)Z"⟩ ∈ TB_ := tb_1 334 (by decide +kernel) (by decide +kernel)
theorem k_335 : Cond.code ⟨"PaperSetter", "passage", "(II)Z"⟩ prog_1_method_3_code 3 (some FieldType.boolean) ∈ TB_ := tb_1 335 (by decide +kernel) (by decide +kernel)
theorem k_336 : Cond.methodLink "PaperSetter" 79 ⟨"PaperSetter$Bank", "has", "(I)Z"⟩ ∈ TB_ := tb_1 336 (by decide +kernel) (by decide +kernel)
theorem k_337 : Cond.instanceMethod ⟨"PaperSetter$Bank", "has", "(I)Z"⟩ ∈ TB_ := tb_1 337 (by decide +kernel) (by decide +kernel)
theorem k_338 : Cond.selects "PaperSetter$Bank" ⟨"PaperSetter$Bank", "has", "(I)Z"⟩ ⟨"PaperSetter$Bank", "has", "(I)Z"⟩ ∈ TB_ := tb_1 338 (by decide +kernel) (by decide +kernel)
theorem k_339 : Cond.code ⟨"PaperSetter$Bank", "has", "(I)Z"⟩ prog_2_method_2_code 2 (some FieldType.boolean) ∈ TB_ := tb_1 339 (by decide +kernel) (by decide +kernel)
theorem k_341 : Cond.methodLink "PaperSetterLaw" 23 ⟨"PaperSetter", "gives", "(IIZ)Z"⟩ ∈ TB_ := tb_1 341 (by decide +kernel) (by decide +kernel)
theorem k_342 : Cond.instanceMethod ⟨"PaperSetter", "gives", "(IIZ)Z"⟩ ∈ TB_ := tb_1 342 (by decide +kernel) (by decide +kernel)
theorem k_343 : Cond.selects "PaperSetter" ⟨"PaperSetter", "gives", "(IIZ)Z"⟩ ⟨"PaperSetter", "gives", "(IIZ)Z"⟩ ∈ TB_ := tb_1 343 (by decide +kernel) (by decide +kernel)
theorem k_344 : Cond.code ⟨"PaperSetter", "gives", "(IIZ)Z"⟩ prog_1_method_4_code 5 (some FieldType.boolean) ∈ TB_ := tb_1 344 (by decide +kernel) (by decide +kernel)
theorem k_345 : Cond.methodLink "PaperSetter" 86 ⟨"PaperSetter", "contains", "(II)Z"⟩ ∈ TB_ := tb_1 345 (by decide +kernel) (by decide +kernel)
theorem k_346 : Cond.static ⟨"PaperSetter", "contains", "(II)Z"⟩ ∈ TB_ := tb_1 346 (by decide +kernel) (by decide +kernel)
theorem k_347 : Cond.code ⟨"PaperSetter", "contains", "(II)Z"⟩ prog_1_method_22_code 2 (some FieldType.boolean) ∈ TB_ := tb_1 347 (by decide +kernel) (by decide +kernel)
theorem k_348 : Cond.methodLink "PaperSetterLaw" 28 ⟨"PaperSetter", "bound", "(III)Z"⟩ ∈ TB_ := tb_1 348 (by decide +kernel) (by decide +kernel)
theorem k_349 : Cond.instanceMethod ⟨"PaperSetter", "bound", "(III)Z"⟩ ∈ TB_ := tb_1 349 (by decide +kernel) (by decide +kernel)
theorem k_350 : Cond.selects "PaperSetter" ⟨"PaperSetter", "bound", "(III)Z"⟩ ⟨"PaperSetter", "bound", "(III)Z"⟩ ∈ TB_ := tb_1 350 (by decide +kernel) (by decide +kernel)
theorem k_351 : Cond.code ⟨"PaperSetter", "bound", "(III)Z"⟩ prog_1_method_5_code 5 (some FieldType.boolean) ∈ TB_ := tb_1 351 (by decide +kernel) (by decide +kernel)
theorem k_352 : Cond.methodLink "PaperSetterLaw" 33 ⟨"PaperSetter", "profile", "(II)Z"⟩ ∈ TB_ := tb_1 352 (by decide +kernel) (by decide +kernel)
theorem k_353 : Cond.instanceMethod ⟨"PaperSetter", "profile", "(II)Z"⟩ ∈ TB_ := tb_1 353 (by decide +kernel) (by decide +kernel)
theorem k_354 : Cond.selects "PaperSetter" ⟨"PaperSetter", "profile", "(II)Z"⟩ ⟨"PaperSetter", "profile", "(II)Z"⟩ ∈ TB_ := tb_1 354 (by decide +kernel) (by decide +kernel)
theorem k_355 : Cond.code ⟨"PaperSetter", "profile", "(II)Z"⟩ prog_1_method_6_code 3 (some FieldType.boolean) ∈ TB_ := tb_1 355 (by decide +kernel) (by decide +kernel)
theorem k_356 : Cond.methodLink "PaperSetterLaw" 37 ⟨"PaperSetter", "rest", "(I)Z"⟩ ∈ TB_ := tb_1 356 (by decide +kernel) (by decide +kernel)
theorem k_357 : Cond.instanceMethod ⟨"PaperSetter", "rest", "(I)Z"⟩ ∈ TB_ := tb_1 357 (by decide +kernel) (by decide +kernel)
theorem k_358 : Cond.selects "PaperSetter" ⟨"PaperSetter", "rest", "(I)Z"⟩ ⟨"PaperSetter", "rest", "(I)Z"⟩ ∈ TB_ := tb_1 358 (by decide +kernel) (by decide +kernel)
theorem k_359 : Cond.code ⟨"PaperSetter", "rest", "(I)Z"⟩ prog_1_method_7_code 2 (some FieldType.boolean) ∈ TB_ := tb_1 359 (by decide +kernel) (by decide +kernel)
theorem k_360 : Cond.methodLink "PaperSetterLaw" 42 ⟨"PaperSetter", "term", "()I"⟩ ∈ TB_ := tb_1 360 (by decide +kernel) (by decide +kernel)
theorem k_361 : Cond.instanceMethod ⟨"PaperSetter", "term", "()I"⟩ ∈ TB_ := tb_1 361 (by decide +kernel) (by decide +kernel)
theorem k_362 : Cond.selects "PaperSetter" ⟨"PaperSetter", "term", "()I"⟩ ⟨"PaperSetter", "term", "()I"⟩ ∈ TB_ := tb_1 362 (by decide +kernel) (by decide +kernel)
theorem k_363 : Cond.code ⟨"PaperSetter", "term", "()I"⟩ prog_1_method_8_code 1 (some FieldType.int) ∈ TB_ := tb_1 363 (by decide +kernel) (by decide +kernel)
theorem k_364 : Cond.methodLink "PaperSetterLaw" 47 ⟨"PaperSetter", "use", "(I)Z"⟩ ∈ TB_ := tb_1 364 (by decide +kernel) (by decide +kernel)
theorem k_365 : Cond.instanceMethod ⟨"PaperSetter", "use", "(I)Z"⟩ ∈ TB_ := tb_1 365 (by decide +kernel) (by decide +kernel)
theorem k_366 : Cond.selects "PaperSetter" ⟨"PaperSetter", "use", "(I)Z"⟩ ⟨"PaperSetter", "use", "(I)Z"⟩ ∈ TB_ := tb_1 366 (by decide +kernel) (by decide +kernel)
theorem k_367 : Cond.code ⟨"PaperSetter", "use", "(I)Z"⟩ prog_1_method_9_code 3 (some FieldType.boolean) ∈ TB_ := tb_1 367 (by decide +kernel) (by decide +kernel)
theorem k_368 : Cond.methodLink "PaperSetter" 105 ⟨"PaperSetter$Bank", "hasAll", "(I)Z"⟩ ∈ TB_ := tb_1 368 (by decide +kernel) (by decide +kernel)
theorem k_369 : Cond.instanceMethod ⟨"PaperSetter$Bank", "hasAll", "(I)Z"⟩ ∈ TB_ := tb_1 369 (by decide +kernel) (by decide +kernel)
theorem k_370 : Cond.selects "PaperSetter$Bank" ⟨"PaperSetter$Bank", "hasAll", "(I)Z"⟩ ⟨"PaperSetter$Bank", "hasAll", "(I)Z"⟩ ∈ TB_ := tb_1 370 (by decide +kernel) (by decide +kernel)
theorem k_371 : Cond.code ⟨"PaperSetter$Bank", "hasAll", "(I)Z"⟩ prog_2_method_3_code 2 (some FieldType.boolean) ∈ TB_ := tb_1 371 (by decide +kernel) (by decide +kernel)
theorem k_372 : Cond.methodLink "PaperSetterLaw" 51 ⟨"PaperSetter", "rests", "(I)I"⟩ ∈ TB_ := tb_1 372 (by decide +kernel) (by decide +kernel)
theorem k_373 : Cond.instanceMethod ⟨"PaperSetter", "rests", "(I)I"⟩ ∈ TB_ := tb_1 373 (by decide +kernel) (by decide +kernel)
theorem k_374 : Cond.selects "PaperSetter" ⟨"PaperSetter", "rests", "(I)I"⟩ ⟨"PaperSetter", "rests", "(I)I"⟩ ∈ TB_ := tb_1 374 (by decide +kernel) (by decide +kernel)
theorem k_375 : Cond.code ⟨"PaperSetter", "rests", "(I)I"⟩ prog_1_method_10_code 2 (some FieldType.int) ∈ TB_ := tb_1 375 (by decide +kernel) (by decide +kernel)
theorem k_376 : Cond.methodLink "PaperSetter" 108 ⟨"PaperSetter$Bank", "isResting", "(I)Z"⟩ ∈ TB_ := tb_1 376 (by decide +kernel) (by decide +kernel)
theorem k_377 : Cond.instanceMethod ⟨"PaperSetter$Bank", "isResting", "(I)Z"⟩ ∈ TB_ := tb_1 377 (by decide +kernel) (by decide +kernel)
theorem k_378 : Cond.selects "PaperSetter$Bank" ⟨"PaperSetter$Bank", "isResting", "(I)Z"⟩ ⟨"PaperSetter$Bank", "isResting", "(I)Z"⟩ ∈ TB_ := tb_1 378 (by decide +kernel) (by decide +kernel)
theorem k_379 : Cond.code ⟨"PaperSetter$Bank", "isResting", "(I)Z"⟩ prog_2_method_4_code 3 (some FieldType.boolean) ∈ TB_ := tb_1 379 (by decide +kernel) (by decide +kernel)
theorem k_380 : Cond.methodLink "PaperSetter" 111 ⟨"PaperSetter", "oneIf", "(Z)I"⟩ ∈ TB_ := tb_1 380 (by decide +kernel) (by decide +kernel)
theorem k_381 : Cond.static ⟨"PaperSetter", "oneIf", "(Z)I"⟩ ∈ TB_ := tb_1 381 (by decide +kernel) (by decide +kernel)
theorem k_382 : Cond.code ⟨"PaperSetter", "oneIf", "(Z)I"⟩ prog_1_method_21_code 1 (some FieldType.int) ∈ TB_ := tb_1 382 (by decide +kernel) (by decide +kernel)
theorem k_383 : Cond.methodLink "PaperSetterLaw" 56 ⟨"PaperSetter", "look", "(II)I"⟩ ∈ TB_ := tb_1 383 (by decide +kernel) (by decide +kernel)
theorem k_384 : Cond.instanceMethod ⟨"PaperSetter", "look", "(II)I"⟩ ∈ TB_ := tb_1 384 (by decide +kernel) (by decide +kernel)
theorem k_385 : Cond.selects "PaperSetter" ⟨"PaperSetter", "look", "(II)I"⟩ ⟨"PaperSetter", "look", "(II)I"⟩ ∈ TB_ := tb_1 385 (by decide +kernel) (by decide +kernel)
theorem k_386 : Cond.code ⟨"PaperSetter", "look", "(II)I"⟩ prog_1_method_11_code 4 (some FieldType.int) ∈ TB_ := tb_1 386 (by decide +kernel) (by decide +kernel)
theorem k_387 : Cond.methodLink "PaperSetter" 115 ⟨"PaperSetter$Bank", "sumUp", "(I[I)V"⟩ ∈ TB_ := tb_1 387 (by decide +kernel) (by decide +kernel)
theorem k_388 : Cond.instanceMethod ⟨"PaperSetter$Bank", "sumUp", "(I[I)V"⟩ ∈ TB_ := tb_1 388 (by decide +kernel) (by decide +kernel)
theorem k_389 : Cond.selects "PaperSetter$Bank" ⟨"PaperSetter$Bank", "sumUp", "(I[I)V"⟩ ⟨"PaperSetter$Bank", "sumUp", "(I[I)V"⟩ ∈ TB_ := tb_1 389 (by decide +kernel) (by decide +kernel)
theorem k_390 : Cond.code ⟨"PaperSetter$Bank", "sumUp", "(I[I)V"⟩ prog_2_method_10_code 5 (none : Option FieldType) ∈ TB_ := tb_1 390 (by decide +kernel) (by decide +kernel)
theorem k_392 : Cond.methodLink "PaperSetter$Bank" 49 ⟨"PaperSetter$Bank", "weightOf", "(II)I"⟩ ∈ TB_ := tb_1 392 (by decide +kernel) (by decide +kernel)
theorem k_394 : Cond.instanceMethod ⟨"PaperSetter$Bank", "weightOf", "(II)I"⟩ ∈ TB_ := tb_1 394 (by decide +kernel) (by decide +kernel)
theorem k_395 : Cond.code ⟨"PaperSetter$Bank", "weightOf", "(II)I"⟩ prog_2_method_11_code 4 (some FieldType.int) ∈ TB_ := tb_1 395 (by decide +kernel) (by decide +kernel)
theorem k_396 : Cond.fieldLink "PaperSetter" 119 "PaperSetter" "NOTHING_MORE" "[I" ∈ TB_ := tb_1 396 (by decide +kernel) (by decide +kernel)
theorem k_398 : Cond.methodLink "PaperSetter" 122 ⟨"PaperSetter$Limits", "surelyBroken", "([I[I)I"⟩ ∈ TB_ := tb_1 398 (by decide +kernel) (by decide +kernel)
theorem k_399 : Cond.instanceMethod ⟨"PaperSetter$Limits", "surelyBroken", "([I[I)I"⟩ ∈ TB_ := tb_1 399 (by decide +kernel) (by decide +kernel)
theorem k_400 : Cond.selects "PaperSetter$Limits" ⟨"PaperSetter$Limits", "surelyBroken", "([I[I)I"⟩ ⟨"PaperSetter$Limits", "surelyBroken", "([I[I)I"⟩ ∈ TB_ := tb_1 400 (by decide +kernel) (by decide +kernel)
theorem k_401 : Cond.code ⟨"PaperSetter$Limits", "surelyBroken", "([I[I)I"⟩ prog_4_method_2_code 5 (some FieldType.int) ∈ TB_ := tb_1 401 (by decide +kernel) (by decide +kernel)
theorem k_402 : Cond.methodLink "PaperSetter" 126 ⟨"PaperSetter$Bank", "isFit", "(I)Z"⟩ ∈ TB_ := tb_1 402 (by decide +kernel) (by decide +kernel)
theorem k_403 : Cond.instanceMethod ⟨"PaperSetter$Bank", "isFit", "(I)Z"⟩ ∈ TB_ := tb_1 403 (by decide +kernel) (by decide +kernel)
theorem k_404 : Cond.selects "PaperSetter$Bank" ⟨"PaperSetter$Bank", "isFit", "(I)Z"⟩ ⟨"PaperSetter$Bank", "isFit", "(I)Z"⟩ ∈ TB_ := tb_1 404 (by decide +kernel) (by decide +kernel)
theorem k_405 : Cond.code ⟨"PaperSetter$Bank", "isFit", "(I)Z"⟩ prog_2_method_7_code 3 (some FieldType.boolean) ∈ TB_ := tb_1 405 (by decide +kernel) (by decide +kernel)
theorem k_406 : Cond.methodLink "PaperSetter$Bank" 42 ⟨"PaperSetter$Bank", "fitsInto", "(II)Z"⟩ ∈ TB_ := tb_1 406 (by decide +kernel) (by decide +kernel)
theorem k_408 : Cond.instanceMethod ⟨"PaperSetter$Bank", "fitsInto", "(II)Z"⟩ ∈ TB_ := tb_1 408 (by decide +kernel) (by decide +kernel)
theorem k_409 : Cond.code ⟨"PaperSetter$Bank", "fitsInto", "(II)Z"⟩ prog_2_method_8_code 3 (some FieldType.boolean) ∈ TB_ := tb_1 409 (by decide +kernel) (by decide +kernel)
theorem k_410 : Cond.methodLink "PaperSetter$Bank" 34 ⟨"PaperSetter$Bank", "isResting", "(I)Z"⟩ ∈ TB_ := tb_1 410 (by decide +kernel) (by decide +kernel)
theorem k_411 : Cond.methodLink "PaperSetter$Bank" 45 ⟨"PaperSetter$Bank", "wholeOf", "(I)I"⟩ ∈ TB_ := tb_1 411 (by decide +kernel) (by decide +kernel)
theorem k_412 : Cond.instanceMethod ⟨"PaperSetter$Bank", "wholeOf", "(I)I"⟩ ∈ TB_ := tb_1 412 (by decide +kernel) (by decide +kernel)
theorem k_413 : Cond.selects "PaperSetter$Bank" ⟨"PaperSetter$Bank", "wholeOf", "(I)I"⟩ ⟨"PaperSetter$Bank", "wholeOf", "(I)I"⟩ ∈ TB_ := tb_1 413 (by decide +kernel) (by decide +kernel)
theorem k_414 : Cond.code ⟨"PaperSetter$Bank", "wholeOf", "(I)I"⟩ prog_2_method_6_code 5 (some FieldType.int) ∈ TB_ := tb_1 414 (by decide +kernel) (by decide +kernel)
theorem k_415 : Cond.methodLink "PaperSetter" 129 ⟨"PaperSetter$Limits", "leastSpread", "([I[I)I"⟩ ∈ TB_ := tb_1 415 (by decide +kernel) (by decide +kernel)
theorem k_416 : Cond.instanceMethod ⟨"PaperSetter$Limits", "leastSpread", "([I[I)I"⟩ ∈ TB_ := tb_1 416 (by decide +kernel) (by decide +kernel)
theorem k_417 : Cond.selects "PaperSetter$Limits" ⟨"PaperSetter$Limits", "leastSpread", "([I[I)I"⟩ ⟨"PaperSetter$Limits", "leastSpread", "([I[I)I"⟩ ∈ TB_ := tb_1 417 (by decide +kernel) (by decide +kernel)
theorem k_418 : Cond.code ⟨"PaperSetter$Limits", "leastSpread", "([I[I)I"⟩ prog_4_method_3_code 7 (some FieldType.int) ∈ TB_ := tb_1 418 (by decide +kernel) (by decide +kernel)
theorem k_419 : Cond.methodLink "PaperSetter$Limits" 27 ⟨"java/lang/Math", "max", "(II)I"⟩ ∈ TB_ := tb_1 419 (by decide +kernel) (by decide +kernel)
theorem k_420 : Cond.static ⟨"java/lang/Math", "max", "(II)I"⟩ ∈ TB_ := tb_1 420 (by decide +kernel) (by decide +kernel)
theorem k_421 : Cond.code ⟨"java/lang/Math", "max", "(II)I"⟩ prog_13_method_65_code 2 (some FieldType.int) ∈ TB_ := tb_1 421 (by decide +kernel) (by decide +kernel)
theorem k_422 : Cond.methodLink "PaperSetterLaw" 61 ⟨"PaperSetter", "best", "()I"⟩ ∈ TB_ := tb_1 422 (by decide +kernel) (by decide +kernel)
theorem k_423 : Cond.instanceMethod ⟨"PaperSetter", "best", "()I"⟩ ∈ TB_ := tb_1 423 (by decide +kernel) (by decide +kernel)
theorem k_424 : Cond.selects "PaperSetter" ⟨"PaperSetter", "best", "()I"⟩ ⟨"PaperSetter", "best", "()I"⟩ ∈ TB_ := tb_1 424 (by decide +kernel) (by decide +kernel)
theorem k_425 : Cond.code ⟨"PaperSetter", "best", "()I"⟩ prog_1_method_12_code 1 (some FieldType.int) ∈ TB_ := tb_1 425 (by decide +kernel) (by decide +kernel)
theorem k_426 : Cond.methodLink "PaperSetter" 132 ⟨"PaperSetter$Bank", "countAtHand", "()I"⟩ ∈ TB_ := tb_1 426 (by decide +kernel) (by decide +kernel)
theorem k_427 : Cond.instanceMethod ⟨"PaperSetter$Bank", "countAtHand", "()I"⟩ ∈ TB_ := tb_1 427 (by decide +kernel) (by decide +kernel)
theorem k_428 : Cond.selects "PaperSetter$Bank" ⟨"PaperSetter$Bank", "countAtHand", "()I"⟩ ⟨"PaperSetter$Bank", "countAtHand", "()I"⟩ ∈ TB_ := tb_1 428 (by decide +kernel) (by decide +kernel)
theorem k_429 : Cond.code ⟨"PaperSetter$Bank", "countAtHand", "()I"⟩ prog_2_method_5_code 3 (some FieldType.int) ∈ TB_ := tb_1 429 (by decide +kernel) (by decide +kernel)
theorem k_430 : Cond.methodLink "PaperSetter" 136 ⟨"PaperSetter$Units", "splitBank", "(LPaperSetter$Bank;)V"⟩ ∈ TB_ := tb_1 430 (by decide +kernel) (by decide +kernel)
theorem k_431 : Cond.instanceMethod ⟨"PaperSetter$Units", "splitBank", "(LPaperSetter$Bank;)V"⟩ ∈ TB_ := tb_1 431 (by decide +kernel) (by decide +kernel)
theorem k_432 : Cond.selects "PaperSetter$Units" ⟨"PaperSetter$Units", "splitBank", "(LPaperSetter$Bank;)V"⟩ ⟨"PaperSetter$Units", "splitBank", "(LPaperSetter$Bank;)V"⟩ ∈ TB_ := tb_1 432 (by decide +kernel) (by decide +kernel)
theorem k_433 : Cond.code ⟨"PaperSetter$Units", "splitBank", "(LPaperSetter$Bank;)V"⟩ prog_7_method_2_code 4 (none : Option FieldType) ∈ TB_ := tb_1 433 (by decide +kernel) (by decide +kernel)
theorem k_434 : Cond.methodLink "PaperSetter$Units" 33 ⟨"PaperSetter$Bank", "wholeOf", "(I)I"⟩ ∈ TB_ := tb_1 434 (by decide +kernel) (by decide +kernel)
theorem k_436 : Cond.static ⟨"PaperSetter", "lowestOf", "(I)I"⟩ ∈ TB_ := tb_1 436 (by decide +kernel) (by decide +kernel)
theorem k_437 : Cond.code ⟨"PaperSetter", "lowestOf", "(I)I"⟩ prog_1_method_23_code 1 (some FieldType.int) ∈ TB_ := tb_1 437 (by decide +kernel) (by decide +kernel)
theorem k_438 : Cond.methodLink "PaperSetter$Units" 40 ⟨"PaperSetter$Bank", "isFit", "(I)Z"⟩ ∈ TB_ := tb_1 438 (by decide +kernel) (by decide +kernel)
theorem k_439 : Cond.methodLink "PaperSetter$Units" 44 ⟨"PaperSetter$Bank", "clashesWith", "(I)I"⟩ ∈ TB_ := tb_1 439 (by decide +kernel) (by decide +kernel)
theorem k_440 : Cond.instanceMethod ⟨"PaperSetter$Bank", "clashesWith", "(I)I"⟩ ∈ TB_ := tb_1 440 (by decide +kernel) (by decide +kernel)
theorem k_441 : Cond.selects "PaperSetter$Bank" ⟨"PaperSetter$Bank", "clashesWith", "(I)I"⟩ ⟨"PaperSetter$Bank", "clashesWith", "(I)I"⟩ ∈ TB_ := tb_1 441 (by decide +kernel) (by decide +kernel)
theorem k_442 : Cond.code ⟨"PaperSetter$Bank", "clashesWith", "(I)I"⟩ prog_2_method_9_code 4 (some FieldType.int) ∈ TB_ := tb_1 442 (by decide +kernel) (by decide +kernel)
theorem k_443 : Cond.methodLink "PaperSetter$Units" 47 ⟨"PaperSetter$Bank", "sumUp", "(I[I)V"⟩ ∈ TB_ := tb_1 443 (by decide +kernel) (by decide +kernel)
theorem k_444 : Cond.methodLink "PaperSetter$Units" 51 ⟨"PaperSetter$Units", "sumUpFromEachOn", "()V"⟩ ∈ TB_ := tb_1 444 (by decide +kernel) (by decide +kernel)
theorem k_446 : Cond.instanceMethod ⟨"PaperSetter$Units", "sumUpFromEachOn", "()V"⟩ ∈ TB_ := tb_1 446 (by decide +kernel) (by decide +kernel)
theorem k_447 : Cond.code ⟨"PaperSetter$Units", "sumUpFromEachOn", "()V"⟩ prog_7_method_3_code 3 (none : Option FieldType) ∈ TB_ := tb_1 447 (by decide +kernel) (by decide +kernel)
theorem k_448 : Cond.methodLink "PaperSetter$Units" 54 ⟨"java/util/Arrays", "fill", "([II)V"⟩ ∈ TB_ := tb_1 448 (by decide +kernel) (by decide +kernel)
theorem k_449 : Cond.methodLink "PaperSetter" 140 ⟨"PaperSetter$BestSearch", "findBest", "()I"⟩ ∈ TB_ := tb_1 449 (by decide +kernel) (by decide +kernel)
theorem k_450 : Cond.instanceMethod ⟨"PaperSetter$BestSearch", "findBest", "()I"⟩ ∈ TB_ := tb_1 450 (by decide +kernel) (by decide +kernel)
theorem k_451 : Cond.selects "PaperSetter$BestSearch" ⟨"PaperSetter$BestSearch", "findBest", "()I"⟩ ⟨"PaperSetter$BestSearch", "findBest", "()I"⟩ ∈ TB_ := tb_1 451 (by decide +kernel) (by decide +kernel)
theorem k_452 : Cond.code ⟨"PaperSetter$BestSearch", "findBest", "()I"⟩ prog_3_method_2_code 1 (some FieldType.int) ∈ TB_ := tb_1 452 (by decide +kernel) (by decide +kernel)
theorem k_453 : Cond.methodLink "PaperSetter$BestSearch" 22 ⟨"PaperSetter$BestSearch", "walkAll", "()V"⟩ ∈ TB_ := tb_1 453 (by decide +kernel) (by decide +kernel)
theorem k_454 : Cond.sameMethod "PaperSetter$BestSearch" "PaperSetter$Search" "walkAll" "()V" ∈ TB_ := tb_1 454 (by decide +kernel) (by decide +kernel)
theorem k_456 : Cond.selects "PaperSetter$BestSearch" ⟨"PaperSetter$BestSearch", "walkAll", "()V"⟩ ⟨"PaperSetter$Search", "walkAll", "()V"⟩ ∈ TB_ := tb_1 456 (by decide +kernel) (by decide +kernel)
theorem k_457 : Cond.instanceMethod ⟨"PaperSetter$Search", "walkAll", "()V"⟩ ∈ TB_ := tb_1 457 (by decide +kernel) (by decide +kernel)
theorem k_458 : Cond.code ⟨"PaperSetter$Search", "walkAll", "()V"⟩ prog_6_method_4_code 1 (none : Option FieldType) ∈ TB_ := tb_1 458 (by decide +kernel) (by decide +kernel)
theorem k_459 : Cond.methodLink "PaperSetter$Search" 30 ⟨"PaperSetter$Search", "walk", "(LPaperSetter$Search;I)V"⟩ ∈ TB_ := tb_1 459 (by decide +kernel) (by decide +kernel)
theorem k_460 : Cond.static ⟨"PaperSetter$Search", "walk", "(LPaperSetter$Search;I)V"⟩ ∈ TB_ := tb_1 460 (by decide +kernel) (by decide +kernel)
theorem k_461 : Cond.code ⟨"PaperSetter$Search", "walk", "(LPaperSetter$Search;I)V"⟩ prog_6_method_5_code 2 (none : Option FieldType) ∈ TB_ := tb_1 461 (by decide +kernel) (by decide +kernel)
theorem k_462 : Cond.methodLink "PaperSetter$Search" 39 ⟨"PaperSetter$Search", "isHopeless", "(I)Z"⟩ ∈ TB_ := tb_1 462 (by decide +kernel) (by decide +kernel)
theorem k_464 : Cond.sameMethod "PaperSetter$Search" "PaperSetter$Search" "isHopeless" "(I)Z" ∈ TB_ := tb_1 464 (by decide +kernel) (by decide +kernel)
theorem k_465 : Cond.selects "PaperSetter$BestSearch" ⟨"PaperSetter$Search", "isHopeless", "(I)Z"⟩ ⟨"PaperSetter$BestSearch", "isHopeless", "(I)Z"⟩ ∈ TB_ := tb_1 465 (by decide +kernel) (by decide +kernel)
theorem k_466 : Cond.instanceMethod ⟨"PaperSetter$BestSearch", "isHopeless", "(I)Z"⟩ ∈ TB_ := tb_1 466 (by decide +kernel) (by decide +kernel)
theorem k_467 : Cond.code ⟨"PaperSetter$BestSearch", "isHopeless", "(I)Z"⟩ prog_3_method_3_code 3 (some FieldType.boolean) ∈ TB_ := tb_1 467 (by decide +kernel) (by decide +kernel)
theorem k_468 : Cond.methodLink "PaperSetter$BestSearch" 44 ⟨"PaperSetter$Limits", "surelyBroken", "([I[I)I"⟩ ∈ TB_ := tb_1 468 (by decide +kernel) (by decide +kernel)
theorem k_469 : Cond.methodLink "PaperSetter$BestSearch" 50 ⟨"PaperSetter$Limits", "leastSpread", "([I[I)I"⟩ ∈ TB_ := tb_1 469 (by decide +kernel) (by decide +kernel)
theorem k_470 : Cond.selects "PaperSetter$VersionSearch" ⟨"PaperSetter$Search", "isHopeless", "(I)Z"⟩ ⟨"PaperSetter$VersionSearch", "isHopeless", "(I)Z"⟩ ∈ TB_ := tb_1 470 (by decide +kernel) (by decide +kernel)
theorem k_471 : Cond.instanceMethod ⟨"PaperSetter$VersionSearch", "isHopeless", "(I)Z"⟩ ∈ TB_ := tb_1 471 (by decide +kernel) (by decide +kernel)
theorem k_472 : Cond.code ⟨"PaperSetter$VersionSearch", "isHopeless", "(I)Z"⟩ prog_8_method_3_code 2 (some FieldType.boolean) ∈ TB_ := tb_1 472 (by decide +kernel) (by decide +kernel)
theorem k_473 : Cond.methodLink "PaperSetter$VersionSearch" 78 ⟨"PaperSetter$Limits", "surelyBroken", "([I[I)I"⟩ ∈ TB_ := tb_1 473 (by decide +kernel) (by decide +kernel)
theorem k_474 : Cond.selects "PaperSetter$WhySearch" ⟨"PaperSetter$Search", "isHopeless", "(I)Z"⟩ ⟨"PaperSetter$WhySearch", "isHopeless", "(I)Z"⟩ ∈ TB_ := tb_1 474 (by decide +kernel) (by decide +kernel)
theorem k_475 : Cond.instanceMethod ⟨"PaperSetter$WhySearch", "isHopeless", "(I)Z"⟩ ∈ TB_ := tb_1 475 (by decide +kernel) (by decide +kernel)
theorem k_476 : Cond.code ⟨"PaperSetter$WhySearch", "isHopeless", "(I)Z"⟩ prog_9_method_3_code 2 (some FieldType.boolean) ∈ TB_ := tb_1 476 (by decide +kernel) (by decide +kernel)
theorem k_477 : Cond.methodLink "PaperSetter$WhySearch" 25 ⟨"PaperSetter$WhySearch", "keepable", "(I)I"⟩ ∈ TB_ := tb_1 477 (by decide +kernel) (by decide +kernel)
theorem k_479 : Cond.instanceMethod ⟨"PaperSetter$WhySearch", "keepable", "(I)I"⟩ ∈ TB_ := tb_1 479 (by decide +kernel) (by decide +kernel)
theorem k_480 : Cond.code ⟨"PaperSetter$WhySearch", "keepable", "(I)I"⟩ prog_9_method_5_code 2 (some FieldType.int) ∈ TB_ := tb_1 480 (by decide +kernel) (by decide +kernel)
theorem k_481 : Cond.methodLink "PaperSetter$WhySearch" 50 ⟨"PaperSetter$Limits", "surelyBroken", "([I[I)I"⟩ ∈ TB_ := tb_1 481 (by decide +kernel) (by decide +kernel)
theorem k_482 : Cond.methodLink "PaperSetter$Search" 43 ⟨"PaperSetter$Search", "meet", "()V"⟩ ∈ TB_ := tb_1 482 (by decide +kernel) (by decide +kernel)
theorem k_484 : Cond.sameMethod "PaperSetter$Search" "PaperSetter$Search" "meet" "()V" ∈ TB_ := tb_1 484 (by decide +kernel) (by decide +kernel)
theorem k_485 : Cond.selects "PaperSetter$BestSearch" ⟨"PaperSetter$Search", "meet", "()V"⟩ ⟨"PaperSetter$BestSearch", "meet", "()V"⟩ ∈ TB_ := tb_1 485 (by decide +kernel) (by decide +kernel)
theorem k_486 : Cond.instanceMethod ⟨"PaperSetter$BestSearch", "meet", "()V"⟩ ∈ TB_ := tb_1 486 (by decide +kernel) (by decide +kernel)
theorem k_487 : Cond.code ⟨"PaperSetter$BestSearch", "meet", "()V"⟩ prog_3_method_4_code 1 (none : Option FieldType) ∈ TB_ := tb_1 487 (by decide +kernel) (by decide +kernel)
theorem k_489 : Cond.selects "PaperSetter$VersionSearch" ⟨"PaperSetter$Search", "meet", "()V"⟩ ⟨"PaperSetter$VersionSearch", "meet", "()V"⟩ ∈ TB_ := tb_1 489 (by decide +kernel) (by decide +kernel)
theorem k_490 : Cond.instanceMethod ⟨"PaperSetter$VersionSearch", "meet", "()V"⟩ ∈ TB_ := tb_1 490 (by decide +kernel) (by decide +kernel)
theorem k_491 : Cond.code ⟨"PaperSetter$VersionSearch", "meet", "()V"⟩ prog_8_method_4_code 1 (none : Option FieldType) ∈ TB_ := tb_1 491 (by decide +kernel) (by decide +kernel)
theorem k_493 : Cond.methodLink "PaperSetter$VersionSearch" 93 ⟨"PaperSetter$Limits", "leastSpread", "([I[I)I"⟩ ∈ TB_ := tb_1 493 (by decide +kernel) (by decide +kernel)
theorem k_494 : Cond.selects "PaperSetter$WhySearch" ⟨"PaperSetter$Search", "meet", "()V"⟩ ⟨"PaperSetter$WhySearch", "meet", "()V"⟩ ∈ TB_ := tb_1 494 (by decide +kernel) (by decide +kernel)
theorem k_495 : Cond.instanceMethod ⟨"PaperSetter$WhySearch", "meet", "()V"⟩ ∈ TB_ := tb_1 495 (by decide +kernel) (by decide +kernel)
theorem k_496 : Cond.code ⟨"PaperSetter$WhySearch", "meet", "()V"⟩ prog_9_method_4_code 3 (none : Option FieldType) ∈ TB_ := tb_1 496 (by decide +kernel) (by decide +kernel)
theorem k_497 : Cond.methodLink "PaperSetter$Search" 49 ⟨"PaperSetter$Search", "take", "(I)V"⟩ ∈ TB_ := tb_1 497 (by decide +kernel) (by decide +kernel)
theorem k_499 : Cond.instanceMethod ⟨"PaperSetter$Search", "take", "(I)V"⟩ ∈ TB_ := tb_1 499 (by decide +kernel) (by decide +kernel)
theorem k_500 : Cond.code ⟨"PaperSetter$Search", "take", "(I)V"⟩ prog_6_method_6_code 3 (none : Option FieldType) ∈ TB_ := tb_1 500 (by decide +kernel) (by decide +kernel)
theorem k_501 : Cond.methodLink "PaperSetter$Search" 53 ⟨"PaperSetter$Search", "drop", "(I)V"⟩ ∈ TB_ := tb_1 501 (by decide +kernel) (by decide +kernel)
theorem k_503 : Cond.instanceMethod ⟨"PaperSetter$Search", "drop", "(I)V"⟩ ∈ TB_ := tb_1 503 (by decide +kernel) (by decide +kernel)
theorem k_504 : Cond.code ⟨"PaperSetter$Search", "drop", "(I)V"⟩ prog_6_method_7_code 3 (none : Option FieldType) ∈ TB_ := tb_1 504 (by decide +kernel) (by decide +kernel)
theorem k_505 : Cond.methodLink "PaperSetterLaw" 65 ⟨"PaperSetter", "why", "()I"⟩ ∈ TB_ := tb_1 505 (by decide +kernel) (by decide +kernel)
theorem k_506 : Cond.instanceMethod ⟨"PaperSetter", "why", "()I"⟩ ∈ TB_ := tb_1 506 (by decide +kernel) (by decide +kernel)
theorem k_507 : Cond.selects "PaperSetter" ⟨"PaperSetter", "why", "()I"⟩ ⟨"PaperSetter", "why", "()I"⟩ ∈ TB_ := tb_1 507 (by decide +kernel) (by decide +kernel)
theorem k_508 : Cond.code ⟨"PaperSetter", "why", "()I"⟩ prog_1_method_13_code 1 (some FieldType.int) ∈ TB_ := tb_1 508 (by decide +kernel) (by decide +kernel)
theorem k_509 : Cond.methodLink "PaperSetter" 143 ⟨"PaperSetter$WhySearch", "findFewestUnkept", "()I"⟩ ∈ TB_ := tb_1 509 (by decide +kernel) (by decide +kernel)
theorem k_510 : Cond.instanceMethod ⟨"PaperSetter$WhySearch", "findFewestUnkept", "()I"⟩ ∈ TB_ := tb_1 510 (by decide +kernel) (by decide +kernel)
theorem k_511 : Cond.selects "PaperSetter$WhySearch" ⟨"PaperSetter$WhySearch", "findFewestUnkept", "()I"⟩ ⟨"PaperSetter$WhySearch", "findFewestUnkept", "()I"⟩ ∈ TB_ := tb_1 511 (by decide +kernel) (by decide +kernel)
theorem k_512 : Cond.code ⟨"PaperSetter$WhySearch", "findFewestUnkept", "()I"⟩ prog_9_method_2_code 4 (some FieldType.int) ∈ TB_ := tb_1 512 (by decide +kernel) (by decide +kernel)
theorem k_513 : Cond.methodLink "PaperSetter$WhySearch" 15 ⟨"PaperSetter$WhySearch", "walkAll", "()V"⟩ ∈ TB_ := tb_1 513 (by decide +kernel) (by decide +kernel)
theorem k_514 : Cond.sameMethod "PaperSetter$WhySearch" "PaperSetter$Search" "walkAll" "()V" ∈ TB_ := tb_1 514 (by decide +kernel) (by decide +kernel)
theorem k_515 : Cond.selects "PaperSetter$WhySearch" ⟨"PaperSetter$WhySearch", "walkAll", "()V"⟩ ⟨"PaperSetter$Search", "walkAll", "()V"⟩ ∈ TB_ := tb_1 515 (by decide +kernel) (by decide +kernel)
theorem k_516 : Cond.methodLink "PaperSetter$WhySearch" 19 ⟨"java/lang/Integer", "bitCount", "(I)I"⟩ ∈ TB_ := tb_1 516 (by decide +kernel) (by decide +kernel)
theorem k_517 : Cond.static ⟨"java/lang/Integer", "bitCount", "(I)I"⟩ ∈ TB_ := tb_1 517 (by decide +kernel) (by decide +kernel)
theorem k_518 : Cond.code ⟨"java/lang/Integer", "bitCount", "(I)I"⟩ prog_12_method_49_code 1 (some FieldType.int) ∈ TB_ := tb_1 518 (by decide +kernel) (by decide +kernel)
theorem k_519 : Cond.constant "java/lang/Integer" 265 (1431655765) ∈ TB_ := tb_1 519 (by decide +kernel) (by decide +kernel)
theorem k_520 : Cond.constant "java/lang/Integer" 266 (858993459) ∈ TB_ := tb_1 520 (by decide +kernel) (by decide +kernel)
theorem k_521 : Cond.constant "java/lang/Integer" 267 (252645135) ∈ TB_ := tb_1 521 (by decide +kernel) (by decide +kernel)
theorem k_522 : Cond.methodLink "PaperSetterLaw" 69 ⟨"PaperSetter", "versions", "(I)I"⟩ ∈ TB_ := tb_1 522 (by decide +kernel) (by decide +kernel)
theorem k_523 : Cond.instanceMethod ⟨"PaperSetter", "versions", "(I)I"⟩ ∈ TB_ := tb_1 523 (by decide +kernel) (by decide +kernel)
theorem k_524 : Cond.selects "PaperSetter" ⟨"PaperSetter", "versions", "(I)I"⟩ ⟨"PaperSetter", "versions", "(I)I"⟩ ∈ TB_ := tb_1 524 (by decide +kernel) (by decide +kernel)
theorem k_525 : Cond.code ⟨"PaperSetter", "versions", "(I)I"⟩ prog_1_method_14_code 2 (some FieldType.int) ∈ TB_ := tb_1 525 (by decide +kernel) (by decide +kernel)
theorem k_526 : Cond.methodLink "PaperSetter" 146 ⟨"PaperSetter$VersionSearch", "findTwo", "(I)V"⟩ ∈ TB_ := tb_1 526 (by decide +kernel) (by decide +kernel)
theorem k_527 : Cond.instanceMethod ⟨"PaperSetter$VersionSearch", "findTwo", "(I)V"⟩ ∈ TB_ := tb_1 527 (by decide +kernel) (by decide +kernel)
theorem k_528 : Cond.selects "PaperSetter$VersionSearch" ⟨"PaperSetter$VersionSearch", "findTwo", "(I)V"⟩ ⟨"PaperSetter$VersionSearch", "findTwo", "(I)V"⟩ ∈ TB_ := tb_1 528 (by decide +kernel) (by decide +kernel)
theorem k_529 : Cond.code ⟨"PaperSetter$VersionSearch", "findTwo", "(I)V"⟩ prog_8_method_2_code 4 (none : Option FieldType) ∈ TB_ := tb_1 529 (by decide +kernel) (by decide +kernel)
theorem k_530 : Cond.methodLink "PaperSetter$VersionSearch" 38 ⟨"java/util/Arrays", "fill", "([II)V"⟩ ∈ TB_ := tb_1 530 (by decide +kernel) (by decide +kernel)
theorem k_531 : Cond.methodLink "PaperSetter$VersionSearch" 44 ⟨"PaperSetter$VersionSearch", "walkAll", "()V"⟩ ∈ TB_ := tb_1 531 (by decide +kernel) (by decide +kernel)
theorem k_532 : Cond.sameMethod "PaperSetter$VersionSearch" "PaperSetter$Search" "walkAll" "()V" ∈ TB_ := tb_1 532 (by decide +kernel) (by decide +kernel)
theorem k_533 : Cond.selects "PaperSetter$VersionSearch" ⟨"PaperSetter$VersionSearch", "walkAll", "()V"⟩ ⟨"PaperSetter$Search", "walkAll", "()V"⟩ ∈ TB_ := tb_1 533 (by decide +kernel) (by decide +kernel)
theorem k_534 : Cond.methodLink "PaperSetter$VersionSearch" 57 ⟨"java/lang/Math", "min", "(II)I"⟩ ∈ TB_ := tb_1 534 (by decide +kernel) (by decide +kernel)
theorem k_535 : Cond.static ⟨"java/lang/Math", "min", "(II)I"⟩ ∈ TB_ := tb_1 535 (by decide +kernel) (by decide +kernel)
theorem k_536 : Cond.code ⟨"java/lang/Math", "min", "(II)I"⟩ prog_13_method_69_code 2 (some FieldType.int) ∈ TB_ := tb_1 536 (by decide +kernel) (by decide +kernel)
theorem k_537 : Cond.methodLink "PaperSetter$VersionSearch" 63 ⟨"PaperSetter$VersionSearch", "pairWithOthers", "(III)V"⟩ ∈ TB_ := tb_1 537 (by decide +kernel) (by decide +kernel)
theorem k_539 : Cond.instanceMethod ⟨"PaperSetter$VersionSearch", "pairWithOthers", "(III)V"⟩ ∈ TB_ := tb_1 539 (by decide +kernel) (by decide +kernel)
theorem k_540 : Cond.code ⟨"PaperSetter$VersionSearch", "pairWithOthers", "(III)V"⟩ prog_8_method_5_code 8 (none : Option FieldType) ∈ TB_ := tb_1 540 (by decide +kernel) (by decide +kernel)
theorem k_542 : Cond.methodLink "PaperSetter$VersionSearch" 100 ⟨"PaperSetter$VersionSearch", "areAlike", "(III)Z"⟩ ∈ TB_ := tb_1 542 (by decide +kernel) (by decide +kernel)
theorem k_544 : Cond.instanceMethod ⟨"PaperSetter$VersionSearch", "areAlike", "(III)Z"⟩ ∈ TB_ := tb_1 544 (by decide +kernel) (by decide +kernel)
theorem k_545 : Cond.code ⟨"PaperSetter$VersionSearch", "areAlike", "(III)Z"⟩ prog_8_method_6_code 4 (some FieldType.boolean) ∈ TB_ := tb_1 545 (by decide +kernel) (by decide +kernel)
theorem k_546 : Cond.methodLink "PaperSetter$VersionSearch" 111 ⟨"java/lang/Math", "abs", "(I)I"⟩ ∈ TB_ := tb_1 546 (by decide +kernel) (by decide +kernel)
theorem k_547 : Cond.static ⟨"java/lang/Math", "abs", "(I)I"⟩ ∈ TB_ := tb_1 547 (by decide +kernel) (by decide +kernel)
theorem k_548 : Cond.code ⟨"java/lang/Math", "abs", "(I)I"⟩ prog_13_method_59_code 1 (some FieldType.int) ∈ TB_ := tb_1 548 (by decide +kernel) (by decide +kernel)
theorem k_549 : Cond.methodLink "PaperSetter$VersionSearch" 104 ⟨"PaperSetter$VersionSearch", "isBetter", "(II)Z"⟩ ∈ TB_ := tb_1 549 (by decide +kernel) (by decide +kernel)
theorem k_551 : Cond.instanceMethod ⟨"PaperSetter$VersionSearch", "isBetter", "(II)Z"⟩ ∈ TB_ := tb_1 551 (by decide +kernel) (by decide +kernel)
theorem k_552 : Cond.code ⟨"PaperSetter$VersionSearch", "isBetter", "(II)Z"⟩ prog_8_method_7_code 5 (some FieldType.boolean) ∈ TB_ := tb_1 552 (by decide +kernel) (by decide +kernel)
theorem k_553 : Cond.methodLink "PaperSetter$VersionSearch" 108 ⟨"PaperSetter$VersionSearch", "countOfBoth", "(II)I"⟩ ∈ TB_ := tb_1 553 (by decide +kernel) (by decide +kernel)
theorem k_555 : Cond.instanceMethod ⟨"PaperSetter$VersionSearch", "countOfBoth", "(II)I"⟩ ∈ TB_ := tb_1 555 (by decide +kernel) (by decide +kernel)
theorem k_556 : Cond.code ⟨"PaperSetter$VersionSearch", "countOfBoth", "(II)I"⟩ prog_8_method_8_code 3 (some FieldType.int) ∈ TB_ := tb_1 556 (by decide +kernel) (by decide +kernel)
theorem k_557 : Cond.methodLink "PaperSetter$VersionSearch" 114 ⟨"java/lang/Integer", "bitCount", "(I)I"⟩ ∈ TB_ := tb_1 557 (by decide +kernel) (by decide +kernel)
theorem k_558 : Cond.methodLink "PaperSetterLaw" 73 ⟨"PaperSetter", "second", "()I"⟩ ∈ TB_ := tb_1 558 (by decide +kernel) (by decide +kernel)
theorem k_559 : Cond.instanceMethod ⟨"PaperSetter", "second", "()I"⟩ ∈ TB_ := tb_1 559 (by decide +kernel) (by decide +kernel)
theorem k_560 : Cond.selects "PaperSetter" ⟨"PaperSetter", "second", "()I"⟩ ⟨"PaperSetter", "second", "()I"⟩ ∈ TB_ := tb_1 560 (by decide +kernel) (by decide +kernel)
theorem k_561 : Cond.code ⟨"PaperSetter", "second", "()I"⟩ prog_1_method_15_code 1 (some FieldType.int) ∈ TB_ := tb_1 561 (by decide +kernel) (by decide +kernel)
theorem k_562 : Cond.methodLink "PaperSetterLaw" 77 ⟨"PaperSetter", "order", "(I)I"⟩ ∈ TB_ := tb_1 562 (by decide +kernel) (by decide +kernel)
theorem k_563 : Cond.instanceMethod ⟨"PaperSetter", "order", "(I)I"⟩ ∈ TB_ := tb_1 563 (by decide +kernel) (by decide +kernel)
theorem k_564 : Cond.selects "PaperSetter" ⟨"PaperSetter", "order", "(I)I"⟩ ⟨"PaperSetter", "order", "(I)I"⟩ ∈ TB_ := tb_1 564 (by decide +kernel) (by decide +kernel)
theorem k_565 : Cond.code ⟨"PaperSetter", "order", "(I)I"⟩ prog_1_method_16_code 2 (some FieldType.int) ∈ TB_ := tb_1 565 (by decide +kernel) (by decide +kernel)
theorem k_566 : Cond.methodLink "PaperSetter" 156 ⟨"PaperSetter$Ordering", "splitSet", "(LPaperSetter$Bank;I)Z"⟩ ∈ TB_ := tb_1 566 (by decide +kernel) (by decide +kernel)
theorem k_567 : Cond.instanceMethod ⟨"PaperSetter$Ordering", "splitSet", "(LPaperSetter$Bank;I)Z"⟩ ∈ TB_ := tb_1 567 (by decide +kernel) (by decide +kernel)
theorem k_568 : Cond.selects "PaperSetter$Ordering" ⟨"PaperSetter$Ordering", "splitSet", "(LPaperSetter$Bank;I)Z"⟩ ⟨"PaperSetter$Ordering", "splitSet", "(LPaperSetter$Bank;I)Z"⟩ ∈ TB_ := tb_1 568 (by decide +kernel) (by decide +kernel)
theorem k_569 : Cond.code ⟨"PaperSetter$Ordering", "splitSet", "(LPaperSetter$Bank;I)Z"⟩ prog_5_method_2_code 5 (some FieldType.boolean) ∈ TB_ := tb_1 569 (by decide +kernel) (by decide +kernel)
theorem k_570 : Cond.methodLink "PaperSetter$Ordering" 48 ⟨"PaperSetter$Bank", "wholeOf", "(I)I"⟩ ∈ TB_ := tb_1 570 (by decide +kernel) (by decide +kernel)
theorem k_572 : Cond.methodLink "PaperSetter$Ordering" 55 ⟨"PaperSetter$Ordering", "highestOf", "(I)I"⟩ ∈ TB_ := tb_1 572 (by decide +kernel) (by decide +kernel)
theorem k_573 : Cond.static ⟨"PaperSetter$Ordering", "highestOf", "(I)I"⟩ ∈ TB_ := tb_1 573 (by decide +kernel) (by decide +kernel)
theorem k_574 : Cond.code ⟨"PaperSetter$Ordering", "highestOf", "(I)I"⟩ prog_5_method_4_code 3 (some FieldType.int) ∈ TB_ := tb_1 574 (by decide +kernel) (by decide +kernel)
theorem k_576 : Cond.methodLink "PaperSetter" 160 ⟨"PaperSetter$Ordering", "arrange", "(LPaperSetter$Bank;)V"⟩ ∈ TB_ := tb_1 576 (by decide +kernel) (by decide +kernel)
theorem k_577 : Cond.instanceMethod ⟨"PaperSetter$Ordering", "arrange", "(LPaperSetter$Bank;)V"⟩ ∈ TB_ := tb_1 577 (by decide +kernel) (by decide +kernel)
theorem k_578 : Cond.selects "PaperSetter$Ordering" ⟨"PaperSetter$Ordering", "arrange", "(LPaperSetter$Bank;)V"⟩ ⟨"PaperSetter$Ordering", "arrange", "(LPaperSetter$Bank;)V"⟩ ∈ TB_ := tb_1 578 (by decide +kernel) (by decide +kernel)
theorem k_579 : Cond.code ⟨"PaperSetter$Ordering", "arrange", "(LPaperSetter$Bank;)V"⟩ prog_5_method_3_code 2 (none : Option FieldType) ∈ TB_ := tb_1 579 (by decide +kernel) (by decide +kernel)
theorem k_580 : Cond.methodLink "PaperSetter$Ordering" 58 ⟨"PaperSetter$Ordering", "reckonJoinCosts", "(LPaperSetter$Bank;)V"⟩ ∈ TB_ := tb_1 580 (by decide +kernel) (by decide +kernel)
theorem k_582 : Cond.instanceMethod ⟨"PaperSetter$Ordering", "reckonJoinCosts", "(LPaperSetter$Bank;)V"⟩ ∈ TB_ := tb_1 582 (by decide +kernel) (by decide +kernel)
theorem k_583 : Cond.code ⟨"PaperSetter$Ordering", "reckonJoinCosts", "(LPaperSetter$Bank;)V"⟩ prog_5_method_5_code 6 (none : Option FieldType) ∈ TB_ := tb_1 583 (by decide +kernel) (by decide +kernel)
theorem k_584 : Cond.methodLink "PaperSetter$Ordering" 75 ⟨"PaperSetter$Ordering", "isStepDown", "(LPaperSetter$Bank;II)Z"⟩ ∈ TB_ := tb_1 584 (by decide +kernel) (by decide +kernel)
theorem k_585 : Cond.static ⟨"PaperSetter$Ordering", "isStepDown", "(LPaperSetter$Bank;II)Z"⟩ ∈ TB_ := tb_1 585 (by decide +kernel) (by decide +kernel)
theorem k_586 : Cond.code ⟨"PaperSetter$Ordering", "isStepDown", "(LPaperSetter$Bank;II)Z"⟩ prog_5_method_12_code 3 (some FieldType.boolean) ∈ TB_ := tb_1 586 (by decide +kernel) (by decide +kernel)
theorem k_588 : Cond.methodLink "PaperSetter$Ordering" 83 ⟨"PaperSetter$Ordering", "areAlike", "(LPaperSetter$Bank;II)Z"⟩ ∈ TB_ := tb_1 588 (by decide +kernel) (by decide +kernel)
theorem k_589 : Cond.static ⟨"PaperSetter$Ordering", "areAlike", "(LPaperSetter$Bank;II)Z"⟩ ∈ TB_ := tb_1 589 (by decide +kernel) (by decide +kernel)
theorem k_590 : Cond.code ⟨"PaperSetter$Ordering", "areAlike", "(LPaperSetter$Bank;II)Z"⟩ prog_5_method_13_code 3 (some FieldType.boolean) ∈ TB_ := tb_1 590 (by decide +kernel) (by decide +kernel)
theorem k_591 : Cond.methodLink "PaperSetter$Ordering" 62 ⟨"PaperSetter$Ordering", "reckonRestCosts", "()V"⟩ ∈ TB_ := tb_1 591 (by decide +kernel) (by decide +kernel)
theorem k_593 : Cond.instanceMethod ⟨"PaperSetter$Ordering", "reckonRestCosts", "()V"⟩ ∈ TB_ := tb_1 593 (by decide +kernel) (by decide +kernel)
theorem k_594 : Cond.code ⟨"PaperSetter$Ordering", "reckonRestCosts", "()V"⟩ prog_5_method_6_code 4 (none : Option FieldType) ∈ TB_ := tb_1 594 (by decide +kernel) (by decide +kernel)
theorem k_595 : Cond.methodLink "PaperSetter$Ordering" 86 ⟨"PaperSetter$Ordering", "cheapestBehind", "(II)I"⟩ ∈ TB_ := tb_1 595 (by decide +kernel) (by decide +kernel)
theorem k_597 : Cond.instanceMethod ⟨"PaperSetter$Ordering", "cheapestBehind", "(II)I"⟩ ∈ TB_ := tb_1 597 (by decide +kernel) (by decide +kernel)
theorem k_598 : Cond.code ⟨"PaperSetter$Ordering", "cheapestBehind", "(II)I"⟩ prog_5_method_8_code 7 (some FieldType.int) ∈ TB_ := tb_1 598 (by decide +kernel) (by decide +kernel)
theorem k_599 : Cond.constant "PaperSetter$Ordering" 94 (1000000) ∈ TB_ := tb_1 599 (by decide +kernel) (by decide +kernel)
theorem k_600 : Cond.methodLink "PaperSetter$Ordering" 90 ⟨"PaperSetter$Ordering", "costBehind", "(III)I"⟩ ∈ TB_ := tb_1 600 (by decide +kernel) (by decide +kernel)
theorem k_602 : Cond.instanceMethod ⟨"PaperSetter$Ordering", "costBehind", "(III)I"⟩ ∈ TB_ := tb_1 602 (by decide +kernel) (by decide +kernel)
theorem k_603 : Cond.code ⟨"PaperSetter$Ordering", "costBehind", "(III)I"⟩ prog_5_method_7_code 6 (some FieldType.int) ∈ TB_ := tb_1 603 (by decide +kernel) (by decide +kernel)
theorem k_604 : Cond.methodLink "PaperSetter$Ordering" 65 ⟨"PaperSetter$Ordering", "placeUnits", "()V"⟩ ∈ TB_ := tb_1 604 (by decide +kernel) (by decide +kernel)
theorem k_606 : Cond.instanceMethod ⟨"PaperSetter$Ordering", "placeUnits", "()V"⟩ ∈ TB_ := tb_1 606 (by decide +kernel) (by decide +kernel)
theorem k_607 : Cond.code ⟨"PaperSetter$Ordering", "placeUnits", "()V"⟩ prog_5_method_9_code 4 (none : Option FieldType) ∈ TB_ := tb_1 607 (by decide +kernel) (by decide +kernel)
theorem k_608 : Cond.methodLink "PaperSetter$Ordering" 95 ⟨"PaperSetter$Ordering", "placeQuestions", "(I)V"⟩ ∈ TB_ := tb_1 608 (by decide +kernel) (by decide +kernel)
theorem k_610 : Cond.instanceMethod ⟨"PaperSetter$Ordering", "placeQuestions", "(I)V"⟩ ∈ TB_ := tb_1 610 (by decide +kernel) (by decide +kernel)
theorem k_611 : Cond.code ⟨"PaperSetter$Ordering", "placeQuestions", "(I)V"⟩ prog_5_method_10_code 3 (none : Option FieldType) ∈ TB_ := tb_1 611 (by decide +kernel) (by decide +kernel)
theorem k_612 : Cond.methodLink "PaperSetter$Ordering" 68 ⟨"PaperSetter$Ordering", "countSteps", "(LPaperSetter$Bank;)V"⟩ ∈ TB_ := tb_1 612 (by decide +kernel) (by decide +kernel)
theorem k_614 : Cond.instanceMethod ⟨"PaperSetter$Ordering", "countSteps", "(LPaperSetter$Bank;)V"⟩ ∈ TB_ := tb_1 614 (by decide +kernel) (by decide +kernel)
theorem k_615 : Cond.code ⟨"PaperSetter$Ordering", "countSteps", "(LPaperSetter$Bank;)V"⟩ prog_5_method_11_code 3 (none : Option FieldType) ∈ TB_ := tb_1 615 (by decide +kernel) (by decide +kernel)
theorem k_616 : Cond.methodLink "PaperSetterLaw" 81 ⟨"PaperSetter", "place", "(I)I"⟩ ∈ TB_ := tb_1 616 (by decide +kernel) (by decide +kernel)
theorem k_617 : Cond.instanceMethod ⟨"PaperSetter", "place", "(I)I"⟩ ∈ TB_ := tb_1 617 (by decide +kernel) (by decide +kernel)
theorem k_618 : Cond.selects "PaperSetter" ⟨"PaperSetter", "place", "(I)I"⟩ ⟨"PaperSetter", "place", "(I)I"⟩ ∈ TB_ := tb_1 618 (by decide +kernel) (by decide +kernel)
theorem k_619 : Cond.code ⟨"PaperSetter", "place", "(I)I"⟩ prog_1_method_17_code 2 (some FieldType.int) ∈ TB_ := tb_1 619 (by decide +kernel) (by decide +kernel)
theorem k_620 : Cond.methodLink "PaperSetterLaw" 85 ⟨"PaperSetter", "told", "(II)I"⟩ ∈ TB_ := tb_1 620 (by decide +kernel) (by decide +kernel)
theorem k_621 : Cond.instanceMethod ⟨"PaperSetter", "told", "(II)I"⟩ ∈ TB_ := tb_1 621 (by decide +kernel) (by decide +kernel)
theorem k_622 : Cond.selects "PaperSetter" ⟨"PaperSetter", "told", "(II)I"⟩ ⟨"PaperSetter", "told", "(II)I"⟩ ∈ TB_ := tb_1 622 (by decide +kernel) (by decide +kernel)
theorem k_623 : Cond.code ⟨"PaperSetter", "told", "(II)I"⟩ prog_1_method_18_code 3 (some FieldType.int) ∈ TB_ := tb_1 623 (by decide +kernel) (by decide +kernel)
theorem k_624 : Cond.methodLink "PaperSetterLaw" 89 ⟨"PaperSetter", "count", "(I)I"⟩ ∈ TB_ := tb_1 624 (by decide +kernel) (by decide +kernel)
theorem k_625 : Cond.instanceMethod ⟨"PaperSetter", "count", "(I)I"⟩ ∈ TB_ := tb_1 625 (by decide +kernel) (by decide +kernel)
theorem k_626 : Cond.selects "PaperSetter" ⟨"PaperSetter", "count", "(I)I"⟩ ⟨"PaperSetter", "count", "(I)I"⟩ ∈ TB_ := tb_1 626 (by decide +kernel) (by decide +kernel)
theorem k_627 : Cond.code ⟨"PaperSetter", "count", "(I)I"⟩ prog_1_method_19_code 2 (some FieldType.int) ∈ TB_ := tb_1 627 (by decide +kernel) (by decide +kernel)
theorem k_628 : Cond.classLink "PaperSetterLaw" 10 "PaperSetterModel" ∈ TB_ := tb_1 628 (by decide +kernel) (by decide +kernel)
theorem k_629 : Cond.instantiable "PaperSetterModel" 30 ∈ TB_ := tb_1 629 (by decide +kernel) (by decide +kernel)
theorem k_630 : Cond.methodLink "PaperSetterLaw" 12 ⟨"PaperSetterModel", "<init>", "()V"⟩ ∈ TB_ := tb_1 630 (by decide +kernel) (by decide +kernel)
theorem k_631 : Cond.instanceMethod ⟨"PaperSetterModel", "<init>", "()V"⟩ ∈ TB_ := tb_1 631 (by decide +kernel) (by decide +kernel)
theorem k_632 : Cond.code ⟨"PaperSetterModel", "<init>", "()V"⟩ prog_11_method_1_code 2 (none : Option FieldType) ∈ TB_ := tb_1 632 (by decide +kernel) (by decide +kernel)
theorem k_633 : Cond.methodLink "PaperSetterModel" 1 ⟨"java/lang/Object", "<init>", "()V"⟩ ∈ TB_ := tb_1 633 (by decide +kernel) (by decide +kernel)
theorem k_634 : Cond.constant "PaperSetterModel" 50 (655360) ∈ TB_ := tb_1 634 (by decide +kernel) (by decide +kernel)
theorem k_635 : Cond.constant "PaperSetterModel" 54 (65536) ∈ TB_ := tb_1 635 (by decide +kernel) (by decide +kernel)
theorem k_636 : Cond.fieldLink "PaperSetterModel" 83 "PaperSetterModel" "questions" "I" ∈ TB_ := tb_1 636 (by decide +kernel) (by decide +kernel)
theorem k_637 : Cond.fieldLink "PaperSetterModel" 7 "PaperSetterModel" "term" "I" ∈ TB_ := tb_1 637 (by decide +kernel) (by decide +kernel)
theorem k_638 : Cond.fieldLink "PaperSetterModel" 98 "PaperSetterModel" "rest" "I" ∈ TB_ := tb_1 638 (by decide +kernel) (by decide +kernel)
theorem k_639 : Cond.fieldLink "PaperSetterModel" 13 "PaperSetterModel" "topic" "[I" ∈ TB_ := tb_1 639 (by decide +kernel) (by decide +kernel)
theorem k_640 : Cond.fieldLink "PaperSetterModel" 17 "PaperSetterModel" "skill" "[I" ∈ TB_ := tb_1 640 (by decide +kernel) (by decide +kernel)
theorem k_641 : Cond.fieldLink "PaperSetterModel" 20 "PaperSetterModel" "minutes" "[I" ∈ TB_ := tb_1 641 (by decide +kernel) (by decide +kernel)
theorem k_642 : Cond.fieldLink "PaperSetterModel" 23 "PaperSetterModel" "marks" "[I" ∈ TB_ := tb_1 642 (by decide +kernel) (by decide +kernel)
theorem k_643 : Cond.fieldLink "PaperSetterModel" 26 "PaperSetterModel" "hard" "[I" ∈ TB_ := tb_1 643 (by decide +kernel) (by decide +kernel)
theorem k_644 : Cond.fieldLink "PaperSetterModel" 29 "PaperSetterModel" "passage" "[I" ∈ TB_ := tb_1 644 (by decide +kernel) (by decide +kernel)
theorem k_645 : Cond.fieldLink "PaperSetterModel" 32 "PaperSetterModel" "used" "[I" ∈ TB_ := tb_1 645 (by decide +kernel) (by decide +kernel)
theorem k_646 : Cond.fieldLink "PaperSetterModel" 35 "PaperSetterModel" "away" "[I" ∈ TB_ := tb_1 646 (by decide +kernel) (by decide +kernel)
theorem k_647 : Cond.fieldLink "PaperSetterModel" 38 "PaperSetterModel" "low" "[I" ∈ TB_ := tb_1 647 (by decide +kernel) (by decide +kernel)
theorem k_648 : Cond.fieldLink "PaperSetterModel" 41 "PaperSetterModel" "high" "[I" ∈ TB_ := tb_1 648 (by decide +kernel) (by decide +kernel)
theorem k_649 : Cond.fieldLink "PaperSetterModel" 44 "PaperSetterModel" "wished" "[I" ∈ TB_ := tb_1 649 (by decide +kernel) (by decide +kernel)
theorem k_650 : Cond.fieldLink "PaperSetterModel" 131 "PaperSetterModel" "many" "I" ∈ TB_ := tb_1 650 (by decide +kernel) (by decide +kernel)
theorem k_651 : Cond.fieldLink "PaperSetterModel" 47 "PaperSetterModel" "hand" "[I" ∈ TB_ := tb_1 651 (by decide +kernel) (by decide +kernel)
theorem k_652 : Cond.fieldLink "PaperSetterModel" 51 "PaperSetterModel" "sum" "[I" ∈ TB_ := tb_1 652 (by decide +kernel) (by decide +kernel)
theorem k_653 : Cond.fieldLink "PaperSetterModel" 55 "PaperSetterModel" "fit" "[Z" ∈ TB_ := tb_1 653 (by decide +kernel) (by decide +kernel)
theorem k_654 : Cond.fieldLink "PaperSetterModel" 59 "PaperSetterModel" "broken" "[I" ∈ TB_ := tb_1 654 (by decide +kernel) (by decide +kernel)
theorem k_655 : Cond.fieldLink "PaperSetterModel" 62 "PaperSetterModel" "clash" "[I" ∈ TB_ := tb_1 655 (by decide +kernel) (by decide +kernel)
theorem k_656 : Cond.fieldLink "PaperSetterModel" 65 "PaperSetterModel" "whole" "[I" ∈ TB_ := tb_1 656 (by decide +kernel) (by decide +kernel)
theorem k_657 : Cond.fieldLink "PaperSetterModel" 68 "PaperSetterModel" "isBroken" "[Z" ∈ TB_ := tb_1 657 (by decide +kernel) (by decide +kernel)
theorem k_658 : Cond.fieldLink "PaperSetterModel" 158 "PaperSetterModel" "second" "I" ∈ TB_ := tb_1 658 (by decide +kernel) (by decide +kernel)
theorem k_659 : Cond.fieldLink "PaperSetterModel" 161 "PaperSetterModel" "units" "I" ∈ TB_ := tb_1 659 (by decide +kernel) (by decide +kernel)
theorem k_660 : Cond.fieldLink "PaperSetterModel" 164 "PaperSetterModel" "ordered" "I" ∈ TB_ := tb_1 660 (by decide +kernel) (by decide +kernel)
theorem k_661 : Cond.fieldLink "PaperSetterModel" 171 "PaperSetterModel" "alike" "I" ∈ TB_ := tb_1 661 (by decide +kernel) (by decide +kernel)
theorem k_662 : Cond.fieldLink "PaperSetterModel" 71 "PaperSetterModel" "unitFirst" "[I" ∈ TB_ := tb_1 662 (by decide +kernel) (by decide +kernel)
theorem k_663 : Cond.fieldLink "PaperSetterModel" 74 "PaperSetterModel" "row" "[I" ∈ TB_ := tb_1 663 (by decide +kernel) (by decide +kernel)
theorem k_664 : Cond.fieldLink "PaperSetterModel" 77 "PaperSetterModel" "order" "[I" ∈ TB_ := tb_1 664 (by decide +kernel) (by decide +kernel)
theorem k_665 : Cond.fieldLink "PaperSetterModel" 80 "PaperSetterModel" "now" "[I" ∈ TB_ := tb_1 665 (by decide +kernel) (by decide +kernel)
theorem k_727 : Cond.methodLink "PaperSetterLaw" 17 ⟨"PaperSetterModel", "question", "(IIIII)I"⟩ ∈ TB_ := tb_1 727 (by decide +kernel) (by decide +kernel)
theorem k_728 : Cond.instanceMethod ⟨"PaperSetterModel", "question", "(IIIII)I"⟩ ∈ TB_ := tb_1 728 (by decide +kernel) (by decide +kernel)
theorem k_729 : Cond.selects "PaperSetterModel" ⟨"PaperSetterModel", "question", "(IIIII)I"⟩ ⟨"PaperSetterModel", "question", "(IIIII)I"⟩ ∈ TB_ := tb_1 729 (by decide +kernel) (by decide +kernel)
theorem k_730 : Cond.code ⟨"PaperSetterModel", "question", "(IIIII)I"⟩ prog_11_method_7_code 6 (some FieldType.int) ∈ TB_ := tb_1 730 (by decide +kernel) (by decide +kernel)
theorem k_731 : Cond.methodLink "PaperSetterModel" 86 ⟨"PaperSetterModel", "lies", "(III)Z"⟩ ∈ TB_ := tb_1 731 (by decide +kernel) (by decide +kernel)
theorem k_732 : Cond.static ⟨"PaperSetterModel", "lies", "(III)Z"⟩ ∈ TB_ := tb_1 732 (by decide +kernel) (by decide +kernel)
theorem k_733 : Cond.code ⟨"PaperSetterModel", "lies", "(III)Z"⟩ prog_11_method_2_code 3 (some FieldType.boolean) ∈ TB_ := tb_1 733 (by decide +kernel) (by decide +kernel)
theorem k_734 : Cond.methodLink "PaperSetterLaw" 22 ⟨"PaperSetterModel", "passage", "(II)Z"⟩ ∈ TB_ := tb_1 734 (by decide +kernel) (by decide +kernel)
theorem k_735 : Cond.instanceMethod ⟨"PaperSetterModel", "passage", "(II)Z"⟩ ∈ TB_ := tb_1 735 (by decide +kernel) (by decide +kernel)
theorem k_736 : Cond.selects "PaperSetterModel" ⟨"PaperSetterModel", "passage", "(II)Z"⟩ ⟨"PaperSetterModel", "passage", "(II)Z"⟩ ∈ TB_ := tb_1 736 (by decide +kernel) (by decide +kernel)
theorem k_737 : Cond.code ⟨"PaperSetterModel", "passage", "(II)Z"⟩ prog_11_method_8_code 3 (some FieldType.boolean) ∈ TB_ := tb_1 737 (by decide +kernel) (by decide +kernel)
theorem k_738 : Cond.methodLink "PaperSetterModel" 90 ⟨"PaperSetterModel", "isQuestion", "(I)Z"⟩ ∈ TB_ := tb_1 738 (by decide +kernel) (by decide +kernel)
theorem k_740 : Cond.instanceMethod ⟨"PaperSetterModel", "isQuestion", "(I)Z"⟩ ∈ TB_ := tb_1 740 (by decide +kernel) (by decide +kernel)
theorem k_741 : Cond.code ⟨"PaperSetterModel", "isQuestion", "(I)Z"⟩ prog_11_method_3_code 2 (some FieldType.boolean) ∈ TB_ := tb_1 741 (by decide +kernel) (by decide +kernel)
theorem k_742 : Cond.methodLink "PaperSetterLaw" 27 ⟨"PaperSetterModel", "gives", "(IIZ)Z"⟩ ∈ TB_ := tb_1 742 (by decide +kernel) (by decide +kernel)
theorem k_743 : Cond.instanceMethod ⟨"PaperSetterModel", "gives", "(IIZ)Z"⟩ ∈ TB_ := tb_1 743 (by decide +kernel) (by decide +kernel)
theorem k_744 : Cond.selects "PaperSetterModel" ⟨"PaperSetterModel", "gives", "(IIZ)Z"⟩ ⟨"PaperSetterModel", "gives", "(IIZ)Z"⟩ ∈ TB_ := tb_1 744 (by decide +kernel) (by decide +kernel)
theorem k_745 : Cond.code ⟨"PaperSetterModel", "gives", "(IIZ)Z"⟩ prog_11_method_9_code 4 (some FieldType.boolean) ∈ TB_ := tb_1 745 (by decide +kernel) (by decide +kernel)
theorem k_746 : Cond.methodLink "PaperSetterModel" 94 ⟨"PaperSetterModel", "has", "(II)Z"⟩ ∈ TB_ := tb_1 746 (by decide +kernel) (by decide +kernel)
theorem k_747 : Cond.static ⟨"PaperSetterModel", "has", "(II)Z"⟩ ∈ TB_ := tb_1 747 (by decide +kernel) (by decide +kernel)
theorem k_748 : Cond.code ⟨"PaperSetterModel", "has", "(II)Z"⟩ prog_11_method_5_code 2 (some FieldType.boolean) ∈ TB_ := tb_1 748 (by decide +kernel) (by decide +kernel)
theorem k_749 : Cond.methodLink "PaperSetterLaw" 32 ⟨"PaperSetterModel", "bound", "(III)Z"⟩ ∈ TB_ := tb_1 749 (by decide +kernel) (by decide +kernel)
theorem k_750 : Cond.instanceMethod ⟨"PaperSetterModel", "bound", "(III)Z"⟩ ∈ TB_ := tb_1 750 (by decide +kernel) (by decide +kernel)
theorem k_751 : Cond.selects "PaperSetterModel" ⟨"PaperSetterModel", "bound", "(III)Z"⟩ ⟨"PaperSetterModel", "bound", "(III)Z"⟩ ∈ TB_ := tb_1 751 (by decide +kernel) (by decide +kernel)
theorem k_752 : Cond.code ⟨"PaperSetterModel", "bound", "(III)Z"⟩ prog_11_method_10_code 4 (some FieldType.boolean) ∈ TB_ := tb_1 752 (by decide +kernel) (by decide +kernel)
theorem k_753 : Cond.methodLink "PaperSetterLaw" 36 ⟨"PaperSetterModel", "profile", "(II)Z"⟩ ∈ TB_ := tb_1 753 (by decide +kernel) (by decide +kernel)
theorem k_754 : Cond.instanceMethod ⟨"PaperSetterModel", "profile", "(II)Z"⟩ ∈ TB_ := tb_1 754 (by decide +kernel) (by decide +kernel)
theorem k_755 : Cond.selects "PaperSetterModel" ⟨"PaperSetterModel", "profile", "(II)Z"⟩ ⟨"PaperSetterModel", "profile", "(II)Z"⟩ ∈ TB_ := tb_1 755 (by decide +kernel) (by decide +kernel)
theorem k_756 : Cond.code ⟨"PaperSetterModel", "profile", "(II)Z"⟩ prog_11_method_11_code 3 (some FieldType.boolean) ∈ TB_ := tb_1 756 (by decide +kernel) (by decide +kernel)
theorem k_757 : Cond.methodLink "PaperSetterLaw" 41 ⟨"PaperSetterModel", "rest", "(I)Z"⟩ ∈ TB_ := tb_1 757 (by decide +kernel) (by decide +kernel)
theorem k_758 : Cond.instanceMethod ⟨"PaperSetterModel", "rest", "(I)Z"⟩ ∈ TB_ := tb_1 758 (by decide +kernel) (by decide +kernel)
theorem k_759 : Cond.selects "PaperSetterModel" ⟨"PaperSetterModel", "rest", "(I)Z"⟩ ⟨"PaperSetterModel", "rest", "(I)Z"⟩ ∈ TB_ := tb_1 759 (by decide +kernel) (by decide +kernel)
theorem k_760 : Cond.code ⟨"PaperSetterModel", "rest", "(I)Z"⟩ prog_11_method_12_code 2 (some FieldType.boolean) ∈ TB_ := tb_1 760 (by decide +kernel) (by decide +kernel)
theorem k_761 : Cond.methodLink "PaperSetterLaw" 46 ⟨"PaperSetterModel", "term", "()I"⟩ ∈ TB_ := tb_1 761 (by decide +kernel) (by decide +kernel)
theorem k_762 : Cond.instanceMethod ⟨"PaperSetterModel", "term", "()I"⟩ ∈ TB_ := tb_1 762 (by decide +kernel) (by decide +kernel)
theorem k_763 : Cond.selects "PaperSetterModel" ⟨"PaperSetterModel", "term", "()I"⟩ ⟨"PaperSetterModel", "term", "()I"⟩ ∈ TB_ := tb_1 763 (by decide +kernel) (by decide +kernel)
theorem k_764 : Cond.code ⟨"PaperSetterModel", "term", "()I"⟩ prog_11_method_13_code 1 (some FieldType.int) ∈ TB_ := tb_1 764 (by decide +kernel) (by decide +kernel)
theorem k_765 : Cond.methodLink "PaperSetterLaw" 50 ⟨"PaperSetterModel", "use", "(I)Z"⟩ ∈ TB_ := tb_1 765 (by decide +kernel) (by decide +kernel)
theorem k_766 : Cond.instanceMethod ⟨"PaperSetterModel", "use", "(I)Z"⟩ ∈ TB_ := tb_1 766 (by decide +kernel) (by decide +kernel)
theorem k_767 : Cond.selects "PaperSetterModel" ⟨"PaperSetterModel", "use", "(I)Z"⟩ ⟨"PaperSetterModel", "use", "(I)Z"⟩ ∈ TB_ := tb_1 767 (by decide +kernel) (by decide +kernel)
theorem k_768 : Cond.code ⟨"PaperSetterModel", "use", "(I)Z"⟩ prog_11_method_14_code 3 (some FieldType.boolean) ∈ TB_ := tb_1 768 (by decide +kernel) (by decide +kernel)
theorem k_769 : Cond.methodLink "PaperSetterModel" 101 ⟨"PaperSetterModel", "isSet", "(I)Z"⟩ ∈ TB_ := tb_1 769 (by decide +kernel) (by decide +kernel)
theorem k_771 : Cond.instanceMethod ⟨"PaperSetterModel", "isSet", "(I)Z"⟩ ∈ TB_ := tb_1 771 (by decide +kernel) (by decide +kernel)
theorem k_772 : Cond.code ⟨"PaperSetterModel", "isSet", "(I)Z"⟩ prog_11_method_4_code 2 (some FieldType.boolean) ∈ TB_ := tb_1 772 (by decide +kernel) (by decide +kernel)
theorem k_773 : Cond.methodLink "PaperSetterLaw" 55 ⟨"PaperSetterModel", "rests", "(I)I"⟩ ∈ TB_ := tb_1 773 (by decide +kernel) (by decide +kernel)
theorem k_774 : Cond.instanceMethod ⟨"PaperSetterModel", "rests", "(I)I"⟩ ∈ TB_ := tb_1 774 (by decide +kernel) (by decide +kernel)
theorem k_775 : Cond.selects "PaperSetterModel" ⟨"PaperSetterModel", "rests", "(I)I"⟩ ⟨"PaperSetterModel", "rests", "(I)I"⟩ ∈ TB_ := tb_1 775 (by decide +kernel) (by decide +kernel)
theorem k_776 : Cond.code ⟨"PaperSetterModel", "rests", "(I)I"⟩ prog_11_method_16_code 2 (some FieldType.int) ∈ TB_ := tb_1 776 (by decide +kernel) (by decide +kernel)
theorem k_777 : Cond.methodLink "PaperSetterModel" 104 ⟨"PaperSetterModel", "isResting", "(I)Z"⟩ ∈ TB_ := tb_1 777 (by decide +kernel) (by decide +kernel)
theorem k_779 : Cond.instanceMethod ⟨"PaperSetterModel", "isResting", "(I)Z"⟩ ∈ TB_ := tb_1 779 (by decide +kernel) (by decide +kernel)
theorem k_780 : Cond.code ⟨"PaperSetterModel", "isResting", "(I)Z"⟩ prog_11_method_15_code 2 (some FieldType.boolean) ∈ TB_ := tb_1 780 (by decide +kernel) (by decide +kernel)
theorem k_781 : Cond.methodLink "PaperSetterLaw" 60 ⟨"PaperSetterModel", "look", "(II)I"⟩ ∈ TB_ := tb_1 781 (by decide +kernel) (by decide +kernel)
theorem k_782 : Cond.instanceMethod ⟨"PaperSetterModel", "look", "(II)I"⟩ ∈ TB_ := tb_1 782 (by decide +kernel) (by decide +kernel)
theorem k_783 : Cond.selects "PaperSetterModel" ⟨"PaperSetterModel", "look", "(II)I"⟩ ⟨"PaperSetterModel", "look", "(II)I"⟩ ∈ TB_ := tb_1 783 (by decide +kernel) (by decide +kernel)
theorem k_784 : Cond.code ⟨"PaperSetterModel", "look", "(II)I"⟩ prog_11_method_23_code 3 (some FieldType.int) ∈ TB_ := tb_1 784 (by decide +kernel) (by decide +kernel)
theorem k_785 : Cond.methodLink "PaperSetterModel" 111 ⟨"PaperSetterModel", "sumOf", "(II)I"⟩ ∈ TB_ := tb_1 785 (by decide +kernel) (by decide +kernel)
theorem k_787 : Cond.instanceMethod ⟨"PaperSetterModel", "sumOf", "(II)I"⟩ ∈ TB_ := tb_1 787 (by decide +kernel) (by decide +kernel)
theorem k_788 : Cond.code ⟨"PaperSetterModel", "sumOf", "(II)I"⟩ prog_11_method_18_code 5 (some FieldType.int) ∈ TB_ := tb_1 788 (by decide +kernel) (by decide +kernel)
theorem k_789 : Cond.methodLink "PaperSetterModel" 107 ⟨"PaperSetterModel", "adds", "(II)I"⟩ ∈ TB_ := tb_1 789 (by decide +kernel) (by decide +kernel)
theorem k_791 : Cond.instanceMethod ⟨"PaperSetterModel", "adds", "(II)I"⟩ ∈ TB_ := tb_1 791 (by decide +kernel) (by decide +kernel)
theorem k_792 : Cond.code ⟨"PaperSetterModel", "adds", "(II)I"⟩ prog_11_method_17_code 3 (some FieldType.int) ∈ TB_ := tb_1 792 (by decide +kernel) (by decide +kernel)
theorem k_793 : Cond.methodLink "PaperSetterModel" 117 ⟨"PaperSetterModel", "isFit", "(I)Z"⟩ ∈ TB_ := tb_1 793 (by decide +kernel) (by decide +kernel)
theorem k_795 : Cond.instanceMethod ⟨"PaperSetterModel", "isFit", "(I)Z"⟩ ∈ TB_ := tb_1 795 (by decide +kernel) (by decide +kernel)
theorem k_796 : Cond.code ⟨"PaperSetterModel", "isFit", "(I)Z"⟩ prog_11_method_19_code 4 (some FieldType.boolean) ∈ TB_ := tb_1 796 (by decide +kernel) (by decide +kernel)
theorem k_797 : Cond.methodLink "PaperSetterModel" 120 ⟨"PaperSetterModel", "brokenBy", "(I)I"⟩ ∈ TB_ := tb_1 797 (by decide +kernel) (by decide +kernel)
theorem k_799 : Cond.instanceMethod ⟨"PaperSetterModel", "brokenBy", "(I)I"⟩ ∈ TB_ := tb_1 799 (by decide +kernel) (by decide +kernel)
theorem k_800 : Cond.code ⟨"PaperSetterModel", "brokenBy", "(I)I"⟩ prog_11_method_20_code 4 (some FieldType.int) ∈ TB_ := tb_1 800 (by decide +kernel) (by decide +kernel)
theorem k_801 : Cond.methodLink "PaperSetterModel" 124 ⟨"PaperSetterModel", "spreadOf", "(I)I"⟩ ∈ TB_ := tb_1 801 (by decide +kernel) (by decide +kernel)
theorem k_803 : Cond.instanceMethod ⟨"PaperSetterModel", "spreadOf", "(I)I"⟩ ∈ TB_ := tb_1 803 (by decide +kernel) (by decide +kernel)
theorem k_804 : Cond.code ⟨"PaperSetterModel", "spreadOf", "(I)I"⟩ prog_11_method_22_code 4 (some FieldType.int) ∈ TB_ := tb_1 804 (by decide +kernel) (by decide +kernel)
theorem k_805 : Cond.methodLink "PaperSetterModel" 114 ⟨"PaperSetterModel", "far", "(II)I"⟩ ∈ TB_ := tb_1 805 (by decide +kernel) (by decide +kernel)
theorem k_806 : Cond.static ⟨"PaperSetterModel", "far", "(II)I"⟩ ∈ TB_ := tb_1 806 (by decide +kernel) (by decide +kernel)
theorem k_807 : Cond.code ⟨"PaperSetterModel", "far", "(II)I"⟩ prog_11_method_21_code 2 (some FieldType.int) ∈ TB_ := tb_1 807 (by decide +kernel) (by decide +kernel)
theorem k_808 : Cond.methodLink "PaperSetterLaw" 64 ⟨"PaperSetterModel", "best", "()I"⟩ ∈ TB_ := tb_1 808 (by decide +kernel) (by decide +kernel)
theorem k_809 : Cond.instanceMethod ⟨"PaperSetterModel", "best", "()I"⟩ ∈ TB_ := tb_1 809 (by decide +kernel) (by decide +kernel)
theorem k_810 : Cond.selects "PaperSetterModel" ⟨"PaperSetterModel", "best", "()I"⟩ ⟨"PaperSetterModel", "best", "()I"⟩ ∈ TB_ := tb_1 810 (by decide +kernel) (by decide +kernel)
theorem k_811 : Cond.code ⟨"PaperSetterModel", "best", "()I"⟩ prog_11_method_31_code 7 (some FieldType.int) ∈ TB_ := tb_1 811 (by decide +kernel) (by decide +kernel)
theorem k_812 : Cond.methodLink "PaperSetterModel" 127 ⟨"PaperSetterModel", "atHand", "()I"⟩ ∈ TB_ := tb_1 812 (by decide +kernel) (by decide +kernel)
theorem k_814 : Cond.instanceMethod ⟨"PaperSetterModel", "atHand", "()I"⟩ ∈ TB_ := tb_1 814 (by decide +kernel) (by decide +kernel)
theorem k_815 : Cond.code ⟨"PaperSetterModel", "atHand", "()I"⟩ prog_11_method_24_code 3 (some FieldType.int) ∈ TB_ := tb_1 815 (by decide +kernel) (by decide +kernel)
theorem k_816 : Cond.methodLink "PaperSetterModel" 137 ⟨"PaperSetterModel", "works", "()V"⟩ ∈ TB_ := tb_1 816 (by decide +kernel) (by decide +kernel)
theorem k_818 : Cond.instanceMethod ⟨"PaperSetterModel", "works", "()V"⟩ ∈ TB_ := tb_1 818 (by decide +kernel) (by decide +kernel)
theorem k_819 : Cond.code ⟨"PaperSetterModel", "works", "()V"⟩ prog_11_method_26_code 6 (none : Option FieldType) ∈ TB_ := tb_1 819 (by decide +kernel) (by decide +kernel)
theorem k_820 : Cond.methodLink "PaperSetterModel" 134 ⟨"PaperSetterModel", "areOnePassage", "(II)Z"⟩ ∈ TB_ := tb_1 820 (by decide +kernel) (by decide +kernel)
theorem k_822 : Cond.instanceMethod ⟨"PaperSetterModel", "areOnePassage", "(II)Z"⟩ ∈ TB_ := tb_1 822 (by decide +kernel) (by decide +kernel)
theorem k_823 : Cond.code ⟨"PaperSetterModel", "areOnePassage", "(II)Z"⟩ prog_11_method_25_code 3 (some FieldType.boolean) ∈ TB_ := tb_1 823 (by decide +kernel) (by decide +kernel)
theorem k_824 : Cond.methodLink "PaperSetterModel" 140 ⟨"PaperSetterModel", "isPaper", "(I)Z"⟩ ∈ TB_ := tb_1 824 (by decide +kernel) (by decide +kernel)
theorem k_826 : Cond.instanceMethod ⟨"PaperSetterModel", "isPaper", "(I)Z"⟩ ∈ TB_ := tb_1 826 (by decide +kernel) (by decide +kernel)
theorem k_827 : Cond.code ⟨"PaperSetterModel", "isPaper", "(I)Z"⟩ prog_11_method_27_code 2 (some FieldType.boolean) ∈ TB_ := tb_1 827 (by decide +kernel) (by decide +kernel)
theorem k_828 : Cond.methodLink "PaperSetterModel" 143 ⟨"PaperSetterModel", "spread", "(I)I"⟩ ∈ TB_ := tb_1 828 (by decide +kernel) (by decide +kernel)
theorem k_830 : Cond.instanceMethod ⟨"PaperSetterModel", "spread", "(I)I"⟩ ∈ TB_ := tb_1 830 (by decide +kernel) (by decide +kernel)
theorem k_831 : Cond.code ⟨"PaperSetterModel", "spread", "(I)I"⟩ prog_11_method_28_code 4 (some FieldType.int) ∈ TB_ := tb_1 831 (by decide +kernel) (by decide +kernel)
theorem k_832 : Cond.methodLink "PaperSetterModel" 146 ⟨"PaperSetterModel", "isAhead", "(II)Z"⟩ ∈ TB_ := tb_1 832 (by decide +kernel) (by decide +kernel)
theorem k_833 : Cond.static ⟨"PaperSetterModel", "isAhead", "(II)Z"⟩ ∈ TB_ := tb_1 833 (by decide +kernel) (by decide +kernel)
theorem k_834 : Cond.code ⟨"PaperSetterModel", "isAhead", "(II)Z"⟩ prog_11_method_30_code 3 (some FieldType.boolean) ∈ TB_ := tb_1 834 (by decide +kernel) (by decide +kernel)
theorem k_835 : Cond.methodLink "PaperSetterModel" 149 ⟨"PaperSetterModel", "told", "(I)I"⟩ ∈ TB_ := tb_1 835 (by decide +kernel) (by decide +kernel)
theorem k_837 : Cond.instanceMethod ⟨"PaperSetterModel", "told", "(I)I"⟩ ∈ TB_ := tb_1 837 (by decide +kernel) (by decide +kernel)
theorem k_838 : Cond.code ⟨"PaperSetterModel", "told", "(I)I"⟩ prog_11_method_29_code 4 (some FieldType.int) ∈ TB_ := tb_1 838 (by decide +kernel) (by decide +kernel)
theorem k_839 : Cond.methodLink "PaperSetterLaw" 68 ⟨"PaperSetterModel", "why", "()I"⟩ ∈ TB_ := tb_1 839 (by decide +kernel) (by decide +kernel)
theorem k_840 : Cond.instanceMethod ⟨"PaperSetterModel", "why", "()I"⟩ ∈ TB_ := tb_1 840 (by decide +kernel) (by decide +kernel)
theorem k_841 : Cond.selects "PaperSetterModel" ⟨"PaperSetterModel", "why", "()I"⟩ ⟨"PaperSetterModel", "why", "()I"⟩ ∈ TB_ := tb_1 841 (by decide +kernel) (by decide +kernel)
theorem k_842 : Cond.code ⟨"PaperSetterModel", "why", "()I"⟩ prog_11_method_33_code 3 (some FieldType.int) ∈ TB_ := tb_1 842 (by decide +kernel) (by decide +kernel)
theorem k_843 : Cond.methodLink "PaperSetterModel" 152 ⟨"PaperSetterModel", "size", "(I)I"⟩ ∈ TB_ := tb_1 843 (by decide +kernel) (by decide +kernel)
theorem k_844 : Cond.static ⟨"PaperSetterModel", "size", "(I)I"⟩ ∈ TB_ := tb_1 844 (by decide +kernel) (by decide +kernel)
theorem k_845 : Cond.code ⟨"PaperSetterModel", "size", "(I)I"⟩ prog_11_method_6_code 3 (some FieldType.int) ∈ TB_ := tb_1 845 (by decide +kernel) (by decide +kernel)
theorem k_846 : Cond.methodLink "PaperSetterModel" 155 ⟨"PaperSetterModel", "isKept", "(I)Z"⟩ ∈ TB_ := tb_1 846 (by decide +kernel) (by decide +kernel)
theorem k_848 : Cond.instanceMethod ⟨"PaperSetterModel", "isKept", "(I)Z"⟩ ∈ TB_ := tb_1 848 (by decide +kernel) (by decide +kernel)
theorem k_849 : Cond.code ⟨"PaperSetterModel", "isKept", "(I)Z"⟩ prog_11_method_32_code 3 (some FieldType.boolean) ∈ TB_ := tb_1 849 (by decide +kernel) (by decide +kernel)
theorem k_850 : Cond.methodLink "PaperSetterLaw" 72 ⟨"PaperSetterModel", "versions", "(I)I"⟩ ∈ TB_ := tb_1 850 (by decide +kernel) (by decide +kernel)
theorem k_851 : Cond.instanceMethod ⟨"PaperSetterModel", "versions", "(I)I"⟩ ∈ TB_ := tb_1 851 (by decide +kernel) (by decide +kernel)
theorem k_852 : Cond.selects "PaperSetterModel" ⟨"PaperSetterModel", "versions", "(I)I"⟩ ⟨"PaperSetterModel", "versions", "(I)I"⟩ ∈ TB_ := tb_1 852 (by decide +kernel) (by decide +kernel)
theorem k_853 : Cond.code ⟨"PaperSetterModel", "versions", "(I)I"⟩ prog_11_method_34_code 10 (some FieldType.int) ∈ TB_ := tb_1 853 (by decide +kernel) (by decide +kernel)
theorem k_854 : Cond.methodLink "PaperSetterLaw" 76 ⟨"PaperSetterModel", "second", "()I"⟩ ∈ TB_ := tb_1 854 (by decide +kernel) (by decide +kernel)
theorem k_855 : Cond.instanceMethod ⟨"PaperSetterModel", "second", "()I"⟩ ∈ TB_ := tb_1 855 (by decide +kernel) (by decide +kernel)
theorem k_856 : Cond.selects "PaperSetterModel" ⟨"PaperSetterModel", "second", "()I"⟩ ⟨"PaperSetterModel", "second", "()I"⟩ ∈ TB_ := tb_1 856 (by decide +kernel) (by decide +kernel)
theorem k_857 : Cond.code ⟨"PaperSetterModel", "second", "()I"⟩ prog_11_method_35_code 1 (some FieldType.int) ∈ TB_ := tb_1 857 (by decide +kernel) (by decide +kernel)
theorem k_858 : Cond.methodLink "PaperSetterLaw" 80 ⟨"PaperSetterModel", "order", "(I)I"⟩ ∈ TB_ := tb_1 858 (by decide +kernel) (by decide +kernel)
theorem k_859 : Cond.instanceMethod ⟨"PaperSetterModel", "order", "(I)I"⟩ ∈ TB_ := tb_1 859 (by decide +kernel) (by decide +kernel)
theorem k_860 : Cond.selects "PaperSetterModel" ⟨"PaperSetterModel", "order", "(I)I"⟩ ⟨"PaperSetterModel", "order", "(I)I"⟩ ∈ TB_ := tb_1 860 (by decide +kernel) (by decide +kernel)
theorem k_861 : Cond.code ⟨"PaperSetterModel", "order", "(I)I"⟩ prog_11_method_38_code 8 (some FieldType.int) ∈ TB_ := tb_1 861 (by decide +kernel) (by decide +kernel)
theorem k_862 : Cond.methodLink "PaperSetterModel" 167 ⟨"PaperSetterModel", "lays", "(I)V"⟩ ∈ TB_ := tb_1 862 (by decide +kernel) (by decide +kernel)
theorem k_864 : Cond.instanceMethod ⟨"PaperSetterModel", "lays", "(I)V"⟩ ∈ TB_ := tb_1 864 (by decide +kernel) (by decide +kernel)
theorem k_865 : Cond.code ⟨"PaperSetterModel", "lays", "(I)V"⟩ prog_11_method_37_code 6 (none : Option FieldType) ∈ TB_ := tb_1 865 (by decide +kernel) (by decide +kernel)
theorem k_866 : Cond.methodLink "PaperSetterModel" 174 ⟨"PaperSetterModel", "nextRow", "()Z"⟩ ∈ TB_ := tb_1 866 (by decide +kernel) (by decide +kernel)
theorem k_868 : Cond.instanceMethod ⟨"PaperSetterModel", "nextRow", "()Z"⟩ ∈ TB_ := tb_1 868 (by decide +kernel) (by decide +kernel)
theorem k_869 : Cond.code ⟨"PaperSetterModel", "nextRow", "()Z"⟩ prog_11_method_36_code 6 (some FieldType.boolean) ∈ TB_ := tb_1 869 (by decide +kernel) (by decide +kernel)
theorem k_870 : Cond.methodLink "PaperSetterLaw" 84 ⟨"PaperSetterModel", "place", "(I)I"⟩ ∈ TB_ := tb_1 870 (by decide +kernel) (by decide +kernel)
theorem k_871 : Cond.instanceMethod ⟨"PaperSetterModel", "place", "(I)I"⟩ ∈ TB_ := tb_1 871 (by decide +kernel) (by decide +kernel)
theorem k_872 : Cond.selects "PaperSetterModel" ⟨"PaperSetterModel", "place", "(I)I"⟩ ⟨"PaperSetterModel", "place", "(I)I"⟩ ∈ TB_ := tb_1 872 (by decide +kernel) (by decide +kernel)
theorem k_873 : Cond.code ⟨"PaperSetterModel", "place", "(I)I"⟩ prog_11_method_39_code 2 (some FieldType.int) ∈ TB_ := tb_1 873 (by decide +kernel) (by decide +kernel)
theorem k_874 : Cond.methodLink "PaperSetterLaw" 88 ⟨"PaperSetterModel", "told", "(II)I"⟩ ∈ TB_ := tb_1 874 (by decide +kernel) (by decide +kernel)
theorem k_875 : Cond.instanceMethod ⟨"PaperSetterModel", "told", "(II)I"⟩ ∈ TB_ := tb_1 875 (by decide +kernel) (by decide +kernel)
theorem k_876 : Cond.selects "PaperSetterModel" ⟨"PaperSetterModel", "told", "(II)I"⟩ ⟨"PaperSetterModel", "told", "(II)I"⟩ ∈ TB_ := tb_1 876 (by decide +kernel) (by decide +kernel)
theorem k_877 : Cond.code ⟨"PaperSetterModel", "told", "(II)I"⟩ prog_11_method_40_code 3 (some FieldType.int) ∈ TB_ := tb_1 877 (by decide +kernel) (by decide +kernel)
theorem k_878 : Cond.methodLink "PaperSetterLaw" 92 ⟨"PaperSetterModel", "count", "(I)I"⟩ ∈ TB_ := tb_1 878 (by decide +kernel) (by decide +kernel)
theorem k_879 : Cond.instanceMethod ⟨"PaperSetterModel", "count", "(I)I"⟩ ∈ TB_ := tb_1 879 (by decide +kernel) (by decide +kernel)
theorem k_880 : Cond.selects "PaperSetterModel" ⟨"PaperSetterModel", "count", "(I)I"⟩ ⟨"PaperSetterModel", "count", "(I)I"⟩ ∈ TB_ := tb_1 880 (by decide +kernel) (by decide +kernel)
theorem k_881 : Cond.code ⟨"PaperSetterModel", "count", "(I)I"⟩ prog_11_method_41_code 2 (some FieldType.int) ∈ TB_ := tb_1 881 (by decide +kernel) (by decide +kernel)
theorem k_882 : Cond.sameMethod "PaperSetter$Search" "PaperSetter$Search" "take" "(I)V" ∈ TB_ := tb_1 882 (by decide +kernel) (by decide +kernel)
theorem k_883 : Cond.sameMethod "PaperSetter$Search" "PaperSetter$Search" "drop" "(I)V" ∈ TB_ := tb_1 883 (by decide +kernel) (by decide +kernel)
theorem in_X0 : ∀ w ∈ u_ws RX0 TX0 5, w ∈ TB_ := tb_l _ [75, 77, 79, 81, 83] (by decide +kernel) (by decide +kernel)
theorem in_X1 : ∀ w ∈ u_ws RX1 TX1 8, w ∈ TB_ := tb_l _ [189, 191, 193, 195, 197, 183, 185, 187] (by decide +kernel) (by decide +kernel)
theorem in_X2 : ∀ w ∈ u_ws RX2 TX2 3, w ∈ TB_ := tb_l _ [102, 104, 106] (by decide +kernel) (by decide +kernel)
theorem in_X3 : ∀ w ∈ u_ws RX3 TX3 10, w ∈ TB_ := tb_l _ [276, 278, 280, 282, 284, 286, 288, 290, 292, 294] (by decide +kernel) (by decide +kernel)
theorem in_X5 : ∀ w ∈ u_ws RX5 TX5 5, w ∈ TB_ := tb_l _ [130, 132, 134, 136, 138] (by decide +kernel) (by decide +kernel)
theorem in_X6 : ∀ w ∈ u_ws RX6 TX6 13, w ∈ TB_ := tb_l _ [249, 250, 251, 252, 253, 233, 235, 237, 239, 241, 243, 245, 247] (by decide +kernel) (by decide +kernel)
theorem in_X7 : ∀ w ∈ u_ws RX7 TX7 6, w ∈ TB_ := tb_l _ [209, 210, 211, 212, 213, 207] (by decide +kernel) (by decide +kernel)
theorem in_X8 : ∀ w ∈ u_ws RX8 TX8 9, w ∈ TB_ := tb_l _ [306, 308, 310, 312, 314, 316, 318, 320, 322] (by decide +kernel) (by decide +kernel)
theorem in_X9 : ∀ w ∈ u_ws RX9 TX9 30, w ∈ TB_ := tb_l _ [666, 668, 670, 672, 674, 676, 678, 680, 682, 684, 686, 688, 690, 692, 694, 696, 698, 700, 702, 704, 706, 708, 710, 712, 714, 716, 718, 720, 722, 724] (by decide +kernel) (by decide +kernel)
end
section
/-! THE SMALL MACHINE. The world of this claim has a fixed shape: one object of each class, its arrays, and rows of arrays of arrays. A cell is (group, place); the changing part of the world is a number for each (group, place, slot). -/
abbrev PV : Type := Int32 ⊕ (Nat × Nat)
abbrev pI (v : Int32) : PV := .inl v
abbrev pR (g j : Nat) : PV := .inr (g, j)
abbrev Mem : Type := Nat → Nat → Nat → Int32
abbrev En : Type := Launch × va_G × (Nat → Nat → Nat) × (ClassId × ClassId × ClassId)
/-- objects: class, and for each field the group that it refers to, or none where it is a number -/
def gobjT : List (Option (Nat × List (Option Nat))) := [
  some (7, [some 1, some 5, some 9, some 16, some 18, some 21, some 27, some 35, none]),
  some (0, [some 2, some 4, none, none, none]), none, none, none,
  some (2, [some 6, some 7, some 8]), none, none, none,
  some (4, [some 10, some 11, some 12, some 14, none]), none, none, none, none, none, none,
  some (1, [some 9, some 5, some 17, none, none, none, none, none]), none,
  some (6, [some 9, some 5, some 19, none, none, some 20]), none, none,
  some (5, [some 9, some 5, some 22, none, none, some 23, some 24, some 25, some 26, none, none, none, none]), none, none, none, none, none,
  some (3, [some 28, some 29, some 30, some 31, some 33, none, some 34, none, none, none]), none, none, none, none, none, none, none, none,
  some (8, [none, none, none, some 37, some 38, some 39, some 40, some 41, some 42, some 43, some 44, some 45, some 46, some 47, none, some 48, some 49, some 50, some 51, some 52, some 53, some 54, none, none, none, none, some 55, some 56, some 57, some 58]),
  none, none, none, none, none, none, none, none, none, none, none, none, none, none, none, none, none, none, none, none, none, none]
/-- arrays of numbers: whether of booleans, and the length -/
def garrT : List (Option (Bool × Nat)) := [
  none, none, none, some (false, 7), some (false, 24), none, some (false, 10), some (false, 10), some (false, 4), none,
  some (false, 16), some (false, 16), none, some (false, 10), none, some (false, 10), none, some (false, 10), none, some (false, 10),
  some (true, 1024), none, some (false, 10), some (false, 1024), some (false, 1024), some (false, 1024), some (false, 1024), none, some (false, 8), some (false, 8),
  some (false, 8), none, some (false, 8), some (false, 2048), some (false, 24), some (false, 10), none, some (false, 24), some (false, 24), some (false, 24),
  some (false, 24), some (false, 24), some (false, 24), some (false, 24), some (false, 24), some (false, 10), some (false, 10), some (false, 4), some (false, 16), some (false, 655360),
  some (true, 65536), some (false, 65536), some (false, 16), some (false, 16), some (true, 1024), some (false, 24), some (false, 8), some (false, 24), some (false, 24)]
/-- arrays of arrays: the length, and the group of the rows -/
def grefT : List (Option (Nat × Nat)) := [
  none, none, some (24, 3), none, none, none, none, none, none, none,
  none, none, some (16, 13), none, some (17, 15), none, none, none, none, none,
  none, none, none, none, none, none, none, none, none, none,
  none, some (8, 32), none, none, none, none, none, none, none, none,
  none, none, none, none, none, none, none, none, none, none,
  none, none, none, none, none, none, none, none, none]
def gobj (g : Nat) : Option (Nat × List (Option Nat)) := gobjT.getD g none
def garr (g : Nat) : Option (Bool × Nat) := garrT.getD g none
def gref (g : Nat) : Option (Nat × Nat) := grefT.getD g none
/-- how many cells a group has -/
def gcnt (g : Nat) : Nat := if g = 3 then 24 else if g = 13 then 16 else if g = 15 then 17 else if g = 32 then 8 else 1
theorem gobjT_len : gobjT.length = 59 := by decide +kernel
theorem garrT_len : garrT.length = 59 := by decide +kernel
theorem grefT_len : grefT.length = 59 := by decide +kernel
theorem getD_lt {α : Type} {l : List (Option α)} {g : Nat} {x : α} (h : l.getD g none = some x) : g < l.length := by
  rcases Nat.lt_or_ge g l.length with q | q
  · exact q
  · rw [List.getD_eq_getElem?_getD, List.getElem?_eq_none q] at h
    cases h
theorem gobj_lt {g : Nat} {x : Nat × List (Option Nat)} (h : gobj g = some x) : g < 59 := gobjT_len ▸ getD_lt h
theorem garr_lt {g : Nat} {x : Bool × Nat} (h : garr g = some x) : g < 59 := garrT_len ▸ getD_lt h
theorem gref_lt {g : Nat} {x : Nat × Nat} (h : gref g = some x) : g < 59 := grefT_len ▸ getD_lt h
theorem gone_all : (List.range 59).all (fun g => (gobj g).isNone || (garr g).isNone) = true := by decide +kernel
theorem gone_all2 : (List.range 59).all (fun g => (gobj g).isNone || (gref g).isNone) = true := by decide +kernel
theorem gone_all3 : (List.range 59).all (fun g => (garr g).isNone || (gref g).isNone) = true := by decide +kernel
theorem garr_no {g : Nat} {x : Bool × Nat} (h : garr g = some x) : gobj g = none := by
  have := List.all_eq_true.mp gone_all g (List.mem_range.mpr (garr_lt h))
  rw [h] at this
  simpa using this
theorem gref_no {g : Nat} {x : Nat × Nat} (h : gref g = some x) : gobj g = none ∧ garr g = none := by
  have h1 := List.all_eq_true.mp gone_all2 g (List.mem_range.mpr (gref_lt h))
  have h2 := List.all_eq_true.mp gone_all3 g (List.mem_range.mpr (gref_lt h))
  rw [h] at h1 h2
  exact ⟨by simpa using h1, by simpa using h2⟩
/-- every group that a field refers to has a cell 0; the rows of an array of arrays are there -/
theorem gfs_all : gobjT.all (fun o => match o with | some (_, fs) => fs.all (fun f => match f with | some _ => true | none => true) | none => true) = true := by decide +kernel
theorem gcnt_pos (g : Nat) : 0 < gcnt g := by
  unfold gcnt
  repeat' split
  all_goals omega
theorem gref_cnt : (List.range 59).all (fun g => match gref g with | some (n, t) => gcnt t == n | none => true) = true := by decide +kernel
theorem gref_rows {g n t : Nat} (h : gref g = some (n, t)) : gcnt t = n := by
  have h1 := List.all_eq_true.mp gref_cnt g (List.mem_range.mpr (gref_lt h))
  rw [h] at h1
  simpa using h1
def fvE (E : En) (r : Nat → Int32) (k : Nat) (f : Option Nat) : Value := match f with
  | some g => .ref (E.2.2.1 g 0)
  | none => .int (r k)
def fdsE (E : En) (r : Nat → Int32) (fs : List (Option Nat)) : List Value := fs.mapIdx (fvE E r)
def gent (E : En) (r : Nat → Int32) (g : Nat) : va_E := match gobj g with
  | some (ci, fs) => .inr (ci, fdsE E r fs)
  | none => match garr g with
    | some (z, n) => .inl (if z then E.2.2.2.2.1 else E.2.2.2.1, n, .inl r)
    | none => match gref g with
      | some (n, t) => .inl (E.2.2.2.2.2, n, .inr (.inr (.inr (.inr (fun i => if i < n then some (E.2.2.1 t i) else none)))))
      | none => .inr (0, [])
theorem gent_obj {E : En} {r : Nat → Int32} {g ci : Nat} {fs : List (Option Nat)} (h : gobj g = some (ci, fs)) : gent E r g = .inr (ci, fdsE E r fs) := by unfold gent; rw [h]
theorem gent_arr {E : En} {r : Nat → Int32} {g n : Nat} {z : Bool} (h : garr g = some (z, n)) : gent E r g = .inl (if z then E.2.2.2.2.1 else E.2.2.2.1, n, .inl r) := by unfold gent; rw [garr_no h]; dsimp only; rw [h]
theorem gent_ref {E : En} {r : Nat → Int32} {g n t : Nat} (h : gref g = some (n, t)) : gent E r g = .inl (E.2.2.2.2.2, n, .inr (.inr (.inr (.inr (fun i => if i < n then some (E.2.2.1 t i) else none))))) := by unfold gent; rw [(gref_no h).1, (gref_no h).2]; dsimp only; rw [h]
def ac : List (Nat × Nat) := (List.range 59).flatMap fun g => (List.range (gcnt g)).map fun j => (g, j)
theorem ac_mem {g j : Nat} (hg : g < 59) (hj : j < gcnt g) : (g, j) ∈ ac := List.mem_flatMap.mpr ⟨g, List.mem_range.mpr hg, List.mem_map.mpr ⟨j, List.mem_range.mpr hj, rfl⟩⟩
def wsE (E : En) (mem : Mem) : va_W := ac.map fun c => (E.2.2.1 c.1 c.2, gent E (mem c.1 c.2) c.1)
def rA (E : En) : Nat → Prop := fun q => ∃ c : Nat × Nat, c ∈ ac ∧ q = E.2.2.1 c.1 c.2
def Ej (E : En) : Prop := ∀ (i j : Nat) (c d : Nat × Nat), ac[i]? = some c → ac[j]? = some d → E.2.2.1 c.1 c.2 = E.2.2.1 d.1 d.2 → i = j
theorem wsE_at {E : En} {mem : Mem} {k : Nat} {q : Nat × va_E} (h : (wsE E mem)[k]? = some q) : ∃ c : Nat × Nat, ac[k]? = some c ∧ q = (E.2.2.1 c.1 c.2, gent E (mem c.1 c.2) c.1) := by
  unfold wsE at h
  rw [List.getElem?_map] at h
  cases hc : ac[k]? with
  | none => rw [hc] at h; cases h
  | some c => rw [hc] at h; exact ⟨c, rfl, (Option.some.inj h).symm⟩
theorem wsE_D {E : En} {mem : Mem} {A : Nat → Prop} (hj : Ej E) (hA : ∀ q, rA E q → A q) : va_D A (wsE E mem) := by
  refine ⟨fun i j p q hi hj' e => ?_, fun k q hk => ?_⟩
  · obtain ⟨c, h1, rfl⟩ := wsE_at hi
    obtain ⟨d, h2, rfl⟩ := wsE_at hj'
    exact hj i j c d h1 h2 e
  · obtain ⟨c, h1, rfl⟩ := wsE_at hk
    exact hA _ ⟨c, List.mem_of_getElem? h1, rfl⟩
theorem wsE_place (E : En) (mem : Mem) {g j : Nat} (hg : g < 59) (hj : j < gcnt g) : ∃ k : Nat, ac[k]? = some (g, j) ∧ (wsE E mem)[k]? = some (E.2.2.1 g j, gent E (mem g j) g) := by
  obtain ⟨k, hk⟩ := List.getElem?_of_mem (ac_mem hg hj)
  refine ⟨k, hk, ?_⟩
  unfold wsE
  rw [List.getElem?_map, hk]
  rfl
def mset (mem : Mem) (g j i : Nat) (v : Int32) : Mem := fun g' j' i' => if g' = g ∧ j' = j ∧ i' = i then v else mem g' j' i'
theorem mset_self (mem : Mem) (g j i : Nat) (v : Int32) : mset mem g j i v g j = upd (mem g j) i v := by
  funext k
  unfold mset upd
  by_cases h : k = i <;> simp [h]
theorem mset_ne (mem : Mem) {g j g' j' : Nat} (i : Nat) (v : Int32) (h : ¬ (g' = g ∧ j' = j)) : mset mem g j i v g' j' = mem g' j' := by
  funext k
  unfold mset
  rw [if_neg (fun q => h ⟨q.1, q.2.1⟩)]
theorem wsE_set {E : En} {mem : Mem} {k g j i : Nat} {v : Int32} {a : Nat} (hj : Ej E) (hk : ac[k]? = some (g, j)) (ha : a = E.2.2.1 g j) : (wsE E mem).set k (a, gent E (upd (mem g j) i v) g) = wsE E (mset mem g j i v) := by
  subst ha
  apply List.ext_getElem?
  intro n
  by_cases hn : n = k
  · subst hn
    have hl : n < (wsE E mem).length := by
      unfold wsE
      rw [List.length_map]
      exact (List.getElem?_eq_some_iff.mp hk).1
    rw [List.getElem?_set_self hl]
    unfold wsE
    rw [List.getElem?_map, hk]
    show _ = some (E.2.2.1 g j, gent E (mset mem g j i v g j) g)
    rw [mset_self]
  · rw [List.getElem?_set_ne (Ne.symm hn)]
    unfold wsE
    rw [List.getElem?_map, List.getElem?_map]
    cases hc : ac[n]? with
    | none => rfl
    | some c =>
      obtain ⟨g', j'⟩ := c
      have : ¬ (g' = g ∧ j' = j) := fun q => by
        obtain ⟨rfl, rfl⟩ := q
        exact hn (hj n k _ _ hc hk rfl)
      show some (_, gent E (mem g' j') g') = some (_, gent E (mset mem g j i v g' j') g')
      rw [mset_ne mem i v this]
theorem fds_at {E : En} {r : Nat → Int32} {fs : List (Option Nat)} {k : Nat} {f : Option Nat} (h : fs[k]? = some f) : (fdsE E r fs)[k]? = some (fvE E r k f) := by
  unfold fdsE
  rw [List.getElem?_mapIdx, h]
  rfl
theorem fds_set {E : En} {r : Nat → Int32} {fs : List (Option Nat)} {k : Nat} (v : Int32) (h : fs[k]? = some none) : (fdsE E r fs).set k (.int v) = fdsE E (upd r k v) fs := by
  have hl : k < fs.length := (List.getElem?_eq_some_iff.mp h).1
  apply List.ext_getElem?
  intro n
  by_cases hn : n = k
  · subst hn
    rw [List.getElem?_set_self (by unfold fdsE; rw [List.length_mapIdx]; exact hl), fds_at h]
    simp [fvE, upd]
  · rw [List.getElem?_set_ne (Ne.symm hn)]
    unfold fdsE
    rw [List.getElem?_mapIdx, List.getElem?_mapIdx]
    cases hc : fs[n]? with
    | none => rfl
    | some f => cases f with
      | some g => rfl
      | none => simp [fvE, upd, hn]
def cv (E : En) : PV → Value
  | .inl v => .int v
  | .inr c => .ref (E.2.2.1 c.1 c.2)
theorem cv_cat (E : En) (v : PV) : (cv E v).category = 1 := by cases v <;> rfl
def lvl (E : En) : Nat → List (Option PV) → List (Nat × Value)
  | _, [] => []
  | i, none :: t => lvl E (i + 1) t
  | i, some v :: t => (i, cv E v) :: lvl E (i + 1) t
theorem lvl_mem {E : En} {q : Nat × Value} : ∀ {L : List (Option PV)} {i : Nat}, q ∈ lvl E i L → ∃ (k : Nat) (v : PV), L[k]? = some (some v) ∧ q = (i + k, cv E v)
  | [], i, h => by cases h
  | none :: t, i, h => by
    obtain ⟨k, v, h1, h2⟩ := lvl_mem (L := t) (i := i + 1) h
    exact ⟨k + 1, v, h1, by rw [h2]; congr 1; omega⟩
  | some w :: t, i, h => by
    rcases List.mem_cons.mp h with rfl | h
    · exact ⟨0, w, rfl, rfl⟩
    · obtain ⟨k, v, h1, h2⟩ := lvl_mem (L := t) (i := i + 1) h
      exact ⟨k + 1, v, h1, by rw [h2]; congr 1; omega⟩
theorem lvl_in {E : En} {v : PV} : ∀ {L : List (Option PV)} {i k : Nat}, L[k]? = some (some v) → (i + k, cv E v) ∈ lvl E i L
  | [], i, k, h => by simp at h
  | none :: t, i, 0, h => by simp at h
  | none :: t, i, k + 1, h => by
    have := lvl_in (E := E) (L := t) (i := i + 1) (k := k) (by simpa using h)
    rw [show i + (k + 1) = i + 1 + k by omega]
    exact this
  | some w :: t, i, 0, h => by
    have : w = v := by simpa using h
    subst this
    exact List.mem_cons_self
  | some w :: t, i, k + 1, h => by
    have := lvl_in (E := E) (L := t) (i := i + 1) (k := k) (by simpa using h)
    rw [show i + (k + 1) = i + 1 + k by omega]
    exact List.mem_cons_of_mem _ this
theorem lvl_at {E : En} {ls : Array Slot} {n i : Nat} {L : List (Option PV)} {v : PV} (h : lv_has ls n (lvl E 0 L)) (hi : L[i]? = some (some v)) : ls[i]? = some (.val (cv E v)) := by
  have := h.2.2 _ (lvl_in (E := E) (i := 0) hi)
  simpa using this
theorem lvl_set {E : En} {ls : Array Slot} {n i : Nat} {L : List (Option PV)} {v : PV} (h : lv_has ls n ((i, cv E v) :: (lvl E 0 L).filter (fun q => !(q.1 == i) && !(q.1 + 1 == i && q.2.category == 2)))) : lv_has ls n (lvl E 0 (L.set i (some v))) := by
  refine ⟨h.1, h.2.1, fun q hq => ?_⟩
  obtain ⟨k, w, h1, rfl⟩ := lvl_mem hq
  by_cases hk : k = i
  · subst hk
    have hl : k < L.length := by
      have := (List.getElem?_eq_some_iff.mp h1).1
      rwa [List.length_set] at this
    rw [List.getElem?_set_self hl] at h1
    cases h1
    have := h.2.2 (k, cv E v) List.mem_cons_self
    simpa using this
  · rw [List.getElem?_set_ne (Ne.symm hk)] at h1
    refine h.2.2 _ (List.mem_cons_of_mem _ (List.mem_filter.mpr ⟨lvl_in h1, ?_⟩))
    simp [hk, cv_cat]
def okv : PV → Prop
  | .inl _ => True
  | .inr c => c.1 < 59 → c.2 < gcnt c.1
theorem okI (v : Int32) : okv (pI v) := trivial
theorem okR0 (g : Nat) : okv (pR g 0) := fun _ => gcnt_pos g
theorem ok_c {v : PV} {st : List PV} (h : okv v) (hs : ∀ v ∈ st, okv v) : ∀ w ∈ v :: st, okv w := by
  intro w hw
  rcases List.mem_cons.mp hw with rfl | hw
  · exact h
  · exact hs w hw
theorem ok_t {v : PV} {st : List PV} (h : ∀ w ∈ v :: st, okv w) : ∀ w ∈ st, okv w := fun w hw => h w (List.mem_cons_of_mem _ hw)
theorem ok_h {v : PV} {st : List PV} (h : ∀ w ∈ v :: st, okv w) : okv v := h v List.mem_cons_self
theorem ok_set {L : List (Option PV)} {i : Nat} {v : PV} (h : okv v) (hL : ∀ v, some v ∈ L → okv v) : ∀ w, some w ∈ L.set i (some v) → okv w := by
  intro w hw
  rcases List.mem_or_eq_of_mem_set hw with q | q
  · exact hL w q
  · cases q
    exact h
/-! the words that are no steady words -/
def NWS : List Cond := [.methodLinkNest RX0 30 yX8_within RX8, .methodLinkNest RX0 38 yX8_contains RX8, .methodLinkNest RX5 37 yX8_lowestOf RX8, .methodLinkNest RX6 96 yX8_lowestOf RX8, .methodLinkNest RX3 52 yX8_lowestOf RX8, .methodLinkNest RX3 71 yX8_contains RX8, .methodLinkNest RX3 79 yX8_oneIf RX8, .fieldLinkNest RX1 56 RX8 "NOTHING_MORE" "[I" RX8, .fieldLinkNest RX6 90 RX8 "NOTHING_MORE" "[I" RX8, .declares ⟨RX4, "walkAll", "()V"⟩, .declares ⟨RX4, "isHopeless", "(I)Z"⟩, .declares ⟨RX4, "meet", "()V"⟩]
theorem nws_same {u U : State} (h : u.vm = U.vm) (hZ : ∀ w ∈ NWS, va_Nw w u) : ∀ w ∈ NWS, va_Nw w U := by
  intro w hw
  have h1 := hZ w hw
  simp only [NWS, List.mem_cons, List.not_mem_nil, or_false] at hw
  rcases hw with rfl | rfl | rfl | rfl | rfl | rfl | rfl | rfl | rfl | rfl | rfl | rfl <;> exact va_Nw.same rfl h h1
theorem nws_warm {s U : State} (hW : s.WarmedH U.vm) (hZ : ∀ w ∈ NWS, va_Nw w s) : ∀ w ∈ NWS, va_Nw w U := by
  intro w hw
  have h1 := hZ w hw
  simp only [NWS, List.mem_cons, List.not_mem_nil, or_false] at hw
  rcases hw with rfl | rfl | rfl | rfl | rfl | rfl | rfl | rfl | rfl | rfl | rfl | rfl <;> first | exact va_Nw.warmM hW h1 | exact va_Nw.warmF hW h1 | exact va_Nw.warmD hW h1
def tysE (E : En) : List (ClassId × FieldType) := [(E.2.2.2.1, .int), (E.2.2.2.2.1, .boolean), (E.2.2.2.2.2, .array .int)]
/-- what the tables and the statics say at a state -/
def Kx (E : En) (A : Nat → Prop) (U : State) : Prop := va_K E.2.1 kcl (tysE E) U ∧ (∀ w ∈ NWS, va_Nw w U) ∧ va_Z RX8 "NOTHING_MORE" "[I" (.ref (E.2.2.1 99 0)) A U U.heap ∧ va_T .int (E.2.2.1 99 0) 10 (fun _ => .int 0) A U U.heap ∧ Ej E
theorem Kx.blind {E : En} {A : Nat → Prop} {U : State} {g : JFrame} {mk : MethodId} {a : Array Value} (h : Kx E A U) : Kx E A (U.calling g mk a) := by
  obtain ⟨h1, h2, h3, h4, h5⟩ := h
  exact ⟨va_K.moved (u := U) (U := U.calling g mk a) (Vm.Alike.refl U.vm) h1, nws_same (u := U) (U := U.calling g mk a) rfl h2, va_Z.moved (u := U) (U := U.calling g mk a) (Vm.Alike.refl U.vm) h3, va_T.moved (u := U) (U := U.calling g mk a) (Vm.Alike.refl U.vm) h4, h5⟩
theorem Kx.call {E : En} {A : Nat → Prop} {s U : State} {H : Heap} {locs : List Loc} (h : Kx E A s) (hS : va_S A s.heap H locs) (hA : ∀ q, rA E q → A q) (hU : U.heap = H) (hW : s.WarmedH U.vm) : Kx E (rA E) U := by
  obtain ⟨h1, h2, h3, h4, h5⟩ := h
  subst hU
  exact ⟨va_K.moved hW.alike h1, nws_warm hW h2, va_Z.narrow (va_Z.moved hW.alike (va_Z.kept h3 hS.2.1)) hA, va_T.narrow (va_T.moved hW.alike (va_T.kept h4 hS.2.1)) hA, h5⟩
/-! a method's context: room, cells, slots, region, end -/
abbrev Xt : Type := Room × Nat × Nat × (State → Nat → Prop) × (List Frame → Array Value → State → State → Prop)
def Cx (E : En) (X : Xt) (M : MI_) (p : Program) (s : State) (m : MethodId) (args : Array Value) (meth : Method) (c : Code) : Prop :=
  p.tables.exec = Jvm.exec ∧ c.code = M.2.2.1 ∧ meth.sig.returnType = M.2.2.2.2 ∧ c.maxLocals = M.2.2.2.1 ∧ s.vm.findClass M.1 = some m.cls ∧ (∀ w ∈ TB_, w.before args s = true) ∧ meth.locks = false ∧ Kx E (X.2.2.2.1 s) s ∧ (∀ q, rA E q → X.2.2.2.1 s q)
def Wp (E : En) (X : Xt) (M : MI_) (pc : Nat) (L : List (Option PV)) (st : List PV) (mem : Mem) : Prop :=
  ∀ (p : Program) (e : Env) (s : State) (m : MethodId) (args : Array Value) (below : List Frame) (meth : Method) (c : Code) (H : Heap) (locs : List Loc) (ls : Array Slot), Cx E X M p s m args meth c → va_P E.2.1 kcl (wsE E mem) H → va_S (X.2.2.2.1 s) s.heap H locs → lv_has ls M.2.2.2.1 (lvl E 0 L) → (∀ v ∈ st, okv v) → (∀ v, some v ∈ L → okv v) →
    W p E.1 e X.1 s m args below meth c H locs X.2.1 X.2.2.1 (X.2.2.2.2 below args s) (F0 m pc ls (st.map (cv E)))
section RW
variable {E : En} {X : Xt} {M : MI_} {pc q : Nat} {L : List (Option PV)} {st : List PV} {mem : Mem}

theorem r_iadd {x y : Int32} (hd : decode M.2.2.1 pc = .ok (.iadd, 1)) (hq : pc + 1 = q) (k : Wp E X M q L (pI (x + y) :: st) mem) : Wp E X M pc L (pI y :: pI x :: st) mem := by
  subst hq
  intro p e s m args below meth c H locs ls hC hP hS hl h1 h2
  exact lv_iadd hC.1 hC.2.1 hd (k p e s m args below meth c H locs ls hC hP hS hl (ok_c trivial (ok_t (ok_t h1))) (h2))
theorem r_isub {x y : Int32} (hd : decode M.2.2.1 pc = .ok (.isub, 1)) (hq : pc + 1 = q) (k : Wp E X M q L (pI (x - y) :: st) mem) : Wp E X M pc L (pI y :: pI x :: st) mem := by
  subst hq
  intro p e s m args below meth c H locs ls hC hP hS hl h1 h2
  exact lv_isub hC.1 hC.2.1 hd (k p e s m args below meth c H locs ls hC hP hS hl (ok_c trivial (ok_t (ok_t h1))) (h2))
theorem r_imul {x y : Int32} (hd : decode M.2.2.1 pc = .ok (.imul, 1)) (hq : pc + 1 = q) (k : Wp E X M q L (pI (x * y) :: st) mem) : Wp E X M pc L (pI y :: pI x :: st) mem := by
  subst hq
  intro p e s m args below meth c H locs ls hC hP hS hl h1 h2
  exact lv_imul hC.1 hC.2.1 hd (k p e s m args below meth c H locs ls hC hP hS hl (ok_c trivial (ok_t (ok_t h1))) (h2))
theorem r_iand {x y : Int32} (hd : decode M.2.2.1 pc = .ok (.iand, 1)) (hq : pc + 1 = q) (k : Wp E X M q L (pI (x &&& y) :: st) mem) : Wp E X M pc L (pI y :: pI x :: st) mem := by
  subst hq
  intro p e s m args below meth c H locs ls hC hP hS hl h1 h2
  exact lv_iand hC.1 hC.2.1 hd (k p e s m args below meth c H locs ls hC hP hS hl (ok_c trivial (ok_t (ok_t h1))) (h2))
theorem r_ior {x y : Int32} (hd : decode M.2.2.1 pc = .ok (.ior, 1)) (hq : pc + 1 = q) (k : Wp E X M q L (pI (x ||| y) :: st) mem) : Wp E X M pc L (pI y :: pI x :: st) mem := by
  subst hq
  intro p e s m args below meth c H locs ls hC hP hS hl h1 h2
  exact lv_ior hC.1 hC.2.1 hd (k p e s m args below meth c H locs ls hC hP hS hl (ok_c trivial (ok_t (ok_t h1))) (h2))
theorem r_ixor {x y : Int32} (hd : decode M.2.2.1 pc = .ok (.ixor, 1)) (hq : pc + 1 = q) (k : Wp E X M q L (pI (x ^^^ y) :: st) mem) : Wp E X M pc L (pI y :: pI x :: st) mem := by
  subst hq
  intro p e s m args below meth c H locs ls hC hP hS hl h1 h2
  exact lv_ixor hC.1 hC.2.1 hd (k p e s m args below meth c H locs ls hC hP hS hl (ok_c trivial (ok_t (ok_t h1))) (h2))
theorem r_ishl {x y : Int32} (hd : decode M.2.2.1 pc = .ok (.ishl, 1)) (hq : pc + 1 = q) (k : Wp E X M q L (pI (x <<< (y &&& 31)) :: st) mem) : Wp E X M pc L (pI y :: pI x :: st) mem := by
  subst hq
  intro p e s m args below meth c H locs ls hC hP hS hl h1 h2
  exact lv_ishl hC.1 hC.2.1 hd (k p e s m args below meth c H locs ls hC hP hS hl (ok_c trivial (ok_t (ok_t h1))) (h2))
theorem r_ishr {x y : Int32} (hd : decode M.2.2.1 pc = .ok (.ishr, 1)) (hq : pc + 1 = q) (k : Wp E X M q L (pI (x >>> (y &&& 31)) :: st) mem) : Wp E X M pc L (pI y :: pI x :: st) mem := by
  subst hq
  intro p e s m args below meth c H locs ls hC hP hS hl h1 h2
  exact lv_ishr hC.1 hC.2.1 hd (k p e s m args below meth c H locs ls hC hP hS hl (ok_c trivial (ok_t (ok_t h1))) (h2))
theorem r_iushr {x y : Int32} (hd : decode M.2.2.1 pc = .ok (.iushr, 1)) (hq : pc + 1 = q) (k : Wp E X M q L (pI ((x.toUInt32 >>> (y.toUInt32 &&& Int32.toUInt32 31)).toInt32) :: st) mem) : Wp E X M pc L (pI y :: pI x :: st) mem := by
  subst hq
  intro p e s m args below meth c H locs ls hC hP hS hl h1 h2
  exact lv_iushr hC.1 hC.2.1 hd rfl (k p e s m args below meth c H locs ls hC hP hS hl (ok_c trivial (ok_t (ok_t h1))) (h2))
theorem r_ineg {x v : Int32} (hv : 0 - x = v) (hd : decode M.2.2.1 pc = .ok (.ineg, 1)) (hq : pc + 1 = q) (k : Wp E X M q L (pI v :: st) mem) : Wp E X M pc L (pI x :: st) mem := by
  subst hq
  subst hv
  intro p e s m args below meth c H locs ls hC hP hS hl h1 h2
  exact lv_ineg hC.1 hC.2.1 hd (k p e s m args below meth c H locs ls hC hP hS hl (ok_c trivial (ok_t h1)) (h2))
theorem r_iconst {n : Int} (v : Int32) (hv : Int32.ofInt n = v) (hd : decode M.2.2.1 pc = .ok (.iconst n, 1)) (hq : pc + 1 = q) (k : Wp E X M q L (pI v :: st) mem) : Wp E X M pc L st mem := by
  subst hq
  intro p e s m args below meth c H locs ls hC hP hS hl h1 h2
  exact lv_iconst hC.1 hC.2.1 hd hv (k p e s m args below meth c H locs ls hC hP hS hl (ok_c trivial h1) (h2))
theorem r_bipush {n : Int} (v : Int32) (hv : (Int8.ofInt n).toInt32 = v) (hd : decode M.2.2.1 pc = .ok (.bipush n, 2)) (hq : pc + 2 = q) (k : Wp E X M q L (pI v :: st) mem) : Wp E X M pc L st mem := by
  subst hq
  intro p e s m args below meth c H locs ls hC hP hS hl h1 h2
  exact lv_bipush hC.1 hC.2.1 hd hv (k p e s m args below meth c H locs ls hC hP hS hl (ok_c trivial h1) (h2))
theorem r_sipush {n : Int} (v : Int32) (hv : (Int16.ofInt n).toInt32 = v) (hd : decode M.2.2.1 pc = .ok (.sipush n, 3)) (hq : pc + 3 = q) (k : Wp E X M q L (pI v :: st) mem) : Wp E X M pc L st mem := by
  subst hq
  intro p e s m args below meth c H locs ls hC hP hS hl h1 h2
  exact lv_sipush hC.1 hC.2.1 hd hv (k p e s m args below meth c H locs ls hC hP hS hl (ok_c trivial h1) (h2))
theorem r_ldc {n : Nat} {v : Int32} (hc : Cond.constant M.1 n v ∈ TB_) (hd : decode M.2.2.1 pc = .ok (.ldc n, 2)) (hq : pc + 2 = q) (k : Wp E X M q L (pI v :: st) mem) : Wp E X M pc L st mem := by
  subst hq
  intro p e s m args below meth c H locs ls hC hP hS hl h1 h2
  exact lv_ldc hC.1 hC.2.1 hC.2.2.2.2.1 (hC.2.2.2.2.2.1 _ hc) hd (k p e s m args below meth c H locs ls hC hP hS hl (ok_c trivial h1) (h2))
theorem r_ldcw {n : Nat} {v : Int32} (hc : Cond.constant M.1 n v ∈ TB_) (hd : decode M.2.2.1 pc = .ok (.ldc_w n, 3)) (hq : pc + 3 = q) (k : Wp E X M q L (pI v :: st) mem) : Wp E X M pc L st mem := by
  subst hq
  intro p e s m args below meth c H locs ls hC hP hS hl h1 h2
  exact lv_ldcw hC.1 hC.2.1 hC.2.2.2.2.1 (hC.2.2.2.2.2.1 _ hc) hd (k p e s m args below meth c H locs ls hC hP hS hl (ok_c trivial h1) (h2))
theorem r_dup {a : PV} (hd : decode M.2.2.1 pc = .ok (.dup, 1)) (hq : pc + 1 = q) (k : Wp E X M q L (a :: a :: st) mem) : Wp E X M pc L (a :: st) mem := by
  subst hq
  intro p e s m args below meth c H locs ls hC hP hS hl h1 h2
  exact lv_dup hC.1 hC.2.1 hd (cv_cat E a) (k p e s m args below meth c H locs ls hC hP hS hl (ok_c (ok_h h1) h1) (h2))
theorem r_dup2 {a b : PV} (hd : decode M.2.2.1 pc = .ok (.dup2, 1)) (hq : pc + 1 = q) (k : Wp E X M q L (a :: b :: a :: b :: st) mem) : Wp E X M pc L (a :: b :: st) mem := by
  subst hq
  intro p e s m args below meth c H locs ls hC hP hS hl h1 h2
  exact lv_dup2_11 hC.1 hC.2.1 hd (cv_cat E a) (cv_cat E b) (k p e s m args below meth c H locs ls hC hP hS hl (ok_c (ok_h h1) (ok_c (ok_h (ok_t h1)) h1)) (h2))
theorem r_icmp_eq {x y : Int32} {off : Int} (tgt : Nat) (hd : decode M.2.2.1 pc = .ok (.if_icmp .eq off, 3)) (ht : (pc : Int) + off = (tgt : Int)) (hq : pc + 3 = q) (kt : x = y → Wp E X M tgt L st mem) (kf : ¬ (x = y) → Wp E X M q L st mem) : Wp E X M pc L (pI y :: pI x :: st) mem := by
  subst hq
  intro p e s m args below meth c H locs ls hC hP hS hl h1 h2
  exact lv_icmp_eq hC.1 hC.2.1 hd ht (fun z => kt z p e s m args below meth c H locs ls hC hP hS hl (ok_t (ok_t h1)) h2) (fun z => kf z p e s m args below meth c H locs ls hC hP hS hl (ok_t (ok_t h1)) h2)
theorem r_icmp_ne {x y : Int32} {off : Int} (tgt : Nat) (hd : decode M.2.2.1 pc = .ok (.if_icmp .ne off, 3)) (ht : (pc : Int) + off = (tgt : Int)) (hq : pc + 3 = q) (kt : ¬ x = y → Wp E X M tgt L st mem) (kf : x = y → Wp E X M q L st mem) : Wp E X M pc L (pI y :: pI x :: st) mem := by
  subst hq
  intro p e s m args below meth c H locs ls hC hP hS hl h1 h2
  exact lv_icmp_ne hC.1 hC.2.1 hd ht (fun z => kt z p e s m args below meth c H locs ls hC hP hS hl (ok_t (ok_t h1)) h2) (fun z => kf z p e s m args below meth c H locs ls hC hP hS hl (ok_t (ok_t h1)) h2)
theorem r_icmp_lt {x y : Int32} {off : Int} (tgt : Nat) (hd : decode M.2.2.1 pc = .ok (.if_icmp .lt off, 3)) (ht : (pc : Int) + off = (tgt : Int)) (hq : pc + 3 = q) (kt : x < y → Wp E X M tgt L st mem) (kf : ¬ (x < y) → Wp E X M q L st mem) : Wp E X M pc L (pI y :: pI x :: st) mem := by
  subst hq
  intro p e s m args below meth c H locs ls hC hP hS hl h1 h2
  exact lv_icmp_lt hC.1 hC.2.1 hd ht (fun z => kt z p e s m args below meth c H locs ls hC hP hS hl (ok_t (ok_t h1)) h2) (fun z => kf z p e s m args below meth c H locs ls hC hP hS hl (ok_t (ok_t h1)) h2)
theorem r_icmp_ge {x y : Int32} {off : Int} (tgt : Nat) (hd : decode M.2.2.1 pc = .ok (.if_icmp .ge off, 3)) (ht : (pc : Int) + off = (tgt : Int)) (hq : pc + 3 = q) (kt : y ≤ x → Wp E X M tgt L st mem) (kf : ¬ (y ≤ x) → Wp E X M q L st mem) : Wp E X M pc L (pI y :: pI x :: st) mem := by
  subst hq
  intro p e s m args below meth c H locs ls hC hP hS hl h1 h2
  exact lv_icmp_ge hC.1 hC.2.1 hd ht (fun z => kt z p e s m args below meth c H locs ls hC hP hS hl (ok_t (ok_t h1)) h2) (fun z => kf z p e s m args below meth c H locs ls hC hP hS hl (ok_t (ok_t h1)) h2)
theorem r_icmp_gt {x y : Int32} {off : Int} (tgt : Nat) (hd : decode M.2.2.1 pc = .ok (.if_icmp .gt off, 3)) (ht : (pc : Int) + off = (tgt : Int)) (hq : pc + 3 = q) (kt : y < x → Wp E X M tgt L st mem) (kf : ¬ (y < x) → Wp E X M q L st mem) : Wp E X M pc L (pI y :: pI x :: st) mem := by
  subst hq
  intro p e s m args below meth c H locs ls hC hP hS hl h1 h2
  exact lv_icmp_gt hC.1 hC.2.1 hd ht (fun z => kt z p e s m args below meth c H locs ls hC hP hS hl (ok_t (ok_t h1)) h2) (fun z => kf z p e s m args below meth c H locs ls hC hP hS hl (ok_t (ok_t h1)) h2)
theorem r_icmp_le {x y : Int32} {off : Int} (tgt : Nat) (hd : decode M.2.2.1 pc = .ok (.if_icmp .le off, 3)) (ht : (pc : Int) + off = (tgt : Int)) (hq : pc + 3 = q) (kt : x ≤ y → Wp E X M tgt L st mem) (kf : ¬ (x ≤ y) → Wp E X M q L st mem) : Wp E X M pc L (pI y :: pI x :: st) mem := by
  subst hq
  intro p e s m args below meth c H locs ls hC hP hS hl h1 h2
  exact lv_icmp_le hC.1 hC.2.1 hd ht (fun z => kt z p e s m args below meth c H locs ls hC hP hS hl (ok_t (ok_t h1)) h2) (fun z => kf z p e s m args below meth c H locs ls hC hP hS hl (ok_t (ok_t h1)) h2)
theorem r_if_eq {x : Int32} {off : Int} (tgt : Nat) (hd : decode M.2.2.1 pc = .ok (.ifCond .eq off, 3)) (ht : (pc : Int) + off = (tgt : Int)) (hq : pc + 3 = q) (kt : x = 0 → Wp E X M tgt L st mem) (kf : ¬ (x = 0) → Wp E X M q L st mem) : Wp E X M pc L (pI x :: st) mem := by
  subst hq
  intro p e s m args below meth c H locs ls hC hP hS hl h1 h2
  exact lv_if_eq hC.1 hC.2.1 hd ht (fun z => kt z p e s m args below meth c H locs ls hC hP hS hl (ok_t h1) h2) (fun z => kf z p e s m args below meth c H locs ls hC hP hS hl (ok_t h1) h2)
theorem r_if_ne {x : Int32} {off : Int} (tgt : Nat) (hd : decode M.2.2.1 pc = .ok (.ifCond .ne off, 3)) (ht : (pc : Int) + off = (tgt : Int)) (hq : pc + 3 = q) (kt : ¬ x = 0 → Wp E X M tgt L st mem) (kf : x = 0 → Wp E X M q L st mem) : Wp E X M pc L (pI x :: st) mem := by
  subst hq
  intro p e s m args below meth c H locs ls hC hP hS hl h1 h2
  exact lv_if_ne hC.1 hC.2.1 hd ht (fun z => kt z p e s m args below meth c H locs ls hC hP hS hl (ok_t h1) h2) (fun z => kf z p e s m args below meth c H locs ls hC hP hS hl (ok_t h1) h2)
theorem r_if_lt {x : Int32} {off : Int} (tgt : Nat) (hd : decode M.2.2.1 pc = .ok (.ifCond .lt off, 3)) (ht : (pc : Int) + off = (tgt : Int)) (hq : pc + 3 = q) (kt : x < 0 → Wp E X M tgt L st mem) (kf : ¬ (x < 0) → Wp E X M q L st mem) : Wp E X M pc L (pI x :: st) mem := by
  subst hq
  intro p e s m args below meth c H locs ls hC hP hS hl h1 h2
  exact lv_if_lt hC.1 hC.2.1 hd ht (fun z => kt z p e s m args below meth c H locs ls hC hP hS hl (ok_t h1) h2) (fun z => kf z p e s m args below meth c H locs ls hC hP hS hl (ok_t h1) h2)
theorem r_if_ge {x : Int32} {off : Int} (tgt : Nat) (hd : decode M.2.2.1 pc = .ok (.ifCond .ge off, 3)) (ht : (pc : Int) + off = (tgt : Int)) (hq : pc + 3 = q) (kt : 0 ≤ x → Wp E X M tgt L st mem) (kf : ¬ (0 ≤ x) → Wp E X M q L st mem) : Wp E X M pc L (pI x :: st) mem := by
  subst hq
  intro p e s m args below meth c H locs ls hC hP hS hl h1 h2
  exact lv_if_ge hC.1 hC.2.1 hd ht (fun z => kt z p e s m args below meth c H locs ls hC hP hS hl (ok_t h1) h2) (fun z => kf z p e s m args below meth c H locs ls hC hP hS hl (ok_t h1) h2)
theorem r_if_gt {x : Int32} {off : Int} (tgt : Nat) (hd : decode M.2.2.1 pc = .ok (.ifCond .gt off, 3)) (ht : (pc : Int) + off = (tgt : Int)) (hq : pc + 3 = q) (kt : 0 < x → Wp E X M tgt L st mem) (kf : ¬ (0 < x) → Wp E X M q L st mem) : Wp E X M pc L (pI x :: st) mem := by
  subst hq
  intro p e s m args below meth c H locs ls hC hP hS hl h1 h2
  exact lv_if_gt hC.1 hC.2.1 hd ht (fun z => kt z p e s m args below meth c H locs ls hC hP hS hl (ok_t h1) h2) (fun z => kf z p e s m args below meth c H locs ls hC hP hS hl (ok_t h1) h2)
theorem r_if_le {x : Int32} {off : Int} (tgt : Nat) (hd : decode M.2.2.1 pc = .ok (.ifCond .le off, 3)) (ht : (pc : Int) + off = (tgt : Int)) (hq : pc + 3 = q) (kt : x ≤ 0 → Wp E X M tgt L st mem) (kf : ¬ (x ≤ 0) → Wp E X M q L st mem) : Wp E X M pc L (pI x :: st) mem := by
  subst hq
  intro p e s m args below meth c H locs ls hC hP hS hl h1 h2
  exact lv_if_le hC.1 hC.2.1 hd ht (fun z => kt z p e s m args below meth c H locs ls hC hP hS hl (ok_t h1) h2) (fun z => kf z p e s m args below meth c H locs ls hC hP hS hl (ok_t h1) h2)
theorem r_goto {off : Int} (tgt : Nat) (hd : decode M.2.2.1 pc = .ok (.goto off, 3)) (ht : (pc : Int) + off = (tgt : Int)) (k : Wp E X M tgt L st mem) : Wp E X M pc L st mem := by
  intro p e s m args below meth c H locs ls hC hP hS hl h1 h2
  exact lv_goto hC.1 hC.2.1 hd ht (k p e s m args below meth c H locs ls hC hP hS hl (h1) (h2))
theorem r_tabO {x : Int32} {df lo hi : Int} {offs : Array Int} {len : Nat} (tgt : Nat) (hd : decode M.2.2.1 pc = .ok (.tableswitch df lo hi offs, len)) (h : x.toInt < lo ∨ hi < x.toInt) (ht : (pc : Int) + df = (tgt : Int)) (k : Wp E X M tgt L st mem) : Wp E X M pc L (pI x :: st) mem := by
  intro p e s m args below meth c H locs ls hC hP hS hl h1 h2
  exact lv_tableOut hC.1 hC.2.1 hd h ht (k p e s m args below meth c H locs ls hC hP hS hl (ok_t h1) (h2))
theorem r_tabI {x : Int32} {df lo hi : Int} {offs : Array Int} {len : Nat} {off : Int} (tgt : Nat) (hd : decode M.2.2.1 pc = .ok (.tableswitch df lo hi offs, len)) (ha : ¬ x.toInt < lo) (hb : ¬ hi < x.toInt) (ho : offs[(x.toInt - lo).toNat]? = some off) (ht : (pc : Int) + off = (tgt : Int)) (k : Wp E X M tgt L st mem) : Wp E X M pc L (pI x :: st) mem := by
  intro p e s m args below meth c H locs ls hC hP hS hl h1 h2
  exact lv_tableIn hC.1 hC.2.1 hd ha hb ho ht (k p e s m args below meth c H locs ls hC hP hS hl (ok_t h1) (h2))
theorem ok_L {i : Nat} {v : PV} (h2 : ∀ v, some v ∈ L → okv v) (hL : L[i]? = some (some v)) : okv v := h2 v (List.mem_of_getElem? hL)
theorem g_iload_n {k : Fin 4} {i : Nat} {v : Int32} (hL : L[i]? = some (some (pI v))) (hi : (k : Nat) = i) (hd : decode M.2.2.1 pc = .ok (.iload_n k, 1)) (hq : pc + 1 = q) (k : Wp E X M q L (pI v :: st) mem) : Wp E X M pc L st mem := by
  subst hq
  intro p e s m args below meth c H locs ls hC hP hS hl h1 h2
  exact lv_iload_n hC.1 hC.2.1 hd hi (lvl_at hl hL) (k p e s m args below meth c H locs ls hC hP hS hl (ok_c (ok_L h2 hL) h1) (h2))
theorem g_iload {i : Nat} {v : Int32} (hL : L[i]? = some (some (pI v))) (hd : decode M.2.2.1 pc = .ok (.iload i, 2)) (hq : pc + 2 = q) (k : Wp E X M q L (pI v :: st) mem) : Wp E X M pc L st mem := by
  subst hq
  intro p e s m args below meth c H locs ls hC hP hS hl h1 h2
  exact lv_iload hC.1 hC.2.1 hd (lvl_at hl hL) (k p e s m args below meth c H locs ls hC hP hS hl (ok_c (ok_L h2 hL) h1) (h2))
theorem g_aload_n {k : Fin 4} {i : Nat} {a b : Nat} (hL : L[i]? = some (some (pR a b))) (hi : (k : Nat) = i) (hd : decode M.2.2.1 pc = .ok (.aload_n k, 1)) (hq : pc + 1 = q) (k : Wp E X M q L (pR a b :: st) mem) : Wp E X M pc L st mem := by
  subst hq
  intro p e s m args below meth c H locs ls hC hP hS hl h1 h2
  exact lv_aload_n hC.1 hC.2.1 hd hi (lvl_at hl hL) (k p e s m args below meth c H locs ls hC hP hS hl (ok_c (ok_L h2 hL) h1) (h2))
theorem g_aload {i : Nat} {a b : Nat} (hL : L[i]? = some (some (pR a b))) (hd : decode M.2.2.1 pc = .ok (.aload i, 2)) (hq : pc + 2 = q) (k : Wp E X M q L (pR a b :: st) mem) : Wp E X M pc L st mem := by
  subst hq
  intro p e s m args below meth c H locs ls hC hP hS hl h1 h2
  exact lv_aload hC.1 hC.2.1 hd (lvl_at hl hL) (k p e s m args below meth c H locs ls hC hP hS hl (ok_c (ok_L h2 hL) h1) (h2))
theorem g_istore_n {k : Fin 4} {i : Nat} {v : Int32} (hn : i < M.2.2.2.1) (hi : (k : Nat) = i) (hd : decode M.2.2.1 pc = .ok (.istore_n k, 1)) (hq : pc + 1 = q) (k : Wp E X M q (L.set i (some (pI v))) st mem) : Wp E X M pc L (pI v :: st) mem := by
  subst hq
  intro p e s m args below meth c H locs ls hC hP hS hl h1 h2
  exact lv_istore_n hC.1 hC.2.1 hd hi hl hn rfl (fun ls hl => k p e s m args below meth c H locs ls hC hP hS (lvl_set hl) (ok_t h1) (ok_set (ok_h h1) h2))
theorem g_istore {i : Nat} {v : Int32} (hn : i < M.2.2.2.1) (hd : decode M.2.2.1 pc = .ok (.istore i, 2)) (hq : pc + 2 = q) (k : Wp E X M q (L.set i (some (pI v))) st mem) : Wp E X M pc L (pI v :: st) mem := by
  subst hq
  intro p e s m args below meth c H locs ls hC hP hS hl h1 h2
  exact lv_istore hC.1 hC.2.1 hd hl hn rfl (fun ls hl => k p e s m args below meth c H locs ls hC hP hS (lvl_set hl) (ok_t h1) (ok_set (ok_h h1) h2))
theorem g_astore_n {k : Fin 4} {i : Nat} {a b : Nat} (hn : i < M.2.2.2.1) (hi : (k : Nat) = i) (hd : decode M.2.2.1 pc = .ok (.astore_n k, 1)) (hq : pc + 1 = q) (k : Wp E X M q (L.set i (some (pR a b))) st mem) : Wp E X M pc L (pR a b :: st) mem := by
  subst hq
  intro p e s m args below meth c H locs ls hC hP hS hl h1 h2
  exact lv_astore_n hC.1 hC.2.1 hd hi hl hn rfl (fun ls hl => k p e s m args below meth c H locs ls hC hP hS (lvl_set hl) (ok_t h1) (ok_set (ok_h h1) h2))
theorem g_astore {i : Nat} {a b : Nat} (hn : i < M.2.2.2.1) (hd : decode M.2.2.1 pc = .ok (.astore i, 2)) (hq : pc + 2 = q) (k : Wp E X M q (L.set i (some (pR a b))) st mem) : Wp E X M pc L (pR a b :: st) mem := by
  subst hq
  intro p e s m args below meth c H locs ls hC hP hS hl h1 h2
  exact lv_astore hC.1 hC.2.1 hd hl hn rfl (fun ls hl => k p e s m args below meth c H locs ls hC hP hS (lvl_set hl) (ok_t h1) (ok_set (ok_h h1) h2))
theorem g_iinc {i : Nat} {n : Int} {v : Int32} (z : Int32) (hz : v + Int32.ofInt n = z) (hn : i < M.2.2.2.1) (hL : L[i]? = some (some (pI v))) (hd : decode M.2.2.1 pc = .ok (.iinc i n, 3)) (hq : pc + 3 = q) (k : Wp E X M q (L.set i (some (pI z))) st mem) : Wp E X M pc L st mem := by
  subst hq
  intro p e s m args below meth c H locs ls hC hP hS hl h1 h2
  obtain ⟨kk, hkk⟩ := List.getElem?_of_mem (lvl_in (E := E) (i := 0) hL)
  rw [Nat.zero_add] at hkk
  exact lv_iinc hC.1 hC.2.1 hd hl hkk hz hn rfl (fun ls hl => k p e s m args below meth c H locs ls hC hP hS (lvl_set hl) (h1) (ok_set trivial h2))
end RW
section RP
variable {E : En} {X : Xt} {M : MI_} {pc q : Nat} {st : List PV} {mem : Mem} {tl : List (Option PV)}
theorem r_iload_0 {v : Int32} (hd : decode M.2.2.1 pc = .ok (.iload_n 0, 1)) (hq : pc + 1 = q) (k : Wp E X M q (some (pI v) :: tl) (pI v :: st) mem) : Wp E X M pc (some (pI v) :: tl) st mem := g_iload_n (i := 0) rfl rfl hd hq k
theorem r_aload_0 {a b : Nat} (hd : decode M.2.2.1 pc = .ok (.aload_n 0, 1)) (hq : pc + 1 = q) (k : Wp E X M q (some (pR a b) :: tl) (pR a b :: st) mem) : Wp E X M pc (some (pR a b) :: tl) st mem := g_aload_n (i := 0) rfl rfl hd hq k
theorem r_istore_0 {o : Option PV} {v : Int32} (hn : 0 < M.2.2.2.1) (hd : decode M.2.2.1 pc = .ok (.istore_n 0, 1)) (hq : pc + 1 = q) (k : Wp E X M q (some (pI v) :: tl) st mem) : Wp E X M pc (o :: tl) (pI v :: st) mem := g_istore_n (i := 0) hn rfl hd hq k
theorem r_astore_0 {o : Option PV} {a b : Nat} (hn : 0 < M.2.2.2.1) (hd : decode M.2.2.1 pc = .ok (.astore_n 0, 1)) (hq : pc + 1 = q) (k : Wp E X M q (some (pR a b) :: tl) st mem) : Wp E X M pc (o :: tl) (pR a b :: st) mem := g_astore_n (i := 0) hn rfl hd hq k
theorem r_iinc_0 {n : Int} {v : Int32} (z : Int32) (hz : v + Int32.ofInt n = z) (hn : 0 < M.2.2.2.1) (hd : decode M.2.2.1 pc = .ok (.iinc 0 n, 3)) (hq : pc + 3 = q) (k : Wp E X M q (some (pI z) :: tl) st mem) : Wp E X M pc (some (pI v) :: tl) st mem := g_iinc (i := 0) z hz hn rfl hd hq k
theorem r_iload_1 {l0 : Option PV} {v : Int32} (hd : decode M.2.2.1 pc = .ok (.iload_n 1, 1)) (hq : pc + 1 = q) (k : Wp E X M q (l0 :: some (pI v) :: tl) (pI v :: st) mem) : Wp E X M pc (l0 :: some (pI v) :: tl) st mem := g_iload_n (i := 1) rfl rfl hd hq k
theorem r_aload_1 {l0 : Option PV} {a b : Nat} (hd : decode M.2.2.1 pc = .ok (.aload_n 1, 1)) (hq : pc + 1 = q) (k : Wp E X M q (l0 :: some (pR a b) :: tl) (pR a b :: st) mem) : Wp E X M pc (l0 :: some (pR a b) :: tl) st mem := g_aload_n (i := 1) rfl rfl hd hq k
theorem r_istore_1 {l0 : Option PV} {o : Option PV} {v : Int32} (hn : 1 < M.2.2.2.1) (hd : decode M.2.2.1 pc = .ok (.istore_n 1, 1)) (hq : pc + 1 = q) (k : Wp E X M q (l0 :: some (pI v) :: tl) st mem) : Wp E X M pc (l0 :: o :: tl) (pI v :: st) mem := g_istore_n (i := 1) hn rfl hd hq k
theorem r_astore_1 {l0 : Option PV} {o : Option PV} {a b : Nat} (hn : 1 < M.2.2.2.1) (hd : decode M.2.2.1 pc = .ok (.astore_n 1, 1)) (hq : pc + 1 = q) (k : Wp E X M q (l0 :: some (pR a b) :: tl) st mem) : Wp E X M pc (l0 :: o :: tl) (pR a b :: st) mem := g_astore_n (i := 1) hn rfl hd hq k
theorem r_iinc_1 {l0 : Option PV} {n : Int} {v : Int32} (z : Int32) (hz : v + Int32.ofInt n = z) (hn : 1 < M.2.2.2.1) (hd : decode M.2.2.1 pc = .ok (.iinc 1 n, 3)) (hq : pc + 3 = q) (k : Wp E X M q (l0 :: some (pI z) :: tl) st mem) : Wp E X M pc (l0 :: some (pI v) :: tl) st mem := g_iinc (i := 1) z hz hn rfl hd hq k
theorem r_iload_2 {l0 l1 : Option PV} {v : Int32} (hd : decode M.2.2.1 pc = .ok (.iload_n 2, 1)) (hq : pc + 1 = q) (k : Wp E X M q (l0 :: l1 :: some (pI v) :: tl) (pI v :: st) mem) : Wp E X M pc (l0 :: l1 :: some (pI v) :: tl) st mem := g_iload_n (i := 2) rfl rfl hd hq k
theorem r_aload_2 {l0 l1 : Option PV} {a b : Nat} (hd : decode M.2.2.1 pc = .ok (.aload_n 2, 1)) (hq : pc + 1 = q) (k : Wp E X M q (l0 :: l1 :: some (pR a b) :: tl) (pR a b :: st) mem) : Wp E X M pc (l0 :: l1 :: some (pR a b) :: tl) st mem := g_aload_n (i := 2) rfl rfl hd hq k
theorem r_istore_2 {l0 l1 : Option PV} {o : Option PV} {v : Int32} (hn : 2 < M.2.2.2.1) (hd : decode M.2.2.1 pc = .ok (.istore_n 2, 1)) (hq : pc + 1 = q) (k : Wp E X M q (l0 :: l1 :: some (pI v) :: tl) st mem) : Wp E X M pc (l0 :: l1 :: o :: tl) (pI v :: st) mem := g_istore_n (i := 2) hn rfl hd hq k
theorem r_astore_2 {l0 l1 : Option PV} {o : Option PV} {a b : Nat} (hn : 2 < M.2.2.2.1) (hd : decode M.2.2.1 pc = .ok (.astore_n 2, 1)) (hq : pc + 1 = q) (k : Wp E X M q (l0 :: l1 :: some (pR a b) :: tl) st mem) : Wp E X M pc (l0 :: l1 :: o :: tl) (pR a b :: st) mem := g_astore_n (i := 2) hn rfl hd hq k
theorem r_iinc_2 {l0 l1 : Option PV} {n : Int} {v : Int32} (z : Int32) (hz : v + Int32.ofInt n = z) (hn : 2 < M.2.2.2.1) (hd : decode M.2.2.1 pc = .ok (.iinc 2 n, 3)) (hq : pc + 3 = q) (k : Wp E X M q (l0 :: l1 :: some (pI z) :: tl) st mem) : Wp E X M pc (l0 :: l1 :: some (pI v) :: tl) st mem := g_iinc (i := 2) z hz hn rfl hd hq k
theorem r_iload_3 {l0 l1 l2 : Option PV} {v : Int32} (hd : decode M.2.2.1 pc = .ok (.iload_n 3, 1)) (hq : pc + 1 = q) (k : Wp E X M q (l0 :: l1 :: l2 :: some (pI v) :: tl) (pI v :: st) mem) : Wp E X M pc (l0 :: l1 :: l2 :: some (pI v) :: tl) st mem := g_iload_n (i := 3) rfl rfl hd hq k
theorem r_aload_3 {l0 l1 l2 : Option PV} {a b : Nat} (hd : decode M.2.2.1 pc = .ok (.aload_n 3, 1)) (hq : pc + 1 = q) (k : Wp E X M q (l0 :: l1 :: l2 :: some (pR a b) :: tl) (pR a b :: st) mem) : Wp E X M pc (l0 :: l1 :: l2 :: some (pR a b) :: tl) st mem := g_aload_n (i := 3) rfl rfl hd hq k
theorem r_istore_3 {l0 l1 l2 : Option PV} {o : Option PV} {v : Int32} (hn : 3 < M.2.2.2.1) (hd : decode M.2.2.1 pc = .ok (.istore_n 3, 1)) (hq : pc + 1 = q) (k : Wp E X M q (l0 :: l1 :: l2 :: some (pI v) :: tl) st mem) : Wp E X M pc (l0 :: l1 :: l2 :: o :: tl) (pI v :: st) mem := g_istore_n (i := 3) hn rfl hd hq k
theorem r_astore_3 {l0 l1 l2 : Option PV} {o : Option PV} {a b : Nat} (hn : 3 < M.2.2.2.1) (hd : decode M.2.2.1 pc = .ok (.astore_n 3, 1)) (hq : pc + 1 = q) (k : Wp E X M q (l0 :: l1 :: l2 :: some (pR a b) :: tl) st mem) : Wp E X M pc (l0 :: l1 :: l2 :: o :: tl) (pR a b :: st) mem := g_astore_n (i := 3) hn rfl hd hq k
theorem r_iinc_3 {l0 l1 l2 : Option PV} {n : Int} {v : Int32} (z : Int32) (hz : v + Int32.ofInt n = z) (hn : 3 < M.2.2.2.1) (hd : decode M.2.2.1 pc = .ok (.iinc 3 n, 3)) (hq : pc + 3 = q) (k : Wp E X M q (l0 :: l1 :: l2 :: some (pI z) :: tl) st mem) : Wp E X M pc (l0 :: l1 :: l2 :: some (pI v) :: tl) st mem := g_iinc (i := 3) z hz hn rfl hd hq k
theorem r_iload_4 {l0 l1 l2 l3 : Option PV} {v : Int32} (hd : decode M.2.2.1 pc = .ok (.iload 4, 2)) (hq : pc + 2 = q) (k : Wp E X M q (l0 :: l1 :: l2 :: l3 :: some (pI v) :: tl) (pI v :: st) mem) : Wp E X M pc (l0 :: l1 :: l2 :: l3 :: some (pI v) :: tl) st mem := g_iload (i := 4) rfl hd hq k
theorem r_aload_4 {l0 l1 l2 l3 : Option PV} {a b : Nat} (hd : decode M.2.2.1 pc = .ok (.aload 4, 2)) (hq : pc + 2 = q) (k : Wp E X M q (l0 :: l1 :: l2 :: l3 :: some (pR a b) :: tl) (pR a b :: st) mem) : Wp E X M pc (l0 :: l1 :: l2 :: l3 :: some (pR a b) :: tl) st mem := g_aload (i := 4) rfl hd hq k
theorem r_istore_4 {l0 l1 l2 l3 : Option PV} {o : Option PV} {v : Int32} (hn : 4 < M.2.2.2.1) (hd : decode M.2.2.1 pc = .ok (.istore 4, 2)) (hq : pc + 2 = q) (k : Wp E X M q (l0 :: l1 :: l2 :: l3 :: some (pI v) :: tl) st mem) : Wp E X M pc (l0 :: l1 :: l2 :: l3 :: o :: tl) (pI v :: st) mem := g_istore (i := 4) hn hd hq k
theorem r_astore_4 {l0 l1 l2 l3 : Option PV} {o : Option PV} {a b : Nat} (hn : 4 < M.2.2.2.1) (hd : decode M.2.2.1 pc = .ok (.astore 4, 2)) (hq : pc + 2 = q) (k : Wp E X M q (l0 :: l1 :: l2 :: l3 :: some (pR a b) :: tl) st mem) : Wp E X M pc (l0 :: l1 :: l2 :: l3 :: o :: tl) (pR a b :: st) mem := g_astore (i := 4) hn hd hq k
theorem r_iinc_4 {l0 l1 l2 l3 : Option PV} {n : Int} {v : Int32} (z : Int32) (hz : v + Int32.ofInt n = z) (hn : 4 < M.2.2.2.1) (hd : decode M.2.2.1 pc = .ok (.iinc 4 n, 3)) (hq : pc + 3 = q) (k : Wp E X M q (l0 :: l1 :: l2 :: l3 :: some (pI z) :: tl) st mem) : Wp E X M pc (l0 :: l1 :: l2 :: l3 :: some (pI v) :: tl) st mem := g_iinc (i := 4) z hz hn rfl hd hq k
theorem r_iload_5 {l0 l1 l2 l3 l4 : Option PV} {v : Int32} (hd : decode M.2.2.1 pc = .ok (.iload 5, 2)) (hq : pc + 2 = q) (k : Wp E X M q (l0 :: l1 :: l2 :: l3 :: l4 :: some (pI v) :: tl) (pI v :: st) mem) : Wp E X M pc (l0 :: l1 :: l2 :: l3 :: l4 :: some (pI v) :: tl) st mem := g_iload (i := 5) rfl hd hq k
theorem r_aload_5 {l0 l1 l2 l3 l4 : Option PV} {a b : Nat} (hd : decode M.2.2.1 pc = .ok (.aload 5, 2)) (hq : pc + 2 = q) (k : Wp E X M q (l0 :: l1 :: l2 :: l3 :: l4 :: some (pR a b) :: tl) (pR a b :: st) mem) : Wp E X M pc (l0 :: l1 :: l2 :: l3 :: l4 :: some (pR a b) :: tl) st mem := g_aload (i := 5) rfl hd hq k
theorem r_istore_5 {l0 l1 l2 l3 l4 : Option PV} {o : Option PV} {v : Int32} (hn : 5 < M.2.2.2.1) (hd : decode M.2.2.1 pc = .ok (.istore 5, 2)) (hq : pc + 2 = q) (k : Wp E X M q (l0 :: l1 :: l2 :: l3 :: l4 :: some (pI v) :: tl) st mem) : Wp E X M pc (l0 :: l1 :: l2 :: l3 :: l4 :: o :: tl) (pI v :: st) mem := g_istore (i := 5) hn hd hq k
theorem r_astore_5 {l0 l1 l2 l3 l4 : Option PV} {o : Option PV} {a b : Nat} (hn : 5 < M.2.2.2.1) (hd : decode M.2.2.1 pc = .ok (.astore 5, 2)) (hq : pc + 2 = q) (k : Wp E X M q (l0 :: l1 :: l2 :: l3 :: l4 :: some (pR a b) :: tl) st mem) : Wp E X M pc (l0 :: l1 :: l2 :: l3 :: l4 :: o :: tl) (pR a b :: st) mem := g_astore (i := 5) hn hd hq k
theorem r_iinc_5 {l0 l1 l2 l3 l4 : Option PV} {n : Int} {v : Int32} (z : Int32) (hz : v + Int32.ofInt n = z) (hn : 5 < M.2.2.2.1) (hd : decode M.2.2.1 pc = .ok (.iinc 5 n, 3)) (hq : pc + 3 = q) (k : Wp E X M q (l0 :: l1 :: l2 :: l3 :: l4 :: some (pI z) :: tl) st mem) : Wp E X M pc (l0 :: l1 :: l2 :: l3 :: l4 :: some (pI v) :: tl) st mem := g_iinc (i := 5) z hz hn rfl hd hq k
theorem r_iload_6 {l0 l1 l2 l3 l4 l5 : Option PV} {v : Int32} (hd : decode M.2.2.1 pc = .ok (.iload 6, 2)) (hq : pc + 2 = q) (k : Wp E X M q (l0 :: l1 :: l2 :: l3 :: l4 :: l5 :: some (pI v) :: tl) (pI v :: st) mem) : Wp E X M pc (l0 :: l1 :: l2 :: l3 :: l4 :: l5 :: some (pI v) :: tl) st mem := g_iload (i := 6) rfl hd hq k
theorem r_aload_6 {l0 l1 l2 l3 l4 l5 : Option PV} {a b : Nat} (hd : decode M.2.2.1 pc = .ok (.aload 6, 2)) (hq : pc + 2 = q) (k : Wp E X M q (l0 :: l1 :: l2 :: l3 :: l4 :: l5 :: some (pR a b) :: tl) (pR a b :: st) mem) : Wp E X M pc (l0 :: l1 :: l2 :: l3 :: l4 :: l5 :: some (pR a b) :: tl) st mem := g_aload (i := 6) rfl hd hq k
theorem r_istore_6 {l0 l1 l2 l3 l4 l5 : Option PV} {o : Option PV} {v : Int32} (hn : 6 < M.2.2.2.1) (hd : decode M.2.2.1 pc = .ok (.istore 6, 2)) (hq : pc + 2 = q) (k : Wp E X M q (l0 :: l1 :: l2 :: l3 :: l4 :: l5 :: some (pI v) :: tl) st mem) : Wp E X M pc (l0 :: l1 :: l2 :: l3 :: l4 :: l5 :: o :: tl) (pI v :: st) mem := g_istore (i := 6) hn hd hq k
theorem r_astore_6 {l0 l1 l2 l3 l4 l5 : Option PV} {o : Option PV} {a b : Nat} (hn : 6 < M.2.2.2.1) (hd : decode M.2.2.1 pc = .ok (.astore 6, 2)) (hq : pc + 2 = q) (k : Wp E X M q (l0 :: l1 :: l2 :: l3 :: l4 :: l5 :: some (pR a b) :: tl) st mem) : Wp E X M pc (l0 :: l1 :: l2 :: l3 :: l4 :: l5 :: o :: tl) (pR a b :: st) mem := g_astore (i := 6) hn hd hq k
theorem r_iinc_6 {l0 l1 l2 l3 l4 l5 : Option PV} {n : Int} {v : Int32} (z : Int32) (hz : v + Int32.ofInt n = z) (hn : 6 < M.2.2.2.1) (hd : decode M.2.2.1 pc = .ok (.iinc 6 n, 3)) (hq : pc + 3 = q) (k : Wp E X M q (l0 :: l1 :: l2 :: l3 :: l4 :: l5 :: some (pI z) :: tl) st mem) : Wp E X M pc (l0 :: l1 :: l2 :: l3 :: l4 :: l5 :: some (pI v) :: tl) st mem := g_iinc (i := 6) z hz hn rfl hd hq k
theorem r_iload_7 {l0 l1 l2 l3 l4 l5 l6 : Option PV} {v : Int32} (hd : decode M.2.2.1 pc = .ok (.iload 7, 2)) (hq : pc + 2 = q) (k : Wp E X M q (l0 :: l1 :: l2 :: l3 :: l4 :: l5 :: l6 :: some (pI v) :: tl) (pI v :: st) mem) : Wp E X M pc (l0 :: l1 :: l2 :: l3 :: l4 :: l5 :: l6 :: some (pI v) :: tl) st mem := g_iload (i := 7) rfl hd hq k
theorem r_aload_7 {l0 l1 l2 l3 l4 l5 l6 : Option PV} {a b : Nat} (hd : decode M.2.2.1 pc = .ok (.aload 7, 2)) (hq : pc + 2 = q) (k : Wp E X M q (l0 :: l1 :: l2 :: l3 :: l4 :: l5 :: l6 :: some (pR a b) :: tl) (pR a b :: st) mem) : Wp E X M pc (l0 :: l1 :: l2 :: l3 :: l4 :: l5 :: l6 :: some (pR a b) :: tl) st mem := g_aload (i := 7) rfl hd hq k
theorem r_istore_7 {l0 l1 l2 l3 l4 l5 l6 : Option PV} {o : Option PV} {v : Int32} (hn : 7 < M.2.2.2.1) (hd : decode M.2.2.1 pc = .ok (.istore 7, 2)) (hq : pc + 2 = q) (k : Wp E X M q (l0 :: l1 :: l2 :: l3 :: l4 :: l5 :: l6 :: some (pI v) :: tl) st mem) : Wp E X M pc (l0 :: l1 :: l2 :: l3 :: l4 :: l5 :: l6 :: o :: tl) (pI v :: st) mem := g_istore (i := 7) hn hd hq k
theorem r_astore_7 {l0 l1 l2 l3 l4 l5 l6 : Option PV} {o : Option PV} {a b : Nat} (hn : 7 < M.2.2.2.1) (hd : decode M.2.2.1 pc = .ok (.astore 7, 2)) (hq : pc + 2 = q) (k : Wp E X M q (l0 :: l1 :: l2 :: l3 :: l4 :: l5 :: l6 :: some (pR a b) :: tl) st mem) : Wp E X M pc (l0 :: l1 :: l2 :: l3 :: l4 :: l5 :: l6 :: o :: tl) (pR a b :: st) mem := g_astore (i := 7) hn hd hq k
theorem r_iinc_7 {l0 l1 l2 l3 l4 l5 l6 : Option PV} {n : Int} {v : Int32} (z : Int32) (hz : v + Int32.ofInt n = z) (hn : 7 < M.2.2.2.1) (hd : decode M.2.2.1 pc = .ok (.iinc 7 n, 3)) (hq : pc + 3 = q) (k : Wp E X M q (l0 :: l1 :: l2 :: l3 :: l4 :: l5 :: l6 :: some (pI z) :: tl) st mem) : Wp E X M pc (l0 :: l1 :: l2 :: l3 :: l4 :: l5 :: l6 :: some (pI v) :: tl) st mem := g_iinc (i := 7) z hz hn rfl hd hq k
theorem r_iload_8 {l0 l1 l2 l3 l4 l5 l6 l7 : Option PV} {v : Int32} (hd : decode M.2.2.1 pc = .ok (.iload 8, 2)) (hq : pc + 2 = q) (k : Wp E X M q (l0 :: l1 :: l2 :: l3 :: l4 :: l5 :: l6 :: l7 :: some (pI v) :: tl) (pI v :: st) mem) : Wp E X M pc (l0 :: l1 :: l2 :: l3 :: l4 :: l5 :: l6 :: l7 :: some (pI v) :: tl) st mem := g_iload (i := 8) rfl hd hq k
theorem r_aload_8 {l0 l1 l2 l3 l4 l5 l6 l7 : Option PV} {a b : Nat} (hd : decode M.2.2.1 pc = .ok (.aload 8, 2)) (hq : pc + 2 = q) (k : Wp E X M q (l0 :: l1 :: l2 :: l3 :: l4 :: l5 :: l6 :: l7 :: some (pR a b) :: tl) (pR a b :: st) mem) : Wp E X M pc (l0 :: l1 :: l2 :: l3 :: l4 :: l5 :: l6 :: l7 :: some (pR a b) :: tl) st mem := g_aload (i := 8) rfl hd hq k
theorem r_istore_8 {l0 l1 l2 l3 l4 l5 l6 l7 : Option PV} {o : Option PV} {v : Int32} (hn : 8 < M.2.2.2.1) (hd : decode M.2.2.1 pc = .ok (.istore 8, 2)) (hq : pc + 2 = q) (k : Wp E X M q (l0 :: l1 :: l2 :: l3 :: l4 :: l5 :: l6 :: l7 :: some (pI v) :: tl) st mem) : Wp E X M pc (l0 :: l1 :: l2 :: l3 :: l4 :: l5 :: l6 :: l7 :: o :: tl) (pI v :: st) mem := g_istore (i := 8) hn hd hq k
theorem r_astore_8 {l0 l1 l2 l3 l4 l5 l6 l7 : Option PV} {o : Option PV} {a b : Nat} (hn : 8 < M.2.2.2.1) (hd : decode M.2.2.1 pc = .ok (.astore 8, 2)) (hq : pc + 2 = q) (k : Wp E X M q (l0 :: l1 :: l2 :: l3 :: l4 :: l5 :: l6 :: l7 :: some (pR a b) :: tl) st mem) : Wp E X M pc (l0 :: l1 :: l2 :: l3 :: l4 :: l5 :: l6 :: l7 :: o :: tl) (pR a b :: st) mem := g_astore (i := 8) hn hd hq k
theorem r_iinc_8 {l0 l1 l2 l3 l4 l5 l6 l7 : Option PV} {n : Int} {v : Int32} (z : Int32) (hz : v + Int32.ofInt n = z) (hn : 8 < M.2.2.2.1) (hd : decode M.2.2.1 pc = .ok (.iinc 8 n, 3)) (hq : pc + 3 = q) (k : Wp E X M q (l0 :: l1 :: l2 :: l3 :: l4 :: l5 :: l6 :: l7 :: some (pI z) :: tl) st mem) : Wp E X M pc (l0 :: l1 :: l2 :: l3 :: l4 :: l5 :: l6 :: l7 :: some (pI v) :: tl) st mem := g_iinc (i := 8) z hz hn rfl hd hq k
theorem r_iload_9 {l0 l1 l2 l3 l4 l5 l6 l7 l8 : Option PV} {v : Int32} (hd : decode M.2.2.1 pc = .ok (.iload 9, 2)) (hq : pc + 2 = q) (k : Wp E X M q (l0 :: l1 :: l2 :: l3 :: l4 :: l5 :: l6 :: l7 :: l8 :: some (pI v) :: tl) (pI v :: st) mem) : Wp E X M pc (l0 :: l1 :: l2 :: l3 :: l4 :: l5 :: l6 :: l7 :: l8 :: some (pI v) :: tl) st mem := g_iload (i := 9) rfl hd hq k
theorem r_aload_9 {l0 l1 l2 l3 l4 l5 l6 l7 l8 : Option PV} {a b : Nat} (hd : decode M.2.2.1 pc = .ok (.aload 9, 2)) (hq : pc + 2 = q) (k : Wp E X M q (l0 :: l1 :: l2 :: l3 :: l4 :: l5 :: l6 :: l7 :: l8 :: some (pR a b) :: tl) (pR a b :: st) mem) : Wp E X M pc (l0 :: l1 :: l2 :: l3 :: l4 :: l5 :: l6 :: l7 :: l8 :: some (pR a b) :: tl) st mem := g_aload (i := 9) rfl hd hq k
theorem r_istore_9 {l0 l1 l2 l3 l4 l5 l6 l7 l8 : Option PV} {o : Option PV} {v : Int32} (hn : 9 < M.2.2.2.1) (hd : decode M.2.2.1 pc = .ok (.istore 9, 2)) (hq : pc + 2 = q) (k : Wp E X M q (l0 :: l1 :: l2 :: l3 :: l4 :: l5 :: l6 :: l7 :: l8 :: some (pI v) :: tl) st mem) : Wp E X M pc (l0 :: l1 :: l2 :: l3 :: l4 :: l5 :: l6 :: l7 :: l8 :: o :: tl) (pI v :: st) mem := g_istore (i := 9) hn hd hq k
theorem r_astore_9 {l0 l1 l2 l3 l4 l5 l6 l7 l8 : Option PV} {o : Option PV} {a b : Nat} (hn : 9 < M.2.2.2.1) (hd : decode M.2.2.1 pc = .ok (.astore 9, 2)) (hq : pc + 2 = q) (k : Wp E X M q (l0 :: l1 :: l2 :: l3 :: l4 :: l5 :: l6 :: l7 :: l8 :: some (pR a b) :: tl) st mem) : Wp E X M pc (l0 :: l1 :: l2 :: l3 :: l4 :: l5 :: l6 :: l7 :: l8 :: o :: tl) (pR a b :: st) mem := g_astore (i := 9) hn hd hq k
theorem r_iinc_9 {l0 l1 l2 l3 l4 l5 l6 l7 l8 : Option PV} {n : Int} {v : Int32} (z : Int32) (hz : v + Int32.ofInt n = z) (hn : 9 < M.2.2.2.1) (hd : decode M.2.2.1 pc = .ok (.iinc 9 n, 3)) (hq : pc + 3 = q) (k : Wp E X M q (l0 :: l1 :: l2 :: l3 :: l4 :: l5 :: l6 :: l7 :: l8 :: some (pI z) :: tl) st mem) : Wp E X M pc (l0 :: l1 :: l2 :: l3 :: l4 :: l5 :: l6 :: l7 :: l8 :: some (pI v) :: tl) st mem := g_iinc (i := 9) z hz hn rfl hd hq k
theorem r_iload_10 {l0 l1 l2 l3 l4 l5 l6 l7 l8 l9 : Option PV} {v : Int32} (hd : decode M.2.2.1 pc = .ok (.iload 10, 2)) (hq : pc + 2 = q) (k : Wp E X M q (l0 :: l1 :: l2 :: l3 :: l4 :: l5 :: l6 :: l7 :: l8 :: l9 :: some (pI v) :: tl) (pI v :: st) mem) : Wp E X M pc (l0 :: l1 :: l2 :: l3 :: l4 :: l5 :: l6 :: l7 :: l8 :: l9 :: some (pI v) :: tl) st mem := g_iload (i := 10) rfl hd hq k
theorem r_aload_10 {l0 l1 l2 l3 l4 l5 l6 l7 l8 l9 : Option PV} {a b : Nat} (hd : decode M.2.2.1 pc = .ok (.aload 10, 2)) (hq : pc + 2 = q) (k : Wp E X M q (l0 :: l1 :: l2 :: l3 :: l4 :: l5 :: l6 :: l7 :: l8 :: l9 :: some (pR a b) :: tl) (pR a b :: st) mem) : Wp E X M pc (l0 :: l1 :: l2 :: l3 :: l4 :: l5 :: l6 :: l7 :: l8 :: l9 :: some (pR a b) :: tl) st mem := g_aload (i := 10) rfl hd hq k
theorem r_istore_10 {l0 l1 l2 l3 l4 l5 l6 l7 l8 l9 : Option PV} {o : Option PV} {v : Int32} (hn : 10 < M.2.2.2.1) (hd : decode M.2.2.1 pc = .ok (.istore 10, 2)) (hq : pc + 2 = q) (k : Wp E X M q (l0 :: l1 :: l2 :: l3 :: l4 :: l5 :: l6 :: l7 :: l8 :: l9 :: some (pI v) :: tl) st mem) : Wp E X M pc (l0 :: l1 :: l2 :: l3 :: l4 :: l5 :: l6 :: l7 :: l8 :: l9 :: o :: tl) (pI v :: st) mem := g_istore (i := 10) hn hd hq k
theorem r_astore_10 {l0 l1 l2 l3 l4 l5 l6 l7 l8 l9 : Option PV} {o : Option PV} {a b : Nat} (hn : 10 < M.2.2.2.1) (hd : decode M.2.2.1 pc = .ok (.astore 10, 2)) (hq : pc + 2 = q) (k : Wp E X M q (l0 :: l1 :: l2 :: l3 :: l4 :: l5 :: l6 :: l7 :: l8 :: l9 :: some (pR a b) :: tl) st mem) : Wp E X M pc (l0 :: l1 :: l2 :: l3 :: l4 :: l5 :: l6 :: l7 :: l8 :: l9 :: o :: tl) (pR a b :: st) mem := g_astore (i := 10) hn hd hq k
theorem r_iinc_10 {l0 l1 l2 l3 l4 l5 l6 l7 l8 l9 : Option PV} {n : Int} {v : Int32} (z : Int32) (hz : v + Int32.ofInt n = z) (hn : 10 < M.2.2.2.1) (hd : decode M.2.2.1 pc = .ok (.iinc 10 n, 3)) (hq : pc + 3 = q) (k : Wp E X M q (l0 :: l1 :: l2 :: l3 :: l4 :: l5 :: l6 :: l7 :: l8 :: l9 :: some (pI z) :: tl) st mem) : Wp E X M pc (l0 :: l1 :: l2 :: l3 :: l4 :: l5 :: l6 :: l7 :: l8 :: l9 :: some (pI v) :: tl) st mem := g_iinc (i := 10) z hz hn rfl hd hq k
theorem r_iload_11 {l0 l1 l2 l3 l4 l5 l6 l7 l8 l9 l10 : Option PV} {v : Int32} (hd : decode M.2.2.1 pc = .ok (.iload 11, 2)) (hq : pc + 2 = q) (k : Wp E X M q (l0 :: l1 :: l2 :: l3 :: l4 :: l5 :: l6 :: l7 :: l8 :: l9 :: l10 :: some (pI v) :: tl) (pI v :: st) mem) : Wp E X M pc (l0 :: l1 :: l2 :: l3 :: l4 :: l5 :: l6 :: l7 :: l8 :: l9 :: l10 :: some (pI v) :: tl) st mem := g_iload (i := 11) rfl hd hq k
theorem r_aload_11 {l0 l1 l2 l3 l4 l5 l6 l7 l8 l9 l10 : Option PV} {a b : Nat} (hd : decode M.2.2.1 pc = .ok (.aload 11, 2)) (hq : pc + 2 = q) (k : Wp E X M q (l0 :: l1 :: l2 :: l3 :: l4 :: l5 :: l6 :: l7 :: l8 :: l9 :: l10 :: some (pR a b) :: tl) (pR a b :: st) mem) : Wp E X M pc (l0 :: l1 :: l2 :: l3 :: l4 :: l5 :: l6 :: l7 :: l8 :: l9 :: l10 :: some (pR a b) :: tl) st mem := g_aload (i := 11) rfl hd hq k
theorem r_istore_11 {l0 l1 l2 l3 l4 l5 l6 l7 l8 l9 l10 : Option PV} {o : Option PV} {v : Int32} (hn : 11 < M.2.2.2.1) (hd : decode M.2.2.1 pc = .ok (.istore 11, 2)) (hq : pc + 2 = q) (k : Wp E X M q (l0 :: l1 :: l2 :: l3 :: l4 :: l5 :: l6 :: l7 :: l8 :: l9 :: l10 :: some (pI v) :: tl) st mem) : Wp E X M pc (l0 :: l1 :: l2 :: l3 :: l4 :: l5 :: l6 :: l7 :: l8 :: l9 :: l10 :: o :: tl) (pI v :: st) mem := g_istore (i := 11) hn hd hq k
theorem r_astore_11 {l0 l1 l2 l3 l4 l5 l6 l7 l8 l9 l10 : Option PV} {o : Option PV} {a b : Nat} (hn : 11 < M.2.2.2.1) (hd : decode M.2.2.1 pc = .ok (.astore 11, 2)) (hq : pc + 2 = q) (k : Wp E X M q (l0 :: l1 :: l2 :: l3 :: l4 :: l5 :: l6 :: l7 :: l8 :: l9 :: l10 :: some (pR a b) :: tl) st mem) : Wp E X M pc (l0 :: l1 :: l2 :: l3 :: l4 :: l5 :: l6 :: l7 :: l8 :: l9 :: l10 :: o :: tl) (pR a b :: st) mem := g_astore (i := 11) hn hd hq k
theorem r_iinc_11 {l0 l1 l2 l3 l4 l5 l6 l7 l8 l9 l10 : Option PV} {n : Int} {v : Int32} (z : Int32) (hz : v + Int32.ofInt n = z) (hn : 11 < M.2.2.2.1) (hd : decode M.2.2.1 pc = .ok (.iinc 11 n, 3)) (hq : pc + 3 = q) (k : Wp E X M q (l0 :: l1 :: l2 :: l3 :: l4 :: l5 :: l6 :: l7 :: l8 :: l9 :: l10 :: some (pI z) :: tl) st mem) : Wp E X M pc (l0 :: l1 :: l2 :: l3 :: l4 :: l5 :: l6 :: l7 :: l8 :: l9 :: l10 :: some (pI v) :: tl) st mem := g_iinc (i := 11) z hz hn rfl hd hq k
theorem nI_inc (q : Nat) : nI q + Int32.ofInt 1 = nI (q + 1) := nI_1 q
end RP
theorem garr_all : (List.range 59).all (fun g => match garr g with | some (_, n) => decide (n < 1000000) | none => true) = true := by decide +kernel
theorem gref_all : (List.range 59).all (fun g => match gref g with | some (n, _) => decide (n < 1000000) | none => true) = true := by decide +kernel
theorem garr_sz {g n : Nat} {z : Bool} (h : garr g = some (z, n)) : n < 1000000 := by
  have h1 := List.all_eq_true.mp garr_all g (List.mem_range.mpr (garr_lt h))
  rw [h] at h1
  simpa using h1
theorem gref_sz {g n t : Nat} (h : gref g = some (n, t)) : n < 1000000 := by
  have h1 := List.all_eq_true.mp gref_all g (List.mem_range.mpr (gref_lt h))
  rw [h] at h1
  simpa using h1
/-! fields -/
theorem kcl_ok : ∀ (ci : Nat) (r : vw_C), kcl[ci]? = some r → (∀ w ∈ u_ws r.1 r.2.1 r.2.2, w ∈ TB_) ∧ (∃ ty0 : Nat → FieldType, ∀ k, k < r.2.2 → parseFieldDescriptor (r.2.1 k).2.2.1 = some (ty0 k)) ∧ (∀ a, a < r.2.2 → ∀ b, b < r.2.2 → a ≠ b → (r.2.1 a).2.1 ≠ (r.2.1 b).2.1)
  | 0, _, h => by cases h; exact ⟨in_X0, ⟨tyX0, tyX0_ok⟩, nmX0⟩
  | 1, _, h => by cases h; exact ⟨in_X1, ⟨tyX1, tyX1_ok⟩, nmX1⟩
  | 2, _, h => by cases h; exact ⟨in_X2, ⟨tyX2, tyX2_ok⟩, nmX2⟩
  | 3, _, h => by cases h; exact ⟨in_X3, ⟨tyX3, tyX3_ok⟩, nmX3⟩
  | 4, _, h => by cases h; exact ⟨in_X5, ⟨tyX5, tyX5_ok⟩, nmX5⟩
  | 5, _, h => by cases h; exact ⟨in_X6, ⟨tyX6, tyX6_ok⟩, nmX6⟩
  | 6, _, h => by cases h; exact ⟨in_X7, ⟨tyX7, tyX7_ok⟩, nmX7⟩
  | 7, _, h => by cases h; exact ⟨in_X8, ⟨tyX8, tyX8_ok⟩, nmX8⟩
  | 8, _, h => by cases h; exact ⟨in_X9, ⟨tyX9, tyX9_ok⟩, nmX9⟩
  | n + 9, _, h => by simp [kcl] at h
/-- the link of a field instruction: it names field k of class ci -/
def FLK (own : String) (idx ci k : Nat) : Prop := ∃ (r : vw_C) (ref : String), kcl[ci]? = some r ∧ k < r.2.2 ∧ Cond.fieldLink own idx ref (r.2.1 k).2.1 (r.2.1 k).2.2.1 ∈ TB_ ∧ (ref = (r.2.1 k).1 ∨ Cond.sameField ref (r.2.1 k).1 (r.2.1 k).2.1 (r.2.1 k).2.2.1 ∈ TB_)
/-- and it may be written -/
def PFK (ci k : Nat) : Prop := ∃ r : vw_C, kcl[ci]? = some r ∧ (r.2.1 k).2.2.2 = false ∧ parseFieldDescriptor (r.2.1 k).2.2.1 = some .int
section RF
variable {E : En} {X : Xt} {M : MI_} {pc q : Nat} {L : List (Option PV)} {st : List PV} {mem : Mem}
theorem flk_same {s : State} {args : Array Value} {ref own name desc : String} (hts : ∀ w ∈ TB_, w.before args s = true) (h : ref = own ∨ Cond.sameField ref own name desc ∈ TB_) : ∀ x, s.fieldFound? own name desc = some x → s.fieldFound? ref name desc = some x := by
  intro x hx
  rcases h with rfl | h
  · exact hx
  · exact u_same (hts _ h) x hx
theorem g_get {idx g j k ci : Nat} {fs : List (Option Nat)} {f : Option Nat} {v : PV} (hf : FLK M.1 idx ci k) (hg : gobj g = some (ci, fs)) (hk : fs[k]? = some f) (hv : fvE E (mem g j) k f = cv E v) (ho : okv v) (hd : decode M.2.2.1 pc = .ok (.getfield idx, 3)) (hq : pc + 3 = q) (kk : Wp E X M q L (v :: st) mem) : Wp E X M pc L (pR g j :: st) mem := by
  subst hq
  intro p e s m args below meth c H locs ls hC hP hS hl h1 h2
  obtain ⟨k0, hk0, hw⟩ := wsE_place E mem (gobj_lt hg) (ok_h h1 (gobj_lt hg))
  rw [gent_obj hg] at hw
  obtain ⟨⟨C, T, N⟩, ref, hc, hkN, hlk, hsm⟩ := hf
  have hts := hC.2.2.2.2.2.1
  refine va_get hC.1 hC.2.1 hts (kcl_ok ci _ hc).1 hC.2.2.2.2.1 hC.2.2.2.2.2.2.2.1.1 hP k0 hw hc k hkN (hts _ hlk) (flk_same hts hsm) ((fds_at hk).trans (congrArg some hv)) hd ?_
  exact kk p e s m args below meth c H locs ls hC hP hS hl (ok_c ho (ok_t h1)) h2
theorem r_getI {idx g j k ci : Nat} {fs : List (Option Nat)} (hf : FLK M.1 idx ci k) (hg : gobj g = some (ci, fs)) (hk : fs[k]? = some none) (hd : decode M.2.2.1 pc = .ok (.getfield idx, 3)) (hq : pc + 3 = q) (kk : Wp E X M q L (pI (mem g j k) :: st) mem) : Wp E X M pc L (pR g j :: st) mem := g_get (v := pI (mem g j k)) hf hg hk rfl trivial hd hq kk
theorem r_getR {idx g j k ci g' : Nat} {fs : List (Option Nat)} (hf : FLK M.1 idx ci k) (hg : gobj g = some (ci, fs)) (hk : fs[k]? = some (some g')) (hd : decode M.2.2.1 pc = .ok (.getfield idx, 3)) (hq : pc + 3 = q) (kk : Wp E X M q L (pR g' 0 :: st) mem) : Wp E X M pc L (pR g j :: st) mem := g_get hf hg hk rfl (okR0 g') hd hq kk
theorem r_put {idx g j k ci : Nat} {fs : List (Option Nat)} {v : Int32} (hf : FLK M.1 idx ci k) (hpf : PFK ci k) (hg : gobj g = some (ci, fs)) (hk : fs[k]? = some none) (hd : decode M.2.2.1 pc = .ok (.putfield idx, 3)) (hq : pc + 3 = q) (kk : Wp E X M q L st (mset mem g j k v)) : Wp E X M pc L (pI v :: pR g j :: st) mem := by
  subst hq
  intro p e s m args below meth c H locs ls hC hP hS hl h1 h2
  obtain ⟨k0, hk0, hw⟩ := wsE_place E mem (gobj_lt hg) (ok_h (ok_t h1) (gobj_lt hg))
  rw [gent_obj hg] at hw
  obtain ⟨⟨C, T, N⟩, ref, hc, hkN, hlk, hsm⟩ := hf
  obtain ⟨r2, hc2, hfin, hty⟩ := hpf
  cases hc.symm.trans hc2
  obtain ⟨hin, ⟨ty0, hty0⟩, hnm⟩ := kcl_ok ci _ hc
  have hts := hC.2.2.2.2.2.1
  have hKx := hC.2.2.2.2.2.2.2.1
  have hj : Ej E := hKx.2.2.2.2
  refine va_put hC.1 hC.2.1 hts hin ty0 hty0 hnm hC.2.2.2.2.1 hKx.1 hP (wsE_D hj hC.2.2.2.2.2.2.2.2) hS k0 hw hc k hkN (hts _ hlk) (flk_same hts hsm) hfin hty rfl rfl (by unfold fdsE; rw [List.length_mapIdx]; exact (List.getElem?_eq_some_iff.mp hk).1) hd (fun H1 locs1 hP1 _ hS1 => ?_)
  have hP1 : va_P E.2.1 kcl ((wsE E mem).set k0 (E.2.2.1 g j, .inr (ci, (fdsE E (mem g j) fs).set k (.int v)))) H1 := hP1
  rw [fds_set v hk, ← gent_obj (E := E) (r := upd (mem g j) k v) hg, wsE_set hj hk0 rfl] at hP1
  exact kk p e s m args below meth c H1 locs1 ls hC hP1 hS1 hl (ok_t (ok_t h1)) h2
/-! arrays -/
theorem r_iald {g j n : Nat} {x : Int32} (i : Nat) (hx : x = nI i) (hg : garr g = some (false, n)) (hi : i < n) (hd : decode M.2.2.1 pc = .ok (.iaload, 1)) (hq : pc + 1 = q) (kk : Wp E X M q L (pI (mem g j i) :: st) mem) : Wp E X M pc L (pI x :: pR g j :: st) mem := by
  subst hq
  subst hx
  intro p e s m args below meth c H locs ls hC hP hS hl h1 h2
  obtain ⟨k0, hk0, hw⟩ := wsE_place E mem (garr_lt hg) (ok_h (ok_t h1) (garr_lt hg))
  rw [gent_arr hg] at hw
  have hn := garr_sz hg
  refine va_iald hC.1 hC.2.1 hC.2.2.2.2.2.2.2.1.1 hP k0 0 hw rfl (vp_in_nI hi (by omega)) hd ?_
  rw [nI_clamp (show i < 2 ^ 31 by omega)]
  exact kk p e s m args below meth c H locs ls hC hP hS hl (ok_c trivial (ok_t (ok_t h1))) h2
theorem r_zald {g j n : Nat} {x : Int32} (i : Nat) (hx : x = nI i) (hg : garr g = some (true, n)) (hi : i < n) (hd : decode M.2.2.1 pc = .ok (.baload, 1)) (hq : pc + 1 = q) (kk : Wp E X M q L (pI (mem g j i) :: st) mem) : Wp E X M pc L (pI x :: pR g j :: st) mem := by
  subst hq
  subst hx
  intro p e s m args below meth c H locs ls hC hP hS hl h1 h2
  obtain ⟨k0, hk0, hw⟩ := wsE_place E mem (garr_lt hg) (ok_h (ok_t h1) (garr_lt hg))
  rw [gent_arr hg] at hw
  have hn := garr_sz hg
  refine va_zald hC.1 hC.2.1 hC.2.2.2.2.2.2.2.1.1 hP k0 1 hw rfl (vp_in_nI hi (by omega)) hd ?_
  rw [nI_clamp (show i < 2 ^ 31 by omega)]
  exact kk p e s m args below meth c H locs ls hC hP hS hl (ok_c trivial (ok_t (ok_t h1))) h2
theorem r_iast {g j n : Nat} {x v : Int32} (i : Nat) (hx : x = nI i) (hg : garr g = some (false, n)) (hi : i < n) (hd : decode M.2.2.1 pc = .ok (.iastore, 1)) (hq : pc + 1 = q) (kk : Wp E X M q L st (mset mem g j i v)) : Wp E X M pc L (pI v :: pI x :: pR g j :: st) mem := by
  subst hq
  subst hx
  intro p e s m args below meth c H locs ls hC hP hS hl h1 h2
  obtain ⟨k0, hk0, hw⟩ := wsE_place E mem (garr_lt hg) (ok_h (ok_t (ok_t h1)) (garr_lt hg))
  rw [gent_arr hg] at hw
  have hn := garr_sz hg
  have hKx := hC.2.2.2.2.2.2.2.1
  have hj : Ej E := hKx.2.2.2.2
  refine va_iast hC.1 hC.2.1 hKx.1 hP (wsE_D hj hC.2.2.2.2.2.2.2.2) hS k0 0 hw rfl (vp_in_nI hi (by omega)) hd (fun H1 locs1 hP1 _ hS1 => ?_)
  rw [nI_clamp (show i < 2 ^ 31 by omega), ← gent_arr (E := E) (r := upd (mem g j) i v) hg, wsE_set hj hk0 rfl] at hP1
  exact kk p e s m args below meth c H1 locs1 ls hC hP1 hS1 hl (ok_t (ok_t (ok_t h1))) h2
theorem r_zast {g j n : Nat} {x v : Int32} (i : Nat) (hx : x = nI i) (hv : v = 0 ∨ v = 1) (hg : garr g = some (true, n)) (hi : i < n) (hd : decode M.2.2.1 pc = .ok (.bastore, 1)) (hq : pc + 1 = q) (kk : Wp E X M q L st (mset mem g j i v)) : Wp E X M pc L (pI v :: pI x :: pR g j :: st) mem := by
  subst hq
  subst hx
  intro p e s m args below meth c H locs ls hC hP hS hl h1 h2
  obtain ⟨k0, hk0, hw⟩ := wsE_place E mem (garr_lt hg) (ok_h (ok_t (ok_t h1)) (garr_lt hg))
  rw [gent_arr hg] at hw
  have hn := garr_sz hg
  have hKx := hC.2.2.2.2.2.2.2.1
  have hj : Ej E := hKx.2.2.2.2
  have hb : vp_nar .boolean v = v := by rcases hv with rfl | rfl <;> decide +kernel
  refine va_zast hC.1 hC.2.1 hKx.1 hP (wsE_D hj hC.2.2.2.2.2.2.2.2) hS k0 1 hw rfl (vp_in_nI hi (by omega)) hd (fun H1 locs1 hP1 _ hS1 => ?_)
  rw [nI_clamp (show i < 2 ^ 31 by omega), hb, ← gent_arr (E := E) (r := upd (mem g j) i v) hg, wsE_set hj hk0 rfl] at hP1
  exact kk p e s m args below meth c H1 locs1 ls hC hP1 hS1 hl (ok_t (ok_t (ok_t h1))) h2
theorem r_aald {g j n t : Nat} {x : Int32} (i : Nat) (hx : x = nI i) (hg : gref g = some (n, t)) (hi : i < n) (hd : decode M.2.2.1 pc = .ok (.aaload, 1)) (hq : pc + 1 = q) (kk : Wp E X M q L (pR t i :: st) mem) : Wp E X M pc L (pI x :: pR g j :: st) mem := by
  subst hq
  subst hx
  intro p e s m args below meth c H locs ls hC hP hS hl h1 h2
  obtain ⟨k0, hk0, hw⟩ := wsE_place E mem (gref_lt hg) (ok_h (ok_t h1) (gref_lt hg))
  rw [gent_ref hg] at hw
  have hn := gref_sz hg
  have hlt : i < 2 ^ 31 := by omega
  have hK := hC.2.2.2.2.2.2.2.1.1
  refine W.aald (v := .ref (E.2.2.1 t i)) (ty := .array .int) hC.1 hC.2.1 (hP k0 _ hw) ((hK.2 2 _ rfl).1 n (fun j => va_rf (if j < n then some (E.2.2.1 t j) else none))) rfl (fun q => by cases q) (by show ¬ (nI i < 0 ∨ (arrV _ _ _).slots.size ≤ _); rw [arrV_size]; exact vp_in_nI hi (show n < 2 ^ 31 by omega)) (by show (arrV _ _ _).slots[_]? = _; rw [nI_clamp hlt, arrV_read _ _ hi]; simp [hi, va_rf]) rfl rfl hd ?_
  refine kk p e s m args below meth c H locs ls hC hP hS hl (ok_c (fun _ => ?_) (ok_t (ok_t h1))) h2
  show i < gcnt t
  rw [gref_rows hg]
  exact hi
/-- a read of the static array of ten noughts -/
theorem r_nald {x : Int32} (i : Nat) (hx : x = nI i) (hi : i < 10) (hd : decode M.2.2.1 pc = .ok (.iaload, 1)) (hq : pc + 1 = q) (kk : Wp E X M q L (pI 0 :: st) mem) : Wp E X M pc L (pI x :: pR 99 0 :: st) mem := by
  subst hq
  subst hx
  intro p e s m args below meth c H locs ls hC hP hS hl h1 h2
  have hKx := hC.2.2.2.2.2.2.2.1
  exact va_ti hC.1 hC.2.1 hKx.2.2.2.1 hS (vp_in_nI hi (by omega)) rfl hd (kk p e s m args below meth c H locs ls hC hP hS hl (ok_c trivial (ok_t (ok_t h1))) h2)
theorem r_alen {g j n : Nat} {z : Bool} (hg : garr g = some (z, n)) (hd : decode M.2.2.1 pc = .ok (.arraylength, 1)) (hq : pc + 1 = q) (kk : Wp E X M q L (pI (nI n) :: st) mem) : Wp E X M pc L (pR g j :: st) mem := by
  subst hq
  intro p e s m args below meth c H locs ls hC hP hS hl h1 h2
  obtain ⟨k0, hk0, hw⟩ := wsE_place E mem (garr_lt hg) (ok_h h1 (garr_lt hg))
  rw [gent_arr hg] at hw
  cases z with
  | false => exact va_alen hC.1 hC.2.1 hC.2.2.2.2.2.2.2.1.1 hP k0 0 hw rfl rfl hd (kk p e s m args below meth c H locs ls hC hP hS hl (ok_c trivial (ok_t h1)) h2)
  | true => exact va_alen hC.1 hC.2.1 hC.2.2.2.2.2.2.2.1.1 hP k0 1 hw rfl rfl hd (kk p e s m args below meth c H locs ls hC hP hS hl (ok_c trivial (ok_t h1)) h2)
theorem r_gets {idx : Nat} (hw : Cond.fieldLink M.1 idx RX8 "NOTHING_MORE" "[I" ∈ TB_) (hd : decode M.2.2.1 pc = .ok (.getstatic idx, 3)) (hq : pc + 3 = q) (kk : Wp E X M q L (pR 99 0 :: st) mem) : Wp E X M pc L st mem := by
  subst hq
  intro p e s m args below meth c H locs ls hC hP hS hl h1 h2
  have hKx := hC.2.2.2.2.2.2.2.1
  exact va_gets hC.1 hC.2.1 hKx.2.2.1 hS hC.2.2.2.2.1 (hC.2.2.2.2.2.1 _ hw) (fun _ h => h) hd (kk p e s m args below meth c H locs ls hC hP hS hl (ok_c (okR0 99) h1) h2)
theorem r_getsN {idx : Nat} (hw : Cond.fieldLinkNest M.1 idx RX8 "NOTHING_MORE" "[I" RX8 ∈ NWS) (hd : decode M.2.2.1 pc = .ok (.getstatic idx, 3)) (hq : pc + 3 = q) (kk : Wp E X M q L (pR 99 0 :: st) mem) : Wp E X M pc L st mem := by
  subst hq
  intro p e s m args below meth c H locs ls hC hP hS hl h1 h2
  have hKx := hC.2.2.2.2.2.2.2.1
  exact va_getsN hC.1 hC.2.1 hKx.2.2.1 hS hC.2.2.2.2.1 (va_Nw.use rfl (hKx.2.1 _ hw)) (fun _ h => h) hd (kk p e s m args below meth c H locs ls hC hP hS hl (ok_c (okR0 99) h1) h2)
end RF
end
section
/-! CALLS. A contract of a method over the small machine: its arguments and the world's numbers in, its answer and the world's numbers out. -/
def rmD (d : Nat) : Room := { frames := d, cells := 0, slots := 0, locals := 64 * d }
def rvO (r : Option FieldType) (v : Int32) : Option Value := match r with
  | none => none
  | some _ => some (.int v)
def rvP (r : Option FieldType) (v : Int32) : List PV := match r with
  | none => []
  | some _ => [pI v]
theorem rv_map (E : En) (r : Option FieldType) (v : Int32) (st : List PV) : (rvO r v).toList ++ st.map (cv E) = (rvP r v ++ st).map (cv E) := by cases r <;> rfl
theorem rv_ok (r : Option FieldType) (v : Int32) {st : List PV} (h : ∀ w ∈ st, okv w) : ∀ w ∈ rvP r v ++ st, okv w := by
  cases r with
  | none => exact h
  | some t => exact ok_c trivial h
def QcE (E : En) (M : MI_) (Q : Int32 → Mem → Prop) : Array Value → State → Outcome → State → Prop := fun _ st oc t => (∃ (v : Int32) (mem : Mem), oc = .returned (rvO M.2.2.2.2 v) ∧ Q v mem ∧ va_P E.2.1 kcl (wsE E mem) t.heap) ∧ va_F (rA E) st t
def PcE (E : En) (args : List PV) (mem : Mem) : Array Value → State → Prop := va_Pc (args.map (cv E)) (fun U => va_P E.2.1 kcl (wsE E mem) U.heap ∧ Kx E (rA E) U ∧ ∀ v ∈ args, okv v)
def wsM (M : MI_) : List Cond := Cond.code M.2.1 M.2.2.1 M.2.2.2.1 M.2.2.2.2 :: TB_
def Call (E : En) (d : Nat) (M : MI_) (args : List PV) (mem : Mem) (Q : Int32 → Mem → Prop) : Prop := Met E.1 M.2.1 (wsM M) (rmD d) (PcE E args mem) (QcE E M Q) 0 0 (rA E)
abbrev xm (E : En) (d : Nat) (M : MI_) (Q : Int32 → Mem → Prop) : Xt := (rmD d, 0, 0, fun _ => rA E, fun below args s => MQ below (QcE E M Q) args s 0 0 (rA E))
/-- what is known of a method: its code is in the tables, it takes n arguments beside the receiver -/
def MOK (M : MI_) (n : Nat) : Prop := plainName M.2.1.cls = true ∧ M.1 = M.2.1.cls ∧ Cond.code M.2.1 M.2.2.1 M.2.2.2.1 M.2.2.2.2 ∈ TB_ ∧ Cond.initialized M.2.1.cls ∈ TB_ ∧ (M.2.1.cls ≠ "java/lang/invoke/MethodHandle" ∧ M.2.1.cls ≠ "java/lang/invoke/VarHandle") ∧ (parseMethodDescriptor M.2.1.desc).map (fun d => d.parameters.length) = some n ∧ M.2.2.2.1 ≤ 30
theorem lvl_args (E : En) (k : Nat) : ∀ (i : Nat) (args : List PV), lvl E i (args.map some ++ List.replicate k none) = lv_args i (args.map (cv E))
  | i, [] => by
    have : ∀ (k i : Nat), lvl E i (List.replicate k none) = [] := by
      intro k
      induction k with
      | zero => intro i; rfl
      | succ n ih => intro i; exact ih (i + 1)
    simpa [lv_args] using this k i
  | i, v :: t => by
    show (i, cv E v) :: lvl E (i + 1) (t.map some ++ List.replicate k none) = (i, cv E v) :: lv_args (if (cv E v).category = 2 then i + 2 else i + 1) (t.map (cv E))
    rw [lvl_args E k (i + 1) t, if_neg (by rw [cv_cat]; decide)]
theorem lg_sl_cv (E : En) (args : List PV) : (lg_sl (args.map (cv E))).length = args.length := by
  induction args with
  | nil => rfl
  | cons v t ih =>
    show (lg_sl (cv E v :: t.map (cv E))).length = _
    unfold lg_sl at ih ⊢
    rw [List.flatMap_cons, List.length_append, ih, if_neg (by rw [cv_cat]; decide)]
    simp [Nat.add_comm]
theorem Call.of {E : En} {d n : Nat} {M : MI_} {args : List PV} {mem : Mem} {Q : Int32 → Mem → Prop} (L : List (Option PV)) (hM : MOK M n) (hL : args.map some ++ List.replicate (M.2.2.2.1 - args.length) none = L) (hle : args.length ≤ M.2.2.2.1) (h : (∀ v ∈ args, okv v) → Wp E (xm E d M Q) M 0 L [] mem) : Call E d M args mem Q := by
  refine Met.ofW (cc := M.2.2.1) (maxL := M.2.2.2.1) (ret := M.2.2.2.2) hM.1 rfl ?_
  intro p e s m args' below meth c s₁ B hml hv
  obtain ⟨rfl, hP, hK, hok⟩ := hv
  have hts := atoms_spec (ws := wsM M) B.pre
  have hown : s.vm.findClass M.2.1.cls = some m.cls := findClass_of_methodNamed B.named
  have hl := lv_entry (args.map (cv E)) (n := M.2.2.2.1) (by rw [lg_sl_cv]; exact hle)
  rw [lg_entry_eq]
  generalize (lg_sl (args.map (cv E)) ++ List.replicate (M.2.2.2.1 - (lg_sl (args.map (cv E))).length) Slot.unset).toArray = ls at hl ⊢
  rw [← lvl_args E (M.2.2.2.1 - args.length), hL] at hl
  refine h hok p e s m _ below meth c s.heap [] ls ⟨B.exec, B.bytes, B.returns, hml, by rw [hM.2.1]; exact hown, fun w hw => hts w (List.mem_cons_of_mem _ hw), B.notSynchronized, hK, fun q h => h⟩ hP va_S.rf hl (fun v h => by cases h) (fun v hv => ?_)
  rw [← hL] at hv
  rcases List.mem_append.mp hv with q | q
  · obtain ⟨w, hw, e⟩ := List.mem_map.mp q
    cases e
    exact hok _ hw
  · have := List.eq_of_mem_replicate q
    cases this
section RT
variable {E : En} {d : Nat} {M : MI_} {Q : Int32 → Mem → Prop} {pc q : Nat} {L : List (Option PV)} {st : List PV} {mem : Mem}
theorem r_iret {v : Int32} (hr : M.2.2.2.2 = some .int) (hd : decode M.2.2.1 pc = .ok (.ireturn, 1)) (h : Q v mem) : Wp E (xm E d M Q) M pc L [pI v] mem := by
  intro p e s m args below meth c H locs ls hC hP hS hl h1 h2
  have hlk := hC.2.2.2.2.2.2.1
  exact W.iret hC.1 hC.2.1 (hC.2.2.1.trans hr) (fun t ht _ => ⟨⟨v, mem, by rw [hr]; rfl, h, by rw [ht]; exact hP⟩, hS.F ht⟩) hS.2.2 hd hlk
theorem r_zret {v : Int32} (hv : v = 0 ∨ v = 1) (hr : M.2.2.2.2 = some .boolean) (hd : decode M.2.2.1 pc = .ok (.ireturn, 1)) (h : Q v mem) : Wp E (xm E d M Q) M pc L [pI v] mem := by
  intro p e s m args below meth c H locs ls hC hP hS hl h1 h2
  have hlk := hC.2.2.2.2.2.2.1
  have hn : narrow .boolean (.int v) = .int v := by rcases hv with rfl | rfl <;> decide +kernel
  exact W.zret hC.1 hC.2.1 (hC.2.2.1.trans hr) hn (fun t ht _ => ⟨⟨v, mem, by rw [hr]; rfl, h, by rw [ht]; exact hP⟩, hS.F ht⟩) hS.2.2 hd hlk
theorem r_vret (hr : M.2.2.2.2 = none) (hd : decode M.2.2.1 pc = .ok (.return_, 1)) (h : Q 0 mem) : Wp E (xm E d M Q) M pc L [] mem := by
  intro p e s m args below meth c H locs ls hC hP hS hl h1 h2
  have hlk := hC.2.2.2.2.2.2.1
  exact W.vret hC.1 hC.2.1 (hC.2.2.1.trans hr) (fun t ht _ => ⟨⟨0, mem, by rw [hr]; rfl, h, by rw [ht]; exact hP⟩, hS.F ht⟩) hS.2.2 hd hlk
end RT
section CG
variable {p : Program} {e : Env} {R : Room} {s : State} {m : MethodId} {args : Array Value} {below : List Frame} {meth : Method} {c : Code} {H : Heap} {locs : List Loc} {ce sl : Nat} {Qe : State → Prop} {pc : Nat} {ls : Array Slot} {rest st0 : List Value} {aa : Array Value} {A : Nat → Prop}
theorem call_go {E : En} {M' : MI_} {Q' : Int32 → Mem → Prop} (hr : va_Run p E.1 e R s m args below meth c H locs ce sl 0 0 (F0 m pc ls st0) rest (QcE E M' Q' aa) (rA E)) (hS : va_S A s.heap H locs) (hA : ∀ q, rA E q → A q)
    (kk : ∀ (v : Int32) (mem' : Mem) (H1 : Heap) (locs1 : List Loc), Q' v mem' → va_P E.2.1 kcl (wsE E mem') H1 → va_S A s.heap H1 locs1 → W p E.1 e R s m args below meth c H1 locs1 ce sl Qe (F0 m (pc + 3) ls ((rvO M'.2.2.2.2 v).toList ++ rest))) : W p E.1 e R s m args below meth c H locs ce sl Qe (F0 m pc ls st0) := by
  intro T hT X
  obtain ⟨v, st₀, t, T', L, h0, X', hL, e1, e2, ⟨⟨r, u, hv, hp, hb⟩, hz, hk⟩, st⟩ := hr T hT X
  have hv : v = rvO M'.2.2.2.2 r := by injection hv
  subst hv
  rw [h0] at hz hk
  obtain ⟨t2, a1, b1⟩ := kk r u T'.heap (locs ++ L) hp (by rw [e1]; exact hb)
    ⟨Nat.le_trans hS.1 (by rw [e1]; exact hz), fun q h1 h2 => by rw [e1, hk q (Nat.lt_of_lt_of_le h1 hS.1) (fun z => h2 (hA q z))]; exact hS.2.1 q h1 h2, fun q hq => by
      rcases List.mem_append.mp hq with h | h
      · exact hS.2.2 q h
      · exact hA _ (hL q h)⟩ T' rfl X'
  exact ⟨t2, st t2 a1, b1⟩
end CG
/-- the room that a call of depth d leaves -/
def RmOK (d : Nat) (X : Xt) : Prop := d + 1 ≤ X.1.frames ∧ 64 * d + 64 ≤ X.1.locals ∧ X.2.1 ≤ X.1.cells ∧ X.2.2.1 ≤ X.1.slots
theorem rm_xm {E : En} {d : Nat} {M : MI_} {Q : Int32 → Mem → Prop} : RmOK d (xm E (d + 1) M Q) := ⟨Nat.le_refl _, by show 64 * d + 64 ≤ 64 * (d + 1); omega, Nat.le_refl _, Nat.le_refl _⟩
theorem cat_sum (E : En) (st : List PV) : ((st.map (cv E)).map fun v => v.category).sum = st.length := by
  induction st with
  | nil => rfl
  | cons v t ih =>
    rw [List.map_cons, List.map_cons, List.sum_cons, ih, cv_cat, List.length_cons]
    omega
theorem PcE_blind (E : En) (args : List PV) (mem : Mem) : FrameBlind (PcE E args mem) := by
  intro a U g mk h
  obtain ⟨h1, h2, h3, h4⟩ := h
  exact ⟨h1, h2, h3.blind, h4⟩
theorem wsM_in {M : MI_} {n : Nat} (hM : MOK M n) : ∀ w ∈ wsM M, w ∈ TB_ := by
  intro w hw
  rcases List.mem_cons.mp hw with rfl | h
  · exact hM.2.2.1
  · exact h
section RC
variable {E : En} {X : Xt} {M M' : MI_} {d pc q n idx : Nat} {L : List (Option PV)} {st : List PV} {mem : Mem}
theorem map_rev (E : En) (As : List PV) (v : PV) (st : List PV) : (As.reverse ++ v :: st).map (cv E) = (As.map (cv E)).reverse ++ cv E v :: st.map (cv E) := by
  rw [List.map_append, List.map_reverse, List.map_cons]
theorem map_rev0 (E : En) (As : List PV) (st : List PV) : (As.reverse ++ st).map (cv E) = (As.map (cv E)).reverse ++ st.map (cv E) := by
  rw [List.map_append, List.map_reverse]
theorem rm_hR (hM : MOK M' n) (hR : RmOK d X) : (rmD d).frames + 1 ≤ X.1.frames ∧ 8 + (M'.2.2.2.1 + 11) + (rmD d).locals ≤ X.1.locals := by
  refine ⟨hR.1, ?_⟩
  have h1 := hM.2.2.2.2.2.2
  have h2 := hR.2.1
  show 8 + (M'.2.2.2.1 + 11) + 64 * d ≤ _
  omega
/-- an instance method that the receiver's own class declares -/
theorem g_callV {g j ci : Nat} {fs : List (Option Nat)} {r : vw_C} {As : List PV} (hM : MOK M' n) (hI : Cond.instanceMethod M'.2.1 ∈ TB_ ∧ Cond.selects M'.2.1.cls M'.2.1 M'.2.1 ∈ TB_) (hlk : Cond.methodLink M.1 idx M'.2.1 ∈ TB_) (hg : gobj g = some (ci, fs)) (hc : kcl[ci]? = some r) (hcl : r.1 = M'.2.1.cls) (hn : As.length = n) (hst : st.length ≤ 8) (hR : RmOK d X) (hd : decode M.2.2.1 pc = .ok (.invokevirtual idx, 3)) (hq : pc + 3 = q)
    (hk : Call E d M' (pR g j :: As) mem (fun v mem' => Wp E X M q L (rvP M'.2.2.2.2 v ++ st) mem')) : Wp E X M pc L (As.reverse ++ pR g j :: st) mem := by
  subst hq
  intro p e s m args below meth c H locs ls hC hP hS hl h1 h2
  have hts := hC.2.2.2.2.2.1
  have hok : ∀ v ∈ pR g j :: As, okv v := by
    intro v hv
    apply h1 v
    rcases List.mem_cons.mp hv with rfl | h
    · exact List.mem_append_right _ List.mem_cons_self
    · exact List.mem_append_left _ (List.mem_reverse.mpr h)
  have hrest : ∀ v ∈ st, okv v := fun v hv => h1 v (List.mem_append_right _ (List.mem_cons_of_mem _ hv))
  obtain ⟨k0, hk0, hw⟩ := wsE_place E mem (gobj_lt hg) (hok _ List.mem_cons_self (gobj_lt hg))
  rw [gent_obj hg] at hw
  have hKx := hC.2.2.2.2.2.2.2.1
  have hA := hC.2.2.2.2.2.2.2.2
  have hrec := va_recv hKx.1 hP hc hw
  rw [hcl] at hrec
  have hG : GoodIn TB_ (wsV M.1 idx M'.2.1.cls M'.2.1 (wsM M')) := tb_good (fun w hw => by
    unfold wsV at hw
    rcases List.mem_append.mp hw with h | h
    · simp only [List.mem_cons, List.not_mem_nil, or_false] at h
      rcases h with rfl | rfl | rfl | rfl
      · exact hlk
      · exact hI.1
      · exact hI.2
      · exact hM.2.2.2.1
    · exact wsM_in hM w h)
  rw [map_rev]
  refine call_go (M' := M') (A := X.2.2.2.1 s) (va_runV (mc := 0) (ms := 0) (As := As.map (cv E)) (rest := st.map (cv E)) ⟨hC.1, hC.2.1, hC.2.2.2.1, hC.2.2.2.2.1, hts⟩ hk (cwV n hts hG rfl rfl rfl ⟨rfl, hM.2.2.2.2.1.1, hM.2.2.2.2.1.2, hM.2.2.2.2.2.1⟩ (rm_hR hM hR)) ⟨PcE_blind E _ mem, hrec, fun U hU hW => ⟨rfl, by rw [hU]; exact hP, hKx.call hS hA hU hW, hok⟩⟩ rfl (by rw [List.length_map]; exact hn) hl.1 rfl (lv_room (by rw [cat_sum]; exact hst)) hd ⟨hR.2.2.1, hR.2.2.2⟩) hS hA (fun v mem' H1 locs1 hQ hP1 hS1 => ?_)
  rw [rv_map]
  exact hQ p e s m args below meth c H1 locs1 ls hC hP1 hS1 hl (rv_ok _ v hrest) h2
/-- an inherited, an overriding or an abstract method: the receiver's class selects it -/
theorem g_callU {g j ci : Nat} {fs : List (Option Nat)} {r : vw_C} {As : List PV} {x : MethodName} {owner : String} (hM : MOK M' n) (hI : Cond.instanceMethod M'.2.1 ∈ TB_) (hsel : Cond.selects r.1 x M'.2.1 ∈ TB_) (hsm : Cond.sameMethod x.cls owner x.name x.desc ∈ TB_) (hdc : M'.2.1 = ⟨owner, x.name, x.desc⟩ ∨ Cond.declares ⟨owner, x.name, x.desc⟩ ∈ NWS) (how : owner ≠ "java/lang/invoke/MethodHandle" ∧ owner ≠ "java/lang/invoke/VarHandle" ∧ (parseMethodDescriptor x.desc).map (fun d => d.parameters.length) = some n) (hlk : Cond.methodLink M.1 idx x ∈ TB_) (hg : gobj g = some (ci, fs)) (hc : kcl[ci]? = some r) (hn : As.length = n) (hst : st.length ≤ 8) (hR : RmOK d X) (hd : decode M.2.2.1 pc = .ok (.invokevirtual idx, 3)) (hq : pc + 3 = q)
    (hk : Call E d M' (pR g j :: As) mem (fun v mem' => Wp E X M q L (rvP M'.2.2.2.2 v ++ st) mem')) : Wp E X M pc L (As.reverse ++ pR g j :: st) mem := by
  subst hq
  intro p e s m args below meth c H locs ls hC hP hS hl h1 h2
  have hts := hC.2.2.2.2.2.1
  have hok : ∀ v ∈ pR g j :: As, okv v := by
    intro v hv
    apply h1 v
    rcases List.mem_cons.mp hv with rfl | h
    · exact List.mem_append_right _ List.mem_cons_self
    · exact List.mem_append_left _ (List.mem_reverse.mpr h)
  have hrest : ∀ v ∈ st, okv v := fun v hv => h1 v (List.mem_append_right _ (List.mem_cons_of_mem _ hv))
  obtain ⟨k0, hk0, hw⟩ := wsE_place E mem (gobj_lt hg) (hok _ List.mem_cons_self (gobj_lt hg))
  rw [gent_obj hg] at hw
  have hKx := hC.2.2.2.2.2.2.2.1
  have hA := hC.2.2.2.2.2.2.2.2
  have hrec := va_recv hKx.1 hP hc hw
  have hG : GoodIn TB_ (va_wsU M.1 idx r.1 owner x M'.2.1 (wsM M')) := tb_good (fun w hw => by
    unfold va_wsU at hw
    rcases List.mem_append.mp hw with h | h
    · simp only [List.mem_cons, List.not_mem_nil, or_false] at h
      rcases h with rfl | rfl | rfl | rfl | rfl
      · exact hlk
      · exact hsm
      · exact hsel
      · exact hI
      · exact hM.2.2.2.1
    · exact wsM_in hM w h)
  have hcu : va_CU X.1 s args M.1 r.1 owner idx x M'.2.1 M'.2.2.1 M'.2.2.2.1 M'.2.2.2.2 (wsM M') (rmD d) 0 0 n := by
    rcases hdc with h | h
    · exact va_cwU n hts hG rfl rfl rfl h how (rm_hR hM hR)
    · exact va_cwA n hts hG rfl rfl rfl (hKx.2.1 _ h) how (rm_hR hM hR)
  rw [map_rev]
  refine call_go (M' := M') (A := X.2.2.2.1 s) (va_runU (mc := 0) (ms := 0) (As := As.map (cv E)) (rest := st.map (cv E)) ⟨hC.1, hC.2.1, hC.2.2.2.1, hC.2.2.2.2.1, hts⟩ hk hcu ⟨PcE_blind E _ mem, hrec, fun U hU hW => ⟨rfl, by rw [hU]; exact hP, hKx.call hS hA hU hW, hok⟩⟩ rfl (by rw [List.length_map]; exact hn) hl.1 rfl (lv_room (by rw [cat_sum]; exact hst)) hd ⟨hR.2.2.1, hR.2.2.2⟩) hS hA (fun v mem' H1 locs1 hQ hP1 hS1 => ?_)
  rw [rv_map]
  exact hQ p e s m args below meth c H1 locs1 ls hC hP1 hS1 hl (rv_ok _ v hrest) h2
theorem ok_As {As : List PV} (h1 : ∀ v ∈ As.reverse ++ st, okv v) : ∀ v ∈ As, okv v := fun v hv => h1 v (List.mem_append_left _ (List.mem_reverse.mpr hv))
/-- a static method -/
theorem g_callS {As : List PV} (hM : MOK M' n) (hI : Cond.static M'.2.1 ∈ TB_) (hlk : Cond.methodLink M.1 idx M'.2.1 ∈ TB_) (hn : As.length = n) (hst : st.length ≤ 8) (hR : RmOK d X) (hd : decode M.2.2.1 pc = .ok (.invokestatic idx, 3)) (hq : pc + 3 = q)
    (hk : Call E d M' As mem (fun v mem' => Wp E X M q L (rvP M'.2.2.2.2 v ++ st) mem')) : Wp E X M pc L (As.reverse ++ st) mem := by
  subst hq
  intro p e s m args below meth c H locs ls hC hP hS hl h1 h2
  have hts := hC.2.2.2.2.2.1
  have hrest : ∀ v ∈ st, okv v := fun v hv => h1 v (List.mem_append_right _ hv)
  have hKx := hC.2.2.2.2.2.2.2.1
  have hA := hC.2.2.2.2.2.2.2.2
  have hG : GoodIn TB_ (va_wsS M.1 idx M'.2.1 (wsM M')) := tb_good (fun w hw => by
    unfold va_wsS at hw
    rcases List.mem_append.mp hw with h | h
    · simp only [List.mem_cons, List.not_mem_nil, or_false] at h
      rcases h with rfl | rfl | rfl
      · exact hlk
      · exact hI
      · exact hM.2.2.2.1
    · exact wsM_in hM w h)
  rw [map_rev0]
  refine call_go (M' := M') (A := X.2.2.2.1 s) (va_runS (mc := 0) (ms := 0) (As := As.map (cv E)) (rest := st.map (cv E)) ⟨hC.1, hC.2.1, hC.2.2.2.1, hC.2.2.2.2.1, hts⟩ hk (va_cwS n hts hG rfl rfl rfl ⟨hM.2.2.2.2.1.1, hM.2.2.2.2.1.2, hM.2.2.2.2.2.1⟩ (rm_hR hM hR)) ⟨PcE_blind E _ mem, fun U hU hW => ⟨rfl, by rw [hU]; exact hP, hKx.call hS hA hU hW, ok_As h1⟩⟩ rfl (by rw [List.length_map]; exact hn) hl.1 rfl (lv_room (by rw [cat_sum]; exact hst)) hd ⟨hR.2.2.1, hR.2.2.2⟩) hS hA (fun v mem' H1 locs1 hQ hP1 hS1 => ?_)
  rw [rv_map]
  exact hQ p e s m args below meth c H1 locs1 ls hC hP1 hS1 hl (rv_ok _ v hrest) h2
/-- a private static method of the nest's host -/
theorem g_callN {As : List PV} (hM : MOK M' n) (hI : Cond.static M'.2.1 ∈ TB_) (hlk : Cond.methodLinkNest M.1 idx M'.2.1 RX8 ∈ NWS) (hn : As.length = n) (hst : st.length ≤ 8) (hR : RmOK d X) (hd : decode M.2.2.1 pc = .ok (.invokestatic idx, 3)) (hq : pc + 3 = q)
    (hk : Call E d M' As mem (fun v mem' => Wp E X M q L (rvP M'.2.2.2.2 v ++ st) mem')) : Wp E X M pc L (As.reverse ++ st) mem := by
  subst hq
  intro p e s m args below meth c H locs ls hC hP hS hl h1 h2
  have hts := hC.2.2.2.2.2.1
  have hrest : ∀ v ∈ st, okv v := fun v hv => h1 v (List.mem_append_right _ hv)
  have hKx := hC.2.2.2.2.2.2.2.1
  have hA := hC.2.2.2.2.2.2.2.2
  rw [map_rev0]
  refine call_go (M' := M') (A := X.2.2.2.1 s) (va_runSN (mc := 0) (ms := 0) (As := As.map (cv E)) (rest := st.map (cv E)) ⟨hC.1, hC.2.1, hC.2.2.2.1, hC.2.2.2.2.1, hts⟩ hk ⟨va_cnB n hts (tb_good (wsM_in hM)) rfl rfl rfl (hKx.2.1 _ hlk) (hts _ hM.2.2.2.1) ⟨hM.2.2.2.2.1.1, hM.2.2.2.2.1.2, hM.2.2.2.2.2.1⟩ (rm_hR hM hR), hts _ hI, trivial⟩ ⟨PcE_blind E _ mem, fun U hU hW => ⟨rfl, by rw [hU]; exact hP, hKx.call hS hA hU hW, ok_As h1⟩⟩ rfl (by rw [List.length_map]; exact hn) hl.1 rfl (lv_room (by rw [cat_sum]; exact hst)) hd ⟨hR.2.2.1, hR.2.2.2⟩) hS hA (fun v mem' H1 locs1 hQ hP1 hS1 => ?_)
  rw [rv_map]
  exact hQ p e s m args below meth c H1 locs1 ls hC hP1 hS1 hl (rv_ok _ v hrest) h2
theorem sum_le (E : En) (hst : st.length ≤ 8) (hR : RmOK 0 X) : (((st.map (cv E)).map fun v => v.category).sum + 13 ≤ X.1.locals) := by
  rw [cat_sum]
  have := hR.2.1
  omega
theorem r_mmax {x y : Int32} (hlk : Cond.methodLink M.1 idx Lib.Math.max.name ∈ TB_) (hs : Cond.static Lib.Math.max.name ∈ TB_) (hi : Cond.initialized "java/lang/Math" ∈ TB_) (hco : Cond.code Lib.Math.max.name Lib.Math.max.code 2 (some .int) ∈ TB_) (hst : st.length ≤ 8) (hR : RmOK 0 X) (hd : decode M.2.2.1 pc = .ok (.invokestatic idx, 3)) (hq : pc + 3 = q) (k : Wp E X M q L (pI (if x < y then y else x) :: st) mem) : Wp E X M pc L (pI y :: pI x :: st) mem := by
  subst hq
  intro p e s m args below meth c H locs ls hC hP hS hl h1 h2
  have hts := hC.2.2.2.2.2.1
  exact va_mmax hC.1 hC.2.1 (hC.2.2.2.1.trans hl.1.symm) hC.2.2.2.2.1 (hts _ hlk) (hts _ hs) (hts _ hi) (hts _ hco) hR.1 (sum_le E hst hR) hR.2.2.1 hR.2.2.2 hd (k p e s m args below meth c H locs ls hC hP hS hl (ok_c trivial (ok_t (ok_t h1))) h2)
theorem r_mmin {x y : Int32} (hlk : Cond.methodLink M.1 idx Lib.Math.min.name ∈ TB_) (hs : Cond.static Lib.Math.min.name ∈ TB_) (hi : Cond.initialized "java/lang/Math" ∈ TB_) (hco : Cond.code Lib.Math.min.name Lib.Math.min.code 2 (some .int) ∈ TB_) (hst : st.length ≤ 8) (hR : RmOK 0 X) (hd : decode M.2.2.1 pc = .ok (.invokestatic idx, 3)) (hq : pc + 3 = q) (k : Wp E X M q L (pI (if y < x then y else x) :: st) mem) : Wp E X M pc L (pI y :: pI x :: st) mem := by
  subst hq
  intro p e s m args below meth c H locs ls hC hP hS hl h1 h2
  have hts := hC.2.2.2.2.2.1
  exact va_mmin hC.1 hC.2.1 (hC.2.2.2.1.trans hl.1.symm) hC.2.2.2.2.1 (hts _ hlk) (hts _ hs) (hts _ hi) (hts _ hco) hR.1 (sum_le E hst hR) hR.2.2.1 hR.2.2.2 hd (k p e s m args below meth c H locs ls hC hP hS hl (ok_c trivial (ok_t (ok_t h1))) h2)
theorem r_mabs {x : Int32} (hlk : Cond.methodLink M.1 idx Lib.Math.abs.name ∈ TB_) (hs : Cond.static Lib.Math.abs.name ∈ TB_) (hi : Cond.initialized "java/lang/Math" ∈ TB_) (hco : Cond.code Lib.Math.abs.name Lib.Math.abs.code 1 (some .int) ∈ TB_) (hst : st.length ≤ 8) (hR : RmOK 0 X) (hd : decode M.2.2.1 pc = .ok (.invokestatic idx, 3)) (hq : pc + 3 = q) (k : Wp E X M q L (pI (if 0 ≤ x then x else 0 - x) :: st) mem) : Wp E X M pc L (pI x :: st) mem := by
  subst hq
  intro p e s m args below meth c H locs ls hC hP hS hl h1 h2
  have hts := hC.2.2.2.2.2.1
  exact va_mabs hC.1 hC.2.1 (hC.2.2.2.1.trans hl.1.symm) hC.2.2.2.2.1 (hts _ hlk) (hts _ hs) (hts _ hi) (hts _ hco) hR.1 (sum_le E hst hR) hR.2.2.1 hR.2.2.2 hd (k p e s m args below meth c H locs ls hC hP hS hl (ok_c trivial (ok_t h1)) h2)

theorem r_callV0i {ty : FieldType} {g j ci : Nat} {fs : List (Option Nat)} {r : vw_C} (hM : MOK M' 0) (hI : Cond.instanceMethod M'.2.1 ∈ TB_ ∧ Cond.selects M'.2.1.cls M'.2.1 M'.2.1 ∈ TB_) (hlk : Cond.methodLink M.1 idx M'.2.1 ∈ TB_) (hg : gobj g = some (ci, fs)) (hc : kcl[ci]? = some r) (hcl : r.1 = M'.2.1.cls) (hret : M'.2.2.2.2 = some ty) (hst : st.length ≤ 8) (hR : RmOK d X) (hd : decode M.2.2.1 pc = .ok (.invokevirtual idx, 3)) (hq : pc + 3 = q) (hk : Call E d M' [pR g j] mem (fun v mem' => Wp E X M q L (pI v :: st) mem')) : Wp E X M pc L (pR g j :: st) mem := g_callV (As := []) hM hI hlk hg hc hcl rfl hst hR hd hq (by rw [hret]; exact hk)
theorem r_callU0i {ty : FieldType} {g j ci : Nat} {fs : List (Option Nat)} {r : vw_C} {x : MethodName} {owner : String} (hM : MOK M' 0) (hI : Cond.instanceMethod M'.2.1 ∈ TB_) (hsel : Cond.selects r.1 x M'.2.1 ∈ TB_) (hsm : Cond.sameMethod x.cls owner x.name x.desc ∈ TB_) (hdc : M'.2.1 = ⟨owner, x.name, x.desc⟩ ∨ Cond.declares ⟨owner, x.name, x.desc⟩ ∈ NWS) (how : owner ≠ "java/lang/invoke/MethodHandle" ∧ owner ≠ "java/lang/invoke/VarHandle" ∧ (parseMethodDescriptor x.desc).map (fun d => d.parameters.length) = some 0) (hlk : Cond.methodLink M.1 idx x ∈ TB_) (hg : gobj g = some (ci, fs)) (hc : kcl[ci]? = some r) (hret : M'.2.2.2.2 = some ty) (hst : st.length ≤ 8) (hR : RmOK d X) (hd : decode M.2.2.1 pc = .ok (.invokevirtual idx, 3)) (hq : pc + 3 = q) (hk : Call E d M' [pR g j] mem (fun v mem' => Wp E X M q L (pI v :: st) mem')) : Wp E X M pc L (pR g j :: st) mem := g_callU (As := []) hM hI hsel hsm hdc how hlk hg hc rfl hst hR hd hq (by rw [hret]; exact hk)
theorem r_callV0v {g j ci : Nat} {fs : List (Option Nat)} {r : vw_C} (hM : MOK M' 0) (hI : Cond.instanceMethod M'.2.1 ∈ TB_ ∧ Cond.selects M'.2.1.cls M'.2.1 M'.2.1 ∈ TB_) (hlk : Cond.methodLink M.1 idx M'.2.1 ∈ TB_) (hg : gobj g = some (ci, fs)) (hc : kcl[ci]? = some r) (hcl : r.1 = M'.2.1.cls) (hret : M'.2.2.2.2 = none) (hst : st.length ≤ 8) (hR : RmOK d X) (hd : decode M.2.2.1 pc = .ok (.invokevirtual idx, 3)) (hq : pc + 3 = q) (hk : Call E d M' [pR g j] mem (fun v mem' => Wp E X M q L (st) mem')) : Wp E X M pc L (pR g j :: st) mem := g_callV (As := []) hM hI hlk hg hc hcl rfl hst hR hd hq (by rw [hret]; exact hk)
theorem r_callU0v {g j ci : Nat} {fs : List (Option Nat)} {r : vw_C} {x : MethodName} {owner : String} (hM : MOK M' 0) (hI : Cond.instanceMethod M'.2.1 ∈ TB_) (hsel : Cond.selects r.1 x M'.2.1 ∈ TB_) (hsm : Cond.sameMethod x.cls owner x.name x.desc ∈ TB_) (hdc : M'.2.1 = ⟨owner, x.name, x.desc⟩ ∨ Cond.declares ⟨owner, x.name, x.desc⟩ ∈ NWS) (how : owner ≠ "java/lang/invoke/MethodHandle" ∧ owner ≠ "java/lang/invoke/VarHandle" ∧ (parseMethodDescriptor x.desc).map (fun d => d.parameters.length) = some 0) (hlk : Cond.methodLink M.1 idx x ∈ TB_) (hg : gobj g = some (ci, fs)) (hc : kcl[ci]? = some r) (hret : M'.2.2.2.2 = none) (hst : st.length ≤ 8) (hR : RmOK d X) (hd : decode M.2.2.1 pc = .ok (.invokevirtual idx, 3)) (hq : pc + 3 = q) (hk : Call E d M' [pR g j] mem (fun v mem' => Wp E X M q L (st) mem')) : Wp E X M pc L (pR g j :: st) mem := g_callU (As := []) hM hI hsel hsm hdc how hlk hg hc rfl hst hR hd hq (by rw [hret]; exact hk)
theorem r_callV1i {a0 : PV} {ty : FieldType} {g j ci : Nat} {fs : List (Option Nat)} {r : vw_C} (hM : MOK M' 1) (hI : Cond.instanceMethod M'.2.1 ∈ TB_ ∧ Cond.selects M'.2.1.cls M'.2.1 M'.2.1 ∈ TB_) (hlk : Cond.methodLink M.1 idx M'.2.1 ∈ TB_) (hg : gobj g = some (ci, fs)) (hc : kcl[ci]? = some r) (hcl : r.1 = M'.2.1.cls) (hret : M'.2.2.2.2 = some ty) (hst : st.length ≤ 8) (hR : RmOK d X) (hd : decode M.2.2.1 pc = .ok (.invokevirtual idx, 3)) (hq : pc + 3 = q) (hk : Call E d M' [pR g j, a0] mem (fun v mem' => Wp E X M q L (pI v :: st) mem')) : Wp E X M pc L (a0 :: pR g j :: st) mem := g_callV (As := [a0]) hM hI hlk hg hc hcl rfl hst hR hd hq (by rw [hret]; exact hk)
theorem r_callU1i {a0 : PV} {ty : FieldType} {g j ci : Nat} {fs : List (Option Nat)} {r : vw_C} {x : MethodName} {owner : String} (hM : MOK M' 1) (hI : Cond.instanceMethod M'.2.1 ∈ TB_) (hsel : Cond.selects r.1 x M'.2.1 ∈ TB_) (hsm : Cond.sameMethod x.cls owner x.name x.desc ∈ TB_) (hdc : M'.2.1 = ⟨owner, x.name, x.desc⟩ ∨ Cond.declares ⟨owner, x.name, x.desc⟩ ∈ NWS) (how : owner ≠ "java/lang/invoke/MethodHandle" ∧ owner ≠ "java/lang/invoke/VarHandle" ∧ (parseMethodDescriptor x.desc).map (fun d => d.parameters.length) = some 1) (hlk : Cond.methodLink M.1 idx x ∈ TB_) (hg : gobj g = some (ci, fs)) (hc : kcl[ci]? = some r) (hret : M'.2.2.2.2 = some ty) (hst : st.length ≤ 8) (hR : RmOK d X) (hd : decode M.2.2.1 pc = .ok (.invokevirtual idx, 3)) (hq : pc + 3 = q) (hk : Call E d M' [pR g j, a0] mem (fun v mem' => Wp E X M q L (pI v :: st) mem')) : Wp E X M pc L (a0 :: pR g j :: st) mem := g_callU (As := [a0]) hM hI hsel hsm hdc how hlk hg hc rfl hst hR hd hq (by rw [hret]; exact hk)
theorem r_callS1i {a0 : PV} {ty : FieldType} (hM : MOK M' 1) (hI : Cond.static M'.2.1 ∈ TB_) (hlk : Cond.methodLink M.1 idx M'.2.1 ∈ TB_) (hret : M'.2.2.2.2 = some ty) (hst : st.length ≤ 8) (hR : RmOK d X) (hd : decode M.2.2.1 pc = .ok (.invokestatic idx, 3)) (hq : pc + 3 = q) (hk : Call E d M' [a0] mem (fun v mem' => Wp E X M q L (pI v :: st) mem')) : Wp E X M pc L (a0 :: st) mem := g_callS (As := [a0]) hM hI hlk rfl hst hR hd hq (by rw [hret]; exact hk)
theorem r_callN1i {a0 : PV} {ty : FieldType} (hM : MOK M' 1) (hI : Cond.static M'.2.1 ∈ TB_) (hlk : Cond.methodLinkNest M.1 idx M'.2.1 RX8 ∈ NWS) (hret : M'.2.2.2.2 = some ty) (hst : st.length ≤ 8) (hR : RmOK d X) (hd : decode M.2.2.1 pc = .ok (.invokestatic idx, 3)) (hq : pc + 3 = q) (hk : Call E d M' [a0] mem (fun v mem' => Wp E X M q L (pI v :: st) mem')) : Wp E X M pc L (a0 :: st) mem := g_callN (As := [a0]) hM hI hlk rfl hst hR hd hq (by rw [hret]; exact hk)
theorem r_callV1v {a0 : PV} {g j ci : Nat} {fs : List (Option Nat)} {r : vw_C} (hM : MOK M' 1) (hI : Cond.instanceMethod M'.2.1 ∈ TB_ ∧ Cond.selects M'.2.1.cls M'.2.1 M'.2.1 ∈ TB_) (hlk : Cond.methodLink M.1 idx M'.2.1 ∈ TB_) (hg : gobj g = some (ci, fs)) (hc : kcl[ci]? = some r) (hcl : r.1 = M'.2.1.cls) (hret : M'.2.2.2.2 = none) (hst : st.length ≤ 8) (hR : RmOK d X) (hd : decode M.2.2.1 pc = .ok (.invokevirtual idx, 3)) (hq : pc + 3 = q) (hk : Call E d M' [pR g j, a0] mem (fun v mem' => Wp E X M q L (st) mem')) : Wp E X M pc L (a0 :: pR g j :: st) mem := g_callV (As := [a0]) hM hI hlk hg hc hcl rfl hst hR hd hq (by rw [hret]; exact hk)
theorem r_callU1v {a0 : PV} {g j ci : Nat} {fs : List (Option Nat)} {r : vw_C} {x : MethodName} {owner : String} (hM : MOK M' 1) (hI : Cond.instanceMethod M'.2.1 ∈ TB_) (hsel : Cond.selects r.1 x M'.2.1 ∈ TB_) (hsm : Cond.sameMethod x.cls owner x.name x.desc ∈ TB_) (hdc : M'.2.1 = ⟨owner, x.name, x.desc⟩ ∨ Cond.declares ⟨owner, x.name, x.desc⟩ ∈ NWS) (how : owner ≠ "java/lang/invoke/MethodHandle" ∧ owner ≠ "java/lang/invoke/VarHandle" ∧ (parseMethodDescriptor x.desc).map (fun d => d.parameters.length) = some 1) (hlk : Cond.methodLink M.1 idx x ∈ TB_) (hg : gobj g = some (ci, fs)) (hc : kcl[ci]? = some r) (hret : M'.2.2.2.2 = none) (hst : st.length ≤ 8) (hR : RmOK d X) (hd : decode M.2.2.1 pc = .ok (.invokevirtual idx, 3)) (hq : pc + 3 = q) (hk : Call E d M' [pR g j, a0] mem (fun v mem' => Wp E X M q L (st) mem')) : Wp E X M pc L (a0 :: pR g j :: st) mem := g_callU (As := [a0]) hM hI hsel hsm hdc how hlk hg hc rfl hst hR hd hq (by rw [hret]; exact hk)
theorem r_callS1v {a0 : PV} (hM : MOK M' 1) (hI : Cond.static M'.2.1 ∈ TB_) (hlk : Cond.methodLink M.1 idx M'.2.1 ∈ TB_) (hret : M'.2.2.2.2 = none) (hst : st.length ≤ 8) (hR : RmOK d X) (hd : decode M.2.2.1 pc = .ok (.invokestatic idx, 3)) (hq : pc + 3 = q) (hk : Call E d M' [a0] mem (fun v mem' => Wp E X M q L (st) mem')) : Wp E X M pc L (a0 :: st) mem := g_callS (As := [a0]) hM hI hlk rfl hst hR hd hq (by rw [hret]; exact hk)
theorem r_callN1v {a0 : PV} (hM : MOK M' 1) (hI : Cond.static M'.2.1 ∈ TB_) (hlk : Cond.methodLinkNest M.1 idx M'.2.1 RX8 ∈ NWS) (hret : M'.2.2.2.2 = none) (hst : st.length ≤ 8) (hR : RmOK d X) (hd : decode M.2.2.1 pc = .ok (.invokestatic idx, 3)) (hq : pc + 3 = q) (hk : Call E d M' [a0] mem (fun v mem' => Wp E X M q L (st) mem')) : Wp E X M pc L (a0 :: st) mem := g_callN (As := [a0]) hM hI hlk rfl hst hR hd hq (by rw [hret]; exact hk)
theorem r_callV2i {a0 a1 : PV} {ty : FieldType} {g j ci : Nat} {fs : List (Option Nat)} {r : vw_C} (hM : MOK M' 2) (hI : Cond.instanceMethod M'.2.1 ∈ TB_ ∧ Cond.selects M'.2.1.cls M'.2.1 M'.2.1 ∈ TB_) (hlk : Cond.methodLink M.1 idx M'.2.1 ∈ TB_) (hg : gobj g = some (ci, fs)) (hc : kcl[ci]? = some r) (hcl : r.1 = M'.2.1.cls) (hret : M'.2.2.2.2 = some ty) (hst : st.length ≤ 8) (hR : RmOK d X) (hd : decode M.2.2.1 pc = .ok (.invokevirtual idx, 3)) (hq : pc + 3 = q) (hk : Call E d M' [pR g j, a0, a1] mem (fun v mem' => Wp E X M q L (pI v :: st) mem')) : Wp E X M pc L (a1 :: a0 :: pR g j :: st) mem := g_callV (As := [a0, a1]) hM hI hlk hg hc hcl rfl hst hR hd hq (by rw [hret]; exact hk)
theorem r_callS2i {a0 a1 : PV} {ty : FieldType} (hM : MOK M' 2) (hI : Cond.static M'.2.1 ∈ TB_) (hlk : Cond.methodLink M.1 idx M'.2.1 ∈ TB_) (hret : M'.2.2.2.2 = some ty) (hst : st.length ≤ 8) (hR : RmOK d X) (hd : decode M.2.2.1 pc = .ok (.invokestatic idx, 3)) (hq : pc + 3 = q) (hk : Call E d M' [a0, a1] mem (fun v mem' => Wp E X M q L (pI v :: st) mem')) : Wp E X M pc L (a1 :: a0 :: st) mem := g_callS (As := [a0, a1]) hM hI hlk rfl hst hR hd hq (by rw [hret]; exact hk)
theorem r_callN2i {a0 a1 : PV} {ty : FieldType} (hM : MOK M' 2) (hI : Cond.static M'.2.1 ∈ TB_) (hlk : Cond.methodLinkNest M.1 idx M'.2.1 RX8 ∈ NWS) (hret : M'.2.2.2.2 = some ty) (hst : st.length ≤ 8) (hR : RmOK d X) (hd : decode M.2.2.1 pc = .ok (.invokestatic idx, 3)) (hq : pc + 3 = q) (hk : Call E d M' [a0, a1] mem (fun v mem' => Wp E X M q L (pI v :: st) mem')) : Wp E X M pc L (a1 :: a0 :: st) mem := g_callN (As := [a0, a1]) hM hI hlk rfl hst hR hd hq (by rw [hret]; exact hk)
theorem r_callV2v {a0 a1 : PV} {g j ci : Nat} {fs : List (Option Nat)} {r : vw_C} (hM : MOK M' 2) (hI : Cond.instanceMethod M'.2.1 ∈ TB_ ∧ Cond.selects M'.2.1.cls M'.2.1 M'.2.1 ∈ TB_) (hlk : Cond.methodLink M.1 idx M'.2.1 ∈ TB_) (hg : gobj g = some (ci, fs)) (hc : kcl[ci]? = some r) (hcl : r.1 = M'.2.1.cls) (hret : M'.2.2.2.2 = none) (hst : st.length ≤ 8) (hR : RmOK d X) (hd : decode M.2.2.1 pc = .ok (.invokevirtual idx, 3)) (hq : pc + 3 = q) (hk : Call E d M' [pR g j, a0, a1] mem (fun v mem' => Wp E X M q L (st) mem')) : Wp E X M pc L (a1 :: a0 :: pR g j :: st) mem := g_callV (As := [a0, a1]) hM hI hlk hg hc hcl rfl hst hR hd hq (by rw [hret]; exact hk)
theorem r_callS2v {a0 a1 : PV} (hM : MOK M' 2) (hI : Cond.static M'.2.1 ∈ TB_) (hlk : Cond.methodLink M.1 idx M'.2.1 ∈ TB_) (hret : M'.2.2.2.2 = none) (hst : st.length ≤ 8) (hR : RmOK d X) (hd : decode M.2.2.1 pc = .ok (.invokestatic idx, 3)) (hq : pc + 3 = q) (hk : Call E d M' [a0, a1] mem (fun v mem' => Wp E X M q L (st) mem')) : Wp E X M pc L (a1 :: a0 :: st) mem := g_callS (As := [a0, a1]) hM hI hlk rfl hst hR hd hq (by rw [hret]; exact hk)
theorem r_callN2v {a0 a1 : PV} (hM : MOK M' 2) (hI : Cond.static M'.2.1 ∈ TB_) (hlk : Cond.methodLinkNest M.1 idx M'.2.1 RX8 ∈ NWS) (hret : M'.2.2.2.2 = none) (hst : st.length ≤ 8) (hR : RmOK d X) (hd : decode M.2.2.1 pc = .ok (.invokestatic idx, 3)) (hq : pc + 3 = q) (hk : Call E d M' [a0, a1] mem (fun v mem' => Wp E X M q L (st) mem')) : Wp E X M pc L (a1 :: a0 :: st) mem := g_callN (As := [a0, a1]) hM hI hlk rfl hst hR hd hq (by rw [hret]; exact hk)
theorem r_callV3i {a0 a1 a2 : PV} {ty : FieldType} {g j ci : Nat} {fs : List (Option Nat)} {r : vw_C} (hM : MOK M' 3) (hI : Cond.instanceMethod M'.2.1 ∈ TB_ ∧ Cond.selects M'.2.1.cls M'.2.1 M'.2.1 ∈ TB_) (hlk : Cond.methodLink M.1 idx M'.2.1 ∈ TB_) (hg : gobj g = some (ci, fs)) (hc : kcl[ci]? = some r) (hcl : r.1 = M'.2.1.cls) (hret : M'.2.2.2.2 = some ty) (hst : st.length ≤ 8) (hR : RmOK d X) (hd : decode M.2.2.1 pc = .ok (.invokevirtual idx, 3)) (hq : pc + 3 = q) (hk : Call E d M' [pR g j, a0, a1, a2] mem (fun v mem' => Wp E X M q L (pI v :: st) mem')) : Wp E X M pc L (a2 :: a1 :: a0 :: pR g j :: st) mem := g_callV (As := [a0, a1, a2]) hM hI hlk hg hc hcl rfl hst hR hd hq (by rw [hret]; exact hk)
theorem r_callS3i {a0 a1 a2 : PV} {ty : FieldType} (hM : MOK M' 3) (hI : Cond.static M'.2.1 ∈ TB_) (hlk : Cond.methodLink M.1 idx M'.2.1 ∈ TB_) (hret : M'.2.2.2.2 = some ty) (hst : st.length ≤ 8) (hR : RmOK d X) (hd : decode M.2.2.1 pc = .ok (.invokestatic idx, 3)) (hq : pc + 3 = q) (hk : Call E d M' [a0, a1, a2] mem (fun v mem' => Wp E X M q L (pI v :: st) mem')) : Wp E X M pc L (a2 :: a1 :: a0 :: st) mem := g_callS (As := [a0, a1, a2]) hM hI hlk rfl hst hR hd hq (by rw [hret]; exact hk)
theorem r_callN3i {a0 a1 a2 : PV} {ty : FieldType} (hM : MOK M' 3) (hI : Cond.static M'.2.1 ∈ TB_) (hlk : Cond.methodLinkNest M.1 idx M'.2.1 RX8 ∈ NWS) (hret : M'.2.2.2.2 = some ty) (hst : st.length ≤ 8) (hR : RmOK d X) (hd : decode M.2.2.1 pc = .ok (.invokestatic idx, 3)) (hq : pc + 3 = q) (hk : Call E d M' [a0, a1, a2] mem (fun v mem' => Wp E X M q L (pI v :: st) mem')) : Wp E X M pc L (a2 :: a1 :: a0 :: st) mem := g_callN (As := [a0, a1, a2]) hM hI hlk rfl hst hR hd hq (by rw [hret]; exact hk)
theorem r_callV3v {a0 a1 a2 : PV} {g j ci : Nat} {fs : List (Option Nat)} {r : vw_C} (hM : MOK M' 3) (hI : Cond.instanceMethod M'.2.1 ∈ TB_ ∧ Cond.selects M'.2.1.cls M'.2.1 M'.2.1 ∈ TB_) (hlk : Cond.methodLink M.1 idx M'.2.1 ∈ TB_) (hg : gobj g = some (ci, fs)) (hc : kcl[ci]? = some r) (hcl : r.1 = M'.2.1.cls) (hret : M'.2.2.2.2 = none) (hst : st.length ≤ 8) (hR : RmOK d X) (hd : decode M.2.2.1 pc = .ok (.invokevirtual idx, 3)) (hq : pc + 3 = q) (hk : Call E d M' [pR g j, a0, a1, a2] mem (fun v mem' => Wp E X M q L (st) mem')) : Wp E X M pc L (a2 :: a1 :: a0 :: pR g j :: st) mem := g_callV (As := [a0, a1, a2]) hM hI hlk hg hc hcl rfl hst hR hd hq (by rw [hret]; exact hk)
theorem r_callS3v {a0 a1 a2 : PV} (hM : MOK M' 3) (hI : Cond.static M'.2.1 ∈ TB_) (hlk : Cond.methodLink M.1 idx M'.2.1 ∈ TB_) (hret : M'.2.2.2.2 = none) (hst : st.length ≤ 8) (hR : RmOK d X) (hd : decode M.2.2.1 pc = .ok (.invokestatic idx, 3)) (hq : pc + 3 = q) (hk : Call E d M' [a0, a1, a2] mem (fun v mem' => Wp E X M q L (st) mem')) : Wp E X M pc L (a2 :: a1 :: a0 :: st) mem := g_callS (As := [a0, a1, a2]) hM hI hlk rfl hst hR hd hq (by rw [hret]; exact hk)
theorem r_callN3v {a0 a1 a2 : PV} (hM : MOK M' 3) (hI : Cond.static M'.2.1 ∈ TB_) (hlk : Cond.methodLinkNest M.1 idx M'.2.1 RX8 ∈ NWS) (hret : M'.2.2.2.2 = none) (hst : st.length ≤ 8) (hR : RmOK d X) (hd : decode M.2.2.1 pc = .ok (.invokestatic idx, 3)) (hq : pc + 3 = q) (hk : Call E d M' [a0, a1, a2] mem (fun v mem' => Wp E X M q L (st) mem')) : Wp E X M pc L (a2 :: a1 :: a0 :: st) mem := g_callN (As := [a0, a1, a2]) hM hI hlk rfl hst hR hd hq (by rw [hret]; exact hk)
theorem r_callV4i {a0 a1 a2 a3 : PV} {ty : FieldType} {g j ci : Nat} {fs : List (Option Nat)} {r : vw_C} (hM : MOK M' 4) (hI : Cond.instanceMethod M'.2.1 ∈ TB_ ∧ Cond.selects M'.2.1.cls M'.2.1 M'.2.1 ∈ TB_) (hlk : Cond.methodLink M.1 idx M'.2.1 ∈ TB_) (hg : gobj g = some (ci, fs)) (hc : kcl[ci]? = some r) (hcl : r.1 = M'.2.1.cls) (hret : M'.2.2.2.2 = some ty) (hst : st.length ≤ 8) (hR : RmOK d X) (hd : decode M.2.2.1 pc = .ok (.invokevirtual idx, 3)) (hq : pc + 3 = q) (hk : Call E d M' [pR g j, a0, a1, a2, a3] mem (fun v mem' => Wp E X M q L (pI v :: st) mem')) : Wp E X M pc L (a3 :: a2 :: a1 :: a0 :: pR g j :: st) mem := g_callV (As := [a0, a1, a2, a3]) hM hI hlk hg hc hcl rfl hst hR hd hq (by rw [hret]; exact hk)
theorem r_callS4i {a0 a1 a2 a3 : PV} {ty : FieldType} (hM : MOK M' 4) (hI : Cond.static M'.2.1 ∈ TB_) (hlk : Cond.methodLink M.1 idx M'.2.1 ∈ TB_) (hret : M'.2.2.2.2 = some ty) (hst : st.length ≤ 8) (hR : RmOK d X) (hd : decode M.2.2.1 pc = .ok (.invokestatic idx, 3)) (hq : pc + 3 = q) (hk : Call E d M' [a0, a1, a2, a3] mem (fun v mem' => Wp E X M q L (pI v :: st) mem')) : Wp E X M pc L (a3 :: a2 :: a1 :: a0 :: st) mem := g_callS (As := [a0, a1, a2, a3]) hM hI hlk rfl hst hR hd hq (by rw [hret]; exact hk)
theorem r_callN4i {a0 a1 a2 a3 : PV} {ty : FieldType} (hM : MOK M' 4) (hI : Cond.static M'.2.1 ∈ TB_) (hlk : Cond.methodLinkNest M.1 idx M'.2.1 RX8 ∈ NWS) (hret : M'.2.2.2.2 = some ty) (hst : st.length ≤ 8) (hR : RmOK d X) (hd : decode M.2.2.1 pc = .ok (.invokestatic idx, 3)) (hq : pc + 3 = q) (hk : Call E d M' [a0, a1, a2, a3] mem (fun v mem' => Wp E X M q L (pI v :: st) mem')) : Wp E X M pc L (a3 :: a2 :: a1 :: a0 :: st) mem := g_callN (As := [a0, a1, a2, a3]) hM hI hlk rfl hst hR hd hq (by rw [hret]; exact hk)
theorem r_callV4v {a0 a1 a2 a3 : PV} {g j ci : Nat} {fs : List (Option Nat)} {r : vw_C} (hM : MOK M' 4) (hI : Cond.instanceMethod M'.2.1 ∈ TB_ ∧ Cond.selects M'.2.1.cls M'.2.1 M'.2.1 ∈ TB_) (hlk : Cond.methodLink M.1 idx M'.2.1 ∈ TB_) (hg : gobj g = some (ci, fs)) (hc : kcl[ci]? = some r) (hcl : r.1 = M'.2.1.cls) (hret : M'.2.2.2.2 = none) (hst : st.length ≤ 8) (hR : RmOK d X) (hd : decode M.2.2.1 pc = .ok (.invokevirtual idx, 3)) (hq : pc + 3 = q) (hk : Call E d M' [pR g j, a0, a1, a2, a3] mem (fun v mem' => Wp E X M q L (st) mem')) : Wp E X M pc L (a3 :: a2 :: a1 :: a0 :: pR g j :: st) mem := g_callV (As := [a0, a1, a2, a3]) hM hI hlk hg hc hcl rfl hst hR hd hq (by rw [hret]; exact hk)
theorem r_callS4v {a0 a1 a2 a3 : PV} (hM : MOK M' 4) (hI : Cond.static M'.2.1 ∈ TB_) (hlk : Cond.methodLink M.1 idx M'.2.1 ∈ TB_) (hret : M'.2.2.2.2 = none) (hst : st.length ≤ 8) (hR : RmOK d X) (hd : decode M.2.2.1 pc = .ok (.invokestatic idx, 3)) (hq : pc + 3 = q) (hk : Call E d M' [a0, a1, a2, a3] mem (fun v mem' => Wp E X M q L (st) mem')) : Wp E X M pc L (a3 :: a2 :: a1 :: a0 :: st) mem := g_callS (As := [a0, a1, a2, a3]) hM hI hlk rfl hst hR hd hq (by rw [hret]; exact hk)
theorem r_callN4v {a0 a1 a2 a3 : PV} (hM : MOK M' 4) (hI : Cond.static M'.2.1 ∈ TB_) (hlk : Cond.methodLinkNest M.1 idx M'.2.1 RX8 ∈ NWS) (hret : M'.2.2.2.2 = none) (hst : st.length ≤ 8) (hR : RmOK d X) (hd : decode M.2.2.1 pc = .ok (.invokestatic idx, 3)) (hq : pc + 3 = q) (hk : Call E d M' [a0, a1, a2, a3] mem (fun v mem' => Wp E X M q L (st) mem')) : Wp E X M pc L (a3 :: a2 :: a1 :: a0 :: st) mem := g_callN (As := [a0, a1, a2, a3]) hM hI hlk rfl hst hR hd hq (by rw [hret]; exact hk)
theorem r_callV5i {a0 a1 a2 a3 a4 : PV} {ty : FieldType} {g j ci : Nat} {fs : List (Option Nat)} {r : vw_C} (hM : MOK M' 5) (hI : Cond.instanceMethod M'.2.1 ∈ TB_ ∧ Cond.selects M'.2.1.cls M'.2.1 M'.2.1 ∈ TB_) (hlk : Cond.methodLink M.1 idx M'.2.1 ∈ TB_) (hg : gobj g = some (ci, fs)) (hc : kcl[ci]? = some r) (hcl : r.1 = M'.2.1.cls) (hret : M'.2.2.2.2 = some ty) (hst : st.length ≤ 8) (hR : RmOK d X) (hd : decode M.2.2.1 pc = .ok (.invokevirtual idx, 3)) (hq : pc + 3 = q) (hk : Call E d M' [pR g j, a0, a1, a2, a3, a4] mem (fun v mem' => Wp E X M q L (pI v :: st) mem')) : Wp E X M pc L (a4 :: a3 :: a2 :: a1 :: a0 :: pR g j :: st) mem := g_callV (As := [a0, a1, a2, a3, a4]) hM hI hlk hg hc hcl rfl hst hR hd hq (by rw [hret]; exact hk)
theorem r_callS5i {a0 a1 a2 a3 a4 : PV} {ty : FieldType} (hM : MOK M' 5) (hI : Cond.static M'.2.1 ∈ TB_) (hlk : Cond.methodLink M.1 idx M'.2.1 ∈ TB_) (hret : M'.2.2.2.2 = some ty) (hst : st.length ≤ 8) (hR : RmOK d X) (hd : decode M.2.2.1 pc = .ok (.invokestatic idx, 3)) (hq : pc + 3 = q) (hk : Call E d M' [a0, a1, a2, a3, a4] mem (fun v mem' => Wp E X M q L (pI v :: st) mem')) : Wp E X M pc L (a4 :: a3 :: a2 :: a1 :: a0 :: st) mem := g_callS (As := [a0, a1, a2, a3, a4]) hM hI hlk rfl hst hR hd hq (by rw [hret]; exact hk)
theorem r_callN5i {a0 a1 a2 a3 a4 : PV} {ty : FieldType} (hM : MOK M' 5) (hI : Cond.static M'.2.1 ∈ TB_) (hlk : Cond.methodLinkNest M.1 idx M'.2.1 RX8 ∈ NWS) (hret : M'.2.2.2.2 = some ty) (hst : st.length ≤ 8) (hR : RmOK d X) (hd : decode M.2.2.1 pc = .ok (.invokestatic idx, 3)) (hq : pc + 3 = q) (hk : Call E d M' [a0, a1, a2, a3, a4] mem (fun v mem' => Wp E X M q L (pI v :: st) mem')) : Wp E X M pc L (a4 :: a3 :: a2 :: a1 :: a0 :: st) mem := g_callN (As := [a0, a1, a2, a3, a4]) hM hI hlk rfl hst hR hd hq (by rw [hret]; exact hk)
theorem r_callV5v {a0 a1 a2 a3 a4 : PV} {g j ci : Nat} {fs : List (Option Nat)} {r : vw_C} (hM : MOK M' 5) (hI : Cond.instanceMethod M'.2.1 ∈ TB_ ∧ Cond.selects M'.2.1.cls M'.2.1 M'.2.1 ∈ TB_) (hlk : Cond.methodLink M.1 idx M'.2.1 ∈ TB_) (hg : gobj g = some (ci, fs)) (hc : kcl[ci]? = some r) (hcl : r.1 = M'.2.1.cls) (hret : M'.2.2.2.2 = none) (hst : st.length ≤ 8) (hR : RmOK d X) (hd : decode M.2.2.1 pc = .ok (.invokevirtual idx, 3)) (hq : pc + 3 = q) (hk : Call E d M' [pR g j, a0, a1, a2, a3, a4] mem (fun v mem' => Wp E X M q L (st) mem')) : Wp E X M pc L (a4 :: a3 :: a2 :: a1 :: a0 :: pR g j :: st) mem := g_callV (As := [a0, a1, a2, a3, a4]) hM hI hlk hg hc hcl rfl hst hR hd hq (by rw [hret]; exact hk)
theorem r_callS5v {a0 a1 a2 a3 a4 : PV} (hM : MOK M' 5) (hI : Cond.static M'.2.1 ∈ TB_) (hlk : Cond.methodLink M.1 idx M'.2.1 ∈ TB_) (hret : M'.2.2.2.2 = none) (hst : st.length ≤ 8) (hR : RmOK d X) (hd : decode M.2.2.1 pc = .ok (.invokestatic idx, 3)) (hq : pc + 3 = q) (hk : Call E d M' [a0, a1, a2, a3, a4] mem (fun v mem' => Wp E X M q L (st) mem')) : Wp E X M pc L (a4 :: a3 :: a2 :: a1 :: a0 :: st) mem := g_callS (As := [a0, a1, a2, a3, a4]) hM hI hlk rfl hst hR hd hq (by rw [hret]; exact hk)
theorem r_callN5v {a0 a1 a2 a3 a4 : PV} (hM : MOK M' 5) (hI : Cond.static M'.2.1 ∈ TB_) (hlk : Cond.methodLinkNest M.1 idx M'.2.1 RX8 ∈ NWS) (hret : M'.2.2.2.2 = none) (hst : st.length ≤ 8) (hR : RmOK d X) (hd : decode M.2.2.1 pc = .ok (.invokestatic idx, 3)) (hq : pc + 3 = q) (hk : Call E d M' [a0, a1, a2, a3, a4] mem (fun v mem' => Wp E X M q L (st) mem')) : Wp E X M pc L (a4 :: a3 :: a2 :: a1 :: a0 :: st) mem := g_callN (As := [a0, a1, a2, a3, a4]) hM hI hlk rfl hst hR hd hq (by rw [hret]; exact hk)
end RC
end
