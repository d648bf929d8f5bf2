-- ===== PART A: goes FIRST, ahead of the names: the tables' words, and 'selects' of the private methods out of them =====
/-- a private method of a class that the tables say can be made, by its rows of tables_1 -/
def lw_okq (q : MethodName × Nat) : Prop := (q.1.cls ≠ "java/lang/invoke/MethodHandle" ∧ q.1.cls ≠ "java/lang/invoke/VarHandle") ∧ Cond.instantiable q.1.cls q.2 ∈ tables_1 ∧ Cond.privateMethod q.1 ∈ tables_1 ∧ Cond.instanceMethod q.1 ∈ tables_1
theorem lw_p0 : lw_okq (⟨"PaperSetter$Bank", "weightOf", "(II)I"⟩, 5) := ⟨⟨by decide +kernel, by decide +kernel⟩, List.mem_of_getElem? (i := 23) (by decide +kernel), List.mem_of_getElem? (i := 361) (by decide +kernel), List.mem_of_getElem? (i := 362) (by decide +kernel)⟩
theorem lw_p1 : lw_okq (⟨"PaperSetter$Bank", "fitsInto", "(II)Z"⟩, 5) := ⟨⟨by decide +kernel, by decide +kernel⟩, List.mem_of_getElem? (i := 23) (by decide +kernel), List.mem_of_getElem? (i := 375) (by decide +kernel), List.mem_of_getElem? (i := 376) (by decide +kernel)⟩
theorem lw_p2 : lw_okq (⟨"PaperSetter$Units", "sumUpFromEachOn", "()V"⟩, 5) := ⟨⟨by decide +kernel, by decide +kernel⟩, List.mem_of_getElem? (i := 78) (by decide +kernel), List.mem_of_getElem? (i := 413) (by decide +kernel), List.mem_of_getElem? (i := 414) (by decide +kernel)⟩
theorem lw_p3 : lw_okq (⟨"PaperSetter$WhySearch", "keepable", "(I)I"⟩, 6) := ⟨⟨by decide +kernel, by decide +kernel⟩, List.mem_of_getElem? (i := 169) (by decide +kernel), List.mem_of_getElem? (i := 446) (by decide +kernel), List.mem_of_getElem? (i := 447) (by decide +kernel)⟩
theorem lw_p4 : lw_okq (⟨"PaperSetter$VersionSearch", "pairWithOthers", "(III)V"⟩, 13) := ⟨⟨by decide +kernel, by decide +kernel⟩, List.mem_of_getElem? (i := 185) (by decide +kernel), List.mem_of_getElem? (i := 506) (by decide +kernel), List.mem_of_getElem? (i := 507) (by decide +kernel)⟩
theorem lw_p5 : lw_okq (⟨"PaperSetter$VersionSearch", "areAlike", "(III)Z"⟩, 13) := ⟨⟨by decide +kernel, by decide +kernel⟩, List.mem_of_getElem? (i := 185) (by decide +kernel), List.mem_of_getElem? (i := 511) (by decide +kernel), List.mem_of_getElem? (i := 512) (by decide +kernel)⟩
theorem lw_p6 : lw_okq (⟨"PaperSetter$VersionSearch", "isBetter", "(II)Z"⟩, 13) := ⟨⟨by decide +kernel, by decide +kernel⟩, List.mem_of_getElem? (i := 185) (by decide +kernel), List.mem_of_getElem? (i := 518) (by decide +kernel), List.mem_of_getElem? (i := 519) (by decide +kernel)⟩
theorem lw_p7 : lw_okq (⟨"PaperSetter$VersionSearch", "countOfBoth", "(II)I"⟩, 13) := ⟨⟨by decide +kernel, by decide +kernel⟩, List.mem_of_getElem? (i := 185) (by decide +kernel), List.mem_of_getElem? (i := 522) (by decide +kernel), List.mem_of_getElem? (i := 523) (by decide +kernel)⟩
theorem lw_p8 : lw_okq (⟨"PaperSetter$Ordering", "reckonJoinCosts", "(LPaperSetter$Bank;)V"⟩, 10) := ⟨⟨by decide +kernel, by decide +kernel⟩, List.mem_of_getElem? (i := 224) (by decide +kernel), List.mem_of_getElem? (i := 549) (by decide +kernel), List.mem_of_getElem? (i := 550) (by decide +kernel)⟩
theorem lw_p9 : lw_okq (⟨"PaperSetter$Ordering", "reckonRestCosts", "()V"⟩, 10) := ⟨⟨by decide +kernel, by decide +kernel⟩, List.mem_of_getElem? (i := 224) (by decide +kernel), List.mem_of_getElem? (i := 560) (by decide +kernel), List.mem_of_getElem? (i := 561) (by decide +kernel)⟩
theorem lw_p10 : lw_okq (⟨"PaperSetter$Ordering", "cheapestBehind", "(II)I"⟩, 10) := ⟨⟨by decide +kernel, by decide +kernel⟩, List.mem_of_getElem? (i := 224) (by decide +kernel), List.mem_of_getElem? (i := 564) (by decide +kernel), List.mem_of_getElem? (i := 565) (by decide +kernel)⟩
theorem lw_p11 : lw_okq (⟨"PaperSetter$Ordering", "costBehind", "(III)I"⟩, 10) := ⟨⟨by decide +kernel, by decide +kernel⟩, List.mem_of_getElem? (i := 224) (by decide +kernel), List.mem_of_getElem? (i := 569) (by decide +kernel), List.mem_of_getElem? (i := 570) (by decide +kernel)⟩
theorem lw_p12 : lw_okq (⟨"PaperSetter$Ordering", "placeUnits", "()V"⟩, 10) := ⟨⟨by decide +kernel, by decide +kernel⟩, List.mem_of_getElem? (i := 224) (by decide +kernel), List.mem_of_getElem? (i := 573) (by decide +kernel), List.mem_of_getElem? (i := 574) (by decide +kernel)⟩
theorem lw_p13 : lw_okq (⟨"PaperSetter$Ordering", "placeQuestions", "(I)V"⟩, 10) := ⟨⟨by decide +kernel, by decide +kernel⟩, List.mem_of_getElem? (i := 224) (by decide +kernel), List.mem_of_getElem? (i := 577) (by decide +kernel), List.mem_of_getElem? (i := 578) (by decide +kernel)⟩
theorem lw_p14 : lw_okq (⟨"PaperSetter$Ordering", "countSteps", "(LPaperSetter$Bank;)V"⟩, 10) := ⟨⟨by decide +kernel, by decide +kernel⟩, List.mem_of_getElem? (i := 224) (by decide +kernel), List.mem_of_getElem? (i := 581) (by decide +kernel), List.mem_of_getElem? (i := 582) (by decide +kernel)⟩
theorem lw_p15 : lw_okq (⟨"PaperSetterModel", "isQuestion", "(I)Z"⟩, 30) := ⟨⟨by decide +kernel, by decide +kernel⟩, List.mem_of_getElem? (i := 597) (by decide +kernel), List.mem_of_getElem? (i := 707) (by decide +kernel), List.mem_of_getElem? (i := 708) (by decide +kernel)⟩
def lw_privs_1 : List (MethodName × Nat) := [(⟨"PaperSetter$Bank", "weightOf", "(II)I"⟩, 5), (⟨"PaperSetter$Bank", "fitsInto", "(II)Z"⟩, 5), (⟨"PaperSetter$Units", "sumUpFromEachOn", "()V"⟩, 5), (⟨"PaperSetter$WhySearch", "keepable", "(I)I"⟩, 6), (⟨"PaperSetter$VersionSearch", "pairWithOthers", "(III)V"⟩, 13), (⟨"PaperSetter$VersionSearch", "areAlike", "(III)Z"⟩, 13), (⟨"PaperSetter$VersionSearch", "isBetter", "(II)Z"⟩, 13), (⟨"PaperSetter$VersionSearch", "countOfBoth", "(II)I"⟩, 13), (⟨"PaperSetter$Ordering", "reckonJoinCosts", "(LPaperSetter$Bank;)V"⟩, 10), (⟨"PaperSetter$Ordering", "reckonRestCosts", "()V"⟩, 10), (⟨"PaperSetter$Ordering", "cheapestBehind", "(II)I"⟩, 10), (⟨"PaperSetter$Ordering", "costBehind", "(III)I"⟩, 10), (⟨"PaperSetter$Ordering", "placeUnits", "()V"⟩, 10), (⟨"PaperSetter$Ordering", "placeQuestions", "(I)V"⟩, 10), (⟨"PaperSetter$Ordering", "countSteps", "(LPaperSetter$Bank;)V"⟩, 10), (⟨"PaperSetterModel", "isQuestion", "(I)Z"⟩, 30)]
theorem lw_r1 : ∀ q ∈ lw_privs_1, lw_okq q := List.forall_mem_cons.mpr ⟨lw_p0, List.forall_mem_cons.mpr ⟨lw_p1, List.forall_mem_cons.mpr ⟨lw_p2, List.forall_mem_cons.mpr ⟨lw_p3, List.forall_mem_cons.mpr ⟨lw_p4, List.forall_mem_cons.mpr ⟨lw_p5, List.forall_mem_cons.mpr ⟨lw_p6, List.forall_mem_cons.mpr ⟨lw_p7, List.forall_mem_cons.mpr ⟨lw_p8, List.forall_mem_cons.mpr ⟨lw_p9, List.forall_mem_cons.mpr ⟨lw_p10, List.forall_mem_cons.mpr ⟨lw_p11, List.forall_mem_cons.mpr ⟨lw_p12, List.forall_mem_cons.mpr ⟨lw_p13, List.forall_mem_cons.mpr ⟨lw_p14, List.forall_mem_cons.mpr ⟨lw_p15, fun _ h => absurd h List.not_mem_nil⟩⟩⟩⟩⟩⟩⟩⟩⟩⟩⟩⟩⟩⟩⟩⟩
theorem lw_p16 : lw_okq (⟨"PaperSetterModel", "isSet", "(I)Z"⟩, 30) := ⟨⟨by decide +kernel, by decide +kernel⟩, List.mem_of_getElem? (i := 597) (by decide +kernel), List.mem_of_getElem? (i := 738) (by decide +kernel), List.mem_of_getElem? (i := 739) (by decide +kernel)⟩
theorem lw_p17 : lw_okq (⟨"PaperSetterModel", "isResting", "(I)Z"⟩, 30) := ⟨⟨by decide +kernel, by decide +kernel⟩, List.mem_of_getElem? (i := 597) (by decide +kernel), List.mem_of_getElem? (i := 746) (by decide +kernel), List.mem_of_getElem? (i := 747) (by decide +kernel)⟩
theorem lw_p18 : lw_okq (⟨"PaperSetterModel", "sumOf", "(II)I"⟩, 30) := ⟨⟨by decide +kernel, by decide +kernel⟩, List.mem_of_getElem? (i := 597) (by decide +kernel), List.mem_of_getElem? (i := 754) (by decide +kernel), List.mem_of_getElem? (i := 755) (by decide +kernel)⟩
theorem lw_p19 : lw_okq (⟨"PaperSetterModel", "adds", "(II)I"⟩, 30) := ⟨⟨by decide +kernel, by decide +kernel⟩, List.mem_of_getElem? (i := 597) (by decide +kernel), List.mem_of_getElem? (i := 758) (by decide +kernel), List.mem_of_getElem? (i := 759) (by decide +kernel)⟩
theorem lw_p20 : lw_okq (⟨"PaperSetterModel", "isFit", "(I)Z"⟩, 30) := ⟨⟨by decide +kernel, by decide +kernel⟩, List.mem_of_getElem? (i := 597) (by decide +kernel), List.mem_of_getElem? (i := 762) (by decide +kernel), List.mem_of_getElem? (i := 763) (by decide +kernel)⟩
theorem lw_p21 : lw_okq (⟨"PaperSetterModel", "brokenBy", "(I)I"⟩, 30) := ⟨⟨by decide +kernel, by decide +kernel⟩, List.mem_of_getElem? (i := 597) (by decide +kernel), List.mem_of_getElem? (i := 766) (by decide +kernel), List.mem_of_getElem? (i := 767) (by decide +kernel)⟩
theorem lw_p22 : lw_okq (⟨"PaperSetterModel", "spreadOf", "(I)I"⟩, 30) := ⟨⟨by decide +kernel, by decide +kernel⟩, List.mem_of_getElem? (i := 597) (by decide +kernel), List.mem_of_getElem? (i := 770) (by decide +kernel), List.mem_of_getElem? (i := 771) (by decide +kernel)⟩
theorem lw_p23 : lw_okq (⟨"PaperSetterModel", "atHand", "()I"⟩, 30) := ⟨⟨by decide +kernel, by decide +kernel⟩, List.mem_of_getElem? (i := 597) (by decide +kernel), List.mem_of_getElem? (i := 781) (by decide +kernel), List.mem_of_getElem? (i := 782) (by decide +kernel)⟩
theorem lw_p24 : lw_okq (⟨"PaperSetterModel", "works", "()V"⟩, 30) := ⟨⟨by decide +kernel, by decide +kernel⟩, List.mem_of_getElem? (i := 597) (by decide +kernel), List.mem_of_getElem? (i := 785) (by decide +kernel), List.mem_of_getElem? (i := 786) (by decide +kernel)⟩
theorem lw_p25 : lw_okq (⟨"PaperSetterModel", "areOnePassage", "(II)Z"⟩, 30) := ⟨⟨by decide +kernel, by decide +kernel⟩, List.mem_of_getElem? (i := 597) (by decide +kernel), List.mem_of_getElem? (i := 789) (by decide +kernel), List.mem_of_getElem? (i := 790) (by decide +kernel)⟩
theorem lw_p26 : lw_okq (⟨"PaperSetterModel", "isPaper", "(I)Z"⟩, 30) := ⟨⟨by decide +kernel, by decide +kernel⟩, List.mem_of_getElem? (i := 597) (by decide +kernel), List.mem_of_getElem? (i := 793) (by decide +kernel), List.mem_of_getElem? (i := 794) (by decide +kernel)⟩
theorem lw_p27 : lw_okq (⟨"PaperSetterModel", "spread", "(I)I"⟩, 30) := ⟨⟨by decide +kernel, by decide +kernel⟩, List.mem_of_getElem? (i := 597) (by decide +kernel), List.mem_of_getElem? (i := 797) (by decide +kernel), List.mem_of_getElem? (i := 798) (by decide +kernel)⟩
theorem lw_p28 : lw_okq (⟨"PaperSetterModel", "told", "(I)I"⟩, 30) := ⟨⟨by decide +kernel, by decide +kernel⟩, List.mem_of_getElem? (i := 597) (by decide +kernel), List.mem_of_getElem? (i := 804) (by decide +kernel), List.mem_of_getElem? (i := 805) (by decide +kernel)⟩
theorem lw_p29 : lw_okq (⟨"PaperSetterModel", "isKept", "(I)Z"⟩, 30) := ⟨⟨by decide +kernel, by decide +kernel⟩, List.mem_of_getElem? (i := 597) (by decide +kernel), List.mem_of_getElem? (i := 815) (by decide +kernel), List.mem_of_getElem? (i := 816) (by decide +kernel)⟩
theorem lw_p30 : lw_okq (⟨"PaperSetterModel", "lays", "(I)V"⟩, 30) := ⟨⟨by decide +kernel, by decide +kernel⟩, List.mem_of_getElem? (i := 597) (by decide +kernel), List.mem_of_getElem? (i := 831) (by decide +kernel), List.mem_of_getElem? (i := 832) (by decide +kernel)⟩
theorem lw_p31 : lw_okq (⟨"PaperSetterModel", "nextRow", "()Z"⟩, 30) := ⟨⟨by decide +kernel, by decide +kernel⟩, List.mem_of_getElem? (i := 597) (by decide +kernel), List.mem_of_getElem? (i := 835) (by decide +kernel), List.mem_of_getElem? (i := 836) (by decide +kernel)⟩
def lw_privs_2 : List (MethodName × Nat) := [(⟨"PaperSetterModel", "isSet", "(I)Z"⟩, 30), (⟨"PaperSetterModel", "isResting", "(I)Z"⟩, 30), (⟨"PaperSetterModel", "sumOf", "(II)I"⟩, 30), (⟨"PaperSetterModel", "adds", "(II)I"⟩, 30), (⟨"PaperSetterModel", "isFit", "(I)Z"⟩, 30), (⟨"PaperSetterModel", "brokenBy", "(I)I"⟩, 30), (⟨"PaperSetterModel", "spreadOf", "(I)I"⟩, 30), (⟨"PaperSetterModel", "atHand", "()I"⟩, 30), (⟨"PaperSetterModel", "works", "()V"⟩, 30), (⟨"PaperSetterModel", "areOnePassage", "(II)Z"⟩, 30), (⟨"PaperSetterModel", "isPaper", "(I)Z"⟩, 30), (⟨"PaperSetterModel", "spread", "(I)I"⟩, 30), (⟨"PaperSetterModel", "told", "(I)I"⟩, 30), (⟨"PaperSetterModel", "isKept", "(I)Z"⟩, 30), (⟨"PaperSetterModel", "lays", "(I)V"⟩, 30), (⟨"PaperSetterModel", "nextRow", "()Z"⟩, 30)]
theorem lw_r2 : ∀ q ∈ lw_privs_2, lw_okq q := List.forall_mem_cons.mpr ⟨lw_p16, List.forall_mem_cons.mpr ⟨lw_p17, List.forall_mem_cons.mpr ⟨lw_p18, List.forall_mem_cons.mpr ⟨lw_p19, List.forall_mem_cons.mpr ⟨lw_p20, List.forall_mem_cons.mpr ⟨lw_p21, List.forall_mem_cons.mpr ⟨lw_p22, List.forall_mem_cons.mpr ⟨lw_p23, List.forall_mem_cons.mpr ⟨lw_p24, List.forall_mem_cons.mpr ⟨lw_p25, List.forall_mem_cons.mpr ⟨lw_p26, List.forall_mem_cons.mpr ⟨lw_p27, List.forall_mem_cons.mpr ⟨lw_p28, List.forall_mem_cons.mpr ⟨lw_p29, List.forall_mem_cons.mpr ⟨lw_p30, List.forall_mem_cons.mpr ⟨lw_p31, fun _ h => absurd h List.not_mem_nil⟩⟩⟩⟩⟩⟩⟩⟩⟩⟩⟩⟩⟩⟩⟩⟩
def lw_privs : List (MethodName × Nat) := lw_privs_1 ++ (lw_privs_2)
def lw_tbl : List Cond := k2_sels lw_privs ++ tables_1
theorem lw_privs_ok : ∀ q ∈ lw_privs, lw_okq q := by
  show ∀ q ∈ lw_privs_1 ++ (lw_privs_2), lw_okq q
  exact List.forall_mem_append.mpr ⟨lw_r1, lw_r2⟩

def RX0 : String := "PaperSetter$Bank"
def TX0 : u_T := fun k => match k with
  | 0 => ("PaperSetter$Bank", "facts", "[[I", true)
  | 1 => ("PaperSetter$Bank", "givesAway", "[I", true)
  | 2 => ("PaperSetter$Bank", "size", "I", false)
  | 3 => ("PaperSetter$Bank", "termNow", "I", false)
  | _ => ("PaperSetter$Bank", "restTerms", "I", false)
def tyX0 : Nat → FieldType := fun k => match k with
  | 0 => .array (.array .int)
  | 1 => .array .int
  | 2 => .int
  | 3 => .int
  | _ => .int
abbrev wsX00 : List Cond := u_ws RX0 TX0 5
theorem nmX0 : ∀ a, a < 5 → ∀ b, b < 5 → a ≠ b → (TX0 a).2.1 ≠ (TX0 b).2.1 := by decide +kernel
theorem tyX0_ok : ∀ k, k < 5 → parseFieldDescriptor (TX0 k).2.2.1 = some (tyX0 k) := by decide +kernel
abbrev cX0_init : ByteArray := prog_2_method_1_code
def yX0_init : MethodName := ⟨RX0, "<init>", "()V"⟩
abbrev cX0_has : ByteArray := prog_2_method_2_code
def yX0_has : MethodName := ⟨RX0, "has", "(I)Z"⟩
abbrev cX0_hasAll : ByteArray := prog_2_method_3_code
def yX0_hasAll : MethodName := ⟨RX0, "hasAll", "(I)Z"⟩
abbrev cX0_isResting : ByteArray := prog_2_method_4_code
def yX0_isResting : MethodName := ⟨RX0, "isResting", "(I)Z"⟩
abbrev cX0_countAtHand : ByteArray := prog_2_method_5_code
def yX0_countAtHand : MethodName := ⟨RX0, "countAtHand", "()I"⟩
abbrev cX0_wholeOf : ByteArray := prog_2_method_6_code
def yX0_wholeOf : MethodName := ⟨RX0, "wholeOf", "(I)I"⟩
abbrev cX0_isFit : ByteArray := prog_2_method_7_code
def yX0_isFit : MethodName := ⟨RX0, "isFit", "(I)Z"⟩
abbrev cX0_fitsInto : ByteArray := prog_2_method_8_code
def yX0_fitsInto : MethodName := ⟨RX0, "fitsInto", "(II)Z"⟩
abbrev cX0_clashesWith : ByteArray := prog_2_method_9_code
def yX0_clashesWith : MethodName := ⟨RX0, "clashesWith", "(I)I"⟩
abbrev cX0_sumUp : ByteArray := prog_2_method_10_code
def yX0_sumUp : MethodName := ⟨RX0, "sumUp", "(I[I)V"⟩
abbrev cX0_weightOf : ByteArray := prog_2_method_11_code
def yX0_weightOf : MethodName := ⟨RX0, "weightOf", "(II)I"⟩
def RX1 : String := "PaperSetter$BestSearch"
def TX1 : u_T := fun k => match k with
  | 0 => ("PaperSetter$Search", "units", "LPaperSetter$Units;", true)
  | 1 => ("PaperSetter$Search", "limits", "LPaperSetter$Limits;", true)
  | 2 => ("PaperSetter$Search", "sums", "[I", true)
  | 3 => ("PaperSetter$Search", "set", "I", false)
  | 4 => ("PaperSetter$Search", "takenUnits", "I", false)
  | 5 => ("PaperSetter$BestSearch", "bestSet", "I", false)
  | 6 => ("PaperSetter$BestSearch", "bestSpread", "I", false)
  | _ => ("PaperSetter$BestSearch", "bestCount", "I", false)
def tyX1 : Nat → FieldType := fun k => match k with
  | 0 => .object "PaperSetter$Units"
  | 1 => .object "PaperSetter$Limits"
  | 2 => .array .int
  | 3 => .int
  | 4 => .int
  | 5 => .int
  | 6 => .int
  | _ => .int
abbrev wsX10 : List Cond := u_ws RX1 TX1 8
theorem nmX1 : ∀ a, a < 8 → ∀ b, b < 8 → a ≠ b → (TX1 a).2.1 ≠ (TX1 b).2.1 := by decide +kernel
theorem tyX1_ok : ∀ k, k < 8 → parseFieldDescriptor (TX1 k).2.2.1 = some (tyX1 k) := by decide +kernel
abbrev cX1_init : ByteArray := prog_3_method_1_code
def yX1_init : MethodName := ⟨RX1, "<init>", "(LPaperSetter$Units;LPaperSetter$Limits;)V"⟩
abbrev cX1_findBest : ByteArray := prog_3_method_2_code
def yX1_findBest : MethodName := ⟨RX1, "findBest", "()I"⟩
abbrev cX1_isHopeless : ByteArray := prog_3_method_3_code
def yX1_isHopeless : MethodName := ⟨RX1, "isHopeless", "(I)Z"⟩
abbrev cX1_meet : ByteArray := prog_3_method_4_code
def yX1_meet : MethodName := ⟨RX1, "meet", "()V"⟩
def RX2 : String := "PaperSetter$Limits"
def TX2 : u_T := fun k => match k with
  | 0 => ("PaperSetter$Limits", "least", "[I", true)
  | 1 => ("PaperSetter$Limits", "greatest", "[I", true)
  | _ => ("PaperSetter$Limits", "wished", "[I", true)
def tyX2 : Nat → FieldType := fun k => match k with
  | 0 => .array .int
  | 1 => .array .int
  | _ => .array .int
abbrev wsX20 : List Cond := u_ws RX2 TX2 3
theorem nmX2 : ∀ a, a < 3 → ∀ b, b < 3 → a ≠ b → (TX2 a).2.1 ≠ (TX2 b).2.1 := by decide +kernel
theorem tyX2_ok : ∀ k, k < 3 → parseFieldDescriptor (TX2 k).2.2.1 = some (tyX2 k) := by decide +kernel
abbrev cX2_init : ByteArray := prog_4_method_1_code
def yX2_init : MethodName := ⟨RX2, "<init>", "()V"⟩
abbrev cX2_surelyBroken : ByteArray := prog_4_method_2_code
def yX2_surelyBroken : MethodName := ⟨RX2, "surelyBroken", "([I[I)I"⟩
abbrev cX2_leastSpread : ByteArray := prog_4_method_3_code
def yX2_leastSpread : MethodName := ⟨RX2, "leastSpread", "([I[I)I"⟩
def RX3 : String := "PaperSetter$Ordering"
def TX3 : u_T := fun k => match k with
  | 0 => ("PaperSetter$Ordering", "members", "[I", true)
  | 1 => ("PaperSetter$Ordering", "firstQuestions", "[I", true)
  | 2 => ("PaperSetter$Ordering", "lastQuestions", "[I", true)
  | 3 => ("PaperSetter$Ordering", "joinCosts", "[[I", true)
  | 4 => ("PaperSetter$Ordering", "restCosts", "[I", true)
  | 5 => ("PaperSetter$Ordering", "size", "I", false)
  | 6 => ("PaperSetter$Ordering", "places", "[I", true)
  | 7 => ("PaperSetter$Ordering", "placed", "I", false)
  | 8 => ("PaperSetter$Ordering", "stepsDown", "I", false)
  | _ => ("PaperSetter$Ordering", "alike", "I", false)
def tyX3 : Nat → FieldType := fun k => match k with
  | 0 => .array .int
  | 1 => .array .int
  | 2 => .array .int
  | 3 => .array (.array .int)
  | 4 => .array .int
  | 5 => .int
  | 6 => .array .int
  | 7 => .int
  | 8 => .int
  | _ => .int
abbrev wsX30 : List Cond := u_ws RX3 TX3 10
theorem nmX3 : ∀ a, a < 10 → ∀ b, b < 10 → a ≠ b → (TX3 a).2.1 ≠ (TX3 b).2.1 := by decide +kernel
theorem tyX3_ok : ∀ k, k < 10 → parseFieldDescriptor (TX3 k).2.2.1 = some (tyX3 k) := by decide +kernel
abbrev cX3_init : ByteArray := prog_5_method_1_code
def yX3_init : MethodName := ⟨RX3, "<init>", "()V"⟩
abbrev cX3_splitSet : ByteArray := prog_5_method_2_code
def yX3_splitSet : MethodName := ⟨RX3, "splitSet", "(LPaperSetter$Bank;I)Z"⟩
abbrev cX3_arrange : ByteArray := prog_5_method_3_code
def yX3_arrange : MethodName := ⟨RX3, "arrange", "(LPaperSetter$Bank;)V"⟩
abbrev cX3_highestOf : ByteArray := prog_5_method_4_code
def yX3_highestOf : MethodName := ⟨RX3, "highestOf", "(I)I"⟩
abbrev cX3_reckonJoinCosts : ByteArray := prog_5_method_5_code
def yX3_reckonJoinCosts : MethodName := ⟨RX3, "reckonJoinCosts", "(LPaperSetter$Bank;)V"⟩
abbrev cX3_reckonRestCosts : ByteArray := prog_5_method_6_code
def yX3_reckonRestCosts : MethodName := ⟨RX3, "reckonRestCosts", "()V"⟩
abbrev cX3_costBehind : ByteArray := prog_5_method_7_code
def yX3_costBehind : MethodName := ⟨RX3, "costBehind", "(III)I"⟩
abbrev cX3_cheapestBehind : ByteArray := prog_5_method_8_code
def yX3_cheapestBehind : MethodName := ⟨RX3, "cheapestBehind", "(II)I"⟩
abbrev cX3_placeUnits : ByteArray := prog_5_method_9_code
def yX3_placeUnits : MethodName := ⟨RX3, "placeUnits", "()V"⟩
abbrev cX3_placeQuestions : ByteArray := prog_5_method_10_code
def yX3_placeQuestions : MethodName := ⟨RX3, "placeQuestions", "(I)V"⟩
abbrev cX3_countSteps : ByteArray := prog_5_method_11_code
def yX3_countSteps : MethodName := ⟨RX3, "countSteps", "(LPaperSetter$Bank;)V"⟩
abbrev cX3_isStepDown : ByteArray := prog_5_method_12_code
def yX3_isStepDown : MethodName := ⟨RX3, "isStepDown", "(LPaperSetter$Bank;II)Z"⟩
abbrev cX3_areAlike : ByteArray := prog_5_method_13_code
def yX3_areAlike : MethodName := ⟨RX3, "areAlike", "(LPaperSetter$Bank;II)Z"⟩
def RX4 : String := "PaperSetter$Search"
def TX4 : u_T := fun k => match k with
  | _ => ("", "", "", false)
def tyX4 : Nat → FieldType := fun k => match k with
  | _ => .int
abbrev wsX40 : List Cond := u_ws RX4 TX4 0
theorem nmX4 : ∀ a, a < 0 → ∀ b, b < 0 → a ≠ b → (TX4 a).2.1 ≠ (TX4 b).2.1 := by decide +kernel
theorem tyX4_ok : ∀ k, k < 0 → parseFieldDescriptor (TX4 k).2.2.1 = some (tyX4 k) := by decide +kernel
abbrev cX4_init : ByteArray := prog_6_method_1_code
def yX4_init : MethodName := ⟨RX4, "<init>", "(LPaperSetter$Units;LPaperSetter$Limits;)V"⟩
abbrev cX4_walkAll : ByteArray := prog_6_method_4_code
def yX4_walkAll : MethodName := ⟨RX4, "walkAll", "()V"⟩
abbrev cX4_walk : ByteArray := prog_6_method_5_code
def yX4_walk : MethodName := ⟨RX4, "walk", "(LPaperSetter$Search;I)V"⟩
abbrev cX4_take : ByteArray := prog_6_method_6_code
def yX4_take : MethodName := ⟨RX4, "take", "(I)V"⟩
abbrev cX4_drop : ByteArray := prog_6_method_7_code
def yX4_drop : MethodName := ⟨RX4, "drop", "(I)V"⟩
def RX5 : String := "PaperSetter$Units"
def TX5 : u_T := fun k => match k with
  | 0 => ("PaperSetter$Units", "members", "[I", true)
  | 1 => ("PaperSetter$Units", "clashes", "[I", true)
  | 2 => ("PaperSetter$Units", "sums", "[[I", true)
  | 3 => ("PaperSetter$Units", "sumsFrom", "[[I", true)
  | _ => ("PaperSetter$Units", "size", "I", false)
def tyX5 : Nat → FieldType := fun k => match k with
  | 0 => .array .int
  | 1 => .array .int
  | 2 => .array (.array .int)
  | 3 => .array (.array .int)
  | _ => .int
abbrev wsX50 : List Cond := u_ws RX5 TX5 5
theorem nmX5 : ∀ a, a < 5 → ∀ b, b < 5 → a ≠ b → (TX5 a).2.1 ≠ (TX5 b).2.1 := by decide +kernel
theorem tyX5_ok : ∀ k, k < 5 → parseFieldDescriptor (TX5 k).2.2.1 = some (tyX5 k) := by decide +kernel
abbrev cX5_init : ByteArray := prog_7_method_1_code
def yX5_init : MethodName := ⟨RX5, "<init>", "()V"⟩
abbrev cX5_splitBank : ByteArray := prog_7_method_2_code
def yX5_splitBank : MethodName := ⟨RX5, "splitBank", "(LPaperSetter$Bank;)V"⟩
abbrev cX5_sumUpFromEachOn : ByteArray := prog_7_method_3_code
def yX5_sumUpFromEachOn : MethodName := ⟨RX5, "sumUpFromEachOn", "()V"⟩
def RX6 : String := "PaperSetter$VersionSearch"
def TX6 : u_T := fun k => match k with
  | 0 => ("PaperSetter$Search", "units", "LPaperSetter$Units;", true)
  | 1 => ("PaperSetter$Search", "limits", "LPaperSetter$Limits;", true)
  | 2 => ("PaperSetter$Search", "sums", "[I", true)
  | 3 => ("PaperSetter$Search", "set", "I", false)
  | 4 => ("PaperSetter$Search", "takenUnits", "I", false)
  | 5 => ("PaperSetter$VersionSearch", "papers", "[I", true)
  | 6 => ("PaperSetter$VersionSearch", "minutes", "[I", true)
  | 7 => ("PaperSetter$VersionSearch", "marks", "[I", true)
  | 8 => ("PaperSetter$VersionSearch", "spreads", "[I", true)
  | 9 => ("PaperSetter$VersionSearch", "bestSpread", "I", false)
  | 10 => ("PaperSetter$VersionSearch", "bestCount", "I", false)
  | 11 => ("PaperSetter$VersionSearch", "bestFirst", "I", false)
  | _ => ("PaperSetter$VersionSearch", "bestSecond", "I", false)
def tyX6 : Nat → FieldType := fun k => match k with
  | 0 => .object "PaperSetter$Units"
  | 1 => .object "PaperSetter$Limits"
  | 2 => .array .int
  | 3 => .int
  | 4 => .int
  | 5 => .array .int
  | 6 => .array .int
  | 7 => .array .int
  | 8 => .array .int
  | 9 => .int
  | 10 => .int
  | 11 => .int
  | _ => .int
abbrev wsX60 : List Cond := u_ws RX6 TX6 13
theorem nmX6 : ∀ a, a < 13 → ∀ b, b < 13 → a ≠ b → (TX6 a).2.1 ≠ (TX6 b).2.1 := by decide +kernel
theorem tyX6_ok : ∀ k, k < 13 → parseFieldDescriptor (TX6 k).2.2.1 = some (tyX6 k) := by decide +kernel
abbrev cX6_init : ByteArray := prog_8_method_1_code
def yX6_init : MethodName := ⟨RX6, "<init>", "(LPaperSetter$Units;LPaperSetter$Limits;)V"⟩
abbrev cX6_findTwo : ByteArray := prog_8_method_2_code
def yX6_findTwo : MethodName := ⟨RX6, "findTwo", "(I)V"⟩
abbrev cX6_isHopeless : ByteArray := prog_8_method_3_code
def yX6_isHopeless : MethodName := ⟨RX6, "isHopeless", "(I)Z"⟩
abbrev cX6_meet : ByteArray := prog_8_method_4_code
def yX6_meet : MethodName := ⟨RX6, "meet", "()V"⟩
abbrev cX6_pairWithOthers : ByteArray := prog_8_method_5_code
def yX6_pairWithOthers : MethodName := ⟨RX6, "pairWithOthers", "(III)V"⟩
abbrev cX6_areAlike : ByteArray := prog_8_method_6_code
def yX6_areAlike : MethodName := ⟨RX6, "areAlike", "(III)Z"⟩
abbrev cX6_isBetter : ByteArray := prog_8_method_7_code
def yX6_isBetter : MethodName := ⟨RX6, "isBetter", "(II)Z"⟩
abbrev cX6_countOfBoth : ByteArray := prog_8_method_8_code
def yX6_countOfBoth : MethodName := ⟨RX6, "countOfBoth", "(II)I"⟩
def RX7 : String := "PaperSetter$WhySearch"
def TX7 : u_T := fun k => match k with
  | 0 => ("PaperSetter$Search", "units", "LPaperSetter$Units;", true)
  | 1 => ("PaperSetter$Search", "limits", "LPaperSetter$Limits;", true)
  | 2 => ("PaperSetter$Search", "sums", "[I", true)
  | 3 => ("PaperSetter$Search", "set", "I", false)
  | 4 => ("PaperSetter$Search", "takenUnits", "I", false)
  | _ => ("PaperSetter$WhySearch", "kept", "[Z", true)
def tyX7 : Nat → FieldType := fun k => match k with
  | 0 => .object "PaperSetter$Units"
  | 1 => .object "PaperSetter$Limits"
  | 2 => .array .int
  | 3 => .int
  | 4 => .int
  | _ => .array .boolean
abbrev wsX70 : List Cond := u_ws RX7 TX7 6
theorem nmX7 : ∀ a, a < 6 → ∀ b, b < 6 → a ≠ b → (TX7 a).2.1 ≠ (TX7 b).2.1 := by decide +kernel
theorem tyX7_ok : ∀ k, k < 6 → parseFieldDescriptor (TX7 k).2.2.1 = some (tyX7 k) := by decide +kernel
abbrev cX7_init : ByteArray := prog_9_method_1_code
def yX7_init : MethodName := ⟨RX7, "<init>", "(LPaperSetter$Units;LPaperSetter$Limits;)V"⟩
abbrev cX7_findFewestUnkept : ByteArray := prog_9_method_2_code
def yX7_findFewestUnkept : MethodName := ⟨RX7, "findFewestUnkept", "()I"⟩
abbrev cX7_isHopeless : ByteArray := prog_9_method_3_code
def yX7_isHopeless : MethodName := ⟨RX7, "isHopeless", "(I)Z"⟩
abbrev cX7_meet : ByteArray := prog_9_method_4_code
def yX7_meet : MethodName := ⟨RX7, "meet", "()V"⟩
abbrev cX7_keepable : ByteArray := prog_9_method_5_code
def yX7_keepable : MethodName := ⟨RX7, "keepable", "(I)I"⟩
def RX8 : String := "PaperSetter"
def TX8 : u_T := fun k => match k with
  | 0 => ("PaperSetter", "bank", "LPaperSetter$Bank;", true)
  | 1 => ("PaperSetter", "limits", "LPaperSetter$Limits;", true)
  | 2 => ("PaperSetter", "units", "LPaperSetter$Units;", true)
  | 3 => ("PaperSetter", "bestSearch", "LPaperSetter$BestSearch;", true)
  | 4 => ("PaperSetter", "whySearch", "LPaperSetter$WhySearch;", true)
  | 5 => ("PaperSetter", "versionSearch", "LPaperSetter$VersionSearch;", true)
  | 6 => ("PaperSetter", "ordering", "LPaperSetter$Ordering;", true)
  | 7 => ("PaperSetter", "sumsLookedAt", "[I", true)
  | _ => ("PaperSetter", "secondVersion", "I", false)
def tyX8 : Nat → FieldType := fun k => match k with
  | 0 => .object "PaperSetter$Bank"
  | 1 => .object "PaperSetter$Limits"
  | 2 => .object "PaperSetter$Units"
  | 3 => .object "PaperSetter$BestSearch"
  | 4 => .object "PaperSetter$WhySearch"
  | 5 => .object "PaperSetter$VersionSearch"
  | 6 => .object "PaperSetter$Ordering"
  | 7 => .array .int
  | _ => .int
abbrev wsX80 : List Cond := u_ws RX8 TX8 9
theorem nmX8 : ∀ a, a < 9 → ∀ b, b < 9 → a ≠ b → (TX8 a).2.1 ≠ (TX8 b).2.1 := by decide +kernel
theorem tyX8_ok : ∀ k, k < 9 → parseFieldDescriptor (TX8 k).2.2.1 = some (tyX8 k) := by decide +kernel
abbrev cX8_init : ByteArray := prog_1_method_1_code
def yX8_init : MethodName := ⟨RX8, "<init>", "()V"⟩
abbrev cX8_question : ByteArray := prog_1_method_2_code
def yX8_question : MethodName := ⟨RX8, "question", "(IIIII)I"⟩
abbrev cX8_passage : ByteArray := prog_1_method_3_code
def yX8_passage : MethodName := ⟨RX8, "passage", "(II)Z"⟩
abbrev cX8_gives : ByteArray := prog_1_method_4_code
def yX8_gives : MethodName := ⟨RX8, "gives", "(IIZ)Z"⟩
abbrev cX8_bound : ByteArray := prog_1_method_5_code
def yX8_bound : MethodName := ⟨RX8, "bound", "(III)Z"⟩
abbrev cX8_profile : ByteArray := prog_1_method_6_code
def yX8_profile : MethodName := ⟨RX8, "profile", "(II)Z"⟩
abbrev cX8_rest : ByteArray := prog_1_method_7_code
def yX8_rest : MethodName := ⟨RX8, "rest", "(I)Z"⟩
abbrev cX8_term : ByteArray := prog_1_method_8_code
def yX8_term : MethodName := ⟨RX8, "term", "()I"⟩
abbrev cX8_use : ByteArray := prog_1_method_9_code
def yX8_use : MethodName := ⟨RX8, "use", "(I)Z"⟩
abbrev cX8_rests : ByteArray := prog_1_method_10_code
def yX8_rests : MethodName := ⟨RX8, "rests", "(I)I"⟩
abbrev cX8_look : ByteArray := prog_1_method_11_code
def yX8_look : MethodName := ⟨RX8, "look", "(II)I"⟩
abbrev cX8_best : ByteArray := prog_1_method_12_code
def yX8_best : MethodName := ⟨RX8, "best", "()I"⟩
abbrev cX8_why : ByteArray := prog_1_method_13_code
def yX8_why : MethodName := ⟨RX8, "why", "()I"⟩
abbrev cX8_versions : ByteArray := prog_1_method_14_code
def yX8_versions : MethodName := ⟨RX8, "versions", "(I)I"⟩
abbrev cX8_second : ByteArray := prog_1_method_15_code
def yX8_second : MethodName := ⟨RX8, "second", "()I"⟩
abbrev cX8_order : ByteArray := prog_1_method_16_code
def yX8_order : MethodName := ⟨RX8, "order", "(I)I"⟩
abbrev cX8_place : ByteArray := prog_1_method_17_code
def yX8_place : MethodName := ⟨RX8, "place", "(I)I"⟩
abbrev cX8_told : ByteArray := prog_1_method_18_code
def yX8_told : MethodName := ⟨RX8, "told", "(II)I"⟩
abbrev cX8_count : ByteArray := prog_1_method_19_code
def yX8_count : MethodName := ⟨RX8, "count", "(I)I"⟩
abbrev cX8_within : ByteArray := prog_1_method_20_code
def yX8_within : MethodName := ⟨RX8, "within", "(III)Z"⟩
abbrev cX8_oneIf : ByteArray := prog_1_method_21_code
def yX8_oneIf : MethodName := ⟨RX8, "oneIf", "(Z)I"⟩
abbrev cX8_contains : ByteArray := prog_1_method_22_code
def yX8_contains : MethodName := ⟨RX8, "contains", "(II)Z"⟩
abbrev cX8_lowestOf : ByteArray := prog_1_method_23_code
def yX8_lowestOf : MethodName := ⟨RX8, "lowestOf", "(I)I"⟩
def RX9 : String := "PaperSetterModel"
def TX9 : u_T := fun k => match k with
  | 0 => ("PaperSetterModel", "questions", "I", false)
  | 1 => ("PaperSetterModel", "term", "I", false)
  | 2 => ("PaperSetterModel", "rest", "I", false)
  | 3 => ("PaperSetterModel", "topic", "[I", true)
  | 4 => ("PaperSetterModel", "skill", "[I", true)
  | 5 => ("PaperSetterModel", "minutes", "[I", true)
  | 6 => ("PaperSetterModel", "marks", "[I", true)
  | 7 => ("PaperSetterModel", "hard", "[I", true)
  | 8 => ("PaperSetterModel", "passage", "[I", true)
  | 9 => ("PaperSetterModel", "used", "[I", true)
  | 10 => ("PaperSetterModel", "away", "[I", true)
  | 11 => ("PaperSetterModel", "low", "[I", true)
  | 12 => ("PaperSetterModel", "high", "[I", true)
  | 13 => ("PaperSetterModel", "wished", "[I", true)
  | 14 => ("PaperSetterModel", "many", "I", false)
  | 15 => ("PaperSetterModel", "hand", "[I", true)
  | 16 => ("PaperSetterModel", "sum", "[I", true)
  | 17 => ("PaperSetterModel", "fit", "[Z", true)
  | 18 => ("PaperSetterModel", "broken", "[I", true)
  | 19 => ("PaperSetterModel", "clash", "[I", true)
  | 20 => ("PaperSetterModel", "whole", "[I", true)
  | 21 => ("PaperSetterModel", "isBroken", "[Z", true)
  | 22 => ("PaperSetterModel", "second", "I", false)
  | 23 => ("PaperSetterModel", "units", "I", false)
  | 24 => ("PaperSetterModel", "ordered", "I", false)
  | 25 => ("PaperSetterModel", "alike", "I", false)
  | 26 => ("PaperSetterModel", "unitFirst", "[I", true)
  | 27 => ("PaperSetterModel", "row", "[I", true)
  | 28 => ("PaperSetterModel", "order", "[I", true)
  | _ => ("PaperSetterModel", "now", "[I", true)
def tyX9 : Nat → FieldType := fun k => match k with
  | 0 => .int
  | 1 => .int
  | 2 => .int
  | 3 => .array .int
  | 4 => .array .int
  | 5 => .array .int
  | 6 => .array .int
  | 7 => .array .int
  | 8 => .array .int
  | 9 => .array .int
  | 10 => .array .int
  | 11 => .array .int
  | 12 => .array .int
  | 13 => .array .int
  | 14 => .int
  | 15 => .array .int
  | 16 => .array .int
  | 17 => .array .boolean
  | 18 => .array .int
  | 19 => .array .int
  | 20 => .array .int
  | 21 => .array .boolean
  | 22 => .int
  | 23 => .int
  | 24 => .int
  | 25 => .int
  | 26 => .array .int
  | 27 => .array .int
  | 28 => .array .int
  | _ => .array .int
abbrev wsX90 : List Cond := u_ws RX9 TX9 30
theorem nmX9 : ∀ a, a < 30 → ∀ b, b < 30 → a ≠ b → (TX9 a).2.1 ≠ (TX9 b).2.1 := by decide +kernel
theorem tyX9_ok : ∀ k, k < 30 → parseFieldDescriptor (TX9 k).2.2.1 = some (tyX9 k) := by decide +kernel
abbrev cX9_init : ByteArray := prog_11_method_1_code
def yX9_init : MethodName := ⟨RX9, "<init>", "()V"⟩
abbrev cX9_lies : ByteArray := prog_11_method_2_code
def yX9_lies : MethodName := ⟨RX9, "lies", "(III)Z"⟩
abbrev cX9_isQuestion : ByteArray := prog_11_method_3_code
def yX9_isQuestion : MethodName := ⟨RX9, "isQuestion", "(I)Z"⟩
abbrev cX9_isSet : ByteArray := prog_11_method_4_code
def yX9_isSet : MethodName := ⟨RX9, "isSet", "(I)Z"⟩
abbrev cX9_has : ByteArray := prog_11_method_5_code
def yX9_has : MethodName := ⟨RX9, "has", "(II)Z"⟩
abbrev cX9_size : ByteArray := prog_11_method_6_code
def yX9_size : MethodName := ⟨RX9, "size", "(I)I"⟩
abbrev cX9_question : ByteArray := prog_11_method_7_code
def yX9_question : MethodName := ⟨RX9, "question", "(IIIII)I"⟩
abbrev cX9_passage : ByteArray := prog_11_method_8_code
def yX9_passage : MethodName := ⟨RX9, "passage", "(II)Z"⟩
abbrev cX9_gives : ByteArray := prog_11_method_9_code
def yX9_gives : MethodName := ⟨RX9, "gives", "(IIZ)Z"⟩
abbrev cX9_bound : ByteArray := prog_11_method_10_code
def yX9_bound : MethodName := ⟨RX9, "bound", "(III)Z"⟩
abbrev cX9_profile : ByteArray := prog_11_method_11_code
def yX9_profile : MethodName := ⟨RX9, "profile", "(II)Z"⟩
abbrev cX9_rest : ByteArray := prog_11_method_12_code
def yX9_rest : MethodName := ⟨RX9, "rest", "(I)Z"⟩
abbrev cX9_term : ByteArray := prog_11_method_13_code
def yX9_term : MethodName := ⟨RX9, "term", "()I"⟩
abbrev cX9_use : ByteArray := prog_11_method_14_code
def yX9_use : MethodName := ⟨RX9, "use", "(I)Z"⟩
abbrev cX9_isResting : ByteArray := prog_11_method_15_code
def yX9_isResting : MethodName := ⟨RX9, "isResting", "(I)Z"⟩
abbrev cX9_rests : ByteArray := prog_11_method_16_code
def yX9_rests : MethodName := ⟨RX9, "rests", "(I)I"⟩
abbrev cX9_adds : ByteArray := prog_11_method_17_code
def yX9_adds : MethodName := ⟨RX9, "adds", "(II)I"⟩
abbrev cX9_sumOf : ByteArray := prog_11_method_18_code
def yX9_sumOf : MethodName := ⟨RX9, "sumOf", "(II)I"⟩
abbrev cX9_isFit : ByteArray := prog_11_method_19_code
def yX9_isFit : MethodName := ⟨RX9, "isFit", "(I)Z"⟩
abbrev cX9_brokenBy : ByteArray := prog_11_method_20_code
def yX9_brokenBy : MethodName := ⟨RX9, "brokenBy", "(I)I"⟩
abbrev cX9_far : ByteArray := prog_11_method_21_code
def yX9_far : MethodName := ⟨RX9, "far", "(II)I"⟩
abbrev cX9_spreadOf : ByteArray := prog_11_method_22_code
def yX9_spreadOf : MethodName := ⟨RX9, "spreadOf", "(I)I"⟩
abbrev cX9_look : ByteArray := prog_11_method_23_code
def yX9_look : MethodName := ⟨RX9, "look", "(II)I"⟩
abbrev cX9_atHand : ByteArray := prog_11_method_24_code
def yX9_atHand : MethodName := ⟨RX9, "atHand", "()I"⟩
abbrev cX9_areOnePassage : ByteArray := prog_11_method_25_code
def yX9_areOnePassage : MethodName := ⟨RX9, "areOnePassage", "(II)Z"⟩
abbrev cX9_works : ByteArray := prog_11_method_26_code
def yX9_works : MethodName := ⟨RX9, "works", "()V"⟩
abbrev cX9_isPaper : ByteArray := prog_11_method_27_code
def yX9_isPaper : MethodName := ⟨RX9, "isPaper", "(I)Z"⟩
abbrev cX9_spread : ByteArray := prog_11_method_28_code
def yX9_spread : MethodName := ⟨RX9, "spread", "(I)I"⟩
abbrev cX9_told : ByteArray := prog_11_method_29_code
def yX9_told : MethodName := ⟨RX9, "told", "(I)I"⟩
abbrev cX9_isAhead : ByteArray := prog_11_method_30_code
def yX9_isAhead : MethodName := ⟨RX9, "isAhead", "(II)Z"⟩
abbrev cX9_best : ByteArray := prog_11_method_31_code
def yX9_best : MethodName := ⟨RX9, "best", "()I"⟩
abbrev cX9_isKept : ByteArray := prog_11_method_32_code
def yX9_isKept : MethodName := ⟨RX9, "isKept", "(I)Z"⟩
abbrev cX9_why : ByteArray := prog_11_method_33_code
def yX9_why : MethodName := ⟨RX9, "why", "()I"⟩
abbrev cX9_versions : ByteArray := prog_11_method_34_code
def yX9_versions : MethodName := ⟨RX9, "versions", "(I)I"⟩
abbrev cX9_second : ByteArray := prog_11_method_35_code
def yX9_second : MethodName := ⟨RX9, "second", "()I"⟩
abbrev cX9_nextRow : ByteArray := prog_11_method_36_code
def yX9_nextRow : MethodName := ⟨RX9, "nextRow", "()Z"⟩
abbrev cX9_lays : ByteArray := prog_11_method_37_code
def yX9_lays : MethodName := ⟨RX9, "lays", "(I)V"⟩
abbrev cX9_order : ByteArray := prog_11_method_38_code
def yX9_order : MethodName := ⟨RX9, "order", "(I)I"⟩
abbrev cX9_place : ByteArray := prog_11_method_39_code
def yX9_place : MethodName := ⟨RX9, "place", "(I)I"⟩
abbrev cX9_told_ : ByteArray := prog_11_method_40_code
def yX9_told_ : MethodName := ⟨RX9, "told", "(II)I"⟩
abbrev cX9_count : ByteArray := prog_11_method_41_code
def yX9_count : MethodName := ⟨RX9, "count", "(I)I"⟩
def RJ6 : String := "java/lang/Integer"
def TJ6 : u_T := fun k => match k with
  | _ => ("", "", "", false)
def tyJ6 : Nat → FieldType := fun k => match k with
  | _ => .int
abbrev wsJ60 : List Cond := u_ws RJ6 TJ6 0
theorem nmJ6 : ∀ a, a < 0 → ∀ b, b < 0 → a ≠ b → (TJ6 a).2.1 ≠ (TJ6 b).2.1 := by decide +kernel
theorem tyJ6_ok : ∀ k, k < 0 → parseFieldDescriptor (TJ6 k).2.2.1 = some (tyJ6 k) := by decide +kernel
abbrev cJ6_bitCount_0f7a4 : ByteArray := prog_12_method_49_code
def yJ6_bitCount_0f7a4 : MethodName := ⟨RJ6, "bitCount", "(I)I"⟩
def RJ9 : String := "java/lang/Math"
def TJ9 : u_T := fun k => match k with
  | _ => ("", "", "", false)
def tyJ9 : Nat → FieldType := fun k => match k with
  | _ => .int
abbrev wsJ90 : List Cond := u_ws RJ9 TJ9 0
theorem nmJ9 : ∀ a, a < 0 → ∀ b, b < 0 → a ≠ b → (TJ9 a).2.1 ≠ (TJ9 b).2.1 := by decide +kernel
theorem tyJ9_ok : ∀ k, k < 0 → parseFieldDescriptor (TJ9 k).2.2.1 = some (tyJ9 k) := by decide +kernel
abbrev cJ9_abs_0f7a4 : ByteArray := prog_13_method_59_code
def yJ9_abs_0f7a4 : MethodName := ⟨RJ9, "abs", "(I)I"⟩
abbrev cJ9_max_7cf53 : ByteArray := prog_13_method_65_code
def yJ9_max_7cf53 : MethodName := ⟨RJ9, "max", "(II)I"⟩
abbrev cJ9_min_7cf53 : ByteArray := prog_13_method_69_code
def yJ9_min_7cf53 : MethodName := ⟨RJ9, "min", "(II)I"⟩
def RJ7 : String := "java/util/Arrays"
def TJ7 : u_T := fun k => match k with
  | _ => ("", "", "", false)
def tyJ7 : Nat → FieldType := fun k => match k with
  | _ => .int
abbrev wsJ70 : List Cond := u_ws RJ7 TJ7 0
theorem nmJ7 : ∀ a, a < 0 → ∀ b, b < 0 → a ≠ b → (TJ7 a).2.1 ≠ (TJ7 b).2.1 := by decide +kernel
theorem tyJ7_ok : ∀ k, k < 0 → parseFieldDescriptor (TJ7 k).2.2.1 = some (tyJ7 k) := by decide +kernel
abbrev cJ7_fill_53178 : ByteArray := prog_14_method_103_code
def yJ7_fill_53178 : MethodName := ⟨RJ7, "fill", "([II)V"⟩
def RL : String := "PaperSetterLaw"
abbrev cL_law : ByteArray := code
def yL_law : MethodName := ⟨RL, "law", "([I)Z"⟩
abbrev MI_ : Type := String × MethodName × ByteArray × Nat × Option FieldType
abbrev mX0_init : MI_ := (RX0, yX0_init, cX0_init, 1, none)
abbrev mX0_has : MI_ := (RX0, yX0_has, cX0_has, 2, (some .boolean))
abbrev mX0_hasAll : MI_ := (RX0, yX0_hasAll, cX0_hasAll, 2, (some .boolean))
abbrev mX0_isResting : MI_ := (RX0, yX0_isResting, cX0_isResting, 3, (some .boolean))
abbrev mX0_countAtHand : MI_ := (RX0, yX0_countAtHand, cX0_countAtHand, 3, (some .int))
abbrev mX0_wholeOf : MI_ := (RX0, yX0_wholeOf, cX0_wholeOf, 5, (some .int))
abbrev mX0_isFit : MI_ := (RX0, yX0_isFit, cX0_isFit, 3, (some .boolean))
abbrev mX0_fitsInto : MI_ := (RX0, yX0_fitsInto, cX0_fitsInto, 3, (some .boolean))
abbrev mX0_clashesWith : MI_ := (RX0, yX0_clashesWith, cX0_clashesWith, 4, (some .int))
abbrev mX0_sumUp : MI_ := (RX0, yX0_sumUp, cX0_sumUp, 5, none)
abbrev mX0_weightOf : MI_ := (RX0, yX0_weightOf, cX0_weightOf, 4, (some .int))
abbrev mX1_init : MI_ := (RX1, yX1_init, cX1_init, 3, none)
abbrev mX1_findBest : MI_ := (RX1, yX1_findBest, cX1_findBest, 1, (some .int))
abbrev mX1_isHopeless : MI_ := (RX1, yX1_isHopeless, cX1_isHopeless, 3, (some .boolean))
abbrev mX1_meet : MI_ := (RX1, yX1_meet, cX1_meet, 1, none)
abbrev mX2_init : MI_ := (RX2, yX2_init, cX2_init, 1, none)
abbrev mX2_surelyBroken : MI_ := (RX2, yX2_surelyBroken, cX2_surelyBroken, 5, (some .int))
abbrev mX2_leastSpread : MI_ := (RX2, yX2_leastSpread, cX2_leastSpread, 7, (some .int))
abbrev mX3_init : MI_ := (RX3, yX3_init, cX3_init, 1, none)
abbrev mX3_splitSet : MI_ := (RX3, yX3_splitSet, cX3_splitSet, 5, (some .boolean))
abbrev mX3_arrange : MI_ := (RX3, yX3_arrange, cX3_arrange, 2, none)
abbrev mX3_highestOf : MI_ := (RX3, yX3_highestOf, cX3_highestOf, 3, (some .int))
abbrev mX3_reckonJoinCosts : MI_ := (RX3, yX3_reckonJoinCosts, cX3_reckonJoinCosts, 6, none)
abbrev mX3_reckonRestCosts : MI_ := (RX3, yX3_reckonRestCosts, cX3_reckonRestCosts, 4, none)
abbrev mX3_costBehind : MI_ := (RX3, yX3_costBehind, cX3_costBehind, 6, (some .int))
abbrev mX3_cheapestBehind : MI_ := (RX3, yX3_cheapestBehind, cX3_cheapestBehind, 7, (some .int))
abbrev mX3_placeUnits : MI_ := (RX3, yX3_placeUnits, cX3_placeUnits, 4, none)
abbrev mX3_placeQuestions : MI_ := (RX3, yX3_placeQuestions, cX3_placeQuestions, 3, none)
abbrev mX3_countSteps : MI_ := (RX3, yX3_countSteps, cX3_countSteps, 3, none)
abbrev mX3_isStepDown : MI_ := (RX3, yX3_isStepDown, cX3_isStepDown, 3, (some .boolean))
abbrev mX3_areAlike : MI_ := (RX3, yX3_areAlike, cX3_areAlike, 3, (some .boolean))
abbrev mX4_init : MI_ := (RX4, yX4_init, cX4_init, 3, none)
abbrev mX4_walkAll : MI_ := (RX4, yX4_walkAll, cX4_walkAll, 1, none)
abbrev mX4_walk : MI_ := (RX4, yX4_walk, cX4_walk, 2, none)
abbrev mX4_take : MI_ := (RX4, yX4_take, cX4_take, 3, none)
abbrev mX4_drop : MI_ := (RX4, yX4_drop, cX4_drop, 3, none)
abbrev mX5_init : MI_ := (RX5, yX5_init, cX5_init, 1, none)
abbrev mX5_splitBank : MI_ := (RX5, yX5_splitBank, cX5_splitBank, 4, none)
abbrev mX5_sumUpFromEachOn : MI_ := (RX5, yX5_sumUpFromEachOn, cX5_sumUpFromEachOn, 3, none)
abbrev mX6_init : MI_ := (RX6, yX6_init, cX6_init, 3, none)
abbrev mX6_findTwo : MI_ := (RX6, yX6_findTwo, cX6_findTwo, 4, none)
abbrev mX6_isHopeless : MI_ := (RX6, yX6_isHopeless, cX6_isHopeless, 2, (some .boolean))
abbrev mX6_meet : MI_ := (RX6, yX6_meet, cX6_meet, 1, none)
abbrev mX6_pairWithOthers : MI_ := (RX6, yX6_pairWithOthers, cX6_pairWithOthers, 8, none)
abbrev mX6_areAlike : MI_ := (RX6, yX6_areAlike, cX6_areAlike, 4, (some .boolean))
abbrev mX6_isBetter : MI_ := (RX6, yX6_isBetter, cX6_isBetter, 5, (some .boolean))
abbrev mX6_countOfBoth : MI_ := (RX6, yX6_countOfBoth, cX6_countOfBoth, 3, (some .int))
abbrev mX7_init : MI_ := (RX7, yX7_init, cX7_init, 3, none)
abbrev mX7_findFewestUnkept : MI_ := (RX7, yX7_findFewestUnkept, cX7_findFewestUnkept, 4, (some .int))
abbrev mX7_isHopeless : MI_ := (RX7, yX7_isHopeless, cX7_isHopeless, 2, (some .boolean))
abbrev mX7_meet : MI_ := (RX7, yX7_meet, cX7_meet, 3, none)
abbrev mX7_keepable : MI_ := (RX7, yX7_keepable, cX7_keepable, 2, (some .int))
abbrev mX8_init : MI_ := (RX8, yX8_init, cX8_init, 1, none)
abbrev mX8_question : MI_ := (RX8, yX8_question, cX8_question, 9, (some .int))
abbrev mX8_passage : MI_ := (RX8, yX8_passage, cX8_passage, 3, (some .boolean))
abbrev mX8_gives : MI_ := (RX8, yX8_gives, cX8_gives, 5, (some .boolean))
abbrev mX8_bound : MI_ := (RX8, yX8_bound, cX8_bound, 5, (some .boolean))
abbrev mX8_profile : MI_ := (RX8, yX8_profile, cX8_profile, 3, (some .boolean))
abbrev mX8_rest : MI_ := (RX8, yX8_rest, cX8_rest, 2, (some .boolean))
abbrev mX8_term : MI_ := (RX8, yX8_term, cX8_term, 1, (some .int))
abbrev mX8_use : MI_ := (RX8, yX8_use, cX8_use, 3, (some .boolean))
abbrev mX8_rests : MI_ := (RX8, yX8_rests, cX8_rests, 2, (some .int))
abbrev mX8_look : MI_ := (RX8, yX8_look, cX8_look, 4, (some .int))
abbrev mX8_best : MI_ := (RX8, yX8_best, cX8_best, 1, (some .int))
abbrev mX8_why : MI_ := (RX8, yX8_why, cX8_why, 1, (some .int))
abbrev mX8_versions : MI_ := (RX8, yX8_versions, cX8_versions, 2, (some .int))
abbrev mX8_second : MI_ := (RX8, yX8_second, cX8_second, 1, (some .int))
abbrev mX8_order : MI_ := (RX8, yX8_order, cX8_order, 2, (some .int))
abbrev mX8_place : MI_ := (RX8, yX8_place, cX8_place, 2, (some .int))
abbrev mX8_told : MI_ := (RX8, yX8_told, cX8_told, 3, (some .int))
abbrev mX8_count : MI_ := (RX8, yX8_count, cX8_count, 2, (some .int))
abbrev mX8_within : MI_ := (RX8, yX8_within, cX8_within, 3, (some .boolean))
abbrev mX8_oneIf : MI_ := (RX8, yX8_oneIf, cX8_oneIf, 1, (some .int))
abbrev mX8_contains : MI_ := (RX8, yX8_contains, cX8_contains, 2, (some .boolean))
abbrev mX8_lowestOf : MI_ := (RX8, yX8_lowestOf, cX8_lowestOf, 1, (some .int))
abbrev mX9_init : MI_ := (RX9, yX9_init, cX9_init, 2, none)
abbrev mX9_lies : MI_ := (RX9, yX9_lies, cX9_lies, 3, (some .boolean))
abbrev mX9_isQuestion : MI_ := (RX9, yX9_isQuestion, cX9_isQuestion, 2, (some .boolean))
abbrev mX9_isSet : MI_ := (RX9, yX9_isSet, cX9_isSet, 2, (some .boolean))
abbrev mX9_has : MI_ := (RX9, yX9_has, cX9_has, 2, (some .boolean))
abbrev mX9_size : MI_ := (RX9, yX9_size, cX9_size, 3, (some .int))
abbrev mX9_question : MI_ := (RX9, yX9_question, cX9_question, 6, (some .int))
abbrev mX9_passage : MI_ := (RX9, yX9_passage, cX9_passage, 3, (some .boolean))
abbrev mX9_gives : MI_ := (RX9, yX9_gives, cX9_gives, 4, (some .boolean))
abbrev mX9_bound : MI_ := (RX9, yX9_bound, cX9_bound, 4, (some .boolean))
abbrev mX9_profile : MI_ := (RX9, yX9_profile, cX9_profile, 3, (some .boolean))
abbrev mX9_rest : MI_ := (RX9, yX9_rest, cX9_rest, 2, (some .boolean))
abbrev mX9_term : MI_ := (RX9, yX9_term, cX9_term, 1, (some .int))
abbrev mX9_use : MI_ := (RX9, yX9_use, cX9_use, 3, (some .boolean))
abbrev mX9_isResting : MI_ := (RX9, yX9_isResting, cX9_isResting, 2, (some .boolean))
abbrev mX9_rests : MI_ := (RX9, yX9_rests, cX9_rests, 2, (some .int))
abbrev mX9_adds : MI_ := (RX9, yX9_adds, cX9_adds, 3, (some .int))
abbrev mX9_sumOf : MI_ := (RX9, yX9_sumOf, cX9_sumOf, 5, (some .int))
abbrev mX9_isFit : MI_ := (RX9, yX9_isFit, cX9_isFit, 4, (some .boolean))
abbrev mX9_brokenBy : MI_ := (RX9, yX9_brokenBy, cX9_brokenBy, 4, (some .int))
abbrev mX9_far : MI_ := (RX9, yX9_far, cX9_far, 2, (some .int))
abbrev mX9_spreadOf : MI_ := (RX9, yX9_spreadOf, cX9_spreadOf, 4, (some .int))
abbrev mX9_look : MI_ := (RX9, yX9_look, cX9_look, 3, (some .int))
abbrev mX9_atHand : MI_ := (RX9, yX9_atHand, cX9_atHand, 3, (some .int))
abbrev mX9_areOnePassage : MI_ := (RX9, yX9_areOnePassage, cX9_areOnePassage, 3, (some .boolean))
abbrev mX9_works : MI_ := (RX9, yX9_works, cX9_works, 6, none)
abbrev mX9_isPaper : MI_ := (RX9, yX9_isPaper, cX9_isPaper, 2, (some .boolean))
abbrev mX9_spread : MI_ := (RX9, yX9_spread, cX9_spread, 4, (some .int))
abbrev mX9_told : MI_ := (RX9, yX9_told, cX9_told, 4, (some .int))
abbrev mX9_isAhead : MI_ := (RX9, yX9_isAhead, cX9_isAhead, 3, (some .boolean))
abbrev mX9_best : MI_ := (RX9, yX9_best, cX9_best, 7, (some .int))
abbrev mX9_isKept : MI_ := (RX9, yX9_isKept, cX9_isKept, 3, (some .boolean))
abbrev mX9_why : MI_ := (RX9, yX9_why, cX9_why, 3, (some .int))
abbrev mX9_versions : MI_ := (RX9, yX9_versions, cX9_versions, 10, (some .int))
abbrev mX9_second : MI_ := (RX9, yX9_second, cX9_second, 1, (some .int))
abbrev mX9_nextRow : MI_ := (RX9, yX9_nextRow, cX9_nextRow, 6, (some .boolean))
abbrev mX9_lays : MI_ := (RX9, yX9_lays, cX9_lays, 6, none)
abbrev mX9_order : MI_ := (RX9, yX9_order, cX9_order, 8, (some .int))
abbrev mX9_place : MI_ := (RX9, yX9_place, cX9_place, 2, (some .int))
abbrev mX9_told_ : MI_ := (RX9, yX9_told_, cX9_told_, 3, (some .int))
abbrev mX9_count : MI_ := (RX9, yX9_count, cX9_count, 2, (some .int))
abbrev mJ6_bitCount_0f7a4 : MI_ := (RJ6, yJ6_bitCount_0f7a4, cJ6_bitCount_0f7a4, 1, (some .int))
abbrev mJ9_abs_0f7a4 : MI_ := (RJ9, yJ9_abs_0f7a4, cJ9_abs_0f7a4, 1, (some .int))
abbrev mJ9_max_7cf53 : MI_ := (RJ9, yJ9_max_7cf53, cJ9_max_7cf53, 2, (some .int))
abbrev mJ9_min_7cf53 : MI_ := (RJ9, yJ9_min_7cf53, cJ9_min_7cf53, 2, (some .int))
abbrev mJ7_fill_53178 : MI_ := (RJ7, yJ7_fill_53178, cJ7_fill_53178, 4, none)
abbrev kcl : List vw_C := [(RX0, TX0, 5), (RX1, TX1, 8), (RX2, TX2, 3), (RX3, TX3, 10), (RX5, TX5, 5), (RX6, TX6, 13), (RX7, TX7, 6), (RX8, TX8, 9), (RX9, TX9, 30)]
/-- the words of the tables that every state of the run keeps -/
def ex6 : List Cond := [.selects RX1 yX4_take yX4_take, .selects RX1 yX4_drop yX4_drop, .selects RX6 yX4_take yX4_take, .selects RX6 yX4_drop yX4_drop, .selects RX7 yX4_take yX4_take, .selects RX7 yX4_drop yX4_drop]
/-- private methods of the searches' superclass: words that follow from the tables' (sel_up) -/
theorem ex6_good : ex6.all goodWord = true := by decide +kernel
def TB_ : List Cond := lw_tbl.filter goodWord ++ ex6
theorem tb_1 {w : Cond} (i : Nat) (h : lw_tbl[i]? = some w) (g : goodWord w = true) : w ∈ TB_ := List.mem_append_left _ (List.mem_filter.mpr ⟨List.mem_of_getElem? h, g⟩)
theorem tb_l (ws : List Cond) (ps : List Nat) (hp : ws = ps.filterMap (fun i => lw_tbl[i]?)) (h : ws.all goodWord = true) : ∀ w ∈ ws, w ∈ TB_ := by
  intro w hw
  have h1 := List.all_eq_true.mp h w hw
  rw [hp] at hw
  obtain ⟨i, -, hi⟩ := List.mem_filterMap.mp hw
  exact tb_1 i hi h1
theorem tb_gw {w : Cond} (h : w ∈ TB_) : goodWord w = true := by
  rcases List.mem_append.mp h with h | h
  · exact (List.mem_filter.mp h).2
  · exact List.all_eq_true.mp ex6_good w h
theorem tb_good {ws : List Cond} (h : ∀ w ∈ ws, w ∈ TB_) : GoodIn TB_ ws := fun w hw => ⟨h w hw, good_of_word (tb_gw (h w hw))⟩
theorem tb_x (i : Nat) {w : Cond} (h : ex6[i]? = some w) : w ∈ TB_ := List.mem_append_right _ (List.mem_of_getElem? h)
theorem kx_0 : Cond.selects RX1 yX4_take yX4_take ∈ TB_ := tb_x 0 rfl
theorem kx_1 : Cond.selects RX1 yX4_drop yX4_drop ∈ TB_ := tb_x 1 rfl
theorem kx_2 : Cond.selects RX6 yX4_take yX4_take ∈ TB_ := tb_x 2 rfl
theorem kx_3 : Cond.selects RX6 yX4_drop yX4_drop ∈ TB_ := tb_x 3 rfl
theorem kx_4 : Cond.selects RX7 yX4_take yX4_take ∈ TB_ := tb_x 4 rfl
theorem kx_5 : Cond.selects RX7 yX4_drop yX4_drop ∈ TB_ := tb_x 5 rfl
theorem sel_up {args : Array Value} {s : State} {C : String} {x z y : MethodName} (h1 : (Cond.selects C x z).before args s = true) (hz : z.cls = y.cls) (hpriv : (Cond.privateMethod y).before args s = true) (hinst : (Cond.instanceMethod y).before args s = true) (hy : y.cls ≠ "java/lang/invoke/MethodHandle" ∧ y.cls ≠ "java/lang/invoke/VarHandle") : (Cond.selects C y y).before args s = true := by
  obtain ⟨c, r, m, hc, -, hm, -, mk, hmk, hni⟩ := Cond.selects_spec h1
  obtain ⟨my, methM, hnamed, hmethM, -, -⟩ := Cond.instanceMethod_spec hinst
  have hfound : s.methodFound? y.cls y.name y.desc = some my := State.methodFound?_of_named hnamed hy
  have hcls : my.cls = m.cls := by
    have e1 := findClass_of_methodNamed hnamed
    have e2 := findClass_of_methodNamed hm
    rw [hz] at e2
    exact Option.some.inj (e1.symm.trans e2)
  have hsel : selectMethod {} s.vm c my = .method my := selectMethod_private hmethM (Cond.privateMethod_at hpriv my methM hnamed hmethM)
  simp only [Cond.before, Cond.holds, Cond.value, hc, hfound, hnamed, hsel, hcls, hmk]
  simp; exact hni
