/-! THE CLASS: look, count, best, why's walk -/
theorem Call.lv {E : En} {d d' : Nat} {M : MI_} {args : List PV} {mem : Mem} {Q : Int32 → Mem → Prop} (e : d = d') (h : Call E d M args mem Q) : Call E d' M args mem Q := e ▸ h
theorem out_ab {x : Int32} {a b : Nat} (ha : a < 2 ^ 31) (hb : b < 2 ^ 31) (h : decide (nI a ≤ x ∧ x ≤ nI b) = false) : x.toInt < (a : Int) ∨ (b : Int) < x.toInt := by
  have h := of_decide_eq_false h
  rw [Int32.le_iff_toInt_le, Int32.le_iff_toInt_le, nI_toInt ha, nI_toInt hb] at h
  omega
def lookS (B : BD) (L : LD) (s : Nat) (w : Int32) : Int32 := if decide (10 ≤ w ∧ w ≤ 19) then nI (sumN B s (w.toNatClampNeg - 10)) else if w = 0 then b2 (fitB B s) else if w = 1 then b2 (fitB B s && decide (brokenB L (sumN B s) noMo = 0)) else if w = 2 then nI (spreadB L (sumN B s) noMo) else if w = 3 then nI (brokenB L (sumN B s) noMo) else -1
def lookV (B : BD) (L : LD) (x w : Int32) : Int32 := if setB B x then lookS B L x.toNatClampNeg w else -1
def countV (S : AS) (w : Int32) : Int32 := if w = 0 then nI (bN S.1) else if w = 1 then nI (handB S.1) else if w = 2 then nI (bT S.1) else if w = 3 then nI (bR S.1) else if w = 4 then nI S.2.2.2.2.1 else if w = 5 then nI S.2.2.2.1 else -1
section LK
variable {E : En} {d : Nat} {mem : Mem} {Q : Int32 → Mem → Prop} {S : AS}
theorem look_ok {x w : Int32} (hC : Ck S mem) (hWF : WFS S) (hQ : ∀ mem', Fc mem mem' → Ck S mem' → Q (lookV S.1 S.2.1 x w) mem') : Call E (d + 3) mX8_look [pR 0 0, pI x, pI w] mem Q := by
  refine Call.of [some (pR 0 0), some (pI x), some (pI w), none] mk_X8_look rfl (Nat.le_of_ble_eq_true rfl) (fun _ => ?_)
  have hB := hC.1
  have h24 := hWF.1.1
  refine r_aload_0 (q := 1) dX8_look_0 rfl ?_
  refine r_getR (k := 0) (q := 4) f_RX8_12_7 rfl rfl dX8_look_1 rfl ?_
  refine r_iload_1 (q := 5) dX8_look_4 rfl ?_
  refine r_callV1i (M' := mX0_hasAll) (q := 8) mk_X0_hasAll mi_X0_hasAll k_368 rfl rfl rfl rfl (Nat.le_of_ble_eq_true rfl) rm_xm dX8_look_5 rfl (hasAll_ok hB ?_)
  refine r_if_ne (q := 11) 13 dX8_look_8 (by decide) rfl (fun h8 => ?_) (fun h8 => ?_)
  · have h8 : setB S.1 x = true := b2_ne0.mp h8
    obtain ⟨s, hs, rfl⟩ := setB_ex hWF.1 h8
    have hs24 : s < 2 ^ 24 := Nat.lt_of_lt_of_le hs (pw_le h24)
    unfold lookV at hQ
    rw [h8, if_pos rfl, nI_clamp (pw24 hs24)] at hQ
    refine r_aload_0 (q := 14) dX8_look_13 rfl ?_
    refine r_getR (k := 0) (q := 17) f_RX8_12_7 rfl rfl dX8_look_14 rfl ?_
    refine r_iload_1 (q := 18) dX8_look_17 rfl ?_
    refine r_aload_0 (q := 19) dX8_look_18 rfl ?_
    refine r_getR (k := 7) (q := 22) f_RX8_60_7 rfl rfl dX8_look_19 rfl ?_
    refine r_callV2v (M' := mX0_sumUp) (q := 25) mk_X0_sumUp mi_X0_sumUp k_387 rfl rfl rfl rfl (Nat.le_of_ble_eq_true rfl) rm_xm dX8_look_22 rfl (sumUp_ok hB hWF.1 hs24 rfl ?_)
    generalize hm1 : mrow mem 35 0 (sumRow S.1 s (mem 35 0) 10) = m1
    have hF1 : Fr [35] mem m1 := by rw [← hm1]; exact Fr.rf.mrow (by simp)
    have e35 : ∀ b, b < 10 → m1 35 0 b = nI (sumN S.1 s b) := fun b hb => by rw [← hm1, mrow_at]; unfold sumRow; rw [if_pos hb]
    clear hm1
    have hC1 : Ck S m1 := hC.fr hF1 (by simp)
    have hQ1 := hQ m1 (Fc.fr Fc.rf hF1 (by simp)) hC1
    have hrd : rdA m1 35 0 10 (fun i => nI (sumN S.1 s i)) := Or.inl ⟨rfl, e35⟩
    have hno : ∀ i, i < 10 → noMo i ≤ 100000 := fun _ _ => Nat.zero_le _
    have hbl := brokenB_lt S.2.1 (sumN S.1 s) noMo
    refine r_iload_2 (q := 26) dX8_look_25 rfl ?_
    refine r_bipush (q := 28) 10 (by decide) dX8_look_26 rfl ?_
    refine r_bipush (q := 30) 19 (by decide) dX8_look_28 rfl ?_
    refine r_callS3i (M' := mX8_within) (q := 33) mk_X8_within ms_X8_within k_329 rfl (Nat.le_of_ble_eq_true rfl) rm_xm dX8_look_30 rfl (within_ok ?_)
    refine r_if_eq (q := 36) 46 dX8_look_33 (by decide) rfl (fun h33 => ?_) (fun h33 => ?_)
    · have h33 := b2_eq0.mp h33
      unfold lookS at hQ1
      rw [h33] at hQ1
      refine r_aload_0 (q := 47) dX8_look_46 rfl ?_
      refine r_getR (k := 1) (q := 50) f_RX8_19_7 rfl rfl dX8_look_47 rfl ?_
      refine r_aload_0 (q := 51) dX8_look_50 rfl ?_
      refine r_getR (k := 7) (q := 54) f_RX8_60_7 rfl rfl dX8_look_51 rfl ?_
      refine r_gets (q := 57) k_396 dX8_look_54 rfl ?_
      refine r_callV2i (M' := mX2_surelyBroken) (q := 60) mk_X2_surelyBroken mi_X2_surelyBroken k_398 rfl rfl rfl rfl (Nat.le_of_ble_eq_true rfl) rm_xm dX8_look_57 rfl (surelyBroken_ok hC1.2.1 hWF.2.1 hrd rd_no (sums_le hWF.1 s) hno ?_)
      refine r_istore_3 (q := 61) (by decide) dX8_look_60 rfl ?_
      refine r_iload_2 (q := 62) dX8_look_61 rfl ?_
      cases h03 : decide (0 ≤ w ∧ w ≤ 3) with
      | false =>
        have ho := out_ab (a := 0) (b := 3) (by decide) (by decide) h03
        have n0 : ¬ w = 0 := fun z => by subst z; cases h03
        have n1 : ¬ w = 1 := fun z => by subst z; cases h03
        have n2 : ¬ w = 2 := fun z => by subst z; cases h03
        have n3 : ¬ w = 3 := fun z => by subst z; cases h03
        rw [if_neg n0, if_neg n1, if_neg n2, if_neg n3] at hQ1
        refine r_tabO 145 dX8_look_62 ho (by decide) ?_
        refine r_iconst (q := 146) (-1) (by decide) dX8_look_145 rfl ?_
        refine r_iret rfl dX8_look_146 (?_)
        exact hQ1
      | true =>
        obtain ⟨j, -, hj, rfl⟩ := in_ab (a := 0) (b := 3) (by decide) (by decide) h03
        rcases (by omega : j = 0 ∨ j = 1 ∨ j = 2 ∨ j = 3) with rfl | rfl | rfl | rfl
        · refine r_tabI 92 dX8_look_62 (by decide) (by decide) rfl (by decide) ?_
          rw [if_neg (by decide), if_pos (by decide)] at hQ1
          refine r_aload_0 (q := 93) dX8_look_92 rfl ?_
          refine r_getR (k := 0) (q := 96) f_RX8_12_7 rfl rfl dX8_look_93 rfl ?_
          refine r_iload_1 (q := 97) dX8_look_96 rfl ?_
          refine r_callV1i (M' := mX0_isFit) (q := 100) mk_X0_isFit mi_X0_isFit k_402 rfl rfl rfl rfl (Nat.le_of_ble_eq_true rfl) rm_xm dX8_look_97 rfl (isFit_ok hC1.1 hWF.1 hs24 ?_)
          refine r_callS1i (M' := mX8_oneIf) (q := 103) mk_X8_oneIf ms_X8_oneIf k_380 rfl (Nat.le_of_ble_eq_true rfl) rm_xm dX8_look_100 rfl (oneIf_ok ?_)
          refine r_iret rfl dX8_look_103 (?_)
          exact hQ1
        · refine r_tabI 104 dX8_look_62 (by decide) (by decide) rfl (by decide) ?_
          rw [if_neg (by decide), if_neg (by decide), if_pos (by decide)] at hQ1
          have J : ∀ c : Bool, c = (fitB S.1 s && decide (brokenB S.2.1 (sumN S.1 s) noMo = 0)) → Wp E (xm E (d + 3) mX8_look Q) mX8_look 124 [some (pR 0 0), some (pI (nI s)), some (pI (nI 1)), some (pI (nI (brokenB S.2.1 (sumN S.1 s) noMo)))] [pI (b2 c)] m1 := by
            intro c hc
            rw [← hc] at hQ1
            refine r_callS1i (M' := mX8_oneIf) (q := 127) mk_X8_oneIf ms_X8_oneIf k_380 rfl (Nat.le_of_ble_eq_true rfl) rm_xm dX8_look_124 rfl (oneIf_ok ?_)
            refine r_iret rfl dX8_look_127 (?_)
            exact hQ1
          refine r_aload_0 (q := 105) dX8_look_104 rfl ?_
          refine r_getR (k := 0) (q := 108) f_RX8_12_7 rfl rfl dX8_look_105 rfl ?_
          refine r_iload_1 (q := 109) dX8_look_108 rfl ?_
          refine r_callV1i (M' := mX0_isFit) (q := 112) mk_X0_isFit mi_X0_isFit k_402 rfl rfl rfl rfl (Nat.le_of_ble_eq_true rfl) rm_xm dX8_look_109 rfl (isFit_ok hC1.1 hWF.1 hs24 ?_)
          refine r_if_eq (q := 115) 123 dX8_look_112 (by decide) rfl (fun h112 => ?_) (fun h112 => ?_)
          · refine r_iconst (q := 124) 0 (by decide) dX8_look_123 rfl ?_
            exact J false (by rw [b2_eq0.mp h112]; rfl)
          · refine r_iload_3 (q := 116) dX8_look_115 rfl ?_
            refine r_if_ne (q := 119) 123 dX8_look_116 (by decide) rfl (fun h116 => ?_) (fun h116 => ?_)
            · refine r_iconst (q := 124) 0 (by decide) dX8_look_123 rfl ?_
              exact J false (by rw [decide_eq_false (fun z => h116 (by rw [z]; rfl)), Bool.and_false])
            · refine r_iconst (q := 120) 1 (by decide) dX8_look_119 rfl ?_
              refine r_goto 124 dX8_look_120 (by decide) ?_
              exact J true (by rw [b2_ne0.mp h112, decide_eq_true ((nI_zero_iff (by omega)).mp h116)]; rfl)
        · refine r_tabI 128 dX8_look_62 (by decide) (by decide) rfl (by decide) ?_
          rw [if_neg (by decide), if_neg (by decide), if_neg (by decide), if_pos (by decide)] at hQ1
          refine r_aload_0 (q := 129) dX8_look_128 rfl ?_
          refine r_getR (k := 1) (q := 132) f_RX8_19_7 rfl rfl dX8_look_129 rfl ?_
          refine r_aload_0 (q := 133) dX8_look_132 rfl ?_
          refine r_getR (k := 7) (q := 136) f_RX8_60_7 rfl rfl dX8_look_133 rfl ?_
          refine r_gets (q := 139) k_396 dX8_look_136 rfl ?_
          refine r_callV2i (M' := mX2_leastSpread) (q := 142) mk_X2_leastSpread mi_X2_leastSpread k_415 rfl rfl rfl rfl (Nat.le_of_ble_eq_true rfl) rm_xm dX8_look_139 rfl (leastSpread_ok hC1.2.1 hWF.2.1 hrd rd_no (sums_le hWF.1 s) hno ?_)
          refine r_iret rfl dX8_look_142 (?_)
          exact hQ1
        · refine r_tabI 143 dX8_look_62 (by decide) (by decide) rfl (by decide) ?_
          rw [if_neg (by decide), if_neg (by decide), if_neg (by decide), if_neg (by decide), if_pos (by decide)] at hQ1
          refine r_iload_3 (q := 144) dX8_look_143 rfl ?_
          refine r_iret rfl dX8_look_144 (?_)
          exact hQ1
    · have h33 := b2_ne0.mp h33
      obtain ⟨w', hw1, hw2, rfl⟩ := in_ab (a := 10) (b := 19) (by decide) (by decide) h33
      unfold lookS at hQ1
      rw [h33, if_pos rfl, nI_clamp (by omega)] at hQ1
      refine r_aload_0 (q := 37) dX8_look_36 rfl ?_
      refine r_getR (k := 7) (q := 40) f_RX8_60_7 rfl rfl dX8_look_37 rfl ?_
      refine r_iload_2 (q := 41) dX8_look_40 rfl ?_
      refine r_bipush (q := 43) 10 (by decide) dX8_look_41 rfl ?_
      refine r_isub (q := 44) dX8_look_43 rfl ?_
      refine r_iald (q := 45) (w' - 10) (pk_sub (b := 10) hw1) rfl (by omega) dX8_look_44 rfl ?_
      rw [e35 (w' - 10) (by omega)]
      refine r_iret rfl dX8_look_45 (?_)
      exact hQ1
  · have h8 : setB S.1 x = false := b2_eq0.mp h8
    unfold lookV at hQ
    rw [h8] at hQ
    refine r_iconst (q := 12) (-1) (by decide) dX8_look_11 rfl ?_
    refine r_iret rfl dX8_look_12 (?_)
    exact hQ mem Fc.rf hC
theorem count_ok {w : Int32} (hC : Ck S mem) (hWF : WFS S) (hQ : Q (countV S w) mem) : Call E (d + 2) mX8_count [pR 0 0, pI w] mem Q := by
  refine Call.of [some (pR 0 0), some (pI w)] mk_X8_count rfl (Nat.le_of_ble_eq_true rfl) (fun _ => ?_)
  have hB := hC.1
  have hO := hC.2.2.2.2.1
  refine r_iload_1 (q := 1) dX8_count_0 rfl ?_
  unfold countV at hQ
  cases h05 : decide (0 ≤ w ∧ w ≤ 5) with
  | false =>
    have ho := out_ab (a := 0) (b := 5) (by decide) (by decide) h05
    have n0 : ¬ w = 0 := fun z => by subst z; cases h05
    have n1 : ¬ w = 1 := fun z => by subst z; cases h05
    have n2 : ¬ w = 2 := fun z => by subst z; cases h05
    have n3 : ¬ w = 3 := fun z => by subst z; cases h05
    have n4 : ¬ w = 4 := fun z => by subst z; cases h05
    have n5 : ¬ w = 5 := fun z => by subst z; cases h05
    rw [if_neg n0, if_neg n1, if_neg n2, if_neg n3, if_neg n4, if_neg n5] at hQ
    refine r_tabO 88 dX8_count_1 ho (by decide) ?_
    refine r_iconst (q := 89) (-1) (by decide) dX8_count_88 rfl ?_
    refine r_iret rfl dX8_count_89 (?_)
    exact hQ
  | true =>
    obtain ⟨j, -, hj, rfl⟩ := in_ab (a := 0) (b := 5) (by decide) (by decide) h05
    rcases (by omega : j = 0 ∨ j = 1 ∨ j = 2 ∨ j = 3 ∨ j = 4 ∨ j = 5) with rfl | rfl | rfl | rfl | rfl | rfl
    · refine r_tabI 40 dX8_count_1 (by decide) (by decide) rfl (by decide) ?_
      refine r_aload_0 (q := 41) dX8_count_40 rfl ?_
      refine r_getR (k := 0) (q := 44) f_RX8_12_7 rfl rfl dX8_count_41 rfl ?_
      refine r_getI (k := 2) (q := 47) f_RX8_72_0 rfl rfl dX8_count_44 rfl ?_
      rw [hB.1]
      refine r_iret rfl dX8_count_47 (?_)
      exact hQ
    · refine r_tabI 48 dX8_count_1 (by decide) (by decide) rfl (by decide) ?_
      refine r_aload_0 (q := 49) dX8_count_48 rfl ?_
      refine r_getR (k := 0) (q := 52) f_RX8_12_7 rfl rfl dX8_count_49 rfl ?_
      refine r_callV0i (M' := mX0_countAtHand) (q := 55) mk_X0_countAtHand mi_X0_countAtHand k_426 rfl rfl rfl rfl (Nat.le_of_ble_eq_true rfl) rm_xm dX8_count_52 rfl (countAtHand_ok hB hWF.1 ?_)
      refine r_iret rfl dX8_count_55 (?_)
      exact hQ
    · refine r_tabI 56 dX8_count_1 (by decide) (by decide) rfl (by decide) ?_
      refine r_aload_0 (q := 57) dX8_count_56 rfl ?_
      refine r_getR (k := 0) (q := 60) f_RX8_12_7 rfl rfl dX8_count_57 rfl ?_
      refine r_getI (k := 3) (q := 63) f_RX8_102_0 rfl rfl dX8_count_60 rfl ?_
      rw [hB.2.1]
      refine r_iret rfl dX8_count_63 (?_)
      exact hQ
    · refine r_tabI 64 dX8_count_1 (by decide) (by decide) rfl (by decide) ?_
      refine r_aload_0 (q := 65) dX8_count_64 rfl ?_
      refine r_getR (k := 0) (q := 68) f_RX8_12_7 rfl rfl dX8_count_65 rfl ?_
      refine r_getI (k := 4) (q := 71) f_RX8_99_0 rfl rfl dX8_count_68 rfl ?_
      rw [hB.2.2.1]
      refine r_iret rfl dX8_count_71 (?_)
      exact hQ
    · refine r_tabI 72 dX8_count_1 (by decide) (by decide) rfl (by decide) ?_
      refine r_aload_0 (q := 73) dX8_count_72 rfl ?_
      refine r_getR (k := 6) (q := 76) f_RX8_56_7 rfl rfl dX8_count_73 rfl ?_
      refine r_getI (k := 9) (q := 79) f_RX8_172_3 rfl rfl dX8_count_76 rfl ?_
      rw [hO.2.1]
      refine r_iret rfl dX8_count_79 (?_)
      exact hQ
    · refine r_tabI 80 dX8_count_1 (by decide) (by decide) rfl (by decide) ?_
      refine r_aload_0 (q := 81) dX8_count_80 rfl ?_
      refine r_getR (k := 6) (q := 84) f_RX8_56_7 rfl rfl dX8_count_81 rfl ?_
      refine r_getI (k := 7) (q := 87) f_RX8_166_3 rfl rfl dX8_count_84 rfl ?_
      rw [hO.1]
      refine r_iret rfl dX8_count_87 (?_)
      exact hQ
/-! the units are apart -/
theorem wholeB_tb (B : BD) (q i : Nat) : (wholeB B q).testBit i = (decide (q = i) || (decide (i < bN B) && mateB B q i)) := by
  unfold wholeB
  rw [Nat.testBit_or, tb_pow, bset_tb]
theorem whole_mem {B : BD} {q i : Nat} (h : (wholeB B q).testBit i = true) : i = q ∨ (¬ bF B q 5 = -1 ∧ bF B i 5 = bF B q 5 ∧ i < bN B) := by
  rw [wholeB_tb, Bool.or_eq_true, Bool.and_eq_true] at h
  rcases h with h | ⟨h1, h2⟩
  · exact Or.inl (of_decide_eq_true h).symm
  · have := of_decide_eq_true h2
    exact Or.inr ⟨this.1, this.2, of_decide_eq_true h1⟩
/-- two questions whose wholes meet have one whole -/
theorem whole_eq {B : BD} {q r i : Nat} (hq : q < bN B) (hr : r < bN B) (h1 : (wholeB B q).testBit i = true) (h2 : (wholeB B r).testBit i = true) : wholeB B q = wholeB B r := by
  by_cases e : q = r
  · rw [e]
  · have key : ¬ bF B q 5 = -1 ∧ bF B q 5 = bF B r 5 := by
      rcases whole_mem h1 with a1 | ⟨a1, a2, a3⟩ <;> rcases whole_mem h2 with b1 | ⟨b1, b2, b3⟩
      · exact absurd (a1.symm.trans b1) e
      · subst a1; exact ⟨by rw [b2]; exact b1, b2⟩
      · subst b1; exact ⟨a1, a2.symm⟩
      · exact ⟨a1, a2.symm.trans b2⟩
    apply tb_ext
    intro x
    rw [wholeB_tb, wholeB_tb]
    have hm : mateB B q x = mateB B r x := by
      unfold mateB
      rw [key.2]
    have hqq : mateB B q q = true := decide_eq_true ⟨key.1, rfl⟩
    have hrr : mateB B r r = true := decide_eq_true ⟨by rw [← key.2]; exact key.1, rfl⟩
    rw [hm]
    by_cases e1 : q = x
    · subst e1
      rw [show mateB B r q = true from hm ▸ hqq]
      simp [hq]
    · by_cases e2 : r = x
      · subst e2
        rw [hrr]
        simp [hr]
      · simp [e1, e2]
theorem unitsT_ex (B : BD) : ∀ (k j : Nat), j < (unitsT B k).length → ∃ q, q < k ∧ isU B q = true ∧ (unitsT B k).getD j 0 = wholeB B q ∧ (unitsT B q).length = j
  | 0, j, h => absurd h (Nat.not_lt_zero j)
  | k + 1, j, h => by
    have eu : unitsT B (k + 1) = if isU B k then unitsT B k ++ [wholeB B k] else unitsT B k := rfl
    rw [eu] at h ⊢
    by_cases hu : isU B k = true
    · rw [if_pos hu] at h ⊢
      rw [List.length_append, List.length_singleton] at h
      by_cases hj : j < (unitsT B k).length
      · obtain ⟨q, h1, h2, h3, h4⟩ := unitsT_ex B k j hj
        refine ⟨q, by omega, h2, ?_, h4⟩
        rw [List.getD_eq_getElem?_getD, List.getElem?_append_left hj, ← List.getD_eq_getElem?_getD]
        exact h3
      · have : j = (unitsT B k).length := by omega
        subst this
        refine ⟨k, by omega, hu, ?_, rfl⟩
        rw [List.getD_eq_getElem?_getD, List.getElem?_append_right (Nat.le_refl _), Nat.sub_self]
        rfl
    · rw [if_neg hu] at h ⊢
      obtain ⟨q, h1, h2, h3, h4⟩ := unitsT_ex B k j h
      exact ⟨q, by omega, h2, h3, h4⟩
theorem lowQ_inj {s q r : Nat} (h1 : lowQ s q = true) (h2 : lowQ s r = true) : q = r := by
  unfold lowQ at h1 h2
  rw [Bool.and_eq_true] at h1 h2
  rcases Nat.lt_trichotomy q r with h | h | h
  · have := (allb_iff _ _).mp h2.2 q h
    rw [h1.1] at this
    cases this
  · exact h
  · have := (allb_iff _ _).mp h1.2 r h
    rw [h2.1] at this
    cases this
theorem units_ok {B : BD} (hW : WFB B) (hh : handB B ≤ 16) : UsOK (unitsB B) := by
  refine ⟨Nat.le_trans (unitsT_hand B (Nat.le_refl _)) hh, fun i hi => ?_, fun i j hij hj => ?_⟩
  · obtain ⟨q, h1, h2, h3, -⟩ := unitsT_ex B (bN B) i hi
    unfold unitsB
    rw [h3]
    exact wholeB_lt hW h1
  · obtain ⟨q, h1, h2, h3, h4⟩ := unitsT_ex B (bN B) i (Nat.lt_trans hij hj)
    obtain ⟨r, g1, g2, g3, g4⟩ := unitsT_ex B (bN B) j hj
    unfold unitsB
    rw [h3, g3]
    apply and_zero_iff.mpr
    intro x ⟨a, b⟩
    have e := whole_eq h1 g1 a b
    unfold isU at h2 g2
    rw [Bool.and_eq_true] at h2 g2
    rw [← e] at g2
    have := lowQ_inj h2.1 g2.1
    subst this
    omega
def bestV (B : BD) (L : LD) : Int32 := if handB B ≤ 16 then bsv (walkP (hop16 B L) (mt16 B L) (clashB B) (unitsB B) 0 0 0 (none, 1000000, 0)).1 else -1
theorem findBest_ok {B : BD} {L : LD} {Us : List Nat} (hW : WFB B) (hWL : WFL L) (hO : UsOK Us) (hU : Uk B Us mem) (hL : Lk L mem) (hS : Sk 16 17 0 0 z10 mem) (hQ : ∀ mem', Fr fr16 mem mem' → Sk 16 17 0 0 z10 mem' → Q (bsv (walkP (hop16 B L) (mt16 B L) (clashB B) Us 0 0 0 (none, 1000000, 0)).1) mem') : Call E (d + 21) mX1_findBest [pR 16 0] mem Q := by
  refine Call.of [some (pR 16 0)] mk_X1_findBest rfl (Nat.le_of_ble_eq_true rfl) (fun _ => ?_)
  have hl := hO.1
  refine r_aload_0 (q := 1) dX1_findBest_0 rfl ?_
  refine r_bipush (q := 3) (-2) (by decide) dX1_findBest_1 rfl ?_
  refine r_put (k := 5) (q := 6) f_RX1_9_1 pf_1_5 rfl rfl dX1_findBest_3 rfl ?_
  refine r_aload_0 (q := 7) dX1_findBest_6 rfl ?_
  refine r_ldc (q := 9) k_150 dX1_findBest_7 rfl ?_
  refine r_put (k := 6) (q := 12) f_RX1_16_1 pf_1_6 rfl rfl dX1_findBest_9 rfl ?_
  refine r_aload_0 (q := 13) dX1_findBest_12 rfl ?_
  refine r_iconst (q := 14) 0 (by decide) dX1_findBest_13 rfl ?_
  refine r_put (k := 7) (q := 17) f_RX1_19_1 pf_1_7 rfl rfl dX1_findBest_14 rfl ?_
  generalize hm1 : mset (mset (mset mem 16 0 5 (-2)) 16 0 6 1000000) 16 0 7 0 = m1
  have hF1 : Fr [16] mem m1 := by rw [← hm1]; exact ((Fr.rf.mset (by simp)).mset (by simp)).mset (by simp)
  have hS1 : Sk 16 17 0 0 z10 m1 := by
    refine ⟨?_, ?_, fun b hb => by rw [hF1 17 (by decide)]; exact hS.2.2 b hb⟩
    · rw [← hm1]; exact hS.1
    · rw [← hm1]; exact hS.2.1
  have hR1 : R16 (none, 1000000, 0) m1 := by rw [← hm1]; exact ⟨rfl, rfl, rfl, Nat.le_refl _, by decide⟩
  clear hm1
  refine r_aload_0 (q := 18) dX1_findBest_17 rfl ?_
  refine r_callU0v (M' := mX4_walkAll) (x := ⟨"PaperSetter$BestSearch", "walkAll", "()V"⟩) (owner := "PaperSetter$Search") (r := (RX1, TX1, 8)) (q := 21) mk_X4_walkAll k_457 k_456 k_454 (Or.inl rfl) (by decide +kernel) k_453 rfl rfl rfl (Nat.le_of_ble_eq_true rfl) rm_xm dX1_findBest_18 rfl (Call.lv (show (d + (16 - Us.length)) + Us.length + 4 = d + 20 by omega) (walkAll16_ok hW hWL hO trivial (hU.fr hF1 (by decide) (by decide) (by decide) (by decide) (by decide)) (hL.fr hF1 (by decide) (by decide) (by decide)) hS1 hR1 (fun m2 hF2 hS2 hR2 => ?_)))
  refine r_aload_0 (q := 22) dX1_findBest_21 rfl ?_
  refine r_getI (k := 5) (q := 25) f_RX1_9_1 rfl rfl dX1_findBest_22 rfl ?_
  rw [hR2.1]
  refine r_iret rfl dX1_findBest_25 (?_)
  exact hQ m2 ((hF1.mono (by decide)).tr hF2) hS2
theorem Ck.frB {S : AS} {a b : Mem} (h : Ck S a) (hF : Fr (fr16 ++ (fr18 ++ (fr21 ++ [9, 10, 11, 13, 15, 35]))) a b) (h16 : Sk 16 17 0 0 z10 b) (h18 : Sk 18 19 0 0 z10 b) (h21 : Sk 21 22 0 0 z10 b) : Ck S b := by
  obtain ⟨h1, h2, h3, -, h5⟩ := h
  refine ⟨h1.fr hF (by decide) (by decide) (by decide), h2.fr hF (by decide) (by decide) (by decide), by rw [hF 0 (by decide)]; exact h3, ⟨h16, h18, h21⟩, ?_⟩
  rw [hF 27 (by decide), hF 34 (by decide), hF 33 (by decide)]
  exact h5
theorem Sk.fr {g gs set tk : Nat} {S : Nat → Nat} {fs : List Nat} {a b : Mem} (h : Sk g gs set tk S a) (hF : Fr fs a b) (h1 : g ∉ fs) (h2 : gs ∉ fs) : Sk g gs set tk S b := by
  unfold Sk
  rw [hF g h1, hF gs h2]
  exact h
theorem best_ok (hC : Ck S mem) (hWF : WFS S) (hQ : ∀ mem', Fc mem mem' → Ck S mem' → Q (bestV S.1 S.2.1) mem') : Call E (d + 22) mX8_best [pR 0 0] mem Q := by
  refine Call.of [some (pR 0 0)] mk_X8_best rfl (Nat.le_of_ble_eq_true rfl) (fun _ => ?_)
  have hB := hC.1
  have h24 := hWF.1.1
  have hh : handB S.1 ≤ 24 := Nat.le_trans (cnt_le _ _) h24
  refine r_aload_0 (q := 1) dX8_best_0 rfl ?_
  refine r_getR (k := 0) (q := 4) f_RX8_12_7 rfl rfl dX8_best_1 rfl ?_
  refine r_callV0i (M' := mX0_countAtHand) (q := 7) mk_X0_countAtHand mi_X0_countAtHand k_426 rfl rfl rfl rfl (Nat.le_of_ble_eq_true rfl) rm_xm dX8_best_4 rfl (countAtHand_ok hB hWF.1 ?_)
  refine r_bipush (q := 9) 16 (by decide) dX8_best_7 rfl ?_
  unfold bestV at hQ
  refine r_icmp_le (q := 12) 14 dX8_best_9 (by decide) rfl (fun h9 => ?_) (fun h9 => ?_)
  · have h16 := nI_ge_of (b := 16) (by omega) (by decide) h9
    rw [if_pos h16] at hQ
    refine r_aload_0 (q := 15) dX8_best_14 rfl ?_
    refine r_getR (k := 2) (q := 18) f_RX8_26_7 rfl rfl dX8_best_15 rfl ?_
    refine r_aload_0 (q := 19) dX8_best_18 rfl ?_
    refine r_getR (k := 0) (q := 22) f_RX8_12_7 rfl rfl dX8_best_19 rfl ?_
    refine r_callV1v (M' := mX5_splitBank) (q := 25) mk_X5_splitBank mi_X5_splitBank k_430 rfl rfl rfl rfl (Nat.le_of_ble_eq_true rfl) rm_xm dX8_best_22 rfl (splitBank_ok hB hWF.1 h16 (fun m1 hF1 hU1 => ?_))
    refine r_aload_0 (q := 26) dX8_best_25 rfl ?_
    refine r_getR (k := 3) (q := 29) f_RX8_35_7 rfl rfl dX8_best_26 rfl ?_
    refine r_callV0i (M' := mX1_findBest) (q := 32) mk_X1_findBest mi_X1_findBest k_449 rfl rfl rfl rfl (Nat.le_of_ble_eq_true rfl) rm_xm dX8_best_29 rfl (findBest_ok hWF.1 hWF.2.1 (units_ok hWF.1 h16) hU1 (hC.2.1.fr hF1 (by decide) (by decide) (by decide)) (hC.2.2.2.1.1.fr hF1 (by decide) (by decide)) (fun m2 hF2 hS2 => ?_))
    have hF : Fr (fr16 ++ (fr18 ++ (fr21 ++ [9, 10, 11, 13, 15, 35]))) mem m2 := (hF1.mono (by decide)).tr (hF2.mono (by decide))
    have hF' : Fr (fr16 ++ [9, 10, 11, 13, 15]) mem m2 := (hF1.mono (by decide)).tr (hF2.mono (by decide))
    refine r_iret rfl dX8_best_32 (?_)
    exact hQ m2 (Fc.fr Fc.rf hF (by decide)) (hC.frB hF hS2 (hC.2.2.2.1.2.1.fr hF' (by decide) (by decide)) (hC.2.2.2.1.2.2.fr hF' (by decide) (by decide)))
  · have h16 : ¬ handB S.1 ≤ 16 := fun z => h9 (nI_le z (by decide))
    rw [if_neg h16] at hQ
    refine r_iconst (q := 13) (-1) (by decide) dX8_best_12 rfl ?_
    refine r_iret rfl dX8_best_13 (?_)
    exact hQ mem Fc.rf hC
end LK
