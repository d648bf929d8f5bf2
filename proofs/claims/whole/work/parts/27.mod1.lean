/-! THE REFERENCE: what only keeps, and only tells -/
def Bm (B : BD) (mem : Mem) : Prop := mem 36 0 0 = nI (bN B) ∧ mem 36 0 1 = nI (bT B) ∧ mem 36 0 2 = nI (bR B) ∧ (∀ q, mem 37 0 q = bF B q 0 ∧ mem 38 0 q = bF B q 1 ∧ mem 39 0 q = bF B q 2 ∧ mem 40 0 q = bF B q 3 ∧ mem 41 0 q = bF B q 4 ∧ mem 42 0 q = bF B q 5 ∧ mem 43 0 q = bF B q 6) ∧ ∀ q, mem 44 0 q = nI (bG B q)
def Lm (L : LD) (mem : Mem) : Prop := ∀ b, mem 45 0 b = nI (L.1 b) ∧ mem 46 0 b = nI (L.2.1 b) ∧ mem 47 0 b = nI (L.2.2 b)
def Mk (S : AS) (mem : Mem) : Prop := Bm S.1 mem ∧ Lm S.2.1 mem ∧ mem 36 0 22 = nI S.2.2.1 ∧ (mem 36 0 24 = nI S.2.2.2.1 ∧ mem 36 0 25 = nI S.2.2.2.2.1 ∧ ∀ i, i < S.2.2.2.1 → mem 57 0 i = nI (S.2.2.2.2.2 i))
/-- the reference writes nothing of the class's -/
def Fm (mem mem' : Mem) : Prop := ∀ g, g < 36 → mem' g = mem g
theorem Fm.rf {mem : Mem} : Fm mem mem := fun _ _ => rfl
theorem Fm.mset {a b : Mem} {g j i : Nat} {v : Int32} (h : Fm a b) (hg : 36 ≤ g) : Fm a (mset b g j i v) := fun g' h' => (mset_g b j i v (by omega)).trans (h g' h')
theorem Fm.fr {gs : List Nat} {a b c : Mem} (h : Fm a b) (h2 : Fr gs b c) (hg : ∀ g, g ∈ gs → 36 ≤ g) : Fm a c := fun g' h' => (h2 g' (fun z => absurd (hg g' z) (by omega))).trans (h g' h')
theorem Bm.fr {B : BD} {gs : List Nat} {a b : Mem} (h : Bm B a) (hF : Fr gs a b) (h0 : ∀ g, g ∈ gs → 45 ≤ g) : Bm B b := by
  have e : ∀ g, g < 45 → b g = a g := fun g hg => hF g (fun z => absurd (h0 g z) (by omega))
  unfold Bm
  rw [e 36 (by decide), e 37 (by decide), e 38 (by decide), e 39 (by decide), e 40 (by decide), e 41 (by decide), e 42 (by decide), e 43 (by decide), e 44 (by decide)]
  exact h
/-- what is told of the state when only the reference's rows of work have changed -/
theorem Bm.wk {B : BD} {a b : Mem} (h : Bm B a) (hg : ∀ g, 37 ≤ g → g < 48 → b g = a g) (h36 : ∀ i, i ≠ 14 → i ≠ 23 → b 36 0 i = a 36 0 i) : Bm B b := by
  unfold Bm
  rw [h36 0 (by decide) (by decide), h36 1 (by decide) (by decide), h36 2 (by decide) (by decide), hg 37 (by decide) (by decide), hg 38 (by decide) (by decide), hg 39 (by decide) (by decide), hg 40 (by decide) (by decide), hg 41 (by decide) (by decide), hg 42 (by decide) (by decide), hg 43 (by decide) (by decide), hg 44 (by decide) (by decide)]
  exact h
theorem Lm.wk {L : LD} {a b : Mem} (h : Lm L a) (hg : ∀ g, 37 ≤ g → g < 48 → b g = a g) : Lm L b := by
  unfold Lm
  rw [hg 45 (by decide) (by decide), hg 46 (by decide) (by decide), hg 47 (by decide) (by decide)]
  exact h
theorem Mk.wk {S : AS} {a b : Mem} (h : Mk S a) (hg : ∀ g, 37 ≤ g → g < 48 → b g = a g) (h57 : b 57 = a 57) (h36 : ∀ i, i ≠ 14 → i ≠ 23 → b 36 0 i = a 36 0 i) : Mk S b := by
  obtain ⟨h1, h2, h3⟩ := h
  refine ⟨h1.wk hg h36, h2.wk hg, ?_⟩
  rw [h57, h36 22 (by decide) (by decide), h36 24 (by decide) (by decide), h36 25 (by decide) (by decide)]
  exact h3
theorem Mk.bank {S : AS} {B' : BD} {a b : Mem} (h : Mk S a) (hg : ∀ g, 45 ≤ g → b g = a g) (h36 : ∀ i, 3 ≤ i → b 36 0 i = a 36 0 i) (hB : Bm B' b) : Mk (B', S.2) b := by
  obtain ⟨-, h2, h3⟩ := h
  refine ⟨hB, ?_, ?_⟩
  · unfold Lm
    rw [hg 45 (by decide), hg 46 (by decide), hg 47 (by decide)]
    exact h2
  · rw [hg 57 (by decide), h36 22 (by decide), h36 24 (by decide), h36 25 (by decide)]
    exact h3
theorem Mk.lim {S : AS} {L' : LD} {a b : Mem} (h : Mk S a) (hF : Fr [45, 46, 47] a b) (hL : Lm L' b) : Mk (S.1, L', S.2.2) b := by
  obtain ⟨h1, -, h3⟩ := h
  refine ⟨h1.fr hF (by simp), hL, ?_⟩
  rw [hF 57 (by decide), hF 36 (by decide)]
  exact h3
theorem lt_p {x : Int32} {n : Nat} (hn : n < 2 ^ 31) (h0 : 0 < n) : decide (0 ≤ x ∧ x ≤ nI n - 1) = true ↔ ∃ q : Nat, q < n ∧ x = nI q := by
  obtain ⟨m, rfl⟩ : ∃ m, n = m + 1 := ⟨n - 1, by omega⟩
  rw [nI_pred]
  constructor
  · intro h
    obtain ⟨q, -, h2, h3⟩ := in_ab (a := 0) (b := m) (by decide) (by omega) h
    exact ⟨q, by omega, h3⟩
  · rintro ⟨q, hq, rfl⟩
    exact decide_eq_true ⟨nI_pos' (by omega), nI_le (by omega) (by omega)⟩
theorem setB_lies {B : BD} (hW : WFB B) (x : Int32) : decide (0 ≤ x ∧ x ≤ nI (2 ^ bN B) - 1) = setB B x := by
  have h1 := lt_p (x := x) (n := 2 ^ bN B) (Nat.lt_of_le_of_lt (pw_le hW.1) (by decide)) (Nat.pow_pos (by decide))
  have h2 := set_n (x := x) hW.1
  unfold setB
  rw [Bool.eq_iff_iff, h1, decide_eq_true_iff, h2]
section ML
variable {E : En} {d : Nat} {mem : Mem} {Q : Int32 → Mem → Prop} {B : BD}
theorem lies_ok {x a b : Int32} (hQ : Q (b2 (decide (a ≤ x ∧ x ≤ b))) mem) : Call E d mX9_lies [pI x, pI a, pI b] mem Q := by
  refine Call.of [some (pI x), some (pI a), some (pI b)] mk_X9_lies rfl (Nat.le_of_ble_eq_true rfl) (fun _ => ?_)
  refine r_iload_0 (q := 1) dX9_lies_0 rfl ?_
  refine r_iload_1 (q := 2) dX9_lies_1 rfl ?_
  refine r_icmp_lt (q := 5) 14 dX9_lies_2 (by decide) rfl (fun h2 => ?_) (fun h2 => ?_)
  · refine r_iconst (q := 15) 0 (by decide) dX9_lies_14 rfl ?_
    refine r_zret (by first | exact Or.inl rfl | exact Or.inr rfl | assumption) rfl dX9_lies_15 (?_)
    rw [show decide (a ≤ x ∧ x ≤ b) = false from decide_eq_false (fun z => absurd h2 (Int32.not_lt.mpr z.1))] at hQ
    exact hQ
  · refine r_iload_0 (q := 6) dX9_lies_5 rfl ?_
    refine r_iload_2 (q := 7) dX9_lies_6 rfl ?_
    refine r_icmp_gt (q := 10) 14 dX9_lies_7 (by decide) rfl (fun h7 => ?_) (fun h7 => ?_)
    · refine r_iconst (q := 15) 0 (by decide) dX9_lies_14 rfl ?_
      refine r_zret (by first | exact Or.inl rfl | exact Or.inr rfl | assumption) rfl dX9_lies_15 (?_)
      rw [show decide (a ≤ x ∧ x ≤ b) = false from decide_eq_false (fun z => absurd h7 (Int32.not_lt.mpr z.2))] at hQ
      exact hQ
    · refine r_iconst (q := 11) 1 (by decide) dX9_lies_10 rfl ?_
      refine r_goto 15 dX9_lies_11 (by decide) ?_
      refine r_zret (by first | exact Or.inl rfl | exact Or.inr rfl | assumption) rfl dX9_lies_15 (?_)
      rw [show decide (a ≤ x ∧ x ≤ b) = true from decide_eq_true ⟨Int32.not_lt.mp h2, Int32.not_lt.mp h7⟩] at hQ
      exact hQ
theorem isQ_ok {x : Int32} (hB : Bm B mem) (hQ : Q (b2 (hasB B x)) mem) : Call E (d + 1) mX9_isQuestion [pR 36 0, pI x] mem Q := by
  refine Call.of [some (pR 36 0), some (pI x)] mk_X9_isQuestion rfl (Nat.le_of_ble_eq_true rfl) (fun _ => ?_)
  refine r_iload_1 (q := 1) dX9_isQuestion_0 rfl ?_
  refine r_iconst (q := 2) 0 (by decide) dX9_isQuestion_1 rfl ?_
  refine r_aload_0 (q := 3) dX9_isQuestion_2 rfl ?_
  refine r_getI (k := 0) (q := 6) f_RX9_83_8 rfl rfl dX9_isQuestion_3 rfl ?_
  refine r_iconst (q := 7) 1 (by decide) dX9_isQuestion_6 rfl ?_
  refine r_isub (q := 8) dX9_isQuestion_7 rfl ?_
  refine r_callS3i (M' := mX9_lies) (q := 11) mk_X9_lies ms_X9_lies k_731 rfl (Nat.le_of_ble_eq_true rfl) rm_xm dX9_isQuestion_8 rfl (lies_ok ?_)
  refine r_zret (b2_01 _) rfl dX9_isQuestion_11 (?_)
  rw [hB.1]
  exact hQ
theorem isSet_ok {x : Int32} (hB : Bm B mem) (hW : WFB B) (hQ : Q (b2 (setB B x)) mem) : Call E (d + 1) mX9_isSet [pR 36 0, pI x] mem Q := by
  refine Call.of [some (pR 36 0), some (pI x)] mk_X9_isSet rfl (Nat.le_of_ble_eq_true rfl) (fun _ => ?_)
  have h24 := hW.1
  rw [← setB_lies hW] at hQ
  refine r_iload_1 (q := 1) dX9_isSet_0 rfl ?_
  refine r_iconst (q := 2) 0 (by decide) dX9_isSet_1 rfl ?_
  refine r_iconst (q := 3) 1 (by decide) dX9_isSet_2 rfl ?_
  refine r_aload_0 (q := 4) dX9_isSet_3 rfl ?_
  refine r_getI (k := 0) (q := 7) f_RX9_83_8 rfl rfl dX9_isSet_4 rfl ?_
  rw [hB.1]
  refine r_ishl (q := 8) dX9_isSet_7 rfl ?_
  rw [nb_shl1 _ (by omega)]
  refine r_iconst (q := 9) 1 (by decide) dX9_isSet_8 rfl ?_
  refine r_isub (q := 10) dX9_isSet_9 rfl ?_
  refine r_callS3i (M' := mX9_lies) (q := 13) mk_X9_lies ms_X9_lies k_731 rfl (Nat.le_of_ble_eq_true rfl) rm_xm dX9_isSet_10 rfl (lies_ok ?_)
  refine r_zret (b2_01 _) rfl dX9_isSet_13 (hQ)
theorem mhas_ok {s q : Nat} (hs : s < 2 ^ 31) (hq : q < 32) (hQ : Q (b2 (s.testBit q)) mem) : Call E d mX9_has [pI (nI s), pI (nI q)] mem Q := by
  refine Call.of [some (pI (nI s)), some (pI (nI q))] mk_X9_has rfl (Nat.le_of_ble_eq_true rfl) (fun _ => ?_)
  refine r_iload_0 (q := 1) dX9_has_0 rfl ?_
  refine r_iload_1 (q := 2) dX9_has_1 rfl ?_
  refine r_ishr (q := 3) dX9_has_2 rfl ?_
  refine r_iconst (q := 4) 1 (by decide) dX9_has_3 rfl ?_
  refine r_iand (q := 5) dX9_has_4 rfl ?_
  rw [nb_bitS hs hq]
  refine r_iconst (q := 6) 1 (by decide) dX9_has_5 rfl ?_
  refine r_icmp_ne (q := 9) 13 dX9_has_6 (by decide) rfl (fun h6 => ?_) (fun h6 => ?_)
  · refine r_iconst (q := 14) 0 (by decide) dX9_has_13 rfl ?_
    refine r_zret (by first | exact Or.inl rfl | exact Or.inr rfl | assumption) rfl dX9_has_14 (?_)
    have h := fun z => h6 (b2_eq1.mpr z)
    rw [show s.testBit q = false by simpa using h] at hQ
    exact hQ
  · refine r_iconst (q := 10) 1 (by decide) dX9_has_9 rfl ?_
    refine r_goto 14 dX9_has_10 (by decide) ?_
    refine r_zret (by first | exact Or.inl rfl | exact Or.inr rfl | assumption) rfl dX9_has_14 (?_)
    rw [b2_eq1.mp h6] at hQ
    exact hQ
theorem mrest_ok {q : Nat} (hB : Bm B mem) (hq : q < 24) (hQ : Q (b2 (restB B q)) mem) : Call E d mX9_isResting [pR 36 0, pI (nI q)] mem Q := by
  refine Call.of [some (pR 36 0), some (pI (nI q))] mk_X9_isResting rfl (Nat.le_of_ble_eq_true rfl) (fun _ => ?_)
  have hu := (hB.2.2.2.1 q).2.2.2.2.2.2
  refine r_aload_0 (q := 1) dX9_isResting_0 rfl ?_
  refine r_getR (k := 9) (q := 4) f_RX9_32_8 rfl rfl dX9_isResting_1 rfl ?_
  refine r_iload_1 (q := 5) dX9_isResting_4 rfl ?_
  refine r_iald (q := 6) _ rfl rfl (by first | omega | assumption | decide) dX9_isResting_5 rfl ?_
  rw [hu]
  refine r_iconst (q := 7) (-1) (by decide) dX9_isResting_6 rfl ?_
  refine r_icmp_eq (q := 10) 45 dX9_isResting_7 (by decide) rfl (fun h7 => ?_) (fun h7 => ?_)
  · refine r_iconst (q := 46) 0 (by decide) dX9_isResting_45 rfl ?_
    refine r_zret (by first | exact Or.inl rfl | exact Or.inr rfl | assumption) rfl dX9_isResting_46 (?_)
    rw [show restB B q = false from decide_eq_false (fun z => z.1 h7)] at hQ
    exact hQ
  · refine r_aload_0 (q := 11) dX9_isResting_10 rfl ?_
    refine r_getI (k := 1) (q := 14) f_RX9_7_8 rfl rfl dX9_isResting_11 rfl ?_
    refine r_aload_0 (q := 15) dX9_isResting_14 rfl ?_
    refine r_getR (k := 9) (q := 18) f_RX9_32_8 rfl rfl dX9_isResting_15 rfl ?_
    refine r_iload_1 (q := 19) dX9_isResting_18 rfl ?_
    refine r_iald (q := 20) _ rfl rfl (by first | omega | assumption | decide) dX9_isResting_19 rfl ?_
    refine r_icmp_le (q := 23) 45 dX9_isResting_20 (by decide) rfl (fun h20 => ?_) (fun h20 => ?_)
    · refine r_iconst (q := 46) 0 (by decide) dX9_isResting_45 rfl ?_
      refine r_zret (by first | exact Or.inl rfl | exact Or.inr rfl | assumption) rfl dX9_isResting_46 (?_)
      rw [hB.2.1, hu] at h20
      rw [show restB B q = false from decide_eq_false (fun z => z.2.1 h20)] at hQ
      exact hQ
    · refine r_aload_0 (q := 24) dX9_isResting_23 rfl ?_
      refine r_getI (k := 1) (q := 27) f_RX9_7_8 rfl rfl dX9_isResting_24 rfl ?_
      refine r_aload_0 (q := 28) dX9_isResting_27 rfl ?_
      refine r_getR (k := 9) (q := 31) f_RX9_32_8 rfl rfl dX9_isResting_28 rfl ?_
      refine r_iload_1 (q := 32) dX9_isResting_31 rfl ?_
      refine r_iald (q := 33) _ rfl rfl (by first | omega | assumption | decide) dX9_isResting_32 rfl ?_
      refine r_isub (q := 34) dX9_isResting_33 rfl ?_
      refine r_aload_0 (q := 35) dX9_isResting_34 rfl ?_
      refine r_getI (k := 2) (q := 38) f_RX9_98_8 rfl rfl dX9_isResting_35 rfl ?_
      refine r_icmp_gt (q := 41) 45 dX9_isResting_38 (by decide) rfl (fun h38 => ?_) (fun h38 => ?_)
      · refine r_iconst (q := 46) 0 (by decide) dX9_isResting_45 rfl ?_
        refine r_zret (by first | exact Or.inl rfl | exact Or.inr rfl | assumption) rfl dX9_isResting_46 (?_)
        rw [hB.2.1, hu, hB.2.2.1] at h38
        rw [show restB B q = false from decide_eq_false (fun z => z.2.2 h38)] at hQ
        exact hQ
      · refine r_iconst (q := 42) 1 (by decide) dX9_isResting_41 rfl ?_
        refine r_goto 46 dX9_isResting_42 (by decide) ?_
        refine r_zret (by first | exact Or.inl rfl | exact Or.inr rfl | assumption) rfl dX9_isResting_46 (?_)
        rw [hB.2.1, hu, hB.2.2.1] at h38
        rw [hB.2.1, hu] at h20
        rw [show restB B q = true from decide_eq_true ⟨h7, h20, h38⟩] at hQ
        exact hQ
end ML
section MP
variable {E : En} {d : Nat} {mem : Mem} {Q : Int32 → Mem → Prop} {S : AS}
theorem m_question_ok {t s m k h : Int32} (hC : Mk S mem) (hWF : WFS S) (hQ : ∀ mem', Fm mem mem' → Mk (if okQ S.1 t s m k h then (addQ S.1 t s m k h, S.2) else S) mem' → Q (if okQ S.1 t s m k h then nI (bN S.1) else -1) mem') : Call E (d + 1) mX9_question [pR 36 0, pI t, pI s, pI m, pI k, pI h] mem Q := by
  refine Call.of [some (pR 36 0), some (pI t), some (pI s), some (pI m), some (pI k), some (pI h)] mk_X9_question rfl (Nat.le_of_ble_eq_true rfl) (fun _ => ?_)
  have hB := hC.1
  have h24 := hWF.1.1
  have fail : okQ S.1 t s m k h = false → Wp E (xm E (d + 1) mX9_question Q) mX9_question 59 [some (pR 36 0), some (pI t), some (pI s), some (pI m), some (pI k), some (pI h)] [] mem := by
    intro hf
    have hq := hQ mem Fm.rf (by rw [hf]; exact hC)
    rw [hf] at hq
    refine r_iconst (q := 60) (-1) (by decide) dX9_question_59 rfl ?_
    refine r_iret rfl dX9_question_60 (?_)
    exact hq
  refine r_aload_0 (q := 1) dX9_question_0 rfl ?_
  refine r_getI (k := 0) (q := 4) f_RX9_83_8 rfl rfl dX9_question_1 rfl ?_
  refine r_bipush (q := 6) 24 (by decide) dX9_question_4 rfl ?_
  rw [hB.1]
  refine r_icmp_eq (q := 9) 59 dX9_question_6 (by decide) rfl (fun h6 => ?_) (fun h6 => ?_)
  · have h6 : bN S.1 = 24 := nI_inj (b := 24) (by omega) (by decide) h6
    exact fail (by unfold okQ; rw [decide_eq_false (by omega : ¬ bN S.1 < 24), Bool.and_false])
  · have hn : bN S.1 < 24 := by
      rcases Nat.lt_or_ge (bN S.1) 24 with z | z
      · exact z
      · exact absurd (by rw [show bN S.1 = 24 by omega]; rfl) h6
    refine r_iload_1 (q := 10) dX9_question_9 rfl ?_
    refine r_iconst (q := 11) 0 (by decide) dX9_question_10 rfl ?_
    refine r_iconst (q := 12) 3 (by decide) dX9_question_11 rfl ?_
    refine r_callS3i (M' := mX9_lies) (q := 15) mk_X9_lies ms_X9_lies k_731 rfl (Nat.le_of_ble_eq_true rfl) rm_xm dX9_question_12 rfl (lies_ok ?_)
    refine r_if_eq (q := 18) 59 dX9_question_15 (by decide) rfl (fun h15 => ?_) (fun h15 => ?_)
    · exact fail (by unfold okQ; rw [show decide (0 ≤ t ∧ t ≤ 3) = false from b2_eq0.mp h15]; rfl)
    · refine r_iload_2 (q := 19) dX9_question_18 rfl ?_
      refine r_iconst (q := 20) 0 (by decide) dX9_question_19 rfl ?_
      refine r_iconst (q := 21) 2 (by decide) dX9_question_20 rfl ?_
      refine r_callS3i (M' := mX9_lies) (q := 24) mk_X9_lies ms_X9_lies k_731 rfl (Nat.le_of_ble_eq_true rfl) rm_xm dX9_question_21 rfl (lies_ok ?_)
      refine r_if_eq (q := 27) 59 dX9_question_24 (by decide) rfl (fun h24b => ?_) (fun h24b => ?_)
      · exact fail (by unfold okQ; rw [show decide (0 ≤ s ∧ s ≤ 2) = false from b2_eq0.mp h24b]; simp)
      · refine r_iload_3 (q := 28) dX9_question_27 rfl ?_
        refine r_iconst (q := 29) 1 (by decide) dX9_question_28 rfl ?_
        refine r_bipush (q := 31) 60 (by decide) dX9_question_29 rfl ?_
        refine r_callS3i (M' := mX9_lies) (q := 34) mk_X9_lies ms_X9_lies k_731 rfl (Nat.le_of_ble_eq_true rfl) rm_xm dX9_question_31 rfl (lies_ok ?_)
        refine r_if_eq (q := 37) 59 dX9_question_34 (by decide) rfl (fun h34 => ?_) (fun h34 => ?_)
        · exact fail (by unfold okQ; rw [show decide (1 ≤ m ∧ m ≤ 60) = false from b2_eq0.mp h34]; simp)
        · refine r_iload_4 (q := 39) dX9_question_37 rfl ?_
          refine r_iconst (q := 40) 1 (by decide) dX9_question_39 rfl ?_
          refine r_bipush (q := 42) 40 (by decide) dX9_question_40 rfl ?_
          refine r_callS3i (M' := mX9_lies) (q := 45) mk_X9_lies ms_X9_lies k_731 rfl (Nat.le_of_ble_eq_true rfl) rm_xm dX9_question_42 rfl (lies_ok ?_)
          refine r_if_eq (q := 48) 59 dX9_question_45 (by decide) rfl (fun h45 => ?_) (fun h45 => ?_)
          · exact fail (by unfold okQ; rw [show decide (1 ≤ k ∧ k ≤ 40) = false from b2_eq0.mp h45]; simp)
          · refine r_iload_5 (q := 50) dX9_question_48 rfl ?_
            refine r_iconst (q := 51) 1 (by decide) dX9_question_50 rfl ?_
            refine r_bipush (q := 53) 9 (by decide) dX9_question_51 rfl ?_
            refine r_callS3i (M' := mX9_lies) (q := 56) mk_X9_lies ms_X9_lies k_731 rfl (Nat.le_of_ble_eq_true rfl) rm_xm dX9_question_53 rfl (lies_ok ?_)
            refine r_if_ne (q := 59) 61 dX9_question_56 (by decide) rfl (fun h56 => ?_) (fun h56 => ?_)
            · have hok : okQ S.1 t s m k h = true := by unfold okQ; rw [show decide (0 ≤ t ∧ t ≤ 3) = true from b2_ne0.mp h15, show decide (0 ≤ s ∧ s ≤ 2) = true from b2_ne0.mp h24b, show decide (1 ≤ m ∧ m ≤ 60) = true from b2_ne0.mp h34, show decide (1 ≤ k ∧ k ≤ 40) = true from b2_ne0.mp h45, show decide (1 ≤ h ∧ h ≤ 9) = true from b2_ne0.mp h56, decide_eq_true hn]; rfl
              rw [hok] at hQ
              refine r_aload_0 (q := 62) dX9_question_61 rfl ?_
              refine r_getR (k := 3) (q := 65) f_RX9_13_8 rfl rfl dX9_question_62 rfl ?_
              refine r_aload_0 (q := 66) dX9_question_65 rfl ?_
              refine r_getI (k := 0) (q := 69) f_RX9_83_8 rfl rfl dX9_question_66 rfl ?_
              refine r_iload_1 (q := 70) dX9_question_69 rfl ?_
              refine r_iast (q := 71) (bN S.1) hB.1 rfl hn dX9_question_70 rfl ?_
              refine r_aload_0 (q := 72) dX9_question_71 rfl ?_
              refine r_getR (k := 4) (q := 75) f_RX9_17_8 rfl rfl dX9_question_72 rfl ?_
              refine r_aload_0 (q := 76) dX9_question_75 rfl ?_
              refine r_getI (k := 0) (q := 79) f_RX9_83_8 rfl rfl dX9_question_76 rfl ?_
              refine r_iload_2 (q := 80) dX9_question_79 rfl ?_
              refine r_iast (q := 81) (bN S.1) hB.1 rfl hn dX9_question_80 rfl ?_
              refine r_aload_0 (q := 82) dX9_question_81 rfl ?_
              refine r_getR (k := 5) (q := 85) f_RX9_20_8 rfl rfl dX9_question_82 rfl ?_
              refine r_aload_0 (q := 86) dX9_question_85 rfl ?_
              refine r_getI (k := 0) (q := 89) f_RX9_83_8 rfl rfl dX9_question_86 rfl ?_
              refine r_iload_3 (q := 90) dX9_question_89 rfl ?_
              refine r_iast (q := 91) (bN S.1) hB.1 rfl hn dX9_question_90 rfl ?_
              refine r_aload_0 (q := 92) dX9_question_91 rfl ?_
              refine r_getR (k := 6) (q := 95) f_RX9_23_8 rfl rfl dX9_question_92 rfl ?_
              refine r_aload_0 (q := 96) dX9_question_95 rfl ?_
              refine r_getI (k := 0) (q := 99) f_RX9_83_8 rfl rfl dX9_question_96 rfl ?_
              refine r_iload_4 (q := 101) dX9_question_99 rfl ?_
              refine r_iast (q := 102) (bN S.1) hB.1 rfl hn dX9_question_101 rfl ?_
              refine r_aload_0 (q := 103) dX9_question_102 rfl ?_
              refine r_getR (k := 7) (q := 106) f_RX9_26_8 rfl rfl dX9_question_103 rfl ?_
              refine r_aload_0 (q := 107) dX9_question_106 rfl ?_
              refine r_getI (k := 0) (q := 110) f_RX9_83_8 rfl rfl dX9_question_107 rfl ?_
              refine r_iload_5 (q := 112) dX9_question_110 rfl ?_
              refine r_iast (q := 113) (bN S.1) hB.1 rfl hn dX9_question_112 rfl ?_
              refine r_aload_0 (q := 114) dX9_question_113 rfl ?_
              refine r_getR (k := 8) (q := 117) f_RX9_29_8 rfl rfl dX9_question_114 rfl ?_
              refine r_aload_0 (q := 118) dX9_question_117 rfl ?_
              refine r_getI (k := 0) (q := 121) f_RX9_83_8 rfl rfl dX9_question_118 rfl ?_
              refine r_iconst (q := 122) (-1) (by decide) dX9_question_121 rfl ?_
              refine r_iast (q := 123) (bN S.1) hB.1 rfl hn dX9_question_122 rfl ?_
              refine r_aload_0 (q := 124) dX9_question_123 rfl ?_
              refine r_getR (k := 9) (q := 127) f_RX9_32_8 rfl rfl dX9_question_124 rfl ?_
              refine r_aload_0 (q := 128) dX9_question_127 rfl ?_
              refine r_getI (k := 0) (q := 131) f_RX9_83_8 rfl rfl dX9_question_128 rfl ?_
              refine r_iconst (q := 132) (-1) (by decide) dX9_question_131 rfl ?_
              refine r_iast (q := 133) (bN S.1) hB.1 rfl hn dX9_question_132 rfl ?_
              refine r_aload_0 (q := 134) dX9_question_133 rfl ?_
              refine r_dup (q := 135) dX9_question_134 rfl ?_
              generalize hm1 : mset (mset (mset (mset (mset (mset (mset mem 37 0 (bN S.1) t) 38 0 (bN S.1) s) 39 0 (bN S.1) m) 40 0 (bN S.1) k) 41 0 (bN S.1) h) 42 0 (bN S.1) (-1)) 43 0 (bN S.1) (-1) = m1
              have hF1 : Fr [37, 38, 39, 40, 41, 42, 43] mem m1 := by rw [← hm1]; exact ((((((Fr.rf.mset (by simp)).mset (by simp)).mset (by simp)).mset (by simp)).mset (by simp)).mset (by simp)).mset (by simp)
              have e3 : ∀ q, m1 37 0 q = bF (addQ S.1 t s m k h) q 0 ∧ m1 38 0 q = bF (addQ S.1 t s m k h) q 1 ∧ m1 39 0 q = bF (addQ S.1 t s m k h) q 2 ∧ m1 40 0 q = bF (addQ S.1 t s m k h) q 3 ∧ m1 41 0 q = bF (addQ S.1 t s m k h) q 4 ∧ m1 42 0 q = bF (addQ S.1 t s m k h) q 5 ∧ m1 43 0 q = bF (addQ S.1 t s m k h) q 6 := by
                intro q
                have hb := hB.2.2.2.1 q
                rw [bF_addQ]
                by_cases e : q = bN S.1
                · subst e
                  rw [if_pos rfl, ← hm1]
                  refine ⟨?_, ?_, ?_, ?_, ?_, ?_, ?_⟩ <;> simp [mset, upd]
                · rw [if_neg e, ← hm1]
                  simp [mset, upd, e, hb]
              clear hm1
              refine r_getI (k := 0) (q := 138) f_RX9_83_8 rfl rfl dX9_question_135 rfl ?_
              rw [show m1 36 0 0 = nI (bN S.1) from by rw [hF1 36 (by decide)]; exact hB.1]
              refine r_iconst (q := 139) 1 (by decide) dX9_question_138 rfl ?_
              refine r_iadd (q := 140) dX9_question_139 rfl ?_
              rw [nI_1]
              refine r_put (k := 0) (q := 143) f_RX9_83_8 pf_8_0 rfl rfl dX9_question_140 rfl ?_
              refine r_aload_0 (q := 144) dX9_question_143 rfl ?_
              refine r_getI (k := 0) (q := 147) f_RX9_83_8 rfl rfl dX9_question_144 rfl ?_
              rw [mset_at]
              refine r_iconst (q := 148) 1 (by decide) dX9_question_147 rfl ?_
              refine r_isub (q := 149) dX9_question_148 rfl ?_
              rw [nI_pred]
              refine r_iret rfl dX9_question_149 (?_)
              refine hQ _ ((Fm.fr Fm.rf hF1 (by simp)).mset (by decide)) (hC.bank (fun g hg => ?_) (fun i hi => ?_) ?_)
              · rw [mset_g _ _ _ _ (by omega)]; exact hF1 g (by simp; omega)
              · rw [mset_self]; unfold upd; rw [if_neg (by omega), hF1 36 (by decide)]
              refine ⟨rfl, ?_, ?_, ?_, ?_⟩
              · rw [mset_self]; unfold upd; rw [if_neg (by decide), hF1 36 (by decide)]; exact hB.2.1
              · rw [mset_self]; unfold upd; rw [if_neg (by decide), hF1 36 (by decide)]; exact hB.2.2.1
              · intro q; rw [mset_g _ _ _ _ (by decide), mset_g _ _ _ _ (by decide), mset_g _ _ _ _ (by decide), mset_g _ _ _ _ (by decide), mset_g _ _ _ _ (by decide), mset_g _ _ _ _ (by decide), mset_g _ _ _ _ (by decide)]; exact e3 q
              · intro q; rw [mset_g _ _ _ _ (by decide), hF1 44 (by decide)]; exact hB.2.2.2.2 q
            · exact fail (by unfold okQ; rw [show decide (1 ≤ h ∧ h ≤ 9) = false from b2_eq0.mp h56]; simp)
theorem m_passage_ok {x p : Int32} (hC : Mk S mem) (hWF : WFS S) (hQ : ∀ mem', Fm mem mem' → Mk (if hasB S.1 x && decide (-1 ≤ p ∧ p ≤ 5) then (setF S.1 x.toNatClampNeg 5 p, S.2) else S) mem' → Q (b2 (hasB S.1 x && decide (-1 ≤ p ∧ p ≤ 5))) mem') : Call E (d + 2) mX9_passage [pR 36 0, pI x, pI p] mem Q := by
  refine Call.of [some (pR 36 0), some (pI x), some (pI p)] mk_X9_passage rfl (Nat.le_of_ble_eq_true rfl) (fun _ => ?_)
  have hB := hC.1
  have h24 := hWF.1.1
  have fail : (hasB S.1 x && decide (-1 ≤ p ∧ p ≤ 5)) = false → Wp E (xm E (d + 2) mX9_passage Q) mX9_passage 17 [some (pR 36 0), some (pI x), some (pI p)] [] mem := by
    intro hf
    have hq := hQ mem Fm.rf (by rw [hf]; exact hC)
    rw [hf] at hq
    refine r_iconst (q := 18) 0 (by decide) dX9_passage_17 rfl ?_
    refine r_zret (by first | exact Or.inl rfl | exact Or.inr rfl | assumption) rfl dX9_passage_18 (?_)
    exact hq
  refine r_aload_0 (q := 1) dX9_passage_0 rfl ?_
  refine r_iload_1 (q := 2) dX9_passage_1 rfl ?_
  refine r_callV1i (M' := mX9_isQuestion) (q := 5) mk_X9_isQuestion mi_X9_isQuestion k_738 rfl rfl rfl rfl (Nat.le_of_ble_eq_true rfl) rm_xm dX9_passage_2 rfl (isQ_ok hB ?_)
  refine r_if_eq (q := 8) 17 dX9_passage_5 (by decide) rfl (fun h5 => ?_) (fun h5 => ?_)
  · exact fail (by rw [show hasB S.1 x = false from b2_eq0.mp h5]; rfl)
  · refine r_iload_2 (q := 9) dX9_passage_8 rfl ?_
    refine r_iconst (q := 10) (-1) (by decide) dX9_passage_9 rfl ?_
    refine r_iconst (q := 11) 5 (by decide) dX9_passage_10 rfl ?_
    refine r_callS3i (M' := mX9_lies) (q := 14) mk_X9_lies ms_X9_lies k_731 rfl (Nat.le_of_ble_eq_true rfl) rm_xm dX9_passage_11 rfl (lies_ok ?_)
    refine r_if_ne (q := 17) 19 dX9_passage_14 (by decide) rfl (fun h14 => ?_) (fun h14 => ?_)
    · have h8' : hasB S.1 x = true := b2_ne0.mp h5
      obtain ⟨q, hq, rfl⟩ := hasB_ex hWF.1 h8'
      rw [h8', b2_ne0.mp h14, nI_clamp (by omega)] at hQ
      refine r_aload_0 (q := 20) dX9_passage_19 rfl ?_
      refine r_getR (k := 8) (q := 23) f_RX9_29_8 rfl rfl dX9_passage_20 rfl ?_
      refine r_iload_1 (q := 24) dX9_passage_23 rfl ?_
      refine r_iload_2 (q := 25) dX9_passage_24 rfl ?_
      refine r_iast (q := 26) _ rfl rfl (by first | omega | assumption | decide) dX9_passage_25 rfl ?_
      refine r_iconst (q := 27) 1 (by decide) dX9_passage_26 rfl ?_
      refine r_zret (by first | exact Or.inl rfl | exact Or.inr rfl | assumption) rfl dX9_passage_27 (?_)
      refine hQ _ (Fm.rf.mset (by decide)) (hC.bank (fun g hg => mset_g _ _ _ _ (by omega)) (fun i hi => rfl) ?_)
      refine ⟨hB.1, hB.2.1, hB.2.2.1, fun q' => ?_, hB.2.2.2.2⟩
      have hb := hB.2.2.2.1 q'
      refine ⟨?_, ?_, ?_, ?_, ?_, ?_, ?_⟩
      all_goals (by_cases e : q' = q <;> simp [mset, upd, setF, bF, e])
      all_goals (try subst e)
      all_goals first | exact hb.1 | exact hb.2.1 | exact hb.2.2.1 | exact hb.2.2.2.1 | exact hb.2.2.2.2.1 | exact hb.2.2.2.2.2.1 | exact hb.2.2.2.2.2.2
    · exact fail (by rw [b2_eq0.mp h14, Bool.and_false])
theorem m_gives_ok {x y : Int32} {is : Bool} (hC : Mk S mem) (hWF : WFS S) (hQ : ∀ mem', Fm mem mem' → Mk (if givB S.1 x y is then (setG S.1 x.toNatClampNeg (bG S.1 x.toNatClampNeg ^^^ 2 ^ y.toNatClampNeg), S.2) else S) mem' → Q (b2 (givB S.1 x y is)) mem') : Call E (d + 2) mX9_gives [pR 36 0, pI x, pI y, pI (b2 is)] mem Q := by
  refine Call.of [some (pR 36 0), some (pI x), some (pI y), some (pI (b2 is))] mk_X9_gives rfl (Nat.le_of_ble_eq_true rfl) (fun _ => ?_)
  have hB := hC.1
  have h24 := hWF.1.1
  have fail : givB S.1 x y is = false → Wp E (xm E (d + 2) mX9_gives Q) mX9_gives 35 [some (pR 36 0), some (pI x), some (pI y), some (pI (b2 is))] [] mem := by
    intro hf
    have hq := hQ mem Fm.rf (by rw [hf]; exact hC)
    rw [hf] at hq
    refine r_iconst (q := 36) 0 (by decide) dX9_gives_35 rfl ?_
    refine r_zret (by first | exact Or.inl rfl | exact Or.inr rfl | assumption) rfl dX9_gives_36 (?_)
    exact hq
  refine r_aload_0 (q := 1) dX9_gives_0 rfl ?_
  refine r_iload_1 (q := 2) dX9_gives_1 rfl ?_
  refine r_callV1i (M' := mX9_isQuestion) (q := 5) mk_X9_isQuestion mi_X9_isQuestion k_738 rfl rfl rfl rfl (Nat.le_of_ble_eq_true rfl) rm_xm dX9_gives_2 rfl (isQ_ok hB ?_)
  refine r_if_eq (q := 8) 35 dX9_gives_5 (by decide) rfl (fun h5 => ?_) (fun h5 => ?_)
  · exact fail (by unfold givB; rw [show hasB S.1 x = false from b2_eq0.mp h5]; rfl)
  · refine r_aload_0 (q := 9) dX9_gives_8 rfl ?_
    refine r_iload_2 (q := 10) dX9_gives_9 rfl ?_
    refine r_callV1i (M' := mX9_isQuestion) (q := 13) mk_X9_isQuestion mi_X9_isQuestion k_738 rfl rfl rfl rfl (Nat.le_of_ble_eq_true rfl) rm_xm dX9_gives_10 rfl (isQ_ok hB ?_)
    refine r_if_eq (q := 16) 35 dX9_gives_13 (by decide) rfl (fun h13 => ?_) (fun h13 => ?_)
    · exact fail (by unfold givB; rw [show hasB S.1 y = false from b2_eq0.mp h13]; simp)
    · refine r_iload_1 (q := 17) dX9_gives_16 rfl ?_
      refine r_iload_2 (q := 18) dX9_gives_17 rfl ?_
      refine r_icmp_eq (q := 21) 35 dX9_gives_18 (by decide) rfl (fun h18 => ?_) (fun h18 => ?_)
      · exact fail (by unfold givB; rw [decide_eq_false (fun z => z h18)]; simp)
      · have h8' : hasB S.1 x = true := b2_ne0.mp h5
        have h19' : hasB S.1 y = true := b2_ne0.mp h13
        have e1 : givB S.1 x y is = decide (¬ (bG S.1 x.toNatClampNeg).testBit y.toNatClampNeg = is) := by unfold givB; rw [h8', h19', decide_eq_true h18]; rfl
        rw [e1] at hQ fail
        obtain ⟨a, ha, rfl⟩ := hasB_ex hWF.1 h8'
        obtain ⟨b, hb, rfl⟩ := hasB_ex hWF.1 h19'
        rw [nI_clamp (show a < 2 ^ 31 by omega), nI_clamp (show b < 2 ^ 31 by omega)] at hQ fail
        have hg := bG_lt hWF.1 a
        refine r_aload_0 (q := 22) dX9_gives_21 rfl ?_
        refine r_getR (k := 10) (q := 25) f_RX9_35_8 rfl rfl dX9_gives_22 rfl ?_
        refine r_iload_1 (q := 26) dX9_gives_25 rfl ?_
        refine r_iald (q := 27) _ rfl rfl (by first | omega | assumption | decide) dX9_gives_26 rfl ?_
        rw [hB.2.2.2.2 a]
        refine r_iload_2 (q := 28) dX9_gives_27 rfl ?_
        refine r_callS2i (M' := mX9_has) (q := 31) mk_X9_has ms_X9_has k_746 rfl (Nat.le_of_ble_eq_true rfl) rm_xm dX9_gives_28 rfl (mhas_ok (pw24 hg) (by omega) ?_)
        refine r_iload_3 (q := 32) dX9_gives_31 rfl ?_
        refine r_icmp_ne (q := 35) 37 dX9_gives_32 (by decide) rfl (fun h32 => ?_) (fun h32 => ?_)
        · have h47 : ¬ (bG S.1 a).testBit b = is := fun z => h32 (by rw [z])
          rw [decide_eq_true h47] at hQ
          refine r_aload_0 (q := 38) dX9_gives_37 rfl ?_
          refine r_getR (k := 10) (q := 41) f_RX9_35_8 rfl rfl dX9_gives_38 rfl ?_
          refine r_iload_1 (q := 42) dX9_gives_41 rfl ?_
          refine r_dup2 (q := 43) dX9_gives_42 rfl ?_
          refine r_iald (q := 44) _ rfl rfl (by first | omega | assumption | decide) dX9_gives_43 rfl ?_
          rw [hB.2.2.2.2 a]
          refine r_iconst (q := 45) 1 (by decide) dX9_gives_44 rfl ?_
          refine r_iload_2 (q := 46) dX9_gives_45 rfl ?_
          refine r_ishl (q := 47) dX9_gives_46 rfl ?_
          rw [nb_shl1 b (by omega)]
          refine r_ixor (q := 48) dX9_gives_47 rfl ?_
          rw [nb_xor]
          refine r_iast (q := 49) _ rfl rfl (by first | omega | assumption | decide) dX9_gives_48 rfl ?_
          refine r_iconst (q := 50) 1 (by decide) dX9_gives_49 rfl ?_
          refine r_zret (by first | exact Or.inl rfl | exact Or.inr rfl | assumption) rfl dX9_gives_50 (?_)
          refine hQ _ (Fm.rf.mset (by decide)) (hC.bank (fun g hg => mset_g _ _ _ _ (by omega)) (fun i hi => rfl) ?_)
          refine ⟨hB.1, hB.2.1, hB.2.2.1, hB.2.2.2.1, fun q' => ?_⟩
          show mset mem 44 0 a _ 44 0 q' = nI (updN (bG S.1) a _ q')
          rw [mset_self]
          unfold upd updN
          by_cases e : q' = a
          · rw [if_pos e, if_pos e]
          · rw [if_neg e, if_neg e]; exact hB.2.2.2.2 q'
        · have h47 : (bG S.1 a).testBit b = is := b2_inj.mp h32
          exact fail (decide_eq_false (fun z => z h47))
theorem bndB_m (b l g : Int32) : bndB b l g = (decide (0 ≤ b ∧ b ≤ 9) && (decide (0 ≤ l ∧ l ≤ 1000) && decide (l ≤ g ∧ g ≤ 1000))) := by
  unfold bndB
  rw [Bool.eq_iff_iff]
  simp only [Bool.and_eq_true, decide_eq_true_iff, Int32.le_iff_toInt_le]
  constructor <;> rintro h <;> refine ⟨h.1, ?_⟩ <;> omega
theorem m_bound_ok {b l g : Int32} (hC : Mk S mem) (hQ : ∀ mem', Fm mem mem' → Mk (if bndB b l g then (S.1, setL S.2.1 b.toNatClampNeg l.toNatClampNeg g.toNatClampNeg, S.2.2) else S) mem' → Q (b2 (bndB b l g)) mem') : Call E (d + 1) mX9_bound [pR 36 0, pI b, pI l, pI g] mem Q := by
  refine Call.of [some (pR 36 0), some (pI b), some (pI l), some (pI g)] mk_X9_bound rfl (Nat.le_of_ble_eq_true rfl) (fun _ => ?_)
  have hL := hC.2.1
  have fail : bndB b l g = false → Wp E (xm E (d + 1) mX9_bound Q) mX9_bound 32 [some (pR 36 0), some (pI b), some (pI l), some (pI g)] [] mem := by
    intro hf
    have hq := hQ mem Fm.rf (by rw [hf]; exact hC)
    rw [hf] at hq
    refine r_iconst (q := 33) 0 (by decide) dX9_bound_32 rfl ?_
    refine r_zret (by first | exact Or.inl rfl | exact Or.inr rfl | assumption) rfl dX9_bound_33 (?_)
    exact hq
  refine r_iload_1 (q := 1) dX9_bound_0 rfl ?_
  refine r_iconst (q := 2) 0 (by decide) dX9_bound_1 rfl ?_
  refine r_bipush (q := 4) 9 (by decide) dX9_bound_2 rfl ?_
  refine r_callS3i (M' := mX9_lies) (q := 7) mk_X9_lies ms_X9_lies k_731 rfl (Nat.le_of_ble_eq_true rfl) rm_xm dX9_bound_4 rfl (lies_ok ?_)
  refine r_if_eq (q := 10) 32 dX9_bound_7 (by decide) rfl (fun h7 => ?_) (fun h7 => ?_)
  · exact fail (by rw [bndB_m, b2_eq0.mp h7]; rfl)
  · refine r_iload_2 (q := 11) dX9_bound_10 rfl ?_
    refine r_iconst (q := 12) 0 (by decide) dX9_bound_11 rfl ?_
    refine r_sipush (q := 15) 1000 (by decide) dX9_bound_12 rfl ?_
    refine r_callS3i (M' := mX9_lies) (q := 18) mk_X9_lies ms_X9_lies k_731 rfl (Nat.le_of_ble_eq_true rfl) rm_xm dX9_bound_15 rfl (lies_ok ?_)
    refine r_if_eq (q := 21) 32 dX9_bound_18 (by decide) rfl (fun h18 => ?_) (fun h18 => ?_)
    · exact fail (by rw [bndB_m, b2_eq0.mp h18]; simp)
    · refine r_iload_3 (q := 22) dX9_bound_21 rfl ?_
      refine r_iload_2 (q := 23) dX9_bound_22 rfl ?_
      refine r_sipush (q := 26) 1000 (by decide) dX9_bound_23 rfl ?_
      refine r_callS3i (M' := mX9_lies) (q := 29) mk_X9_lies ms_X9_lies k_731 rfl (Nat.le_of_ble_eq_true rfl) rm_xm dX9_bound_26 rfl (lies_ok ?_)
      refine r_if_ne (q := 32) 34 dX9_bound_29 (by decide) rfl (fun h29 => ?_) (fun h29 => ?_)
      · have hok : bndB b l g = true := by rw [bndB_m, b2_ne0.mp h7, b2_ne0.mp h18, b2_ne0.mp h29]; rfl
        have hg0 : decide (0 ≤ g ∧ g ≤ 1000) = true := by
          unfold bndB at hok
          rw [Bool.and_eq_true, Bool.and_eq_true, Bool.and_eq_true] at hok
          exact hok.2.1.2
        obtain ⟨b', -, hb', rfl⟩ := in_ab (a := 0) (b := 9) (by decide) (by decide) (b2_ne0.mp h7)
        obtain ⟨l', -, hl', rfl⟩ := in_ab (a := 0) (b := 1000) (by decide) (by decide) (b2_ne0.mp h18)
        obtain ⟨g', -, hg', rfl⟩ := in_ab (a := 0) (b := 1000) (by decide) (by decide) hg0
        rw [hok, nI_clamp (show b' < 2 ^ 31 by omega), nI_clamp (show l' < 2 ^ 31 by omega), nI_clamp (show g' < 2 ^ 31 by omega)] at hQ
        refine r_aload_0 (q := 35) dX9_bound_34 rfl ?_
        refine r_getR (k := 11) (q := 38) f_RX9_38_8 rfl rfl dX9_bound_35 rfl ?_
        refine r_iload_1 (q := 39) dX9_bound_38 rfl ?_
        refine r_iload_2 (q := 40) dX9_bound_39 rfl ?_
        refine r_iast (q := 41) _ rfl rfl (by first | omega | assumption | decide) dX9_bound_40 rfl ?_
        refine r_aload_0 (q := 42) dX9_bound_41 rfl ?_
        refine r_getR (k := 12) (q := 45) f_RX9_41_8 rfl rfl dX9_bound_42 rfl ?_
        refine r_iload_1 (q := 46) dX9_bound_45 rfl ?_
        refine r_iload_3 (q := 47) dX9_bound_46 rfl ?_
        refine r_iast (q := 48) _ rfl rfl (by first | omega | assumption | decide) dX9_bound_47 rfl ?_
        refine r_iconst (q := 49) 1 (by decide) dX9_bound_48 rfl ?_
        refine r_zret (by first | exact Or.inl rfl | exact Or.inr rfl | assumption) rfl dX9_bound_49 (?_)
        refine hQ _ ((Fm.rf.mset (by decide)).mset (by decide)) (hC.lim ((Fr.rf.mset (by simp)).mset (by simp)) (fun i => ?_))
        have e6 : mset (mset mem 45 0 b' (nI l')) 46 0 b' (nI g') 45 0 = upd (mem 45 0) b' (nI l') := by rw [mset_g _ _ _ _ (by decide), mset_self]
        have e7 : mset (mset mem 45 0 b' (nI l')) 46 0 b' (nI g') 46 0 = upd (mem 46 0) b' (nI g') := by rw [mset_self, mset_g _ _ _ _ (by decide)]
        have e8 : mset (mset mem 45 0 b' (nI l')) 46 0 b' (nI g') 47 0 = mem 47 0 := by rw [mset_g _ _ _ _ (by decide), mset_g _ _ _ _ (by decide)]
        rw [e6, e7, e8]
        unfold setL updN upd
        by_cases e : i = b'
        · subst e; exact ⟨by simp, by simp, (hL i).2.2⟩
        · simp only [e, if_false]; exact hL i
      · exact fail (by rw [bndB_m, b2_eq0.mp h29]; simp)
theorem m_profile_ok {t m : Int32} (hC : Mk S mem) (hQ : ∀ mem', Fm mem mem' → Mk (if proB t m then (S.1, setW S.2.1 t.toNatClampNeg m.toNatClampNeg, S.2.2) else S) mem' → Q (b2 (proB t m)) mem') : Call E (d + 1) mX9_profile [pR 36 0, pI t, pI m] mem Q := by
  refine Call.of [some (pR 36 0), some (pI t), some (pI m)] mk_X9_profile rfl (Nat.le_of_ble_eq_true rfl) (fun _ => ?_)
  have hL := hC.2.1
  have fail : proB t m = false → Wp E (xm E (d + 1) mX9_profile Q) mX9_profile 20 [some (pR 36 0), some (pI t), some (pI m)] [] mem := by
    intro hf
    have hq := hQ mem Fm.rf (by rw [hf]; exact hC)
    rw [hf] at hq
    refine r_iconst (q := 21) 0 (by decide) dX9_profile_20 rfl ?_
    refine r_zret (by first | exact Or.inl rfl | exact Or.inr rfl | assumption) rfl dX9_profile_21 (?_)
    exact hq
  refine r_iload_1 (q := 1) dX9_profile_0 rfl ?_
  refine r_iconst (q := 2) 0 (by decide) dX9_profile_1 rfl ?_
  refine r_iconst (q := 3) 3 (by decide) dX9_profile_2 rfl ?_
  refine r_callS3i (M' := mX9_lies) (q := 6) mk_X9_lies ms_X9_lies k_731 rfl (Nat.le_of_ble_eq_true rfl) rm_xm dX9_profile_3 rfl (lies_ok ?_)
  refine r_if_eq (q := 9) 20 dX9_profile_6 (by decide) rfl (fun h6 => ?_) (fun h6 => ?_)
  · exact fail (by unfold proB; rw [b2_eq0.mp h6]; rfl)
  · refine r_iload_2 (q := 10) dX9_profile_9 rfl ?_
    refine r_iconst (q := 11) 0 (by decide) dX9_profile_10 rfl ?_
    refine r_sipush (q := 14) 1000 (by decide) dX9_profile_11 rfl ?_
    refine r_callS3i (M' := mX9_lies) (q := 17) mk_X9_lies ms_X9_lies k_731 rfl (Nat.le_of_ble_eq_true rfl) rm_xm dX9_profile_14 rfl (lies_ok ?_)
    refine r_if_ne (q := 20) 22 dX9_profile_17 (by decide) rfl (fun h17 => ?_) (fun h17 => ?_)
    · have hok : proB t m = true := by unfold proB; rw [b2_ne0.mp h6, b2_ne0.mp h17]; rfl
      obtain ⟨t', -, ht', rfl⟩ := in_ab (a := 0) (b := 3) (by decide) (by decide) (b2_ne0.mp h6)
      obtain ⟨m', -, hm', rfl⟩ := in_ab (a := 0) (b := 1000) (by decide) (by decide) (b2_ne0.mp h17)
      rw [hok, nI_clamp (show t' < 2 ^ 31 by omega), nI_clamp (show m' < 2 ^ 31 by omega)] at hQ
      refine r_aload_0 (q := 23) dX9_profile_22 rfl ?_
      refine r_getR (k := 13) (q := 26) f_RX9_44_8 rfl rfl dX9_profile_23 rfl ?_
      refine r_iload_1 (q := 27) dX9_profile_26 rfl ?_
      refine r_iload_2 (q := 28) dX9_profile_27 rfl ?_
      refine r_iast (q := 29) _ rfl rfl (by first | omega | assumption | decide) dX9_profile_28 rfl ?_
      refine r_iconst (q := 30) 1 (by decide) dX9_profile_29 rfl ?_
      refine r_zret (by first | exact Or.inl rfl | exact Or.inr rfl | assumption) rfl dX9_profile_30 (?_)
      refine hQ _ (Fm.rf.mset (by decide)) (hC.lim (Fr.rf.mset (by simp)) (fun i => ?_))
      rw [mset_g _ _ _ _ (by decide), mset_g _ _ _ _ (by decide), mset_self]
      unfold setW updN upd
      by_cases e : i = t'
      · subst e; exact ⟨(hL i).1, (hL i).2.1, by simp⟩
      · simp only [e, if_false]; exact hL i
    · exact fail (by unfold proB; rw [b2_eq0.mp h17, Bool.and_false])
theorem m_rest_ok {r : Int32} (hC : Mk S mem) (hQ : ∀ mem', Fm mem mem' → Mk (if decide (0 ≤ r ∧ r ≤ 9) then ((bN S.1, bT S.1, r.toNatClampNeg, bF S.1, bG S.1), S.2) else S) mem' → Q (b2 (decide (0 ≤ r ∧ r ≤ 9))) mem') : Call E (d + 1) mX9_rest [pR 36 0, pI r] mem Q := by
  refine Call.of [some (pR 36 0), some (pI r)] mk_X9_rest rfl (Nat.le_of_ble_eq_true rfl) (fun _ => ?_)
  have hB := hC.1
  refine r_iload_1 (q := 1) dX9_rest_0 rfl ?_
  refine r_iconst (q := 2) 0 (by decide) dX9_rest_1 rfl ?_
  refine r_bipush (q := 4) 9 (by decide) dX9_rest_2 rfl ?_
  refine r_callS3i (M' := mX9_lies) (q := 7) mk_X9_lies ms_X9_lies k_731 rfl (Nat.le_of_ble_eq_true rfl) rm_xm dX9_rest_4 rfl (lies_ok ?_)
  refine r_if_ne (q := 10) 12 dX9_rest_7 (by decide) rfl (fun h7 => ?_) (fun h7 => ?_)
  · have h7 := b2_ne0.mp h7
    obtain ⟨r', -, hr', rfl⟩ := in_ab (a := 0) (b := 9) (by decide) (by decide) h7
    rw [h7, nI_clamp (show r' < 2 ^ 31 by omega)] at hQ
    refine r_aload_0 (q := 13) dX9_rest_12 rfl ?_
    refine r_iload_1 (q := 14) dX9_rest_13 rfl ?_
    refine r_put (k := 2) (q := 17) f_RX9_98_8 pf_8_2 rfl rfl dX9_rest_14 rfl ?_
    refine r_iconst (q := 18) 1 (by decide) dX9_rest_17 rfl ?_
    refine r_zret (by first | exact Or.inl rfl | exact Or.inr rfl | assumption) rfl dX9_rest_18 (?_)
    refine hQ _ (Fm.rf.mset (by decide)) (hC.bank (fun g hg => mset_g _ _ _ _ (by omega)) (fun i hi => ?_) ⟨hB.1, hB.2.1, rfl, hB.2.2.2.1, hB.2.2.2.2⟩)
    rw [mset_self]; unfold upd; rw [if_neg (by omega)]
  · have h7 := b2_eq0.mp h7
    rw [h7] at hQ
    refine r_iconst (q := 11) 0 (by decide) dX9_rest_10 rfl ?_
    refine r_zret (by first | exact Or.inl rfl | exact Or.inr rfl | assumption) rfl dX9_rest_11 (?_)
    exact hQ mem Fm.rf hC
theorem m_term_ok (hC : Mk S mem) (hWF : WFS S) (hQ : ∀ mem', Fm mem mem' → Mk (if bT S.1 < 1000 then ((bN S.1, bT S.1 + 1, bR S.1, bF S.1, bG S.1), S.2) else S) mem' → Q (if bT S.1 < 1000 then nI (bT S.1 + 1) else -1) mem') : Call E d mX9_term [pR 36 0] mem Q := by
  refine Call.of [some (pR 36 0)] mk_X9_term rfl (Nat.le_of_ble_eq_true rfl) (fun _ => ?_)
  have hB := hC.1
  have hT := hWF.1.2.1
  refine r_aload_0 (q := 1) dX9_term_0 rfl ?_
  refine r_getI (k := 1) (q := 4) f_RX9_7_8 rfl rfl dX9_term_1 rfl ?_
  refine r_sipush (q := 7) 1000 (by decide) dX9_term_4 rfl ?_
  rw [hB.2.1]
  refine r_icmp_ne (q := 10) 12 dX9_term_7 (by decide) rfl (fun h7 => ?_) (fun h7 => ?_)
  · have h10 : bT S.1 < 1000 := by
      rcases Nat.lt_or_ge (bT S.1) 1000 with z | z
      · exact z
      · exact absurd (by rw [show bT S.1 = 1000 by omega]; rfl) h7
    rw [if_pos h10, if_pos h10] at hQ
    refine r_aload_0 (q := 13) dX9_term_12 rfl ?_
    refine r_dup (q := 14) dX9_term_13 rfl ?_
    refine r_getI (k := 1) (q := 17) f_RX9_7_8 rfl rfl dX9_term_14 rfl ?_
    rw [hB.2.1]
    refine r_iconst (q := 18) 1 (by decide) dX9_term_17 rfl ?_
    refine r_iadd (q := 19) dX9_term_18 rfl ?_
    rw [nI_1]
    refine r_put (k := 1) (q := 22) f_RX9_7_8 pf_8_1 rfl rfl dX9_term_19 rfl ?_
    refine r_aload_0 (q := 23) dX9_term_22 rfl ?_
    refine r_getI (k := 1) (q := 26) f_RX9_7_8 rfl rfl dX9_term_23 rfl ?_
    rw [mset_at]
    refine r_iret rfl dX9_term_26 (?_)
    refine hQ _ (Fm.rf.mset (by decide)) (hC.bank (fun g hg => mset_g _ _ _ _ (by omega)) (fun i hi => ?_) ⟨hB.1, rfl, hB.2.2.1, hB.2.2.2.1, hB.2.2.2.2⟩)
    rw [mset_self]; unfold upd; rw [if_neg (by omega)]
  · have h10 : ¬ bT S.1 < 1000 := by
      have := nI_inj (b := 1000) (by omega) (by decide) h7
      omega
    rw [if_neg h10, if_neg h10] at hQ
    refine r_iconst (q := 11) (-1) (by decide) dX9_term_10 rfl ?_
    refine r_iret rfl dX9_term_11 (?_)
    exact hQ mem Fm.rf hC
theorem m_use_ok {x : Int32} (hC : Mk S mem) (hWF : WFS S) (hQ : ∀ mem', Fm mem mem' → Mk (if setB S.1 x then (useF S.1 x.toNatClampNeg (bN S.1), S.2) else S) mem' → Q (b2 (setB S.1 x)) mem') : Call E (d + 2) mX9_use [pR 36 0, pI x] mem Q := by
  refine Call.of [some (pR 36 0), some (pI x), none] mk_X9_use rfl (Nat.le_of_ble_eq_true rfl) (fun _ => ?_)
  have hB := hC.1
  have h24 := hWF.1.1
  refine r_aload_0 (q := 1) dX9_use_0 rfl ?_
  refine r_iload_1 (q := 2) dX9_use_1 rfl ?_
  refine r_callV1i (M' := mX9_isSet) (q := 5) mk_X9_isSet mi_X9_isSet k_769 rfl rfl rfl rfl (Nat.le_of_ble_eq_true rfl) rm_xm dX9_use_2 rfl (isSet_ok hB hWF.1 ?_)
  refine r_if_ne (q := 8) 10 dX9_use_5 (by decide) rfl (fun h5 => ?_) (fun h5 => ?_)
  · have h8 : setB S.1 x = true := b2_ne0.mp h5
    obtain ⟨s, hs, rfl⟩ := setB_ex hWF.1 h8
    have hs24 : s < 2 ^ 24 := Nat.lt_of_lt_of_le hs (pw_le h24)
    rw [h8, nI_clamp (pw24 hs24)] at hQ
    refine r_iconst (q := 11) 0 (by decide) dX9_use_10 rfl ?_
    refine r_istore_2 (q := 12) (by decide) dX9_use_11 rfl ?_
    suffices H : ∀ (k q : Nat) (m : Mem), bN S.1 - q < k → q ≤ bN S.1 → Fr [43] mem m → (∀ q', m 43 0 q' = bF (useF S.1 s q) q' 6) → Wp E (xm E (d + 2) mX9_use Q) mX9_use 12 [some (pR 36 0), some (pI (nI s)), some (pI (nI q))] [] m from H (bN S.1 + 1) 0 mem (by omega) (by omega) Fr.rf (fun q' => by
      rw [bF_useF, if_neg (fun z => absurd z.1 (Nat.not_lt_zero _))]
      exact (hB.2.2.2.1 q').2.2.2.2.2.2)
    intro k
    induction k with
    | zero => intro q m h; omega
    | succ k ih =>
      intro q m h1 h2 hF hR
      refine r_iload_2 (q := 13) dX9_use_12 rfl ?_
      refine r_aload_0 (q := 14) dX9_use_13 rfl ?_
      refine r_getI (k := 0) (q := 17) f_RX9_83_8 rfl rfl dX9_use_14 rfl ?_
      rw [show m 36 0 0 = nI (bN S.1) by rw [hF 36 (by decide)]; exact hB.1]
      refine r_icmp_ge (q := 20) 44 dX9_use_17 (by decide) rfl (fun h17 => ?_) (fun h17 => ?_)
      · have hq := nI_ge_of (by omega) (by omega) h17
        have hq : q = bN S.1 := by omega
        subst hq
        refine r_iconst (q := 45) 1 (by decide) dX9_use_44 rfl ?_
        refine r_zret (by first | exact Or.inl rfl | exact Or.inr rfl | assumption) rfl dX9_use_45 (?_)
        refine hQ m (Fm.fr Fm.rf hF (by simp)) (hC.bank (fun g hg => hF g (by simp; omega)) (fun i _ => by rw [hF 36 (by decide)]) ⟨?_, ?_, ?_, ?_, ?_⟩)
        · rw [hF 36 (by decide)]; exact hB.1
        · rw [hF 36 (by decide)]; exact hB.2.1
        · rw [hF 36 (by decide)]; exact hB.2.2.1
        · intro q'
          have hb := hB.2.2.2.1 q'
          rw [hF 37 (by decide), hF 38 (by decide), hF 39 (by decide), hF 40 (by decide), hF 41 (by decide), hF 42 (by decide), hR q', bF_useF]
          have e : ∀ k', ¬ k' = 6 → (if q' < bN S.1 ∧ s.testBit q' = true then upd (bF S.1 q') 6 (nI (bT S.1)) else bF S.1 q') k' = bF S.1 q' k' := by
            intro k' hk'
            split
            · unfold upd; rw [if_neg hk']
            · rfl
          rw [e 0 (by decide), e 1 (by decide), e 2 (by decide), e 3 (by decide), e 4 (by decide), e 5 (by decide)]
          exact ⟨hb.1, hb.2.1, hb.2.2.1, hb.2.2.2.1, hb.2.2.2.2.1, hb.2.2.2.2.2.1, rfl⟩
        · intro q; rw [hF 44 (by decide)]; exact hB.2.2.2.2 q
      · have hq : q < bN S.1 := nI_lt_of (by omega) h17
        refine r_iload_1 (q := 21) dX9_use_20 rfl ?_
        refine r_iload_2 (q := 22) dX9_use_21 rfl ?_
        refine r_callS2i (M' := mX9_has) (q := 25) mk_X9_has ms_X9_has k_746 rfl (Nat.le_of_ble_eq_true rfl) rm_xm dX9_use_22 rfl (mhas_ok (pw24 hs24) (by omega) ?_)
        refine r_if_eq (q := 28) 38 dX9_use_25 (by decide) rfl (fun h25 => ?_) (fun h25 => ?_)
        · have h31 := b2_eq0.mp h25
          refine r_iinc_2 (q := 41) _ (nI_inc _) (by decide) dX9_use_38 rfl ?_
          refine r_goto 12 dX9_use_41 (by decide) ?_
          refine ih (q + 1) m (by omega) (by omega) hF (fun q' => ?_)
          rw [hR q', bF_useF, bF_useF]
          by_cases e : q' = q
          · subst e; rw [if_neg (by omega), if_neg (by rw [h31]; simp)]
          · by_cases z : q' < q ∧ s.testBit q' = true
            · rw [if_pos z, if_pos ⟨by omega, z.2⟩]
            · rw [if_neg z, if_neg (fun w => z ⟨by omega, w.2⟩)]
        · have h31 := b2_ne0.mp h25
          refine r_aload_0 (q := 29) dX9_use_28 rfl ?_
          refine r_getR (k := 9) (q := 32) f_RX9_32_8 rfl rfl dX9_use_29 rfl ?_
          refine r_iload_2 (q := 33) dX9_use_32 rfl ?_
          refine r_aload_0 (q := 34) dX9_use_33 rfl ?_
          refine r_getI (k := 1) (q := 37) f_RX9_7_8 rfl rfl dX9_use_34 rfl ?_
          rw [show m 36 0 1 = nI (bT S.1) by rw [hF 36 (by decide)]; exact hB.2.1]
          refine r_iast (q := 38) _ rfl rfl (by first | omega | assumption | decide) dX9_use_37 rfl ?_
          refine r_iinc_2 (q := 41) _ (nI_inc _) (by decide) dX9_use_38 rfl ?_
          refine r_goto 12 dX9_use_41 (by decide) ?_
          refine ih (q + 1) _ (by omega) (by omega) (hF.mset (by simp)) (fun q' => ?_)
          rw [bF_useF, mset_self]
          unfold upd
          by_cases e : q' = q
          · subst e
            rw [if_pos rfl, if_pos ⟨by omega, h31⟩, if_pos rfl]
          · rw [if_neg e, hR q', bF_useF]
            by_cases z : q' < q ∧ s.testBit q' = true
            · rw [if_pos z, if_pos ⟨by omega, z.2⟩]; rfl
            · rw [if_neg z, if_neg (fun w => z ⟨by omega, w.2⟩)]
  · have h8 : setB S.1 x = false := b2_eq0.mp h5
    rw [h8] at hQ
    refine r_iconst (q := 9) 0 (by decide) dX9_use_8 rfl ?_
    refine r_zret (by first | exact Or.inl rfl | exact Or.inr rfl | assumption) rfl dX9_use_9 (?_)
    exact hQ mem Fm.rf hC
theorem m_rests_ok {x : Int32} (hC : Mk S mem) (hWF : WFS S) (hQ : Q (restsV S.1 x) mem) : Call E (d + 2) mX9_rests [pR 36 0, pI x] mem Q := by
  refine Call.of [some (pR 36 0), some (pI x)] mk_X9_rests rfl (Nat.le_of_ble_eq_true rfl) (fun _ => ?_)
  have hB := hC.1
  have h24 := hWF.1.1
  refine r_aload_0 (q := 1) dX9_rests_0 rfl ?_
  refine r_iload_1 (q := 2) dX9_rests_1 rfl ?_
  refine r_callV1i (M' := mX9_isQuestion) (q := 5) mk_X9_isQuestion mi_X9_isQuestion k_738 rfl rfl rfl rfl (Nat.le_of_ble_eq_true rfl) rm_xm dX9_rests_2 rfl (isQ_ok hB ?_)
  refine r_if_ne (q := 8) 12 dX9_rests_5 (by decide) rfl (fun h5 => ?_) (fun h5 => ?_)
  · have h8 : hasB S.1 x = true := b2_ne0.mp h5
    obtain ⟨q, hq, rfl⟩ := hasB_ex hWF.1 h8
    unfold restsV at hQ
    rw [h8, if_pos rfl, nI_clamp (by omega)] at hQ
    refine r_aload_0 (q := 13) dX9_rests_12 rfl ?_
    refine r_iload_1 (q := 14) dX9_rests_13 rfl ?_
    refine r_callV1i (M' := mX9_isResting) (q := 17) mk_X9_isResting mi_X9_isResting k_777 rfl rfl rfl rfl (Nat.le_of_ble_eq_true rfl) rm_xm dX9_rests_14 rfl (mrest_ok hB (by omega) ?_)
    refine r_if_eq (q := 20) 24 dX9_rests_17 (by decide) rfl (fun h17 => ?_) (fun h17 => ?_)
    · refine r_iconst (q := 25) 0 (by decide) dX9_rests_24 rfl ?_
      refine r_iret rfl dX9_rests_25 (?_)
      rw [b2_eq0.mp h17] at hQ
      exact hQ
    · refine r_iconst (q := 21) 1 (by decide) dX9_rests_20 rfl ?_
      refine r_goto 25 dX9_rests_21 (by decide) ?_
      refine r_iret rfl dX9_rests_25 (?_)
      rw [b2_ne0.mp h17] at hQ
      exact hQ
  · have h8 : hasB S.1 x = false := b2_eq0.mp h5
    unfold restsV at hQ
    rw [h8] at hQ
    refine r_iconst (q := 9) (-1) (by decide) dX9_rests_8 rfl ?_
    refine r_goto 25 dX9_rests_9 (by decide) ?_
    refine r_iret rfl dX9_rests_25 (?_)
    exact hQ
end MP
