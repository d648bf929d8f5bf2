/-! THE CLASS: why and versions -/
def fewT (k : Nat → Bool) : Nat → Nat
  | 0 => 0
  | b + 1 => if k (b + 1) = false ∧ (fewT k b = 0 ∨ popN (b + 1) < popN (fewT k b)) then b + 1 else fewT k b
theorem fewT_le (k : Nat → Bool) : ∀ b, fewT k b ≤ b
  | 0 => Nat.le_refl 0
  | b + 1 => by
    have := fewT_le k b
    unfold fewT
    split <;> omega
def lw (s : Nat) : Nat := bset (fun i => lowQ s i) 24
theorem lw_val {s : Nat} (hs : s < 2 ^ 24) : nI s &&& (0 - nI s) = nI (lw s) := by
  apply Int32.toBitVec_inj.mp
  apply BitVec.eq_of_getLsbD_eq
  intro i hi
  rw [low_tb s i hi, nI_bv, BitVec.getLsbD_ofNat]
  unfold lw
  rw [bset_tb]
  unfold lowQ
  by_cases h : i < 24
  · simp [hi, h]
  · simp [hi, h, tb_hi hs (show 24 ≤ i by omega)]
theorem lw_pos {s : Nat} (hs : s < 2 ^ 24) (h0 : s ≠ 0) : 1 ≤ lw s := by
  rcases Nat.eq_zero_or_pos (lw s) with h | h
  · exfalso
    obtain ⟨i, hi⟩ := ne_zero_tb h0
    obtain ⟨j, hj, hm⟩ := pk_least (fun i => s.testBit i = true) ⟨i, hi⟩
    have hj24 : j < 24 := by
      rcases Nat.lt_or_ge j 24 with z | z
      · exact z
      · rw [tb_hi hs z] at hj; cases hj
    have : (lw s).testBit j = true := by
      unfold lw lowQ
      rw [bset_tb, hj, (allb_iff _ _).mpr (fun x hx => by
        have := hm x hx
        cases hb : s.testBit x with
        | false => rfl
        | true => exact absurd hb this)]
      simp [hj24]
    rw [h, Nat.zero_testBit] at this
    cases this
  · exact h
theorem lw_lt (s : Nat) : lw s < 2 ^ 24 := bset_lt _ _
/-- the best two so far: spreads together, questions together, first, second -/
abbrev B4 : Type := Nat × Nat × Nat × Nat
def alikeB (k : K21) (D i j : Nat) : Bool := decide ((k.2.2.1 i - k.2.2.1 j ≤ D ∧ k.2.2.1 j - k.2.2.1 i ≤ D) ∧ (k.2.1 i - k.2.1 j ≤ D ∧ k.2.1 j - k.2.1 i ≤ D))
def betterB (k : K21) (i j : Nat) (b : B4) : Bool :=
  if k.2.2.2.1 i + k.2.2.2.1 j = b.1 then
    (if popN (k.1 i ||| k.1 j) = b.2.1 then (if k.1 i = b.2.2.1 then decide (b.2.2.2 < k.1 j) else decide (b.2.2.1 < k.1 i)) else decide (popN (k.1 i ||| k.1 j) < b.2.1))
  else decide (k.2.2.2.1 i + k.2.2.2.1 j < b.1)
def upd1 (k : K21) (D i j : Nat) (b : B4) : B4 := if ((¬ k.1 j = 0 ∧ k.2.2.2.1 i + k.2.2.2.1 j ≤ b.1) ∧ alikeB k D i j = true) ∧ betterB k i j b = true then (k.2.2.2.1 i + k.2.2.2.1 j, popN (k.1 i ||| k.1 j), k.1 i, k.1 j) else b
def pairP (k : K21) (D i free : Nat) : Nat → Nat → B4 → B4
  | 0, _, b => b
  | f + 1, j, b => if j = 0 then b else pairP k D i free f ((j - 1) &&& free) (upd1 k D i j b)
def freeB (al i : Nat) : Nat := andn (andn al i) (lw i - 1)
def allP (k : K21) (D al : Nat) : Nat → B4 → B4
  | 0, b => b
  | n + 1, b => (fun b' : B4 => if k.1 (n + 1) = 0 then b' else pairP k D (n + 1) (freeB al (n + 1)) (al + 1) (freeB al (n + 1)) b') (allP k D al n b)
def GK (k : K21) : Prop := ∀ t, t < 1024 → ¬ k.1 t = 0 → k.1 t < 2 ^ 24 ∧ k.2.1 t ≤ 2000 ∧ k.2.2.1 t ≤ 2000 ∧ k.2.2.2.1 t ≤ 20000
def R4 (b : B4) (mem : Mem) : Prop := mem 21 0 9 = nI b.1 ∧ mem 21 0 10 = nI b.2.1 ∧ mem 21 0 11 = nI b.2.2.1 ∧ mem 21 0 12 = nI b.2.2.2 ∧ b.1 ≤ 1000000 ∧ b.2.1 ≤ 24 ∧ b.2.2.1 < 2 ^ 24 ∧ b.2.2.2 < 2 ^ 24
theorem popN_le (s : Nat) : popN s ≤ 24 := cnt_le _ _
theorem abs_val {a b : Nat} (ha : a ≤ 2000) (hb : b ≤ 2000) (D : Nat) (hD : D ≤ 1000) : (¬ nI D < (if (0 : Int32) ≤ nI a - nI b then nI a - nI b else 0 - (nI a - nI b))) ↔ (a - b ≤ D ∧ b - a ≤ D) := by
  have e1 := pk_sub_toInt (a := a) (b := b) (by omega) (by omega)
  have e2 := pk_sub_toInt (a := b) (b := a) (by omega) (by omega)
  have e3 : (0 : Int32) - (nI a - nI b) = nI b - nI a := by
    rw [Int32.zero_sub, Int32.neg_sub]
  rw [e3]
  by_cases h : (0 : Int32) ≤ nI a - nI b
  · rw [if_pos h, Int32.lt_iff_toInt_lt, e1, nI_toInt (by omega)]
    rw [Int32.le_iff_toInt_le, e1, Int32.toInt_zero] at h
    omega
  · rw [if_neg h, Int32.lt_iff_toInt_lt, e2, nI_toInt (by omega)]
    rw [Int32.le_iff_toInt_le, e1, Int32.toInt_zero] at h
    omega
section VS
variable {E : En} {d : Nat} {mem : Mem} {Q : Int32 → Mem → Prop} {S : AS}
def whyK (B : BD) (L : LD) (Us : List Nat) : Nat → Bool := walkP (hop18 B L) (mt18 B L) (clashB B) Us 0 0 0 (fun _ => false)
theorem findFewest_ok {B : BD} {L : LD} {Us : List Nat} (hW : WFB B) (hWL : WFL L) (hO : UsOK Us) (hU : Uk B Us mem) (hL : Lk L mem) (hS : Sk 18 19 0 0 z10 mem) (hQ : ∀ mem', Fr fr18 mem mem' → Sk 18 19 0 0 z10 mem' → Q (nI (fewT (whyK B L Us) 1023)) mem') : Call E (d + 21) mX7_findFewestUnkept [pR 18 0] mem Q := by
  refine Call.of [some (pR 18 0), none, none, none] mk_X7_findFewestUnkept rfl (Nat.le_of_ble_eq_true rfl) (fun _ => ?_)
  have hl := hO.1
  have W2 : ∀ (m2 : Mem), Fr fr18 mem m2 → Sk 18 19 0 0 z10 m2 → R18 (whyK B L Us) m2 → ∀ j b, 1024 - b < j → 1 ≤ b → b ≤ 1024 → Wp E (xm E (d + 21) mX7_findFewestUnkept Q) mX7_findFewestUnkept 30 [some (pR 18 0), some (pI (nI (fewT (whyK B L Us) (b - 1)))), some (pI (nI b)), none] [] m2 := by
    intro m2 hF2 hS2 hR2 j
    induction j with
    | zero => intro b h; omega
    | succ j ih =>
      intro b h1 h2 h3
      generalize whyK B L Us = k at *
      obtain ⟨b, rfl⟩ : ∃ b', b = b' + 1 := ⟨b - 1, by omega⟩
      rw [Nat.add_sub_cancel]
      have hfl := fewT_le k b
      refine r_iload_2 (q := 31) dX7_findFewestUnkept_30 rfl ?_
      refine r_sipush (q := 34) 1023 (by decide) dX7_findFewestUnkept_31 rfl ?_
      refine r_icmp_gt (q := 37) 79 dX7_findFewestUnkept_34 (by decide) rfl (fun h34 => ?_) (fun h34 => ?_)
      · have hb := (nI_ltI (a := 1023) (by decide) (by omega)).mp h34
        have hb : b = 1023 := by omega
        subst hb
        refine r_iload_1 (q := 80) dX7_findFewestUnkept_79 rfl ?_
        refine r_iret rfl dX7_findFewestUnkept_80 (?_)
        exact hQ m2 hF2 hS2
      · have hb : b + 1 ≤ 1023 := by
          rcases Nat.lt_or_ge 1023 (b + 1) with z | z
          · exact absurd (nI_lt z (by omega)) h34
          · exact z
        have J : ∀ c : Bool, (c = true ↔ (fewT k b = 0 ∨ popN (b + 1) < popN (fewT k b))) → Wp E (xm E (d + 21) mX7_findFewestUnkept Q) mX7_findFewestUnkept 57 [some (pR 18 0), some (pI (nI (fewT k b))), some (pI (nI (b + 1))), none] [pI (b2 c)] m2 := by
          intro c hc
          refine r_istore_3 (q := 58) (by decide) dX7_findFewestUnkept_57 rfl ?_
          refine r_aload_0 (q := 59) dX7_findFewestUnkept_58 rfl ?_
          refine r_getR (k := 5) (q := 62) f_RX7_9_6 rfl rfl dX7_findFewestUnkept_59 rfl ?_
          refine r_iload_2 (q := 63) dX7_findFewestUnkept_62 rfl ?_
          refine r_zald (q := 64) _ rfl rfl (by first | omega | assumption | decide) dX7_findFewestUnkept_63 rfl ?_
          rw [hR2 (b + 1) (by omega)]
          have go : ∀ v, v = fewT k (b + 1) → Wp E (xm E (d + 21) mX7_findFewestUnkept Q) mX7_findFewestUnkept 73 [some (pR 18 0), some (pI (nI v)), some (pI (nI (b + 1))), some (pI (b2 c))] [] m2 := by
            intro v hv
            subst hv
            refine r_iinc_2 (q := 76) _ (nI_inc _) (by decide) dX7_findFewestUnkept_73 rfl ?_
            refine r_goto 30 dX7_findFewestUnkept_76 (by decide) ?_
            have := ih (b + 2) (by omega) (by omega) (by omega)
            exact this.sub (by simp [lsub])
          refine r_if_ne (q := 67) 73 dX7_findFewestUnkept_64 (by decide) rfl (fun h64 => ?_) (fun h64 => ?_)
          · exact go _ (by rw [fewT, if_neg (fun z => by rw [b2_ne0.mp h64] at z; cases z.1)])
          · refine r_iload_3 (q := 68) dX7_findFewestUnkept_67 rfl ?_
            refine r_if_eq (q := 71) 73 dX7_findFewestUnkept_68 (by decide) rfl (fun h68 => ?_) (fun h68 => ?_)
            · exact go _ (by rw [fewT, if_neg (fun z => by have := hc.mpr z.2; rw [b2_eq0.mp h68] at this; cases this)])
            · refine r_iload_2 (q := 72) dX7_findFewestUnkept_71 rfl ?_
              refine r_istore_1 (q := 73) (by decide) dX7_findFewestUnkept_72 rfl ?_
              exact go _ (by rw [fewT, if_pos ⟨b2_eq0.mp h64, hc.mp (b2_ne0.mp h68)⟩])
        refine r_iload_1 (q := 38) dX7_findFewestUnkept_37 rfl ?_
        refine r_if_eq (q := 41) 52 dX7_findFewestUnkept_38 (by decide) rfl (fun h38 => ?_) (fun h38 => ?_)
        · have h38 := (nI_zero_iff (by omega)).mp h38
          refine r_iconst (q := 53) 1 (by decide) dX7_findFewestUnkept_52 rfl ?_
          refine r_goto 57 dX7_findFewestUnkept_53 (by decide) ?_
          exact J true ⟨fun _ => Or.inl h38, fun _ => rfl⟩
        · have h38 : ¬ fewT k b = 0 := fun z => h38 (by rw [z]; rfl)
          have p1 := popN_le (b + 1)
          have p2 := popN_le (fewT k b)
          refine r_iload_2 (q := 42) dX7_findFewestUnkept_41 rfl ?_
          refine r_callS1i (M' := mJ6_bitCount_0f7a4) (q := 45) mk_J6_bitCount_0f7a4 ms_J6_bitCount_0f7a4 k_516 rfl (Nat.le_of_ble_eq_true rfl) rm_xm dX7_findFewestUnkept_42 rfl (bitCount_ok (by omega) ?_)
          refine r_iload_1 (q := 46) dX7_findFewestUnkept_45 rfl ?_
          refine r_callS1i (M' := mJ6_bitCount_0f7a4) (q := 49) mk_J6_bitCount_0f7a4 ms_J6_bitCount_0f7a4 k_516 rfl (Nat.le_of_ble_eq_true rfl) rm_xm dX7_findFewestUnkept_46 rfl (bitCount_ok (by omega) ?_)
          refine r_icmp_ge (q := 52) 56 dX7_findFewestUnkept_49 (by decide) rfl (fun h49 => ?_) (fun h49 => ?_)
          · have h49 := nI_ge_of (by omega) (by omega) h49
            refine r_iconst (q := 57) 0 (by decide) dX7_findFewestUnkept_56 rfl ?_
            exact J false ⟨fun z => (by cases z), fun z => (by rcases z with z | z <;> omega)⟩
          · have h49 := nI_lt_of (by omega) h49
            refine r_iconst (q := 53) 1 (by decide) dX7_findFewestUnkept_52 rfl ?_
            refine r_goto 57 dX7_findFewestUnkept_53 (by decide) ?_
            exact J true ⟨fun _ => Or.inr h49, fun _ => rfl⟩
  refine r_iconst (q := 1) 0 (by decide) dX7_findFewestUnkept_0 rfl ?_
  refine r_istore_1 (q := 2) (by decide) dX7_findFewestUnkept_1 rfl ?_
  suffices H : ∀ (j b : Nat) (m : Mem), 1024 - b < j → b ≤ 1024 → Fr [20] mem m → (∀ i, i < b → m 20 0 i = 0) → Wp E (xm E (d + 21) mX7_findFewestUnkept Q) mX7_findFewestUnkept 2 [some (pR 18 0), some (pI (nI b)), none, none] [] m from H 1025 0 mem (by omega) (by omega) Fr.rf (fun i hi => by omega)
  intro j
  induction j with
  | zero => intro b m h; omega
  | succ j ih =>
    intro b m h1 h2 hF hR
    refine r_iload_1 (q := 3) dX7_findFewestUnkept_2 rfl ?_
    refine r_sipush (q := 6) 1023 (by decide) dX7_findFewestUnkept_3 rfl ?_
    refine r_icmp_gt (q := 9) 22 dX7_findFewestUnkept_6 (by decide) rfl (fun h6 => ?_) (fun h6 => ?_)
    · have hb := (nI_ltI (a := 1023) (by decide) (by omega)).mp h6
      have hb : b = 1024 := by omega
      subst hb
      refine r_aload_0 (q := 23) dX7_findFewestUnkept_22 rfl ?_
      refine r_callU0v (M' := mX4_walkAll) (x := ⟨"PaperSetter$WhySearch", "walkAll", "()V"⟩) (owner := "PaperSetter$Search") (r := (RX7, TX7, 6)) (q := 26) mk_X4_walkAll k_457 k_515 k_514 (Or.inl rfl) (by decide +kernel) k_513 rfl rfl rfl (Nat.le_of_ble_eq_true rfl) rm_xm dX7_findFewestUnkept_23 rfl (Call.lv (show (d + (16 - Us.length)) + Us.length + 4 = d + 20 by omega) (walkAll18_ok (κ := fun _ => false) hW hWL hO trivial (hU.fr hF (by decide) (by decide) (by decide) (by decide) (by decide)) (hL.fr hF (by decide) (by decide) (by decide)) (hS.fr hF (by decide) (by decide)) (fun i hi => hR i hi) (fun m2 hF2 hS2 hR2 => ?_)))
      refine r_iconst (q := 27) 0 (by decide) dX7_findFewestUnkept_26 rfl ?_
      refine r_istore_1 (q := 28) (by decide) dX7_findFewestUnkept_27 rfl ?_
      refine r_iconst (q := 29) 1 (by decide) dX7_findFewestUnkept_28 rfl ?_
      refine r_istore_2 (q := 30) (by decide) dX7_findFewestUnkept_29 rfl ?_
      have := W2 m2 ((hF.mono (by decide)).tr hF2) hS2 hR2 1024 1 (by omega) (by omega) (by omega)
      exact this
    · have hb : b ≤ 1023 := by
        rcases Nat.lt_or_ge 1023 b with z | z
        · exact absurd (nI_lt z (by omega)) h6
        · exact z
      refine r_aload_0 (q := 10) dX7_findFewestUnkept_9 rfl ?_
      refine r_getR (k := 5) (q := 13) f_RX7_9_6 rfl rfl dX7_findFewestUnkept_10 rfl ?_
      refine r_iload_1 (q := 14) dX7_findFewestUnkept_13 rfl ?_
      refine r_iconst (q := 15) 0 (by decide) dX7_findFewestUnkept_14 rfl ?_
      refine r_zast (q := 16) _ rfl (by first | exact Or.inl rfl | exact Or.inr rfl | assumption) rfl (by first | omega | assumption | decide) dX7_findFewestUnkept_15 rfl ?_
      refine r_iinc_1 (q := 19) _ (nI_inc _) (by decide) dX7_findFewestUnkept_16 rfl ?_
      refine r_goto 2 dX7_findFewestUnkept_19 (by decide) ?_
      refine ih (b + 1) _ (by omega) (by omega) (hF.mset (by simp)) (fun i hi => ?_)
      rw [mset_self]
      unfold upd
      by_cases e : i = b
      · rw [if_pos e]
      · rw [if_neg e]; exact hR i (by omega)
def whyV (B : BD) (L : LD) : Int32 := if handB B ≤ 16 then nI (fewT (whyK B L (unitsB B)) 1023) else -1
theorem why_ok (hC : Ck S mem) (hWF : WFS S) (hQ : ∀ mem', Fc mem mem' → Ck S mem' → Q (whyV S.1 S.2.1) mem') : Call E (d + 22) mX8_why [pR 0 0] mem Q := by
  refine Call.of [some (pR 0 0)] mk_X8_why rfl (Nat.le_of_ble_eq_true rfl) (fun _ => ?_)
  have hB := hC.1
  have h24 := hWF.1.1
  have hh : handB S.1 ≤ 24 := Nat.le_trans (cnt_le _ _) h24
  refine r_aload_0 (q := 1) dX8_why_0 rfl ?_
  refine r_getR (k := 0) (q := 4) f_RX8_12_7 rfl rfl dX8_why_1 rfl ?_
  refine r_callV0i (M' := mX0_countAtHand) (q := 7) mk_X0_countAtHand mi_X0_countAtHand k_426 rfl rfl rfl rfl (Nat.le_of_ble_eq_true rfl) rm_xm dX8_why_4 rfl (countAtHand_ok hB hWF.1 ?_)
  refine r_bipush (q := 9) 16 (by decide) dX8_why_7 rfl ?_
  unfold whyV at hQ
  refine r_icmp_le (q := 12) 14 dX8_why_9 (by decide) rfl (fun h9 => ?_) (fun h9 => ?_)
  · have h16 := nI_ge_of (b := 16) (by omega) (by decide) h9
    rw [if_pos h16] at hQ
    refine r_aload_0 (q := 15) dX8_why_14 rfl ?_
    refine r_getR (k := 2) (q := 18) f_RX8_26_7 rfl rfl dX8_why_15 rfl ?_
    refine r_aload_0 (q := 19) dX8_why_18 rfl ?_
    refine r_getR (k := 0) (q := 22) f_RX8_12_7 rfl rfl dX8_why_19 rfl ?_
    refine r_callV1v (M' := mX5_splitBank) (q := 25) mk_X5_splitBank mi_X5_splitBank k_430 rfl rfl rfl rfl (Nat.le_of_ble_eq_true rfl) rm_xm dX8_why_22 rfl (splitBank_ok hB hWF.1 h16 (fun m1 hF1 hU1 => ?_))
    refine r_aload_0 (q := 26) dX8_why_25 rfl ?_
    refine r_getR (k := 4) (q := 29) f_RX8_42_7 rfl rfl dX8_why_26 rfl ?_
    refine r_callV0i (M' := mX7_findFewestUnkept) (q := 32) mk_X7_findFewestUnkept mi_X7_findFewestUnkept k_509 rfl rfl rfl rfl (Nat.le_of_ble_eq_true rfl) rm_xm dX8_why_29 rfl (findFewest_ok hWF.1 hWF.2.1 (units_ok hWF.1 h16) hU1 (hC.2.1.fr hF1 (by decide) (by decide) (by decide)) (hC.2.2.2.1.2.1.fr hF1 (by decide) (by decide)) (fun m2 hF2 hS2 => ?_))
    have hF : Fr (fr16 ++ (fr18 ++ (fr21 ++ [9, 10, 11, 13, 15, 35]))) mem m2 := (hF1.mono (by decide)).tr (hF2.mono (by decide))
    have hF' : Fr (fr18 ++ [9, 10, 11, 13, 15]) mem m2 := (hF1.mono (by decide)).tr (hF2.mono (by decide))
    refine r_iret rfl dX8_why_32 (?_)
    exact hQ m2 (Fc.fr Fc.rf hF (by decide)) (hC.frB hF (hC.2.2.2.1.1.fr hF' (by decide) (by decide)) hS2 (hC.2.2.2.1.2.2.fr hF' (by decide) (by decide)))
  · have h16 : ¬ handB S.1 ≤ 16 := fun z => h9 (nI_le z (by decide))
    rw [if_neg h16] at hQ
    refine r_iconst (q := 13) (-1) (by decide) dX8_why_12 rfl ?_
    refine r_iret rfl dX8_why_13 (?_)
    exact hQ mem Fc.rf hC
theorem countOfBoth_ok {k : K21} {i j : Nat} (hR : T21 k mem) (hi : i < 1024) (hj : j < 1024) (h1 : k.1 i < 2 ^ 24) (h2 : k.1 j < 2 ^ 24) (hQ : Q (nI (popN (k.1 i ||| k.1 j))) mem) : Call E (d + 1) mX6_countOfBoth [pR 21 0, pI (nI i), pI (nI j)] mem Q := by
  refine Call.of [some (pR 21 0), some (pI (nI i)), some (pI (nI j))] mk_X6_countOfBoth rfl (Nat.le_of_ble_eq_true rfl) (fun _ => ?_)
  refine r_aload_0 (q := 1) dX6_countOfBoth_0 rfl ?_
  refine r_getR (k := 5) (q := 4) f_RX6_9_5 rfl rfl dX6_countOfBoth_1 rfl ?_
  refine r_iload_1 (q := 5) dX6_countOfBoth_4 rfl ?_
  refine r_iald (q := 6) _ rfl rfl (by first | omega | assumption | decide) dX6_countOfBoth_5 rfl ?_
  refine r_aload_0 (q := 7) dX6_countOfBoth_6 rfl ?_
  refine r_getR (k := 5) (q := 10) f_RX6_9_5 rfl rfl dX6_countOfBoth_7 rfl ?_
  refine r_iload_2 (q := 11) dX6_countOfBoth_10 rfl ?_
  refine r_iald (q := 12) _ rfl rfl (by first | omega | assumption | decide) dX6_countOfBoth_11 rfl ?_
  rw [(hR i hi).1, (hR j hj).1]
  refine r_ior (q := 13) dX6_countOfBoth_12 rfl ?_
  rw [nb_or]
  refine r_callS1i (M' := mJ6_bitCount_0f7a4) (q := 16) mk_J6_bitCount_0f7a4 ms_J6_bitCount_0f7a4 k_557 rfl (Nat.le_of_ble_eq_true rfl) rm_xm dX6_countOfBoth_13 rfl (bitCount_ok (or_lt h1 h2) ?_)
  refine r_iret rfl dX6_countOfBoth_16 (?_)
  exact hQ
theorem areAlike_ok {k : K21} {i j D : Nat} (hR : T21 k mem) (hi : i < 1024) (hj : j < 1024) (hD : D ≤ 1000) (h1 : k.2.1 i ≤ 2000 ∧ k.2.2.1 i ≤ 2000) (h2 : k.2.1 j ≤ 2000 ∧ k.2.2.1 j ≤ 2000) (hQ : Q (b2 (alikeB k D i j)) mem) : Call E (d + 1) mX6_areAlike [pR 21 0, pI (nI i), pI (nI j), pI (nI D)] mem Q := by
  refine Call.of [some (pR 21 0), some (pI (nI i)), some (pI (nI j)), some (pI (nI D))] mk_X6_areAlike rfl (Nat.le_of_ble_eq_true rfl) (fun _ => ?_)
  have a1 := abs_val h1.2 h2.2 D hD
  have a2 := abs_val h1.1 h2.1 D hD
  refine r_aload_0 (q := 1) dX6_areAlike_0 rfl ?_
  refine r_getR (k := 7) (q := 4) f_RX6_18_5 rfl rfl dX6_areAlike_1 rfl ?_
  refine r_iload_1 (q := 5) dX6_areAlike_4 rfl ?_
  refine r_iald (q := 6) _ rfl rfl (by first | omega | assumption | decide) dX6_areAlike_5 rfl ?_
  refine r_aload_0 (q := 7) dX6_areAlike_6 rfl ?_
  refine r_getR (k := 7) (q := 10) f_RX6_18_5 rfl rfl dX6_areAlike_7 rfl ?_
  refine r_iload_2 (q := 11) dX6_areAlike_10 rfl ?_
  refine r_iald (q := 12) _ rfl rfl (by first | omega | assumption | decide) dX6_areAlike_11 rfl ?_
  rw [(hR i hi).2.2.1, (hR j hj).2.2.1]
  refine r_isub (q := 13) dX6_areAlike_12 rfl ?_
  refine r_mabs (q := 16) k_546 k_547 k_44 k_548 (Nat.le_of_ble_eq_true rfl) (by first | exact rm_xm | exact rm_0) dX6_areAlike_13 rfl ?_
  refine r_iload_3 (q := 17) dX6_areAlike_16 rfl ?_
  refine r_icmp_gt (q := 20) 44 dX6_areAlike_17 (by decide) rfl (fun h17 => ?_) (fun h17 => ?_)
  · refine r_iconst (q := 45) 0 (by decide) dX6_areAlike_44 rfl ?_
    refine r_zret (by first | exact Or.inl rfl | exact Or.inr rfl | assumption) rfl dX6_areAlike_45 (?_)
    rw [show alikeB k D i j = false from decide_eq_false (fun z => a1.mpr z.1 h17)] at hQ
    exact hQ
  · refine r_aload_0 (q := 21) dX6_areAlike_20 rfl ?_
    refine r_getR (k := 6) (q := 24) f_RX6_15_5 rfl rfl dX6_areAlike_21 rfl ?_
    refine r_iload_1 (q := 25) dX6_areAlike_24 rfl ?_
    refine r_iald (q := 26) _ rfl rfl (by first | omega | assumption | decide) dX6_areAlike_25 rfl ?_
    refine r_aload_0 (q := 27) dX6_areAlike_26 rfl ?_
    refine r_getR (k := 6) (q := 30) f_RX6_15_5 rfl rfl dX6_areAlike_27 rfl ?_
    refine r_iload_2 (q := 31) dX6_areAlike_30 rfl ?_
    refine r_iald (q := 32) _ rfl rfl (by first | omega | assumption | decide) dX6_areAlike_31 rfl ?_
    rw [(hR i hi).2.1, (hR j hj).2.1]
    refine r_isub (q := 33) dX6_areAlike_32 rfl ?_
    refine r_mabs (q := 36) k_546 k_547 k_44 k_548 (Nat.le_of_ble_eq_true rfl) (by first | exact rm_xm | exact rm_0) dX6_areAlike_33 rfl ?_
    refine r_iload_3 (q := 37) dX6_areAlike_36 rfl ?_
    refine r_icmp_gt (q := 40) 44 dX6_areAlike_37 (by decide) rfl (fun h37 => ?_) (fun h37 => ?_)
    · refine r_iconst (q := 45) 0 (by decide) dX6_areAlike_44 rfl ?_
      refine r_zret (by first | exact Or.inl rfl | exact Or.inr rfl | assumption) rfl dX6_areAlike_45 (?_)
      rw [show alikeB k D i j = false from decide_eq_false (fun z => a2.mpr z.2 h37)] at hQ
      exact hQ
    · refine r_iconst (q := 41) 1 (by decide) dX6_areAlike_40 rfl ?_
      refine r_goto 45 dX6_areAlike_41 (by decide) ?_
      refine r_zret (by first | exact Or.inl rfl | exact Or.inr rfl | assumption) rfl dX6_areAlike_45 (?_)
      rw [show alikeB k D i j = true from decide_eq_true ⟨a1.mp h17, a2.mp h37⟩] at hQ
      exact hQ
theorem isBetter_ok {k : K21} {i j : Nat} {b : B4} (hR : T21 k mem) (hb : R4 b mem) (hi : i < 1024) (hj : j < 1024) (h1 : k.1 i < 2 ^ 24 ∧ k.2.2.2.1 i ≤ 20000) (h2 : k.1 j < 2 ^ 24 ∧ k.2.2.2.1 j ≤ 20000) (hQ : Q (b2 (betterB k i j b)) mem) : Call E (d + 2) mX6_isBetter [pR 21 0, pI (nI i), pI (nI j)] mem Q := by
  refine Call.of [some (pR 21 0), some (pI (nI i)), some (pI (nI j)), none, none] mk_X6_isBetter rfl (Nat.le_of_ble_eq_true rfl) (fun _ => ?_)
  have b1 := hb.2.2.2.2.1
  have b2' := hb.2.2.2.2.2.1
  have b3 := hb.2.2.2.2.2.2.1
  have b4 := hb.2.2.2.2.2.2.2
  have hp := popN_le (k.1 i ||| k.1 j)
  unfold betterB at hQ
  refine r_aload_0 (q := 1) dX6_isBetter_0 rfl ?_
  refine r_getR (k := 8) (q := 4) f_RX6_21_5 rfl rfl dX6_isBetter_1 rfl ?_
  refine r_iload_1 (q := 5) dX6_isBetter_4 rfl ?_
  refine r_iald (q := 6) _ rfl rfl (by first | omega | assumption | decide) dX6_isBetter_5 rfl ?_
  refine r_aload_0 (q := 7) dX6_isBetter_6 rfl ?_
  refine r_getR (k := 8) (q := 10) f_RX6_21_5 rfl rfl dX6_isBetter_7 rfl ?_
  refine r_iload_2 (q := 11) dX6_isBetter_10 rfl ?_
  refine r_iald (q := 12) _ rfl rfl (by first | omega | assumption | decide) dX6_isBetter_11 rfl ?_
  rw [(hR i hi).2.2.2, (hR j hj).2.2.2]
  refine r_iadd (q := 13) dX6_isBetter_12 rfl ?_
  rw [nI_add]
  refine r_istore_3 (q := 14) (by decide) dX6_isBetter_13 rfl ?_
  refine r_iload_3 (q := 15) dX6_isBetter_14 rfl ?_
  refine r_aload_0 (q := 16) dX6_isBetter_15 rfl ?_
  refine r_getI (k := 9) (q := 19) f_RX6_25_5 rfl rfl dX6_isBetter_16 rfl ?_
  rw [hb.1]
  refine r_icmp_eq (q := 22) 36 dX6_isBetter_19 (by decide) rfl (fun h19 => ?_) (fun h19 => ?_)
  · have h19 := nI_inj (by omega) (by omega) h19
    rw [if_pos h19] at hQ
    refine r_aload_0 (q := 37) dX6_isBetter_36 rfl ?_
    refine r_iload_1 (q := 38) dX6_isBetter_37 rfl ?_
    refine r_iload_2 (q := 39) dX6_isBetter_38 rfl ?_
    refine r_callV2i (M' := mX6_countOfBoth) (q := 42) mk_X6_countOfBoth mi_X6_countOfBoth k_553 rfl rfl rfl rfl (Nat.le_of_ble_eq_true rfl) rm_xm dX6_isBetter_39 rfl (countOfBoth_ok hR hi hj h1.1 h2.1 ?_)
    refine r_istore_4 (q := 44) (by decide) dX6_isBetter_42 rfl ?_
    refine r_iload_4 (q := 46) dX6_isBetter_44 rfl ?_
    refine r_aload_0 (q := 47) dX6_isBetter_46 rfl ?_
    refine r_getI (k := 10) (q := 50) f_RX6_29_5 rfl rfl dX6_isBetter_47 rfl ?_
    rw [hb.2.1]
    refine r_icmp_eq (q := 53) 68 dX6_isBetter_50 (by decide) rfl (fun h50 => ?_) (fun h50 => ?_)
    · have h50 := nI_inj (by omega) (by omega) h50
      rw [if_pos h50] at hQ
      refine r_aload_0 (q := 69) dX6_isBetter_68 rfl ?_
      refine r_getR (k := 5) (q := 72) f_RX6_9_5 rfl rfl dX6_isBetter_69 rfl ?_
      refine r_iload_1 (q := 73) dX6_isBetter_72 rfl ?_
      refine r_iald (q := 74) _ rfl rfl (by first | omega | assumption | decide) dX6_isBetter_73 rfl ?_
      refine r_aload_0 (q := 75) dX6_isBetter_74 rfl ?_
      refine r_getI (k := 11) (q := 78) f_RX6_32_5 rfl rfl dX6_isBetter_75 rfl ?_
      rw [(hR i hi).1, hb.2.2.1]
      refine r_icmp_eq (q := 81) 100 dX6_isBetter_78 (by decide) rfl (fun h78 => ?_) (fun h78 => ?_)
      · have h78 := nI_inj (by omega) (by omega) h78
        rw [if_pos h78] at hQ
        refine r_aload_0 (q := 101) dX6_isBetter_100 rfl ?_
        refine r_getR (k := 5) (q := 104) f_RX6_9_5 rfl rfl dX6_isBetter_101 rfl ?_
        refine r_iload_2 (q := 105) dX6_isBetter_104 rfl ?_
        refine r_iald (q := 106) _ rfl rfl (by first | omega | assumption | decide) dX6_isBetter_105 rfl ?_
        refine r_aload_0 (q := 107) dX6_isBetter_106 rfl ?_
        refine r_getI (k := 12) (q := 110) f_RX6_35_5 rfl rfl dX6_isBetter_107 rfl ?_
        rw [(hR j hj).1, hb.2.2.2.1]
        refine r_icmp_le (q := 113) 117 dX6_isBetter_110 (by decide) rfl (fun h110 => ?_) (fun h110 => ?_)
        · refine r_iconst (q := 118) 0 (by decide) dX6_isBetter_117 rfl ?_
          refine r_zret (by first | exact Or.inl rfl | exact Or.inr rfl | assumption) rfl dX6_isBetter_118 (?_)
          have h110 := nI_ge_of (by omega) (by omega) h110
          rw [decide_eq_false (by omega)] at hQ
          exact hQ
        · refine r_iconst (q := 114) 1 (by decide) dX6_isBetter_113 rfl ?_
          refine r_goto 118 dX6_isBetter_114 (by decide) ?_
          refine r_zret (by first | exact Or.inl rfl | exact Or.inr rfl | assumption) rfl dX6_isBetter_118 (?_)
          have h110 := nI_lt_of (by omega) h110
          rw [decide_eq_true h110] at hQ
          exact hQ
      · have h78 : ¬ k.1 i = b.2.2.1 := fun z => h78 (by rw [z])
        rw [if_neg h78] at hQ
        refine r_aload_0 (q := 82) dX6_isBetter_81 rfl ?_
        refine r_getR (k := 5) (q := 85) f_RX6_9_5 rfl rfl dX6_isBetter_82 rfl ?_
        refine r_iload_1 (q := 86) dX6_isBetter_85 rfl ?_
        refine r_iald (q := 87) _ rfl rfl (by first | omega | assumption | decide) dX6_isBetter_86 rfl ?_
        refine r_aload_0 (q := 88) dX6_isBetter_87 rfl ?_
        refine r_getI (k := 11) (q := 91) f_RX6_32_5 rfl rfl dX6_isBetter_88 rfl ?_
        rw [(hR i hi).1, hb.2.2.1]
        refine r_icmp_le (q := 94) 98 dX6_isBetter_91 (by decide) rfl (fun h91 => ?_) (fun h91 => ?_)
        · refine r_iconst (q := 99) 0 (by decide) dX6_isBetter_98 rfl ?_
          refine r_zret (by first | exact Or.inl rfl | exact Or.inr rfl | assumption) rfl dX6_isBetter_99 (?_)
          have h91 := nI_ge_of (by omega) (by omega) h91
          rw [decide_eq_false (by omega)] at hQ
          exact hQ
        · refine r_iconst (q := 95) 1 (by decide) dX6_isBetter_94 rfl ?_
          refine r_goto 99 dX6_isBetter_95 (by decide) ?_
          refine r_zret (by first | exact Or.inl rfl | exact Or.inr rfl | assumption) rfl dX6_isBetter_99 (?_)
          have h91 := nI_lt_of (by omega) h91
          rw [decide_eq_true h91] at hQ
          exact hQ
    · have h50 : ¬ popN (k.1 i ||| k.1 j) = b.2.1 := fun z => h50 (by rw [z])
      rw [if_neg h50] at hQ
      refine r_iload_4 (q := 55) dX6_isBetter_53 rfl ?_
      refine r_aload_0 (q := 56) dX6_isBetter_55 rfl ?_
      refine r_getI (k := 10) (q := 59) f_RX6_29_5 rfl rfl dX6_isBetter_56 rfl ?_
      rw [hb.2.1]
      refine r_icmp_ge (q := 62) 66 dX6_isBetter_59 (by decide) rfl (fun h59 => ?_) (fun h59 => ?_)
      · refine r_iconst (q := 67) 0 (by decide) dX6_isBetter_66 rfl ?_
        refine r_zret (by first | exact Or.inl rfl | exact Or.inr rfl | assumption) rfl dX6_isBetter_67 (?_)
        have h59 := nI_ge_of (by omega) (by omega) h59
        rw [decide_eq_false (by omega)] at hQ
        exact hQ
      · refine r_iconst (q := 63) 1 (by decide) dX6_isBetter_62 rfl ?_
        refine r_goto 67 dX6_isBetter_63 (by decide) ?_
        refine r_zret (by first | exact Or.inl rfl | exact Or.inr rfl | assumption) rfl dX6_isBetter_67 (?_)
        have h59 := nI_lt_of (by omega) h59
        rw [decide_eq_true h59] at hQ
        exact hQ
  · have h19 : ¬ k.2.2.2.1 i + k.2.2.2.1 j = b.1 := fun z => h19 (by rw [z])
    rw [if_neg h19] at hQ
    refine r_iload_3 (q := 23) dX6_isBetter_22 rfl ?_
    refine r_aload_0 (q := 24) dX6_isBetter_23 rfl ?_
    refine r_getI (k := 9) (q := 27) f_RX6_25_5 rfl rfl dX6_isBetter_24 rfl ?_
    rw [hb.1]
    refine r_icmp_ge (q := 30) 34 dX6_isBetter_27 (by decide) rfl (fun h27 => ?_) (fun h27 => ?_)
    · refine r_iconst (q := 35) 0 (by decide) dX6_isBetter_34 rfl ?_
      refine r_zret (by first | exact Or.inl rfl | exact Or.inr rfl | assumption) rfl dX6_isBetter_35 (?_)
      have h27 := nI_ge_of (by omega) (by omega) h27
      rw [decide_eq_false (by omega)] at hQ
      exact hQ
    · refine r_iconst (q := 31) 1 (by decide) dX6_isBetter_30 rfl ?_
      refine r_goto 35 dX6_isBetter_31 (by decide) ?_
      refine r_zret (by first | exact Or.inl rfl | exact Or.inr rfl | assumption) rfl dX6_isBetter_35 (?_)
      have h27 := nI_lt_of (by omega) h27
      rw [decide_eq_true h27] at hQ
      exact hQ
/-- the search's cells but for the best two -/
def FrV (mem mem' : Mem) : Prop := Fr [21] mem mem' ∧ ∀ i, i ≠ 9 → i ≠ 10 → i ≠ 11 → i ≠ 12 → mem' 21 0 i = mem 21 0 i
theorem FrV.rf {mem : Mem} : FrV mem mem := ⟨Fr.rf, fun _ _ _ _ _ => rfl⟩
theorem FrV.tr {a b c : Mem} (h : FrV a b) (h2 : FrV b c) : FrV a c := ⟨h.1.tr h2.1, fun i h3 h4 h5 h6 => (h2.2 i h3 h4 h5 h6).trans (h.2 i h3 h4 h5 h6)⟩
theorem T21.frv {k : K21} {a b : Mem} (hR : T21 k a) (h : FrV a b) : T21 k b := by
  unfold T21
  rw [h.1 23 (by decide), h.1 24 (by decide), h.1 25 (by decide), h.1 26 (by decide)]
  exact hR
theorem pairWithOthers_ok {k : K21} {i al D : Nat} {b : B4} (hR : T21 k mem) (hG : GK k) (hb : R4 b mem) (hi : i ≤ al) (hal : al < 1024) (hD : D ≤ 1000) (hi0 : ¬ i = 0) (hki : ¬ k.1 i = 0) (hQ : ∀ mem', FrV mem mem' → R4 (pairP k D i (freeB al i) (al + 1) (freeB al i) b) mem' → Q 0 mem') : Call E (d + 3) mX6_pairWithOthers [pR 21 0, pI (nI i), pI (nI al), pI (nI D)] mem Q := by
  refine Call.of [some (pR 21 0), some (pI (nI i)), some (pI (nI al)), some (pI (nI D)), none, none, none, none] mk_X6_pairWithOthers rfl (Nat.le_of_ble_eq_true rfl) (fun _ => ?_)
  have hgi := hG i (by omega) hki
  have hal10 : al < 2 ^ 10 := hal
  have hlp := lw_pos (s := i) (by omega) hi0
  have hfl : freeB al i ≤ al := by
    unfold freeB andn
    have h1 : ∀ x y : Nat, x ^^^ (x &&& y) ≤ x := fun x y => by
      rcases Nat.lt_or_ge x (x ^^^ (x &&& y)) with z | z
      · exfalso
        have : andn x y &&& x = andn x y := by
          apply tb_ext
          intro t
          rw [Nat.testBit_and, andn_tb]
          cases x.testBit t <;> simp
        have h2 : andn x y ≤ x := by rw [← this]; exact Nat.and_le_right
        unfold andn at h2
        omega
      · exact z
    exact Nat.le_trans (h1 _ _) (h1 _ _)
  refine r_iload_1 (q := 1) dX6_pairWithOthers_0 rfl ?_
  refine r_callN1i (M' := mX8_lowestOf) (q := 4) mk_X8_lowestOf ms_X8_lowestOf (by decide +kernel) rfl (Nat.le_of_ble_eq_true rfl) rm_xm dX6_pairWithOthers_1 rfl (lowestOf_ok ?_)
  rw [lw_val (by omega)]
  refine r_iconst (q := 5) 1 (by decide) dX6_pairWithOthers_4 rfl ?_
  refine r_isub (q := 6) dX6_pairWithOthers_5 rfl ?_
  rw [show nI (lw i) - 1 = nI (lw i - 1) from pk_sub (b := 1) hlp]
  refine r_istore_4 (q := 8) (by decide) dX6_pairWithOthers_6 rfl ?_
  refine r_iload_2 (q := 9) dX6_pairWithOthers_8 rfl ?_
  refine r_iload_1 (q := 10) dX6_pairWithOthers_9 rfl ?_
  refine r_iconst (q := 11) (-1) (by decide) dX6_pairWithOthers_10 rfl ?_
  refine r_ixor (q := 12) dX6_pairWithOthers_11 rfl ?_
  refine r_iand (q := 13) dX6_pairWithOthers_12 rfl ?_
  refine r_iload_4 (q := 15) dX6_pairWithOthers_13 rfl ?_
  refine r_iconst (q := 16) (-1) (by decide) dX6_pairWithOthers_15 rfl ?_
  refine r_ixor (q := 17) dX6_pairWithOthers_16 rfl ?_
  refine r_iand (q := 18) dX6_pairWithOthers_17 rfl ?_
  rw [nb_andn, nb_andn, show andn (andn al i) (lw i - 1) = freeB al i from rfl]
  refine r_istore_5 (q := 20) (by decide) dX6_pairWithOthers_18 rfl ?_
  refine r_iload_5 (q := 22) dX6_pairWithOthers_20 rfl ?_
  refine r_istore_6 (q := 24) (by decide) dX6_pairWithOthers_22 rfl ?_
  suffices H : ∀ (f j : Nat) (m : Mem) (b' : B4), j < f → j ≤ al → FrV mem m → R4 b' m → pairP k D i (freeB al i) f j b' = pairP k D i (freeB al i) (al + 1) (freeB al i) b → Wp E (xm E (d + 3) mX6_pairWithOthers Q) mX6_pairWithOthers 24 [some (pR 21 0), some (pI (nI i)), some (pI (nI al)), some (pI (nI D)), some (pI (nI (lw i - 1))), some (pI (nI (freeB al i))), some (pI (nI j)), none] [] m from H (al + 1) (freeB al i) mem b (by omega) hfl FrV.rf hb rfl
  intro f
  induction f with
  | zero => intro j m b' h; omega
  | succ f ih =>
    intro j m b' h1 h2 hF hb' he
    have hRm := hR.frv hF
    refine r_iload_6 (q := 26) dX6_pairWithOthers_24 rfl ?_
    refine r_if_le (q := 29) 155 dX6_pairWithOthers_26 (by decide) rfl (fun h26 => ?_) (fun h26 => ?_)
    · have h26 : j = 0 := by
        rcases Nat.eq_zero_or_pos j with z | z
        · exact z
        · exact absurd h26 (nI_nle z (by omega))
      subst h26
      refine r_vret rfl dX6_pairWithOthers_155 (?_)
      refine hQ m hF ?_
      rw [← he, pairP, if_pos rfl]
      exact hb'
    · have hj0 : ¬ j = 0 := fun z => h26 (by subst z; decide)
      rw [pairP, if_neg hj0] at he
      have step : ∀ (m' : Mem) (x : Int32), FrV mem m' → R4 (upd1 k D i j b') m' → Wp E (xm E (d + 3) mX6_pairWithOthers Q) mX6_pairWithOthers 143 [some (pR 21 0), some (pI (nI i)), some (pI (nI al)), some (pI (nI D)), some (pI (nI (lw i - 1))), some (pI (nI (freeB al i))), some (pI (nI j)), some (pI x)] [] m' := by
        intro m' x hF' hR'
        refine r_iload_6 (q := 145) dX6_pairWithOthers_143 rfl ?_
        refine r_iconst (q := 146) 1 (by decide) dX6_pairWithOthers_145 rfl ?_
        refine r_isub (q := 147) dX6_pairWithOthers_146 rfl ?_
        rw [show nI j - 1 = nI (j - 1) from pk_sub (b := 1) (by omega)]
        refine r_iload_5 (q := 149) dX6_pairWithOthers_147 rfl ?_
        refine r_iand (q := 150) dX6_pairWithOthers_149 rfl ?_
        rw [nb_and]
        have hle : (j - 1) &&& freeB al i ≤ j - 1 := Nat.and_le_left
        refine r_istore_6 (q := 152) (by decide) dX6_pairWithOthers_150 rfl ?_
        refine r_goto 24 dX6_pairWithOthers_152 (by decide) ?_
        exact (ih _ m' _ (by omega) (by omega) hF' hR' he).sub (by simp [lsub])
      have J : ∀ c : Bool, (c = true ↔ (¬ k.1 j = 0 ∧ k.2.2.2.1 i + k.2.2.2.1 j ≤ b'.1)) → Wp E (xm E (d + 3) mX6_pairWithOthers Q) mX6_pairWithOthers 65 [some (pR 21 0), some (pI (nI i)), some (pI (nI al)), some (pI (nI D)), some (pI (nI (lw i - 1))), some (pI (nI (freeB al i))), some (pI (nI j)), none] [pI (b2 c)] m := by
        intro c hc
        refine r_istore_7 (q := 67) (by decide) dX6_pairWithOthers_65 rfl ?_
        refine r_iload_7 (q := 69) dX6_pairWithOthers_67 rfl ?_
        refine r_if_eq (q := 72) 143 dX6_pairWithOthers_69 (by decide) rfl (fun h69 => ?_) (fun h69 => ?_)
        · have h69 := b2_eq0.mp h69
          refine step m _ hF ?_
          unfold upd1
          rw [if_neg (fun z => by rw [hc.mpr z.1.1] at h69; cases h69)]
          exact hb'
        · have h69 := hc.mp (b2_ne0.mp h69)
          have hgj := hG j (by omega) h69.1
          refine r_aload_0 (q := 73) dX6_pairWithOthers_72 rfl ?_
          refine r_iload_1 (q := 74) dX6_pairWithOthers_73 rfl ?_
          refine r_iload_6 (q := 76) dX6_pairWithOthers_74 rfl ?_
          refine r_iload_3 (q := 77) dX6_pairWithOthers_76 rfl ?_
          refine r_callV3i (M' := mX6_areAlike) (q := 80) mk_X6_areAlike mi_X6_areAlike k_542 rfl rfl rfl rfl (Nat.le_of_ble_eq_true rfl) rm_xm dX6_pairWithOthers_77 rfl (areAlike_ok hRm (by omega) (by omega) hD ⟨hgi.2.1, hgi.2.2.1⟩ ⟨hgj.2.1, hgj.2.2.1⟩ ?_)
          refine r_if_eq (q := 83) 143 dX6_pairWithOthers_80 (by decide) rfl (fun h80 => ?_) (fun h80 => ?_)
          · have h80 := b2_eq0.mp h80
            refine step m _ hF ?_
            unfold upd1
            rw [if_neg (fun z => by rw [z.1.2] at h80; cases h80)]
            exact hb'
          · have h80 := b2_ne0.mp h80
            refine r_aload_0 (q := 84) dX6_pairWithOthers_83 rfl ?_
            refine r_iload_1 (q := 85) dX6_pairWithOthers_84 rfl ?_
            refine r_iload_6 (q := 87) dX6_pairWithOthers_85 rfl ?_
            refine r_callV2i (M' := mX6_isBetter) (q := 90) mk_X6_isBetter mi_X6_isBetter k_549 rfl rfl rfl rfl (Nat.le_of_ble_eq_true rfl) rm_xm dX6_pairWithOthers_87 rfl (isBetter_ok hRm hb' (by omega) (by omega) ⟨hgi.1, hgi.2.2.2⟩ ⟨hgj.1, hgj.2.2.2⟩ ?_)
            refine r_if_eq (q := 93) 143 dX6_pairWithOthers_90 (by decide) rfl (fun h90 => ?_) (fun h90 => ?_)
            · have h90 := b2_eq0.mp h90
              refine step m _ hF ?_
              unfold upd1
              rw [if_neg (fun z => by rw [z.2] at h90; cases h90)]
              exact hb'
            · have h90 := b2_ne0.mp h90
              refine r_aload_0 (q := 94) dX6_pairWithOthers_93 rfl ?_
              refine r_aload_0 (q := 95) dX6_pairWithOthers_94 rfl ?_
              refine r_getR (k := 8) (q := 98) f_RX6_21_5 rfl rfl dX6_pairWithOthers_95 rfl ?_
              refine r_iload_1 (q := 99) dX6_pairWithOthers_98 rfl ?_
              refine r_iald (q := 100) _ rfl rfl (by first | omega | assumption | decide) dX6_pairWithOthers_99 rfl ?_
              refine r_aload_0 (q := 101) dX6_pairWithOthers_100 rfl ?_
              refine r_getR (k := 8) (q := 104) f_RX6_21_5 rfl rfl dX6_pairWithOthers_101 rfl ?_
              refine r_iload_6 (q := 106) dX6_pairWithOthers_104 rfl ?_
              refine r_iald (q := 107) _ rfl rfl (by first | omega | assumption | decide) dX6_pairWithOthers_106 rfl ?_
              rw [(hRm i (by omega)).2.2.2, (hRm j (by omega)).2.2.2]
              refine r_iadd (q := 108) dX6_pairWithOthers_107 rfl ?_
              rw [nI_add]
              have hp := popN_le (k.1 i ||| k.1 j)
              have fr1 : ∀ (m0 : Mem) (n : Nat) (v : Int32), n = 9 ∨ n = 10 ∨ n = 11 ∨ n = 12 → FrV mem m0 → FrV mem (mset m0 21 0 n v) := by
                intro m0 n v hn h0
                refine ⟨h0.1.mset (by simp), fun x x1 x2 x3 x4 => ?_⟩
                rw [mset_self]
                unfold upd
                rw [if_neg (by omega)]
                exact h0.2 x x1 x2 x3 x4
              have hF1 := fr1 m 9 (nI (k.2.2.2.1 i + k.2.2.2.1 j)) (by simp) hF
              refine r_put (k := 9) (q := 111) f_RX6_25_5 pf_5_9 rfl rfl dX6_pairWithOthers_108 rfl ?_
              refine r_aload_0 (q := 112) dX6_pairWithOthers_111 rfl ?_
              refine r_aload_0 (q := 113) dX6_pairWithOthers_112 rfl ?_
              refine r_iload_1 (q := 114) dX6_pairWithOthers_113 rfl ?_
              refine r_iload_6 (q := 116) dX6_pairWithOthers_114 rfl ?_
              refine r_callV2i (M' := mX6_countOfBoth) (q := 119) mk_X6_countOfBoth mi_X6_countOfBoth k_553 rfl rfl rfl rfl (Nat.le_of_ble_eq_true rfl) rm_xm dX6_pairWithOthers_116 rfl (countOfBoth_ok (hR.frv hF1) (by omega) (by omega) hgi.1 hgj.1 ?_)
              have hF2 := fr1 _ 10 (nI (popN (k.1 i ||| k.1 j))) (by simp) hF1
              refine r_put (k := 10) (q := 122) f_RX6_29_5 pf_5_10 rfl rfl dX6_pairWithOthers_119 rfl ?_
              refine r_aload_0 (q := 123) dX6_pairWithOthers_122 rfl ?_
              refine r_aload_0 (q := 124) dX6_pairWithOthers_123 rfl ?_
              refine r_getR (k := 5) (q := 127) f_RX6_9_5 rfl rfl dX6_pairWithOthers_124 rfl ?_
              refine r_iload_1 (q := 128) dX6_pairWithOthers_127 rfl ?_
              refine r_iald (q := 129) _ rfl rfl (by first | omega | assumption | decide) dX6_pairWithOthers_128 rfl ?_
              rw [show (mset (mset m 21 0 9 (nI (k.2.2.2.1 i + k.2.2.2.1 j))) 21 0 10 (nI (popN (k.1 i ||| k.1 j)))) 23 0 i = nI (k.1 i) from ((hR.frv hF2) i (by omega)).1]
              have hF3 := fr1 _ 11 (nI (k.1 i)) (by simp) hF2
              refine r_put (k := 11) (q := 132) f_RX6_32_5 pf_5_11 rfl rfl dX6_pairWithOthers_129 rfl ?_
              refine r_aload_0 (q := 133) dX6_pairWithOthers_132 rfl ?_
              refine r_aload_0 (q := 134) dX6_pairWithOthers_133 rfl ?_
              refine r_getR (k := 5) (q := 137) f_RX6_9_5 rfl rfl dX6_pairWithOthers_134 rfl ?_
              refine r_iload_6 (q := 139) dX6_pairWithOthers_137 rfl ?_
              refine r_iald (q := 140) _ rfl rfl (by first | omega | assumption | decide) dX6_pairWithOthers_139 rfl ?_
              rw [show (mset (mset (mset m 21 0 9 (nI (k.2.2.2.1 i + k.2.2.2.1 j))) 21 0 10 (nI (popN (k.1 i ||| k.1 j)))) 21 0 11 (nI (k.1 i))) 23 0 j = nI (k.1 j) from ((hR.frv hF3) j (by omega)).1]
              have hF4 := fr1 _ 12 (nI (k.1 j)) (by simp) hF3
              refine r_put (k := 12) (q := 143) f_RX6_35_5 pf_5_12 rfl rfl dX6_pairWithOthers_140 rfl ?_
              refine step _ _ hF4 ?_
              have hbb := hb'.2.2.2.2.1
              unfold upd1
              rw [if_pos ⟨⟨h69, h80⟩, h90⟩]
              exact ⟨rfl, rfl, rfl, rfl, by omega, hp, hgi.1, hgj.1⟩
      refine r_aload_0 (q := 30) dX6_pairWithOthers_29 rfl ?_
      refine r_getR (k := 5) (q := 33) f_RX6_9_5 rfl rfl dX6_pairWithOthers_30 rfl ?_
      refine r_iload_6 (q := 35) dX6_pairWithOthers_33 rfl ?_
      refine r_iald (q := 36) _ rfl rfl (by first | omega | assumption | decide) dX6_pairWithOthers_35 rfl ?_
      rw [(hRm j (by omega)).1]
      refine r_if_eq (q := 39) 64 dX6_pairWithOthers_36 (by decide) rfl (fun h36 => ?_) (fun h36 => ?_)
      · refine r_iconst (q := 65) 0 (by decide) dX6_pairWithOthers_64 rfl ?_
        refine J false ⟨fun z => (by cases z), fun z => ?_⟩
        have hgj := hG j (by omega) z.1
        exact absurd ((nI_zero_iff (pw24 hgj.1)).mp h36) z.1
      · have h36 : ¬ k.1 j = 0 := fun z => h36 (by rw [z]; rfl)
        have hgj := hG j (by omega) h36
        have hbb := hb'.2.2.2.2.1
        refine r_aload_0 (q := 40) dX6_pairWithOthers_39 rfl ?_
        refine r_getR (k := 8) (q := 43) f_RX6_21_5 rfl rfl dX6_pairWithOthers_40 rfl ?_
        refine r_iload_1 (q := 44) dX6_pairWithOthers_43 rfl ?_
        refine r_iald (q := 45) _ rfl rfl (by first | omega | assumption | decide) dX6_pairWithOthers_44 rfl ?_
        refine r_aload_0 (q := 46) dX6_pairWithOthers_45 rfl ?_
        refine r_getR (k := 8) (q := 49) f_RX6_21_5 rfl rfl dX6_pairWithOthers_46 rfl ?_
        refine r_iload_6 (q := 51) dX6_pairWithOthers_49 rfl ?_
        refine r_iald (q := 52) _ rfl rfl (by first | omega | assumption | decide) dX6_pairWithOthers_51 rfl ?_
        rw [(hRm i (by omega)).2.2.2, (hRm j (by omega)).2.2.2]
        refine r_iadd (q := 53) dX6_pairWithOthers_52 rfl ?_
        refine r_aload_0 (q := 54) dX6_pairWithOthers_53 rfl ?_
        refine r_getI (k := 9) (q := 57) f_RX6_25_5 rfl rfl dX6_pairWithOthers_54 rfl ?_
        rw [nI_add, hb'.1]
        refine r_icmp_gt (q := 60) 64 dX6_pairWithOthers_57 (by decide) rfl (fun h57 => ?_) (fun h57 => ?_)
        · have h57 := (nI_ltI (by omega) (by omega)).mp h57
          refine r_iconst (q := 65) 0 (by decide) dX6_pairWithOthers_64 rfl ?_
          exact J false ⟨fun z => (by cases z), fun z => (by omega)⟩
        · have h57 : k.2.2.2.1 i + k.2.2.2.1 j ≤ b'.1 := by
            rcases Nat.lt_or_ge b'.1 (k.2.2.2.1 i + k.2.2.2.1 j) with z | z
            · exact absurd (nI_lt z (by omega)) h57
            · exact z
          refine r_iconst (q := 61) 1 (by decide) dX6_pairWithOthers_60 rfl ?_
          refine r_goto 65 dX6_pairWithOthers_61 (by decide) ?_
          exact J true ⟨fun _ => ⟨h36, h57⟩, fun _ => rfl⟩
end VS
