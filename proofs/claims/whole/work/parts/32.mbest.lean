/-! THE REFERENCE: best -/
/-- a paper; its spread; how many questions -/
def papS (B : BD) (L : LD) (s : Nat) : Bool := fitB B s && decide (brokenB L (sumN B s) noMo = 0)
def sprS (B : BD) (L : LD) (s : Nat) : Nat := spreadB L (sumN B s) noMo
def aheadB (a b : Nat) : Bool := decide (¬ a &&& lw (a ^^^ b) = 0)
theorem sprS_le {B : BD} {L : LD} (hW : WFB B) (hWL : WFL L) (s : Nat) : sprS B L s ≤ 9760 := spreadB_le hWL (c := 1440) (fun i _ => sumN_le hW s i)
abbrev KM : Type := Option Nat × Nat × Nat
def mbS (B : BD) (L : LD) (t : Nat) (k : KM) : KM := if papS B L (tolN B t) then (match k.1 with
  | none => (some t, sprS B L (tolN B t), sumN B (tolN B t) 0)
  | some b => if k.2.1 < sprS B L (tolN B t) ∨ (sprS B L (tolN B t) = k.2.1 ∧ (k.2.2 < sumN B (tolN B t) 0 ∨ (sumN B (tolN B t) 0 = k.2.2 ∧ aheadB t b = false))) then k else (some t, sprS B L (tolN B t), sumN B (tolN B t) 0)) else k
def mbT (B : BD) (L : LD) : Nat → KM
  | 0 => (none, 0, 0)
  | t + 1 => mbS B L t (mbT B L t)
def obv (o : Option Nat) : Int32 := match o with
  | none => -1
  | some t => nI t
def tbv (B : BD) (o : Option Nat) : Int32 := match o with
  | none => -2
  | some t => nI (tolN B t)
def mbestV (B : BD) (L : LD) : Int32 := if handB B ≤ 16 then tbv B (mbT B L (2 ^ handB B)).1 else -1
section MB
variable {E : En} {d : Nat} {mem : Mem} {Q : Int32 → Mem → Prop} {B : BD} {L : LD}
theorem mpap_ok (hh : handB B ≤ 16) {t : Nat} (hK : Wk B L mem) (ht : t < 2 ^ handB B) (hQ : Q (b2 (papS B L (tolN B t))) mem) : Call E d mX9_isPaper [pR 36 0, pI (nI t)] mem Q := by
  refine Call.of [some (pR 36 0), some (pI (nI t))] mk_X9_isPaper rfl (Nat.le_of_ble_eq_true rfl) (fun _ => ?_)
  have ht16 : t < 2 ^ 16 := Nat.lt_of_lt_of_le ht (Nat.pow_le_pow_right (by decide) hh)
  have hT := hK.2 t ht
  have hbl := brokenB_lt L (sumN B (tolN B t)) noMo
  unfold papS at hQ
  refine r_aload_0 (q := 1) dX9_isPaper_0 rfl ?_
  refine r_getR (k := 17) (q := 4) f_RX9_55_8 rfl rfl dX9_isPaper_1 rfl ?_
  refine r_iload_1 (q := 5) dX9_isPaper_4 rfl ?_
  refine r_zald (q := 6) _ rfl rfl (by first | omega | assumption | decide) dX9_isPaper_5 rfl ?_
  rw [hT.2.1]
  refine r_if_eq (q := 9) 22 dX9_isPaper_6 (by decide) rfl (fun h6 => ?_) (fun h6 => ?_)
  · rw [b2_eq0.mp h6, Bool.false_and] at hQ
    refine r_iconst (q := 23) 0 (by decide) dX9_isPaper_22 rfl ?_
    refine r_zret (by first | exact Or.inl rfl | exact Or.inr rfl | assumption) rfl dX9_isPaper_23 (?_)
    exact hQ
  · refine r_aload_0 (q := 10) dX9_isPaper_9 rfl ?_
    refine r_getR (k := 18) (q := 13) f_RX9_59_8 rfl rfl dX9_isPaper_10 rfl ?_
    refine r_iload_1 (q := 14) dX9_isPaper_13 rfl ?_
    refine r_iald (q := 15) _ rfl rfl (by first | omega | assumption | decide) dX9_isPaper_14 rfl ?_
    rw [hT.2.2]
    refine r_if_ne (q := 18) 22 dX9_isPaper_15 (by decide) rfl (fun h15 => ?_) (fun h15 => ?_)
    · rw [decide_eq_false (fun z => h15 (by rw [z]; rfl)), Bool.and_false] at hQ
      refine r_iconst (q := 23) 0 (by decide) dX9_isPaper_22 rfl ?_
      refine r_zret (by first | exact Or.inl rfl | exact Or.inr rfl | assumption) rfl dX9_isPaper_23 (?_)
      exact hQ
    · rw [b2_ne0.mp h6, decide_eq_true ((nI_zero_iff (by omega)).mp h15)] at hQ
      refine r_iconst (q := 19) 1 (by decide) dX9_isPaper_18 rfl ?_
      refine r_goto 23 dX9_isPaper_19 (by decide) ?_
      refine r_zret (by first | exact Or.inl rfl | exact Or.inr rfl | assumption) rfl dX9_isPaper_23 (?_)
      exact hQ
theorem mspread_ok (hW : WFB B) (hWL : WFL L) (hh : handB B ≤ 16) {t : Nat} (hK : Wk B L mem) (ht : t < 2 ^ handB B) (hQ : Q (nI (sprS B L (tolN B t))) mem) : Call E (d + 1) mX9_spread [pR 36 0, pI (nI t)] mem Q := by
  refine Call.of [some (pR 36 0), some (pI (nI t)), none, none] mk_X9_spread rfl (Nat.le_of_ble_eq_true rfl) (fun _ => ?_)
  have ht16 : t < 2 ^ 16 := Nat.lt_of_lt_of_le ht (Nat.pow_le_pow_right (by decide) hh)
  have hT := hK.2 t ht
  refine r_iconst (q := 1) 0 (by decide) dX9_spread_0 rfl ?_
  refine r_istore_2 (q := 2) (by decide) dX9_spread_1 rfl ?_
  refine r_iconst (q := 3) 0 (by decide) dX9_spread_2 rfl ?_
  refine r_istore_3 (q := 4) (by decide) dX9_spread_3 rfl ?_
  suffices H : ∀ k i, 4 - i < k → i ≤ 4 → Wp E (xm E (d + 1) mX9_spread Q) mX9_spread 4 [some (pR 36 0), some (pI (nI t)), some (pI (nI (sumf (farB L (sumN B (tolN B t)) noMo) i))), some (pI (nI i))] [] mem from H 5 0 (by omega) (by omega)
  intro k
  induction k with
  | zero => intro b h; omega
  | succ k ih =>
    intro i h1 h2
    refine r_iload_3 (q := 5) dX9_spread_4 rfl ?_
    refine r_iconst (q := 6) 4 (by decide) dX9_spread_5 rfl ?_
    refine r_icmp_ge (q := 9) 40 dX9_spread_6 (by decide) rfl (fun h6 => ?_) (fun h6 => ?_)
    · have hb := nI_ge_of (a := 4) (by decide) (by omega) h6
      have hb : i = 4 := by omega
      subst hb
      refine r_iload_2 (q := 41) dX9_spread_40 rfl ?_
      refine r_iret rfl dX9_spread_41 (?_)
      exact hQ
    · have hb : i < 4 := nI_lt_of (a := 4) (by omega) h6
      have hw := hWL i
      have hsm := sumN_le hW (tolN B t) (3 + i)
      refine r_iload_2 (q := 10) dX9_spread_9 rfl ?_
      refine r_aload_0 (q := 11) dX9_spread_10 rfl ?_
      refine r_getR (k := 16) (q := 14) f_RX9_51_8 rfl rfl dX9_spread_11 rfl ?_
      refine r_bipush (q := 16) 10 (by decide) dX9_spread_14 rfl ?_
      refine r_iload_1 (q := 17) dX9_spread_16 rfl ?_
      refine r_imul (q := 18) dX9_spread_17 rfl ?_
      rw [show (10 : Int32) * nI t = nI (10 * t) from pk_mul 10 t]
      refine r_iconst (q := 19) 3 (by decide) dX9_spread_18 rfl ?_
      refine r_iadd (q := 20) dX9_spread_19 rfl ?_
      rw [show nI (10 * t) + 3 = nI (10 * t + 3) from nI_add _ 3]
      refine r_iload_3 (q := 21) dX9_spread_20 rfl ?_
      refine r_iadd (q := 22) dX9_spread_21 rfl ?_
      rw [nI_add, Nat.add_assoc]
      refine r_iald (q := 23) _ rfl rfl (by first | omega | assumption | decide) dX9_spread_22 rfl ?_
      rw [hT.1 (3 + i) (by omega)]
      refine r_aload_0 (q := 24) dX9_spread_23 rfl ?_
      refine r_getR (k := 13) (q := 27) f_RX9_44_8 rfl rfl dX9_spread_24 rfl ?_
      refine r_iload_3 (q := 28) dX9_spread_27 rfl ?_
      refine r_iald (q := 29) _ rfl rfl (by first | omega | assumption | decide) dX9_spread_28 rfl ?_
      rw [(hK.1.2.1 i).2.2]
      refine r_callS2i (M' := mX9_far) (q := 32) mk_X9_far ms_X9_far k_805 rfl (Nat.le_of_ble_eq_true rfl) rm_xm dX9_spread_29 rfl (mfar_ok (by omega) (by omega) ?_)
      refine r_iadd (q := 33) dX9_spread_32 rfl ?_
      rw [← farB_no, nI_add]
      refine r_istore_2 (q := 34) (by decide) dX9_spread_33 rfl ?_
      refine r_iinc_3 (q := 37) _ (nI_inc _) (by decide) dX9_spread_34 rfl ?_
      refine r_goto 4 dX9_spread_37 (by decide) ?_
      exact ih (i + 1) (by omega) (by omega)
theorem mtol_ok (hW : WFB B) (hh : handB B ≤ 16) {t : Nat} (hA : Wa B L mem) (ht : t < 2 ^ 31) (hQ : Q (nI (tolN B t)) mem) : Call E (d + 1) mX9_told [pR 36 0, pI (nI t)] mem Q := by
  refine Call.of [some (pR 36 0), some (pI (nI t)), none, none] mk_X9_told rfl (Nat.le_of_ble_eq_true rfl) (fun _ => ?_)
  have h24 := hW.1
  refine r_iconst (q := 1) 0 (by decide) dX9_told_0 rfl ?_
  refine r_istore_2 (q := 2) (by decide) dX9_told_1 rfl ?_
  refine r_iconst (q := 3) 0 (by decide) dX9_told_2 rfl ?_
  refine r_istore_3 (q := 4) (by decide) dX9_told_3 rfl ?_
  suffices H : ∀ k i, handB B - i < k → i ≤ handB B → Wp E (xm E (d + 1) mX9_told Q) mX9_told 4 [some (pR 36 0), some (pI (nI t)), some (pI (nI (tolT B t i))), some (pI (nI i))] [] mem from H (handB B + 1) 0 (by omega) (by omega)
  intro k
  induction k with
  | zero => intro b h; omega
  | succ k ih =>
    intro i h1 h2
    refine r_iload_3 (q := 5) dX9_told_4 rfl ?_
    refine r_aload_0 (q := 6) dX9_told_5 rfl ?_
    refine r_getI (k := 14) (q := 9) f_RX9_131_8 rfl rfl dX9_told_6 rfl ?_
    rw [hA.2.2.1]
    refine r_icmp_ge (q := 12) 41 dX9_told_9 (by decide) rfl (fun h9 => ?_) (fun h9 => ?_)
    · have hb := nI_ge_of (by omega) (by omega) h9
      have hb : i = handB B := by omega
      subst hb
      refine r_iload_2 (q := 42) dX9_told_41 rfl ?_
      refine r_iret rfl dX9_told_42 (?_)
      exact hQ
    · have hb : i < handB B := nI_lt_of (by omega) h9
      have hin := hnd_in hb
      have J : ∀ x : Nat, tolT B t i ||| x = tolT B t (i + 1) → Wp E (xm E (d + 1) mX9_told Q) mX9_told 33 [some (pR 36 0), some (pI (nI t)), some (pI (nI (tolT B t i))), some (pI (nI i))] [pI (nI x), pI (nI (tolT B t i))] mem := by
        intro x hx
        refine r_ior (q := 34) dX9_told_33 rfl ?_
        rw [nb_or, hx]
        refine r_istore_2 (q := 35) (by decide) dX9_told_34 rfl ?_
        refine r_iinc_3 (q := 38) _ (nI_inc _) (by decide) dX9_told_35 rfl ?_
        refine r_goto 4 dX9_told_38 (by decide) ?_
        exact ih (i + 1) (by omega) (by omega)
      refine r_iload_2 (q := 13) dX9_told_12 rfl ?_
      refine r_iload_1 (q := 14) dX9_told_13 rfl ?_
      refine r_iload_3 (q := 15) dX9_told_14 rfl ?_
      refine r_callS2i (M' := mX9_has) (q := 18) mk_X9_has ms_X9_has k_746 rfl (Nat.le_of_ble_eq_true rfl) rm_xm dX9_told_15 rfl (mhas_ok ht (by omega) ?_)
      refine r_if_eq (q := 21) 32 dX9_told_18 (by decide) rfl (fun h18 => ?_) (fun h18 => ?_)
      · refine r_iconst (q := 33) 0 (by decide) dX9_told_32 rfl ?_
        exact J 0 (by rw [tolT, b2_eq0.mp h18, if_neg (by decide)])
      · refine r_iconst (q := 22) 1 (by decide) dX9_told_21 rfl ?_
        refine r_aload_0 (q := 23) dX9_told_22 rfl ?_
        refine r_getR (k := 15) (q := 26) f_RX9_47_8 rfl rfl dX9_told_23 rfl ?_
        refine r_iload_3 (q := 27) dX9_told_26 rfl ?_
        refine r_iald (q := 28) _ rfl rfl (by first | omega | assumption | decide) dX9_told_27 rfl ?_
        rw [hA.2.2.2 i hb]
        refine r_ishl (q := 29) dX9_told_28 rfl ?_
        rw [nb_shl1 _ (by omega)]
        refine r_goto 33 dX9_told_29 (by decide) ?_
        exact J _ (by rw [tolT, b2_ne0.mp h18, if_pos rfl])
theorem mahead_ok {a b : Nat} (ha : a < 2 ^ 24) (hb : b < 2 ^ 24) (hQ : Q (b2 (aheadB a b)) mem) : Call E d mX9_isAhead [pI (nI a), pI (nI b)] mem Q := by
  refine Call.of [some (pI (nI a)), some (pI (nI b)), none] mk_X9_isAhead rfl (Nat.le_of_ble_eq_true rfl) (fun _ => ?_)
  refine r_iload_0 (q := 1) dX9_isAhead_0 rfl ?_
  refine r_iload_1 (q := 2) dX9_isAhead_1 rfl ?_
  refine r_ixor (q := 3) dX9_isAhead_2 rfl ?_
  refine r_iload_0 (q := 4) dX9_isAhead_3 rfl ?_
  refine r_iload_1 (q := 5) dX9_isAhead_4 rfl ?_
  refine r_ixor (q := 6) dX9_isAhead_5 rfl ?_
  refine r_ineg (q := 7) rfl dX9_isAhead_6 rfl ?_
  refine r_iand (q := 8) dX9_isAhead_7 rfl ?_
  rw [nb_xor, lw_val (xor_lt ha hb)]
  refine r_istore_2 (q := 9) (by decide) dX9_isAhead_8 rfl ?_
  refine r_iload_0 (q := 10) dX9_isAhead_9 rfl ?_
  refine r_iload_2 (q := 11) dX9_isAhead_10 rfl ?_
  refine r_iand (q := 12) dX9_isAhead_11 rfl ?_
  rw [nb_and]
  unfold aheadB at hQ
  refine r_if_eq (q := 15) 19 dX9_isAhead_12 (by decide) rfl (fun h12 => ?_) (fun h12 => ?_)
  · refine r_iconst (q := 20) 0 (by decide) dX9_isAhead_19 rfl ?_
    refine r_zret (by first | exact Or.inl rfl | exact Or.inr rfl | assumption) rfl dX9_isAhead_20 (?_)
    rw [decide_eq_false (fun z => z ((nI_zero_iff (pw24 (and_lt_l ha))).mp h12))] at hQ
    exact hQ
  · refine r_iconst (q := 16) 1 (by decide) dX9_isAhead_15 rfl ?_
    refine r_goto 20 dX9_isAhead_16 (by decide) ?_
    refine r_zret (by first | exact Or.inl rfl | exact Or.inr rfl | assumption) rfl dX9_isAhead_20 (?_)
    rw [show decide (¬ a &&& lw (a ^^^ b) = 0) = true from decide_eq_true (fun z => h12 (by rw [z]; rfl))] at hQ
    exact hQ
def KMok (k : KM) : Prop := (∀ b, k.1 = some b → b < 2 ^ 16) ∧ k.2.1 ≤ 9760 ∧ k.2.2 ≤ 1440
theorem mbS_ok (hW : WFB B) (hWL : WFL L) {t : Nat} (ht : t < 2 ^ 16) {k : KM} (h : KMok k) : KMok (mbS B L t k) := by
  have hn : KMok (some t, sprS B L (tolN B t), sumN B (tolN B t) 0) := ⟨fun b hb => by cases hb; exact ht, sprS_le hW hWL _, sumN_le hW _ 0⟩
  unfold mbS
  split
  · split
    · exact hn
    · split
      · exact h
      · exact hn
  · exact h
theorem FrW.mk {S : AS} {a b : Mem} (h : Mk S a) (hF : FrW a b) : Mk S b := h.wk (fun g h1 h2 => hF.1 g (by simp; omega)) (hF.1 57 (by decide)) (fun i h1 _ => hF.2 i h1)
theorem FrW.fm {a b : Mem} (hF : FrW a b) : Fm a b := Fm.fr Fm.rf hF.1 (by simp)
theorem m_best_ok {S : AS} (hC : Mk S mem) (hWF : WFS S) (hQ : ∀ mem', Fm mem mem' → Mk S mem' → Q (mbestV S.1 S.2.1) mem') : Call E (d + 3) mX9_best [pR 36 0] mem Q := by
  refine Call.of [some (pR 36 0), none, none, none, none, none, none] mk_X9_best rfl (Nat.le_of_ble_eq_true rfl) (fun _ => ?_)
  have h24 := hWF.1.1
  have hW := hWF.1
  have hWL := hWF.2.1
  have hh : handB S.1 ≤ 24 := Nat.le_trans (cnt_le _ _) h24
  unfold mbestV at hQ
  refine r_aload_0 (q := 1) dX9_best_0 rfl ?_
  refine r_callV0i (M' := mX9_atHand) (q := 4) mk_X9_atHand mi_X9_atHand k_812 rfl rfl rfl rfl (Nat.le_of_ble_eq_true rfl) rm_xm dX9_best_1 rfl (mhand_ok hC.1 hWF.1 (fun m1 hF1 _ => ?_))
  refine r_bipush (q := 6) 16 (by decide) dX9_best_4 rfl ?_
  have hC1 := hC.fr48 hF1
  refine r_icmp_le (q := 9) 11 dX9_best_6 (by decide) rfl (fun h6 => ?_) (fun h6 => ?_)
  · have h16 := nI_ge_of (b := 16) (by omega) (by decide) h6
    have hp16 : 2 ^ handB S.1 ≤ 2 ^ 16 := Nat.pow_le_pow_right (by decide) h16
    rw [if_pos h16] at hQ
    refine r_aload_0 (q := 12) dX9_best_11 rfl ?_
    refine r_callV0v (M' := mX9_works) (q := 15) mk_X9_works mi_X9_works k_816 rfl rfl rfl rfl (Nat.le_of_ble_eq_true rfl) rm_xm dX9_best_12 rfl (mworks_ok hC1.1 hC1.2.1 hWF.1 hWF.2.1 h16 (fun m2 hF2 hK => ?_))
    refine r_iconst (q := 16) (-1) (by decide) dX9_best_15 rfl ?_
    refine r_istore_1 (q := 17) (by decide) dX9_best_16 rfl ?_
    refine r_iconst (q := 18) 0 (by decide) dX9_best_17 rfl ?_
    refine r_istore_2 (q := 19) (by decide) dX9_best_18 rfl ?_
    refine r_iconst (q := 20) 0 (by decide) dX9_best_19 rfl ?_
    refine r_istore_3 (q := 21) (by decide) dX9_best_20 rfl ?_
    refine r_iconst (q := 22) 0 (by decide) dX9_best_21 rfl ?_
    refine r_istore_4 (q := 24) (by decide) dX9_best_22 rfl ?_
    have hC2 := hF2.mk hC1
    have hQ := hQ m2 (fun g hg => (hF2.fm g hg).trans (hF1 g (by simp; omega))) hC2
    suffices H : ∀ (k t : Nat) (o5 o6 : Option PV) (km : KM), 2 ^ handB S.1 - t < k → t ≤ 2 ^ handB S.1 → KMok km → km = mbT S.1 S.2.1 t → Wp E (xm E (d + 3) mX9_best Q) mX9_best 24 [some (pR 36 0), some (pI (obv km.1)), some (pI (nI km.2.1)), some (pI (nI km.2.2)), some (pI (nI t)), o5, o6] [] m2 from H (2 ^ handB S.1 + 1) 0 _ _ (none, 0, 0) (Nat.lt_succ_self _) (Nat.zero_le _) ⟨fun b hb => by (cases hb), by decide, by decide⟩ rfl
    intro k
    induction k with
    | zero => intro b _ _ _ h; omega
    | succ k ih =>
      intro t o5 o6 km h1 h2 hk hkm
      refine r_iload_4 (q := 26) dX9_best_24 rfl ?_
      refine r_iconst (q := 27) 1 (by decide) dX9_best_26 rfl ?_
      refine r_aload_0 (q := 28) dX9_best_27 rfl ?_
      refine r_getI (k := 14) (q := 31) f_RX9_131_8 rfl rfl dX9_best_28 rfl ?_
      rw [hK.1.2.2.1]
      refine r_ishl (q := 32) dX9_best_31 rfl ?_
      rw [nb_shl1 _ (by omega)]
      refine r_icmp_ge (q := 35) 123 dX9_best_32 (by decide) rfl (fun h32 => ?_) (fun h32 => ?_)
      · have hb := nI_ge_of (by omega) (by omega) h32
        have hb : t = 2 ^ handB S.1 := by omega
        subst hb
        rw [← hkm] at hQ
        refine r_iload_1 (q := 124) dX9_best_123 rfl ?_
        refine r_iconst (q := 125) (-1) (by decide) dX9_best_124 rfl ?_
        cases hkk : km.1 with
        | none =>
          rw [hkk] at hQ
          refine r_icmp_ne (q := 128) 133 dX9_best_125 (by decide) rfl (fun h125 => ?_) (fun h125 => ?_)
          · exact absurd rfl h125
          · refine r_bipush (q := 130) (-2) (by decide) dX9_best_128 rfl ?_
            refine r_goto 138 dX9_best_130 (by decide) ?_
            refine r_iret rfl dX9_best_138 (?_)
            exact hQ
        | some b =>
          rw [hkk] at hQ
          have hb16 := hk.1 b hkk
          refine r_icmp_ne (q := 128) 133 dX9_best_125 (by decide) rfl (fun h125 => ?_) (fun h125 => ?_)
          · refine r_aload_0 (q := 134) dX9_best_133 rfl ?_
            refine r_iload_1 (q := 135) dX9_best_134 rfl ?_
            refine r_callV1i (M' := mX9_told) (q := 138) mk_X9_told mi_X9_told k_835 rfl rfl rfl rfl (Nat.le_of_ble_eq_true rfl) rm_xm dX9_best_135 rfl (mtol_ok hW h16 hK.1 (by omega) ?_)
            refine r_iret rfl dX9_best_138 (?_)
            exact hQ
          · exfalso
            have h125 : nI b = -1 := h125
            have h2 := congrArg Int32.toInt h125
            rw [nI_toInt (by omega)] at h2
            have : (-1 : Int32).toInt = -1 := by decide
            omega
      · have ht : t < 2 ^ handB S.1 := nI_lt_of (by omega) h32
        have ht16 : t < 2 ^ 16 := by omega
        have hs9 := sprS_le (B := S.1) (L := S.2.1) hW hWL (tolN S.1 t)
        have hn9 := sumN_le hW (tolN S.1 t) 0
        have stay : ∀ o5 o6, mbS S.1 S.2.1 t km = km → Wp E (xm E (d + 3) mX9_best Q) mX9_best 117 [some (pR 36 0), some (pI (obv km.1)), some (pI (nI km.2.1)), some (pI (nI km.2.2)), some (pI (nI t)), o5, o6] [] m2 := by
          intro o5 o6 hs
          refine r_iinc_4 (q := 120) _ (nI_inc _) (by decide) dX9_best_117 rfl ?_
          refine r_goto 24 dX9_best_120 (by decide) ?_
          exact ih (t + 1) _ _ km (by omega) (by omega) hk (by rw [mbT, ← hkm, hs])
        refine r_aload_0 (q := 36) dX9_best_35 rfl ?_
        refine r_iload_4 (q := 38) dX9_best_36 rfl ?_
        refine r_callV1i (M' := mX9_isPaper) (q := 41) mk_X9_isPaper mi_X9_isPaper k_824 rfl rfl rfl rfl (Nat.le_of_ble_eq_true rfl) rm_xm dX9_best_38 rfl (mpap_ok h16 hK ht ?_)
        refine r_if_ne (q := 44) 47 dX9_best_41 (by decide) rfl (fun h41 => ?_) (fun h41 => ?_)
        · have h41 := b2_ne0.mp h41
          refine r_aload_0 (q := 48) dX9_best_47 rfl ?_
          refine r_iload_4 (q := 50) dX9_best_48 rfl ?_
          refine r_callV1i (M' := mX9_spread) (q := 53) mk_X9_spread mi_X9_spread k_828 rfl rfl rfl rfl (Nat.le_of_ble_eq_true rfl) rm_xm dX9_best_50 rfl (mspread_ok hW hWL h16 hK ht ?_)
          refine r_istore_5 (q := 55) (by decide) dX9_best_53 rfl ?_
          refine r_aload_0 (q := 56) dX9_best_55 rfl ?_
          refine r_getR (k := 16) (q := 59) f_RX9_51_8 rfl rfl dX9_best_56 rfl ?_
          refine r_bipush (q := 61) 10 (by decide) dX9_best_59 rfl ?_
          refine r_iload_4 (q := 63) dX9_best_61 rfl ?_
          refine r_imul (q := 64) dX9_best_63 rfl ?_
          rw [show (10 : Int32) * nI t = nI (10 * t + 0) from pk_mul 10 t]
          refine r_iald (q := 65) _ rfl rfl (by first | omega | assumption | decide) dX9_best_64 rfl ?_
          rw [(hK.2 t ht).1 0 (by decide)]
          refine r_istore_6 (q := 67) (by decide) dX9_best_65 rfl ?_
          have take : mbS S.1 S.2.1 t km = (some t, sprS S.1 S.2.1 (tolN S.1 t), sumN S.1 (tolN S.1 t) 0) → Wp E (xm E (d + 3) mX9_best Q) mX9_best 108 [some (pR 36 0), some (pI (obv km.1)), some (pI (nI km.2.1)), some (pI (nI km.2.2)), some (pI (nI t)), some (pI (nI (sprS S.1 S.2.1 (tolN S.1 t)))), some (pI (nI (sumN S.1 (tolN S.1 t) 0)))] [] m2 := by
            intro hs
            refine r_iload_4 (q := 110) dX9_best_108 rfl ?_
            refine r_istore_1 (q := 111) (by decide) dX9_best_110 rfl ?_
            refine r_iload_5 (q := 113) dX9_best_111 rfl ?_
            refine r_istore_2 (q := 114) (by decide) dX9_best_113 rfl ?_
            refine r_iload_6 (q := 116) dX9_best_114 rfl ?_
            refine r_istore_3 (q := 117) (by decide) dX9_best_116 rfl ?_
            refine r_iinc_4 (q := 120) _ (nI_inc _) (by decide) dX9_best_117 rfl ?_
            refine r_goto 24 dX9_best_120 (by decide) ?_
            exact ih (t + 1) _ _ (some t, sprS S.1 S.2.1 (tolN S.1 t), sumN S.1 (tolN S.1 t) 0) (by omega) (by omega) (by rw [← hs]; exact mbS_ok hW hWL ht16 hk) (by rw [mbT, ← hkm, hs])
          cases hkk : km.1 with
          | none =>
            rw [hkk] at take
            refine r_iload_1 (q := 68) dX9_best_67 rfl ?_
            refine r_iconst (q := 69) (-1) (by decide) dX9_best_68 rfl ?_
            refine r_icmp_eq (q := 72) 108 dX9_best_69 (by decide) rfl (fun h69 => ?_) (fun h69 => ?_)
            · exact take (by unfold mbS; rw [h41, if_pos rfl, hkk])
            · exact absurd rfl h69
          | some b =>
            rw [hkk] at take stay
            have hb16 := hk.1 b hkk
            have e0 : mbS S.1 S.2.1 t km = if km.2.1 < sprS S.1 S.2.1 (tolN S.1 t) ∨ (sprS S.1 S.2.1 (tolN S.1 t) = km.2.1 ∧ (km.2.2 < sumN S.1 (tolN S.1 t) 0 ∨ (sumN S.1 (tolN S.1 t) 0 = km.2.2 ∧ aheadB t b = false))) then km else (some t, sprS S.1 S.2.1 (tolN S.1 t), sumN S.1 (tolN S.1 t) 0) := by
              unfold mbS; rw [h41, if_pos rfl, hkk]
            have k1 := hk.2.1
            have k2 := hk.2.2
            refine r_iload_1 (q := 68) dX9_best_67 rfl ?_
            refine r_iconst (q := 69) (-1) (by decide) dX9_best_68 rfl ?_
            refine r_icmp_eq (q := 72) 108 dX9_best_69 (by decide) rfl (fun h69 => ?_) (fun h69 => ?_)
            · exfalso
              have h69 : nI b = -1 := h69
              have h2 := congrArg Int32.toInt h69
              rw [nI_toInt (by omega)] at h2
              have : (-1 : Int32).toInt = -1 := by decide
              omega
            · refine r_iload_5 (q := 74) dX9_best_72 rfl ?_
              refine r_iload_2 (q := 75) dX9_best_74 rfl ?_
              refine r_icmp_gt (q := 78) 117 dX9_best_75 (by decide) rfl (fun h75 => ?_) (fun h75 => ?_)
              · have h75 := (nI_ltI (by omega) (by omega)).mp h75
                exact stay _ _ (by rw [e0, if_pos (Or.inl h75)])
              · have h75 : ¬ km.2.1 < sprS S.1 S.2.1 (tolN S.1 t) := fun z => h75 (nI_lt z (by omega))
                refine r_iload_5 (q := 80) dX9_best_78 rfl ?_
                refine r_iload_2 (q := 81) dX9_best_80 rfl ?_
                refine r_icmp_ne (q := 84) 108 dX9_best_81 (by decide) rfl (fun h81 => ?_) (fun h81 => ?_)
                · have h81 : ¬ sprS S.1 S.2.1 (tolN S.1 t) = km.2.1 := fun z => h81 (by rw [z])
                  exact take (by rw [e0, if_neg (by rintro (z | z); exact h75 z; exact h81 z.1)])
                · have h81 : sprS S.1 S.2.1 (tolN S.1 t) = km.2.1 := nI_inj (by omega) (by omega) h81
                  refine r_iload_6 (q := 86) dX9_best_84 rfl ?_
                  refine r_iload_3 (q := 87) dX9_best_86 rfl ?_
                  refine r_icmp_gt (q := 90) 117 dX9_best_87 (by decide) rfl (fun h87 => ?_) (fun h87 => ?_)
                  · have h87 := (nI_ltI (by omega) (by omega)).mp h87
                    exact stay _ _ (by rw [e0, if_pos (Or.inr ⟨h81, Or.inl h87⟩)])
                  · have h87 : ¬ km.2.2 < sumN S.1 (tolN S.1 t) 0 := fun z => h87 (nI_lt z (by omega))
                    refine r_iload_6 (q := 92) dX9_best_90 rfl ?_
                    refine r_iload_3 (q := 93) dX9_best_92 rfl ?_
                    refine r_icmp_ne (q := 96) 108 dX9_best_93 (by decide) rfl (fun h93 => ?_) (fun h93 => ?_)
                    · have h93 : ¬ sumN S.1 (tolN S.1 t) 0 = km.2.2 := fun z => h93 (by rw [z])
                      exact take (by rw [e0, if_neg (by rintro (z | ⟨-, z | z⟩); exact h75 z; exact h87 z; exact h93 z.1)])
                    · have h93 : sumN S.1 (tolN S.1 t) 0 = km.2.2 := nI_inj (by omega) (by omega) h93
                      refine r_iload_4 (q := 98) dX9_best_96 rfl ?_
                      refine r_iload_1 (q := 99) dX9_best_98 rfl ?_
                      refine r_callS2i (M' := mX9_isAhead) (q := 102) mk_X9_isAhead ms_X9_isAhead k_832 rfl (Nat.le_of_ble_eq_true rfl) rm_xm dX9_best_99 rfl (mahead_ok (a := t) (b := b) (by omega) (by omega) ?_)
                      refine r_if_ne (q := 105) 108 dX9_best_102 (by decide) rfl (fun h102 => ?_) (fun h102 => ?_)
                      · exact take (by rw [e0, if_neg (by rintro (z | ⟨-, z | z⟩); exact h75 z; exact h87 z; rw [b2_ne0.mp h102] at z; cases z.2)])
                      · refine r_goto 117 dX9_best_105 (by decide) ?_
                        exact stay _ _ (by rw [e0, if_pos (Or.inr ⟨h81, Or.inr ⟨h93, b2_eq0.mp h102⟩⟩)])
        · have h41 := b2_eq0.mp h41
          refine r_goto 117 dX9_best_44 (by decide) ?_
          exact stay _ _ (by unfold mbS; rw [h41]; rfl)
  · have h16 : ¬ handB S.1 ≤ 16 := fun z => h6 (nI_le z (by decide))
    rw [if_neg h16] at hQ
    refine r_iconst (q := 10) (-1) (by decide) dX9_best_9 rfl ?_
    refine r_iret rfl dX9_best_10 (?_)
    exact hQ m1 (fun g hg => hF1 g (by simp; omega)) hC1
end MB
