/-! THE REFERENCE: why -/
def ibT (B : BD) (L : LD) : Nat → Nat → Bool
  | 0, _ => false
  | t + 1, j => ibT B L t j || (fitB B (tolN B t) && decide (j = brokenB L (sumN B (tolN B t)) noMo))
def kpM (ib : Nat → Bool) (b j : Nat) : Bool := !(ib j && decide (j &&& b = 0))
def keptM (ib : Nat → Bool) (b : Nat) : Bool := !allb (kpM ib b) 1024
def mwD (ib : Nat → Bool) : Nat → Nat → Nat
  | 0, best => best
  | k + 1, best => mwD ib k (if popN (k + 1) ≤ popN best ∧ keptM ib (k + 1) = false then k + 1 else best)
def mwhyV (B : BD) (L : LD) : Int32 := if handB B ≤ 16 then (if ibT B L (2 ^ handB B) 0 then 0 else nI (mwD (ibT B L (2 ^ handB B)) 1023 1023)) else -1
section MY
variable {E : En} {d : Nat} {mem : Mem} {Q : Int32 → Mem → Prop} {B : BD} {L : LD}
theorem mkept_ok {ib : Nat → Bool} {b : Nat} (hI : ∀ j, j < 1024 → mem 54 0 j = b2 (ib j)) (hb : b < 1024) (hQ : Q (b2 (keptM ib b)) mem) : Call E d mX9_isKept [pR 36 0, pI (nI b)] mem Q := by
  refine Call.of [some (pR 36 0), some (pI (nI b)), none] mk_X9_isKept rfl (Nat.le_of_ble_eq_true rfl) (fun _ => ?_)
  refine r_iconst (q := 1) 0 (by decide) dX9_isKept_0 rfl ?_
  refine r_istore_2 (q := 2) (by decide) dX9_isKept_1 rfl ?_
  suffices H : ∀ k j, 1024 - j < k → j ≤ 1024 → allb (kpM ib b) j = true → Wp E (xm E d mX9_isKept Q) mX9_isKept 2 [some (pR 36 0), some (pI (nI b)), some (pI (nI j))] [] mem from H 1025 0 (by omega) (by omega) rfl
  intro k
  induction k with
  | zero => intro b h; omega
  | succ k ih =>
    intro j h1 h2 h3
    refine r_iload_2 (q := 3) dX9_isKept_2 rfl ?_
    refine r_sipush (q := 6) 1024 (by decide) dX9_isKept_3 rfl ?_
    refine r_icmp_ge (q := 9) 32 dX9_isKept_6 (by decide) rfl (fun h6 => ?_) (fun h6 => ?_)
    · have hj := nI_ge_of (a := 1024) (by decide) (by omega) h6
      have hj : j = 1024 := by omega
      subst hj
      unfold keptM at hQ
      rw [h3] at hQ
      refine r_iconst (q := 33) 0 (by decide) dX9_isKept_32 rfl ?_
      refine r_zret (by first | exact Or.inl rfl | exact Or.inr rfl | assumption) rfl dX9_isKept_33 (?_)
      exact hQ
    · have hj : j < 1024 := nI_lt_of (a := 1024) (by omega) h6
      have nx : kpM ib b j = true → Wp E (xm E d mX9_isKept Q) mX9_isKept 26 [some (pR 36 0), some (pI (nI b)), some (pI (nI j))] [] mem := by
        intro hk
        refine r_iinc_2 (q := 29) _ (nI_inc _) (by decide) dX9_isKept_26 rfl ?_
        refine r_goto 2 dX9_isKept_29 (by decide) ?_
        exact ih (j + 1) (by omega) (by omega) (by rw [allb, h3, hk]; rfl)
      refine r_aload_0 (q := 10) dX9_isKept_9 rfl ?_
      refine r_getR (k := 21) (q := 13) f_RX9_68_8 rfl rfl dX9_isKept_10 rfl ?_
      refine r_iload_2 (q := 14) dX9_isKept_13 rfl ?_
      refine r_zald (q := 15) _ rfl rfl (by first | omega | assumption | decide) dX9_isKept_14 rfl ?_
      rw [hI j hj]
      refine r_if_eq (q := 18) 26 dX9_isKept_15 (by decide) rfl (fun h15 => ?_) (fun h15 => ?_)
      · exact nx (by unfold kpM; rw [b2_eq0.mp h15]; rfl)
      · refine r_iload_2 (q := 19) dX9_isKept_18 rfl ?_
        refine r_iload_1 (q := 20) dX9_isKept_19 rfl ?_
        refine r_iand (q := 21) dX9_isKept_20 rfl ?_
        rw [nb_and]
        have hj10 : j < 2 ^ 10 := hj
        refine r_if_ne (q := 24) 26 dX9_isKept_21 (by decide) rfl (fun h21 => ?_) (fun h21 => ?_)
        · have h21 : ¬ j &&& b = 0 := fun z => h21 (by rw [z]; rfl)
          exact nx (by unfold kpM; rw [decide_eq_false h21, Bool.and_false]; rfl)
        · have h21 : j &&& b = 0 := (nI_zero_iff (Nat.lt_trans (and_lt_l hj10) (by decide))).mp h21
          have hf : allb (kpM ib b) 1024 = false := allb_false _ hj (by unfold kpM; rw [b2_ne0.mp h15, decide_eq_true h21]; rfl)
          unfold keptM at hQ
          rw [hf] at hQ
          refine r_iconst (q := 25) 1 (by decide) dX9_isKept_24 rfl ?_
          refine r_zret (by first | exact Or.inl rfl | exact Or.inr rfl | assumption) rfl dX9_isKept_25 (?_)
          exact hQ
theorem m_why_ok {S : AS} (hC : Mk S mem) (hWF : WFS S) (hQ : ∀ mem', Fm mem mem' → Mk S mem' → Q (mwhyV S.1 S.2.1) mem') : Call E (d + 3) mX9_why [pR 36 0] mem Q := by
  refine Call.of [some (pR 36 0), none, none] mk_X9_why rfl (Nat.le_of_ble_eq_true rfl) (fun _ => ?_)
  have h24 := hWF.1.1
  have hW := hWF.1
  have hWL := hWF.2.1
  have hh : handB S.1 ≤ 24 := Nat.le_trans (cnt_le _ _) h24
  unfold mwhyV at hQ
  refine r_aload_0 (q := 1) dX9_why_0 rfl ?_
  refine r_callV0i (M' := mX9_atHand) (q := 4) mk_X9_atHand mi_X9_atHand k_812 rfl rfl rfl rfl (Nat.le_of_ble_eq_true rfl) rm_xm dX9_why_1 rfl (mhand_ok hC.1 hWF.1 (fun m1 hF1 _ => ?_))
  refine r_bipush (q := 6) 16 (by decide) dX9_why_4 rfl ?_
  have hC1 := hC.fr48 hF1
  refine r_icmp_le (q := 9) 11 dX9_why_6 (by decide) rfl (fun h6 => ?_) (fun h6 => ?_)
  · have h16 := nI_ge_of (b := 16) (by omega) (by decide) h6
    have hp16 : 2 ^ handB S.1 ≤ 2 ^ 16 := Nat.pow_le_pow_right (by decide) h16
    rw [if_pos h16] at hQ
    refine r_aload_0 (q := 12) dX9_why_11 rfl ?_
    refine r_callV0v (M' := mX9_works) (q := 15) mk_X9_works mi_X9_works k_816 rfl rfl rfl rfl (Nat.le_of_ble_eq_true rfl) rm_xm dX9_why_12 rfl (mworks_ok hC1.1 hC1.2.1 hWF.1 hWF.2.1 h16 (fun m2 hF2 hK => ?_))
    refine r_iconst (q := 16) 0 (by decide) dX9_why_15 rfl ?_
    refine r_istore_1 (q := 17) (by decide) dX9_why_16 rfl ?_
    have hC2 := hF2.mk hC1
    have hM : ∀ m, Fr [54] m2 m → Fm mem m ∧ Mk S m := fun m hF => ⟨fun g hg => (hF g (by simp; omega)).trans ((hF2.fm g hg).trans (hF1 g (by simp; omega))), hC2.wk (fun g h1 h2 => hF g (by simp; omega)) (hF 57 (by decide)) (fun i _ _ => by rw [hF 36 (by decide)])⟩
    -- the rows are cleared
    suffices H1 : ∀ (k j : Nat) (m : Mem), 1024 - j < k → j ≤ 1024 → Fr [54] m2 m → (∀ i, i < j → m 54 0 i = 0) → Wp E (xm E (d + 3) mX9_why Q) mX9_why 17 [some (pR 36 0), some (pI (nI j)), none] [] m from H1 1025 0 m2 (by omega) (by omega) Fr.rf (fun i hi => by omega)
    intro k
    induction k with
    | zero => intro b _ h; omega
    | succ k ih =>
      intro j m h1 h2 hF hz
      refine r_iload_1 (q := 18) dX9_why_17 rfl ?_
      refine r_sipush (q := 21) 1024 (by decide) dX9_why_18 rfl ?_
      refine r_icmp_ge (q := 24) 37 dX9_why_21 (by decide) rfl (fun h21 => ?_) (fun h21 => ?_)
      · have hj := nI_ge_of (a := 1024) (by decide) (by omega) h21
        have hj : j = 1024 := by omega
        subst hj
        clear ih
        refine r_iconst (q := 38) 0 (by decide) dX9_why_37 rfl ?_
        refine r_istore_1 (q := 39) (by decide) dX9_why_38 rfl ?_
        suffices H2 : ∀ (k t : Nat) (m : Mem), 2 ^ handB S.1 - t < k → t ≤ 2 ^ handB S.1 → Fr [54] m2 m → (∀ i, i < 1024 → m 54 0 i = b2 (ibT S.1 S.2.1 t i)) → Wp E (xm E (d + 3) mX9_why Q) mX9_why 39 [some (pR 36 0), some (pI (nI t)), none] [] m from H2 (2 ^ handB S.1 + 1) 0 m (Nat.lt_succ_self _) (Nat.zero_le _) hF (fun i hi => by rw [hz i hi]; rfl)
        intro k
        induction k with
        | zero => intro b _ h; omega
        | succ k ih =>
          intro t m h1 h2 hF hI
          have hT : TbT S.1 S.2.1 (2 ^ handB S.1) m := hK.2.fr hF (by decide) (by decide) (by decide)
          refine r_iload_1 (q := 40) dX9_why_39 rfl ?_
          refine r_iconst (q := 41) 1 (by decide) dX9_why_40 rfl ?_
          refine r_aload_0 (q := 42) dX9_why_41 rfl ?_
          refine r_getI (k := 14) (q := 45) f_RX9_131_8 rfl rfl dX9_why_42 rfl ?_
          rw [show m 36 0 14 = nI (handB S.1) by rw [hF 36 (by decide)]; exact hK.1.2.2.1]
          refine r_ishl (q := 46) dX9_why_45 rfl ?_
          rw [nb_shl1 _ (by omega)]
          refine r_icmp_ge (q := 49) 76 dX9_why_46 (by decide) rfl (fun h46 => ?_) (fun h46 => ?_)
          · have hb := nI_ge_of (by omega) (by omega) h46
            have hb : t = 2 ^ handB S.1 := by omega
            subst hb
            clear ih
            have hQ := hQ m (hM m hF).1 (hM m hF).2
            refine r_aload_0 (q := 77) dX9_why_76 rfl ?_
            refine r_getR (k := 21) (q := 80) f_RX9_68_8 rfl rfl dX9_why_77 rfl ?_
            refine r_iconst (q := 81) 0 (by decide) dX9_why_80 rfl ?_
            refine r_zald (q := 82) _ rfl rfl (by first | omega | assumption | decide) dX9_why_81 rfl ?_
            rw [hI 0 (by decide)]
            refine r_if_eq (q := 85) 87 dX9_why_82 (by decide) rfl (fun h82 => ?_) (fun h82 => ?_)
            · rw [if_neg (by rw [b2_eq0.mp h82]; decide)] at hQ
              refine r_sipush (q := 90) 1023 (by decide) dX9_why_87 rfl ?_
              refine r_istore_1 (q := 91) (by decide) dX9_why_90 rfl ?_
              refine r_sipush (q := 94) 1023 (by decide) dX9_why_91 rfl ?_
              refine r_istore_2 (q := 95) (by decide) dX9_why_94 rfl ?_
              suffices H3 : ∀ (k best : Nat), k ≤ 1023 → best ≤ 1023 → mwD (ibT S.1 S.2.1 (2 ^ handB S.1)) k best = mwD (ibT S.1 S.2.1 (2 ^ handB S.1)) 1023 1023 → Wp E (xm E (d + 3) mX9_why Q) mX9_why 95 [some (pR 36 0), some (pI (nI best)), some (pI (nI k))] [] m from H3 1023 1023 (by decide) (by decide) rfl
              intro k
              induction k with
              | zero =>
                intro best _ hb hd
                refine r_iload_2 (q := 96) dX9_why_95 rfl ?_
                refine r_if_le (q := 99) 126 dX9_why_96 (by decide) rfl (fun h96 => ?_) (fun h96 => ?_)
                · rw [← hd] at hQ
                  refine r_iload_1 (q := 127) dX9_why_126 rfl ?_
                  refine r_iret rfl dX9_why_127 (?_)
                  exact hQ
                · exact absurd (Int32.le_refl 0) h96
              | succ k ih =>
                intro best hk hb hd
                have nx : ∀ b', b' ≤ 1023 → mwD (ibT S.1 S.2.1 (2 ^ handB S.1)) k b' = mwD (ibT S.1 S.2.1 (2 ^ handB S.1)) 1023 1023 → Wp E (xm E (d + 3) mX9_why Q) mX9_why 120 [some (pR 36 0), some (pI (nI b')), some (pI (nI (k + 1)))] [] m := by
                  intro b' hb' hd'
                  refine r_iinc_2 (q := 123) (nI k) (by rw [dec1]; exact nI_pred k) (by decide) dX9_why_120 rfl ?_
                  refine r_goto 95 dX9_why_123 (by decide) ?_
                  exact ih b' (by omega) hb' hd'
                have hp1 := popN_le (k + 1)
                have hp2 := popN_le best
                refine r_iload_2 (q := 96) dX9_why_95 rfl ?_
                refine r_if_le (q := 99) 126 dX9_why_96 (by decide) rfl (fun h96 => ?_) (fun h96 => ?_)
                · exact absurd h96 (fun z => by
                    have := nI_ge_of (b := 0) (by omega) (by decide) z
                    omega)
                · refine r_iload_2 (q := 100) dX9_why_99 rfl ?_
                  refine r_callS1i (M' := mX9_size) (q := 103) mk_X9_size ms_X9_size k_843 rfl (Nat.le_of_ble_eq_true rfl) rm_xm dX9_why_100 rfl (msize_ok (show k + 1 < 2 ^ 24 by omega) ?_)
                  refine r_iload_1 (q := 104) dX9_why_103 rfl ?_
                  refine r_callS1i (M' := mX9_size) (q := 107) mk_X9_size ms_X9_size k_843 rfl (Nat.le_of_ble_eq_true rfl) rm_xm dX9_why_104 rfl (msize_ok (show best < 2 ^ 24 by omega) ?_)
                  refine r_icmp_gt (q := 110) 120 dX9_why_107 (by decide) rfl (fun h107 => ?_) (fun h107 => ?_)
                  · have h107 := (nI_ltI (by omega) (by omega)).mp h107
                    exact nx best hb (by rw [← hd, mwD, if_neg (by omega)])
                  · have h107 : popN (k + 1) ≤ popN best := by
                      rcases Nat.lt_or_ge (popN best) (popN (k + 1)) with z | z
                      · exact absurd (nI_lt z (by omega)) h107
                      · exact z
                    refine r_aload_0 (q := 111) dX9_why_110 rfl ?_
                    refine r_iload_2 (q := 112) dX9_why_111 rfl ?_
                    refine r_callV1i (M' := mX9_isKept) (q := 115) mk_X9_isKept mi_X9_isKept k_846 rfl rfl rfl rfl (Nat.le_of_ble_eq_true rfl) rm_xm dX9_why_112 rfl (mkept_ok hI (show k + 1 < 1024 by omega) ?_)
                    refine r_if_ne (q := 118) 120 dX9_why_115 (by decide) rfl (fun h115 => ?_) (fun h115 => ?_)
                    · exact nx best hb (by rw [← hd, mwD, if_neg (fun z => by rw [b2_ne0.mp h115] at z; cases z.2)])
                    · refine r_iload_2 (q := 119) dX9_why_118 rfl ?_
                      refine r_istore_1 (q := 120) (by decide) dX9_why_119 rfl ?_
                      exact nx (k + 1) (by omega) (by rw [← hd, mwD, if_pos ⟨h107, b2_eq0.mp h115⟩])
            · rw [if_pos (b2_ne0.mp h82)] at hQ
              refine r_iconst (q := 86) 0 (by decide) dX9_why_85 rfl ?_
              refine r_iret rfl dX9_why_86 (?_)
              exact hQ
          · have ht : t < 2 ^ handB S.1 := nI_lt_of (by omega) h46
            have hTt := hT t ht
            have hbl := brokenB_lt S.2.1 (sumN S.1 (tolN S.1 t)) noMo
            refine r_aload_0 (q := 50) dX9_why_49 rfl ?_
            refine r_getR (k := 17) (q := 53) f_RX9_55_8 rfl rfl dX9_why_50 rfl ?_
            refine r_iload_1 (q := 54) dX9_why_53 rfl ?_
            refine r_zald (q := 55) _ rfl rfl (by first | omega | assumption | decide) dX9_why_54 rfl ?_
            rw [hTt.2.1]
            refine r_if_eq (q := 58) 70 dX9_why_55 (by decide) rfl (fun h55 => ?_) (fun h55 => ?_)
            · refine r_iinc_1 (q := 73) _ (nI_inc _) (by decide) dX9_why_70 rfl ?_
              refine r_goto 39 dX9_why_73 (by decide) ?_
              refine ih (t + 1) m (by omega) (by omega) hF (fun i hi => ?_)
              rw [hI i hi, ibT, b2_eq0.mp h55, Bool.false_and, Bool.or_false]
            · refine r_aload_0 (q := 59) dX9_why_58 rfl ?_
              refine r_getR (k := 21) (q := 62) f_RX9_68_8 rfl rfl dX9_why_59 rfl ?_
              refine r_aload_0 (q := 63) dX9_why_62 rfl ?_
              refine r_getR (k := 18) (q := 66) f_RX9_59_8 rfl rfl dX9_why_63 rfl ?_
              refine r_iload_1 (q := 67) dX9_why_66 rfl ?_
              refine r_iald (q := 68) _ rfl rfl (by first | omega | assumption | decide) dX9_why_67 rfl ?_
              rw [hTt.2.2]
              refine r_iconst (q := 69) 1 (by decide) dX9_why_68 rfl ?_
              refine r_zast (q := 70) _ rfl (by first | exact Or.inl rfl | exact Or.inr rfl | assumption) rfl (by first | omega | assumption | decide) dX9_why_69 rfl ?_
              refine r_iinc_1 (q := 73) _ (nI_inc _) (by decide) dX9_why_70 rfl ?_
              refine r_goto 39 dX9_why_73 (by decide) ?_
              refine ih (t + 1) _ (by omega) (by omega) (hF.mset (by simp)) (fun i hi => ?_)
              rw [mset_self, ibT, b2_ne0.mp h55, Bool.true_and]
              unfold upd
              by_cases e : i = brokenB S.2.1 (sumN S.1 (tolN S.1 t)) noMo
              · rw [if_pos e, decide_eq_true e, Bool.or_true]; rfl
              · rw [if_neg e, decide_eq_false e, Bool.or_false]; exact hI i hi
      · have hj : j < 1024 := nI_lt_of (a := 1024) (by omega) h21
        refine r_aload_0 (q := 25) dX9_why_24 rfl ?_
        refine r_getR (k := 21) (q := 28) f_RX9_68_8 rfl rfl dX9_why_25 rfl ?_
        refine r_iload_1 (q := 29) dX9_why_28 rfl ?_
        refine r_iconst (q := 30) 0 (by decide) dX9_why_29 rfl ?_
        refine r_zast (q := 31) _ rfl (by first | exact Or.inl rfl | exact Or.inr rfl | assumption) rfl (by first | omega | assumption | decide) dX9_why_30 rfl ?_
        refine r_iinc_1 (q := 34) _ (nI_inc _) (by decide) dX9_why_31 rfl ?_
        refine r_goto 17 dX9_why_34 (by decide) ?_
        refine ih (j + 1) _ (by omega) (by omega) (hF.mset (by simp)) (fun i hi => ?_)
        rw [mset_self]
        unfold upd
        by_cases e : i = j
        · rw [if_pos e]
        · rw [if_neg e]; exact hz i (by omega)
  · have h16 : ¬ handB S.1 ≤ 16 := fun z => h6 (nI_le z (by decide))
    rw [if_neg h16] at hQ
    refine r_iconst (q := 10) (-1) (by decide) dX9_why_9 rfl ?_
    refine r_iret rfl dX9_why_10 (?_)
    exact hQ m1 (fun g hg => hF1 g (by simp; omega)) hC1
end MY
