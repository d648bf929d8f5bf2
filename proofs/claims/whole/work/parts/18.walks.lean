/-! THE CLASS: the walk of each search -/
section WK
variable {E : En} {d : Nat} {mem : Mem} {Q : Int32 → Mem → Prop} {B : BD} {L : LD} {Us : List Nat}
theorem R16.frs {k : K16} {a b : Mem} (hR : R16 k a) (h : FrS 16 17 a b) : R16 k b := by
  unfold R16
  first
    | (rw [h.2 5 (by decide) (by decide), h.2 6 (by decide) (by decide), h.2 7 (by decide) (by decide)]; exact hR)
    | (rw [h.1 20 (by decide)]; exact hR)
    | (unfold T21; rw [h.1 23 (by decide), h.1 24 (by decide), h.1 25 (by decide), h.1 26 (by decide)]; exact ⟨hR.1, fun i hi => (h.2 i (by omega) (by omega)).trans (hR.2 i hi)⟩)
theorem walk16_ok (hW : WFB B) (hWL : WFL L) (hO : UsOK Us) (hX : X16 Us) : ∀ (k dp : Nat), dp + k = Us.length → ∀ (mem : Mem) (Q : Int32 → Mem → Prop) (set tk : Nat) (κ : K16), Uk B Us mem → Lk L mem → Sk 16 17 set tk (sumN B set) mem → R16 κ mem → (∀ i, dp ≤ i → i < Us.length → set &&& Us.getD i 0 = 0) → set < 2 ^ 24 → tk < 2 ^ dp → (∀ mem', Fr fr16 mem mem' → Sk 16 17 set tk (sumN B set) mem' → R16 (walkP (hop16 B L) (mt16 B L) (clashB B) (Us.drop dp) dp set tk κ) mem' → Q 0 mem') → Call E (d + k + 3) mX4_walk [pR 16 0, pI (nI dp)] mem Q := by
  intro k
  induction k with
  | zero =>
    intro dp hdp mem Q set tk κ hU hL hS hR hdis hset htk hQ
    have hl := hO.1
    have hdp : dp = Us.length := by omega
    subst hdp
    rw [List.drop_length] at hQ
    refine Call.of [some (pR 16 0), some (pI (nI Us.length))] mk_X4_walk rfl (Nat.le_of_ble_eq_true rfl) (fun _ => ?_)
    refine r_iload_1 (q := 1) dX4_walk_0 rfl ?_
    refine r_aload_0 (q := 2) dX4_walk_1 rfl ?_
    refine r_getR (k := 0) (q := 5) f_RX4_22_1 rfl rfl dX4_walk_2 rfl ?_
    refine r_getI (k := 4) (q := 8) f_RX4_34_4 rfl rfl dX4_walk_5 rfl ?_
    rw [hU.1.1]
    refine r_icmp_gt (q := 11) 19 dX4_walk_8 (by decide) rfl (fun h8 => ?_) (fun h8 => ?_)
    · exact absurd h8 (by rw [Int32.lt_iff_toInt_lt]; omega)
    · refine r_aload_0 (q := 12) dX4_walk_11 rfl ?_
      refine r_iload_1 (q := 13) dX4_walk_12 rfl ?_
      refine r_callU1i (M' := mX1_isHopeless) (x := ⟨"PaperSetter$Search", "isHopeless", "(I)Z"⟩) (owner := "PaperSetter$Search") (r := (RX1, TX1, 8)) (q := 16) mk_X1_isHopeless k_466 k_465 k_464 (Or.inr (by decide +kernel)) (by decide +kernel) k_462 rfl rfl rfl (Nat.le_of_ble_eq_true rfl) rm_xm dX4_walk_13 rfl (isHopeless16_ok hW hWL hO hX hU hL (Nat.le_refl _) hS hR ?_)
      rw [List.drop_length]
      refine r_if_eq (q := 19) 20 dX4_walk_16 (by decide) rfl (fun h16 => ?_) (fun h16 => ?_)
      · have h16 := b2_eq0.mp h16
        refine r_iload_1 (q := 21) dX4_walk_20 rfl ?_
        refine r_aload_0 (q := 22) dX4_walk_21 rfl ?_
        refine r_getR (k := 0) (q := 25) f_RX4_22_1 rfl rfl dX4_walk_22 rfl ?_
        refine r_getI (k := 4) (q := 28) f_RX4_34_4 rfl rfl dX4_walk_25 rfl ?_
        rw [hU.1.1]
        refine r_icmp_ne (q := 31) 36 dX4_walk_28 (by decide) rfl (fun h28 => ?_) (fun h28 => ?_)
        · exact absurd rfl h28
        · refine r_aload_0 (q := 32) dX4_walk_31 rfl ?_
          refine r_callU0v (M' := mX1_meet) (x := ⟨"PaperSetter$Search", "meet", "()V"⟩) (owner := "PaperSetter$Search") (r := (RX1, TX1, 8)) (q := 35) mk_X1_meet k_486 k_485 k_484 (Or.inr (by decide +kernel)) (by decide +kernel) k_482 rfl rfl rfl (Nat.le_of_ble_eq_true rfl) rm_xm dX4_walk_32 rfl (meet16_ok hW hWL hO hX hU hL htk hset hS hR (fun mem' hF' hS' hR' => ?_))
          refine r_vret rfl dX4_walk_35 (?_)
          refine hQ mem' hF' hS' ?_
          rw [walkP, h16]
          exact hR'
      · have h16 := b2_ne0.mp h16
        refine r_vret rfl dX4_walk_19 (?_)
        refine hQ mem Fr.rf hS ?_
        rw [walkP, h16]
        exact hR
  | succ k ih =>
    intro dp hdp mem Q set tk κ hU hL hS hR hdis hset htk hQ
    have hl := hO.1
    have hlt : dp < Us.length := by omega
    have hdrop := drop_cons hlt
    have hclt := clashT_lt hW (Us.getD dp 0) (bN B) (Nat.le_refl _)
    refine Call.of [some (pR 16 0), some (pI (nI dp))] mk_X4_walk rfl (Nat.le_of_ble_eq_true rfl) (fun _ => ?_)
    refine r_iload_1 (q := 1) dX4_walk_0 rfl ?_
    refine r_aload_0 (q := 2) dX4_walk_1 rfl ?_
    refine r_getR (k := 0) (q := 5) f_RX4_22_1 rfl rfl dX4_walk_2 rfl ?_
    refine r_getI (k := 4) (q := 8) f_RX4_34_4 rfl rfl dX4_walk_5 rfl ?_
    rw [hU.1.1]
    refine r_icmp_gt (q := 11) 19 dX4_walk_8 (by decide) rfl (fun h8 => ?_) (fun h8 => ?_)
    · have := (nI_ltI (by omega) (by omega)).mp h8
      omega
    · refine r_aload_0 (q := 12) dX4_walk_11 rfl ?_
      refine r_iload_1 (q := 13) dX4_walk_12 rfl ?_
      refine r_callU1i (M' := mX1_isHopeless) (x := ⟨"PaperSetter$Search", "isHopeless", "(I)Z"⟩) (owner := "PaperSetter$Search") (r := (RX1, TX1, 8)) (q := 16) mk_X1_isHopeless k_466 k_465 k_464 (Or.inr (by decide +kernel)) (by decide +kernel) k_462 rfl rfl rfl (Nat.le_of_ble_eq_true rfl) rm_xm dX4_walk_13 rfl (isHopeless16_ok hW hWL hO hX hU hL (by omega) hS hR ?_)
      refine r_if_eq (q := 19) 20 dX4_walk_16 (by decide) rfl (fun h16 => ?_) (fun h16 => ?_)
      · have h16 := b2_eq0.mp h16
        refine r_iload_1 (q := 21) dX4_walk_20 rfl ?_
        refine r_aload_0 (q := 22) dX4_walk_21 rfl ?_
        refine r_getR (k := 0) (q := 25) f_RX4_22_1 rfl rfl dX4_walk_22 rfl ?_
        refine r_getI (k := 4) (q := 28) f_RX4_34_4 rfl rfl dX4_walk_25 rfl ?_
        rw [hU.1.1]
        refine r_icmp_ne (q := 31) 36 dX4_walk_28 (by decide) rfl (fun h28 => ?_) (fun h28 => ?_)
        · refine r_aload_0 (q := 37) dX4_walk_36 rfl ?_
          refine r_getR (k := 0) (q := 40) f_RX4_22_1 rfl rfl dX4_walk_37 rfl ?_
          refine r_getR (k := 1) (q := 43) f_RX4_46_4 rfl rfl dX4_walk_40 rfl ?_
          refine r_iload_1 (q := 44) dX4_walk_43 rfl ?_
          refine r_iald (q := 45) _ rfl rfl (by first | omega | assumption | decide) dX4_walk_44 rfl ?_
          refine r_aload_0 (q := 46) dX4_walk_45 rfl ?_
          refine r_getI (k := 3) (q := 49) f_RX4_15_1 rfl rfl dX4_walk_46 rfl ?_
          rw [(hU.1.2 dp hlt).2.1, hS.1]
          refine r_iand (q := 50) dX4_walk_49 rfl ?_
          rw [nb_and]
          have J : ∀ (m : Mem) (κ' : K16), Fr fr16 mem m → Sk 16 17 set tk (sumN B set) m → R16 κ' m → κ' = (if clashB B (Us.getD dp 0) &&& set = 0 then walkP (hop16 B L) (mt16 B L) (clashB B) (Us.drop (dp + 1)) (dp + 1) (set ||| Us.getD dp 0) (tk ||| 2 ^ dp) κ else κ) → Wp E (xm E (d + (k + 1) + 3) mX4_walk Q) mX4_walk 70 [some (pR 16 0), some (pI (nI dp))] [] m := by
            intro m κ' hFm hSm hRm hκ
            refine r_aload_0 (q := 71) dX4_walk_70 rfl ?_
            refine r_iload_1 (q := 72) dX4_walk_71 rfl ?_
            refine r_iconst (q := 73) 1 (by decide) dX4_walk_72 rfl ?_
            refine r_iadd (q := 74) dX4_walk_73 rfl ?_
            rw [nI_1]
            refine r_callS2v (M' := mX4_walk) (q := 77) mk_X4_walk ms_X4_walk k_459 rfl (Nat.le_of_ble_eq_true rfl) rm_xm dX4_walk_74 rfl (ih (dp + 1) (by omega) m _ set tk κ' (hU.fr hFm (by decide) (by decide) (by decide) (by decide) (by decide)) (hL.fr hFm (by decide) (by decide) (by decide)) hSm hRm (fun i h1 h2 => hdis i (by omega) h2) hset (Nat.lt_trans htk (Nat.pow_lt_pow_right (by decide) (by omega))) (fun mem' hF' hS' hR' => ?_))
            refine r_vret rfl dX4_walk_77 (?_)
            refine hQ mem' (hFm.tr hF') hS' ?_
            rw [hdrop, walkP, ← hdrop, h16]
            rw [hκ] at hR'
            exact hR'
          refine r_if_ne (q := 53) 70 dX4_walk_50 (by decide) rfl (fun h50 => ?_) (fun h50 => ?_)
          · have h50 : ¬ clashB B (Us.getD dp 0) &&& set = 0 := fun z => h50 (by rw [z]; rfl)
            exact J mem κ Fr.rf hS hR (by rw [if_neg h50])
          · have h50 : clashB B (Us.getD dp 0) &&& set = 0 := (nI_zero_iff (pw24 (and_lt_l hclt))).mp h50
            have hu24 := hO.2.1 dp hlt
            have hsu := hdis dp (Nat.le_refl _) hlt
            refine r_aload_0 (q := 54) dX4_walk_53 rfl ?_
            refine r_iload_1 (q := 55) dX4_walk_54 rfl ?_
            refine r_callU1v (M' := mX4_take) (x := ⟨"PaperSetter$Search", "take", "(I)V"⟩) (owner := "PaperSetter$Search") (r := (RX1, TX1, 8)) (q := 58) mk_X4_take k_499 kx_0 k_882 (Or.inl rfl) (by decide +kernel) k_497 rfl rfl rfl (Nat.le_of_ble_eq_true rfl) rm_xm dX4_walk_55 rfl (take16_ok hU hO hlt hS (fun m1 hF1 hS1 => ?_))
            refine r_aload_0 (q := 59) dX4_walk_58 rfl ?_
            refine r_iload_1 (q := 60) dX4_walk_59 rfl ?_
            refine r_iconst (q := 61) 1 (by decide) dX4_walk_60 rfl ?_
            refine r_iadd (q := 62) dX4_walk_61 rfl ?_
            rw [nI_1]
            have hF1' : Fr fr16 mem m1 := hF1.1.mono (by decide)
            have hS1' : Sk 16 17 (set ||| Us.getD dp 0) (tk ||| 2 ^ dp) (sumN B (set ||| Us.getD dp 0)) m1 := ⟨hS1.1, hS1.2.1, fun b hb => by rw [hS1.2.2 b hb, sumN_or hsu]⟩
            refine r_callS2v (M' := mX4_walk) (q := 65) mk_X4_walk ms_X4_walk k_459 rfl (Nat.le_of_ble_eq_true rfl) rm_xm dX4_walk_62 rfl (ih (dp + 1) (by omega) m1 _ _ _ κ (hU.fr hF1' (by decide) (by decide) (by decide) (by decide) (by decide)) (hL.fr hF1' (by decide) (by decide) (by decide)) hS1' (hR.frs hF1) (fun i h1 h2 => or_and_zero (hdis i (by omega) h2) (hO.2.2 dp i (by omega) h2)) (or_lt hset hu24) (or_lt (Nat.lt_trans htk (Nat.pow_lt_pow_right (by decide) (by omega))) (Nat.pow_lt_pow_right (by decide) (by omega))) (fun m2 hF2 hS2 hR2 => ?_))
            refine r_aload_0 (q := 66) dX4_walk_65 rfl ?_
            refine r_iload_1 (q := 67) dX4_walk_66 rfl ?_
            refine r_callU1v (M' := mX4_drop) (x := ⟨"PaperSetter$Search", "drop", "(I)V"⟩) (owner := "PaperSetter$Search") (r := (RX1, TX1, 8)) (q := 70) mk_X4_drop k_503 kx_1 k_883 (Or.inl rfl) (by decide +kernel) k_501 rfl rfl rfl (Nat.le_of_ble_eq_true rfl) rm_xm dX4_walk_67 rfl (drop16_ok (S := sumN B set) (hU.fr (hF1'.tr hF2) (by decide) (by decide) (by decide) (by decide) (by decide)) hO hlt hsu htk ⟨hS2.1, hS2.2.1, fun b hb => by rw [hS2.2.2 b hb, sumN_or hsu]⟩ (fun m3 hF3 hS3 => ?_))
            exact J m3 _ ((hF1'.tr hF2).tr (hF3.1.mono (by decide))) hS3 (hR2.frs hF3) (by rw [if_pos h50])
        · have := nI_inj (by omega) (by omega) h28
          omega
      · have h16 := b2_ne0.mp h16
        refine r_vret rfl dX4_walk_19 (?_)
        refine hQ mem Fr.rf hS ?_
        rw [hdrop, walkP, ← hdrop, h16]
        exact hR
theorem walkAll16_ok {κ : K16} (hW : WFB B) (hWL : WFL L) (hO : UsOK Us) (hX : X16 Us) (hU : Uk B Us mem) (hL : Lk L mem) (hS : Sk 16 17 0 0 (fun _ => 0) mem) (hR : R16 κ mem) (hQ : ∀ mem', Fr fr16 mem mem' → Sk 16 17 0 0 (fun _ => 0) mem' → R16 (walkP (hop16 B L) (mt16 B L) (clashB B) Us 0 0 0 κ) mem' → Q 0 mem') : Call E (d + Us.length + 4) mX4_walkAll [pR 16 0] mem Q := by
  refine Call.of [some (pR 16 0)] mk_X4_walkAll rfl (Nat.le_of_ble_eq_true rfl) (fun _ => ?_)
  refine r_aload_0 (q := 1) dX4_walkAll_0 rfl ?_
  refine r_iconst (q := 2) 0 (by decide) dX4_walkAll_1 rfl ?_
  refine r_callS2v (M' := mX4_walk) (q := 5) mk_X4_walk ms_X4_walk k_459 rfl (Nat.le_of_ble_eq_true rfl) rm_xm dX4_walkAll_2 rfl (walk16_ok hW hWL hO hX Us.length 0 (by omega) mem _ 0 0 κ hU hL ⟨hS.1, hS.2.1, fun b hb => by rw [sumN_zero]; exact hS.2.2 b hb⟩ hR (fun i _ _ => Nat.zero_and _) (by decide) (by decide) (fun mem' hF' hS' hR' => ?_))
  refine r_vret rfl dX4_walkAll_5 (?_)
  exact hQ mem' hF' ⟨hS'.1, hS'.2.1, fun b hb => by rw [hS'.2.2 b hb, sumN_zero]⟩ hR'
theorem R18.frs {k : K18} {a b : Mem} (hR : R18 k a) (h : FrS 18 19 a b) : R18 k b := by
  unfold R18
  first
    | (rw [h.2 5 (by decide) (by decide), h.2 6 (by decide) (by decide), h.2 7 (by decide) (by decide)]; exact hR)
    | (rw [h.1 20 (by decide)]; exact hR)
    | (unfold T21; rw [h.1 23 (by decide), h.1 24 (by decide), h.1 25 (by decide), h.1 26 (by decide)]; exact ⟨hR.1, fun i hi => (h.2 i (by omega) (by omega)).trans (hR.2 i hi)⟩)
theorem walk18_ok (hW : WFB B) (hWL : WFL L) (hO : UsOK Us) (hX : X18 Us) : ∀ (k dp : Nat), dp + k = Us.length → ∀ (mem : Mem) (Q : Int32 → Mem → Prop) (set tk : Nat) (κ : K18), Uk B Us mem → Lk L mem → Sk 18 19 set tk (sumN B set) mem → R18 κ mem → (∀ i, dp ≤ i → i < Us.length → set &&& Us.getD i 0 = 0) → set < 2 ^ 24 → tk < 2 ^ dp → (∀ mem', Fr fr18 mem mem' → Sk 18 19 set tk (sumN B set) mem' → R18 (walkP (hop18 B L) (mt18 B L) (clashB B) (Us.drop dp) dp set tk κ) mem' → Q 0 mem') → Call E (d + k + 3) mX4_walk [pR 18 0, pI (nI dp)] mem Q := by
  intro k
  induction k with
  | zero =>
    intro dp hdp mem Q set tk κ hU hL hS hR hdis hset htk hQ
    have hl := hO.1
    have hdp : dp = Us.length := by omega
    subst hdp
    rw [List.drop_length] at hQ
    refine Call.of [some (pR 18 0), some (pI (nI Us.length))] mk_X4_walk rfl (Nat.le_of_ble_eq_true rfl) (fun _ => ?_)
    refine r_iload_1 (q := 1) dX4_walk_0 rfl ?_
    refine r_aload_0 (q := 2) dX4_walk_1 rfl ?_
    refine r_getR (k := 0) (q := 5) f_RX4_22_6 rfl rfl dX4_walk_2 rfl ?_
    refine r_getI (k := 4) (q := 8) f_RX4_34_4 rfl rfl dX4_walk_5 rfl ?_
    rw [hU.1.1]
    refine r_icmp_gt (q := 11) 19 dX4_walk_8 (by decide) rfl (fun h8 => ?_) (fun h8 => ?_)
    · exact absurd h8 (by rw [Int32.lt_iff_toInt_lt]; omega)
    · refine r_aload_0 (q := 12) dX4_walk_11 rfl ?_
      refine r_iload_1 (q := 13) dX4_walk_12 rfl ?_
      refine r_callU1i (M' := mX7_isHopeless) (x := ⟨"PaperSetter$Search", "isHopeless", "(I)Z"⟩) (owner := "PaperSetter$Search") (r := (RX7, TX7, 6)) (q := 16) mk_X7_isHopeless k_475 k_474 k_464 (Or.inr (by decide +kernel)) (by decide +kernel) k_462 rfl rfl rfl (Nat.le_of_ble_eq_true rfl) rm_xm dX4_walk_13 rfl (isHopeless18_ok hW hWL hO hX hU hL (Nat.le_refl _) hS hR ?_)
      rw [List.drop_length]
      refine r_if_eq (q := 19) 20 dX4_walk_16 (by decide) rfl (fun h16 => ?_) (fun h16 => ?_)
      · have h16 := b2_eq0.mp h16
        refine r_iload_1 (q := 21) dX4_walk_20 rfl ?_
        refine r_aload_0 (q := 22) dX4_walk_21 rfl ?_
        refine r_getR (k := 0) (q := 25) f_RX4_22_6 rfl rfl dX4_walk_22 rfl ?_
        refine r_getI (k := 4) (q := 28) f_RX4_34_4 rfl rfl dX4_walk_25 rfl ?_
        rw [hU.1.1]
        refine r_icmp_ne (q := 31) 36 dX4_walk_28 (by decide) rfl (fun h28 => ?_) (fun h28 => ?_)
        · exact absurd rfl h28
        · refine r_aload_0 (q := 32) dX4_walk_31 rfl ?_
          refine r_callU0v (M' := mX7_meet) (x := ⟨"PaperSetter$Search", "meet", "()V"⟩) (owner := "PaperSetter$Search") (r := (RX7, TX7, 6)) (q := 35) mk_X7_meet k_495 k_494 k_484 (Or.inr (by decide +kernel)) (by decide +kernel) k_482 rfl rfl rfl (Nat.le_of_ble_eq_true rfl) rm_xm dX4_walk_32 rfl (meet18_ok hW hWL hO hX hU hL htk hset hS hR (fun mem' hF' hS' hR' => ?_))
          refine r_vret rfl dX4_walk_35 (?_)
          refine hQ mem' hF' hS' ?_
          rw [walkP, h16]
          exact hR'
      · have h16 := b2_ne0.mp h16
        refine r_vret rfl dX4_walk_19 (?_)
        refine hQ mem Fr.rf hS ?_
        rw [walkP, h16]
        exact hR
  | succ k ih =>
    intro dp hdp mem Q set tk κ hU hL hS hR hdis hset htk hQ
    have hl := hO.1
    have hlt : dp < Us.length := by omega
    have hdrop := drop_cons hlt
    have hclt := clashT_lt hW (Us.getD dp 0) (bN B) (Nat.le_refl _)
    refine Call.of [some (pR 18 0), some (pI (nI dp))] mk_X4_walk rfl (Nat.le_of_ble_eq_true rfl) (fun _ => ?_)
    refine r_iload_1 (q := 1) dX4_walk_0 rfl ?_
    refine r_aload_0 (q := 2) dX4_walk_1 rfl ?_
    refine r_getR (k := 0) (q := 5) f_RX4_22_6 rfl rfl dX4_walk_2 rfl ?_
    refine r_getI (k := 4) (q := 8) f_RX4_34_4 rfl rfl dX4_walk_5 rfl ?_
    rw [hU.1.1]
    refine r_icmp_gt (q := 11) 19 dX4_walk_8 (by decide) rfl (fun h8 => ?_) (fun h8 => ?_)
    · have := (nI_ltI (by omega) (by omega)).mp h8
      omega
    · refine r_aload_0 (q := 12) dX4_walk_11 rfl ?_
      refine r_iload_1 (q := 13) dX4_walk_12 rfl ?_
      refine r_callU1i (M' := mX7_isHopeless) (x := ⟨"PaperSetter$Search", "isHopeless", "(I)Z"⟩) (owner := "PaperSetter$Search") (r := (RX7, TX7, 6)) (q := 16) mk_X7_isHopeless k_475 k_474 k_464 (Or.inr (by decide +kernel)) (by decide +kernel) k_462 rfl rfl rfl (Nat.le_of_ble_eq_true rfl) rm_xm dX4_walk_13 rfl (isHopeless18_ok hW hWL hO hX hU hL (by omega) hS hR ?_)
      refine r_if_eq (q := 19) 20 dX4_walk_16 (by decide) rfl (fun h16 => ?_) (fun h16 => ?_)
      · have h16 := b2_eq0.mp h16
        refine r_iload_1 (q := 21) dX4_walk_20 rfl ?_
        refine r_aload_0 (q := 22) dX4_walk_21 rfl ?_
        refine r_getR (k := 0) (q := 25) f_RX4_22_6 rfl rfl dX4_walk_22 rfl ?_
        refine r_getI (k := 4) (q := 28) f_RX4_34_4 rfl rfl dX4_walk_25 rfl ?_
        rw [hU.1.1]
        refine r_icmp_ne (q := 31) 36 dX4_walk_28 (by decide) rfl (fun h28 => ?_) (fun h28 => ?_)
        · refine r_aload_0 (q := 37) dX4_walk_36 rfl ?_
          refine r_getR (k := 0) (q := 40) f_RX4_22_6 rfl rfl dX4_walk_37 rfl ?_
          refine r_getR (k := 1) (q := 43) f_RX4_46_4 rfl rfl dX4_walk_40 rfl ?_
          refine r_iload_1 (q := 44) dX4_walk_43 rfl ?_
          refine r_iald (q := 45) _ rfl rfl (by first | omega | assumption | decide) dX4_walk_44 rfl ?_
          refine r_aload_0 (q := 46) dX4_walk_45 rfl ?_
          refine r_getI (k := 3) (q := 49) f_RX4_15_6 rfl rfl dX4_walk_46 rfl ?_
          rw [(hU.1.2 dp hlt).2.1, hS.1]
          refine r_iand (q := 50) dX4_walk_49 rfl ?_
          rw [nb_and]
          have J : ∀ (m : Mem) (κ' : K18), Fr fr18 mem m → Sk 18 19 set tk (sumN B set) m → R18 κ' m → κ' = (if clashB B (Us.getD dp 0) &&& set = 0 then walkP (hop18 B L) (mt18 B L) (clashB B) (Us.drop (dp + 1)) (dp + 1) (set ||| Us.getD dp 0) (tk ||| 2 ^ dp) κ else κ) → Wp E (xm E (d + (k + 1) + 3) mX4_walk Q) mX4_walk 70 [some (pR 18 0), some (pI (nI dp))] [] m := by
            intro m κ' hFm hSm hRm hκ
            refine r_aload_0 (q := 71) dX4_walk_70 rfl ?_
            refine r_iload_1 (q := 72) dX4_walk_71 rfl ?_
            refine r_iconst (q := 73) 1 (by decide) dX4_walk_72 rfl ?_
            refine r_iadd (q := 74) dX4_walk_73 rfl ?_
            rw [nI_1]
            refine r_callS2v (M' := mX4_walk) (q := 77) mk_X4_walk ms_X4_walk k_459 rfl (Nat.le_of_ble_eq_true rfl) rm_xm dX4_walk_74 rfl (ih (dp + 1) (by omega) m _ set tk κ' (hU.fr hFm (by decide) (by decide) (by decide) (by decide) (by decide)) (hL.fr hFm (by decide) (by decide) (by decide)) hSm hRm (fun i h1 h2 => hdis i (by omega) h2) hset (Nat.lt_trans htk (Nat.pow_lt_pow_right (by decide) (by omega))) (fun mem' hF' hS' hR' => ?_))
            refine r_vret rfl dX4_walk_77 (?_)
            refine hQ mem' (hFm.tr hF') hS' ?_
            rw [hdrop, walkP, ← hdrop, h16]
            rw [hκ] at hR'
            exact hR'
          refine r_if_ne (q := 53) 70 dX4_walk_50 (by decide) rfl (fun h50 => ?_) (fun h50 => ?_)
          · have h50 : ¬ clashB B (Us.getD dp 0) &&& set = 0 := fun z => h50 (by rw [z]; rfl)
            exact J mem κ Fr.rf hS hR (by rw [if_neg h50])
          · have h50 : clashB B (Us.getD dp 0) &&& set = 0 := (nI_zero_iff (pw24 (and_lt_l hclt))).mp h50
            have hu24 := hO.2.1 dp hlt
            have hsu := hdis dp (Nat.le_refl _) hlt
            refine r_aload_0 (q := 54) dX4_walk_53 rfl ?_
            refine r_iload_1 (q := 55) dX4_walk_54 rfl ?_
            refine r_callU1v (M' := mX4_take) (x := ⟨"PaperSetter$Search", "take", "(I)V"⟩) (owner := "PaperSetter$Search") (r := (RX7, TX7, 6)) (q := 58) mk_X4_take k_499 kx_4 k_882 (Or.inl rfl) (by decide +kernel) k_497 rfl rfl rfl (Nat.le_of_ble_eq_true rfl) rm_xm dX4_walk_55 rfl (take18_ok hU hO hlt hS (fun m1 hF1 hS1 => ?_))
            refine r_aload_0 (q := 59) dX4_walk_58 rfl ?_
            refine r_iload_1 (q := 60) dX4_walk_59 rfl ?_
            refine r_iconst (q := 61) 1 (by decide) dX4_walk_60 rfl ?_
            refine r_iadd (q := 62) dX4_walk_61 rfl ?_
            rw [nI_1]
            have hF1' : Fr fr18 mem m1 := hF1.1.mono (by decide)
            have hS1' : Sk 18 19 (set ||| Us.getD dp 0) (tk ||| 2 ^ dp) (sumN B (set ||| Us.getD dp 0)) m1 := ⟨hS1.1, hS1.2.1, fun b hb => by rw [hS1.2.2 b hb, sumN_or hsu]⟩
            refine r_callS2v (M' := mX4_walk) (q := 65) mk_X4_walk ms_X4_walk k_459 rfl (Nat.le_of_ble_eq_true rfl) rm_xm dX4_walk_62 rfl (ih (dp + 1) (by omega) m1 _ _ _ κ (hU.fr hF1' (by decide) (by decide) (by decide) (by decide) (by decide)) (hL.fr hF1' (by decide) (by decide) (by decide)) hS1' (hR.frs hF1) (fun i h1 h2 => or_and_zero (hdis i (by omega) h2) (hO.2.2 dp i (by omega) h2)) (or_lt hset hu24) (or_lt (Nat.lt_trans htk (Nat.pow_lt_pow_right (by decide) (by omega))) (Nat.pow_lt_pow_right (by decide) (by omega))) (fun m2 hF2 hS2 hR2 => ?_))
            refine r_aload_0 (q := 66) dX4_walk_65 rfl ?_
            refine r_iload_1 (q := 67) dX4_walk_66 rfl ?_
            refine r_callU1v (M' := mX4_drop) (x := ⟨"PaperSetter$Search", "drop", "(I)V"⟩) (owner := "PaperSetter$Search") (r := (RX7, TX7, 6)) (q := 70) mk_X4_drop k_503 kx_5 k_883 (Or.inl rfl) (by decide +kernel) k_501 rfl rfl rfl (Nat.le_of_ble_eq_true rfl) rm_xm dX4_walk_67 rfl (drop18_ok (S := sumN B set) (hU.fr (hF1'.tr hF2) (by decide) (by decide) (by decide) (by decide) (by decide)) hO hlt hsu htk ⟨hS2.1, hS2.2.1, fun b hb => by rw [hS2.2.2 b hb, sumN_or hsu]⟩ (fun m3 hF3 hS3 => ?_))
            exact J m3 _ ((hF1'.tr hF2).tr (hF3.1.mono (by decide))) hS3 (hR2.frs hF3) (by rw [if_pos h50])
        · have := nI_inj (by omega) (by omega) h28
          omega
      · have h16 := b2_ne0.mp h16
        refine r_vret rfl dX4_walk_19 (?_)
        refine hQ mem Fr.rf hS ?_
        rw [hdrop, walkP, ← hdrop, h16]
        exact hR
theorem walkAll18_ok {κ : K18} (hW : WFB B) (hWL : WFL L) (hO : UsOK Us) (hX : X18 Us) (hU : Uk B Us mem) (hL : Lk L mem) (hS : Sk 18 19 0 0 (fun _ => 0) mem) (hR : R18 κ mem) (hQ : ∀ mem', Fr fr18 mem mem' → Sk 18 19 0 0 (fun _ => 0) mem' → R18 (walkP (hop18 B L) (mt18 B L) (clashB B) Us 0 0 0 κ) mem' → Q 0 mem') : Call E (d + Us.length + 4) mX4_walkAll [pR 18 0] mem Q := by
  refine Call.of [some (pR 18 0)] mk_X4_walkAll rfl (Nat.le_of_ble_eq_true rfl) (fun _ => ?_)
  refine r_aload_0 (q := 1) dX4_walkAll_0 rfl ?_
  refine r_iconst (q := 2) 0 (by decide) dX4_walkAll_1 rfl ?_
  refine r_callS2v (M' := mX4_walk) (q := 5) mk_X4_walk ms_X4_walk k_459 rfl (Nat.le_of_ble_eq_true rfl) rm_xm dX4_walkAll_2 rfl (walk18_ok hW hWL hO hX Us.length 0 (by omega) mem _ 0 0 κ hU hL ⟨hS.1, hS.2.1, fun b hb => by rw [sumN_zero]; exact hS.2.2 b hb⟩ hR (fun i _ _ => Nat.zero_and _) (by decide) (by decide) (fun mem' hF' hS' hR' => ?_))
  refine r_vret rfl dX4_walkAll_5 (?_)
  exact hQ mem' hF' ⟨hS'.1, hS'.2.1, fun b hb => by rw [hS'.2.2 b hb, sumN_zero]⟩ hR'
theorem R21.frs {k : K21} {a b : Mem} (hR : R21 k a) (h : FrS 21 22 a b) : R21 k b := by
  unfold R21
  first
    | (rw [h.2 5 (by decide) (by decide), h.2 6 (by decide) (by decide), h.2 7 (by decide) (by decide)]; exact hR)
    | (rw [h.1 20 (by decide)]; exact hR)
    | (unfold T21; rw [h.1 23 (by decide), h.1 24 (by decide), h.1 25 (by decide), h.1 26 (by decide)]; exact ⟨hR.1, fun i hi => (h.2 i (by omega) (by omega)).trans (hR.2 i hi)⟩)
theorem walk21_ok (hW : WFB B) (hWL : WFL L) (hO : UsOK Us) (hX : X21 Us) : ∀ (k dp : Nat), dp + k = Us.length → ∀ (mem : Mem) (Q : Int32 → Mem → Prop) (set tk : Nat) (κ : K21), Uk B Us mem → Lk L mem → Sk 21 22 set tk (sumN B set) mem → R21 κ mem → (∀ i, dp ≤ i → i < Us.length → set &&& Us.getD i 0 = 0) → set < 2 ^ 24 → tk < 2 ^ dp → (∀ mem', Fr fr21 mem mem' → Sk 21 22 set tk (sumN B set) mem' → R21 (walkP (hop21 B L) (mt21 B L) (clashB B) (Us.drop dp) dp set tk κ) mem' → Q 0 mem') → Call E (d + k + 3) mX4_walk [pR 21 0, pI (nI dp)] mem Q := by
  intro k
  induction k with
  | zero =>
    intro dp hdp mem Q set tk κ hU hL hS hR hdis hset htk hQ
    have hl := hO.1
    have hdp : dp = Us.length := by omega
    subst hdp
    rw [List.drop_length] at hQ
    refine Call.of [some (pR 21 0), some (pI (nI Us.length))] mk_X4_walk rfl (Nat.le_of_ble_eq_true rfl) (fun _ => ?_)
    refine r_iload_1 (q := 1) dX4_walk_0 rfl ?_
    refine r_aload_0 (q := 2) dX4_walk_1 rfl ?_
    refine r_getR (k := 0) (q := 5) f_RX4_22_5 rfl rfl dX4_walk_2 rfl ?_
    refine r_getI (k := 4) (q := 8) f_RX4_34_4 rfl rfl dX4_walk_5 rfl ?_
    rw [hU.1.1]
    refine r_icmp_gt (q := 11) 19 dX4_walk_8 (by decide) rfl (fun h8 => ?_) (fun h8 => ?_)
    · exact absurd h8 (by rw [Int32.lt_iff_toInt_lt]; omega)
    · refine r_aload_0 (q := 12) dX4_walk_11 rfl ?_
      refine r_iload_1 (q := 13) dX4_walk_12 rfl ?_
      refine r_callU1i (M' := mX6_isHopeless) (x := ⟨"PaperSetter$Search", "isHopeless", "(I)Z"⟩) (owner := "PaperSetter$Search") (r := (RX6, TX6, 13)) (q := 16) mk_X6_isHopeless k_471 k_470 k_464 (Or.inr (by decide +kernel)) (by decide +kernel) k_462 rfl rfl rfl (Nat.le_of_ble_eq_true rfl) rm_xm dX4_walk_13 rfl (isHopeless21_ok hW hWL hO hX hU hL (Nat.le_refl _) hS hR ?_)
      rw [List.drop_length]
      refine r_if_eq (q := 19) 20 dX4_walk_16 (by decide) rfl (fun h16 => ?_) (fun h16 => ?_)
      · have h16 := b2_eq0.mp h16
        refine r_iload_1 (q := 21) dX4_walk_20 rfl ?_
        refine r_aload_0 (q := 22) dX4_walk_21 rfl ?_
        refine r_getR (k := 0) (q := 25) f_RX4_22_5 rfl rfl dX4_walk_22 rfl ?_
        refine r_getI (k := 4) (q := 28) f_RX4_34_4 rfl rfl dX4_walk_25 rfl ?_
        rw [hU.1.1]
        refine r_icmp_ne (q := 31) 36 dX4_walk_28 (by decide) rfl (fun h28 => ?_) (fun h28 => ?_)
        · exact absurd rfl h28
        · refine r_aload_0 (q := 32) dX4_walk_31 rfl ?_
          refine r_callU0v (M' := mX6_meet) (x := ⟨"PaperSetter$Search", "meet", "()V"⟩) (owner := "PaperSetter$Search") (r := (RX6, TX6, 13)) (q := 35) mk_X6_meet k_490 k_489 k_484 (Or.inr (by decide +kernel)) (by decide +kernel) k_482 rfl rfl rfl (Nat.le_of_ble_eq_true rfl) rm_xm dX4_walk_32 rfl (meet21_ok hW hWL hO hX hU hL htk hset hS hR (fun mem' hF' hS' hR' => ?_))
          refine r_vret rfl dX4_walk_35 (?_)
          refine hQ mem' hF' hS' ?_
          rw [walkP, h16]
          exact hR'
      · have h16 := b2_ne0.mp h16
        refine r_vret rfl dX4_walk_19 (?_)
        refine hQ mem Fr.rf hS ?_
        rw [walkP, h16]
        exact hR
  | succ k ih =>
    intro dp hdp mem Q set tk κ hU hL hS hR hdis hset htk hQ
    have hl := hO.1
    have hlt : dp < Us.length := by omega
    have hdrop := drop_cons hlt
    have hclt := clashT_lt hW (Us.getD dp 0) (bN B) (Nat.le_refl _)
    refine Call.of [some (pR 21 0), some (pI (nI dp))] mk_X4_walk rfl (Nat.le_of_ble_eq_true rfl) (fun _ => ?_)
    refine r_iload_1 (q := 1) dX4_walk_0 rfl ?_
    refine r_aload_0 (q := 2) dX4_walk_1 rfl ?_
    refine r_getR (k := 0) (q := 5) f_RX4_22_5 rfl rfl dX4_walk_2 rfl ?_
    refine r_getI (k := 4) (q := 8) f_RX4_34_4 rfl rfl dX4_walk_5 rfl ?_
    rw [hU.1.1]
    refine r_icmp_gt (q := 11) 19 dX4_walk_8 (by decide) rfl (fun h8 => ?_) (fun h8 => ?_)
    · have := (nI_ltI (by omega) (by omega)).mp h8
      omega
    · refine r_aload_0 (q := 12) dX4_walk_11 rfl ?_
      refine r_iload_1 (q := 13) dX4_walk_12 rfl ?_
      refine r_callU1i (M' := mX6_isHopeless) (x := ⟨"PaperSetter$Search", "isHopeless", "(I)Z"⟩) (owner := "PaperSetter$Search") (r := (RX6, TX6, 13)) (q := 16) mk_X6_isHopeless k_471 k_470 k_464 (Or.inr (by decide +kernel)) (by decide +kernel) k_462 rfl rfl rfl (Nat.le_of_ble_eq_true rfl) rm_xm dX4_walk_13 rfl (isHopeless21_ok hW hWL hO hX hU hL (by omega) hS hR ?_)
      refine r_if_eq (q := 19) 20 dX4_walk_16 (by decide) rfl (fun h16 => ?_) (fun h16 => ?_)
      · have h16 := b2_eq0.mp h16
        refine r_iload_1 (q := 21) dX4_walk_20 rfl ?_
        refine r_aload_0 (q := 22) dX4_walk_21 rfl ?_
        refine r_getR (k := 0) (q := 25) f_RX4_22_5 rfl rfl dX4_walk_22 rfl ?_
        refine r_getI (k := 4) (q := 28) f_RX4_34_4 rfl rfl dX4_walk_25 rfl ?_
        rw [hU.1.1]
        refine r_icmp_ne (q := 31) 36 dX4_walk_28 (by decide) rfl (fun h28 => ?_) (fun h28 => ?_)
        · refine r_aload_0 (q := 37) dX4_walk_36 rfl ?_
          refine r_getR (k := 0) (q := 40) f_RX4_22_5 rfl rfl dX4_walk_37 rfl ?_
          refine r_getR (k := 1) (q := 43) f_RX4_46_4 rfl rfl dX4_walk_40 rfl ?_
          refine r_iload_1 (q := 44) dX4_walk_43 rfl ?_
          refine r_iald (q := 45) _ rfl rfl (by first | omega | assumption | decide) dX4_walk_44 rfl ?_
          refine r_aload_0 (q := 46) dX4_walk_45 rfl ?_
          refine r_getI (k := 3) (q := 49) f_RX4_15_5 rfl rfl dX4_walk_46 rfl ?_
          rw [(hU.1.2 dp hlt).2.1, hS.1]
          refine r_iand (q := 50) dX4_walk_49 rfl ?_
          rw [nb_and]
          have J : ∀ (m : Mem) (κ' : K21), Fr fr21 mem m → Sk 21 22 set tk (sumN B set) m → R21 κ' m → κ' = (if clashB B (Us.getD dp 0) &&& set = 0 then walkP (hop21 B L) (mt21 B L) (clashB B) (Us.drop (dp + 1)) (dp + 1) (set ||| Us.getD dp 0) (tk ||| 2 ^ dp) κ else κ) → Wp E (xm E (d + (k + 1) + 3) mX4_walk Q) mX4_walk 70 [some (pR 21 0), some (pI (nI dp))] [] m := by
            intro m κ' hFm hSm hRm hκ
            refine r_aload_0 (q := 71) dX4_walk_70 rfl ?_
            refine r_iload_1 (q := 72) dX4_walk_71 rfl ?_
            refine r_iconst (q := 73) 1 (by decide) dX4_walk_72 rfl ?_
            refine r_iadd (q := 74) dX4_walk_73 rfl ?_
            rw [nI_1]
            refine r_callS2v (M' := mX4_walk) (q := 77) mk_X4_walk ms_X4_walk k_459 rfl (Nat.le_of_ble_eq_true rfl) rm_xm dX4_walk_74 rfl (ih (dp + 1) (by omega) m _ set tk κ' (hU.fr hFm (by decide) (by decide) (by decide) (by decide) (by decide)) (hL.fr hFm (by decide) (by decide) (by decide)) hSm hRm (fun i h1 h2 => hdis i (by omega) h2) hset (Nat.lt_trans htk (Nat.pow_lt_pow_right (by decide) (by omega))) (fun mem' hF' hS' hR' => ?_))
            refine r_vret rfl dX4_walk_77 (?_)
            refine hQ mem' (hFm.tr hF') hS' ?_
            rw [hdrop, walkP, ← hdrop, h16]
            rw [hκ] at hR'
            exact hR'
          refine r_if_ne (q := 53) 70 dX4_walk_50 (by decide) rfl (fun h50 => ?_) (fun h50 => ?_)
          · have h50 : ¬ clashB B (Us.getD dp 0) &&& set = 0 := fun z => h50 (by rw [z]; rfl)
            exact J mem κ Fr.rf hS hR (by rw [if_neg h50])
          · have h50 : clashB B (Us.getD dp 0) &&& set = 0 := (nI_zero_iff (pw24 (and_lt_l hclt))).mp h50
            have hu24 := hO.2.1 dp hlt
            have hsu := hdis dp (Nat.le_refl _) hlt
            refine r_aload_0 (q := 54) dX4_walk_53 rfl ?_
            refine r_iload_1 (q := 55) dX4_walk_54 rfl ?_
            refine r_callU1v (M' := mX4_take) (x := ⟨"PaperSetter$Search", "take", "(I)V"⟩) (owner := "PaperSetter$Search") (r := (RX6, TX6, 13)) (q := 58) mk_X4_take k_499 kx_2 k_882 (Or.inl rfl) (by decide +kernel) k_497 rfl rfl rfl (Nat.le_of_ble_eq_true rfl) rm_xm dX4_walk_55 rfl (take21_ok hU hO hlt hS (fun m1 hF1 hS1 => ?_))
            refine r_aload_0 (q := 59) dX4_walk_58 rfl ?_
            refine r_iload_1 (q := 60) dX4_walk_59 rfl ?_
            refine r_iconst (q := 61) 1 (by decide) dX4_walk_60 rfl ?_
            refine r_iadd (q := 62) dX4_walk_61 rfl ?_
            rw [nI_1]
            have hF1' : Fr fr21 mem m1 := hF1.1.mono (by decide)
            have hS1' : Sk 21 22 (set ||| Us.getD dp 0) (tk ||| 2 ^ dp) (sumN B (set ||| Us.getD dp 0)) m1 := ⟨hS1.1, hS1.2.1, fun b hb => by rw [hS1.2.2 b hb, sumN_or hsu]⟩
            refine r_callS2v (M' := mX4_walk) (q := 65) mk_X4_walk ms_X4_walk k_459 rfl (Nat.le_of_ble_eq_true rfl) rm_xm dX4_walk_62 rfl (ih (dp + 1) (by omega) m1 _ _ _ κ (hU.fr hF1' (by decide) (by decide) (by decide) (by decide) (by decide)) (hL.fr hF1' (by decide) (by decide) (by decide)) hS1' (hR.frs hF1) (fun i h1 h2 => or_and_zero (hdis i (by omega) h2) (hO.2.2 dp i (by omega) h2)) (or_lt hset hu24) (or_lt (Nat.lt_trans htk (Nat.pow_lt_pow_right (by decide) (by omega))) (Nat.pow_lt_pow_right (by decide) (by omega))) (fun m2 hF2 hS2 hR2 => ?_))
            refine r_aload_0 (q := 66) dX4_walk_65 rfl ?_
            refine r_iload_1 (q := 67) dX4_walk_66 rfl ?_
            refine r_callU1v (M' := mX4_drop) (x := ⟨"PaperSetter$Search", "drop", "(I)V"⟩) (owner := "PaperSetter$Search") (r := (RX6, TX6, 13)) (q := 70) mk_X4_drop k_503 kx_3 k_883 (Or.inl rfl) (by decide +kernel) k_501 rfl rfl rfl (Nat.le_of_ble_eq_true rfl) rm_xm dX4_walk_67 rfl (drop21_ok (S := sumN B set) (hU.fr (hF1'.tr hF2) (by decide) (by decide) (by decide) (by decide) (by decide)) hO hlt hsu htk ⟨hS2.1, hS2.2.1, fun b hb => by rw [hS2.2.2 b hb, sumN_or hsu]⟩ (fun m3 hF3 hS3 => ?_))
            exact J m3 _ ((hF1'.tr hF2).tr (hF3.1.mono (by decide))) hS3 (hR2.frs hF3) (by rw [if_pos h50])
        · have := nI_inj (by omega) (by omega) h28
          omega
      · have h16 := b2_ne0.mp h16
        refine r_vret rfl dX4_walk_19 (?_)
        refine hQ mem Fr.rf hS ?_
        rw [hdrop, walkP, ← hdrop, h16]
        exact hR
theorem walkAll21_ok {κ : K21} (hW : WFB B) (hWL : WFL L) (hO : UsOK Us) (hX : X21 Us) (hU : Uk B Us mem) (hL : Lk L mem) (hS : Sk 21 22 0 0 (fun _ => 0) mem) (hR : R21 κ mem) (hQ : ∀ mem', Fr fr21 mem mem' → Sk 21 22 0 0 (fun _ => 0) mem' → R21 (walkP (hop21 B L) (mt21 B L) (clashB B) Us 0 0 0 κ) mem' → Q 0 mem') : Call E (d + Us.length + 4) mX4_walkAll [pR 21 0] mem Q := by
  refine Call.of [some (pR 21 0)] mk_X4_walkAll rfl (Nat.le_of_ble_eq_true rfl) (fun _ => ?_)
  refine r_aload_0 (q := 1) dX4_walkAll_0 rfl ?_
  refine r_iconst (q := 2) 0 (by decide) dX4_walkAll_1 rfl ?_
  refine r_callS2v (M' := mX4_walk) (q := 5) mk_X4_walk ms_X4_walk k_459 rfl (Nat.le_of_ble_eq_true rfl) rm_xm dX4_walkAll_2 rfl (walk21_ok hW hWL hO hX Us.length 0 (by omega) mem _ 0 0 κ hU hL ⟨hS.1, hS.2.1, fun b hb => by rw [sumN_zero]; exact hS.2.2 b hb⟩ hR (fun i _ _ => Nat.zero_and _) (by decide) (by decide) (fun mem' hF' hS' hR' => ?_))
  refine r_vret rfl dX4_walkAll_5 (?_)
  exact hQ mem' hF' ⟨hS'.1, hS'.2.1, fun b hb => by rw [hS'.2.2 b hb, sumN_zero]⟩ hR'

end WK
