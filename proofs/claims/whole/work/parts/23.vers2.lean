/-! THE CLASS: two versions -/
theorem walkP_inv {κ : Type} {hop : List Nat → Nat → κ → Bool} {mt : Nat → Nat → κ → κ} {cl : Nat → Nat} {P : κ → Prop} (h : ∀ set tk k, set < 2 ^ 24 → P k → P (mt set tk k)) : ∀ (Us : List Nat) (dp set tk : Nat) (k : κ), (∀ u, u ∈ Us → u < 2 ^ 24) → set < 2 ^ 24 → P k → P (walkP hop mt cl Us dp set tk k)
  | [], dp, set, tk, k, _, hs, hk => by
    unfold walkP
    split
    · exact hk
    · exact h _ _ _ hs hk
  | u :: rest, dp, set, tk, k, hU, hs, hk => by
    unfold walkP
    split
    · exact hk
    · have hr : ∀ v, v ∈ rest → v < 2 ^ 24 := fun v hv => hU v (List.mem_cons_of_mem _ hv)
      refine walkP_inv h rest _ _ _ _ hr hs ?_
      split
      · exact walkP_inv h rest _ _ _ _ hr (or_lt hs (hU u List.mem_cons_self)) hk
      · exact hk
theorem GK_mt {B : BD} {L : LD} (hW : WFB B) (hWL : WFL L) (set tk : Nat) (k : K21) (hs : set < 2 ^ 24) (hk : GK k) : GK (mt21 B L set tk k) := by
  intro t ht hne
  unfold mt21 updN at hne ⊢
  by_cases e : t = tk
  · have h1 := sumN_le hW set 1
    have h2 := sumN_le hW set 2
    have h3 := spreadB_le hWL (S := sumN B set) (Mo := noMo) (c := 1440) (fun i _ => sumN_le hW set i)
    simp only [e, if_true]
    exact ⟨hs, by omega, by omega, by omega⟩
  · simp only [e, if_false] at hne ⊢
    exact hk t ht hne
theorem usok_mem {Us : List Nat} (hO : UsOK Us) : ∀ u, u ∈ Us → u < 2 ^ 24 := by
  intro u hu
  obtain ⟨i, hi⟩ := List.getElem?_of_mem hu
  have hl := (List.getElem?_eq_some_iff.mp hi).1
  have := hO.2.1 i hl
  rw [List.getD_eq_getElem?_getD, hi] at this
  exact this
def verK (B : BD) (L : LD) (Us : List Nat) (k0 : K21) : K21 := walkP (hop21 B L) (mt21 B L) (clashB B) Us 0 0 0 k0
def verR (B : BD) (L : LD) (Us : List Nat) (D : Nat) (k0 : K21) : B4 := allP (verK B L Us k0) D (2 ^ Us.length - 1) (2 ^ Us.length - 1) (1000000, 0, 0, 0)
theorem verK_w (B : BD) (L : LD) (Us : List Nat) (k0 : K21) (i : Nat) : (verK B L Us k0).2.2.2.2 i = k0.2.2.2.2 i := by
  have : ∀ (Us : List Nat) (dp set tk : Nat) (k : K21), (walkP (hop21 B L) (mt21 B L) (clashB B) Us dp set tk k).2.2.2.2 = k.2.2.2.2 := by
    intro Us
    induction Us with
    | nil => intro dp set tk k; unfold walkP; split <;> rfl
    | cons u t ih =>
      intro dp set tk k
      unfold walkP
      split
      · rfl
      · rw [ih]
        split
        · exact ih _ _ _ _
        · rfl
  unfold verK
  rw [this]
theorem GK_ver {B : BD} {L : LD} (hW : WFB B) (hWL : WFL L) {Us : List Nat} (hO : UsOK Us) {k0 : K21} (h0 : k0.1 = fun _ => 0) : GK (verK B L Us k0) :=
  walkP_inv (GK_mt hW hWL) Us 0 0 0 k0 (usok_mem hO) (by decide) (fun t _ h => absurd (by rw [h0]) h)
section V2
variable {E : En} {d : Nat} {mem : Mem} {Q : Int32 → Mem → Prop} {S : AS}
theorem findTwo_ok {B : BD} {L : LD} {Us : List Nat} {D : Nat} (hW : WFB B) (hWL : WFL L) (hO : UsOK Us) (hX : Us.length ≤ 10) (hD : D ≤ 1000) (hU : Uk B Us mem) (hL : Lk L mem) (hS : Sk 21 22 0 0 z10 mem) (hQ : ∀ (mem' : Mem) (k0 : K21), k0.1 = (fun _ => 0) → Fr fr21 mem mem' → Sk 21 22 0 0 z10 mem' → R4 (verR B L Us D k0) mem' → Q 0 mem') : Call E (d + 21) mX6_findTwo [pR 21 0, pI (nI D)] mem Q := by
  refine Call.of [some (pR 21 0), some (pI (nI D)), none, none] mk_X6_findTwo rfl (Nat.le_of_ble_eq_true rfl) (fun _ => ?_)
  have hl := hO.1
  have hpw : 2 ^ Us.length ≤ 2 ^ 10 := Nat.pow_le_pow_right (by decide) hX
  have hpp : 0 < 2 ^ Us.length := Nat.pow_pos (by decide)
  refine r_aload_0 (q := 1) dX6_findTwo_0 rfl ?_
  refine r_ldc (q := 3) k_222 dX6_findTwo_1 rfl ?_
  refine r_put (k := 9) (q := 6) f_RX6_25_5 pf_5_9 rfl rfl dX6_findTwo_3 rfl ?_
  refine r_aload_0 (q := 7) dX6_findTwo_6 rfl ?_
  refine r_iconst (q := 8) 0 (by decide) dX6_findTwo_7 rfl ?_
  refine r_put (k := 10) (q := 11) f_RX6_29_5 pf_5_10 rfl rfl dX6_findTwo_8 rfl ?_
  refine r_aload_0 (q := 12) dX6_findTwo_11 rfl ?_
  refine r_iconst (q := 13) 0 (by decide) dX6_findTwo_12 rfl ?_
  refine r_put (k := 11) (q := 16) f_RX6_32_5 pf_5_11 rfl rfl dX6_findTwo_13 rfl ?_
  refine r_aload_0 (q := 17) dX6_findTwo_16 rfl ?_
  refine r_iconst (q := 18) 0 (by decide) dX6_findTwo_17 rfl ?_
  refine r_put (k := 12) (q := 21) f_RX6_35_5 pf_5_12 rfl rfl dX6_findTwo_18 rfl ?_
  refine r_aload_0 (q := 22) dX6_findTwo_21 rfl ?_
  refine r_getR (k := 5) (q := 25) f_RX6_9_5 rfl rfl dX6_findTwo_22 rfl ?_
  refine r_iconst (q := 26) 0 (by decide) dX6_findTwo_25 rfl ?_
  refine r_callS2v (M' := mJ7_fill_53178) (q := 29) mk_J7_fill_53178 ms_J7_fill_53178 k_530 rfl (Nat.le_of_ble_eq_true rfl) rm_xm dX6_findTwo_26 rfl (fill_ok rfl ?_)
  generalize hm1 : mrow (mset (mset (mset (mset mem 21 0 9 1000000) 21 0 10 0) 21 0 11 0) 21 0 12 0) 23 0 _ = m1
  have hF1 : Fr [21, 23] mem m1 := by rw [← hm1]; exact ((((Fr.rf.mset (by simp)).mset (by simp)).mset (by simp)).mset (by simp)).mrow (by simp)
  have hS1 : Sk 21 22 0 0 z10 m1 := by
    refine ⟨?_, ?_, fun b hb => by rw [hF1 22 (by decide)]; exact hS.2.2 b hb⟩
    · rw [← hm1]; exact hS.1
    · rw [← hm1]; exact hS.2.1
  have h41 : R4 (1000000, 0, 0, 0) m1 := by rw [← hm1]; exact ⟨rfl, rfl, rfl, rfl, Nat.le_refl _, by decide, by decide, by decide⟩
  have e23 : ∀ b, b < 1024 → m1 23 0 b = 0 := fun b hb => by rw [← hm1, mrow_at, if_pos hb]
  clear hm1
  have toN : ∀ x : Int32, x = nI x.toBitVec.toNat := fun x => Int32.toBitVec_inj.mp (by rw [nI_bv]; simp)
  obtain ⟨k0, hk0, hR0⟩ : ∃ k0 : K21, k0.1 = (fun _ => 0) ∧ R21 k0 m1 := ⟨(fun _ => 0, fun b => (m1 24 0 b).toBitVec.toNat, fun b => (m1 25 0 b).toBitVec.toNat, fun b => (m1 26 0 b).toBitVec.toNat, fun i => m1 21 0 i), rfl, fun b hb => ⟨e23 b hb, toN _, toN _, toN _⟩, fun _ _ => rfl⟩
  have hGK := GK_ver (L := L) hW hWL hO hk0
  refine r_aload_0 (q := 30) dX6_findTwo_29 rfl ?_
  refine r_callU0v (M' := mX4_walkAll) (x := ⟨"PaperSetter$VersionSearch", "walkAll", "()V"⟩) (owner := "PaperSetter$Search") (r := (RX6, TX6, 13)) (q := 33) mk_X4_walkAll k_457 k_533 k_532 (Or.inl rfl) (by decide +kernel) k_531 rfl rfl rfl (Nat.le_of_ble_eq_true rfl) rm_xm dX6_findTwo_30 rfl (Call.lv (show (d + (16 - Us.length)) + Us.length + 4 = d + 20 by omega) (walkAll21_ok (κ := k0) hW hWL hO hX (hU.fr hF1 (by decide) (by decide) (by decide) (by decide) (by decide)) (hL.fr hF1 (by decide) (by decide) (by decide)) hS1 hR0 (fun m2 hF2 hS2 hR2 => ?_)))
  refine r_iconst (q := 34) 1 (by decide) dX6_findTwo_33 rfl ?_
  refine r_aload_0 (q := 35) dX6_findTwo_34 rfl ?_
  refine r_getR (k := 0) (q := 38) f_RX6_48_5 rfl rfl dX6_findTwo_35 rfl ?_
  refine r_getI (k := 4) (q := 41) f_RX6_52_4 rfl rfl dX6_findTwo_38 rfl ?_
  refine r_bipush (q := 43) 10 (by decide) dX6_findTwo_41 rfl ?_
  rw [show m2 9 0 4 = nI Us.length by rw [hF2 9 (by decide), hF1 9 (by decide)]; exact hU.1.1]
  refine r_mmin (q := 46) k_534 k_535 k_44 k_536 (Nat.le_of_ble_eq_true rfl) (by first | exact rm_xm | exact rm_0) dX6_findTwo_43 rfl ?_
  rw [if_neg (show ¬ (10 : Int32) < nI Us.length from fun z => by
    have := (nI_ltI (a := 10) (by decide) (by omega)).mp z
    omega)]
  refine r_ishl (q := 47) dX6_findTwo_46 rfl ?_
  rw [nb_shl1 _ (by omega)]
  refine r_iconst (q := 48) 1 (by decide) dX6_findTwo_47 rfl ?_
  refine r_isub (q := 49) dX6_findTwo_48 rfl ?_
  rw [show nI (2 ^ Us.length) - 1 = nI (2 ^ Us.length - 1) from pk_sub (b := 1) (by omega)]
  refine r_istore_2 (q := 50) (by decide) dX6_findTwo_49 rfl ?_
  refine r_iconst (q := 51) 1 (by decide) dX6_findTwo_50 rfl ?_
  refine r_istore_3 (q := 52) (by decide) dX6_findTwo_51 rfl ?_
  have h42 : R4 (1000000, 0, 0, 0) m2 := by
    have hw := fun i hi => (hR2.2 i hi).trans ((verK_w _ _ _ _ i).trans (hR0.2 i hi).symm)
    exact ⟨(hw 9 (by decide)).trans h41.1, (hw 10 (by decide)).trans h41.2.1, (hw 11 (by decide)).trans h41.2.2.1, (hw 12 (by decide)).trans h41.2.2.2.1, h41.2.2.2.2⟩
  have hR2 : T21 (verK B L Us k0) m2 := hR2.1
  generalize hal : 2 ^ Us.length - 1 = al
  suffices H : ∀ (f n : Nat) (m : Mem), al - n < f → n ≤ al → FrV m2 m → R4 (allP (verK B L Us k0) D al n (1000000, 0, 0, 0)) m → Wp E (xm E (d + 21) mX6_findTwo Q) mX6_findTwo 52 [some (pR 21 0), some (pI (nI D)), some (pI (nI al)), some (pI (nI (n + 1)))] [] m from H (al + 1) 0 m2 (by omega) (by omega) FrV.rf h42
  intro f
  induction f with
  | zero => intro n m h; omega
  | succ f ih =>
    intro n m h1 h2 hF hR
    have hRm := hR2.frv hF
    refine r_iload_3 (q := 53) dX6_findTwo_52 rfl ?_
    refine r_iload_2 (q := 54) dX6_findTwo_53 rfl ?_
    refine r_icmp_gt (q := 57) 79 dX6_findTwo_54 (by decide) rfl (fun h54 => ?_) (fun h54 => ?_)
    · have h54 := (nI_ltI (by omega) (by omega)).mp h54
      have hn : n = al := by omega
      subst hn
      refine r_vret rfl dX6_findTwo_79 (?_)
      refine hQ m k0 hk0 (((hF1.mono (by decide)).tr hF2).tr (hF.1.mono (by decide))) ?_ (by unfold verR; rw [hal]; exact hR)
      refine ⟨?_, ?_, fun b hb => ?_⟩
      · rw [hF.2 3 (by decide) (by decide) (by decide) (by decide)]; exact hS2.1
      · rw [hF.2 4 (by decide) (by decide) (by decide) (by decide)]; exact hS2.2.1
      · rw [hF.1 22 (by decide)]; exact hS2.2.2 b hb
    · have h54 : n + 1 ≤ al := by
        rcases Nat.lt_or_ge al (n + 1) with z | z
        · exact absurd (nI_lt z (by omega)) h54
        · exact z
      have go : ∀ m', FrV m2 m' → R4 (allP (verK B L Us k0) D al (n + 1) (1000000, 0, 0, 0)) m' → Wp E (xm E (d + 21) mX6_findTwo Q) mX6_findTwo 73 [some (pR 21 0), some (pI (nI D)), some (pI (nI al)), some (pI (nI (n + 1)))] [] m' := by
        intro m' hF' hR'
        refine r_iinc_3 (q := 76) _ (nI_inc _) (by decide) dX6_findTwo_73 rfl ?_
        refine r_goto 52 dX6_findTwo_76 (by decide) ?_
        exact ih (n + 1) m' (by omega) (by omega) hF' hR'
      refine r_aload_0 (q := 58) dX6_findTwo_57 rfl ?_
      refine r_getR (k := 5) (q := 61) f_RX6_9_5 rfl rfl dX6_findTwo_58 rfl ?_
      refine r_iload_3 (q := 62) dX6_findTwo_61 rfl ?_
      refine r_iald (q := 63) _ rfl rfl (by first | omega | assumption | decide) dX6_findTwo_62 rfl ?_
      rw [(hRm (n + 1) (by omega)).1]
      refine r_if_eq (q := 66) 73 dX6_findTwo_63 (by decide) rfl (fun h63 => ?_) (fun h63 => ?_)
      · have h63 : (verK B L Us k0).1 (n + 1) = 0 := by
          rcases Nat.eq_zero_or_pos ((verK B L Us k0).1 (n + 1)) with z | z
          · exact z
          · have := hGK (n + 1) (by omega) (by omega)
            exact (nI_zero_iff (pw24 this.1)).mp h63
        refine go m hF ?_
        rw [allP]
        dsimp only
        rw [if_pos h63]
        exact hR
      · have h63 : ¬ (verK B L Us k0).1 (n + 1) = 0 := fun z => h63 (by rw [z]; rfl)
        refine r_aload_0 (q := 67) dX6_findTwo_66 rfl ?_
        refine r_iload_3 (q := 68) dX6_findTwo_67 rfl ?_
        refine r_iload_2 (q := 69) dX6_findTwo_68 rfl ?_
        refine r_iload_1 (q := 70) dX6_findTwo_69 rfl ?_
        refine r_callV3v (M' := mX6_pairWithOthers) (q := 73) mk_X6_pairWithOthers mi_X6_pairWithOthers k_537 rfl rfl rfl rfl (Nat.le_of_ble_eq_true rfl) rm_xm dX6_findTwo_70 rfl (pairWithOthers_ok hRm hGK hR (by omega) (by omega) hD (by omega) h63 (fun m' hF' hR' => ?_))
        refine go m' (hF.tr hF') ?_
        rw [allP]
        dsimp only
        rw [if_neg h63]
        exact hR'
/-- what versions tells, and the second one; k0: what lay in the search's rows before -/
def verV (B : BD) (L : LD) (x : Int32) (k0 : K21) : Int32 := if decide (0 ≤ x ∧ x ≤ 1000) && decide (handB B ≤ 10) then (if (verR B L (unitsB B) x.toNatClampNeg k0).2.2.1 = 0 then -2 else nI (verR B L (unitsB B) x.toNatClampNeg k0).2.2.1) else -1
def verS (S : AS) (x : Int32) (k0 : K21) : AS := if decide (0 ≤ x ∧ x ≤ 1000) && decide (handB S.1 ≤ 10) then (S.1, S.2.1, (verR S.1 S.2.1 (unitsB S.1) x.toNatClampNeg k0).2.2.2, S.2.2.2) else S
theorem versions_ok {x : Int32} (hC : Ck S mem) (hWF : WFS S) (hQ : ∀ (mem' : Mem) (k0 : K21), k0.1 = (fun _ => 0) → Fc mem mem' → Ck (verS S x k0) mem' → Q (verV S.1 S.2.1 x k0) mem') : Call E (d + 22) mX8_versions [pR 0 0, pI x] mem Q := by
  refine Call.of [some (pR 0 0), some (pI x)] mk_X8_versions rfl (Nat.le_of_ble_eq_true rfl) (fun _ => ?_)
  have hB := hC.1
  have h24 := hWF.1.1
  have hh : handB S.1 ≤ 24 := Nat.le_trans (cnt_le _ _) h24
  have fail : (decide (0 ≤ x ∧ x ≤ 1000) && decide (handB S.1 ≤ 10)) = false → Wp E (xm E (d + 22) mX8_versions Q) mX8_versions 23 [some (pR 0 0), some (pI x)] [] mem := by
    intro hf
    have hq := hQ mem (fun _ => 0, fun _ => 0, fun _ => 0, fun _ => 0, fun _ => 0) rfl Fc.rf (by unfold verS; rw [hf]; exact hC)
    unfold verV at hq
    rw [hf] at hq
    refine r_iconst (q := 24) (-1) (by decide) dX8_versions_23 rfl ?_
    refine r_iret rfl dX8_versions_24 (?_)
    exact hq
  refine r_iload_1 (q := 1) dX8_versions_0 rfl ?_
  refine r_iconst (q := 2) 0 (by decide) dX8_versions_1 rfl ?_
  refine r_sipush (q := 5) 1000 (by decide) dX8_versions_2 rfl ?_
  refine r_callS3i (M' := mX8_within) (q := 8) mk_X8_within ms_X8_within k_329 rfl (Nat.le_of_ble_eq_true rfl) rm_xm dX8_versions_5 rfl (within_ok ?_)
  refine r_if_eq (q := 11) 23 dX8_versions_8 (by decide) rfl (fun h8 => ?_) (fun h8 => ?_)
  · exact fail (by rw [b2_eq0.mp h8]; rfl)
  · have h8 := b2_ne0.mp h8
    refine r_aload_0 (q := 12) dX8_versions_11 rfl ?_
    refine r_getR (k := 0) (q := 15) f_RX8_12_7 rfl rfl dX8_versions_12 rfl ?_
    refine r_callV0i (M' := mX0_countAtHand) (q := 18) mk_X0_countAtHand mi_X0_countAtHand k_426 rfl rfl rfl rfl (Nat.le_of_ble_eq_true rfl) rm_xm dX8_versions_15 rfl (countAtHand_ok hB hWF.1 ?_)
    refine r_bipush (q := 20) 10 (by decide) dX8_versions_18 rfl ?_
    refine r_icmp_le (q := 23) 25 dX8_versions_20 (by decide) rfl (fun h20 => ?_) (fun h20 => ?_)
    · have h10 := nI_ge_of (b := 10) (by omega) (by decide) h20
      obtain ⟨D, -, hD, rfl⟩ := in_ab (a := 0) (b := 1000) (by decide) (by decide) h8
      unfold verS verV at hQ
      rw [h8, decide_eq_true h10, nI_clamp (by omega)] at hQ
      have hO := units_ok hWF.1 (show handB S.1 ≤ 16 by omega)
      have hX : (unitsB S.1).length ≤ 10 := Nat.le_trans (unitsT_hand S.1 (Nat.le_refl _)) h10
      refine r_aload_0 (q := 26) dX8_versions_25 rfl ?_
      refine r_getR (k := 2) (q := 29) f_RX8_26_7 rfl rfl dX8_versions_26 rfl ?_
      refine r_aload_0 (q := 30) dX8_versions_29 rfl ?_
      refine r_getR (k := 0) (q := 33) f_RX8_12_7 rfl rfl dX8_versions_30 rfl ?_
      refine r_callV1v (M' := mX5_splitBank) (q := 36) mk_X5_splitBank mi_X5_splitBank k_430 rfl rfl rfl rfl (Nat.le_of_ble_eq_true rfl) rm_xm dX8_versions_33 rfl (splitBank_ok hB hWF.1 (by omega) (fun m1 hF1 hU1 => ?_))
      refine r_aload_0 (q := 37) dX8_versions_36 rfl ?_
      refine r_getR (k := 5) (q := 40) f_RX8_49_7 rfl rfl dX8_versions_37 rfl ?_
      refine r_iload_1 (q := 41) dX8_versions_40 rfl ?_
      refine r_callV1v (M' := mX6_findTwo) (q := 44) mk_X6_findTwo mi_X6_findTwo k_526 rfl rfl rfl rfl (Nat.le_of_ble_eq_true rfl) rm_xm dX8_versions_41 rfl (findTwo_ok hWF.1 hWF.2.1 hO hX hD hU1 (hC.2.1.fr hF1 (by decide) (by decide) (by decide)) (hC.2.2.2.1.2.2.fr hF1 (by decide) (by decide)) (fun m2 k0 hk0 hF2 hS2 hR2 => ?_))
      refine r_aload_0 (q := 45) dX8_versions_44 rfl ?_
      refine r_aload_0 (q := 46) dX8_versions_45 rfl ?_
      refine r_getR (k := 5) (q := 49) f_RX8_49_7 rfl rfl dX8_versions_46 rfl ?_
      have hq := hQ (mset m2 0 0 8 (nI (verR S.1 S.2.1 (unitsB S.1) D k0).2.2.2)) k0 hk0
      generalize verR S.1 S.2.1 (unitsB S.1) D k0 = r at hR2 hq
      have hF : Fr (fr16 ++ (fr18 ++ (fr21 ++ [9, 10, 11, 13, 15, 35]))) mem m2 := (hF1.mono (by decide)).tr (hF2.mono (by decide))
      have hF' : Fr (fr21 ++ [9, 10, 11, 13, 15]) mem m2 := (hF1.mono (by decide)).tr (hF2.mono (by decide))
      have hC2 : Ck S m2 := hC.frB hF (hC.2.2.2.1.1.fr hF' (by decide) (by decide)) (hC.2.2.2.1.2.1.fr hF' (by decide) (by decide)) hS2
      have hq := hq ((Fc.fr Fc.rf hF (by decide)).mset (by decide)) (by
        obtain ⟨c1, c2, c3, c4, c5⟩ := hC2
        exact ⟨c1, c2, rfl, c4, c5⟩)
      refine r_getI (k := 12) (q := 52) f_RX8_150_5 rfl rfl dX8_versions_49 rfl ?_
      rw [hR2.2.2.2.1]
      refine r_put (k := 8) (q := 55) f_RX8_64_7 pf_7_8 rfl rfl dX8_versions_52 rfl ?_
      refine r_aload_0 (q := 56) dX8_versions_55 rfl ?_
      refine r_getR (k := 5) (q := 59) f_RX8_49_7 rfl rfl dX8_versions_56 rfl ?_
      refine r_getI (k := 11) (q := 62) f_RX8_153_5 rfl rfl dX8_versions_59 rfl ?_
      rw [show mset m2 0 0 8 (nI r.2.2.2) 21 0 11 = nI r.2.2.1 from hR2.2.2.1]
      have hr := hR2.2.2.2.2.2.2.1
      refine r_if_ne (q := 65) 70 dX8_versions_62 (by decide) rfl (fun h62 => ?_) (fun h62 => ?_)
      · have h62 : ¬ r.2.2.1 = 0 := fun z => h62 (by rw [z]; rfl)
        rw [if_neg h62] at hq
        refine r_aload_0 (q := 71) dX8_versions_70 rfl ?_
        refine r_getR (k := 5) (q := 74) f_RX8_49_7 rfl rfl dX8_versions_71 rfl ?_
        refine r_getI (k := 11) (q := 77) f_RX8_153_5 rfl rfl dX8_versions_74 rfl ?_
        rw [show mset m2 0 0 8 (nI r.2.2.2) 21 0 11 = nI r.2.2.1 from hR2.2.2.1]
        refine r_iret rfl dX8_versions_77 (?_)
        exact hq
      · have h62 : r.2.2.1 = 0 := (nI_zero_iff (pw24 hr)).mp h62
        rw [if_pos h62] at hq
        refine r_bipush (q := 67) (-2) (by decide) dX8_versions_65 rfl ?_
        refine r_goto 77 dX8_versions_67 (by decide) ?_
        refine r_iret rfl dX8_versions_77 (?_)
        exact hq
    · have h10 : ¬ handB S.1 ≤ 10 := fun z => h20 (nI_le z (by decide))
      exact fail (by rw [decide_eq_false h10, Bool.and_false])
end V2
