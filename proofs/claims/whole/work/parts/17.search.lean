/-! THE CLASS: the three searches' own methods -/
theorem spreadB_le {L : LD} (hWL : WFL L) {S Mo : Nat → Nat} {c : Nat} (hS : ∀ i, i < 10 → S i ≤ c) : spreadB L S Mo ≤ 4 * (c + 1000) := by
  refine sumf_le 4 (fun t ht => ?_)
  have h1 := hS (3 + t) (by omega)
  have h2 := hWL t
  unfold farB
  omega
theorem brokenB_lt (L : LD) (S Mo : Nat → Nat) : brokenB L S Mo < 2 ^ 10 := bset_lt _ _
def noMo : Nat → Nat := fun _ => 0
theorem rd_sums {g gs set tk : Nat} {S : Nat → Nat} {mem : Mem} (hS : Sk g gs set tk S mem) (hg : garr gs = some (false, 10)) : rdA mem gs 0 10 (fun i => nI (S i)) := Or.inl ⟨hg, hS.2.2⟩
theorem rd_from {B : BD} {Us : List Nat} {mem : Mem} (hU : Uk B Us mem) {dp : Nat} (hdp : dp ≤ Us.length) : rdA mem 15 dp 10 (fun i => nI (sumFrom B (Us.drop dp) i)) := Or.inl ⟨rfl, hU.2 dp hdp⟩
theorem rd_no {mem : Mem} : rdA mem 99 0 10 (fun i => nI (noMo i)) := Or.inr ⟨rfl, rfl, rfl, fun _ _ => rfl⟩
theorem drop_le {B : BD} (hW : WFB B) {Us : List Nat} (hO : UsOK Us) (dp : Nat) : ∀ i, i < 10 → sumFrom B (Us.drop dp) i ≤ 100000 := by
  intro i _
  have h1 := sumFrom_le hW i (Us.drop dp)
  have h2 := hO.1
  rw [List.length_drop] at h1
  have : (Us.length - dp) * 1440 ≤ 16 * 1440 := Nat.mul_le_mul_right _ (by omega)
  omega
theorem sums_le {B : BD} (hW : WFB B) (set : Nat) : ∀ i, i < 10 → sumN B set i ≤ 100000 := fun i _ => Nat.le_trans (sumN_le hW set i) (by decide)
/-! the best -/
abbrev K16 : Type := Option Nat × Nat × Nat
def bsv (o : Option Nat) : Int32 := match o with
  | none => -2
  | some s => nI s
def R16 (k : K16) (mem : Mem) : Prop := mem 16 0 5 = bsv k.1 ∧ mem 16 0 6 = nI k.2.1 ∧ mem 16 0 7 = nI k.2.2 ∧ k.2.1 ≤ 1000000 ∧ k.2.2 ≤ 100000
def hop16 (B : BD) (L : LD) (sf : List Nat) (set : Nat) (k : K16) : Bool := decide (¬ brokenB L (sumN B set) (sumFrom B sf) = 0) || (decide (k.2.1 < spreadB L (sumN B set) (sumFrom B sf)) || (decide (spreadB L (sumN B set) (sumFrom B sf) = k.2.1) && decide (k.2.2 ≤ sumN B set 0)))
def mt16 (B : BD) (L : LD) (set _tk : Nat) (_ : K16) : K16 := (some set, spreadB L (sumN B set) noMo, sumN B set 0)
def X16 (_ : List Nat) : Prop := True
def fr16 : List Nat := [16, 17]
/-! why -/
abbrev K18 : Type := Nat → Bool
def keepB (B : BD) (L : LD) (sf : List Nat) (set : Nat) : Nat := andn 1023 (brokenB L (sumN B set) (sumFrom B sf))
def R18 (k : K18) (mem : Mem) : Prop := ∀ b, b < 1024 → mem 20 0 b = b2 (k b)
def hop18 (B : BD) (L : LD) (sf : List Nat) (set : Nat) (k : K18) : Bool := k (keepB B L sf set)
def mt18 (B : BD) (L : LD) (set _tk : Nat) (k : K18) : K18 := fun b => k b || decide (andn b (keepB B L [] set) = 0)
def X18 (_ : List Nat) : Prop := True
def fr18 : List Nat := [18, 19, 20]
/-! two versions -/
abbrev K21 : Type := (Nat → Nat) × (Nat → Nat) × (Nat → Nat) × (Nat → Nat) × (Nat → Int32)
def updN (f : Nat → Nat) (k v : Nat) : Nat → Nat := fun j => if j = k then v else f j
def T21 (k : K21) (mem : Mem) : Prop := ∀ b, b < 1024 → mem 23 0 b = nI (k.1 b) ∧ mem 24 0 b = nI (k.2.1 b) ∧ mem 25 0 b = nI (k.2.2.1 b) ∧ mem 26 0 b = nI (k.2.2.2.1 b)
/-- the tables, and what the walk leaves alone -/
def R21 (k : K21) (mem : Mem) : Prop := T21 k mem ∧ ∀ i, 9 ≤ i → mem 21 0 i = k.2.2.2.2 i
def hop21 (B : BD) (L : LD) (sf : List Nat) (set : Nat) (_ : K21) : Bool := decide (¬ brokenB L (sumN B set) (sumFrom B sf) = 0)
def mt21 (B : BD) (L : LD) (set tk : Nat) (k : K21) : K21 := (updN k.1 tk set, updN k.2.1 tk (sumN B set 1), updN k.2.2.1 tk (sumN B set 2), updN k.2.2.2.1 tk (spreadB L (sumN B set) noMo), k.2.2.2.2)
def X21 (Us : List Nat) : Prop := Us.length ≤ 10
def fr21 : List Nat := [21, 22, 23, 24, 25, 26]
section SR
variable {E : En} {d : Nat} {mem : Mem} {Q : Int32 → Mem → Prop} {B : BD} {L : LD} {Us : List Nat} {dp set tk : Nat}
theorem isHopeless16_ok {k : K16} (hW : WFB B) (hWL : WFL L) (hO : UsOK Us) (hX : X16 Us) (hU : Uk B Us mem) (hL : Lk L mem) (hdp : dp ≤ Us.length) (hS : Sk 16 17 set tk (sumN B set) mem) (hR : R16 k mem) (hQ : Q (b2 (hop16 B L (Us.drop dp) set k)) mem) : Call E (d + 2) mX1_isHopeless [pR 16 0, pI (nI dp)] mem Q := by
  refine Call.of [some (pR 16 0), some (pI (nI dp)), none] mk_X1_isHopeless rfl (Nat.le_of_ble_eq_true rfl) (fun _ => ?_)
  have hl := hO.1
  have hbl := brokenB_lt L (sumN B set) (sumFrom B (Us.drop dp))
  have hsl := spreadB_le hWL (S := sumN B set) (Mo := sumFrom B (Us.drop dp)) (c := 1440) (fun i _ => sumN_le hW set i)
  have h0 := sumN_le hW set 0
  have k1 := hR.2.2.2.1
  have k2 := hR.2.2.2.2
  refine r_aload_0 (q := 1) dX1_isHopeless_0 rfl ?_
  refine r_getR (k := 1) (q := 4) f_RX1_26_1 rfl rfl dX1_isHopeless_1 rfl ?_
  refine r_aload_0 (q := 5) dX1_isHopeless_4 rfl ?_
  refine r_getR (k := 2) (q := 8) f_RX1_30_1 rfl rfl dX1_isHopeless_5 rfl ?_
  refine r_aload_0 (q := 9) dX1_isHopeless_8 rfl ?_
  refine r_getR (k := 0) (q := 12) f_RX1_34_1 rfl rfl dX1_isHopeless_9 rfl ?_
  refine r_getR (k := 3) (q := 15) f_RX1_38_4 rfl rfl dX1_isHopeless_12 rfl ?_
  refine r_iload_1 (q := 16) dX1_isHopeless_15 rfl ?_
  refine r_aald (q := 17) _ rfl rfl (by first | omega | assumption | decide) dX1_isHopeless_16 rfl ?_
  refine r_callV2i (M' := mX2_surelyBroken) (q := 20) mk_X2_surelyBroken mi_X2_surelyBroken k_468 rfl rfl rfl rfl (Nat.le_of_ble_eq_true rfl) rm_xm dX1_isHopeless_17 rfl (surelyBroken_ok hL hWL (rd_sums hS rfl) (rd_from hU hdp) (sums_le hW set) (drop_le hW hO dp) ?_)
  refine r_if_eq (q := 23) 25 dX1_isHopeless_20 (by decide) rfl (fun h20 => ?_) (fun h20 => ?_)
  · have h20 := (nI_zero_iff (by omega)).mp h20
    refine r_aload_0 (q := 26) dX1_isHopeless_25 rfl ?_
    refine r_getR (k := 1) (q := 29) f_RX1_26_1 rfl rfl dX1_isHopeless_26 rfl ?_
    refine r_aload_0 (q := 30) dX1_isHopeless_29 rfl ?_
    refine r_getR (k := 2) (q := 33) f_RX1_30_1 rfl rfl dX1_isHopeless_30 rfl ?_
    refine r_aload_0 (q := 34) dX1_isHopeless_33 rfl ?_
    refine r_getR (k := 0) (q := 37) f_RX1_34_1 rfl rfl dX1_isHopeless_34 rfl ?_
    refine r_getR (k := 3) (q := 40) f_RX1_38_4 rfl rfl dX1_isHopeless_37 rfl ?_
    refine r_iload_1 (q := 41) dX1_isHopeless_40 rfl ?_
    refine r_aald (q := 42) _ rfl rfl (by first | omega | assumption | decide) dX1_isHopeless_41 rfl ?_
    refine r_callV2i (M' := mX2_leastSpread) (q := 45) mk_X2_leastSpread mi_X2_leastSpread k_469 rfl rfl rfl rfl (Nat.le_of_ble_eq_true rfl) rm_xm dX1_isHopeless_42 rfl (leastSpread_ok hL hWL (rd_sums hS rfl) (rd_from hU hdp) (sums_le hW set) (drop_le hW hO dp) ?_)
    refine r_istore_2 (q := 46) (by decide) dX1_isHopeless_45 rfl ?_
    refine r_iload_2 (q := 47) dX1_isHopeless_46 rfl ?_
    refine r_aload_0 (q := 48) dX1_isHopeless_47 rfl ?_
    refine r_getI (k := 6) (q := 51) f_RX1_16_1 rfl rfl dX1_isHopeless_48 rfl ?_
    rw [hR.2.1]
    refine r_icmp_gt (q := 54) 75 dX1_isHopeless_51 (by decide) rfl (fun h51 => ?_) (fun h51 => ?_)
    · have h51 := (nI_ltI (by omega) (by omega)).mp h51
      refine r_iconst (q := 76) 1 (by decide) dX1_isHopeless_75 rfl ?_
      refine r_goto 80 dX1_isHopeless_76 (by decide) ?_
      refine r_zret (by first | exact Or.inl rfl | exact Or.inr rfl | assumption) rfl dX1_isHopeless_80 (?_)
      rw [show hop16 B L (Us.drop dp) set k = true by simp [hop16, h51]] at hQ
      exact hQ
    · have h51 : ¬ k.2.1 < spreadB L (sumN B set) (sumFrom B (Us.drop dp)) := fun z => h51 (nI_lt z (by omega))
      refine r_iload_2 (q := 55) dX1_isHopeless_54 rfl ?_
      refine r_aload_0 (q := 56) dX1_isHopeless_55 rfl ?_
      refine r_getI (k := 6) (q := 59) f_RX1_16_1 rfl rfl dX1_isHopeless_56 rfl ?_
      rw [hR.2.1]
      refine r_icmp_ne (q := 62) 79 dX1_isHopeless_59 (by decide) rfl (fun h59 => ?_) (fun h59 => ?_)
      · have h59 : ¬ spreadB L (sumN B set) (sumFrom B (Us.drop dp)) = k.2.1 := fun z => h59 (by rw [z])
        refine r_iconst (q := 80) 0 (by decide) dX1_isHopeless_79 rfl ?_
        refine r_zret (by first | exact Or.inl rfl | exact Or.inr rfl | assumption) rfl dX1_isHopeless_80 (?_)
        rw [show hop16 B L (Us.drop dp) set k = false by simp [hop16, h20, h51, h59]] at hQ
        exact hQ
      · have h59 : spreadB L (sumN B set) (sumFrom B (Us.drop dp)) = k.2.1 := nI_inj (by omega) (by omega) h59
        refine r_aload_0 (q := 63) dX1_isHopeless_62 rfl ?_
        refine r_getR (k := 2) (q := 66) f_RX1_30_1 rfl rfl dX1_isHopeless_63 rfl ?_
        refine r_iconst (q := 67) 0 (by decide) dX1_isHopeless_66 rfl ?_
        refine r_iald (q := 68) _ rfl rfl (by first | omega | assumption | decide) dX1_isHopeless_67 rfl ?_
        refine r_aload_0 (q := 69) dX1_isHopeless_68 rfl ?_
        refine r_getI (k := 7) (q := 72) f_RX1_19_1 rfl rfl dX1_isHopeless_69 rfl ?_
        rw [hS.2.2 0 (by decide), hR.2.2.1]
        refine r_icmp_lt (q := 75) 79 dX1_isHopeless_72 (by decide) rfl (fun h72 => ?_) (fun h72 => ?_)
        · have h72 := (nI_ltI (by omega) (by omega)).mp h72
          refine r_iconst (q := 80) 0 (by decide) dX1_isHopeless_79 rfl ?_
          refine r_zret (by first | exact Or.inl rfl | exact Or.inr rfl | assumption) rfl dX1_isHopeless_80 (?_)
          rw [show hop16 B L (Us.drop dp) set k = false by simp [hop16, h20, h51, h72]] at hQ
          exact hQ
        · have h72 : k.2.2 ≤ sumN B set 0 := by
            rcases Nat.lt_or_ge (sumN B set 0) k.2.2 with z | z
            · exact absurd (nI_lt z (by omega)) h72
            · exact z
          refine r_iconst (q := 76) 1 (by decide) dX1_isHopeless_75 rfl ?_
          refine r_goto 80 dX1_isHopeless_76 (by decide) ?_
          refine r_zret (by first | exact Or.inl rfl | exact Or.inr rfl | assumption) rfl dX1_isHopeless_80 (?_)
          rw [show hop16 B L (Us.drop dp) set k = true by simp [hop16, h59, h72]] at hQ
          exact hQ
  · have h20 : ¬ brokenB L (sumN B set) (sumFrom B (Us.drop dp)) = 0 := fun z => h20 (by rw [z]; rfl)
    refine r_iconst (q := 24) 1 (by decide) dX1_isHopeless_23 rfl ?_
    refine r_zret (by first | exact Or.inl rfl | exact Or.inr rfl | assumption) rfl dX1_isHopeless_24 (?_)
    rw [show hop16 B L (Us.drop dp) set k = true by simp [hop16, h20]] at hQ
    exact hQ
theorem meet16_ok {k : K16} (hW : WFB B) (hWL : WFL L) (hO : UsOK Us) (hX : X16 Us) (hU : Uk B Us mem) (hL : Lk L mem) (htk : tk < 2 ^ Us.length) (hset : set < 2 ^ 24) (hS : Sk 16 17 set tk (sumN B set) mem) (hR : R16 k mem) (hQ : ∀ mem', Fr fr16 mem mem' → Sk 16 17 set tk (sumN B set) mem' → R16 (mt16 B L set tk k) mem' → Q 0 mem') : Call E (d + 2) mX1_meet [pR 16 0] mem Q := by
  refine Call.of [some (pR 16 0)] mk_X1_meet rfl (Nat.le_of_ble_eq_true rfl) (fun _ => ?_)
  have hsl := spreadB_le hWL (S := sumN B set) (Mo := noMo) (c := 1440) (fun i _ => sumN_le hW set i)
  have h0 := sumN_le hW set 0
  refine r_aload_0 (q := 1) dX1_meet_0 rfl ?_
  refine r_aload_0 (q := 2) dX1_meet_1 rfl ?_
  refine r_getI (k := 3) (q := 5) f_RX1_53_1 rfl rfl dX1_meet_2 rfl ?_
  rw [hS.1]
  refine r_put (k := 5) (q := 8) f_RX1_9_1 pf_1_5 rfl rfl dX1_meet_5 rfl ?_
  have hS1 : Sk 16 17 set tk (sumN B set) (mset mem 16 0 5 (nI set)) := hS
  have hL1 : Lk L (mset mem 16 0 5 (nI set)) := hL.mset (by decide) (by decide) (by decide)
  refine r_aload_0 (q := 9) dX1_meet_8 rfl ?_
  refine r_aload_0 (q := 10) dX1_meet_9 rfl ?_
  refine r_getR (k := 1) (q := 13) f_RX1_26_1 rfl rfl dX1_meet_10 rfl ?_
  refine r_aload_0 (q := 14) dX1_meet_13 rfl ?_
  refine r_getR (k := 2) (q := 17) f_RX1_30_1 rfl rfl dX1_meet_14 rfl ?_
  refine r_getsN (q := 20) (by decide +kernel) dX1_meet_17 rfl ?_
  refine r_callV2i (M' := mX2_leastSpread) (q := 23) mk_X2_leastSpread mi_X2_leastSpread k_469 rfl rfl rfl rfl (Nat.le_of_ble_eq_true rfl) rm_xm dX1_meet_20 rfl (leastSpread_ok hL1 hWL (rd_sums hS1 rfl) rd_no (sums_le hW set) (fun _ _ => Nat.zero_le _) ?_)
  refine r_put (k := 6) (q := 26) f_RX1_16_1 pf_1_6 rfl rfl dX1_meet_23 rfl ?_
  refine r_aload_0 (q := 27) dX1_meet_26 rfl ?_
  refine r_aload_0 (q := 28) dX1_meet_27 rfl ?_
  refine r_getR (k := 2) (q := 31) f_RX1_30_1 rfl rfl dX1_meet_28 rfl ?_
  refine r_iconst (q := 32) 0 (by decide) dX1_meet_31 rfl ?_
  refine r_iald (q := 33) _ rfl rfl (by first | omega | assumption | decide) dX1_meet_32 rfl ?_
  rw [show mset (mset mem 16 0 5 (nI set)) 16 0 6 (nI (spreadB L (sumN B set) noMo)) 17 0 0 = nI (sumN B set 0) from hS.2.2 0 (by decide)]
  refine r_put (k := 7) (q := 36) f_RX1_19_1 pf_1_7 rfl rfl dX1_meet_33 rfl ?_
  refine r_vret rfl dX1_meet_36 (?_)
  exact hQ _ (((Fr.rf.mset (by decide)).mset (by decide)).mset (by decide)) hS ⟨rfl, rfl, rfl, by show spreadB L (sumN B set) noMo ≤ _; omega, by show sumN B set 0 ≤ _; omega⟩
theorem keepable_ok {k : K18} (hW : WFB B) (hWL : WFL L) (hO : UsOK Us) (hU : Uk B Us mem) (hL : Lk L mem) (hdp : dp ≤ Us.length) (hS : Sk 18 19 set tk (sumN B set) mem) (hQ : Q (nI (keepB B L (Us.drop dp) set)) mem) : Call E (d + 1) mX7_keepable [pR 18 0, pI (nI dp)] mem Q := by
  refine Call.of [some (pR 18 0), some (pI (nI dp))] mk_X7_keepable rfl (Nat.le_of_ble_eq_true rfl) (fun _ => ?_)
  have hl := hO.1
  refine r_sipush (q := 3) 1023 (by decide) dX7_keepable_0 rfl ?_
  refine r_aload_0 (q := 4) dX7_keepable_3 rfl ?_
  refine r_getR (k := 1) (q := 7) f_RX7_38_6 rfl rfl dX7_keepable_4 rfl ?_
  refine r_aload_0 (q := 8) dX7_keepable_7 rfl ?_
  refine r_getR (k := 2) (q := 11) f_RX7_42_6 rfl rfl dX7_keepable_8 rfl ?_
  refine r_aload_0 (q := 12) dX7_keepable_11 rfl ?_
  refine r_getR (k := 0) (q := 15) f_RX7_28_6 rfl rfl dX7_keepable_12 rfl ?_
  refine r_getR (k := 3) (q := 18) f_RX7_46_4 rfl rfl dX7_keepable_15 rfl ?_
  refine r_iload_1 (q := 19) dX7_keepable_18 rfl ?_
  refine r_aald (q := 20) _ rfl rfl (by first | omega | assumption | decide) dX7_keepable_19 rfl ?_
  refine r_callV2i (M' := mX2_surelyBroken) (q := 23) mk_X2_surelyBroken mi_X2_surelyBroken k_481 rfl rfl rfl rfl (Nat.le_of_ble_eq_true rfl) rm_xm dX7_keepable_20 rfl (surelyBroken_ok hL hWL (rd_sums hS rfl) (rd_from hU hdp) (sums_le hW set) (drop_le hW hO dp) ?_)
  refine r_iconst (q := 24) (-1) (by decide) dX7_keepable_23 rfl ?_
  refine r_ixor (q := 25) dX7_keepable_24 rfl ?_
  refine r_iand (q := 26) dX7_keepable_25 rfl ?_
  rw [show (1023 : Int32) = nI 1023 from rfl, nb_andn]
  refine r_iret rfl dX7_keepable_26 (?_)
  exact hQ
theorem keepB_lt (sf : List Nat) : keepB B L sf set < 2 ^ 10 := andn_lt (by decide)
theorem isHopeless18_ok {k : K18} (hW : WFB B) (hWL : WFL L) (hO : UsOK Us) (hX : X18 Us) (hU : Uk B Us mem) (hL : Lk L mem) (hdp : dp ≤ Us.length) (hS : Sk 18 19 set tk (sumN B set) mem) (hR : R18 k mem) (hQ : Q (b2 (hop18 B L (Us.drop dp) set k)) mem) : Call E (d + 2) mX7_isHopeless [pR 18 0, pI (nI dp)] mem Q := by
  refine Call.of [some (pR 18 0), some (pI (nI dp))] mk_X7_isHopeless rfl (Nat.le_of_ble_eq_true rfl) (fun _ => ?_)
  have hk := keepB_lt (B := B) (L := L) (set := set) (Us.drop dp)
  refine r_aload_0 (q := 1) dX7_isHopeless_0 rfl ?_
  refine r_getR (k := 5) (q := 4) f_RX7_9_6 rfl rfl dX7_isHopeless_1 rfl ?_
  refine r_aload_0 (q := 5) dX7_isHopeless_4 rfl ?_
  refine r_iload_1 (q := 6) dX7_isHopeless_5 rfl ?_
  refine r_callV1i (M' := mX7_keepable) (q := 9) mk_X7_keepable mi_X7_keepable k_477 rfl rfl rfl rfl (Nat.le_of_ble_eq_true rfl) rm_xm dX7_isHopeless_6 rfl (keepable_ok (k := k) hW hWL hO hU hL hdp hS ?_)
  refine r_zald (q := 10) _ rfl rfl (by first | omega | assumption | decide) dX7_isHopeless_9 rfl ?_
  rw [hR _ hk]
  refine r_zret (b2_01 _) rfl dX7_isHopeless_10 (hQ)
theorem meet18_ok {k : K18} (hW : WFB B) (hWL : WFL L) (hO : UsOK Us) (hX : X18 Us) (hU : Uk B Us mem) (hL : Lk L mem) (htk : tk < 2 ^ Us.length) (hset : set < 2 ^ 24) (hS : Sk 18 19 set tk (sumN B set) mem) (hR : R18 k mem) (hQ : ∀ mem', Fr fr18 mem mem' → Sk 18 19 set tk (sumN B set) mem' → R18 (mt18 B L set tk k) mem' → Q 0 mem') : Call E (d + 2) mX7_meet [pR 18 0] mem Q := by
  refine Call.of [some (pR 18 0), none, none] mk_X7_meet rfl (Nat.le_of_ble_eq_true rfl) (fun _ => ?_)
  have hl := hO.1
  have hk := keepB_lt (B := B) (L := L) (set := set) []
  refine r_aload_0 (q := 1) dX7_meet_0 rfl ?_
  refine r_aload_0 (q := 2) dX7_meet_1 rfl ?_
  refine r_getR (k := 0) (q := 5) f_RX7_28_6 rfl rfl dX7_meet_2 rfl ?_
  refine r_getI (k := 4) (q := 8) f_RX7_32_4 rfl rfl dX7_meet_5 rfl ?_
  rw [hU.1.1]
  refine r_callV1i (M' := mX7_keepable) (q := 11) mk_X7_keepable mi_X7_keepable k_477 rfl rfl rfl rfl (Nat.le_of_ble_eq_true rfl) rm_xm dX7_meet_8 rfl (keepable_ok (k := k) hW hWL hO hU hL (Nat.le_refl _) hS ?_)
  refine r_istore_1 (q := 12) (by decide) dX7_meet_11 rfl ?_
  refine r_iconst (q := 13) 0 (by decide) dX7_meet_12 rfl ?_
  refine r_istore_2 (q := 14) (by decide) dX7_meet_13 rfl ?_
  rw [List.drop_length]
  generalize hke : keepB B L [] set = ke
  rw [hke] at hk
  suffices H : ∀ (j b : Nat) (m : Mem), ke + 1 - b < j → b ≤ ke + 1 → Fr [20] mem m → (∀ i, i < 1024 → m 20 0 i = b2 (k i || (decide (i < b) && decide (andn i ke = 0)))) → Wp E (xm E (d + 2) mX7_meet Q) mX7_meet 14 [some (pR 18 0), some (pI (nI ke)), some (pI (nI b))] [] m from H (ke + 2) 0 mem (by omega) (by omega) Fr.rf (fun i hi => by rw [hR i hi]; simp)
  intro j
  induction j with
  | zero => intro b m h; omega
  | succ j ih =>
    intro b m h1 h2 hF hR
    refine r_iload_2 (q := 15) dX7_meet_14 rfl ?_
    refine r_iload_1 (q := 16) dX7_meet_15 rfl ?_
    refine r_icmp_gt (q := 19) 40 dX7_meet_16 (by decide) rfl (fun h16 => ?_) (fun h16 => ?_)
    · have hb := (nI_ltI (by omega) (by omega)).mp h16
      have hb : b = ke + 1 := by omega
      subst hb
      refine r_vret rfl dX7_meet_40 (?_)
      refine hQ m (hF.mono (by decide)) ?_ ?_
      · unfold Sk; rw [hF 18 (by decide), hF 19 (by decide)]; exact hS
      · intro i hi
        rw [hR i hi]
        unfold mt18
        rw [hke]
        congr 2
        by_cases e : andn i ke = 0
        · have hle : i ≤ ke := by
            have : i = i &&& ke := by
              apply tb_ext
              intro x
              rw [Nat.testBit_and]
              have := andn_zero_iff.mp e x
              cases h1 : i.testBit x <;> simp_all
            rw [this]; exact Nat.and_le_right
          simp [e]; omega
        · simp [e]
    · have hb : b ≤ ke := by
        rcases Nat.lt_or_ge ke b with z | z
        · exact absurd (nI_lt z (by omega)) h16
        · exact z
      refine r_iload_2 (q := 20) dX7_meet_19 rfl ?_
      refine r_iload_1 (q := 21) dX7_meet_20 rfl ?_
      refine r_iconst (q := 22) (-1) (by decide) dX7_meet_21 rfl ?_
      refine r_ixor (q := 23) dX7_meet_22 rfl ?_
      refine r_iand (q := 24) dX7_meet_23 rfl ?_
      rw [nb_andn]
      have hbl : b < 2 ^ 10 := by omega
      refine r_if_ne (q := 27) 34 dX7_meet_24 (by decide) rfl (fun h24 => ?_) (fun h24 => ?_)
      · have h24 : ¬ andn b ke = 0 := fun z => h24 (by rw [z]; rfl)
        refine r_iinc_2 (q := 37) _ (nI_inc _) (by decide) dX7_meet_34 rfl ?_
        refine r_goto 14 dX7_meet_37 (by decide) ?_
        refine ih (b + 1) m (by omega) (by omega) hF (fun i hi => ?_)
        rw [hR i hi]
        congr 2
        by_cases e : i = b
        · subst e; simp [h24]
        · rw [show decide (i < b + 1) = decide (i < b) from decide_eq_decide.mpr (by omega)]
      · have h24 : andn b ke = 0 := (nI_zero_iff (Nat.lt_trans (andn_lt hbl) (by decide))).mp h24
        refine r_aload_0 (q := 28) dX7_meet_27 rfl ?_
        refine r_getR (k := 5) (q := 31) f_RX7_9_6 rfl rfl dX7_meet_28 rfl ?_
        refine r_iload_2 (q := 32) dX7_meet_31 rfl ?_
        refine r_iconst (q := 33) 1 (by decide) dX7_meet_32 rfl ?_
        refine r_zast (q := 34) _ rfl (by first | exact Or.inl rfl | exact Or.inr rfl | assumption) rfl (by first | omega | assumption | decide) dX7_meet_33 rfl ?_
        refine r_iinc_2 (q := 37) _ (nI_inc _) (by decide) dX7_meet_34 rfl ?_
        refine r_goto 14 dX7_meet_37 (by decide) ?_
        refine ih (b + 1) _ (by omega) (by omega) (hF.mset (by simp)) (fun i hi => ?_)
        rw [mset_self]
        unfold upd
        by_cases e : i = b
        · subst e; rw [if_pos rfl]; simp [h24, b2]
        · rw [if_neg e, hR i hi, show decide (i < b + 1) = decide (i < b) from decide_eq_decide.mpr (by omega)]
theorem isHopeless21_ok {k : K21} (hW : WFB B) (hWL : WFL L) (hO : UsOK Us) (hX : X21 Us) (hU : Uk B Us mem) (hL : Lk L mem) (hdp : dp ≤ Us.length) (hS : Sk 21 22 set tk (sumN B set) mem) (hR : R21 k mem) (hQ : Q (b2 (hop21 B L (Us.drop dp) set k)) mem) : Call E (d + 2) mX6_isHopeless [pR 21 0, pI (nI dp)] mem Q := by
  refine Call.of [some (pR 21 0), some (pI (nI dp))] mk_X6_isHopeless rfl (Nat.le_of_ble_eq_true rfl) (fun _ => ?_)
  have hl := hO.1
  have hx : Us.length ≤ 10 := hX
  have hbl := brokenB_lt L (sumN B set) (sumFrom B (Us.drop dp))
  refine r_iload_1 (q := 1) dX6_isHopeless_0 rfl ?_
  refine r_bipush (q := 3) 10 (by decide) dX6_isHopeless_1 rfl ?_
  refine r_icmp_gt (q := 6) 29 dX6_isHopeless_3 (by decide) rfl (fun h3 => ?_) (fun h3 => ?_)
  · have := (nI_ltI (a := 10) (b := dp) (by decide) (by omega)).mp h3
    omega
  · refine r_aload_0 (q := 7) dX6_isHopeless_6 rfl ?_
    refine r_getR (k := 1) (q := 10) f_RX6_67_5 rfl rfl dX6_isHopeless_7 rfl ?_
    refine r_aload_0 (q := 11) dX6_isHopeless_10 rfl ?_
    refine r_getR (k := 2) (q := 14) f_RX6_71_5 rfl rfl dX6_isHopeless_11 rfl ?_
    refine r_aload_0 (q := 15) dX6_isHopeless_14 rfl ?_
    refine r_getR (k := 0) (q := 18) f_RX6_48_5 rfl rfl dX6_isHopeless_15 rfl ?_
    refine r_getR (k := 3) (q := 21) f_RX6_74_4 rfl rfl dX6_isHopeless_18 rfl ?_
    refine r_iload_1 (q := 22) dX6_isHopeless_21 rfl ?_
    refine r_aald (q := 23) _ rfl rfl (by first | omega | assumption | decide) dX6_isHopeless_22 rfl ?_
    refine r_callV2i (M' := mX2_surelyBroken) (q := 26) mk_X2_surelyBroken mi_X2_surelyBroken k_473 rfl rfl rfl rfl (Nat.le_of_ble_eq_true rfl) rm_xm dX6_isHopeless_23 rfl (surelyBroken_ok hL hWL (rd_sums hS rfl) (rd_from hU hdp) (sums_le hW set) (drop_le hW hO dp) ?_)
    refine r_if_eq (q := 29) 33 dX6_isHopeless_26 (by decide) rfl (fun h26 => ?_) (fun h26 => ?_)
    · refine r_iconst (q := 34) 0 (by decide) dX6_isHopeless_33 rfl ?_
      refine r_zret (by first | exact Or.inl rfl | exact Or.inr rfl | assumption) rfl dX6_isHopeless_34 (?_)
      have h26 := (nI_zero_iff (by omega)).mp h26
      rw [show hop21 B L (Us.drop dp) set k = false by simp [hop21, h26]] at hQ
      exact hQ
    · refine r_iconst (q := 30) 1 (by decide) dX6_isHopeless_29 rfl ?_
      refine r_goto 34 dX6_isHopeless_30 (by decide) ?_
      refine r_zret (by first | exact Or.inl rfl | exact Or.inr rfl | assumption) rfl dX6_isHopeless_34 (?_)
      have h26 : ¬ brokenB L (sumN B set) (sumFrom B (Us.drop dp)) = 0 := fun z => h26 (by rw [z]; rfl)
      rw [show hop21 B L (Us.drop dp) set k = true by simp [hop21, h26]] at hQ
      exact hQ
theorem meet21_ok {k : K21} (hW : WFB B) (hWL : WFL L) (hO : UsOK Us) (hX : X21 Us) (hU : Uk B Us mem) (hL : Lk L mem) (htk : tk < 2 ^ Us.length) (hset : set < 2 ^ 24) (hS : Sk 21 22 set tk (sumN B set) mem) (hR : R21 k mem) (hQ : ∀ mem', Fr fr21 mem mem' → Sk 21 22 set tk (sumN B set) mem' → R21 (mt21 B L set tk k) mem' → Q 0 mem') : Call E (d + 2) mX6_meet [pR 21 0] mem Q := by
  refine Call.of [some (pR 21 0)] mk_X6_meet rfl (Nat.le_of_ble_eq_true rfl) (fun _ => ?_)
  have hx : Us.length ≤ 10 := hX
  have htk : tk < 1024 := Nat.lt_of_lt_of_le htk (Nat.pow_le_pow_right (n := 2) (by decide) hx)
  refine r_aload_0 (q := 1) dX6_meet_0 rfl ?_
  refine r_getR (k := 5) (q := 4) f_RX6_9_5 rfl rfl dX6_meet_1 rfl ?_
  refine r_aload_0 (q := 5) dX6_meet_4 rfl ?_
  refine r_getI (k := 4) (q := 8) f_RX6_84_5 rfl rfl dX6_meet_5 rfl ?_
  refine r_aload_0 (q := 9) dX6_meet_8 rfl ?_
  refine r_getI (k := 3) (q := 12) f_RX6_87_5 rfl rfl dX6_meet_9 rfl ?_
  rw [hS.2.1, hS.1]
  refine r_iast (q := 13) _ rfl rfl (by first | omega | assumption | decide) dX6_meet_12 rfl ?_
  refine r_aload_0 (q := 14) dX6_meet_13 rfl ?_
  refine r_getR (k := 6) (q := 17) f_RX6_15_5 rfl rfl dX6_meet_14 rfl ?_
  refine r_aload_0 (q := 18) dX6_meet_17 rfl ?_
  refine r_getI (k := 4) (q := 21) f_RX6_84_5 rfl rfl dX6_meet_18 rfl ?_
  refine r_aload_0 (q := 22) dX6_meet_21 rfl ?_
  refine r_getR (k := 2) (q := 25) f_RX6_71_5 rfl rfl dX6_meet_22 rfl ?_
  refine r_iconst (q := 26) 1 (by decide) dX6_meet_25 rfl ?_
  refine r_iald (q := 27) _ rfl rfl (by first | omega | assumption | decide) dX6_meet_26 rfl ?_
  rw [show mset mem 23 0 tk (nI set) 21 0 4 = nI tk from hS.2.1, show mset mem 23 0 tk (nI set) 22 0 1 = nI (sumN B set 1) from hS.2.2 1 (by decide)]
  refine r_iast (q := 28) _ rfl rfl (by first | omega | assumption | decide) dX6_meet_27 rfl ?_
  refine r_aload_0 (q := 29) dX6_meet_28 rfl ?_
  refine r_getR (k := 7) (q := 32) f_RX6_18_5 rfl rfl dX6_meet_29 rfl ?_
  refine r_aload_0 (q := 33) dX6_meet_32 rfl ?_
  refine r_getI (k := 4) (q := 36) f_RX6_84_5 rfl rfl dX6_meet_33 rfl ?_
  refine r_aload_0 (q := 37) dX6_meet_36 rfl ?_
  refine r_getR (k := 2) (q := 40) f_RX6_71_5 rfl rfl dX6_meet_37 rfl ?_
  refine r_iconst (q := 41) 2 (by decide) dX6_meet_40 rfl ?_
  refine r_iald (q := 42) _ rfl rfl (by first | omega | assumption | decide) dX6_meet_41 rfl ?_
  rw [show mset (mset mem 23 0 tk (nI set)) 24 0 tk (nI (sumN B set 1)) 21 0 4 = nI tk from hS.2.1, show mset (mset mem 23 0 tk (nI set)) 24 0 tk (nI (sumN B set 1)) 22 0 2 = nI (sumN B set 2) from hS.2.2 2 (by decide)]
  refine r_iast (q := 43) _ rfl rfl (by first | omega | assumption | decide) dX6_meet_42 rfl ?_
  refine r_aload_0 (q := 44) dX6_meet_43 rfl ?_
  refine r_getR (k := 8) (q := 47) f_RX6_21_5 rfl rfl dX6_meet_44 rfl ?_
  refine r_aload_0 (q := 48) dX6_meet_47 rfl ?_
  refine r_getI (k := 4) (q := 51) f_RX6_84_5 rfl rfl dX6_meet_48 rfl ?_
  generalize hm1 : mset (mset (mset mem 23 0 tk (nI set)) 24 0 tk (nI (sumN B set 1))) 25 0 tk (nI (sumN B set 2)) = m1
  have hF1 : Fr [23, 24, 25, 26] mem m1 := by rw [← hm1]; exact ((Fr.rf.mset (by decide)).mset (by decide)).mset (by decide)
  have hS1 : Sk 21 22 set tk (sumN B set) m1 := by unfold Sk; rw [hF1 21 (by decide), hF1 22 (by decide)]; exact hS
  rw [hS1.2.1]
  refine r_aload_0 (q := 52) dX6_meet_51 rfl ?_
  refine r_getR (k := 1) (q := 55) f_RX6_67_5 rfl rfl dX6_meet_52 rfl ?_
  refine r_aload_0 (q := 56) dX6_meet_55 rfl ?_
  refine r_getR (k := 2) (q := 59) f_RX6_71_5 rfl rfl dX6_meet_56 rfl ?_
  refine r_getsN (q := 62) (by decide +kernel) dX6_meet_59 rfl ?_
  refine r_callV2i (M' := mX2_leastSpread) (q := 65) mk_X2_leastSpread mi_X2_leastSpread k_493 rfl rfl rfl rfl (Nat.le_of_ble_eq_true rfl) rm_xm dX6_meet_62 rfl (leastSpread_ok (hL.fr hF1 (by decide) (by decide) (by decide)) hWL (rd_sums hS1 rfl) rd_no (sums_le hW set) (fun _ _ => Nat.zero_le _) ?_)
  refine r_iast (q := 66) _ rfl rfl (by first | omega | assumption | decide) dX6_meet_65 rfl ?_
  refine r_vret rfl dX6_meet_66 (?_)
  refine hQ _ ((hF1.mset (by decide)).mono (by decide)) ?_ ?_
  · unfold Sk; rw [mset_g _ _ _ _ (by decide), mset_g _ _ _ _ (by decide)]; exact hS1
  · refine ⟨?_, fun i hi => by rw [mset_g _ _ _ _ (by decide), hF1 21 (by decide)]; exact hR.2 i hi⟩
    intro b hb
    have h := hR.1 b hb
    rw [mset_g _ _ _ _ (by decide), mset_g _ _ _ _ (by decide), mset_g _ _ _ _ (by decide), mset_self, ← hm1, mset_g _ _ _ _ (by decide), mset_g _ _ _ _ (by decide), mset_self, mset_g _ _ _ _ (by decide), mset_self, mset_self, mset_g _ _ _ _ (by decide), mset_g _ _ _ _ (by decide), mset_g _ _ _ _ (by decide), mset_g _ _ _ _ (by decide), mset_g _ _ _ _ (by decide), mset_g _ _ _ _ (by decide)]
    unfold mt21 updN upd
    by_cases e : b = tk
    · subst e; simp
    · simp [e]; exact h
end SR
