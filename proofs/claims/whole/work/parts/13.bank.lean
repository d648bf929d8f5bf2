/-! THE CLASS: Bank and Limits -/
def lsub : List (Option PV) → List (Option PV) → Prop
  | [], _ => True
  | none :: t, _ :: u => lsub t u
  | some v :: t, o :: u => o = some v ∧ lsub t u
  | _, _ => False
theorem lsub_at : ∀ {L' L : List (Option PV)}, lsub L' L → ∀ (i : Nat) (v : PV), L'[i]? = some (some v) → L[i]? = some (some v)
  | [], _, _, i, v, h => by simp at h
  | none :: t, o :: u, hs, 0, v, h => by simp at h
  | none :: t, o :: u, hs, i + 1, v, h => by
    have := lsub_at (L' := t) (L := u) hs i v (by simpa using h)
    simpa using this
  | some w :: t, o :: u, hs, 0, v, h => by
    have hw : w = v := by simpa using h
    subst hw
    simpa using hs.1
  | some w :: t, o :: u, hs, i + 1, v, h => by
    have := lsub_at (L' := t) (L := u) hs.2 i v (by simpa using h)
    simpa using this
  | none :: t, [], hs, i, v, h => by cases hs
  | some w :: t, [], hs, i, v, h => by cases hs
theorem Wp.sub {E : En} {X : Xt} {M : MI_} {pc : Nat} {L' L : List (Option PV)} {st : List PV} {mem : Mem} (k : Wp E X M pc L' st mem) (h : lsub L' L) : Wp E X M pc L st mem := by
  intro p e s m args below meth c H locs ls hC hP hS hl h1 h2
  refine k p e s m args below meth c H locs ls hC hP hS ⟨hl.1, hl.2.1, fun q hq => ?_⟩ h1 (fun v hv => ?_)
  · obtain ⟨k, v, h3, rfl⟩ := lvl_mem hq
    have := lvl_at hl (lsub_at h k v h3)
    simpa using this
  · obtain ⟨i, hi⟩ := List.getElem?_of_mem hv
    exact h2 v (List.mem_of_getElem? (lsub_at h i v hi))
theorem lowestOf_ok {E : En} {d : Nat} {mem : Mem} {Q : Int32 → Mem → Prop} {x : Int32} (hQ : Q (x &&& (0 - x)) mem) : Call E d mX8_lowestOf [pI x] mem Q := by
  refine Call.of [some (pI x)] mk_X8_lowestOf rfl (Nat.le_of_ble_eq_true rfl) (fun _ => ?_)
  refine r_iload_0 (q := 1) dX8_lowestOf_0 rfl ?_
  refine r_iload_0 (q := 2) dX8_lowestOf_1 rfl ?_
  refine r_ineg (q := 3) rfl dX8_lowestOf_2 rfl ?_
  refine r_iand (q := 4) dX8_lowestOf_3 rfl ?_
  refine r_iret rfl dX8_lowestOf_4 (?_)
  exact hQ
section BK
variable {E : En} {d : Nat} {mem : Mem} {Q : Int32 → Mem → Prop} {B : BD} (hB : Bk B mem) (hW : WFB B)
theorem has_ok {x : Int32} (hB : Bk B mem) (hQ : Q (b2 (decide (0 ≤ x ∧ x ≤ nI (bN B) - 1))) mem) : Call E (d + 1) mX0_has [pR 1 0, pI x] mem Q := by
  refine Call.of [some (pR 1 0), some (pI x)] mk_X0_has rfl (Nat.le_of_ble_eq_true rfl) (fun _ => ?_)
  refine r_iload_1 (q := 1) dX0_has_0 rfl ?_
  refine r_iconst (q := 2) 0 (by decide) dX0_has_1 rfl ?_
  refine r_aload_0 (q := 3) dX0_has_2 rfl ?_
  refine r_getI (k := 2) (q := 6) f_RX0_20_0 rfl rfl dX0_has_3 rfl ?_
  refine r_iconst (q := 7) 1 (by decide) dX0_has_6 rfl ?_
  refine r_isub (q := 8) dX0_has_7 rfl ?_
  refine r_callN3i (M' := mX8_within) (q := 11) mk_X8_within ms_X8_within (by decide +kernel) rfl (Nat.le_of_ble_eq_true rfl) rm_xm dX0_has_8 rfl (within_ok ?_)
  refine r_zret (b2_01 _) rfl dX0_has_11 (?_)
  rw [hB.1]
  exact hQ
theorem hasAll_ok {x : Int32} (hB : Bk B mem) (hQ : Q (b2 (decide ((x.toUInt32 >>> ((nI (bN B)).toUInt32 &&& Int32.toUInt32 31)).toInt32 = 0))) mem) : Call E d mX0_hasAll [pR 1 0, pI x] mem Q := by
  refine Call.of [some (pR 1 0), some (pI x)] mk_X0_hasAll rfl (Nat.le_of_ble_eq_true rfl) (fun _ => ?_)
  refine r_iload_1 (q := 1) dX0_hasAll_0 rfl ?_
  refine r_aload_0 (q := 2) dX0_hasAll_1 rfl ?_
  refine r_getI (k := 2) (q := 5) f_RX0_20_0 rfl rfl dX0_hasAll_2 rfl ?_
  rw [hB.1]
  refine r_iushr (q := 6) dX0_hasAll_5 rfl ?_
  refine r_if_ne (q := 9) 13 dX0_hasAll_6 (by decide) rfl (fun h6 => ?_) (fun h6 => ?_)
  · refine r_iconst (q := 14) 0 (by decide) dX0_hasAll_13 rfl ?_
    refine r_zret (by first | exact Or.inl rfl | exact Or.inr rfl | assumption) rfl dX0_hasAll_14 (?_)
    rw [decide_eq_false h6] at hQ
    exact hQ
  · refine r_iconst (q := 10) 1 (by decide) dX0_hasAll_9 rfl ?_
    refine r_goto 14 dX0_hasAll_10 (by decide) ?_
    refine r_zret (by first | exact Or.inl rfl | exact Or.inr rfl | assumption) rfl dX0_hasAll_14 (?_)
    rw [decide_eq_true h6] at hQ
    exact hQ
theorem isResting_ok {q : Nat} (hB : Bk B mem) (hq : q < 24) (hQ : Q (b2 (restB B q)) mem) : Call E d mX0_isResting [pR 1 0, pI (nI q)] mem Q := by
  refine Call.of [some (pR 1 0), some (pI (nI q)), none] mk_X0_isResting rfl (Nat.le_of_ble_eq_true rfl) (fun _ => ?_)
  refine r_aload_0 (q := 1) dX0_isResting_0 rfl ?_
  refine r_getR (k := 0) (q := 4) f_RX0_11_0 rfl rfl dX0_isResting_1 rfl ?_
  refine r_iload_1 (q := 5) dX0_isResting_4 rfl ?_
  refine r_aald (q := 6) _ rfl rfl (by first | omega | assumption | decide) dX0_isResting_5 rfl ?_
  refine r_bipush (q := 8) 6 (by decide) dX0_isResting_6 rfl ?_
  refine r_iald (q := 9) _ rfl rfl (by first | omega | assumption | decide) dX0_isResting_8 rfl ?_
  rw [hB.2.2.2.1 q 6]
  refine r_istore_2 (q := 10) (by decide) dX0_isResting_9 rfl ?_
  refine r_iload_2 (q := 11) dX0_isResting_10 rfl ?_
  refine r_iconst (q := 12) (-1) (by decide) dX0_isResting_11 rfl ?_
  refine r_icmp_eq (q := 15) 40 dX0_isResting_12 (by decide) rfl (fun h12 => ?_) (fun h12 => ?_)
  · refine r_iconst (q := 41) 0 (by decide) dX0_isResting_40 rfl ?_
    refine r_zret (by first | exact Or.inl rfl | exact Or.inr rfl | assumption) rfl dX0_isResting_41 (?_)
    rw [show restB B q = false from decide_eq_false (fun z => z.1 h12)] at hQ
    exact hQ
  · refine r_aload_0 (q := 16) dX0_isResting_15 rfl ?_
    refine r_getI (k := 3) (q := 19) f_RX0_24_0 rfl rfl dX0_isResting_16 rfl ?_
    refine r_iload_2 (q := 20) dX0_isResting_19 rfl ?_
    refine r_icmp_le (q := 23) 40 dX0_isResting_20 (by decide) rfl (fun h20 => ?_) (fun h20 => ?_)
    · refine r_iconst (q := 41) 0 (by decide) dX0_isResting_40 rfl ?_
      refine r_zret (by first | exact Or.inl rfl | exact Or.inr rfl | assumption) rfl dX0_isResting_41 (?_)
      rw [hB.2.1] at h20
      rw [show restB B q = false from decide_eq_false (fun z => z.2.1 h20)] at hQ
      exact hQ
    · refine r_aload_0 (q := 24) dX0_isResting_23 rfl ?_
      refine r_getI (k := 3) (q := 27) f_RX0_24_0 rfl rfl dX0_isResting_24 rfl ?_
      refine r_iload_2 (q := 28) dX0_isResting_27 rfl ?_
      refine r_isub (q := 29) dX0_isResting_28 rfl ?_
      refine r_aload_0 (q := 30) dX0_isResting_29 rfl ?_
      refine r_getI (k := 4) (q := 33) f_RX0_27_0 rfl rfl dX0_isResting_30 rfl ?_
      refine r_icmp_gt (q := 36) 40 dX0_isResting_33 (by decide) rfl (fun h33 => ?_) (fun h33 => ?_)
      · refine r_iconst (q := 41) 0 (by decide) dX0_isResting_40 rfl ?_
        refine r_zret (by first | exact Or.inl rfl | exact Or.inr rfl | assumption) rfl dX0_isResting_41 (?_)
        rw [hB.2.1, hB.2.2.1] at h33
        rw [show restB B q = false from decide_eq_false (fun z => z.2.2 h33)] at hQ
        exact hQ
      · refine r_iconst (q := 37) 1 (by decide) dX0_isResting_36 rfl ?_
        refine r_goto 41 dX0_isResting_37 (by decide) ?_
        refine r_zret (by first | exact Or.inl rfl | exact Or.inr rfl | assumption) rfl dX0_isResting_41 (?_)
        rw [hB.2.1, hB.2.2.1] at h33
        rw [hB.2.1] at h20
        rw [show restB B q = true from decide_eq_true ⟨h12, h20, h33⟩] at hQ
        exact hQ
theorem countAtHand_ok (hB : Bk B mem) (hW : WFB B) (hQ : Q (nI (handB B)) mem) : Call E (d + 1) mX0_countAtHand [pR 1 0] mem Q := by
  refine Call.of [some (pR 1 0), none, none] mk_X0_countAtHand rfl (Nat.le_of_ble_eq_true rfl) (fun _ => ?_)
  have h24 := hW.1
  refine r_iconst (q := 1) 0 (by decide) dX0_countAtHand_0 rfl ?_
  refine r_istore_1 (q := 2) (by decide) dX0_countAtHand_1 rfl ?_
  refine r_iconst (q := 3) 0 (by decide) dX0_countAtHand_2 rfl ?_
  refine r_istore_2 (q := 4) (by decide) dX0_countAtHand_3 rfl ?_
  suffices H : ∀ k q, bN B - q < k → q ≤ bN B → Wp E (xm E (d + 1) mX0_countAtHand Q) mX0_countAtHand 4 [some (pR 1 0), some (pI (nI (cnt (fun q => !restB B q) q))), some (pI (nI q))] [] mem from H (bN B + 1) 0 (by omega) (by omega)
  intro k
  induction k with
  | zero => intro q h; omega
  | succ k ih =>
    intro q h1 h2
    refine r_iload_2 (q := 5) dX0_countAtHand_4 rfl ?_
    refine r_aload_0 (q := 6) dX0_countAtHand_5 rfl ?_
    refine r_getI (k := 2) (q := 9) f_RX0_20_0 rfl rfl dX0_countAtHand_6 rfl ?_
    rw [hB.1]
    refine r_icmp_ge (q := 12) 34 dX0_countAtHand_9 (by decide) rfl (fun h9 => ?_) (fun h9 => ?_)
    · have hq := (nI_leI (by omega) (by omega)).mp h9
      have hq : q = bN B := by omega
      subst hq
      refine r_iload_1 (q := 35) dX0_countAtHand_34 rfl ?_
      refine r_iret rfl dX0_countAtHand_35 (?_)
      exact hQ
    · have hq : q < bN B := by
        rcases Nat.lt_or_ge q (bN B) with z | z
        · exact z
        · exact absurd (nI_le z (by omega)) h9
      have J : ∀ x : Int32, nI (cnt (fun q => !restB B q) q) + x = nI (cnt (fun q => !restB B q) (q + 1)) → Wp E (xm E (d + 1) mX0_countAtHand Q) mX0_countAtHand 26 [some (pR 1 0), some (pI (nI (cnt (fun q => !restB B q) q))), some (pI (nI q))] [pI x, pI (nI (cnt (fun q => !restB B q) q))] mem := by
        intro x hx
        refine r_iadd (q := 27) dX0_countAtHand_26 rfl ?_
        rw [hx]
        refine r_istore_1 (q := 28) (by decide) dX0_countAtHand_27 rfl ?_
        refine r_iinc_2 (q := 31) _ (nI_inc _) (by decide) dX0_countAtHand_28 rfl ?_
        refine r_goto 4 dX0_countAtHand_31 (by decide) ?_
        exact ih (q + 1) (by omega) (by omega)
      refine r_iload_1 (q := 13) dX0_countAtHand_12 rfl ?_
      refine r_aload_0 (q := 14) dX0_countAtHand_13 rfl ?_
      refine r_iload_2 (q := 15) dX0_countAtHand_14 rfl ?_
      refine r_callV1i (M' := mX0_isResting) (q := 18) mk_X0_isResting mi_X0_isResting k_410 rfl rfl rfl rfl (Nat.le_of_ble_eq_true rfl) rm_xm dX0_countAtHand_15 rfl (isResting_ok hB (by omega) ?_)
      refine r_if_eq (q := 21) 25 dX0_countAtHand_18 (by decide) rfl (fun h18 => ?_) (fun h18 => ?_)
      · refine r_iconst (q := 26) 1 (by decide) dX0_countAtHand_25 rfl ?_
        exact J _ (by rw [cnt, b2_eq0.mp h18]; exact nI_1 _)
      · refine r_iconst (q := 22) 0 (by decide) dX0_countAtHand_21 rfl ?_
        refine r_goto 26 dX0_countAtHand_22 (by decide) ?_
        exact J _ (by rw [cnt, b2_ne0.mp h18]; exact Int32.add_zero _)
theorem wholeOf_ok {q : Nat} (hB : Bk B mem) (hW : WFB B) (hq : q < bN B) (hQ : Q (nI (wholeB B q)) mem) : Call E d mX0_wholeOf [pR 1 0, pI (nI q)] mem Q := by
  refine Call.of [some (pR 1 0), some (pI (nI q)), none, none, none] mk_X0_wholeOf rfl (Nat.le_of_ble_eq_true rfl) (fun _ => ?_)
  have h24 := hW.1
  refine r_aload_0 (q := 1) dX0_wholeOf_0 rfl ?_
  refine r_getR (k := 0) (q := 4) f_RX0_11_0 rfl rfl dX0_wholeOf_1 rfl ?_
  refine r_iload_1 (q := 5) dX0_wholeOf_4 rfl ?_
  refine r_aald (q := 6) _ rfl rfl (by first | omega | assumption | decide) dX0_wholeOf_5 rfl ?_
  refine r_iconst (q := 7) 5 (by decide) dX0_wholeOf_6 rfl ?_
  refine r_iald (q := 8) _ rfl rfl (by first | omega | assumption | decide) dX0_wholeOf_7 rfl ?_
  rw [hB.2.2.2.1 q 5]
  refine r_istore_2 (q := 9) (by decide) dX0_wholeOf_8 rfl ?_
  refine r_iconst (q := 10) 1 (by decide) dX0_wholeOf_9 rfl ?_
  refine r_iload_1 (q := 11) dX0_wholeOf_10 rfl ?_
  refine r_ishl (q := 12) dX0_wholeOf_11 rfl ?_
  rw [nb_shl1 q (by omega)]
  refine r_istore_3 (q := 13) (by decide) dX0_wholeOf_12 rfl ?_
  refine r_iconst (q := 14) 0 (by decide) dX0_wholeOf_13 rfl ?_
  refine r_istore_4 (q := 16) (by decide) dX0_wholeOf_14 rfl ?_
  suffices H : ∀ k o, bN B - o < k → o ≤ bN B → Wp E (xm E d mX0_wholeOf Q) mX0_wholeOf 16 [some (pR 1 0), some (pI (nI q)), some (pI (bF B q 5)), some (pI (nI (2 ^ q ||| bset (mateB B q) o))), some (pI (nI o))] [] mem from by
    have := H (bN B + 1) 0 (by omega) (by omega)
    rw [bset, Nat.or_zero] at this
    exact this
  intro k
  induction k with
  | zero => intro q h; omega
  | succ k ih =>
    intro o h1 h2
    refine r_iload_2 (q := 17) dX0_wholeOf_16 rfl ?_
    refine r_iconst (q := 18) (-1) (by decide) dX0_wholeOf_17 rfl ?_
    refine r_icmp_eq (q := 21) 56 dX0_wholeOf_18 (by decide) rfl (fun h18 => ?_) (fun h18 => ?_)
    · have e : bset (mateB B q) o = bset (mateB B q) (bN B) := by
        have hz : ∀ i, mateB B q i = false := fun i => decide_eq_false (fun z => z.1 h18)
        apply tb_ext
        intro i
        rw [bset_tb, bset_tb, hz i, Bool.and_false, Bool.and_false]
      rw [e]
      refine r_iload_3 (q := 57) dX0_wholeOf_56 rfl ?_
      refine r_iret rfl dX0_wholeOf_57 (?_)
      exact hQ
    · refine r_iload_4 (q := 23) dX0_wholeOf_21 rfl ?_
      refine r_aload_0 (q := 24) dX0_wholeOf_23 rfl ?_
      refine r_getI (k := 2) (q := 27) f_RX0_20_0 rfl rfl dX0_wholeOf_24 rfl ?_
      rw [hB.1]
      refine r_icmp_ge (q := 30) 56 dX0_wholeOf_27 (by decide) rfl (fun h27 => ?_) (fun h27 => ?_)
      · have hq := (nI_leI (by omega) (by omega)).mp h27
        have hq : o = bN B := by omega
        subst hq
        refine r_iload_3 (q := 57) dX0_wholeOf_56 rfl ?_
        refine r_iret rfl dX0_wholeOf_57 (?_)
        exact hQ
      · have ho : o < bN B := by
          rcases Nat.lt_or_ge o (bN B) with z | z
          · exact z
          · exact absurd (nI_le z (by omega)) h27
        refine r_aload_0 (q := 31) dX0_wholeOf_30 rfl ?_
        refine r_getR (k := 0) (q := 34) f_RX0_11_0 rfl rfl dX0_wholeOf_31 rfl ?_
        refine r_iload_4 (q := 36) dX0_wholeOf_34 rfl ?_
        refine r_aald (q := 37) _ rfl rfl (by first | omega | assumption | decide) dX0_wholeOf_36 rfl ?_
        refine r_iconst (q := 38) 5 (by decide) dX0_wholeOf_37 rfl ?_
        refine r_iald (q := 39) _ rfl rfl (by first | omega | assumption | decide) dX0_wholeOf_38 rfl ?_
        rw [hB.2.2.2.1 o 5]
        refine r_iload_2 (q := 40) dX0_wholeOf_39 rfl ?_
        refine r_icmp_ne (q := 43) 50 dX0_wholeOf_40 (by decide) rfl (fun h40 => ?_) (fun h40 => ?_)
        · have e : bset (mateB B q) (o + 1) = bset (mateB B q) o := by
            rw [bset, show mateB B q o = false from decide_eq_false (fun z => h40 z.2)]; rfl
          rw [← e]
          refine r_iinc_4 (q := 53) _ (nI_inc _) (by decide) dX0_wholeOf_50 rfl ?_
          refine r_goto 16 dX0_wholeOf_53 (by decide) ?_
          exact ih (o + 1) (by omega) (by omega)
        · have e : bset (mateB B q) (o + 1) = bset (mateB B q) o ||| 2 ^ o := by
            rw [bset, show mateB B q o = true from decide_eq_true ⟨h18, h40⟩]; rfl
          refine r_iload_3 (q := 44) dX0_wholeOf_43 rfl ?_
          refine r_iconst (q := 45) 1 (by decide) dX0_wholeOf_44 rfl ?_
          refine r_iload_4 (q := 47) dX0_wholeOf_45 rfl ?_
          refine r_ishl (q := 48) dX0_wholeOf_47 rfl ?_
          rw [nb_shl1 o (by omega)]
          refine r_ior (q := 49) dX0_wholeOf_48 rfl ?_
          rw [nb_or, Nat.or_assoc, ← e]
          refine r_istore_3 (q := 50) (by decide) dX0_wholeOf_49 rfl ?_
          refine r_iinc_4 (q := 53) _ (nI_inc _) (by decide) dX0_wholeOf_50 rfl ?_
          refine r_goto 16 dX0_wholeOf_53 (by decide) ?_
          exact ih (o + 1) (by omega) (by omega)
theorem fitsInto_ok {s q : Nat} (hB : Bk B mem) (hW : WFB B) (hq : q < bN B) (hs : s < 2 ^ 24) (hQ : Q (b2 (fitsB B s q)) mem) : Call E (d + 1) mX0_fitsInto [pR 1 0, pI (nI s), pI (nI q)] mem Q := by
  refine Call.of [some (pR 1 0), some (pI (nI s)), some (pI (nI q))] mk_X0_fitsInto rfl (Nat.le_of_ble_eq_true rfl) (fun _ => ?_)
  have h24 := hW.1
  have hg := bG_lt hW q
  refine r_aload_0 (q := 1) dX0_fitsInto_0 rfl ?_
  refine r_iload_2 (q := 2) dX0_fitsInto_1 rfl ?_
  refine r_callV1i (M' := mX0_isResting) (q := 5) mk_X0_isResting mi_X0_isResting k_410 rfl rfl rfl rfl (Nat.le_of_ble_eq_true rfl) rm_xm dX0_fitsInto_2 rfl (isResting_ok hB (by omega) ?_)
  refine r_if_ne (q := 8) 35 dX0_fitsInto_5 (by decide) rfl (fun h5 => ?_) (fun h5 => ?_)
  · have h5 := b2_ne0.mp h5
    refine r_iconst (q := 36) 0 (by decide) dX0_fitsInto_35 rfl ?_
    refine r_zret (by first | exact Or.inl rfl | exact Or.inr rfl | assumption) rfl dX0_fitsInto_36 (?_)
    rw [show fitsB B s q = false by simp [fitsB, h5]] at hQ
    exact hQ
  · have h5 := b2_eq0.mp h5
    refine r_aload_0 (q := 9) dX0_fitsInto_8 rfl ?_
    refine r_getR (k := 1) (q := 12) f_RX0_16_0 rfl rfl dX0_fitsInto_9 rfl ?_
    refine r_iload_2 (q := 13) dX0_fitsInto_12 rfl ?_
    refine r_iald (q := 14) _ rfl rfl (by first | omega | assumption | decide) dX0_fitsInto_13 rfl ?_
    rw [hB.2.2.2.2 q]
    refine r_iload_1 (q := 15) dX0_fitsInto_14 rfl ?_
    refine r_iand (q := 16) dX0_fitsInto_15 rfl ?_
    rw [nb_and]
    refine r_if_ne (q := 19) 35 dX0_fitsInto_16 (by decide) rfl (fun h16 => ?_) (fun h16 => ?_)
    · have h16 : ¬ bG B q &&& s = 0 := fun z => h16 ((nI_zero_iff (pw24 (and_lt_l hg))).mpr z)
      refine r_iconst (q := 36) 0 (by decide) dX0_fitsInto_35 rfl ?_
      refine r_zret (by first | exact Or.inl rfl | exact Or.inr rfl | assumption) rfl dX0_fitsInto_36 (?_)
      rw [show fitsB B s q = false by simp [fitsB, h16]] at hQ
      exact hQ
    · have h16 := (nI_zero_iff (pw24 (and_lt_l hg))).mp h16
      have hw := wholeB_lt hW hq
      refine r_aload_0 (q := 20) dX0_fitsInto_19 rfl ?_
      refine r_iload_2 (q := 21) dX0_fitsInto_20 rfl ?_
      refine r_callV1i (M' := mX0_wholeOf) (q := 24) mk_X0_wholeOf mi_X0_wholeOf k_411 rfl rfl rfl rfl (Nat.le_of_ble_eq_true rfl) rm_xm dX0_fitsInto_21 rfl (wholeOf_ok hB hW hq ?_)
      refine r_iload_1 (q := 25) dX0_fitsInto_24 rfl ?_
      refine r_iconst (q := 26) (-1) (by decide) dX0_fitsInto_25 rfl ?_
      refine r_ixor (q := 27) dX0_fitsInto_26 rfl ?_
      refine r_iand (q := 28) dX0_fitsInto_27 rfl ?_
      rw [nb_andn]
      refine r_if_ne (q := 31) 35 dX0_fitsInto_28 (by decide) rfl (fun h28 => ?_) (fun h28 => ?_)
      · have h28 : ¬ andn (wholeB B q) s = 0 := fun z => h28 ((nI_zero_iff (pw24 (andn_lt hw))).mpr z)
        refine r_iconst (q := 36) 0 (by decide) dX0_fitsInto_35 rfl ?_
        refine r_zret (by first | exact Or.inl rfl | exact Or.inr rfl | assumption) rfl dX0_fitsInto_36 (?_)
        rw [show fitsB B s q = false by simp [fitsB, h28]] at hQ
        exact hQ
      · have h28 := (nI_zero_iff (pw24 (andn_lt hw))).mp h28
        refine r_iconst (q := 32) 1 (by decide) dX0_fitsInto_31 rfl ?_
        refine r_goto 36 dX0_fitsInto_32 (by decide) ?_
        refine r_zret (by first | exact Or.inl rfl | exact Or.inr rfl | assumption) rfl dX0_fitsInto_36 (?_)
        rw [show fitsB B s q = true by simp [fitsB, h5, h16, h28]] at hQ
        exact hQ
theorem isFit_ok {s : Nat} (hB : Bk B mem) (hW : WFB B) (hs : s < 2 ^ 24) (hQ : Q (b2 (fitB B s)) mem) : Call E (d + 2) mX0_isFit [pR 1 0, pI (nI s)] mem Q := by
  refine Call.of [some (pR 1 0), some (pI (nI s)), none] mk_X0_isFit rfl (Nat.le_of_ble_eq_true rfl) (fun _ => ?_)
  have h24 := hW.1
  refine r_iconst (q := 1) 0 (by decide) dX0_isFit_0 rfl ?_
  refine r_istore_2 (q := 2) (by decide) dX0_isFit_1 rfl ?_
  suffices H : ∀ k q, bN B - q < k → q ≤ bN B → allb (fun q => !s.testBit q || fitsB B s q) q = true → Wp E (xm E (d + 2) mX0_isFit Q) mX0_isFit 2 [some (pR 1 0), some (pI (nI s)), some (pI (nI q))] [] mem from H (bN B + 1) 0 (by omega) (by omega) rfl
  intro k
  induction k with
  | zero => intro q h; omega
  | succ k ih =>
    intro q h1 h2 h3
    refine r_iload_2 (q := 3) dX0_isFit_2 rfl ?_
    refine r_aload_0 (q := 4) dX0_isFit_3 rfl ?_
    refine r_getI (k := 2) (q := 7) f_RX0_20_0 rfl rfl dX0_isFit_4 rfl ?_
    rw [hB.1]
    refine r_icmp_ge (q := 10) 35 dX0_isFit_7 (by decide) rfl (fun h7 => ?_) (fun h7 => ?_)
    · have hq := (nI_leI (by omega) (by omega)).mp h7
      have hq : q = bN B := by omega
      subst hq
      refine r_iconst (q := 36) 1 (by decide) dX0_isFit_35 rfl ?_
      refine r_zret (by first | exact Or.inl rfl | exact Or.inr rfl | assumption) rfl dX0_isFit_36 (?_)
      rw [show fitB B s = true from h3] at hQ
      exact hQ
    · have hq : q < bN B := by
        rcases Nat.lt_or_ge q (bN B) with z | z
        · exact z
        · exact absurd (nI_le z (by omega)) h7
      refine r_iload_1 (q := 11) dX0_isFit_10 rfl ?_
      refine r_iload_2 (q := 12) dX0_isFit_11 rfl ?_
      refine r_callN2i (M' := mX8_contains) (q := 15) mk_X8_contains ms_X8_contains (by decide +kernel) rfl (Nat.le_of_ble_eq_true rfl) rm_xm dX0_isFit_12 rfl (contains_ok (pw24 hs) (by omega) ?_)
      refine r_if_eq (q := 18) 29 dX0_isFit_15 (by decide) rfl (fun h15 => ?_) (fun h15 => ?_)
      · have h15 := b2_eq0.mp h15
        refine r_iinc_2 (q := 32) _ (nI_inc _) (by decide) dX0_isFit_29 rfl ?_
        refine r_goto 2 dX0_isFit_32 (by decide) ?_
        exact ih (q + 1) (by omega) (by omega) (by rw [allb, h3, h15]; rfl)
      · have h15 := b2_ne0.mp h15
        refine r_aload_0 (q := 19) dX0_isFit_18 rfl ?_
        refine r_iload_1 (q := 20) dX0_isFit_19 rfl ?_
        refine r_iload_2 (q := 21) dX0_isFit_20 rfl ?_
        refine r_callV2i (M' := mX0_fitsInto) (q := 24) mk_X0_fitsInto mi_X0_fitsInto k_406 rfl rfl rfl rfl (Nat.le_of_ble_eq_true rfl) rm_xm dX0_isFit_21 rfl (fitsInto_ok hB hW hq hs ?_)
        refine r_if_ne (q := 27) 29 dX0_isFit_24 (by decide) rfl (fun h24 => ?_) (fun h24 => ?_)
        · have h24' := b2_ne0.mp h24
          refine r_iinc_2 (q := 32) _ (nI_inc _) (by decide) dX0_isFit_29 rfl ?_
          refine r_goto 2 dX0_isFit_32 (by decide) ?_
          exact ih (q + 1) (by omega) (by omega) (by rw [allb, h3, h24']; simp)
        · have h24' := b2_eq0.mp h24
          refine r_iconst (q := 28) 0 (by decide) dX0_isFit_27 rfl ?_
          refine r_zret (by first | exact Or.inl rfl | exact Or.inr rfl | assumption) rfl dX0_isFit_28 (?_)
          rw [show fitB B s = false from allb_false _ hq (by rw [h15, h24']; rfl)] at hQ
          exact hQ
theorem clashesWith_ok {s : Nat} (hB : Bk B mem) (hW : WFB B) (hs : s < 2 ^ 24) (hQ : Q (nI (clashB B s)) mem) : Call E (d + 1) mX0_clashesWith [pR 1 0, pI (nI s)] mem Q := by
  refine Call.of [some (pR 1 0), some (pI (nI s)), none, none] mk_X0_clashesWith rfl (Nat.le_of_ble_eq_true rfl) (fun _ => ?_)
  have h24 := hW.1
  refine r_iconst (q := 1) 0 (by decide) dX0_clashesWith_0 rfl ?_
  refine r_istore_2 (q := 2) (by decide) dX0_clashesWith_1 rfl ?_
  refine r_iconst (q := 3) 0 (by decide) dX0_clashesWith_2 rfl ?_
  refine r_istore_3 (q := 4) (by decide) dX0_clashesWith_3 rfl ?_
  suffices H : ∀ k q, bN B - q < k → q ≤ bN B → Wp E (xm E (d + 1) mX0_clashesWith Q) mX0_clashesWith 4 [some (pR 1 0), some (pI (nI s)), some (pI (nI (clashT B s q))), some (pI (nI q))] [] mem from H (bN B + 1) 0 (by omega) (by omega)
  intro k
  induction k with
  | zero => intro q h; omega
  | succ k ih =>
    intro q h1 h2
    refine r_iload_3 (q := 5) dX0_clashesWith_4 rfl ?_
    refine r_aload_0 (q := 6) dX0_clashesWith_5 rfl ?_
    refine r_getI (k := 2) (q := 9) f_RX0_20_0 rfl rfl dX0_clashesWith_6 rfl ?_
    rw [hB.1]
    refine r_icmp_ge (q := 12) 52 dX0_clashesWith_9 (by decide) rfl (fun h9 => ?_) (fun h9 => ?_)
    · have hq := (nI_leI (by omega) (by omega)).mp h9
      have hq : q = bN B := by omega
      subst hq
      refine r_iload_2 (q := 53) dX0_clashesWith_52 rfl ?_
      refine r_iret rfl dX0_clashesWith_53 (?_)
      exact hQ
    · have hq : q < bN B := by
        rcases Nat.lt_or_ge q (bN B) with z | z
        · exact z
        · exact absurd (nI_le z (by omega)) h9
      have hg := bG_lt hW q
      have J : Wp E (xm E (d + 1) mX0_clashesWith Q) mX0_clashesWith 29 [some (pR 1 0), some (pI (nI s)), some (pI (nI (clashT B s q ||| (if s.testBit q then bG B q else 0)))), some (pI (nI q))] [] mem := by
        refine r_aload_0 (q := 30) dX0_clashesWith_29 rfl ?_
        refine r_getR (k := 1) (q := 33) f_RX0_16_0 rfl rfl dX0_clashesWith_30 rfl ?_
        refine r_iload_3 (q := 34) dX0_clashesWith_33 rfl ?_
        refine r_iald (q := 35) _ rfl rfl (by first | omega | assumption | decide) dX0_clashesWith_34 rfl ?_
        rw [hB.2.2.2.2 q]
        refine r_iload_1 (q := 36) dX0_clashesWith_35 rfl ?_
        refine r_iand (q := 37) dX0_clashesWith_36 rfl ?_
        rw [nb_and]
        refine r_if_eq (q := 40) 46 dX0_clashesWith_37 (by decide) rfl (fun h37 => ?_) (fun h37 => ?_)
        · have h37 := (nI_zero_iff (pw24 (and_lt_l hg))).mp h37
          have e : clashT B s (q + 1) = clashT B s q ||| (if s.testBit q then bG B q else 0) := by rw [clashT, if_pos h37, Nat.or_zero]
          rw [← e]
          refine r_iinc_3 (q := 49) _ (nI_inc _) (by decide) dX0_clashesWith_46 rfl ?_
          refine r_goto 4 dX0_clashesWith_49 (by decide) ?_
          exact ih (q + 1) (by omega) (by omega)
        · have h37 := fun z => h37 ((nI_zero_iff (pw24 (and_lt_l hg))).mpr z)
          have e : clashT B s (q + 1) = clashT B s q ||| (if s.testBit q then bG B q else 0) ||| 2 ^ q := by rw [clashT, if_neg h37]
          refine r_iload_2 (q := 41) dX0_clashesWith_40 rfl ?_
          refine r_iconst (q := 42) 1 (by decide) dX0_clashesWith_41 rfl ?_
          refine r_iload_3 (q := 43) dX0_clashesWith_42 rfl ?_
          refine r_ishl (q := 44) dX0_clashesWith_43 rfl ?_
          rw [nb_shl1 q (by omega)]
          refine r_ior (q := 45) dX0_clashesWith_44 rfl ?_
          rw [nb_or, ← e]
          refine r_istore_2 (q := 46) (by decide) dX0_clashesWith_45 rfl ?_
          refine r_iinc_3 (q := 49) _ (nI_inc _) (by decide) dX0_clashesWith_46 rfl ?_
          refine r_goto 4 dX0_clashesWith_49 (by decide) ?_
          exact ih (q + 1) (by omega) (by omega)
      refine r_iload_1 (q := 13) dX0_clashesWith_12 rfl ?_
      refine r_iload_3 (q := 14) dX0_clashesWith_13 rfl ?_
      refine r_callN2i (M' := mX8_contains) (q := 17) mk_X8_contains ms_X8_contains (by decide +kernel) rfl (Nat.le_of_ble_eq_true rfl) rm_xm dX0_clashesWith_14 rfl (contains_ok (pw24 hs) (by omega) ?_)
      refine r_if_eq (q := 20) 29 dX0_clashesWith_17 (by decide) rfl (fun h17 => ?_) (fun h17 => ?_)
      · rw [b2_eq0.mp h17, if_neg (by decide), Nat.or_zero] at J
        exact J
      · rw [b2_ne0.mp h17, if_pos rfl] at J
        refine r_iload_2 (q := 21) dX0_clashesWith_20 rfl ?_
        refine r_aload_0 (q := 22) dX0_clashesWith_21 rfl ?_
        refine r_getR (k := 1) (q := 25) f_RX0_16_0 rfl rfl dX0_clashesWith_22 rfl ?_
        refine r_iload_3 (q := 26) dX0_clashesWith_25 rfl ?_
        refine r_iald (q := 27) _ rfl rfl (by first | omega | assumption | decide) dX0_clashesWith_26 rfl ?_
        rw [hB.2.2.2.2 q]
        refine r_ior (q := 28) dX0_clashesWith_27 rfl ?_
        rw [nb_or]
        refine r_istore_2 (q := 29) (by decide) dX0_clashesWith_28 rfl ?_
        exact J
theorem weightOf_ok {q b : Nat} (hB : Bk B mem) (hW : WFB B) (hq : q < bN B) (hb : b < 10) (hQ : Q (nI (wN B q b)) mem) : Call E d mX0_weightOf [pR 1 0, pI (nI q), pI (nI b)] mem Q := by
  refine Call.of [some (pR 1 0), some (pI (nI q)), some (pI (nI b)), none] mk_X0_weightOf rfl (Nat.le_of_ble_eq_true rfl) (fun _ => ?_)
  have h24 := hW.1
  have hf := hW.2.2.2.2 q hq
  refine r_aload_0 (q := 1) dX0_weightOf_0 rfl ?_
  refine r_getR (k := 0) (q := 4) f_RX0_11_0 rfl rfl dX0_weightOf_1 rfl ?_
  refine r_iload_1 (q := 5) dX0_weightOf_4 rfl ?_
  refine r_aald (q := 6) _ rfl rfl (by first | omega | assumption | decide) dX0_weightOf_5 rfl ?_
  refine r_iconst (q := 7) 3 (by decide) dX0_weightOf_6 rfl ?_
  refine r_iald (q := 8) _ rfl rfl (by first | omega | assumption | decide) dX0_weightOf_7 rfl ?_
  rw [hB.2.2.2.1 q 3, hf.2.2.1]
  refine r_istore_3 (q := 9) (by decide) dX0_weightOf_8 rfl ?_
  refine r_iload_2 (q := 10) dX0_weightOf_9 rfl ?_
  refine r_if_ne (q := 13) 15 dX0_weightOf_10 (by decide) rfl (fun h10 => ?_) (fun h10 => ?_)
  · have h10 : ¬ b = 0 := fun z => h10 (by rw [z]; rfl)
    refine r_iload_2 (q := 16) dX0_weightOf_15 rfl ?_
    refine r_iconst (q := 17) 1 (by decide) dX0_weightOf_16 rfl ?_
    refine r_icmp_ne (q := 20) 29 dX0_weightOf_17 (by decide) rfl (fun h17 => ?_) (fun h17 => ?_)
    · have h17 : ¬ b = 1 := fun z => h17 (by rw [z]; rfl)
      refine r_iload_2 (q := 30) dX0_weightOf_29 rfl ?_
      refine r_iconst (q := 31) 2 (by decide) dX0_weightOf_30 rfl ?_
      refine r_icmp_ne (q := 34) 36 dX0_weightOf_31 (by decide) rfl (fun h31 => ?_) (fun h31 => ?_)
      · have h31 : ¬ b = 2 := fun z => h31 (by rw [z]; rfl)
        refine r_iload_2 (q := 37) dX0_weightOf_36 rfl ?_
        refine r_bipush (q := 39) 7 (by decide) dX0_weightOf_37 rfl ?_
        refine r_icmp_ge (q := 42) 62 dX0_weightOf_39 (by decide) rfl (fun h39 => ?_) (fun h39 => ?_)
        · have h39 : ¬ b < 7 := fun z => absurd h39 (nI_ge (b := 7) z (by decide))
          refine r_aload_0 (q := 63) dX0_weightOf_62 rfl ?_
          refine r_getR (k := 0) (q := 66) f_RX0_11_0 rfl rfl dX0_weightOf_63 rfl ?_
          refine r_iload_1 (q := 67) dX0_weightOf_66 rfl ?_
          refine r_aald (q := 68) _ rfl rfl (by first | omega | assumption | decide) dX0_weightOf_67 rfl ?_
          refine r_iconst (q := 69) 1 (by decide) dX0_weightOf_68 rfl ?_
          refine r_iald (q := 70) _ rfl rfl (by first | omega | assumption | decide) dX0_weightOf_69 rfl ?_
          rw [hB.2.2.2.1 q 1]
          refine r_iload_2 (q := 71) dX0_weightOf_70 rfl ?_
          refine r_bipush (q := 73) 7 (by decide) dX0_weightOf_71 rfl ?_
          refine r_isub (q := 74) dX0_weightOf_73 rfl ?_
          refine r_icmp_ne (q := 77) 81 dX0_weightOf_74 (by decide) rfl (fun h74 => ?_) (fun h74 => ?_)
          · refine r_iconst (q := 82) 0 (by decide) dX0_weightOf_81 rfl ?_
            refine r_iret rfl dX0_weightOf_82 (?_)
            rw [show wN B q b = 0 by simp [wN, h10, h17, h31, h39, h74]] at hQ
            exact hQ
          · refine r_iload_3 (q := 78) dX0_weightOf_77 rfl ?_
            refine r_goto 82 dX0_weightOf_78 (by decide) ?_
            refine r_iret rfl dX0_weightOf_82 (?_)
            rw [show wN B q b = fMrk B q by simp [wN, h10, h17, h31, h39, h74]] at hQ
            exact hQ
        · have h39 : b < 7 := by
            rcases Nat.lt_or_ge b 7 with z | z
            · exact z
            · exact absurd (nI_le z (by omega)) h39
          refine r_aload_0 (q := 43) dX0_weightOf_42 rfl ?_
          refine r_getR (k := 0) (q := 46) f_RX0_11_0 rfl rfl dX0_weightOf_43 rfl ?_
          refine r_iload_1 (q := 47) dX0_weightOf_46 rfl ?_
          refine r_aald (q := 48) _ rfl rfl (by first | omega | assumption | decide) dX0_weightOf_47 rfl ?_
          refine r_iconst (q := 49) 0 (by decide) dX0_weightOf_48 rfl ?_
          refine r_iald (q := 50) _ rfl rfl (by first | omega | assumption | decide) dX0_weightOf_49 rfl ?_
          rw [hB.2.2.2.1 q 0]
          refine r_iload_2 (q := 51) dX0_weightOf_50 rfl ?_
          refine r_iconst (q := 52) 3 (by decide) dX0_weightOf_51 rfl ?_
          refine r_isub (q := 53) dX0_weightOf_52 rfl ?_
          refine r_icmp_ne (q := 56) 60 dX0_weightOf_53 (by decide) rfl (fun h53 => ?_) (fun h53 => ?_)
          · refine r_iconst (q := 61) 0 (by decide) dX0_weightOf_60 rfl ?_
            refine r_iret rfl dX0_weightOf_61 (?_)
            rw [show wN B q b = 0 by simp [wN, h10, h17, h31, h39, h53]] at hQ
            exact hQ
          · refine r_iload_3 (q := 57) dX0_weightOf_56 rfl ?_
            refine r_goto 61 dX0_weightOf_57 (by decide) ?_
            refine r_iret rfl dX0_weightOf_61 (?_)
            rw [show wN B q b = fMrk B q by simp [wN, h10, h17, h31, h39, h53]] at hQ
            exact hQ
      · have h31 : b = 2 := nI_inj (by omega) (by decide) h31
        refine r_iload_3 (q := 35) dX0_weightOf_34 rfl ?_
        refine r_iret rfl dX0_weightOf_35 (?_)
        rw [show wN B q b = fMrk B q by simp [wN, h31]] at hQ
        exact hQ
    · have h17 : b = 1 := nI_inj (by omega) (by decide) h17
      refine r_aload_0 (q := 21) dX0_weightOf_20 rfl ?_
      refine r_getR (k := 0) (q := 24) f_RX0_11_0 rfl rfl dX0_weightOf_21 rfl ?_
      refine r_iload_1 (q := 25) dX0_weightOf_24 rfl ?_
      refine r_aald (q := 26) _ rfl rfl (by first | omega | assumption | decide) dX0_weightOf_25 rfl ?_
      refine r_iconst (q := 27) 2 (by decide) dX0_weightOf_26 rfl ?_
      refine r_iald (q := 28) _ rfl rfl (by first | omega | assumption | decide) dX0_weightOf_27 rfl ?_
      rw [hB.2.2.2.1 q 2, hf.1]
      refine r_iret rfl dX0_weightOf_28 (?_)
      rw [show wN B q b = fMin B q by simp [wN, h17]] at hQ
      exact hQ
  · have h10 : b = 0 := nI_inj (by omega) (by decide) h10
    refine r_iconst (q := 14) 1 (by decide) dX0_weightOf_13 rfl ?_
    refine r_iret rfl dX0_weightOf_14 (?_)
    rw [show wN B q b = 1 by simp [wN, h10]] at hQ
    exact hQ
end BK
