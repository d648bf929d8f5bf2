/-! THE CLASS: the order, placed and counted -/
theorem popN_or {a b : Nat} (h : a &&& b = 0) : popN (a ||| b) = popN a + popN b := by
  unfold popN
  have : ∀ n, cnt (fun i => (a ||| b).testBit i) n = cnt (fun i => a.testBit i) n + cnt (fun i => b.testBit i) n := by
    intro n
    induction n with
    | zero => rfl
    | succ n ih =>
      unfold cnt
      rw [ih, Nat.testBit_or]
      have := and_zero_iff.mp h n
      cases h1 : a.testBit n <;> cases h2 : b.testBit n <;> simp_all <;> omega
  exact this 24
/-- all questions of these units -/
def uniB (Ou : List (Nat × Nat)) : List Nat → Nat
  | [] => 0
  | u :: t => (Ou.getD u pz).1 ||| uniB Ou t
def Apart (Ou : List (Nat × Nat)) : Prop := ∀ u v, u < Ou.length → v < Ou.length → u ≠ v → (Ou.getD u pz).1 &&& (Ou.getD v pz).1 = 0
theorem uniB_apart {Ou : List (Nat × Nat)} (hA : Apart Ou) {u : Nat} (hu : u < Ou.length) : ∀ (us : List Nat), (∀ v, v ∈ us → v < Ou.length) → u ∉ us → (Ou.getD u pz).1 &&& uniB Ou us = 0
  | [], _, _ => Nat.and_zero _
  | v :: t, hv, hn => by
    unfold uniB
    rw [Nat.and_or_distrib_left, hA u v hu (hv v List.mem_cons_self) (fun e => hn (by rw [e]; exact List.mem_cons_self)), uniB_apart hA hu t (fun w hw => hv w (List.mem_cons_of_mem _ hw)) (fun z => hn (List.mem_cons_of_mem _ z))]
    rfl
theorem ordL_len {Ou : List (Nat × Nat)} (hA : Apart Ou) : ∀ (us : List Nat), us.Nodup → (∀ v, v ∈ us → v < Ou.length) → (ordL Ou us).length = popN (uniB Ou us)
  | [], _, _ => by
    show 0 = popN 0
    decide
  | u :: t, hn, hv => by
    have hn' := List.nodup_cons.mp hn
    have ih := ordL_len hA t hn'.2 (fun w hw => hv w (List.mem_cons_of_mem _ hw))
    show (bitsT (Ou.getD u pz).1 24 ++ ordL Ou t).length = popN ((Ou.getD u pz).1 ||| uniB Ou t)
    rw [popN_or (uniB_apart hA (hv u List.mem_cons_self) t (fun w hw => hv w (List.mem_cons_of_mem _ hw)) hn'.1), List.length_append, ih, bitsT_len]
    rfl
theorem ordL_app (Ou : List (Nat × Nat)) (a b : List Nat) : ordL Ou (a ++ b) = ordL Ou a ++ ordL Ou b := by
  unfold ordL
  rw [List.flatMap_append]
theorem bitsT_lt (s : Nat) : ∀ k x, x ∈ bitsT s k → x < k ∧ s.testBit x = true
  | 0, x, h => by cases h
  | k + 1, x, h => by
    unfold bitsT at h
    by_cases hb : s.testBit k = true
    · rw [if_pos hb] at h
      rcases List.mem_append.mp h with h | h
      · have := bitsT_lt s k x h; exact ⟨by omega, this.2⟩
      · rw [List.mem_singleton.mp h]; exact ⟨by omega, hb⟩
    · rw [if_neg hb] at h
      have := bitsT_lt s k x h
      exact ⟨by omega, this.2⟩
theorem ordL_lt {Ou : List (Nat × Nat)} {us : List Nat} {x : Nat} (h : x ∈ ordL Ou us) : x < 24 := by
  obtain ⟨u, -, hx⟩ := List.mem_flatMap.mp h
  exact (bitsT_lt _ _ _ hx).1
theorem getD_mem {l : List Nat} {i : Nat} (h : i < l.length) : l.getD i 0 ∈ l := by
  rw [List.getD_eq_getElem?_getD, List.getElem?_eq_getElem h]
  exact List.getElem_mem h
section O3
variable {E : En} {d : Nat} {mem : Mem} {Q : Int32 → Mem → Prop} {B : BD}
theorem placeUnits_ok {Ou : List (Nat × Nat)} {jc T : Nat → Nat → Nat} (hO : Ouk Ou mem) (hl : Ou.length ≤ 8) (hj : ∀ a b, jc a b ≤ 33) (hTO : TabOK jc T Ou.length) (hJ : Jk jc Ou.length mem) (hTk : TkT T Ou.length mem) (hA : Apart Ou) (h24 : ∀ u, u < Ou.length → (Ou.getD u pz).1 < 2 ^ 24) (hQ : ∀ mem', Fr [27, 34] mem mem' → (∀ i, i ≠ 7 → mem' 27 0 i = mem 27 0 i) → Pl (ordL Ou (pickP jc T Ou.length Ou.length none (2 ^ Ou.length - 1))) mem' → Q 0 mem') : Call E (d + 2) mX3_placeUnits [pR 27 0] mem Q := by
  refine Call.of [some (pR 27 0), none, none, none] mk_X3_placeUnits rfl (Nat.le_of_ble_eq_true rfl) (fun _ => ?_)
  generalize hmm : Ou.length = m at *
  have h256 : 2 ^ m ≤ 2 ^ 8 := Nat.pow_le_pow_right (by decide) hl
  have hpos : 0 < 2 ^ m := Nat.pow_pos (by decide)
  refine r_aload_0 (q := 1) dX3_placeUnits_0 rfl ?_
  refine r_iconst (q := 2) 0 (by decide) dX3_placeUnits_1 rfl ?_
  refine r_put (k := 7) (q := 5) f_RX3_36_3 pf_3_7 rfl rfl dX3_placeUnits_2 rfl ?_
  refine r_iconst (q := 6) 1 (by decide) dX3_placeUnits_5 rfl ?_
  refine r_aload_0 (q := 7) dX3_placeUnits_6 rfl ?_
  refine r_getI (k := 5) (q := 10) f_RX3_29_3 rfl rfl dX3_placeUnits_7 rfl ?_
  rw [show mset mem 27 0 7 0 27 0 5 = nI m by rw [mset_self]; unfold upd; rw [if_neg (by decide)]; exact hO.1.trans (by rw [hmm])]
  refine r_ishl (q := 11) dX3_placeUnits_10 rfl ?_
  rw [nb_shl1 m (by omega)]
  refine r_iconst (q := 12) 1 (by decide) dX3_placeUnits_11 rfl ?_
  refine r_isub (q := 13) dX3_placeUnits_12 rfl ?_
  rw [show nI (2 ^ m) - 1 = nI (2 ^ m - 1) from pk_sub (b := 1) hpos]
  refine r_istore_1 (q := 14) (by decide) dX3_placeUnits_13 rfl ?_
  refine r_iconst (q := 15) (-1) (by decide) dX3_placeUnits_14 rfl ?_
  refine r_istore_2 (q := 16) (by decide) dX3_placeUnits_15 rfl ?_
  refine r_iconst (q := 17) 0 (by decide) dX3_placeUnits_16 rfl ?_
  refine r_istore_3 (q := 18) (by decide) dX3_placeUnits_17 rfl ?_
  suffices H : ∀ (k i : Nat) (mm : Mem) (ps : List Nat) (u : Option Nat) (rest : Nat), m - i < k → i ≤ m → Fr [27, 34] mem mm → (∀ i, i ≠ 7 → mm 27 0 i = mem 27 0 i) → ps.Nodup → (∀ v, v ∈ ps → v < m ∧ rest.testBit v = false) → (∀ v, u = some v → v < m ∧ rest.testBit v = false) → rest < 2 ^ m → cnt (fun t => rest.testBit t) m = m - i → Pl (ordL Ou ps) mm → ps ++ pickP jc T m (m - i) u rest = pickP jc T m m none (2 ^ m - 1) → Wp E (xm E (d + 2) mX3_placeUnits Q) mX3_placeUnits 18 [some (pR 27 0), some (pI (nI rest)), some (pI (uv u)), some (pI (nI i))] [] mm from H (m + 1) 0 _ [] none (2 ^ m - 1) (by omega) (by omega) (Fr.rf.mset (by simp)) (fun i hi => by rw [mset_self]; unfold upd; rw [if_neg hi]) List.nodup_nil (fun v h => by cases h) (fun v h => by cases h) (by omega) (by
    have : ∀ n, n ≤ m → cnt (fun t => (2 ^ m - 1).testBit t) n = n := by
      intro n
      induction n with
      | zero => intro _; rfl
      | succ n ih =>
        intro hn
        unfold cnt
        rw [ih (by omega), Nat.testBit_two_pow_sub_one]
        simp
        omega
    exact this m (Nat.le_refl _)) ⟨rfl, fun i hi => absurd hi (Nat.not_lt_zero i)⟩ rfl
  intro k
  induction k with
  | zero => intro i mm ps u rest h; omega
  | succ k ih =>
    intro i mm ps u rest h1 h2 hF h7 hnd hps hu hr hcnt hPl he
    have hOm : mm 27 0 5 = nI m := (h7 5 (by decide)).trans (hO.1.trans (by rw [hmm]))
    refine r_iload_3 (q := 19) dX3_placeUnits_18 rfl ?_
    refine r_aload_0 (q := 20) dX3_placeUnits_19 rfl ?_
    refine r_getI (k := 5) (q := 23) f_RX3_29_3 rfl rfl dX3_placeUnits_20 rfl ?_
    rw [hOm]
    refine r_icmp_ge (q := 26) 57 dX3_placeUnits_23 (by decide) rfl (fun h23 => ?_) (fun h23 => ?_)
    · have hq := nI_ge_of (by omega) (by omega) h23
      have hq : i = m := by omega
      subst hq
      rw [Nat.sub_self, pickP, List.append_nil] at he
      refine r_vret rfl dX3_placeUnits_57 (?_)
      exact hQ mm hF h7 (by rw [← he]; exact hPl)
    · have hi : i < m := nI_lt_of (by omega) h23
      have hr0 : rest ≠ 0 := by
        intro e
        subst e
        have : ∀ n, cnt (fun t => (0 : Nat).testBit t) n = 0 := by
          intro n
          induction n with
          | zero => rfl
          | succ n ih => rw [cnt, ih]; simp
        rw [this] at hcnt
        omega
      have hin := cheapB_in (u := u) hj hTO.2.1 hl hr hr0
      rw [show m - i = (m - (i + 1)) + 1 by omega, pickP] at he
      refine r_aload_0 (q := 27) dX3_placeUnits_26 rfl ?_
      refine r_iload_2 (q := 28) dX3_placeUnits_27 rfl ?_
      refine r_iload_1 (q := 29) dX3_placeUnits_28 rfl ?_
      refine r_callV2i (M' := mX3_cheapestBehind) (q := 32) mk_X3_cheapestBehind mi_X3_cheapestBehind k_595 rfl rfl rfl rfl (Nat.le_of_ble_eq_true rfl) rm_xm dX3_placeUnits_29 rfl (cheapestBehind_ok (T := T) (jc := jc) hOm hl hr (fun v nx e hn _ => ⟨(hu v e).1, by rw [hF 32 (by decide)]; exact hJ v nx (hu v e).1 hn⟩) (fun nx hn hb => by rw [hF 33 (by decide)]; exact hTk _ nx (andn_lt hr) hn (by rw [andn_tb, tb_pow]; simp)) (fun nx _ hb => Nat.le_of_lt (cost_lt hj hTO.2.1 hl hr hb).2) ?_)
      refine r_istore_2 (q := 33) (by decide) dX3_placeUnits_32 rfl ?_
      refine r_iload_1 (q := 34) dX3_placeUnits_33 rfl ?_
      refine r_iconst (q := 35) 1 (by decide) dX3_placeUnits_34 rfl ?_
      refine r_iload_2 (q := 36) dX3_placeUnits_35 rfl ?_
      generalize hc : cheapB jc T m u rest = c at *
      refine r_ishl (q := 37) dX3_placeUnits_36 rfl ?_
      rw [nb_shl1 c (by omega)]
      refine r_iconst (q := 38) (-1) (by decide) dX3_placeUnits_37 rfl ?_
      refine r_ixor (q := 39) dX3_placeUnits_38 rfl ?_
      refine r_iand (q := 40) dX3_placeUnits_39 rfl ?_
      rw [nb_andn]
      refine r_istore_1 (q := 41) (by decide) dX3_placeUnits_40 rfl ?_
      refine r_aload_0 (q := 42) dX3_placeUnits_41 rfl ?_
      refine r_aload_0 (q := 43) dX3_placeUnits_42 rfl ?_
      refine r_getR (k := 0) (q := 46) f_RX3_9_3 rfl rfl dX3_placeUnits_43 rfl ?_
      refine r_iload_2 (q := 47) dX3_placeUnits_46 rfl ?_
      refine r_iald (q := 48) _ rfl rfl (by first | omega | assumption | decide) dX3_placeUnits_47 rfl ?_
      rw [show mm 28 0 c = nI (Ou.getD c pz).1 by rw [hF 28 (by decide)]; exact (hO.2 c (by omega)).1]
      have hcps : c ∉ ps := fun z => by rw [(hps c z).2] at hin; cases hin.1
      have hnd2 : (ps ++ [c]).Nodup := by
        rw [List.nodup_append]
        refine ⟨hnd, List.nodup_cons.mpr ⟨List.not_mem_nil, List.nodup_nil⟩, fun a ha b hb => ?_⟩
        rw [List.mem_singleton.mp hb]
        exact fun e => hcps (e ▸ ha)
      have hall : ∀ v, v ∈ ps ++ [c] → v < Ou.length := by
        intro v hv
        rcases List.mem_append.mp hv with h | h
        · rw [hmm]; exact (hps v h).1
        · rw [List.mem_singleton.mp h, hmm]; exact hin.2.1
      have eapp : ordL Ou (ps ++ [c]) = ordL Ou ps ++ bitsT (Ou.getD c pz).1 24 := by
        rw [ordL_app]
        unfold ordL
        rw [List.flatMap_singleton]
      have hlen : (ordL Ou ps).length + (bitsT (Ou.getD c pz).1 24).length ≤ 24 := by
        rw [← List.length_append, ← eapp, ordL_len hA _ hnd2 hall]
        exact popN_le _
      refine r_callV1v (M' := mX3_placeQuestions) (q := 51) mk_X3_placeQuestions mi_X3_placeQuestions k_608 rfl rfl rfl rfl (Nat.le_of_ble_eq_true rfl) rm_xm dX3_placeUnits_48 rfl (placeQuestions_ok (h24 c (by omega)) hPl hlen (fun m2 hF2 h72 hP2 => ?_))
      refine r_iinc_3 (q := 54) _ (nI_inc _) (by decide) dX3_placeUnits_51 rfl ?_
      refine r_goto 18 dX3_placeUnits_54 (by decide) ?_
      rw [← eapp] at hP2
      refine ih (i + 1) m2 (ps ++ [c]) (some c) (andn rest (2 ^ c)) (by omega) (by omega) (hF.tr hF2) (fun i hi => (h72 i hi).trans (h7 i hi)) hnd2 (fun v hv => ?_) (fun v hv => ?_) (andn_lt hr) ?_ hP2 ?_
      · rcases List.mem_append.mp hv with h | h
        · exact ⟨(hps v h).1, by rw [andn_tb, (hps v h).2]; rfl⟩
        · rw [List.mem_singleton.mp h]
          exact ⟨hin.2.1, by rw [andn_tb, tb_pow]; simp⟩
      · cases hv
        exact ⟨hin.2.1, by rw [andn_tb, tb_pow]; simp⟩
      · have : ∀ n, n ≤ m → cnt (fun t => (andn rest (2 ^ c)).testBit t) n + (if c < n then 1 else 0) = cnt (fun t => rest.testBit t) n := by
          intro n
          induction n with
          | zero => intro _; rfl
          | succ n ihn =>
            intro hn
            have ihn := ihn (by omega)
            unfold cnt
            rw [andn_tb, tb_pow]
            by_cases e : c = n
            · subst e
              rw [hin.1]
              rw [if_neg (by omega)] at ihn
              simp
              omega
            · simp only [e, decide_false, Bool.not_false, Bool.and_true]
              by_cases e2 : c < n
              · rw [if_pos e2] at ihn
                rw [if_pos (show c < n + 1 by omega)]
                omega
              · rw [if_neg e2] at ihn
                rw [if_neg (show ¬ c < n + 1 by omega)]
                omega
        have := this m (Nat.le_refl _)
        rw [if_pos hin.2.1] at this
        omega
      · rw [List.append_assoc]
        exact he
theorem countSteps_ok {l : List Nat} (hB : Bk B mem) (hP : Pl l mem) (hl : l.length ≤ 24) (hlt : ∀ x, x ∈ l → x < 24) (hQ : ∀ mem', Fr [27] mem mem' → (∀ i, i ≠ 8 → i ≠ 9 → mem' 27 0 i = mem 27 0 i) → mem' 27 0 8 = nI (stepsN (downB B) l) → mem' 27 0 9 = nI (stepsN (alkB B) l) → Q 0 mem') : Call E (d + 1) mX3_countSteps [pR 27 0, pR 1 0] mem Q := by
  refine Call.of [some (pR 27 0), some (pR 1 0), none] mk_X3_countSteps rfl (Nat.le_of_ble_eq_true rfl) (fun _ => ?_)
  refine r_aload_0 (q := 1) dX3_countSteps_0 rfl ?_
  refine r_iconst (q := 2) 0 (by decide) dX3_countSteps_1 rfl ?_
  refine r_put (k := 8) (q := 5) f_RX3_39_3 pf_3_8 rfl rfl dX3_countSteps_2 rfl ?_
  refine r_aload_0 (q := 6) dX3_countSteps_5 rfl ?_
  refine r_iconst (q := 7) 0 (by decide) dX3_countSteps_6 rfl ?_
  refine r_put (k := 9) (q := 10) f_RX3_42_3 pf_3_9 rfl rfl dX3_countSteps_7 rfl ?_
  refine r_iconst (q := 11) 1 (by decide) dX3_countSteps_10 rfl ?_
  refine r_istore_2 (q := 12) (by decide) dX3_countSteps_11 rfl ?_
  suffices H : ∀ (k i : Nat) (m : Mem), l.length - i < k → 1 ≤ i → (i ≤ l.length ∨ i = 1) → Fr [27] mem m → (∀ i, i ≠ 8 → i ≠ 9 → m 27 0 i = mem 27 0 i) → m 27 0 8 = nI (sumf (fun i => bn (downB B (l.getD i 0) (l.getD (i + 1) 0))) (i - 1)) → m 27 0 9 = nI (sumf (fun i => bn (alkB B (l.getD i 0) (l.getD (i + 1) 0))) (i - 1)) → Wp E (xm E (d + 1) mX3_countSteps Q) mX3_countSteps 12 [some (pR 27 0), some (pR 1 0), some (pI (nI i))] [] m from H (l.length + 1) 1 _ (by omega) (by omega) (Or.inr rfl) ((Fr.rf.mset (by simp)).mset (by simp)) (fun i h8 h9 => by rw [mset_self, mset_self]; unfold upd; rw [if_neg h9, if_neg h8]) (by rw [mset_self, mset_self]; rfl) (by rw [mset_self]; rfl)
  intro k
  induction k with
  | zero => intro i m h; omega
  | succ k ih =>
    intro i m h1 h2 h3 hF h7 e8 e9
    have hBm : Bk B m := hB.fr hF (by decide) (by decide) (by decide)
    refine r_iload_2 (q := 13) dX3_countSteps_12 rfl ?_
    refine r_aload_0 (q := 14) dX3_countSteps_13 rfl ?_
    refine r_getI (k := 7) (q := 17) f_RX3_36_3 rfl rfl dX3_countSteps_14 rfl ?_
    rw [show m 27 0 7 = nI l.length from (h7 7 (by decide) (by decide)).trans hP.1]
    refine r_icmp_ge (q := 20) 86 dX3_countSteps_17 (by decide) rfl (fun h17 => ?_) (fun h17 => ?_)
    · have hq := nI_ge_of (by omega) (by omega) h17
      have ei : i - 1 = l.length - 1 := by omega
      rw [ei] at e8 e9
      refine r_vret rfl dX3_countSteps_86 (?_)
      exact hQ m hF h7 e8 e9
    · have hi : i < l.length := nI_lt_of (by omega) h17
      have p1 := hlt _ (getD_mem (show i - 1 < l.length by omega))
      have p2 := hlt _ (getD_mem hi)
      have q1 : ∀ mm : Mem, Fr [27] mem mm → mm 34 0 (i - 1) = nI (l.getD (i - 1) 0) := fun mm hf => by rw [hf 34 (by decide)]; exact hP.2 _ (by omega)
      have q2 : ∀ mm : Mem, Fr [27] mem mm → mm 34 0 i = nI (l.getD i 0) := fun mm hf => by rw [hf 34 (by decide)]; exact hP.2 _ hi
      refine r_aload_0 (q := 21) dX3_countSteps_20 rfl ?_
      refine r_dup (q := 22) dX3_countSteps_21 rfl ?_
      refine r_getI (k := 8) (q := 25) f_RX3_39_3 rfl rfl dX3_countSteps_22 rfl ?_
      refine r_aload_1 (q := 26) dX3_countSteps_25 rfl ?_
      refine r_aload_0 (q := 27) dX3_countSteps_26 rfl ?_
      refine r_getR (k := 6) (q := 30) f_RX3_33_3 rfl rfl dX3_countSteps_27 rfl ?_
      refine r_iload_2 (q := 31) dX3_countSteps_30 rfl ?_
      refine r_iconst (q := 32) 1 (by decide) dX3_countSteps_31 rfl ?_
      refine r_isub (q := 33) dX3_countSteps_32 rfl ?_
      refine r_iald (q := 34) (i - 1) (pk_sub (b := 1) h2) rfl (by omega) dX3_countSteps_33 rfl ?_
      refine r_aload_0 (q := 35) dX3_countSteps_34 rfl ?_
      refine r_getR (k := 6) (q := 38) f_RX3_33_3 rfl rfl dX3_countSteps_35 rfl ?_
      refine r_iload_2 (q := 39) dX3_countSteps_38 rfl ?_
      refine r_iald (q := 40) _ rfl rfl (by first | omega | assumption | decide) dX3_countSteps_39 rfl ?_
      rw [e8, q1 m hF, q2 m hF]
      refine r_callS3i (M' := mX3_isStepDown) (q := 43) mk_X3_isStepDown ms_X3_isStepDown k_584 rfl (Nat.le_of_ble_eq_true rfl) rm_xm dX3_countSteps_40 rfl (isStepDown_ok hBm p1 p2 ?_)
      refine r_callN1i (M' := mX8_oneIf) (q := 46) mk_X8_oneIf ms_X8_oneIf (by decide +kernel) rfl (Nat.le_of_ble_eq_true rfl) rm_xm dX3_countSteps_43 rfl (oneIf_ok ?_)
      refine r_iadd (q := 47) dX3_countSteps_46 rfl ?_
      rw [b2_bn, nI_add]
      generalize hv1 : sumf (fun i => bn (downB B (l.getD i 0) (l.getD (i + 1) 0))) (i - 1) + bn (downB B (l.getD (i - 1) 0) (l.getD i 0)) = v1
      refine r_put (k := 8) (q := 50) f_RX3_39_3 pf_3_8 rfl rfl dX3_countSteps_47 rfl ?_
      refine r_aload_0 (q := 51) dX3_countSteps_50 rfl ?_
      refine r_dup (q := 52) dX3_countSteps_51 rfl ?_
      refine r_getI (k := 9) (q := 55) f_RX3_42_3 rfl rfl dX3_countSteps_52 rfl ?_
      have hF1 : Fr [27] mem (mset m 27 0 8 (nI v1)) := hF.mset (by simp)
      rw [show mset m 27 0 8 (nI v1) 27 0 9 = m 27 0 9 by rw [mset_self]; unfold upd; rw [if_neg (by decide)]]
      refine r_aload_1 (q := 56) dX3_countSteps_55 rfl ?_
      refine r_aload_0 (q := 57) dX3_countSteps_56 rfl ?_
      refine r_getR (k := 6) (q := 60) f_RX3_33_3 rfl rfl dX3_countSteps_57 rfl ?_
      refine r_iload_2 (q := 61) dX3_countSteps_60 rfl ?_
      refine r_iconst (q := 62) 1 (by decide) dX3_countSteps_61 rfl ?_
      refine r_isub (q := 63) dX3_countSteps_62 rfl ?_
      refine r_iald (q := 64) (i - 1) (pk_sub (b := 1) h2) rfl (by omega) dX3_countSteps_63 rfl ?_
      refine r_aload_0 (q := 65) dX3_countSteps_64 rfl ?_
      refine r_getR (k := 6) (q := 68) f_RX3_33_3 rfl rfl dX3_countSteps_65 rfl ?_
      refine r_iload_2 (q := 69) dX3_countSteps_68 rfl ?_
      refine r_iald (q := 70) _ rfl rfl (by first | omega | assumption | decide) dX3_countSteps_69 rfl ?_
      rw [e9, q1 _ hF1, q2 _ hF1]
      refine r_callS3i (M' := mX3_areAlike) (q := 73) mk_X3_areAlike ms_X3_areAlike k_588 rfl (Nat.le_of_ble_eq_true rfl) rm_xm dX3_countSteps_70 rfl (areAlike3_ok (hB.fr hF1 (by decide) (by decide) (by decide)) p1 p2 ?_)
      refine r_callN1i (M' := mX8_oneIf) (q := 76) mk_X8_oneIf ms_X8_oneIf (by decide +kernel) rfl (Nat.le_of_ble_eq_true rfl) rm_xm dX3_countSteps_73 rfl (oneIf_ok ?_)
      refine r_iadd (q := 77) dX3_countSteps_76 rfl ?_
      rw [b2_bn, nI_add]
      generalize hv2 : sumf (fun i => bn (alkB B (l.getD i 0) (l.getD (i + 1) 0))) (i - 1) + bn (alkB B (l.getD (i - 1) 0) (l.getD i 0)) = v2
      refine r_put (k := 9) (q := 80) f_RX3_42_3 pf_3_9 rfl rfl dX3_countSteps_77 rfl ?_
      refine r_iinc_2 (q := 83) _ (nI_inc _) (by decide) dX3_countSteps_80 rfl ?_
      refine r_goto 12 dX3_countSteps_83 (by decide) ?_
      refine ih (i + 1) _ (by omega) (by omega) (Or.inl (by omega)) (hF1.mset (by simp)) (fun x h8 h9 => ?_) ?_ ?_
      · rw [mset_self, mset_self]
        unfold upd
        rw [if_neg h9, if_neg h8]
        exact h7 x h8 h9
      · rw [mset_self, mset_self]
        unfold upd
        rw [if_neg (by decide), if_pos rfl, ← hv1]
        obtain ⟨i', rfl⟩ : ∃ i', i = i' + 1 := ⟨i - 1, by omega⟩
        rfl
      · rw [mset_self]
        unfold upd
        rw [if_pos rfl, ← hv2]
        obtain ⟨i', rfl⟩ : ∃ i', i = i' + 1 := ⟨i - 1, by omega⟩
        rfl
end O3
theorem ouT_ex (B : BD) (s : Nat) : ∀ (k j : Nat), j < (ouT B s k).length → ∃ q, q < k ∧ lowQ (wholeB B q &&& s) q = true ∧ (ouT B s k).getD j pz = (wholeB B q &&& s, q) ∧ (ouT B s q).length = j
  | 0, j, h => absurd h (Nat.not_lt_zero j)
  | k + 1, j, h => by
    have eu : ouT B s (k + 1) = if lowQ (wholeB B k &&& s) k then ouT B s k ++ [(wholeB B k &&& s, k)] else ouT B s k := rfl
    rw [eu] at h ⊢
    by_cases hu : lowQ (wholeB B k &&& s) k = true
    · rw [if_pos hu] at h ⊢
      rw [List.length_append, List.length_singleton] at h
      by_cases hj : j < (ouT B s k).length
      · obtain ⟨q, h1, h2, h3, h4⟩ := ouT_ex B s k j hj
        refine ⟨q, by omega, h2, ?_, h4⟩
        rw [List.getD_eq_getElem?_getD, List.getElem?_append_left hj, ← List.getD_eq_getElem?_getD]
        exact h3
      · have : j = (ouT B s k).length := by omega
        subst this
        refine ⟨k, by omega, hu, ?_, rfl⟩
        rw [List.getD_eq_getElem?_getD, List.getElem?_append_right (Nat.le_refl _), Nat.sub_self]
        rfl
    · rw [if_neg hu] at h ⊢
      obtain ⟨q, h1, h2, h3, h4⟩ := ouT_ex B s k j h
      exact ⟨q, by omega, h2, h3, h4⟩
theorem ou_apart (B : BD) (s : Nat) : Apart (ouT B s (bN B)) := by
  intro u v hu hv hne
  obtain ⟨q, h1, h2, h3, h4⟩ := ouT_ex B s (bN B) u hu
  obtain ⟨r, g1, g2, g3, g4⟩ := ouT_ex B s (bN B) v hv
  rw [h3, g3]
  apply and_zero_iff.mpr
  intro x ⟨a, b⟩
  rw [Nat.testBit_and, Bool.and_eq_true] at a b
  have e := whole_eq h1 g1 a.1 b.1
  rw [← e] at g2
  have := lowQ_inj h2 g2
  subst this
  omega
theorem ou_lt {B : BD} (hW : WFB B) (s : Nat) {u : Nat} (hu : u < (ouT B s (bN B)).length) : ((ouT B s (bN B)).getD u pz).1 < 2 ^ 24 ∧ ((ouT B s (bN B)).getD u pz).2 < 24 := by
  obtain ⟨q, h1, h2, h3, h4⟩ := ouT_ex B s (bN B) u hu
  rw [h3]
  exact ⟨and_lt_l (wholeB_lt hW h1), Nat.lt_of_lt_of_le h1 hW.1⟩
/-- the order, by the table -/
def ordQ (B : BD) (s : Nat) (T : Nat → Nat → Nat) : List Nat := ordL (ouT B s (bN B)) (pickP (jcB B (ouT B s (bN B))) T (ouT B s (bN B)).length (ouT B s (bN B)).length none (2 ^ (ouT B s (bN B)).length - 1))
def ordB (B : BD) (x : Int32) : Bool := setB B x && decide ((ouT B x.toNatClampNeg (bN B)).length ≤ 8)
def ordV (B : BD) (x : Int32) (T : Nat → Nat → Nat) : Int32 := if ordB B x then nI (stepsN (downB B) (ordQ B x.toNatClampNeg T)) else -1
def ordS (S : AS) (x : Int32) (T : Nat → Nat → Nat) : AS := if ordB S.1 x then (S.1, S.2.1, S.2.2.1, ((ordQ S.1 x.toNatClampNeg T).length, stepsN (alkB S.1) (ordQ S.1 x.toNatClampNeg T), fun i => (ordQ S.1 x.toNatClampNeg T).getD i 0)) else S
theorem stepsN_le (f : Nat → Nat → Bool) (l : List Nat) : stepsN f l ≤ l.length - 1 := by
  have := sumf_le (f := fun i => bn (f (l.getD i 0) (l.getD (i + 1) 0))) (c := 1) (l.length - 1) (fun q _ => bn_le _)
  unfold stepsN
  omega
theorem pick_ok {jc T : Nat → Nat → Nat} {m : Nat} (hj : ∀ a b, jc a b ≤ 33) (hT : ∀ r u, T r u ≤ 33 * r) (hm : m ≤ 8) : ∀ (k : Nat) (u : Option Nat) (rest : Nat), rest < 2 ^ m → cnt (fun t => rest.testBit t) m = k → (pickP jc T m k u rest).Nodup ∧ (∀ v, v ∈ pickP jc T m k u rest ↔ rest.testBit v = true)
  | 0, u, rest, hr, hc => by
    refine ⟨List.nodup_nil, fun v => ⟨fun h => (by cases h), fun h => ?_⟩⟩
    exfalso
    have hv : v < m := by
      rcases Nat.lt_or_ge v m with z | z
      · exact z
      · rw [tb_hi hr z] at h; cases h
    have h1 := cnt_mono (fun t => rest.testBit t) (show v + 1 ≤ m by omega)
    rw [cnt, h] at h1
    simp at h1
    omega
  | k + 1, u, rest, hr, hc => by
    have hr0 : rest ≠ 0 := by
      intro e
      subst e
      have : ∀ n, cnt (fun t => (0 : Nat).testBit t) n = 0 := by
        intro n
        induction n with
        | zero => rfl
        | succ n ih => rw [cnt, ih]; simp
      rw [this] at hc
      omega
    have hin := cheapB_in (u := u) hj hT hm hr hr0
    unfold pickP
    generalize cheapB jc T m u rest = c at *
    have hcount : cnt (fun t => (andn rest (2 ^ c)).testBit t) m = k := by
      have : ∀ n, n ≤ m → cnt (fun t => (andn rest (2 ^ c)).testBit t) n + (if c < n then 1 else 0) = cnt (fun t => rest.testBit t) n := by
        intro n
        induction n with
        | zero => intro _; rfl
        | succ n ihn =>
          intro hn
          have ihn := ihn (by omega)
          unfold cnt
          rw [andn_tb, tb_pow]
          by_cases e : c = n
          · subst e
            rw [hin.1]
            rw [if_neg (by omega)] at ihn
            simp
            omega
          · simp only [e, decide_false, Bool.not_false, Bool.and_true]
            by_cases e2 : c < n
            · rw [if_pos e2] at ihn
              rw [if_pos (show c < n + 1 by omega)]
              omega
            · rw [if_neg e2] at ihn
              rw [if_neg (show ¬ c < n + 1 by omega)]
              omega
      have := this m (Nat.le_refl _)
      rw [if_pos hin.2.1] at this
      omega
    obtain ⟨ih1, ih2⟩ := pick_ok hj hT hm k (some c) (andn rest (2 ^ c)) (andn_lt hr) hcount
    refine ⟨List.nodup_cons.mpr ⟨fun h => ?_, ih1⟩, fun v => ?_⟩
    · have := (ih2 c).mp h
      rw [andn_tb, tb_pow] at this
      simp at this
    · rw [List.mem_cons, ih2, andn_tb, tb_pow]
      constructor
      · rintro (rfl | h)
        · exact hin.1
        · rw [Bool.and_eq_true] at h; exact h.1
      · intro h
        by_cases e : v = c
        · exact Or.inl e
        · right
          rw [h]
          simp [Ne.symm e]
theorem full_cnt (m : Nat) : cnt (fun t => (2 ^ m - 1).testBit t) m = m := by
  have : ∀ n, n ≤ m → cnt (fun t => (2 ^ m - 1).testBit t) n = n := by
    intro n
    induction n with
    | zero => intro _; rfl
    | succ n ih =>
      intro hn
      unfold cnt
      rw [ih (by omega), Nat.testBit_two_pow_sub_one]
      simp
      omega
  exact this m (Nat.le_refl _)
theorem ordQ_len {B : BD} {s : Nat} {T : Nat → Nat → Nat} (hl : (ouT B s (bN B)).length ≤ 8) (hT : TabOK (jcB B (ouT B s (bN B))) T (ouT B s (bN B)).length) : (ordQ B s T).length ≤ 24 := by
  have hp : 0 < 2 ^ (ouT B s (bN B)).length := Nat.pow_pos (by decide)
  obtain ⟨h1, h2⟩ := pick_ok (jcB_le B (ouT B s (bN B))) hT.2.1 hl (ouT B s (bN B)).length none (2 ^ (ouT B s (bN B)).length - 1) (by omega) (full_cnt _)
  unfold ordQ
  rw [ordL_len (ou_apart B s) _ h1 (fun v hv => ?_)]
  · exact popN_le _
  · have := (h2 v).mp hv
    rw [Nat.testBit_two_pow_sub_one] at this
    exact of_decide_eq_true this
section O4
variable {E : En} {d : Nat} {mem : Mem} {Q : Int32 → Mem → Prop} {S : AS}
theorem order_ok {x : Int32} (hC : Ck S mem) (hWF : WFS S) (hQ : ∀ (mem' : Mem) (T : Nat → Nat → Nat), (ordB S.1 x = true → TabOK (jcB S.1 (ouT S.1 x.toNatClampNeg (bN S.1))) T (ouT S.1 x.toNatClampNeg (bN S.1)).length) → Fc mem mem' → Ck (ordS S x T) mem' → Q (ordV S.1 x T) mem') : Call E (d + 4) mX8_order [pR 0 0, pI x] mem Q := by
  refine Call.of [some (pR 0 0), some (pI x)] mk_X8_order rfl (Nat.le_of_ble_eq_true rfl) (fun _ => ?_)
  have hB := hC.1
  have h24 := hWF.1.1
  refine r_aload_0 (q := 1) dX8_order_0 rfl ?_
  refine r_getR (k := 0) (q := 4) f_RX8_12_7 rfl rfl dX8_order_1 rfl ?_
  refine r_iload_1 (q := 5) dX8_order_4 rfl ?_
  refine r_callV1i (M' := mX0_hasAll) (q := 8) mk_X0_hasAll mi_X0_hasAll k_368 rfl rfl rfl rfl (Nat.le_of_ble_eq_true rfl) rm_xm dX8_order_5 rfl (hasAll_ok hB ?_)
  have fail : ∀ m, FrZ mem m → ordB S.1 x = false → Wp E (xm E (d + 4) mX8_order Q) mX8_order 26 [some (pR 0 0), some (pI x)] [] m := by
    intro m hF hf
    have hFl : Fr [27, 28, 29, 30] mem m := hF.1
    have hCm : Ck S m := by
      obtain ⟨c1, c2, c3, c4, c5, c6⟩ := hC
      refine ⟨c1.fr hFl (by decide) (by decide) (by decide), c2.fr hFl (by decide) (by decide) (by decide), by rw [hFl 0 (by decide)]; exact c3, ⟨c4.1.fr hFl (by decide) (by decide), c4.2.1.fr hFl (by decide) (by decide), c4.2.2.fr hFl (by decide) (by decide)⟩, ?_, by rw [hFl 33 (by decide)]; exact c6⟩
      rw [hF.2 7 (by decide), hF.2 9 (by decide), hFl 34 (by decide)]
      exact c5
    have hq := hQ m (fun _ _ => 0) (fun z => by rw [hf] at z; cases z) (Fc.fr Fc.rf hFl (by decide)) (by unfold ordS; rw [hf]; exact hCm)
    unfold ordV at hq
    rw [hf] at hq
    refine r_iconst (q := 27) (-1) (by decide) dX8_order_26 rfl ?_
    refine r_iret rfl dX8_order_27 (?_)
    exact hq
  refine r_if_eq (q := 11) 26 dX8_order_8 (by decide) rfl (fun h8 => ?_) (fun h8 => ?_)
  · exact fail mem ⟨Fr.rf, fun _ _ => rfl⟩ (by unfold ordB; rw [show setB S.1 x = false from b2_eq0.mp h8]; rfl)
  · have h8 : setB S.1 x = true := b2_ne0.mp h8
    obtain ⟨s, hs, rfl⟩ := setB_ex hWF.1 h8
    have hs24 : s < 2 ^ 24 := Nat.lt_of_lt_of_le hs (pw_le h24)
    have eB : ordB S.1 (nI s) = decide ((ouT S.1 s (bN S.1)).length ≤ 8) := by unfold ordB; rw [h8, nI_clamp (pw24 hs24)]; rfl
    refine r_aload_0 (q := 12) dX8_order_11 rfl ?_
    refine r_getR (k := 6) (q := 15) f_RX8_56_7 rfl rfl dX8_order_12 rfl ?_
    refine r_aload_0 (q := 16) dX8_order_15 rfl ?_
    refine r_getR (k := 0) (q := 19) f_RX8_12_7 rfl rfl dX8_order_16 rfl ?_
    refine r_iload_1 (q := 20) dX8_order_19 rfl ?_
    refine r_callV2i (M' := mX3_splitSet) (q := 23) mk_X3_splitSet mi_X3_splitSet k_566 rfl rfl rfl rfl (Nat.le_of_ble_eq_true rfl) rm_xm dX8_order_20 rfl (splitSet_ok hB hWF.1 hs24 (fun m1 hF1 hO1 => ?_))
    refine r_if_ne (q := 26) 28 dX8_order_23 (by decide) rfl (fun h23 => ?_) (fun h23 => ?_)
    · have h23 := b2_ne0.mp h23
      have hl8 := of_decide_eq_true h23
      have hO1 := hO1 hl8
      rw [h23] at eB
      rw [nI_clamp (pw24 hs24)] at hQ
      unfold ordS ordV at hQ
      rw [eB, nI_clamp (pw24 hs24)] at hQ
      have hFl1 : Fr [27, 28, 29, 30] mem m1 := hF1.1
      have hB1 : Bk S.1 m1 := hB.fr hFl1 (by decide) (by decide) (by decide)
      have fin : ∀ (m5 : Mem) (T : Nat → Nat → Nat), TabOK (jcB S.1 (ouT S.1 s (bN S.1))) T (ouT S.1 s (bN S.1)).length → Fr [27, 28, 29, 30, 32, 33, 34] mem m5 → (∀ u, u < 8 → m5 33 0 u = 0) → Pl (ordQ S.1 s T) m5 → m5 27 0 8 = nI (stepsN (downB S.1) (ordQ S.1 s T)) → m5 27 0 9 = nI (stepsN (alkB S.1) (ordQ S.1 s T)) → Wp E (xm E (d + 4) mX8_order Q) mX8_order 39 [some (pR 0 0), some (pI (nI s))] [] m5 := by
        intro m5 T hT hF5 hz5 hP5 e8 e9
        refine r_aload_0 (q := 40) dX8_order_39 rfl ?_
        refine r_getR (k := 6) (q := 43) f_RX8_56_7 rfl rfl dX8_order_40 rfl ?_
        refine r_getI (k := 8) (q := 46) f_RX8_163_3 rfl rfl dX8_order_43 rfl ?_
        rw [e8]
        refine r_iret rfl dX8_order_46 (?_)
        refine hQ m5 T (fun _ => hT) (Fc.fr Fc.rf hF5 (by decide)) ?_
        obtain ⟨c1, c2, c3, c4, c5, c6⟩ := hC
        exact ⟨c1.fr hF5 (by decide) (by decide) (by decide), c2.fr hF5 (by decide) (by decide) (by decide), by rw [hF5 0 (by decide)]; exact c3, ⟨c4.1.fr hF5 (by decide) (by decide), c4.2.1.fr hF5 (by decide) (by decide), c4.2.2.fr hF5 (by decide) (by decide)⟩, ⟨hP5.1, e9, hP5.2⟩, hz5⟩
      refine r_aload_0 (q := 29) dX8_order_28 rfl ?_
      refine r_getR (k := 6) (q := 32) f_RX8_56_7 rfl rfl dX8_order_29 rfl ?_
      refine r_aload_0 (q := 33) dX8_order_32 rfl ?_
      refine r_getR (k := 0) (q := 36) f_RX8_12_7 rfl rfl dX8_order_33 rfl ?_
      refine r_callV1v (M' := mX3_arrange) (q := 39) mk_X3_arrange mi_X3_arrange k_576 rfl rfl rfl rfl (Nat.le_of_ble_eq_true rfl) rm_xm dX8_order_36 rfl (Call.of [some (pR 27 0), some (pR 1 0)] mk_X3_arrange rfl (Nat.le_of_ble_eq_true rfl) (fun _ => ?_))
      refine r_aload_0 (q := 1) dX3_arrange_0 rfl ?_
      refine r_aload_1 (q := 2) dX3_arrange_1 rfl ?_
      refine r_callV1v (M' := mX3_reckonJoinCosts) (q := 5) mk_X3_reckonJoinCosts mi_X3_reckonJoinCosts k_580 rfl rfl rfl rfl (Nat.le_of_ble_eq_true rfl) rm_xm dX3_arrange_2 rfl (reckonJoinCosts_ok hB1 hO1 hl8 (fun u hu => (ou_lt hWF.1 s hu).2) (fun m2 hF2 hJ2 => ?_))
      have hz2 : ∀ u, u < 8 → m2 33 0 u = 0 := fun u hu => by rw [hF2 33 (by decide), hFl1 33 (by decide)]; exact hC.2.2.2.2.2 u hu
      refine r_aload_0 (q := 6) dX3_arrange_5 rfl ?_
      refine r_callV0v (M' := mX3_reckonRestCosts) (q := 9) mk_X3_reckonRestCosts mi_X3_reckonRestCosts k_591 rfl rfl rfl rfl (Nat.le_of_ble_eq_true rfl) rm_xm dX3_arrange_6 rfl (reckonRestCosts_ok (jc := jcB S.1 (ouT S.1 s (bN S.1))) (by rw [hF2 27 (by decide)]; exact hO1.1) hl8 (jcB_le S.1 _) hJ2 hz2 (fun m3 T hF3 hz3 hT3 hTk3 => ?_))
      have hO3 : Ouk (ouT S.1 s (bN S.1)) m3 := by
        unfold Ouk
        rw [hF3 27 (by decide), hF3 28 (by decide), hF3 29 (by decide), hF3 30 (by decide), hF2 27 (by decide), hF2 28 (by decide), hF2 29 (by decide), hF2 30 (by decide)]
        exact hO1
      refine r_aload_0 (q := 10) dX3_arrange_9 rfl ?_
      refine r_callV0v (M' := mX3_placeUnits) (q := 13) mk_X3_placeUnits mi_X3_placeUnits k_604 rfl rfl rfl rfl (Nat.le_of_ble_eq_true rfl) rm_xm dX3_arrange_10 rfl (placeUnits_ok (jc := jcB S.1 (ouT S.1 s (bN S.1))) (T := T) hO3 hl8 (jcB_le S.1 _) hT3 (by unfold Jk; rw [hF3 32 (by decide)]; exact hJ2) hTk3 (ou_apart S.1 s) (fun u hu => (ou_lt hWF.1 s hu).1) (fun m4 hF4 h74 hP4 => ?_))
      have hF14 : Fr [27, 28, 29, 30, 32, 33, 34] mem m4 := (((hFl1.mono (by decide)).tr (hF2.mono (by decide))).tr (hF3.mono (by decide))).tr (hF4.mono (by decide))
      refine r_aload_0 (q := 14) dX3_arrange_13 rfl ?_
      refine r_aload_1 (q := 15) dX3_arrange_14 rfl ?_
      refine r_callV1v (M' := mX3_countSteps) (q := 18) mk_X3_countSteps mi_X3_countSteps k_612 rfl rfl rfl rfl (Nat.le_of_ble_eq_true rfl) rm_xm dX3_arrange_15 rfl (countSteps_ok (hB.fr hF14 (by decide) (by decide) (by decide)) hP4 (ordQ_len hl8 hT3) (fun x hx => ordL_lt hx) (fun m5 hF5 h75 e8 e9 => ?_))
      refine r_vret rfl dX3_arrange_18 (?_)
      have hF15 : Fr [27, 28, 29, 30, 32, 33, 34] mem m5 := hF14.tr (hF5.mono (by decide))
      refine fin m5 T hT3 hF15 (fun u hu => ?_) ⟨(h75 7 (by decide) (by decide)).trans hP4.1, ?_⟩ e8 e9
      · rw [hF5 33 (by decide), hF4 33 (by decide)]; exact hz3 u hu
      · rw [hF5 34 (by decide)]; exact hP4.2
    · rw [b2_eq0.mp h23] at eB
      exact fail m1 hF1 eB
end O4
