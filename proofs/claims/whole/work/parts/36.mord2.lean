/-! THE REFERENCE: lays -/
def usT (r : Nat → Nat) : Nat → List Nat
  | 0 => []
  | i + 1 => usT r i ++ [r i]
theorem usT_len (r : Nat → Nat) : ∀ k, (usT r k).length = k
  | 0 => rfl
  | k + 1 => by unfold usT; rw [List.length_append, usT_len r k]; rfl
theorem usT_in (r : Nat → Nat) (v : Nat) : ∀ k, v ∈ usT r k ↔ ∃ i, i < k ∧ r i = v
  | 0 => by simp [usT]
  | k + 1 => by
    unfold usT
    rw [List.mem_append, usT_in r v k, List.mem_singleton]
    constructor
    · rintro (⟨i, h1, h2⟩ | h)
      · exact ⟨i, by omega, h2⟩
      · exact ⟨k, by omega, h.symm⟩
    · rintro ⟨i, h1, h2⟩
      by_cases e : i = k
      · subst e; exact Or.inr h2.symm
      · exact Or.inl ⟨i, by omega, h2⟩
theorem usT_nodup {m : Nat} {r : Nat → Nat} (hr : PermF m r) : ∀ k, k ≤ m → (usT r k).Nodup
  | 0, _ => List.nodup_nil
  | k + 1, h => by
    unfold usT
    rw [List.nodup_append]
    refine ⟨usT_nodup hr k (by omega), by simp, fun a ha b hb e => ?_⟩
    rw [List.mem_singleton] at hb
    obtain ⟨i, h1, h2⟩ := (usT_in r a k).mp ha
    have := hr.2.1 i k (by omega) (by omega) (by rw [h2, e, hb])
    omega
theorem usT_congr {r p : Nat → Nat} : ∀ k, (∀ i, i < k → r i = p i) → usT r k = usT p k
  | 0, _ => rfl
  | k + 1, h => by
    unfold usT
    rw [usT_congr k (fun i hi => h i (by omega)), h k (by omega)]
def lay (B : BD) (s : Nat) (r : Nat → Nat) : List Nat := ordL (ouT B s (bN B)) (usT r (ouT B s (bN B)).length)
theorem uniB_tb (Ou : List (Nat × Nat)) (q : Nat) : ∀ (us : List Nat), (uniB Ou us).testBit q = true ↔ ∃ u, u ∈ us ∧ (Ou.getD u pz).1.testBit q = true
  | [] => by simp [uniB]
  | u :: t => by
    have ih := uniB_tb Ou q t
    unfold uniB
    rw [Nat.testBit_or, Bool.or_eq_true, ih]
    constructor
    · rintro (h | ⟨v, h1, h2⟩)
      · exact ⟨u, List.mem_cons_self, h⟩
      · exact ⟨v, List.mem_cons_of_mem _ h1, h2⟩
    · rintro ⟨v, h1, h2⟩
      rcases List.mem_cons.mp h1 with e | e
      · subst e; exact Or.inl h2
      · exact Or.inr ⟨v, e, h2⟩
theorem ouT_mem {B : BD} {s r : Nat} (h : lowQ (wholeB B r &&& s) r = true) : ∀ k, r < k → ∃ j, j < (ouT B s k).length ∧ (ouT B s k).getD j pz = (wholeB B r &&& s, r)
  | 0, hk => absurd hk (Nat.not_lt_zero r)
  | k + 1, hk => by
    have eu : ouT B s (k + 1) = if lowQ (wholeB B k &&& s) k then ouT B s k ++ [(wholeB B k &&& s, k)] else ouT B s k := rfl
    by_cases e : r = k
    · subst e
      rw [eu, if_pos h]
      refine ⟨(ouT B s r).length, by simp, ?_⟩
      rw [List.getD_eq_getElem?_getD, List.getElem?_append_right (Nat.le_refl _), Nat.sub_self]
      rfl
    · obtain ⟨j, h1, h2⟩ := ouT_mem h k (by omega)
      rw [eu]
      split
      · refine ⟨j, by rw [List.length_append]; omega, ?_⟩
        rw [List.getD_eq_getElem?_getD, List.getElem?_append_left h1, ← List.getD_eq_getElem?_getD]
        exact h2
      · exact ⟨j, h1, h2⟩
theorem ou_cover {B : BD} {s q : Nat} (hs : s < 2 ^ bN B) (h : s.testBit q = true) : ∃ j, j < (ouT B s (bN B)).length ∧ ((ouT B s (bN B)).getD j pz).1.testBit q = true := by
  have hq : q < bN B := by
    rcases Nat.lt_or_ge q (bN B) with z | z
    · exact z
    · rw [tb_hi hs z] at h; cases h
  have hq1 : (wholeB B q &&& s).testBit q = true := by rw [Nat.testBit_and, wholeB_self, h]; rfl
  obtain ⟨r, h1, h2⟩ := pk_least (fun i => (wholeB B q &&& s).testBit i = true) ⟨q, hq1⟩
  have h1' : (wholeB B q).testBit r = true ∧ s.testBit r = true := by
    have := h1
    rw [Nat.testBit_and, Bool.and_eq_true] at this
    exact this
  have hr : r < bN B := by
    rcases Nat.lt_or_ge r (bN B) with z | z
    · exact z
    · rw [tb_hi hs z] at h1'; cases h1'.2
  have e := whole_eq hq hr h1'.1 (wholeB_self B r)
  have hl : lowQ (wholeB B r &&& s) r = true := by
    rw [← e]
    unfold lowQ
    rw [h1, (allb_iff _ _).mpr (fun x hx => by
      have := h2 x hx
      cases hb : (wholeB B q &&& s).testBit x with
      | false => rfl
      | true => exact absurd hb this)]
    rfl
  obtain ⟨j, g1, g2⟩ := ouT_mem hl (bN B) hr
  exact ⟨j, g1, by rw [g2, ← e]; exact hq1⟩
theorem uni_all {B : BD} {s : Nat} (hs : s < 2 ^ bN B) {us : List Nat} (hu : ∀ v, v ∈ us ↔ v < (ouT B s (bN B)).length) : uniB (ouT B s (bN B)) us = s := by
  apply tb_ext
  intro q
  rw [Bool.eq_iff_iff, uniB_tb]
  constructor
  · rintro ⟨u, h1, h2⟩
    obtain ⟨q', -, -, h3, -⟩ := ouT_ex B s (bN B) u ((hu u).mp h1)
    rw [h3, Nat.testBit_and, Bool.and_eq_true] at h2
    exact h2.2
  · intro h
    obtain ⟨j, h1, h2⟩ := ou_cover hs h
    exact ⟨j, (hu j).mpr h1, h2⟩
theorem perm_us {m : Nat} {r : Nat → Nat} (hr : PermF m r) (v : Nat) : v ∈ usT r m ↔ v < m := by
  rw [usT_in]
  constructor
  · rintro ⟨i, h1, h2⟩; rw [← h2]; exact hr.1 i h1
  · intro h; obtain ⟨i, h1, h2⟩ := hr.2.2 v h; exact ⟨i, h1, h2⟩
theorem lay_len {B : BD} {s : Nat} (hs : s < 2 ^ bN B) {r : Nat → Nat} (hr : PermF (ouT B s (bN B)).length r) : (lay B s r).length = popN s := by
  unfold lay
  rw [ordL_len (ou_apart B s) _ (usT_nodup hr _ (Nat.le_refl _)) (fun v hv => (perm_us hr v).mp hv), uni_all hs (perm_us hr)]
theorem lay_congr {B : BD} {s : Nat} {r p : Nat → Nat} (h : sameR (ouT B s (bN B)).length r p) : lay B s r = lay B s p := by
  unfold lay
  rw [usT_congr _ h]
def Um (Ou : List (Nat × Nat)) (mem : Mem) : Prop := ∀ u, u < Ou.length → mem 55 0 u = nI (Ou.getD u pz).2
def Lay (l : List Nat) (mem : Mem) : Prop := ∀ i, i < l.length → mem 58 0 i = nI (l.getD i 0)
theorem Lay.snoc {l : List Nat} {x : Nat} {mem : Mem} (h : Lay l mem) : Lay (l ++ [x]) (mset mem 58 0 l.length (nI x)) := by
  intro i hi
  rw [List.length_append, List.length_singleton] at hi
  rw [mset_self]
  unfold upd
  by_cases e : i = l.length
  · rw [if_pos e, e, List.getD_eq_getElem?_getD, List.getElem?_append_right (Nat.le_refl _), Nat.sub_self]
    rfl
  · rw [if_neg e, List.getD_eq_getElem?_getD, List.getElem?_append_left (by omega), ← List.getD_eq_getElem?_getD]
    exact h i (by omega)
theorem bitsT_lo {s q : Nat} : ∀ k, (∀ i, i < k → s.testBit i = false) → bitsT s k = []
  | 0, _ => rfl
  | k + 1, h => by
    unfold bitsT
    rw [h k (by omega), if_neg (by decide), bitsT_lo (q := q) k (fun i hi => h i (by omega))]
theorem bitsT_hi {s n : Nat} (hs : s < 2 ^ n) : ∀ k, bitsT s (n + k) = bitsT s n
  | 0 => rfl
  | k + 1 => by
    show bitsT s (n + k + 1) = _
    unfold bitsT
    rw [tb_hi hs (by omega), if_neg (by decide), bitsT_hi hs k]
    cases n with
    | zero => rfl
    | succ n => rfl
section LY
variable {E : En} {d : Nat} {mem : Mem} {Q : Int32 → Mem → Prop} {B : BD}
theorem mlays_ok {s : Nat} {r : Nat → Nat} (hB : Bm B mem) (hW : WFB B) (hs : s < 2 ^ bN B) (hl : (ouT B s (bN B)).length ≤ 8) (hu : mem 36 0 23 = nI (ouT B s (bN B)).length) (hU : Um (ouT B s (bN B)) mem) (hr : PermF (ouT B s (bN B)).length r) (hR : Rw (ouT B s (bN B)).length r mem) (hQ : ∀ mem', Fr [58] mem mem' → Lay (lay B s r) mem' → Q 0 mem') : Call E (d + 1) mX9_lays [pR 36 0, pI (nI s)] mem Q := by
  refine Call.of [some (pR 36 0), some (pI (nI s)), none, none, none, none] mk_X9_lays rfl (Nat.le_of_ble_eq_true rfl) (fun _ => ?_)
  have h24 := hW.1
  have hs24 : s < 2 ^ 24 := Nat.lt_of_lt_of_le hs (pw_le h24)
  have hA := ou_apart B s
  unfold lay at hQ
  have hex := ouT_ex B s (bN B)
  generalize ouT B s (bN B) = Ou at *
  refine r_iconst (q := 1) 0 (by decide) dX9_lays_0 rfl ?_
  refine r_istore_2 (q := 2) (by decide) dX9_lays_1 rfl ?_
  refine r_iconst (q := 3) 0 (by decide) dX9_lays_2 rfl ?_
  refine r_istore_3 (q := 4) (by decide) dX9_lays_3 rfl ?_
  suffices H : ∀ (k i : Nat) (m : Mem) (o4 o5 : Option PV), Ou.length - i < k → i ≤ Ou.length → Fr [58] mem m → Lay (ordL Ou (usT r i)) m → Wp E (xm E (d + 1) mX9_lays Q) mX9_lays 4 [some (pR 36 0), some (pI (nI s)), some (pI (nI (ordL Ou (usT r i)).length)), some (pI (nI i)), o4, o5] [] m from H (Ou.length + 1) 0 mem _ _ (by omega) (by omega) Fr.rf (fun i hi => absurd hi (Nat.not_lt_zero i))
  intro k
  induction k with
  | zero => intro i _ _ _ h; omega
  | succ k ih =>
    intro i m o4 o5 h1 h2 hF hLy
    refine r_iload_3 (q := 5) dX9_lays_4 rfl ?_
    refine r_aload_0 (q := 6) dX9_lays_5 rfl ?_
    refine r_getI (k := 23) (q := 9) f_RX9_161_8 rfl rfl dX9_lays_6 rfl ?_
    rw [show m 36 0 23 = nI Ou.length by rw [hF 36 (by decide)]; exact hu]
    refine r_icmp_ge (q := 12) 91 dX9_lays_9 (by decide) rfl (fun h9 => ?_) (fun h9 => ?_)
    · have hi := nI_ge_of (by omega) (by omega) h9
      have hi : i = Ou.length := by omega
      subst hi
      refine r_vret rfl dX9_lays_91 (?_)
      exact hQ m hF hLy
    · have hi : i < Ou.length := nI_lt_of (by omega) h9
      have hri := hr.1 i hi
      obtain ⟨q, q1, q2, q3, -⟩ := hex (r i) hri
      have eU : ordL Ou (usT r (i + 1)) = ordL Ou (usT r i) ++ bitsT (wholeB B q &&& s) 24 := by
        rw [usT, ordL_app]
        unfold ordL
        rw [List.flatMap_singleton, q3]
      have hul : (wholeB B q &&& s) < 2 ^ bN B := and_lt_l (wholeB_ltN q1)
      have elen : (ordL Ou (usT r i)).length + (bitsT (wholeB B q &&& s) 24).length ≤ 24 := by
        rw [← List.length_append, ← eU, ordL_len hA _ (usT_nodup hr (i + 1) (by omega)) (fun v hv => by
          obtain ⟨x, hx1, hx2⟩ := (usT_in r v (i + 1)).mp hv
          rw [← hx2]
          exact hr.1 x (by omega))]
        exact popN_le _
      have hlow : bitsT (wholeB B q &&& s) q = [] := bitsT_lo (q := q) q (fun j hj => by
        unfold lowQ at q2
        rw [Bool.and_eq_true] at q2
        have := (allb_iff _ _).mp q2.2 j hj
        cases hb : (wholeB B q &&& s).testBit j with
        | false => rfl
        | true => rw [hb] at this; cases this)
      refine r_aload_0 (q := 13) dX9_lays_12 rfl ?_
      refine r_getR (k := 26) (q := 16) f_RX9_71_8 rfl rfl dX9_lays_13 rfl ?_
      refine r_aload_0 (q := 17) dX9_lays_16 rfl ?_
      refine r_getR (k := 27) (q := 20) f_RX9_74_8 rfl rfl dX9_lays_17 rfl ?_
      refine r_iload_3 (q := 21) dX9_lays_20 rfl ?_
      refine r_iald (q := 22) _ rfl rfl (by first | omega | assumption | decide) dX9_lays_21 rfl ?_
      rw [show m 56 0 i = nI (r i) by rw [hF 56 (by decide)]; exact hR i hi]
      refine r_iald (q := 23) _ rfl rfl (by first | omega | assumption | decide) dX9_lays_22 rfl ?_
      rw [show m 55 0 (r i) = nI q by rw [hF 55 (by decide), hU (r i) hri, q3]]
      refine r_istore_4 (q := 25) (by decide) dX9_lays_23 rfl ?_
      refine r_iload_4 (q := 27) dX9_lays_25 rfl ?_
      refine r_istore_5 (q := 29) (by decide) dX9_lays_27 rfl ?_
      suffices H2 : ∀ (j x : Nat) (m : Mem), bN B - x < j → q ≤ x → x ≤ bN B → Fr [58] mem m → Lay (ordL Ou (usT r i) ++ bitsT (wholeB B q &&& s) x) m → Wp E (xm E (d + 1) mX9_lays Q) mX9_lays 29 [some (pR 36 0), some (pI (nI s)), some (pI (nI (ordL Ou (usT r i) ++ bitsT (wholeB B q &&& s) x).length)), some (pI (nI i)), some (pI (nI q)), some (pI (nI x))] [] m from by
        have := H2 (bN B + 1) q m (by omega) (by omega) (by omega) hF (by rw [hlow, List.append_nil]; exact hLy)
        rw [hlow, List.append_nil] at this
        exact this
      intro j
      induction j with
      | zero => intro x _ h; omega
      | succ j jh =>
        intro x m g1 gq g2 hF hLy
        have hBm : Bm B m := hB.fr hF (by simp)
        refine r_iload_5 (q := 31) dX9_lays_29 rfl ?_
        refine r_aload_0 (q := 32) dX9_lays_31 rfl ?_
        refine r_getI (k := 0) (q := 35) f_RX9_83_8 rfl rfl dX9_lays_32 rfl ?_
        rw [hBm.1]
        refine r_icmp_ge (q := 38) 85 dX9_lays_35 (by decide) rfl (fun h35 => ?_) (fun h35 => ?_)
        · have hx := nI_ge_of (by omega) (by omega) h35
          have hx : x = bN B := by omega
          subst hx
          have e24 : bitsT (wholeB B q &&& s) (bN B) = bitsT (wholeB B q &&& s) 24 := by
            have := bitsT_hi hul (24 - bN B)
            rw [show bN B + (24 - bN B) = 24 by omega] at this
            exact this.symm
          rw [e24, ← eU] at hLy ⊢
          refine r_iinc_3 (q := 88) _ (nI_inc _) (by decide) dX9_lays_85 rfl ?_
          refine r_goto 4 dX9_lays_88 (by decide) ?_
          exact ih (i + 1) m _ _ (by omega) (by omega) hF hLy
        · have hx : x < bN B := nI_lt_of (by omega) h35
          have ub : (wholeB B q &&& s).testBit x = ((decide (q = x) || mateB B q x) && s.testBit x) := by
            rw [Nat.testBit_and, wholeB_tb, decide_eq_true hx, Bool.true_and]
          have no : (wholeB B q &&& s).testBit x = false → Wp E (xm E (d + 1) mX9_lays Q) mX9_lays 79 [some (pR 36 0), some (pI (nI s)), some (pI (nI (ordL Ou (usT r i) ++ bitsT (wholeB B q &&& s) x).length)), some (pI (nI i)), some (pI (nI q)), some (pI (nI x))] [] m := by
            intro hb
            have e : bitsT (wholeB B q &&& s) (x + 1) = bitsT (wholeB B q &&& s) x := by rw [bitsT, hb]; rfl
            rw [← e] at hLy ⊢
            refine r_iinc_5 (q := 82) _ (nI_inc _) (by decide) dX9_lays_79 rfl ?_
            refine r_goto 29 dX9_lays_82 (by decide) ?_
            exact jh (x + 1) m (by omega) (by omega) (by omega) hF hLy
          have yes : (wholeB B q &&& s).testBit x = true → Wp E (xm E (d + 1) mX9_lays Q) mX9_lays 68 [some (pR 36 0), some (pI (nI s)), some (pI (nI (ordL Ou (usT r i) ++ bitsT (wholeB B q &&& s) x).length)), some (pI (nI i)), some (pI (nI q)), some (pI (nI x))] [] m := by
            intro hb
            have e : bitsT (wholeB B q &&& s) (x + 1) = bitsT (wholeB B q &&& s) x ++ [x] := by rw [bitsT, hb]; rfl
            have hlt : (ordL Ou (usT r i) ++ bitsT (wholeB B q &&& s) x).length < 24 := by
              have c1 := cnt_mono (fun i => (wholeB B q &&& s).testBit i) (show x + 1 ≤ 24 by omega)
              rw [← bitsT_len, ← bitsT_len, e, List.length_append, List.length_singleton] at c1
              rw [List.length_append]
              omega
            have hL2 := hLy.snoc (x := x)
            rw [List.append_assoc, ← e] at hL2
            refine r_aload_0 (q := 69) dX9_lays_68 rfl ?_
            refine r_getR (k := 29) (q := 72) f_RX9_80_8 rfl rfl dX9_lays_69 rfl ?_
            refine r_iload_2 (q := 73) dX9_lays_72 rfl ?_
            refine r_iload_5 (q := 75) dX9_lays_73 rfl ?_
            refine r_iast (q := 76) _ rfl rfl (by first | omega | assumption | decide) dX9_lays_75 rfl ?_
            refine r_iinc_2 (q := 79) _ (nI_inc _) (by decide) dX9_lays_76 rfl ?_
            have el : (ordL Ou (usT r i) ++ bitsT (wholeB B q &&& s) x).length + 1 = (ordL Ou (usT r i) ++ bitsT (wholeB B q &&& s) (x + 1)).length := by
              rw [e, List.length_append, List.length_append, List.length_append, List.length_singleton, Nat.add_assoc]
            rw [el]
            refine r_iinc_5 (q := 82) _ (nI_inc _) (by decide) dX9_lays_79 rfl ?_
            refine r_goto 29 dX9_lays_82 (by decide) ?_
            exact jh (x + 1) _ (by omega) (by omega) (by omega) (hF.mset (by simp)) hL2
          refine r_iload_1 (q := 39) dX9_lays_38 rfl ?_
          refine r_iload_5 (q := 41) dX9_lays_39 rfl ?_
          refine r_callS2i (M' := mX9_has) (q := 44) mk_X9_has ms_X9_has k_746 rfl (Nat.le_of_ble_eq_true rfl) rm_xm dX9_lays_41 rfl (mhas_ok (pw24 hs24) (by omega) ?_)
          refine r_if_eq (q := 47) 79 dX9_lays_44 (by decide) rfl (fun h44 => ?_) (fun h44 => ?_)
          · exact no (by rw [ub, b2_eq0.mp h44, Bool.and_false])
          · have h44 := b2_ne0.mp h44
            refine r_iload_5 (q := 49) dX9_lays_47 rfl ?_
            refine r_iload_4 (q := 51) dX9_lays_49 rfl ?_
            refine r_icmp_eq (q := 54) 68 dX9_lays_51 (by decide) rfl (fun h51 => ?_) (fun h51 => ?_)
            · have h51 : x = q := nI_inj (by omega) (by omega) h51
              exact yes (by rw [ub, decide_eq_true h51.symm, h44]; rfl)
            · have h51 : ¬ q = x := fun z => h51 (by rw [z])
              refine r_aload_0 (q := 55) dX9_lays_54 rfl ?_
              refine r_iload_4 (q := 57) dX9_lays_55 rfl ?_
              refine r_iload_5 (q := 59) dX9_lays_57 rfl ?_
              refine r_callV2i (M' := mX9_areOnePassage) (q := 62) mk_X9_areOnePassage mi_X9_areOnePassage k_820 rfl rfl rfl rfl (Nat.le_of_ble_eq_true rfl) rm_xm dX9_lays_59 rfl (mone_ok hBm (by omega) (by omega) ?_)
              refine r_if_ne (q := 65) 68 dX9_lays_62 (by decide) rfl (fun h62 => ?_) (fun h62 => ?_)
              · exact yes (by rw [ub, b2_ne0.mp h62, h44]; simp)
              · refine r_goto 79 dX9_lays_65 (by decide) ?_
                exact no (by rw [ub, b2_eq0.mp h62, decide_eq_false h51]; rfl)
end LY
