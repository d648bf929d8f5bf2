/-! THE CLASS: sums, bounds, spread -/
theorem mset_g (mem : Mem) {g g' : Nat} (j i : Nat) (v : Int32) (h : g' ≠ g) : mset mem g j i v g' = mem g' := by
  funext j' i'
  unfold mset
  rw [if_neg (fun q => h q.1)]
theorem mset_at (mem : Mem) (g j i : Nat) (v : Int32) : mset mem g j i v g j i = v := by
  unfold mset
  rw [if_pos ⟨rfl, rfl, rfl⟩]
theorem mset_mset (mem : Mem) (g j i : Nat) (v w : Int32) : mset (mset mem g j i v) g j i w = mset mem g j i w := by
  funext g' j' i'
  unfold mset
  by_cases h : g' = g ∧ j' = j ∧ i' = i
  · rw [if_pos h, if_pos h]
  · rw [if_neg h, if_neg h, if_neg h]
/-- a whole row at once -/
def mrow (mem : Mem) (g j : Nat) (f : Nat → Int32) : Mem := fun g' j' => if g' = g ∧ j' = j then f else mem g' j'
theorem mrow_g (mem : Mem) {g g' : Nat} (j : Nat) (f : Nat → Int32) (h : g' ≠ g) : mrow mem g j f g' = mem g' := by
  funext j'
  unfold mrow
  rw [if_neg (fun q => h q.1)]
theorem mrow_at (mem : Mem) (g j : Nat) (f : Nat → Int32) : mrow mem g j f g j = f := by
  unfold mrow
  rw [if_pos ⟨rfl, rfl⟩]
theorem mrow_ne (mem : Mem) {g j g' j' : Nat} (f : Nat → Int32) (h : ¬ (g' = g ∧ j' = j)) : mrow mem g j f g' j' = mem g' j' := by
  unfold mrow
  rw [if_neg h]
theorem mrow_id (mem : Mem) (g j : Nat) : mrow mem g j (mem g j) = mem := by
  funext g' j'
  unfold mrow
  by_cases h : g' = g ∧ j' = j
  · rw [if_pos h, h.1, h.2]
  · rw [if_neg h]
theorem mset_mrow (mem : Mem) (g j i : Nat) (v : Int32) (f : Nat → Int32) : mset (mrow mem g j f) g j i v = mrow mem g j (upd f i v) := by
  funext g' j' i'
  unfold mset mrow upd
  by_cases h : g' = g ∧ j' = j
  · obtain ⟨rfl, rfl⟩ := h
    by_cases e : i' = i <;> simp [e]
  · rw [if_neg (fun q => h ⟨q.1, q.2.1⟩), if_neg h, if_neg h]
theorem mset_row (mem : Mem) (g j i : Nat) (v : Int32) : mset mem g j i v = mrow mem g j (upd (mem g j) i v) := by
  have := mset_mrow mem g j i v (mem g j)
  rwa [mrow_id] at this
theorem Bk.mset {B : BD} {mem : Mem} {g j i : Nat} {v : Int32} (hB : Bk B mem) (h1 : 1 ≠ g) (h3 : 3 ≠ g) (h4 : 4 ≠ g) : Bk B (mset mem g j i v) := by
  unfold Bk
  rw [mset_g _ _ _ _ h1, mset_g _ _ _ _ h3, mset_g _ _ _ _ h4]
  exact hB
theorem Bk.mrow {B : BD} {mem : Mem} {g j : Nat} {f : Nat → Int32} (hB : Bk B mem) (h1 : 1 ≠ g) (h3 : 3 ≠ g) (h4 : 4 ≠ g) : Bk B (mrow mem g j f) := by
  unfold Bk
  rw [mrow_g _ _ _ h1, mrow_g _ _ _ h3, mrow_g _ _ _ h4]
  exact hB
theorem Lk.mset {L : LD} {mem : Mem} {g j i : Nat} {v : Int32} (hB : Lk L mem) (h1 : 6 ≠ g) (h3 : 7 ≠ g) (h4 : 8 ≠ g) : Lk L (mset mem g j i v) := by
  unfold Lk
  rw [mset_g _ _ _ _ h1, mset_g _ _ _ _ h3, mset_g _ _ _ _ h4]
  exact hB
theorem Lk.mrow {L : LD} {mem : Mem} {g j : Nat} {f : Nat → Int32} (hB : Lk L mem) (h1 : 6 ≠ g) (h3 : 7 ≠ g) (h4 : 8 ≠ g) : Lk L (mrow mem g j f) := by
  unfold Lk
  rw [mrow_g _ _ _ h1, mrow_g _ _ _ h3, mrow_g _ _ _ h4]
  exact hB
def sumRow (B : BD) (s : Nat) (r : Nat → Int32) (k : Nat) : Nat → Int32 := fun i => if i < k then nI (sumN B s i) else r i
theorem nI_ge_of {a b : Nat} (ha : a < 2 ^ 31) (hb : b < 2 ^ 31) (h : nI a ≤ nI b) : a ≤ b := (nI_leI ha hb).mp h
theorem nI_lt_of {a b : Nat} (hb : b < 2 ^ 31) (h : ¬ nI a ≤ nI b) : b < a := by
  rcases Nat.lt_or_ge b a with z | z
  · exact z
  · exact absurd (nI_le z hb) h
theorem rm_0 {E : En} {d : Nat} {M : MI_} {Q : Int32 → Mem → Prop} : RmOK 0 (xm E (d + 1) M Q) := ⟨Nat.le_add_left 1 d, by show 64 * 0 + 64 ≤ 64 * (d + 1); omega, Nat.le_refl _, Nat.le_refl _⟩
section LM
variable {E : En} {d : Nat} {mem : Mem} {Q : Int32 → Mem → Prop} {B : BD} {L : LD}
theorem sumUp_ok {s g j : Nat} (hB : Bk B mem) (hW : WFB B) (hs : s < 2 ^ 24) (hg : garr g = some (false, 10)) (hQ : Q 0 (mrow mem g j (sumRow B s (mem g j) 10))) : Call E (d + 1) mX0_sumUp [pR 1 0, pI (nI s), pR g j] mem Q := by
  refine Call.of [some (pR 1 0), some (pI (nI s)), some (pR g j), none, none] mk_X0_sumUp rfl (Nat.le_of_ble_eq_true rfl) (fun _ => ?_)
  have h24 := hW.1
  have g1 : 1 ≠ g := fun z => by subst z; cases hg
  have g3 : 3 ≠ g := fun z => by subst z; cases hg
  have g4 : 4 ≠ g := fun z => by subst z; cases hg
  refine r_iconst (q := 1) 0 (by decide) dX0_sumUp_0 rfl ?_
  refine r_istore_3 (q := 2) (by decide) dX0_sumUp_1 rfl ?_
  suffices H : ∀ k b, 10 - b < k → b ≤ 10 → Wp E (xm E (d + 1) mX0_sumUp Q) mX0_sumUp 2 [some (pR 1 0), some (pI (nI s)), some (pR g j), some (pI (nI b)), none] [] (mrow mem g j (sumRow B s (mem g j) b)) from by
    have := H 11 0 (by omega) (by omega)
    rw [show sumRow B s (mem g j) 0 = mem g j from rfl, mrow_id] at this
    exact this
  intro k
  induction k with
  | zero => intro q h; omega
  | succ k ih =>
    intro b h1 h2
    refine r_iload_3 (q := 3) dX0_sumUp_2 rfl ?_
    refine r_bipush (q := 5) 10 (by decide) dX0_sumUp_3 rfl ?_
    refine r_icmp_ge (q := 8) 62 dX0_sumUp_5 (by decide) rfl (fun h5 => ?_) (fun h5 => ?_)
    · have hb := nI_ge_of (a := 10) (by decide) (by omega) h5
      have hb : b = 10 := by omega
      subst hb
      refine r_vret rfl dX0_sumUp_62 (?_)
      exact hQ
    · have hb : b < 10 := nI_lt_of (a := 10) (by omega) h5
      refine r_aload_2 (q := 9) dX0_sumUp_8 rfl ?_
      refine r_iload_3 (q := 10) dX0_sumUp_9 rfl ?_
      refine r_iconst (q := 11) 0 (by decide) dX0_sumUp_10 rfl ?_
      refine r_iast (q := 12) _ rfl hg hb dX0_sumUp_11 rfl ?_
      refine r_iconst (q := 13) 0 (by decide) dX0_sumUp_12 rfl ?_
      refine r_istore_4 (q := 15) (by decide) dX0_sumUp_13 rfl ?_
      suffices H2 : ∀ k q, bN B - q < k → q ≤ bN B → Wp E (xm E (d + 1) mX0_sumUp Q) mX0_sumUp 15 [some (pR 1 0), some (pI (nI s)), some (pR g j), some (pI (nI b)), some (pI (nI q))] [] (mset (mrow mem g j (sumRow B s (mem g j) b)) g j b (nI (sumf (fun q => if s.testBit q then wN B q b else 0) q))) from H2 (bN B + 1) 0 (by omega) (by omega)
      intro k2
      induction k2 with
      | zero => intro q h; omega
      | succ k2 ih2 =>
        intro q h3 h4
        have hB2 : ∀ v, Bk B (mset (mrow mem g j (sumRow B s (mem g j) b)) g j b v) := fun v => (hB.mrow g1 g3 g4).mset g1 g3 g4
        refine r_iload_4 (q := 17) dX0_sumUp_15 rfl ?_
        refine r_aload_0 (q := 18) dX0_sumUp_17 rfl ?_
        refine r_getI (k := 2) (q := 21) f_RX0_20_0 rfl rfl dX0_sumUp_18 rfl ?_
        rw [(hB2 _).1]
        refine r_icmp_ge (q := 24) 56 dX0_sumUp_21 (by decide) rfl (fun h21 => ?_) (fun h21 => ?_)
        · have hq := nI_ge_of (by omega) (by omega) h21
          have hq : q = bN B := by omega
          subst hq
          have e : mset (mrow mem g j (sumRow B s (mem g j) b)) g j b (nI (sumf (fun q => if s.testBit q then wN B q b else 0) (bN B))) = mrow mem g j (sumRow B s (mem g j) (b + 1)) := by
            rw [mset_mrow]
            congr 1
            funext i
            unfold upd sumRow sumN
            by_cases e : i = b
            · subst e; simp
            · rw [if_neg e]
              by_cases e2 : i < b
              · rw [if_pos e2, if_pos (by omega)]
              · rw [if_neg e2, if_neg (by omega)]
          rw [e]
          refine r_iinc_3 (q := 59) _ (nI_inc _) (by decide) dX0_sumUp_56 rfl ?_
          refine r_goto 2 dX0_sumUp_59 (by decide) ?_
          exact (ih (b + 1) (by omega) (by omega)).sub (by simp [lsub])
        · have hq : q < bN B := nI_lt_of (by omega) h21
          have J : ∀ x : Int32, nI (sumf (fun q => if s.testBit q then wN B q b else 0) q) + x = nI (sumf (fun q => if s.testBit q then wN B q b else 0) (q + 1)) → Wp E (xm E (d + 1) mX0_sumUp Q) mX0_sumUp 48 [some (pR 1 0), some (pI (nI s)), some (pR g j), some (pI (nI b)), some (pI (nI q))] [pI x, pI (nI (sumf (fun q => if s.testBit q then wN B q b else 0) q)), pI (nI b), pR g j] (mset (mrow mem g j (sumRow B s (mem g j) b)) g j b (nI (sumf (fun q => if s.testBit q then wN B q b else 0) q))) := by
            intro x hx
            refine r_iadd (q := 49) dX0_sumUp_48 rfl ?_
            rw [hx]
            refine r_iast (q := 50) _ rfl hg hb dX0_sumUp_49 rfl ?_
            rw [mset_mset]
            refine r_iinc_4 (q := 53) _ (nI_inc _) (by decide) dX0_sumUp_50 rfl ?_
            refine r_goto 15 dX0_sumUp_53 (by decide) ?_
            exact ih2 (q + 1) (by omega) (by omega)
          refine r_aload_2 (q := 25) dX0_sumUp_24 rfl ?_
          refine r_iload_3 (q := 26) dX0_sumUp_25 rfl ?_
          refine r_dup2 (q := 27) dX0_sumUp_26 rfl ?_
          refine r_iald (q := 28) _ rfl hg hb dX0_sumUp_27 rfl ?_
          rw [mset_at]
          refine r_iload_1 (q := 29) dX0_sumUp_28 rfl ?_
          refine r_iload_4 (q := 31) dX0_sumUp_29 rfl ?_
          refine r_callN2i (M' := mX8_contains) (q := 34) mk_X8_contains ms_X8_contains (by decide +kernel) rfl (Nat.le_of_ble_eq_true rfl) rm_xm dX0_sumUp_31 rfl (contains_ok (pw24 hs) (by omega) ?_)
          refine r_if_eq (q := 37) 47 dX0_sumUp_34 (by decide) rfl (fun h34 => ?_) (fun h34 => ?_)
          · refine r_iconst (q := 48) 0 (by decide) dX0_sumUp_47 rfl ?_
            exact J _ (by rw [sumf, b2_eq0.mp h34]; exact Int32.add_zero _)
          · refine r_aload_0 (q := 38) dX0_sumUp_37 rfl ?_
            refine r_iload_4 (q := 40) dX0_sumUp_38 rfl ?_
            refine r_iload_3 (q := 41) dX0_sumUp_40 rfl ?_
            refine r_callV2i (M' := mX0_weightOf) (q := 44) mk_X0_weightOf mi_X0_weightOf k_392 rfl rfl rfl rfl (Nat.le_of_ble_eq_true rfl) rm_xm dX0_sumUp_41 rfl (weightOf_ok (hB2 _) hW hq hb ?_)
            refine r_goto 48 dX0_sumUp_44 (by decide) ?_
            exact J _ (by rw [sumf, b2_ne0.mp h34, nI_add]; rfl)
theorem surelyBroken_ok {g j a b : Nat} {S Mo : Nat → Nat} (hL : Lk L mem) (hWL : WFL L) (hs : rdA mem g j 10 (fun i => nI (S i))) (hm : rdA mem a b 10 (fun i => nI (Mo i))) (hS : ∀ i, i < 10 → S i ≤ 100000) (hMo : ∀ i, i < 10 → Mo i ≤ 100000) (hQ : Q (nI (brokenB L S Mo)) mem) : Call E d mX2_surelyBroken [pR 5 0, pR g j, pR a b] mem Q := by
  refine Call.of [some (pR 5 0), some (pR g j), some (pR a b), none, none] mk_X2_surelyBroken rfl (Nat.le_of_ble_eq_true rfl) (fun _ => ?_)
  refine r_iconst (q := 1) 0 (by decide) dX2_surelyBroken_0 rfl ?_
  refine r_istore_3 (q := 2) (by decide) dX2_surelyBroken_1 rfl ?_
  refine r_iconst (q := 3) 0 (by decide) dX2_surelyBroken_2 rfl ?_
  refine r_istore_4 (q := 5) (by decide) dX2_surelyBroken_3 rfl ?_
  suffices H : ∀ k i, 10 - i < k → i ≤ 10 → Wp E (xm E d mX2_surelyBroken Q) mX2_surelyBroken 5 [some (pR 5 0), some (pR g j), some (pR a b), some (pI (nI (bset (fun b => decide (L.2.1 b < S b ∨ S b + Mo b < L.1 b)) i))), some (pI (nI i))] [] mem from H 11 0 (by omega) (by omega)
  intro k
  induction k with
  | zero => intro q h; omega
  | succ k ih =>
    intro i h1 h2
    refine r_iload_4 (q := 7) dX2_surelyBroken_5 rfl ?_
    refine r_bipush (q := 9) 10 (by decide) dX2_surelyBroken_7 rfl ?_
    refine r_icmp_ge (q := 12) 58 dX2_surelyBroken_9 (by decide) rfl (fun h9 => ?_) (fun h9 => ?_)
    · have hb := nI_ge_of (a := 10) (by decide) (by omega) h9
      have hb : i = 10 := by omega
      subst hb
      refine r_iload_3 (q := 59) dX2_surelyBroken_58 rfl ?_
      refine r_iret rfl dX2_surelyBroken_59 (?_)
      exact hQ
    · have hi : i < 10 := nI_lt_of (a := 10) (by omega) h9
      have hSi := hS i hi
      have hMi := hMo i hi
      have hLi := hWL i
      have T : L.2.1 i < S i ∨ S i + Mo i < L.1 i → Wp E (xm E d mX2_surelyBroken Q) mX2_surelyBroken 45 [some (pR 5 0), some (pR g j), some (pR a b), some (pI (nI (bset (fun b => decide (L.2.1 b < S b ∨ S b + Mo b < L.1 b)) i))), some (pI (nI i))] [] mem := by
        intro hT
        refine r_iload_3 (q := 46) dX2_surelyBroken_45 rfl ?_
        refine r_iconst (q := 47) 1 (by decide) dX2_surelyBroken_46 rfl ?_
        refine r_iload_4 (q := 49) dX2_surelyBroken_47 rfl ?_
        refine r_ishl (q := 50) dX2_surelyBroken_49 rfl ?_
        rw [nb_shl1 i (by omega)]
        refine r_ior (q := 51) dX2_surelyBroken_50 rfl ?_
        rw [nb_or, show bset (fun b => decide (L.2.1 b < S b ∨ S b + Mo b < L.1 b)) i ||| 2 ^ i = bset (fun b => decide (L.2.1 b < S b ∨ S b + Mo b < L.1 b)) (i + 1) by rw [bset, if_pos (decide_eq_true hT)]]
        refine r_istore_3 (q := 52) (by decide) dX2_surelyBroken_51 rfl ?_
        refine r_iinc_4 (q := 55) _ (nI_inc _) (by decide) dX2_surelyBroken_52 rfl ?_
        refine r_goto 5 dX2_surelyBroken_55 (by decide) ?_
        exact ih (i + 1) (by omega) (by omega)
      refine r_aload_1 (q := 13) dX2_surelyBroken_12 rfl ?_
      refine r_iload_4 (q := 15) dX2_surelyBroken_13 rfl ?_
      refine r_rd hs (q := 16) _ rfl (by first | omega | assumption | decide) dX2_surelyBroken_15 rfl ?_
      refine r_aload_0 (q := 17) dX2_surelyBroken_16 rfl ?_
      refine r_getR (k := 1) (q := 20) f_RX2_15_2 rfl rfl dX2_surelyBroken_17 rfl ?_
      refine r_iload_4 (q := 22) dX2_surelyBroken_20 rfl ?_
      refine r_iald (q := 23) _ rfl rfl (by first | omega | assumption | decide) dX2_surelyBroken_22 rfl ?_
      rw [(hL i).2.1]
      refine r_icmp_gt (q := 26) 45 dX2_surelyBroken_23 (by decide) rfl (fun h23 => ?_) (fun h23 => ?_)
      · exact T (Or.inl ((nI_ltI (by omega) (by omega)).mp h23))
      · have h23 : ¬ L.2.1 i < S i := fun z => h23 (nI_lt z (by omega))
        refine r_aload_1 (q := 27) dX2_surelyBroken_26 rfl ?_
        refine r_iload_4 (q := 29) dX2_surelyBroken_27 rfl ?_
        refine r_rd hs (q := 30) _ rfl (by first | omega | assumption | decide) dX2_surelyBroken_29 rfl ?_
        refine r_aload_2 (q := 31) dX2_surelyBroken_30 rfl ?_
        refine r_iload_4 (q := 33) dX2_surelyBroken_31 rfl ?_
        refine r_rd hm (q := 34) _ rfl (by first | omega | assumption | decide) dX2_surelyBroken_33 rfl ?_
        refine r_iadd (q := 35) dX2_surelyBroken_34 rfl ?_
        refine r_aload_0 (q := 36) dX2_surelyBroken_35 rfl ?_
        refine r_getR (k := 0) (q := 39) f_RX2_9_2 rfl rfl dX2_surelyBroken_36 rfl ?_
        refine r_iload_4 (q := 41) dX2_surelyBroken_39 rfl ?_
        refine r_iald (q := 42) _ rfl rfl (by first | omega | assumption | decide) dX2_surelyBroken_41 rfl ?_
        rw [(hL i).1, nI_add]
        refine r_icmp_ge (q := 45) 52 dX2_surelyBroken_42 (by decide) rfl (fun h42 => ?_) (fun h42 => ?_)
        · have h42 := nI_ge_of (by omega) (by omega) h42
          rw [show bset (fun b => decide (L.2.1 b < S b ∨ S b + Mo b < L.1 b)) i = bset (fun b => decide (L.2.1 b < S b ∨ S b + Mo b < L.1 b)) (i + 1) by rw [bset, if_neg (by simp; omega)]]
          refine r_iinc_4 (q := 55) _ (nI_inc _) (by decide) dX2_surelyBroken_52 rfl ?_
          refine r_goto 5 dX2_surelyBroken_55 (by decide) ?_
          exact ih (i + 1) (by omega) (by omega)
        · exact T (Or.inr (nI_lt_of (by omega) h42))
theorem far_val {s w t : Nat} (hs : s ≤ 200000) (hw : w ≤ 1000) (ht : t ≤ 400000) (hst : s ≤ t) : (if (0 : Int32) < (if nI s - nI w < nI w - nI t then nI w - nI t else nI s - nI w) then (if nI s - nI w < nI w - nI t then nI w - nI t else nI s - nI w) else 0) = nI (max (s - w) (w - t)) := by
  have e1 := pk_sub_toInt (a := s) (b := w) (by omega) (by omega)
  have e2 := pk_sub_toInt (a := w) (b := t) (by omega) (by omega)
  apply Int32.toInt_inj.mp
  rw [nI_toInt (by omega)]
  by_cases h1 : nI s - nI w < nI w - nI t
  · rw [if_pos h1]
    rw [Int32.lt_iff_toInt_lt, e1, e2] at h1
    by_cases h2 : (0 : Int32) < nI w - nI t
    · rw [if_pos h2, e2]
      rw [Int32.lt_iff_toInt_lt, e2, Int32.toInt_zero] at h2
      omega
    · rw [if_neg h2, Int32.toInt_zero]
      rw [Int32.lt_iff_toInt_lt, e2, Int32.toInt_zero] at h2
      omega
  · rw [if_neg h1]
    rw [Int32.lt_iff_toInt_lt, e1, e2] at h1
    by_cases h2 : (0 : Int32) < nI s - nI w
    · rw [if_pos h2, e1]
      rw [Int32.lt_iff_toInt_lt, e1, Int32.toInt_zero] at h2
      omega
    · rw [if_neg h2, Int32.toInt_zero]
      rw [Int32.lt_iff_toInt_lt, e1, Int32.toInt_zero] at h2
      omega
theorem leastSpread_ok {g j a b : Nat} {S Mo : Nat → Nat} (hL : Lk L mem) (hWL : WFL L) (hs : rdA mem g j 10 (fun i => nI (S i))) (hm : rdA mem a b 10 (fun i => nI (Mo i))) (hS : ∀ i, i < 10 → S i ≤ 100000) (hMo : ∀ i, i < 10 → Mo i ≤ 100000) (hQ : Q (nI (spreadB L S Mo)) mem) : Call E (d + 1) mX2_leastSpread [pR 5 0, pR g j, pR a b] mem Q := by
  refine Call.of [some (pR 5 0), some (pR g j), some (pR a b), none, none, none, none] mk_X2_leastSpread rfl (Nat.le_of_ble_eq_true rfl) (fun _ => ?_)
  refine r_iconst (q := 1) 0 (by decide) dX2_leastSpread_0 rfl ?_
  refine r_istore_3 (q := 2) (by decide) dX2_leastSpread_1 rfl ?_
  refine r_iconst (q := 3) 0 (by decide) dX2_leastSpread_2 rfl ?_
  refine r_istore_4 (q := 5) (by decide) dX2_leastSpread_3 rfl ?_
  suffices H : ∀ k i, 4 - i < k → i ≤ 4 → Wp E (xm E (d + 1) mX2_leastSpread Q) mX2_leastSpread 5 [some (pR 5 0), some (pR g j), some (pR a b), some (pI (nI (sumf (farB L S Mo) i))), some (pI (nI i)), none, none] [] mem from H 5 0 (by omega) (by omega)
  intro k
  induction k with
  | zero => intro q h; omega
  | succ k ih =>
    intro i h1 h2
    refine r_iload_4 (q := 7) dX2_leastSpread_5 rfl ?_
    refine r_iconst (q := 8) 4 (by decide) dX2_leastSpread_7 rfl ?_
    refine r_icmp_ge (q := 11) 66 dX2_leastSpread_8 (by decide) rfl (fun h8 => ?_) (fun h8 => ?_)
    · have hb := nI_ge_of (a := 4) (by decide) (by omega) h8
      have hb : i = 4 := by omega
      subst hb
      refine r_iload_3 (q := 67) dX2_leastSpread_66 rfl ?_
      refine r_iret rfl dX2_leastSpread_67 (?_)
      exact hQ
    · have hi : i < 4 := nI_lt_of (a := 4) (by omega) h8
      have hSi := hS (3 + i) (by omega)
      have hMi := hMo (3 + i) (by omega)
      have hLi := hWL i
      refine r_aload_1 (q := 12) dX2_leastSpread_11 rfl ?_
      refine r_iconst (q := 13) 3 (by decide) dX2_leastSpread_12 rfl ?_
      refine r_iload_4 (q := 15) dX2_leastSpread_13 rfl ?_
      refine r_iadd (q := 16) dX2_leastSpread_15 rfl ?_
      refine r_rd hs (q := 17) (3 + i) (nI_add 3 i) (by first | omega | assumption | decide) dX2_leastSpread_16 rfl ?_
      refine r_istore_5 (q := 19) (by decide) dX2_leastSpread_17 rfl ?_
      refine r_iload_5 (q := 21) dX2_leastSpread_19 rfl ?_
      refine r_aload_2 (q := 22) dX2_leastSpread_21 rfl ?_
      refine r_iconst (q := 23) 3 (by decide) dX2_leastSpread_22 rfl ?_
      refine r_iload_4 (q := 25) dX2_leastSpread_23 rfl ?_
      refine r_iadd (q := 26) dX2_leastSpread_25 rfl ?_
      refine r_rd hm (q := 27) (3 + i) (nI_add 3 i) (by first | omega | assumption | decide) dX2_leastSpread_26 rfl ?_
      refine r_iadd (q := 28) dX2_leastSpread_27 rfl ?_
      rw [nI_add]
      refine r_istore_6 (q := 30) (by decide) dX2_leastSpread_28 rfl ?_
      refine r_iload_3 (q := 31) dX2_leastSpread_30 rfl ?_
      refine r_iconst (q := 32) 0 (by decide) dX2_leastSpread_31 rfl ?_
      refine r_iload_5 (q := 34) dX2_leastSpread_32 rfl ?_
      refine r_aload_0 (q := 35) dX2_leastSpread_34 rfl ?_
      refine r_getR (k := 2) (q := 38) f_RX2_18_2 rfl rfl dX2_leastSpread_35 rfl ?_
      refine r_iload_4 (q := 40) dX2_leastSpread_38 rfl ?_
      refine r_iald (q := 41) _ rfl rfl (by first | omega | assumption | decide) dX2_leastSpread_40 rfl ?_
      rw [(hL i).2.2]
      refine r_isub (q := 42) dX2_leastSpread_41 rfl ?_
      refine r_aload_0 (q := 43) dX2_leastSpread_42 rfl ?_
      refine r_getR (k := 2) (q := 46) f_RX2_18_2 rfl rfl dX2_leastSpread_43 rfl ?_
      refine r_iload_4 (q := 48) dX2_leastSpread_46 rfl ?_
      refine r_iald (q := 49) _ rfl rfl (by first | omega | assumption | decide) dX2_leastSpread_48 rfl ?_
      refine r_iload_6 (q := 51) dX2_leastSpread_49 rfl ?_
      refine r_isub (q := 52) dX2_leastSpread_51 rfl ?_
      refine r_mmax (q := 55) k_419 k_420 k_44 k_421 (Nat.le_of_ble_eq_true rfl) (by first | exact rm_xm | exact rm_0) dX2_leastSpread_52 rfl ?_
      refine r_mmax (q := 58) k_419 k_420 k_44 k_421 (Nat.le_of_ble_eq_true rfl) (by first | exact rm_xm | exact rm_0) dX2_leastSpread_55 rfl ?_
      rw [(hL i).2.2, far_val (by omega) (by omega) (by omega) (by omega)]
      refine r_iadd (q := 59) dX2_leastSpread_58 rfl ?_
      rw [nI_add, show sumf (farB L S Mo) i + max (S (3 + i) - L.2.2 i) (L.2.2 i - (S (3 + i) + Mo (3 + i))) = sumf (farB L S Mo) (i + 1) from rfl]
      refine r_istore_3 (q := 60) (by decide) dX2_leastSpread_59 rfl ?_
      refine r_iinc_4 (q := 63) _ (nI_inc _) (by decide) dX2_leastSpread_60 rfl ?_
      refine r_goto 5 dX2_leastSpread_63 (by decide) ?_
      exact (ih (i + 1) (by omega) (by omega)).sub (by simp [lsub])
end LM
