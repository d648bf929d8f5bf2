/-! THE CLASS: the order -/
/-- the units of a set, each with its first question, of the first k questions -/
def ouT (B : BD) (s : Nat) : Nat → List (Nat × Nat)
  | 0 => []
  | k + 1 => if lowQ (wholeB B k &&& s) k then ouT B s k ++ [(wholeB B k &&& s, k)] else ouT B s k
theorem ouT_len (B : BD) (s : Nat) : ∀ k, (ouT B s k).length ≤ k
  | 0 => Nat.le_refl 0
  | k + 1 => by
    have := ouT_len B s k
    rw [show ouT B s (k + 1) = if lowQ (wholeB B k &&& s) k then ouT B s k ++ [(wholeB B k &&& s, k)] else ouT B s k from rfl]
    split
    · rw [List.length_append, List.length_singleton]; omega
    · omega
theorem ouT_pre (B : BD) (s q : Nat) : ∀ k, ∃ t, ouT B s (q + k) = ouT B s q ++ t
  | 0 => ⟨[], by simp⟩
  | k + 1 => by
    obtain ⟨t, ht⟩ := ouT_pre B s q k
    rw [show ouT B s (q + (k + 1)) = if lowQ (wholeB B (q + k) &&& s) (q + k) then ouT B s (q + k) ++ [(wholeB B (q + k) &&& s, q + k)] else ouT B s (q + k) from rfl]
    by_cases h : lowQ (wholeB B (q + k) &&& s) (q + k) = true
    · rw [if_pos h, ht]; exact ⟨t ++ [(wholeB B (q + k) &&& s, q + k)], by rw [List.append_assoc]⟩
    · rw [if_neg h, ht]; exact ⟨t, rfl⟩
/-- the highest of a set, of the first k -/
def hiT (s : Nat) : Nat → Nat
  | 0 => 0
  | k + 1 => if s.testBit k then k else hiT s k
theorem hiT_lt (s : Nat) : ∀ k, 0 < k → hiT s k < k
  | 0, h => absurd h (Nat.lt_irrefl 0)
  | 1, _ => by simp [hiT]
  | k + 2, _ => by
    have := hiT_lt s (k + 1) (by omega)
    unfold hiT
    split
    · omega
    · omega
def pz : Nat × Nat := (0, 0)
def Ouk (Ou : List (Nat × Nat)) (mem : Mem) : Prop := mem 27 0 5 = nI Ou.length ∧ ∀ u, u < Ou.length → mem 28 0 u = nI (Ou.getD u pz).1 ∧ mem 29 0 u = nI (Ou.getD u pz).2 ∧ mem 30 0 u = nI (hiT (Ou.getD u pz).1 24)
def downB (B : BD) (a b : Nat) : Bool := decide (¬ bF B a 4 ≤ bF B b 4)
def alkB (B : BD) (a b : Nat) : Bool := decide (bF B b 0 = bF B a 0)
def bn (b : Bool) : Nat := if b then 1 else 0
theorem b2_bn (b : Bool) : b2 b = nI (bn b) := by cases b <;> rfl
theorem bn_le (b : Bool) : bn b ≤ 1 := by cases b <;> decide
def jcB (B : BD) (Ou : List (Nat × Nat)) (u v : Nat) : Nat := bn (downB B (hiT (Ou.getD u pz).1 24) (Ou.getD v pz).2) * 32 + bn (alkB B (hiT (Ou.getD u pz).1 24) (Ou.getD v pz).2) * 1
theorem jcB_le (B : BD) (Ou : List (Nat × Nat)) (u v : Nat) : jcB B Ou u v ≤ 33 := by
  have h1 := bn_le (downB B (hiT (Ou.getD u pz).1 24) (Ou.getD v pz).2)
  have h2 := bn_le (alkB B (hiT (Ou.getD u pz).1 24) (Ou.getD v pz).2)
  unfold jcB
  omega
/-- what the rest costs behind a unit (none: nothing stands yet), with this one next -/
def costB (jc T : Nat → Nat → Nat) (u : Option Nat) (rest nx : Nat) : Nat := (match u with
  | none => 0
  | some u => jc u nx) + T (andn rest (2 ^ nx)) nx
def candB (jc T : Nat → Nat → Nat) (u : Option Nat) (rest k : Nat) : Nat := if rest.testBit k then costB jc T u rest k else 1000000
def cheapT (jc T : Nat → Nat → Nat) (u : Option Nat) (rest : Nat) : Nat → Nat × Nat
  | 0 => (0, 1000000)
  | k + 1 => if candB jc T u rest k < (cheapT jc T u rest k).2 then (k, candB jc T u rest k) else cheapT jc T u rest k
def cheapB (jc T : Nat → Nat → Nat) (m : Nat) (u : Option Nat) (rest : Nat) : Nat := (cheapT jc T u rest m).1
/-- the table of the rests' costs -/
def TabOK (jc T : Nat → Nat → Nat) (m : Nat) : Prop := (∀ u, T 0 u = 0) ∧ (∀ r u, T r u ≤ 33 * r) ∧ ∀ rest, 1 ≤ rest → rest < 2 ^ m → ∀ u, u < m → rest.testBit u = false → T rest u = costB jc T (some u) rest (cheapB jc T m (some u) rest)
def pickP (jc T : Nat → Nat → Nat) (m : Nat) : Nat → Option Nat → Nat → List Nat
  | 0, _, _ => []
  | k + 1, u, rest => cheapB jc T m u rest :: pickP jc T m k (some (cheapB jc T m u rest)) (andn rest (2 ^ cheapB jc T m u rest))
/-- a set's questions by their numbers, of the first k -/
def bitsT (s : Nat) : Nat → List Nat
  | 0 => []
  | k + 1 => if s.testBit k then bitsT s k ++ [k] else bitsT s k
theorem bitsT_len (s : Nat) : ∀ k, (bitsT s k).length = cnt (fun i => s.testBit i) k
  | 0 => rfl
  | k + 1 => by
    have := bitsT_len s k
    unfold bitsT cnt
    by_cases h : s.testBit k = true
    · rw [if_pos h, List.length_append, this]; simp [h]
    · rw [if_neg h, this]; simp [h]
def ordL (Ou : List (Nat × Nat)) (us : List Nat) : List Nat := us.flatMap (fun u => bitsT (Ou.getD u pz).1 24)
def stepsN (f : Nat → Nat → Bool) (l : List Nat) : Nat := sumf (fun i => bn (f (l.getD i 0) (l.getD (i + 1) 0))) (l.length - 1)
/-- the ordering's own cells -/
def FrO (mem mem' : Mem) : Prop := Fr [27, 28, 29, 30, 32, 33, 34] mem mem'
theorem cheapT_lt {jc T : Nat → Nat → Nat} {u : Option Nat} {rest : Nat} : ∀ k, ((cheapT jc T u rest k).1 = 0 ∨ (cheapT jc T u rest k).1 < k) ∧ (cheapT jc T u rest k).2 ≤ 1000000
  | 0 => ⟨Or.inl rfl, Nat.le_refl _⟩
  | k + 1 => by
    have := cheapT_lt (jc := jc) (T := T) (u := u) (rest := rest) k
    unfold cheapT
    split
    · rename_i h
      exact ⟨Or.inr (Nat.lt_succ_self k), Nat.le_trans (Nat.le_of_lt h) this.2⟩
    · exact ⟨this.1.imp id (fun h => Nat.lt_succ_of_lt h), this.2⟩
theorem cheapB_lt {jc T : Nat → Nat → Nat} {u : Option Nat} {rest m : Nat} (hm : 0 < m) : cheapB jc T m u rest < m := by
  have := (cheapT_lt (jc := jc) (T := T) (u := u) (rest := rest) m).1
  unfold cheapB
  omega
/-- joins and rests in the world -/
def Jk (jc : Nat → Nat → Nat) (m : Nat) (mem : Mem) : Prop := ∀ u v, u < m → v < m → mem 32 u v = nI (jc u v)
def Tk (T : Nat → Nat → Nat) (m : Nat) (mem : Mem) : Prop := ∀ r u, r < 2 ^ m → u < m → mem 33 0 (r * 8 + u) = nI (T r u)
theorem andn_lt_self {r k : Nat} (h : r.testBit k = true) : andn r (2 ^ k) < r := by
  have hle : andn r (2 ^ k) ≤ r := by
    have : andn r (2 ^ k) &&& r = andn r (2 ^ k) := by
      apply tb_ext
      intro t
      rw [Nat.testBit_and, andn_tb]
      cases r.testBit t <;> simp
    rw [← this]
    exact Nat.and_le_right
  rcases Nat.lt_or_ge (andn r (2 ^ k)) r with z | z
  · exact z
  · exfalso
    have e : andn r (2 ^ k) = r := by omega
    have := congrArg (fun x => x.testBit k) e
    simp only [andn_tb, tb_pow, h] at this
    simp at this
section OR
variable {E : En} {d : Nat} {mem : Mem} {Q : Int32 → Mem → Prop} {B : BD}
theorem highestOf_ok {s : Nat} (hs : s < 2 ^ 24) (hQ : Q (nI (hiT s 24)) mem) : Call E (d + 1) mX3_highestOf [pI (nI s)] mem Q := by
  refine Call.of [some (pI (nI s)), none, none] mk_X3_highestOf rfl (Nat.le_of_ble_eq_true rfl) (fun _ => ?_)
  refine r_iconst (q := 1) 0 (by decide) dX3_highestOf_0 rfl ?_
  refine r_istore_1 (q := 2) (by decide) dX3_highestOf_1 rfl ?_
  refine r_iconst (q := 3) 0 (by decide) dX3_highestOf_2 rfl ?_
  refine r_istore_2 (q := 4) (by decide) dX3_highestOf_3 rfl ?_
  suffices H : ∀ k q, 24 - q < k → q ≤ 24 → Wp E (xm E (d + 1) mX3_highestOf Q) mX3_highestOf 4 [some (pI (nI s)), some (pI (nI (hiT s q))), some (pI (nI q))] [] mem from H 25 0 (by omega) (by omega)
  intro k
  induction k with
  | zero => intro q h; omega
  | succ k ih =>
    intro q h1 h2
    refine r_iload_2 (q := 5) dX3_highestOf_4 rfl ?_
    refine r_bipush (q := 7) 24 (by decide) dX3_highestOf_5 rfl ?_
    refine r_icmp_ge (q := 10) 26 dX3_highestOf_7 (by decide) rfl (fun h7 => ?_) (fun h7 => ?_)
    · have hq := nI_ge_of (a := 24) (by decide) (by omega) h7
      have hq : q = 24 := by omega
      subst hq
      refine r_iload_1 (q := 27) dX3_highestOf_26 rfl ?_
      refine r_iret rfl dX3_highestOf_27 (?_)
      exact hQ
    · have hq : q < 24 := nI_lt_of (a := 24) (by omega) h7
      refine r_iload_0 (q := 11) dX3_highestOf_10 rfl ?_
      refine r_iload_2 (q := 12) dX3_highestOf_11 rfl ?_
      refine r_callN2i (M' := mX8_contains) (q := 15) mk_X8_contains ms_X8_contains (by decide +kernel) rfl (Nat.le_of_ble_eq_true rfl) rm_xm dX3_highestOf_12 rfl (contains_ok (pw24 hs) (by omega) ?_)
      refine r_if_eq (q := 18) 20 dX3_highestOf_15 (by decide) rfl (fun h15 => ?_) (fun h15 => ?_)
      · rw [show hiT s q = hiT s (q + 1) by rw [hiT, b2_eq0.mp h15]; rfl]
        refine r_iinc_2 (q := 23) _ (nI_inc _) (by decide) dX3_highestOf_20 rfl ?_
        refine r_goto 4 dX3_highestOf_23 (by decide) ?_
        exact ih (q + 1) (by omega) (by omega)
      · refine r_iload_2 (q := 19) dX3_highestOf_18 rfl ?_
        refine r_istore_1 (q := 20) (by decide) dX3_highestOf_19 rfl ?_
        refine r_iinc_2 (q := 23) _ (nI_inc _) (by decide) dX3_highestOf_20 rfl ?_
        refine r_goto 4 dX3_highestOf_23 (by decide) ?_
        have := ih (q + 1) (by omega) (by omega)
        rw [hiT, b2_ne0.mp h15] at this
        exact this
theorem isStepDown_ok {a b : Nat} (hB : Bk B mem) (ha : a < 24) (hb : b < 24) (hQ : Q (b2 (downB B a b)) mem) : Call E d mX3_isStepDown [pR 1 0, pI (nI a), pI (nI b)] mem Q := by
  refine Call.of [some (pR 1 0), some (pI (nI a)), some (pI (nI b))] mk_X3_isStepDown rfl (Nat.le_of_ble_eq_true rfl) (fun _ => ?_)
  refine r_aload_0 (q := 1) dX3_isStepDown_0 rfl ?_
  refine r_getR (k := 0) (q := 4) f_RX3_99_0 rfl rfl dX3_isStepDown_1 rfl ?_
  refine r_iload_2 (q := 5) dX3_isStepDown_4 rfl ?_
  refine r_aald (q := 6) _ rfl rfl (by first | omega | assumption | decide) dX3_isStepDown_5 rfl ?_
  refine r_iconst (q := 7) 4 (by decide) dX3_isStepDown_6 rfl ?_
  refine r_iald (q := 8) _ rfl rfl (by first | omega | assumption | decide) dX3_isStepDown_7 rfl ?_
  refine r_aload_0 (q := 9) dX3_isStepDown_8 rfl ?_
  refine r_getR (k := 0) (q := 12) f_RX3_99_0 rfl rfl dX3_isStepDown_9 rfl ?_
  refine r_iload_1 (q := 13) dX3_isStepDown_12 rfl ?_
  refine r_aald (q := 14) _ rfl rfl (by first | omega | assumption | decide) dX3_isStepDown_13 rfl ?_
  refine r_iconst (q := 15) 4 (by decide) dX3_isStepDown_14 rfl ?_
  refine r_iald (q := 16) _ rfl rfl (by first | omega | assumption | decide) dX3_isStepDown_15 rfl ?_
  rw [hB.2.2.2.1 b 4, hB.2.2.2.1 a 4]
  refine r_icmp_ge (q := 19) 23 dX3_isStepDown_16 (by decide) rfl (fun h16 => ?_) (fun h16 => ?_)
  · refine r_iconst (q := 24) 0 (by decide) dX3_isStepDown_23 rfl ?_
    refine r_zret (by first | exact Or.inl rfl | exact Or.inr rfl | assumption) rfl dX3_isStepDown_24 (?_)
    rw [show downB B a b = false from decide_eq_false (fun z => z h16)] at hQ
    exact hQ
  · refine r_iconst (q := 20) 1 (by decide) dX3_isStepDown_19 rfl ?_
    refine r_goto 24 dX3_isStepDown_20 (by decide) ?_
    refine r_zret (by first | exact Or.inl rfl | exact Or.inr rfl | assumption) rfl dX3_isStepDown_24 (?_)
    rw [show downB B a b = true from decide_eq_true h16] at hQ
    exact hQ
theorem areAlike3_ok {a b : Nat} (hB : Bk B mem) (ha : a < 24) (hb : b < 24) (hQ : Q (b2 (alkB B a b)) mem) : Call E d mX3_areAlike [pR 1 0, pI (nI a), pI (nI b)] mem Q := by
  refine Call.of [some (pR 1 0), some (pI (nI a)), some (pI (nI b))] mk_X3_areAlike rfl (Nat.le_of_ble_eq_true rfl) (fun _ => ?_)
  refine r_aload_0 (q := 1) dX3_areAlike_0 rfl ?_
  refine r_getR (k := 0) (q := 4) f_RX3_99_0 rfl rfl dX3_areAlike_1 rfl ?_
  refine r_iload_2 (q := 5) dX3_areAlike_4 rfl ?_
  refine r_aald (q := 6) _ rfl rfl (by first | omega | assumption | decide) dX3_areAlike_5 rfl ?_
  refine r_iconst (q := 7) 0 (by decide) dX3_areAlike_6 rfl ?_
  refine r_iald (q := 8) _ rfl rfl (by first | omega | assumption | decide) dX3_areAlike_7 rfl ?_
  refine r_aload_0 (q := 9) dX3_areAlike_8 rfl ?_
  refine r_getR (k := 0) (q := 12) f_RX3_99_0 rfl rfl dX3_areAlike_9 rfl ?_
  refine r_iload_1 (q := 13) dX3_areAlike_12 rfl ?_
  refine r_aald (q := 14) _ rfl rfl (by first | omega | assumption | decide) dX3_areAlike_13 rfl ?_
  refine r_iconst (q := 15) 0 (by decide) dX3_areAlike_14 rfl ?_
  refine r_iald (q := 16) _ rfl rfl (by first | omega | assumption | decide) dX3_areAlike_15 rfl ?_
  rw [hB.2.2.2.1 b 0, hB.2.2.2.1 a 0]
  refine r_icmp_ne (q := 19) 23 dX3_areAlike_16 (by decide) rfl (fun h16 => ?_) (fun h16 => ?_)
  · refine r_iconst (q := 24) 0 (by decide) dX3_areAlike_23 rfl ?_
    refine r_zret (by first | exact Or.inl rfl | exact Or.inr rfl | assumption) rfl dX3_areAlike_24 (?_)
    rw [show alkB B a b = false from decide_eq_false h16] at hQ
    exact hQ
  · refine r_iconst (q := 20) 1 (by decide) dX3_areAlike_19 rfl ?_
    refine r_goto 24 dX3_areAlike_20 (by decide) ?_
    refine r_zret (by first | exact Or.inl rfl | exact Or.inr rfl | assumption) rfl dX3_areAlike_24 (?_)
    rw [show alkB B a b = true from decide_eq_true h16] at hQ
    exact hQ
/-- the ordering's object but for the size -/
def FrZ (mem mem' : Mem) : Prop := Fr [27, 28, 29, 30] mem mem' ∧ ∀ i, i ≠ 5 → mem' 27 0 i = mem 27 0 i
theorem splitSet_ok {s : Nat} (hB : Bk B mem) (hW : WFB B) (hs : s < 2 ^ 24) (hQ : ∀ mem', FrZ mem mem' → ((ouT B s (bN B)).length ≤ 8 → Ouk (ouT B s (bN B)) mem') → Q (b2 (decide ((ouT B s (bN B)).length ≤ 8))) mem') : Call E (d + 2) mX3_splitSet [pR 27 0, pR 1 0, pI (nI s)] mem Q := by
  refine Call.of [some (pR 27 0), some (pR 1 0), some (pI (nI s)), none, none] mk_X3_splitSet rfl (Nat.le_of_ble_eq_true rfl) (fun _ => ?_)
  have h24 := hW.1
  refine r_aload_0 (q := 1) dX3_splitSet_0 rfl ?_
  refine r_iconst (q := 2) 0 (by decide) dX3_splitSet_1 rfl ?_
  refine r_put (k := 5) (q := 5) f_RX3_29_3 pf_3_5 rfl rfl dX3_splitSet_2 rfl ?_
  refine r_iconst (q := 6) 0 (by decide) dX3_splitSet_5 rfl ?_
  refine r_istore_3 (q := 7) (by decide) dX3_splitSet_6 rfl ?_
  suffices H : ∀ (k q : Nat) (m : Mem), bN B - q < k → q ≤ bN B → FrZ mem m → (ouT B s q).length ≤ 8 → Ouk (ouT B s q) m → Wp E (xm E (d + 2) mX3_splitSet Q) mX3_splitSet 7 [some (pR 27 0), some (pR 1 0), some (pI (nI s)), some (pI (nI q)), none] [] m from H (bN B + 1) 0 _ (by omega) (by omega) ⟨Fr.rf.mset (by simp), fun i hi => by rw [mset_self]; unfold upd; rw [if_neg hi]⟩ (Nat.zero_le _) ⟨rfl, fun u hu => absurd hu (Nat.not_lt_zero u)⟩
  intro k
  induction k with
  | zero => intro q m h; omega
  | succ k ih =>
    intro q m h1 h2 hF hl hO
    have hBm : Bk B m := hB.fr hF.1 (by decide) (by decide) (by decide)
    refine r_iload_3 (q := 8) dX3_splitSet_7 rfl ?_
    refine r_aload_1 (q := 9) dX3_splitSet_8 rfl ?_
    refine r_getI (k := 2) (q := 12) f_RX3_45_0 rfl rfl dX3_splitSet_9 rfl ?_
    rw [hBm.1]
    refine r_icmp_ge (q := 15) 97 dX3_splitSet_12 (by decide) rfl (fun h12 => ?_) (fun h12 => ?_)
    · have hq := nI_ge_of (by omega) (by omega) h12
      have hq : q = bN B := by omega
      subst hq
      have hq := hQ m hF (fun _ => hO)
      rw [decide_eq_true hl] at hq
      refine r_iconst (q := 98) 1 (by decide) dX3_splitSet_97 rfl ?_
      refine r_zret (by first | exact Or.inl rfl | exact Or.inr rfl | assumption) rfl dX3_splitSet_98 (?_)
      exact hq
    · have hq : q < bN B := nI_lt_of (by omega) h12
      have hw24 := wholeB_lt hW hq
      have hu24 : wholeB B q &&& s < 2 ^ 24 := and_lt_l hw24
      refine r_aload_1 (q := 16) dX3_splitSet_15 rfl ?_
      refine r_iload_3 (q := 17) dX3_splitSet_16 rfl ?_
      refine r_callV1i (M' := mX0_wholeOf) (q := 20) mk_X0_wholeOf mi_X0_wholeOf k_570 rfl rfl rfl rfl (Nat.le_of_ble_eq_true rfl) rm_xm dX3_splitSet_17 rfl (wholeOf_ok hBm hW hq ?_)
      refine r_iload_2 (q := 21) dX3_splitSet_20 rfl ?_
      refine r_iand (q := 22) dX3_splitSet_21 rfl ?_
      rw [nb_and]
      refine r_istore_4 (q := 24) (by decide) dX3_splitSet_22 rfl ?_
      refine r_iload_4 (q := 26) dX3_splitSet_24 rfl ?_
      refine r_callN1i (M' := mX8_lowestOf) (q := 29) mk_X8_lowestOf ms_X8_lowestOf (by decide +kernel) rfl (Nat.le_of_ble_eq_true rfl) rm_xm dX3_splitSet_26 rfl (lowestOf_ok ?_)
      refine r_iconst (q := 30) 1 (by decide) dX3_splitSet_29 rfl ?_
      refine r_iload_3 (q := 31) dX3_splitSet_30 rfl ?_
      refine r_ishl (q := 32) dX3_splitSet_31 rfl ?_
      rw [nb_shl1 q (by omega)]
      have eo : ouT B s (q + 1) = if lowQ (wholeB B q &&& s) q then ouT B s q ++ [(wholeB B q &&& s, q)] else ouT B s q := rfl
      refine r_icmp_ne (q := 35) 91 dX3_splitSet_32 (by decide) rfl (fun h32 => ?_) (fun h32 => ?_)
      · have hlow : lowQ (wholeB B q &&& s) q = false := by
          cases hl : lowQ (wholeB B q &&& s) q with
          | true => exact absurd ((low_iff (by omega)).mpr hl) h32
          | false => rfl
        rw [hlow] at eo
        refine r_iinc_3 (q := 94) _ (nI_inc _) (by decide) dX3_splitSet_91 rfl ?_
        refine r_goto 7 dX3_splitSet_94 (by decide) ?_
        refine (ih (q + 1) m (by omega) (by omega) hF (by rw [eo]; exact hl) (by rw [eo]; exact hO)).sub (by simp [lsub])
      · have hlow := (low_iff (by omega)).mp h32
        rw [hlow, if_pos rfl] at eo
        refine r_aload_0 (q := 36) dX3_splitSet_35 rfl ?_
        refine r_getI (k := 5) (q := 39) f_RX3_29_3 rfl rfl dX3_splitSet_36 rfl ?_
        refine r_bipush (q := 41) 8 (by decide) dX3_splitSet_39 rfl ?_
        rw [hO.1]
        refine r_icmp_lt (q := 44) 46 dX3_splitSet_41 (by decide) rfl (fun h41 => ?_) (fun h41 => ?_)
        · have hl8 : (ouT B s q).length < 8 := (nI_ltI (b := 8) (by omega) (by decide)).mp h41
          refine r_aload_0 (q := 47) dX3_splitSet_46 rfl ?_
          refine r_getR (k := 0) (q := 50) f_RX3_9_3 rfl rfl dX3_splitSet_47 rfl ?_
          refine r_aload_0 (q := 51) dX3_splitSet_50 rfl ?_
          refine r_getI (k := 5) (q := 54) f_RX3_29_3 rfl rfl dX3_splitSet_51 rfl ?_
          rw [hO.1]
          refine r_iload_4 (q := 56) dX3_splitSet_54 rfl ?_
          refine r_iast (q := 57) _ rfl rfl (by first | omega | assumption | decide) dX3_splitSet_56 rfl ?_
          refine r_aload_0 (q := 58) dX3_splitSet_57 rfl ?_
          refine r_getR (k := 1) (q := 61) f_RX3_15_3 rfl rfl dX3_splitSet_58 rfl ?_
          refine r_aload_0 (q := 62) dX3_splitSet_61 rfl ?_
          refine r_getI (k := 5) (q := 65) f_RX3_29_3 rfl rfl dX3_splitSet_62 rfl ?_
          rw [show mset m 28 0 (ouT B s q).length (nI (wholeB B q &&& s)) 27 0 5 = nI (ouT B s q).length from hO.1]
          refine r_iload_3 (q := 66) dX3_splitSet_65 rfl ?_
          refine r_iast (q := 67) _ rfl rfl (by first | omega | assumption | decide) dX3_splitSet_66 rfl ?_
          refine r_aload_0 (q := 68) dX3_splitSet_67 rfl ?_
          refine r_getR (k := 2) (q := 71) f_RX3_18_3 rfl rfl dX3_splitSet_68 rfl ?_
          refine r_aload_0 (q := 72) dX3_splitSet_71 rfl ?_
          refine r_getI (k := 5) (q := 75) f_RX3_29_3 rfl rfl dX3_splitSet_72 rfl ?_
          rw [show mset (mset m 28 0 (ouT B s q).length (nI (wholeB B q &&& s))) 29 0 (ouT B s q).length (nI q) 27 0 5 = nI (ouT B s q).length from hO.1]
          refine r_iload_4 (q := 77) dX3_splitSet_75 rfl ?_
          refine r_callS1i (M' := mX3_highestOf) (q := 80) mk_X3_highestOf ms_X3_highestOf k_572 rfl (Nat.le_of_ble_eq_true rfl) rm_xm dX3_splitSet_77 rfl (highestOf_ok hu24 ?_)
          refine r_iast (q := 81) _ rfl rfl (by first | omega | assumption | decide) dX3_splitSet_80 rfl ?_
          refine r_aload_0 (q := 82) dX3_splitSet_81 rfl ?_
          refine r_dup (q := 83) dX3_splitSet_82 rfl ?_
          generalize hm1 : mset (mset (mset m 28 0 (ouT B s q).length (nI (wholeB B q &&& s))) 29 0 (ouT B s q).length (nI q)) 30 0 (ouT B s q).length (nI (hiT (wholeB B q &&& s) 24)) = m1
          have hF1 : Fr [28, 29, 30] m m1 := by rw [← hm1]; exact ((Fr.rf.mset (by simp)).mset (by simp)).mset (by simp)
          have e28 : m1 28 0 = upd (m 28 0) (ouT B s q).length (nI (wholeB B q &&& s)) := by rw [← hm1, mset_g _ _ _ _ (by decide), mset_g _ _ _ _ (by decide), mset_self]
          have e29 : m1 29 0 = upd (m 29 0) (ouT B s q).length (nI q) := by rw [← hm1, mset_g _ _ _ _ (by decide), mset_self, mset_g _ _ _ _ (by decide)]
          have e30 : m1 30 0 = upd (m 30 0) (ouT B s q).length (nI (hiT (wholeB B q &&& s) 24)) := by rw [← hm1, mset_self, mset_g _ _ _ _ (by decide), mset_g _ _ _ _ (by decide)]
          clear hm1
          refine r_getI (k := 5) (q := 86) f_RX3_29_3 rfl rfl dX3_splitSet_83 rfl ?_
          rw [show m1 27 0 5 = nI (ouT B s q).length by rw [hF1 27 (by decide)]; exact hO.1]
          refine r_iconst (q := 87) 1 (by decide) dX3_splitSet_86 rfl ?_
          refine r_iadd (q := 88) dX3_splitSet_87 rfl ?_
          rw [nI_1]
          refine r_put (k := 5) (q := 91) f_RX3_29_3 pf_3_5 rfl rfl dX3_splitSet_88 rfl ?_
          refine r_iinc_3 (q := 94) _ (nI_inc _) (by decide) dX3_splitSet_91 rfl ?_
          refine r_goto 7 dX3_splitSet_94 (by decide) ?_
          refine (ih (q + 1) _ (by omega) (by omega) ⟨(hF.1.tr (hF1.mono (by simp))).mset (by simp), fun i hi => ?_⟩ (by rw [eo, List.length_append, List.length_singleton]; omega) ?_).sub (by simp [lsub])
          · rw [mset_self]
            unfold upd
            rw [if_neg hi, hF1 27 (by decide)]
            exact hF.2 i hi
          · rw [eo]
            refine ⟨by rw [mset_at, List.length_append]; rfl, fun u hul => ?_⟩
            rw [List.length_append, List.length_singleton] at hul
            rw [mset_g _ _ _ _ (by decide), mset_g _ _ _ _ (by decide), mset_g _ _ _ _ (by decide), e28, e29, e30]
            unfold upd
            by_cases hu2 : u < (ouT B s q).length
            · have hg : (ouT B s q ++ [(wholeB B q &&& s, q)]).getD u pz = (ouT B s q).getD u pz := by
                rw [List.getD_eq_getElem?_getD, List.getD_eq_getElem?_getD, List.getElem?_append_left hu2]
              rw [hg, if_neg (by omega), if_neg (by omega), if_neg (by omega)]
              exact hO.2 u hu2
            · have hue : u = (ouT B s q).length := by omega
              subst hue
              have hg : (ouT B s q ++ [(wholeB B q &&& s, q)]).getD (ouT B s q).length pz = (wholeB B q &&& s, q) := by
                rw [List.getD_eq_getElem?_getD, List.getElem?_append_right (Nat.le_refl _), Nat.sub_self]
                rfl
              rw [hg, if_pos rfl, if_pos rfl, if_pos rfl]
              exact ⟨rfl, rfl, rfl⟩
        · have hl8 : ¬ (ouT B s q).length < 8 := fun z => h41 (nI_lt (b := 8) z (by decide))
          obtain ⟨t, ht⟩ := ouT_pre B s (q + 1) (bN B - (q + 1))
          rw [show q + 1 + (bN B - (q + 1)) = bN B by omega, eo] at ht
          have hlong : ¬ (ouT B s (bN B)).length ≤ 8 := by
            rw [ht, List.length_append, List.length_append, List.length_singleton]
            omega
          have hq := hQ m hF (fun z => absurd z hlong)
          rw [decide_eq_false hlong] at hq
          refine r_iconst (q := 45) 0 (by decide) dX3_splitSet_44 rfl ?_
          refine r_zret (by first | exact Or.inl rfl | exact Or.inr rfl | assumption) rfl dX3_splitSet_45 (?_)
          exact hq
theorem reckonJoinCosts_ok {Ou : List (Nat × Nat)} (hB : Bk B mem) (hO : Ouk Ou mem) (hl : Ou.length ≤ 8) (h24 : ∀ u, u < Ou.length → (Ou.getD u pz).2 < 24) (hQ : ∀ mem', Fr [32] mem mem' → Jk (jcB B Ou) Ou.length mem' → Q 0 mem') : Call E (d + 1) mX3_reckonJoinCosts [pR 27 0, pR 1 0] mem Q := by
  refine Call.of [some (pR 27 0), some (pR 1 0), none, none, none, none] mk_X3_reckonJoinCosts rfl (Nat.le_of_ble_eq_true rfl) (fun _ => ?_)
  refine r_iconst (q := 1) 0 (by decide) dX3_reckonJoinCosts_0 rfl ?_
  refine r_istore_2 (q := 2) (by decide) dX3_reckonJoinCosts_1 rfl ?_
  suffices H : ∀ (k u : Nat) (m : Mem), Ou.length - u < k → u ≤ Ou.length → Fr [32] mem m → (∀ u' v, u' < u → v < Ou.length → m 32 u' v = nI (jcB B Ou u' v)) → Wp E (xm E (d + 1) mX3_reckonJoinCosts Q) mX3_reckonJoinCosts 2 [some (pR 27 0), some (pR 1 0), some (pI (nI u)), none, none, none] [] m from H (Ou.length + 1) 0 mem (by omega) (by omega) Fr.rf (fun u' v h => by omega)
  intro k
  induction k with
  | zero => intro u m h; omega
  | succ k ih =>
    intro u m h1 h2 hF hJ
    refine r_iload_2 (q := 3) dX3_reckonJoinCosts_2 rfl ?_
    refine r_aload_0 (q := 4) dX3_reckonJoinCosts_3 rfl ?_
    refine r_getI (k := 5) (q := 7) f_RX3_29_3 rfl rfl dX3_reckonJoinCosts_4 rfl ?_
    rw [show m 27 0 5 = nI Ou.length by rw [hF 27 (by decide)]; exact hO.1]
    refine r_icmp_ge (q := 10) 84 dX3_reckonJoinCosts_7 (by decide) rfl (fun h7 => ?_) (fun h7 => ?_)
    · have hq := nI_ge_of (by omega) (by omega) h7
      have hq : u = Ou.length := by omega
      subst hq
      refine r_vret rfl dX3_reckonJoinCosts_84 (?_)
      exact hQ m hF (fun u v hu hv => hJ u v hu hv)
    · have hu : u < Ou.length := nI_lt_of (by omega) h7
      refine r_iconst (q := 11) 0 (by decide) dX3_reckonJoinCosts_10 rfl ?_
      refine r_istore_3 (q := 12) (by decide) dX3_reckonJoinCosts_11 rfl ?_
      suffices H2 : ∀ (k v : Nat) (m : Mem), Ou.length - v < k → v ≤ Ou.length → Fr [32] mem m → (∀ u' v', u' < u → v' < Ou.length → m 32 u' v' = nI (jcB B Ou u' v')) → (∀ v', v' < v → m 32 u v' = nI (jcB B Ou u v')) → Wp E (xm E (d + 1) mX3_reckonJoinCosts Q) mX3_reckonJoinCosts 12 [some (pR 27 0), some (pR 1 0), some (pI (nI u)), some (pI (nI v)), none, none] [] m from H2 (Ou.length + 1) 0 m (by omega) (by omega) hF hJ (fun v' h => by omega)
      intro k2
      induction k2 with
      | zero => intro v m h; omega
      | succ k2 ih2 =>
        intro v m h3 h4 hF hJ hJ2
        have hBm : Bk B m := hB.fr hF (by decide) (by decide) (by decide)
        refine r_iload_3 (q := 13) dX3_reckonJoinCosts_12 rfl ?_
        refine r_aload_0 (q := 14) dX3_reckonJoinCosts_13 rfl ?_
        refine r_getI (k := 5) (q := 17) f_RX3_29_3 rfl rfl dX3_reckonJoinCosts_14 rfl ?_
        rw [show m 27 0 5 = nI Ou.length by rw [hF 27 (by decide)]; exact hO.1]
        refine r_icmp_ge (q := 20) 78 dX3_reckonJoinCosts_17 (by decide) rfl (fun h17 => ?_) (fun h17 => ?_)
        · have hq := nI_ge_of (by omega) (by omega) h17
          have hq : v = Ou.length := by omega
          subst hq
          refine r_iinc_2 (q := 81) _ (nI_inc _) (by decide) dX3_reckonJoinCosts_78 rfl ?_
          refine r_goto 2 dX3_reckonJoinCosts_81 (by decide) ?_
          refine (ih (u + 1) m (by omega) (by omega) hF (fun u' v' h5 h6 => ?_)).sub (by simp [lsub])
          rcases Nat.lt_or_ge u' u with z | z
          · exact hJ u' v' z h6
          · have : u' = u := by omega
            subst this
            exact hJ2 v' h6
        · have hv : v < Ou.length := nI_lt_of (by omega) h17
          have hhi := hiT_lt (Ou.getD u pz).1 24 (by decide)
          have hfi := h24 v hv
          refine r_aload_0 (q := 21) dX3_reckonJoinCosts_20 rfl ?_
          refine r_getR (k := 2) (q := 24) f_RX3_18_3 rfl rfl dX3_reckonJoinCosts_21 rfl ?_
          refine r_iload_2 (q := 25) dX3_reckonJoinCosts_24 rfl ?_
          refine r_iald (q := 26) _ rfl rfl (by first | omega | assumption | decide) dX3_reckonJoinCosts_25 rfl ?_
          rw [show m 30 0 u = nI (hiT (Ou.getD u pz).1 24) by rw [hF 30 (by decide)]; exact (hO.2 u hu).2.2]
          refine r_istore_4 (q := 28) (by decide) dX3_reckonJoinCosts_26 rfl ?_
          refine r_aload_0 (q := 29) dX3_reckonJoinCosts_28 rfl ?_
          refine r_getR (k := 1) (q := 32) f_RX3_15_3 rfl rfl dX3_reckonJoinCosts_29 rfl ?_
          refine r_iload_3 (q := 33) dX3_reckonJoinCosts_32 rfl ?_
          refine r_iald (q := 34) _ rfl rfl (by first | omega | assumption | decide) dX3_reckonJoinCosts_33 rfl ?_
          rw [show m 29 0 v = nI (Ou.getD v pz).2 by rw [hF 29 (by decide)]; exact (hO.2 v hv).2.1]
          refine r_istore_5 (q := 36) (by decide) dX3_reckonJoinCosts_34 rfl ?_
          refine r_aload_0 (q := 37) dX3_reckonJoinCosts_36 rfl ?_
          refine r_getR (k := 3) (q := 40) f_RX3_23_3 rfl rfl dX3_reckonJoinCosts_37 rfl ?_
          refine r_iload_2 (q := 41) dX3_reckonJoinCosts_40 rfl ?_
          refine r_aald (q := 42) _ rfl rfl (by first | omega | assumption | decide) dX3_reckonJoinCosts_41 rfl ?_
          refine r_iload_3 (q := 43) dX3_reckonJoinCosts_42 rfl ?_
          refine r_aload_1 (q := 44) dX3_reckonJoinCosts_43 rfl ?_
          refine r_iload_4 (q := 46) dX3_reckonJoinCosts_44 rfl ?_
          refine r_iload_5 (q := 48) dX3_reckonJoinCosts_46 rfl ?_
          refine r_callS3i (M' := mX3_isStepDown) (q := 51) mk_X3_isStepDown ms_X3_isStepDown k_584 rfl (Nat.le_of_ble_eq_true rfl) rm_xm dX3_reckonJoinCosts_48 rfl (isStepDown_ok hBm hhi hfi ?_)
          refine r_callN1i (M' := mX8_oneIf) (q := 54) mk_X8_oneIf ms_X8_oneIf (by decide +kernel) rfl (Nat.le_of_ble_eq_true rfl) rm_xm dX3_reckonJoinCosts_51 rfl (oneIf_ok ?_)
          refine r_bipush (q := 56) 32 (by decide) dX3_reckonJoinCosts_54 rfl ?_
          refine r_imul (q := 57) dX3_reckonJoinCosts_56 rfl ?_
          refine r_aload_1 (q := 58) dX3_reckonJoinCosts_57 rfl ?_
          refine r_iload_4 (q := 60) dX3_reckonJoinCosts_58 rfl ?_
          refine r_iload_5 (q := 62) dX3_reckonJoinCosts_60 rfl ?_
          refine r_callS3i (M' := mX3_areAlike) (q := 65) mk_X3_areAlike ms_X3_areAlike k_588 rfl (Nat.le_of_ble_eq_true rfl) rm_xm dX3_reckonJoinCosts_62 rfl (areAlike3_ok hBm hhi hfi ?_)
          refine r_callN1i (M' := mX8_oneIf) (q := 68) mk_X8_oneIf ms_X8_oneIf (by decide +kernel) rfl (Nat.le_of_ble_eq_true rfl) rm_xm dX3_reckonJoinCosts_65 rfl (oneIf_ok ?_)
          refine r_iconst (q := 69) 1 (by decide) dX3_reckonJoinCosts_68 rfl ?_
          refine r_imul (q := 70) dX3_reckonJoinCosts_69 rfl ?_
          refine r_iadd (q := 71) dX3_reckonJoinCosts_70 rfl ?_
          rw [b2_bn, b2_bn, show (32 : Int32) = nI 32 from rfl, pk_mul, show (1 : Int32) = nI 1 from rfl, pk_mul, nI_add, show bn (downB B (hiT (Ou.getD u pz).1 24) (Ou.getD v pz).2) * 32 + bn (alkB B (hiT (Ou.getD u pz).1 24) (Ou.getD v pz).2) * 1 = jcB B Ou u v from rfl]
          refine r_iast (q := 72) _ rfl rfl (by first | omega | assumption | decide) dX3_reckonJoinCosts_71 rfl ?_
          refine r_iinc_3 (q := 75) _ (nI_inc _) (by decide) dX3_reckonJoinCosts_72 rfl ?_
          refine r_goto 12 dX3_reckonJoinCosts_75 (by decide) ?_
          refine (ih2 (v + 1) _ (by omega) (by omega) (hF.mset (by simp)) (fun u' v' h5 h6 => ?_) (fun v' h5 => ?_)).sub (by simp [lsub])
          · rw [show mset m 32 u v (nI (jcB B Ou u v)) 32 u' = m 32 u' from mset_ne m _ _ (by omega)]
            exact hJ u' v' h5 h6
          · rw [mset_self]
            unfold upd
            by_cases e : v' = v
            · subst e; rw [if_pos rfl]
            · rw [if_neg e]; exact hJ2 v' (by omega)
/-- a unit, or -1 where nothing stands yet -/
def uv (u : Option Nat) : Int32 := match u with
  | none => -1
  | some u => nI u
theorem costBehind_ok {jc T : Nat → Nat → Nat} {m rest nx : Nat} {u : Option Nat} (hJ : ∀ v, u = some v → v < m ∧ mem 32 v nx = nI (jc v nx)) (hT : mem 33 0 (andn rest (2 ^ nx) * 8 + nx) = nI (T (andn rest (2 ^ nx)) nx)) (hm : m ≤ 8) (hr : rest < 2 ^ m) (hn : nx < m) (hQ : Q (nI (costB jc T u rest nx)) mem) : Call E d mX3_costBehind [pR 27 0, pI (uv u), pI (nI rest), pI (nI nx)] mem Q := by
  refine Call.of [some (pR 27 0), some (pI (uv u)), some (pI (nI rest)), some (pI (nI nx)), none, none] mk_X3_costBehind rfl (Nat.le_of_ble_eq_true rfl) (fun _ => ?_)
  have h256 : 2 ^ m ≤ 2 ^ 8 := Nat.pow_le_pow_right (by decide) hm
  have J : ∀ x : Nat, x + T (andn rest (2 ^ nx)) nx = costB jc T u rest nx → Wp E (xm E d mX3_costBehind Q) mX3_costBehind 16 [some (pR 27 0), some (pI (uv u)), some (pI (nI rest)), some (pI (nI nx)), none, none] [pI (nI x)] mem := by
    intro x hx
    have hal : andn rest (2 ^ nx) < 2 ^ m := andn_lt hr
    refine r_istore_4 (q := 18) (by decide) dX3_costBehind_16 rfl ?_
    refine r_iload_2 (q := 19) dX3_costBehind_18 rfl ?_
    refine r_iconst (q := 20) 1 (by decide) dX3_costBehind_19 rfl ?_
    refine r_iload_3 (q := 21) dX3_costBehind_20 rfl ?_
    refine r_ishl (q := 22) dX3_costBehind_21 rfl ?_
    rw [nb_shl1 nx (by omega)]
    refine r_iconst (q := 23) (-1) (by decide) dX3_costBehind_22 rfl ?_
    refine r_ixor (q := 24) dX3_costBehind_23 rfl ?_
    refine r_iand (q := 25) dX3_costBehind_24 rfl ?_
    rw [nb_andn]
    refine r_istore_5 (q := 27) (by decide) dX3_costBehind_25 rfl ?_
    refine r_iload_4 (q := 29) dX3_costBehind_27 rfl ?_
    refine r_aload_0 (q := 30) dX3_costBehind_29 rfl ?_
    refine r_getR (k := 4) (q := 33) f_RX3_26_3 rfl rfl dX3_costBehind_30 rfl ?_
    refine r_iload_5 (q := 35) dX3_costBehind_33 rfl ?_
    refine r_bipush (q := 37) 8 (by decide) dX3_costBehind_35 rfl ?_
    refine r_imul (q := 38) dX3_costBehind_37 rfl ?_
    refine r_iload_3 (q := 39) dX3_costBehind_38 rfl ?_
    refine r_iadd (q := 40) dX3_costBehind_39 rfl ?_
    refine r_iald (q := 41) (andn rest (2 ^ nx) * 8 + nx) (by rw [show (8 : Int32) = nI 8 from rfl, pk_mul, nI_add]) rfl (by omega) dX3_costBehind_40 rfl ?_
    rw [hT]
    refine r_iadd (q := 42) dX3_costBehind_41 rfl ?_
    rw [nI_add, hx]
    refine r_iret rfl dX3_costBehind_42 (?_)
    exact hQ
  cases u with
  | none =>
    refine r_iload_1 (q := 1) dX3_costBehind_0 rfl ?_
    refine r_if_ge (q := 4) 8 dX3_costBehind_1 (by decide) rfl (fun h1 => ?_) (fun h1 => ?_)
    · exact absurd h1 (by decide)
    · refine r_iconst (q := 5) 0 (by decide) dX3_costBehind_4 rfl ?_
      refine r_goto 16 dX3_costBehind_5 (by decide) ?_
      exact J 0 rfl
  | some v =>
    obtain ⟨hv, hj⟩ := hJ v rfl
    refine r_iload_1 (q := 1) dX3_costBehind_0 rfl ?_
    refine r_if_ge (q := 4) 8 dX3_costBehind_1 (by decide) rfl (fun h1 => ?_) (fun h1 => ?_)
    · refine r_aload_0 (q := 9) dX3_costBehind_8 rfl ?_
      refine r_getR (k := 3) (q := 12) f_RX3_23_3 rfl rfl dX3_costBehind_9 rfl ?_
      refine r_iload_1 (q := 13) dX3_costBehind_12 rfl ?_
      refine r_aald (q := 14) v rfl rfl (by omega) dX3_costBehind_13 rfl ?_
      refine r_iload_3 (q := 15) dX3_costBehind_14 rfl ?_
      refine r_iald (q := 16) _ rfl rfl (by first | omega | assumption | decide) dX3_costBehind_15 rfl ?_
      rw [hj]
      exact J (jc v nx) rfl
    · exact absurd (nI_pos' (by omega)) h1
theorem cheapestBehind_ok {jc T : Nat → Nat → Nat} {m rest : Nat} {u : Option Nat} (hsz : mem 27 0 5 = nI m) (hm : m ≤ 8) (hr : rest < 2 ^ m) (hJ : ∀ v nx, u = some v → nx < m → rest.testBit nx = true → v < m ∧ mem 32 v nx = nI (jc v nx)) (hT : ∀ nx, nx < m → rest.testBit nx = true → mem 33 0 (andn rest (2 ^ nx) * 8 + nx) = nI (T (andn rest (2 ^ nx)) nx)) (hc : ∀ nx, nx < m → rest.testBit nx = true → costB jc T u rest nx ≤ 1000000) (hQ : Q (nI (cheapB jc T m u rest)) mem) : Call E (d + 1) mX3_cheapestBehind [pR 27 0, pI (uv u), pI (nI rest)] mem Q := by
  refine Call.of [some (pR 27 0), some (pI (uv u)), some (pI (nI rest)), none, none, none, none] mk_X3_cheapestBehind rfl (Nat.le_of_ble_eq_true rfl) (fun _ => ?_)
  have h256 : 2 ^ m ≤ 2 ^ 8 := Nat.pow_le_pow_right (by decide) hm
  refine r_iconst (q := 1) 0 (by decide) dX3_cheapestBehind_0 rfl ?_
  refine r_istore_3 (q := 2) (by decide) dX3_cheapestBehind_1 rfl ?_
  refine r_ldc (q := 4) k_599 dX3_cheapestBehind_2 rfl ?_
  refine r_istore_4 (q := 6) (by decide) dX3_cheapestBehind_4 rfl ?_
  refine r_iconst (q := 7) 0 (by decide) dX3_cheapestBehind_6 rfl ?_
  refine r_istore_5 (q := 9) (by decide) dX3_cheapestBehind_7 rfl ?_
  suffices H : ∀ k n, m - n < k → n ≤ m → Wp E (xm E (d + 1) mX3_cheapestBehind Q) mX3_cheapestBehind 9 [some (pR 27 0), some (pI (uv u)), some (pI (nI rest)), some (pI (nI (cheapT jc T u rest n).1)), some (pI (nI (cheapT jc T u rest n).2)), some (pI (nI n)), none] [] mem from H (m + 1) 0 (by omega) (by omega)
  intro k
  induction k with
  | zero => intro n h; omega
  | succ k ih =>
    intro n h1 h2
    refine r_iload_5 (q := 11) dX3_cheapestBehind_9 rfl ?_
    refine r_aload_0 (q := 12) dX3_cheapestBehind_11 rfl ?_
    refine r_getI (k := 5) (q := 15) f_RX3_29_3 rfl rfl dX3_cheapestBehind_12 rfl ?_
    rw [hsz]
    refine r_icmp_ge (q := 18) 62 dX3_cheapestBehind_15 (by decide) rfl (fun h15 => ?_) (fun h15 => ?_)
    · have hq := nI_ge_of (by omega) (by omega) h15
      have hq : n = m := by omega
      subst hq
      refine r_iload_3 (q := 63) dX3_cheapestBehind_62 rfl ?_
      refine r_iret rfl dX3_cheapestBehind_63 (?_)
      exact hQ
    · have hn : n < m := nI_lt_of (by omega) h15
      have hct := (cheapT_lt (jc := jc) (T := T) (u := u) (rest := rest) n).2
      have e : cheapT jc T u rest (n + 1) = if candB jc T u rest n < (cheapT jc T u rest n).2 then (n, candB jc T u rest n) else cheapT jc T u rest n := rfl
      have J : candB jc T u rest n ≤ 1000000 → Wp E (xm E (d + 1) mX3_cheapestBehind Q) mX3_cheapestBehind 40 [some (pR 27 0), some (pI (uv u)), some (pI (nI rest)), some (pI (nI (cheapT jc T u rest n).1)), some (pI (nI (cheapT jc T u rest n).2)), some (pI (nI n)), none] [pI (nI (candB jc T u rest n))] mem := by
        intro hcb
        have ih := ih (n + 1) (by omega) (by omega)
        refine r_istore_6 (q := 42) (by decide) dX3_cheapestBehind_40 rfl ?_
        refine r_iload_6 (q := 44) dX3_cheapestBehind_42 rfl ?_
        refine r_iload_4 (q := 46) dX3_cheapestBehind_44 rfl ?_
        refine r_icmp_ge (q := 49) 56 dX3_cheapestBehind_46 (by decide) rfl (fun h46 => ?_) (fun h46 => ?_)
        · have h46 := nI_ge_of (by omega) (by omega) h46
          rw [e, if_neg (by omega)] at ih
          refine r_iinc_5 (q := 59) _ (nI_inc _) (by decide) dX3_cheapestBehind_56 rfl ?_
          refine r_goto 9 dX3_cheapestBehind_59 (by decide) ?_
          exact ih.sub (by simp [lsub])
        · have h46 := nI_lt_of (by omega) h46
          rw [e, if_pos h46] at ih
          refine r_iload_5 (q := 51) dX3_cheapestBehind_49 rfl ?_
          refine r_istore_3 (q := 52) (by decide) dX3_cheapestBehind_51 rfl ?_
          refine r_iload_6 (q := 54) dX3_cheapestBehind_52 rfl ?_
          refine r_istore_4 (q := 56) (by decide) dX3_cheapestBehind_54 rfl ?_
          refine r_iinc_5 (q := 59) _ (nI_inc _) (by decide) dX3_cheapestBehind_56 rfl ?_
          refine r_goto 9 dX3_cheapestBehind_59 (by decide) ?_
          exact ih.sub (by simp [lsub])
      refine r_iload_2 (q := 19) dX3_cheapestBehind_18 rfl ?_
      refine r_iload_5 (q := 21) dX3_cheapestBehind_19 rfl ?_
      refine r_callN2i (M' := mX8_contains) (q := 24) mk_X8_contains ms_X8_contains (by decide +kernel) rfl (Nat.le_of_ble_eq_true rfl) rm_xm dX3_cheapestBehind_21 rfl (contains_ok (by omega) (by omega) ?_)
      refine r_if_eq (q := 27) 38 dX3_cheapestBehind_24 (by decide) rfl (fun h24 => ?_) (fun h24 => ?_)
      · have h24 := b2_eq0.mp h24
        have ec : candB jc T u rest n = 1000000 := by unfold candB; rw [h24]; rfl
        rw [ec] at J
        refine r_ldc (q := 40) k_599 dX3_cheapestBehind_38 rfl ?_
        exact J (Nat.le_refl _)
      · have h24 := b2_ne0.mp h24
        have ec : candB jc T u rest n = costB jc T u rest n := by unfold candB; rw [h24]; rfl
        rw [ec] at J
        refine r_aload_0 (q := 28) dX3_cheapestBehind_27 rfl ?_
        refine r_iload_1 (q := 29) dX3_cheapestBehind_28 rfl ?_
        refine r_iload_2 (q := 30) dX3_cheapestBehind_29 rfl ?_
        refine r_iload_5 (q := 32) dX3_cheapestBehind_30 rfl ?_
        refine r_callV3i (M' := mX3_costBehind) (q := 35) mk_X3_costBehind mi_X3_costBehind k_600 rfl rfl rfl rfl (Nat.le_of_ble_eq_true rfl) rm_xm dX3_cheapestBehind_32 rfl (costBehind_ok (m := m) (fun v hv => hJ v n hv hn h24) (hT n hn h24) hm hr hn ?_)
        refine r_goto 40 dX3_cheapestBehind_35 (by decide) ?_
        exact J (hc n hn h24)
end OR
