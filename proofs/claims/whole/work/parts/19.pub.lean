/-! THE CLASS: its public methods that only keep, and only tell -/
/-- a state: bank, limits, the second version (bits), the order: how many, alike, the questions -/
abbrev AS : Type := BD × LD × Nat × (Nat × Nat × (Nat → Nat))
def z10 : Nat → Nat := fun _ => 0
def Ck (S : AS) (mem : Mem) : Prop := Bk S.1 mem ∧ Lk S.2.1 mem ∧ mem 0 0 8 = nI S.2.2.1 ∧ (Sk 16 17 0 0 z10 mem ∧ Sk 18 19 0 0 z10 mem ∧ Sk 21 22 0 0 z10 mem) ∧ (mem 27 0 7 = nI S.2.2.2.1 ∧ mem 27 0 9 = nI S.2.2.2.2.1 ∧ ∀ i, i < S.2.2.2.1 → mem 34 0 i = nI (S.2.2.2.2.2 i)) ∧ ∀ u, u < 8 → mem 33 0 u = 0
def WFS (S : AS) : Prop := WFB S.1 ∧ WFL S.2.1 ∧ S.2.2.1 < 2 ^ 24 ∧ S.2.2.2.1 ≤ 24 ∧ S.2.2.2.2.1 ≤ 24 ∧ ∀ i, i < S.2.2.2.1 → S.2.2.2.2.2 i < 24
/-- the class writes nothing of the reference's -/
def Fc (mem mem' : Mem) : Prop := ∀ g, 36 ≤ g → mem' g = mem g
theorem Fc.rf {mem : Mem} : Fc mem mem := fun _ _ => rfl
theorem Fc.mset {a b : Mem} {g j i : Nat} {v : Int32} (h : Fc a b) (hg : g < 36) : Fc a (mset b g j i v) := fun g' h' => (mset_g b j i v (by omega)).trans (h g' h')
theorem Fc.mrow {a b : Mem} {g j : Nat} {f : Nat → Int32} (h : Fc a b) (hg : g < 36) : Fc a (mrow b g j f) := fun g' h' => (mrow_g b j f (by omega)).trans (h g' h')
theorem Fc.fr {gs : List Nat} {a b c : Mem} (h : Fc a b) (h2 : Fr gs b c) (hg : ∀ g, g ∈ gs → g < 36) : Fc a c := fun g' h' => (h2 g' (fun z => absurd (hg g' z) (by omega))).trans (h g' h')
/-- what is told of the state when these groups alone have changed -/
theorem Ck.fr {S : AS} {gs : List Nat} {a b : Mem} (h : Ck S a) (hF : Fr gs a b) (h0 : ∀ g, g ∈ gs → g ∈ [9, 10, 11, 13, 15, 20, 23, 24, 25, 26, 35]) : Ck S b := by
  have e : ∀ g, g ∉ [9, 10, 11, 13, 15, 20, 23, 24, 25, 26, 35] → b g = a g := fun g hg => hF g (fun z => hg (h0 g z))
  unfold Ck Bk Lk Sk
  rw [e 0 (by decide), e 1 (by decide), e 3 (by decide), e 4 (by decide), e 6 (by decide), e 7 (by decide), e 8 (by decide), e 16 (by decide), e 17 (by decide), e 18 (by decide), e 19 (by decide), e 21 (by decide), e 22 (by decide), e 27 (by decide), e 34 (by decide), e 33 (by decide)]
  exact h
theorem Ck.bank {S : AS} {B' : BD} {a b : Mem} (h : Ck S a) (hF : Fr [1, 3, 4] a b) (hB : Bk B' b) : Ck (B', S.2) b := by
  refine ⟨hB, ?_⟩
  have hh := h.2
  unfold Lk Sk at hh ⊢
  rw [hF 0 (by decide), hF 6 (by decide), hF 7 (by decide), hF 8 (by decide), hF 16 (by decide), hF 17 (by decide), hF 18 (by decide), hF 19 (by decide), hF 21 (by decide), hF 22 (by decide), hF 27 (by decide), hF 34 (by decide), hF 33 (by decide)]
  exact hh
theorem Ck.lim {S : AS} {L' : LD} {a b : Mem} (h : Ck S a) (hF : Fr [6, 7, 8] a b) (hL : Lk L' b) : Ck (S.1, L', S.2.2) b := by
  obtain ⟨h1, -, h3⟩ := h
  refine ⟨?_, hL, ?_⟩
  · unfold Bk at h1 ⊢
    rw [hF 1 (by decide), hF 3 (by decide), hF 4 (by decide)]
    exact h1
  · unfold Sk at h3 ⊢
    rw [hF 0 (by decide), hF 16 (by decide), hF 17 (by decide), hF 18 (by decide), hF 19 (by decide), hF 21 (by decide), hF 22 (by decide), hF 27 (by decide), hF 34 (by decide), hF 33 (by decide)]
    exact h3
/-! arguments -/
theorem lt_n {x : Int32} {n : Nat} (hn : n ≤ 1000) (h : decide (0 ≤ x ∧ x ≤ nI n - 1) = true) : ∃ q : Nat, q < n ∧ x = nI q := by
  obtain ⟨h1, h2⟩ := of_decide_eq_true h
  obtain ⟨j, hj, rfl⟩ := nI_of (x := x) (fun z => absurd z (Int32.not_lt.mpr h1))
  refine ⟨j, ?_, rfl⟩
  cases n with
  | zero =>
    exfalso
    rw [show nI 0 - 1 = (-1 : Int32) from by decide, Int32.le_iff_toInt_le, nI_toInt hj] at h2
    have : (-1 : Int32).toInt = -1 := by decide
    omega
  | succ n =>
    rw [nI_pred] at h2
    have := nI_ge_of hj (by omega) h2
    omega
theorem lt_n_iff {x : Int32} {n : Nat} (hn : n ≤ 1000) {q : Nat} (hq : q < n) : decide (0 ≤ nI q ∧ nI q ≤ nI n - 1) = true := by
  apply decide_eq_true
  refine ⟨nI_pos' (by omega), ?_⟩
  obtain ⟨m, rfl⟩ : ∃ m, n = m + 1 := ⟨n - 1, by omega⟩
  rw [nI_pred]
  exact nI_le (by omega) (by omega)
theorem in_ab {x : Int32} {a b : Nat} (ha : a < 2 ^ 31) (hb : b < 2 ^ 31) (h : decide (nI a ≤ x ∧ x ≤ nI b) = true) : ∃ q : Nat, a ≤ q ∧ q ≤ b ∧ x = nI q := by
  obtain ⟨h1, h2⟩ := of_decide_eq_true h
  obtain ⟨j, hj, rfl⟩ := nI_of (x := x) (fun z => by
    have : (0 : Int32) ≤ nI a := nI_pos' ha
    rw [Int32.le_iff_toInt_le] at this h1
    rw [Int32.lt_iff_toInt_lt] at z
    omega)
  exact ⟨j, nI_ge_of ha hj h1, nI_ge_of hj hb h2, rfl⟩
theorem set_n {x : Int32} {n : Nat} (hn : n ≤ 24) : ((x.toUInt32 >>> ((nI n).toUInt32 &&& Int32.toUInt32 31)).toInt32 = 0) ↔ ∃ s : Nat, s < 2 ^ n ∧ x = nI s := by
  have hx : x = nI x.toBitVec.toNat := Int32.toBitVec_inj.mp (by rw [nI_bv]; simp)
  generalize x.toBitVec.toNat = k at hx
  subst hx
  obtain ⟨k', hk', e⟩ : ∃ k', k' < 2 ^ 32 ∧ nI k = nI k' := ⟨k % 2 ^ 32, Nat.mod_lt _ (by decide), Int32.toBitVec_inj.mp (by rw [nI_bv, nI_bv]; apply BitVec.eq_of_toNat_eq; simp)⟩
  rw [e, nb_ushr hk' (by omega)]
  have hp : 0 < 2 ^ n := Nat.pow_pos (by decide)
  constructor
  · intro h
    refine ⟨k', ?_, rfl⟩
    have hd : k' / 2 ^ n < 2 ^ 32 := Nat.lt_of_le_of_lt (Nat.div_le_self _ _) hk'
    have h0 : k' / 2 ^ n = 0 := by
      have h2 := congrArg (fun z : Int32 => z.toBitVec.toNat) h
      have h3 : (nI (k' / 2 ^ n)).toBitVec.toNat = k' / 2 ^ n := pk_tn hd
      have h4 : (0 : Int32).toBitVec.toNat = 0 := by decide
      rw [← h3]
      exact h2.trans h4
    rcases Nat.lt_or_ge k' (2 ^ n) with z | z
    · exact z
    · have := Nat.div_pos z hp
      omega
  · rintro ⟨s, hs, h⟩
    have hs2 : s < 2 ^ 32 := Nat.lt_of_lt_of_le hs (Nat.le_trans (pw_le hn) (by decide))
    have h2 := congrArg (fun z : Int32 => z.toBitVec.toNat) h
    have h3 : k' = s := by
      have a1 : (nI k').toBitVec.toNat = k' := pk_tn hk'
      have a2 : (nI s).toBitVec.toNat = s := pk_tn hs2
      rw [← a1, ← a2]
      exact h2
    rw [h3, Nat.div_eq_of_lt hs]
    rfl
/-! what a call does -/
def okQ (B : BD) (t s m k h : Int32) : Bool := ((decide (0 ≤ t ∧ t ≤ 3) && decide (0 ≤ s ∧ s ≤ 2)) && (decide (1 ≤ m ∧ m ≤ 60) && (decide (1 ≤ k ∧ k ≤ 40) && decide (1 ≤ h ∧ h ≤ 9)))) && decide (bN B < 24)
def addQ (B : BD) (t s m k h : Int32) : BD := (bN B + 1, bT B, bR B, fun q => if q = bN B then upd (upd (upd (upd (upd (upd (upd (bF B q) 0 t) 1 s) 2 m) 3 k) 4 h) 5 (-1)) 6 (-1) else bF B q, bG B)
def setF (B : BD) (q k : Nat) (v : Int32) : BD := (bN B, bT B, bR B, fun q' => if q' = q then upd (bF B q') k v else bF B q', bG B)
def setG (B : BD) (q v : Nat) : BD := (bN B, bT B, bR B, bF B, updN (bG B) q v)
def useF (B : BD) (s k : Nat) : BD := (bN B, bT B, bR B, fun q => if q < k ∧ s.testBit q = true then upd (bF B q) 6 (nI (bT B)) else bF B q, bG B)
theorem bF_useF (B : BD) (s k q : Nat) : bF (useF B s k) q = if q < k ∧ s.testBit q = true then upd (bF B q) 6 (nI (bT B)) else bF B q := rfl
theorem bF_addQ (B : BD) (t s m k h : Int32) (q : Nat) : bF (addQ B t s m k h) q = if q = bN B then upd (upd (upd (upd (upd (upd (upd (bF B q) 0 t) 1 s) 2 m) 3 k) 4 h) 5 (-1)) 6 (-1) else bF B q := rfl
section PB
variable {E : En} {d : Nat} {mem : Mem} {Q : Int32 → Mem → Prop} {S : AS}
theorem question_ok {t s m k h : Int32} (hC : Ck S mem) (hWF : WFS S) (hQ : ∀ mem', Fc mem mem' → Ck (if okQ S.1 t s m k h then (addQ S.1 t s m k h, S.2) else S) mem' → Q (if okQ S.1 t s m k h then nI (bN S.1) else -1) mem') : Call E (d + 1) mX8_question [pR 0 0, pI t, pI s, pI m, pI k, pI h] mem Q := by
  refine Call.of [some (pR 0 0), some (pI t), some (pI s), some (pI m), some (pI k), some (pI h), none, none, none] mk_X8_question rfl (Nat.le_of_ble_eq_true rfl) (fun _ => ?_)
  have hB := hC.1
  have h24 := hWF.1.1
  have fail : okQ S.1 t s m k h = false → ∀ (x y : Int32), Wp E (xm E (d + 1) mX8_question Q) mX8_question 86 [some (pR 0 0), some (pI t), some (pI s), some (pI m), some (pI k), some (pI h), some (pI x), some (pI y), none] [] mem := by
    intro hf x y
    have hq := hQ mem Fc.rf (by rw [hf]; exact hC)
    rw [hf] at hq
    refine r_iconst (q := 87) (-1) (by decide) dX8_question_86 rfl ?_
    refine r_iret rfl dX8_question_87 (?_)
    exact hq
  have J2 : ∀ b1 b2' : Bool, b1 = (decide (0 ≤ t ∧ t ≤ 3) && decide (0 ≤ s ∧ s ≤ 2)) → b2' = (decide (1 ≤ m ∧ m ≤ 60) && (decide (1 ≤ k ∧ k ≤ 40) && decide (1 ≤ h ∧ h ≤ 9))) → Wp E (xm E (d + 1) mX8_question Q) mX8_question 62 [some (pR 0 0), some (pI t), some (pI s), some (pI m), some (pI k), some (pI h), some (pI (b2 b1)), none, none] [pI (b2 b2')] mem := by
    intro b1 b2' e1 e2
    refine r_istore_7 (q := 64) (by decide) dX8_question_62 rfl ?_
    refine r_iload_6 (q := 66) dX8_question_64 rfl ?_
    refine r_if_eq (q := 69) 86 dX8_question_66 (by decide) rfl (fun h66 => ?_) (fun h66 => ?_)
    · exact fail (by unfold okQ; rw [← e1, b2_eq0.mp h66]; simp) _ _
    · refine r_iload_7 (q := 71) dX8_question_69 rfl ?_
      refine r_if_eq (q := 74) 86 dX8_question_71 (by decide) rfl (fun h71 => ?_) (fun h71 => ?_)
      · exact fail (by unfold okQ; rw [← e2, b2_eq0.mp h71]; simp) _ _
      · refine r_aload_0 (q := 75) dX8_question_74 rfl ?_
        refine r_getR (k := 0) (q := 78) f_RX8_12_7 rfl rfl dX8_question_75 rfl ?_
        refine r_getI (k := 2) (q := 81) f_RX8_72_0 rfl rfl dX8_question_78 rfl ?_
        refine r_bipush (q := 83) 24 (by decide) dX8_question_81 rfl ?_
        rw [hB.1]
        refine r_icmp_lt (q := 86) 88 dX8_question_83 (by decide) rfl (fun h83 => ?_) (fun h83 => ?_)
        · have hn : bN S.1 < 24 := (nI_ltI (b := 24) (by omega) (by decide)).mp h83
          have hok : okQ S.1 t s m k h = true := by unfold okQ; rw [← e1, ← e2, b2_ne0.mp h66, b2_ne0.mp h71, decide_eq_true hn]; rfl
          rw [hok] at hQ
          refine r_aload_0 (q := 89) dX8_question_88 rfl ?_
          refine r_getR (k := 0) (q := 92) f_RX8_12_7 rfl rfl dX8_question_89 rfl ?_
          refine r_getR (k := 0) (q := 95) f_RX8_75_0 rfl rfl dX8_question_92 rfl ?_
          refine r_aload_0 (q := 96) dX8_question_95 rfl ?_
          refine r_getR (k := 0) (q := 99) f_RX8_12_7 rfl rfl dX8_question_96 rfl ?_
          refine r_getI (k := 2) (q := 102) f_RX8_72_0 rfl rfl dX8_question_99 rfl ?_
          rw [hB.1]
          refine r_aald (q := 103) _ rfl rfl (by first | omega | assumption | decide) dX8_question_102 rfl ?_
          refine r_astore_8 (q := 105) (by decide) dX8_question_103 rfl ?_
          refine r_aload_8 (q := 107) dX8_question_105 rfl ?_
          refine r_iconst (q := 108) 0 (by decide) dX8_question_107 rfl ?_
          refine r_iload_1 (q := 109) dX8_question_108 rfl ?_
          refine r_iast (q := 110) _ rfl rfl (by first | omega | assumption | decide) dX8_question_109 rfl ?_
          refine r_aload_8 (q := 112) dX8_question_110 rfl ?_
          refine r_iconst (q := 113) 1 (by decide) dX8_question_112 rfl ?_
          refine r_iload_2 (q := 114) dX8_question_113 rfl ?_
          refine r_iast (q := 115) _ rfl rfl (by first | omega | assumption | decide) dX8_question_114 rfl ?_
          refine r_aload_8 (q := 117) dX8_question_115 rfl ?_
          refine r_iconst (q := 118) 2 (by decide) dX8_question_117 rfl ?_
          refine r_iload_3 (q := 119) dX8_question_118 rfl ?_
          refine r_iast (q := 120) _ rfl rfl (by first | omega | assumption | decide) dX8_question_119 rfl ?_
          refine r_aload_8 (q := 122) dX8_question_120 rfl ?_
          refine r_iconst (q := 123) 3 (by decide) dX8_question_122 rfl ?_
          refine r_iload_4 (q := 125) dX8_question_123 rfl ?_
          refine r_iast (q := 126) _ rfl rfl (by first | omega | assumption | decide) dX8_question_125 rfl ?_
          refine r_aload_8 (q := 128) dX8_question_126 rfl ?_
          refine r_iconst (q := 129) 4 (by decide) dX8_question_128 rfl ?_
          refine r_iload_5 (q := 131) dX8_question_129 rfl ?_
          refine r_iast (q := 132) _ rfl rfl (by first | omega | assumption | decide) dX8_question_131 rfl ?_
          refine r_aload_8 (q := 134) dX8_question_132 rfl ?_
          refine r_iconst (q := 135) 5 (by decide) dX8_question_134 rfl ?_
          refine r_iconst (q := 136) (-1) (by decide) dX8_question_135 rfl ?_
          refine r_iast (q := 137) _ rfl rfl (by first | omega | assumption | decide) dX8_question_136 rfl ?_
          refine r_aload_8 (q := 139) dX8_question_137 rfl ?_
          refine r_bipush (q := 141) 6 (by decide) dX8_question_139 rfl ?_
          refine r_iconst (q := 142) (-1) (by decide) dX8_question_141 rfl ?_
          refine r_iast (q := 143) _ rfl rfl (by first | omega | assumption | decide) dX8_question_142 rfl ?_
          refine r_aload_0 (q := 144) dX8_question_143 rfl ?_
          refine r_getR (k := 0) (q := 147) f_RX8_12_7 rfl rfl dX8_question_144 rfl ?_
          refine r_dup (q := 148) dX8_question_147 rfl ?_
          refine r_getI (k := 2) (q := 151) f_RX8_72_0 rfl rfl dX8_question_148 rfl ?_
          generalize hm1 : mset (mset (mset (mset (mset (mset (mset mem 3 (bN S.1) 0 t) 3 (bN S.1) 1 s) 3 (bN S.1) 2 m) 3 (bN S.1) 3 k) 3 (bN S.1) 4 h) 3 (bN S.1) 5 (-1)) 3 (bN S.1) 6 (-1) = m1
          have hF1 : Fr [3] mem m1 := by rw [← hm1]; exact ((((((Fr.rf.mset (by simp)).mset (by simp)).mset (by simp)).mset (by simp)).mset (by simp)).mset (by simp)).mset (by simp)
          have e3 : ∀ q k', m1 3 q k' = bF (addQ S.1 t s m k h) q k' := by
            intro q k'
            rw [bF_addQ]
            by_cases e : q = bN S.1
            · subst e
              rw [if_pos rfl, ← hm1]
              rw [mset_self, mset_self, mset_self, mset_self, mset_self, mset_self, mset_self, show mem 3 (bN S.1) = bF S.1 (bN S.1) from funext (hB.2.2.2.1 _)]
            · rw [if_neg e, ← hm1]
              rw [mset_ne _ _ _ (fun z => e z.2), mset_ne _ _ _ (fun z => e z.2), mset_ne _ _ _ (fun z => e z.2), mset_ne _ _ _ (fun z => e z.2), mset_ne _ _ _ (fun z => e z.2), mset_ne _ _ _ (fun z => e z.2), mset_ne _ _ _ (fun z => e z.2)]
              exact hB.2.2.2.1 q k'
          clear hm1
          rw [show m1 1 0 2 = nI (bN S.1) from by rw [hF1 1 (by decide)]; exact hB.1]
          refine r_iconst (q := 152) 1 (by decide) dX8_question_151 rfl ?_
          refine r_iadd (q := 153) dX8_question_152 rfl ?_
          rw [nI_1]
          refine r_put (k := 2) (q := 156) f_RX8_72_0 pf_0_2 rfl rfl dX8_question_153 rfl ?_
          refine r_aload_0 (q := 157) dX8_question_156 rfl ?_
          refine r_getR (k := 0) (q := 160) f_RX8_12_7 rfl rfl dX8_question_157 rfl ?_
          refine r_getI (k := 2) (q := 163) f_RX8_72_0 rfl rfl dX8_question_160 rfl ?_
          rw [mset_at]
          refine r_iconst (q := 164) 1 (by decide) dX8_question_163 rfl ?_
          refine r_isub (q := 165) dX8_question_164 rfl ?_
          rw [nI_pred]
          refine r_iret rfl dX8_question_165 (?_)
          refine hQ _ ((Fc.fr Fc.rf hF1 (by simp)).mset (by decide)) (hC.bank (((hF1.mono (by simp)).mset (by simp))) ?_)
          refine ⟨rfl, ?_, ?_, ?_, ?_⟩
          · rw [mset_self]; unfold upd; rw [if_neg (by decide), hF1 1 (by decide)]; exact hB.2.1
          · rw [mset_self]; unfold upd; rw [if_neg (by decide), hF1 1 (by decide)]; exact hB.2.2.1
          · intro q k'; rw [mset_g _ _ _ _ (by decide)]; exact e3 q k'
          · intro q; rw [mset_g _ _ _ _ (by decide), hF1 4 (by decide)]; exact hB.2.2.2.2 q
        · have hn : ¬ bN S.1 < 24 := fun z => h83 (nI_lt (b := 24) z (by decide))
          exact fail (by unfold okQ; rw [decide_eq_false hn, Bool.and_false]) _ _
  have J1 : ∀ b1 : Bool, b1 = (decide (0 ≤ t ∧ t ≤ 3) && decide (0 ≤ s ∧ s ≤ 2)) → Wp E (xm E (d + 1) mX8_question Q) mX8_question 23 [some (pR 0 0), some (pI t), some (pI s), some (pI m), some (pI k), some (pI h), none, none, none] [pI (b2 b1)] mem := by
    intro b1 e1
    refine r_istore_6 (q := 25) (by decide) dX8_question_23 rfl ?_
    refine r_iload_3 (q := 26) dX8_question_25 rfl ?_
    refine r_iconst (q := 27) 1 (by decide) dX8_question_26 rfl ?_
    refine r_bipush (q := 29) 60 (by decide) dX8_question_27 rfl ?_
    refine r_callS3i (M' := mX8_within) (q := 32) mk_X8_within ms_X8_within k_329 rfl (Nat.le_of_ble_eq_true rfl) rm_xm dX8_question_29 rfl (within_ok ?_)
    refine r_if_eq (q := 35) 61 dX8_question_32 (by decide) rfl (fun h32 => ?_) (fun h32 => ?_)
    · refine r_iconst (q := 62) 0 (by decide) dX8_question_61 rfl ?_
      exact J2 b1 false e1 (by rw [b2_eq0.mp h32]; rfl)
    · refine r_iload_4 (q := 37) dX8_question_35 rfl ?_
      refine r_iconst (q := 38) 1 (by decide) dX8_question_37 rfl ?_
      refine r_bipush (q := 40) 40 (by decide) dX8_question_38 rfl ?_
      refine r_callS3i (M' := mX8_within) (q := 43) mk_X8_within ms_X8_within k_329 rfl (Nat.le_of_ble_eq_true rfl) rm_xm dX8_question_40 rfl (within_ok ?_)
      refine r_if_eq (q := 46) 61 dX8_question_43 (by decide) rfl (fun h43 => ?_) (fun h43 => ?_)
      · refine r_iconst (q := 62) 0 (by decide) dX8_question_61 rfl ?_
        exact J2 b1 false e1 (by rw [b2_eq0.mp h43]; simp)
      · refine r_iload_5 (q := 48) dX8_question_46 rfl ?_
        refine r_iconst (q := 49) 1 (by decide) dX8_question_48 rfl ?_
        refine r_bipush (q := 51) 9 (by decide) dX8_question_49 rfl ?_
        refine r_callS3i (M' := mX8_within) (q := 54) mk_X8_within ms_X8_within k_329 rfl (Nat.le_of_ble_eq_true rfl) rm_xm dX8_question_51 rfl (within_ok ?_)
        refine r_if_eq (q := 57) 61 dX8_question_54 (by decide) rfl (fun h54 => ?_) (fun h54 => ?_)
        · refine r_iconst (q := 62) 0 (by decide) dX8_question_61 rfl ?_
          exact J2 b1 false e1 (by rw [b2_eq0.mp h54]; simp)
        · refine r_iconst (q := 58) 1 (by decide) dX8_question_57 rfl ?_
          refine r_goto 62 dX8_question_58 (by decide) ?_
          exact J2 b1 true e1 (by rw [b2_ne0.mp h32, b2_ne0.mp h43, b2_ne0.mp h54]; rfl)
  refine r_iload_1 (q := 1) dX8_question_0 rfl ?_
  refine r_iconst (q := 2) 0 (by decide) dX8_question_1 rfl ?_
  refine r_iconst (q := 3) 3 (by decide) dX8_question_2 rfl ?_
  refine r_callS3i (M' := mX8_within) (q := 6) mk_X8_within ms_X8_within k_329 rfl (Nat.le_of_ble_eq_true rfl) rm_xm dX8_question_3 rfl (within_ok ?_)
  refine r_if_eq (q := 9) 22 dX8_question_6 (by decide) rfl (fun h6 => ?_) (fun h6 => ?_)
  · refine r_iconst (q := 23) 0 (by decide) dX8_question_22 rfl ?_
    exact J1 false (by rw [b2_eq0.mp h6]; rfl)
  · refine r_iload_2 (q := 10) dX8_question_9 rfl ?_
    refine r_iconst (q := 11) 0 (by decide) dX8_question_10 rfl ?_
    refine r_iconst (q := 12) 2 (by decide) dX8_question_11 rfl ?_
    refine r_callS3i (M' := mX8_within) (q := 15) mk_X8_within ms_X8_within k_329 rfl (Nat.le_of_ble_eq_true rfl) rm_xm dX8_question_12 rfl (within_ok ?_)
    refine r_if_eq (q := 18) 22 dX8_question_15 (by decide) rfl (fun h15 => ?_) (fun h15 => ?_)
    · refine r_iconst (q := 23) 0 (by decide) dX8_question_22 rfl ?_
      exact J1 false (by rw [b2_eq0.mp h15]; simp)
    · refine r_iconst (q := 19) 1 (by decide) dX8_question_18 rfl ?_
      refine r_goto 23 dX8_question_19 (by decide) ?_
      exact J1 true (by rw [b2_ne0.mp h6, b2_ne0.mp h15]; rfl)
/-- QUESTION q -/
def hasB (B : BD) (x : Int32) : Bool := decide (0 ≤ x ∧ x ≤ nI (bN B) - 1)
theorem hasB_ex {B : BD} (hW : WFB B) {x : Int32} (h : hasB B x = true) : ∃ q, q < bN B ∧ x = nI q := lt_n (by have := hW.1; omega) h
theorem passage_ok {x p : Int32} (hC : Ck S mem) (hWF : WFS S) (hQ : ∀ mem', Fc mem mem' → Ck (if hasB S.1 x && decide (-1 ≤ p ∧ p ≤ 5) then (setF S.1 x.toNatClampNeg 5 p, S.2) else S) mem' → Q (b2 (hasB S.1 x && decide (-1 ≤ p ∧ p ≤ 5))) mem') : Call E (d + 2) mX8_passage [pR 0 0, pI x, pI p] mem Q := by
  refine Call.of [some (pR 0 0), some (pI x), some (pI p)] mk_X8_passage rfl (Nat.le_of_ble_eq_true rfl) (fun _ => ?_)
  have hB := hC.1
  have h24 := hWF.1.1
  have fail : (hasB S.1 x && decide (-1 ≤ p ∧ p ≤ 5)) = false → Wp E (xm E (d + 2) mX8_passage Q) mX8_passage 20 [some (pR 0 0), some (pI x), some (pI p)] [] mem := by
    intro hf
    have hq := hQ mem Fc.rf (by rw [hf]; exact hC)
    rw [hf] at hq
    refine r_iconst (q := 21) 0 (by decide) dX8_passage_20 rfl ?_
    refine r_zret (by first | exact Or.inl rfl | exact Or.inr rfl | assumption) rfl dX8_passage_21 (?_)
    exact hq
  refine r_aload_0 (q := 1) dX8_passage_0 rfl ?_
  refine r_getR (k := 0) (q := 4) f_RX8_12_7 rfl rfl dX8_passage_1 rfl ?_
  refine r_iload_1 (q := 5) dX8_passage_4 rfl ?_
  refine r_callV1i (M' := mX0_has) (q := 8) mk_X0_has mi_X0_has k_336 rfl rfl rfl rfl (Nat.le_of_ble_eq_true rfl) rm_xm dX8_passage_5 rfl (has_ok hB ?_)
  refine r_if_eq (q := 11) 20 dX8_passage_8 (by decide) rfl (fun h8 => ?_) (fun h8 => ?_)
  · exact fail (by rw [show hasB S.1 x = false from b2_eq0.mp h8]; rfl)
  · refine r_iload_2 (q := 12) dX8_passage_11 rfl ?_
    refine r_iconst (q := 13) (-1) (by decide) dX8_passage_12 rfl ?_
    refine r_iconst (q := 14) 5 (by decide) dX8_passage_13 rfl ?_
    refine r_callS3i (M' := mX8_within) (q := 17) mk_X8_within ms_X8_within k_329 rfl (Nat.le_of_ble_eq_true rfl) rm_xm dX8_passage_14 rfl (within_ok ?_)
    refine r_if_ne (q := 20) 22 dX8_passage_17 (by decide) rfl (fun h17 => ?_) (fun h17 => ?_)
    · have h8' : hasB S.1 x = true := b2_ne0.mp h8
      obtain ⟨q, hq, rfl⟩ := hasB_ex hWF.1 h8'
      rw [h8', b2_ne0.mp h17, nI_clamp (by omega)] at hQ
      refine r_aload_0 (q := 23) dX8_passage_22 rfl ?_
      refine r_getR (k := 0) (q := 26) f_RX8_12_7 rfl rfl dX8_passage_23 rfl ?_
      refine r_getR (k := 0) (q := 29) f_RX8_75_0 rfl rfl dX8_passage_26 rfl ?_
      refine r_iload_1 (q := 30) dX8_passage_29 rfl ?_
      refine r_aald (q := 31) _ rfl rfl (by first | omega | assumption | decide) dX8_passage_30 rfl ?_
      refine r_iconst (q := 32) 5 (by decide) dX8_passage_31 rfl ?_
      refine r_iload_2 (q := 33) dX8_passage_32 rfl ?_
      refine r_iast (q := 34) _ rfl rfl (by first | omega | assumption | decide) dX8_passage_33 rfl ?_
      refine r_iconst (q := 35) 1 (by decide) dX8_passage_34 rfl ?_
      refine r_zret (by first | exact Or.inl rfl | exact Or.inr rfl | assumption) rfl dX8_passage_35 (?_)
      refine hQ _ (Fc.rf.mset (by decide)) (hC.bank (Fr.rf.mset (by simp)) ?_)
      refine ⟨hB.1, hB.2.1, hB.2.2.1, fun q' k' => ?_, hB.2.2.2.2⟩
      show mset mem 3 q 5 p 3 q' k' = (if q' = q then upd (bF S.1 q') 5 p else bF S.1 q') k'
      by_cases e : q' = q
      · subst e; rw [mset_self, if_pos rfl, show mem 3 q' = bF S.1 q' from funext (hB.2.2.2.1 _)]
      · rw [mset_ne _ _ _ (fun z => e z.2), if_neg e]; exact hB.2.2.2.1 q' k'
    · exact fail (by rw [b2_eq0.mp h17, Bool.and_false])
/-- gives: a and b, apart; whether it is not so already -/
def givB (B : BD) (x y : Int32) (is : Bool) : Bool := (hasB B x && (hasB B y && decide (¬ x = y))) && decide (¬ (bG B x.toNatClampNeg).testBit y.toNatClampNeg = is)
theorem gives_ok {x y : Int32} {is : Bool} (hC : Ck S mem) (hWF : WFS S) (hQ : ∀ mem', Fc mem mem' → Ck (if givB S.1 x y is then (setG S.1 x.toNatClampNeg (bG S.1 x.toNatClampNeg ^^^ 2 ^ y.toNatClampNeg), S.2) else S) mem' → Q (b2 (givB S.1 x y is)) mem') : Call E (d + 2) mX8_gives [pR 0 0, pI x, pI y, pI (b2 is)] mem Q := by
  refine Call.of [some (pR 0 0), some (pI x), some (pI y), some (pI (b2 is)), none] mk_X8_gives rfl (Nat.le_of_ble_eq_true rfl) (fun _ => ?_)
  have hB := hC.1
  have h24 := hWF.1.1
  have fail : givB S.1 x y is = false → Wp E (xm E (d + 2) mX8_gives Q) mX8_gives 27 [some (pR 0 0), some (pI x), some (pI y), some (pI (b2 is)), none] [] mem := by
    intro hf
    have hq := hQ mem Fc.rf (by rw [hf]; exact hC)
    rw [hf] at hq
    refine r_iconst (q := 28) 0 (by decide) dX8_gives_27 rfl ?_
    refine r_zret (by first | exact Or.inl rfl | exact Or.inr rfl | assumption) rfl dX8_gives_28 (?_)
    exact hq
  refine r_aload_0 (q := 1) dX8_gives_0 rfl ?_
  refine r_getR (k := 0) (q := 4) f_RX8_12_7 rfl rfl dX8_gives_1 rfl ?_
  refine r_iload_1 (q := 5) dX8_gives_4 rfl ?_
  refine r_callV1i (M' := mX0_has) (q := 8) mk_X0_has mi_X0_has k_336 rfl rfl rfl rfl (Nat.le_of_ble_eq_true rfl) rm_xm dX8_gives_5 rfl (has_ok hB ?_)
  refine r_if_eq (q := 11) 27 dX8_gives_8 (by decide) rfl (fun h8 => ?_) (fun h8 => ?_)
  · exact fail (by unfold givB; rw [show hasB S.1 x = false from b2_eq0.mp h8]; rfl)
  · refine r_aload_0 (q := 12) dX8_gives_11 rfl ?_
    refine r_getR (k := 0) (q := 15) f_RX8_12_7 rfl rfl dX8_gives_12 rfl ?_
    refine r_iload_2 (q := 16) dX8_gives_15 rfl ?_
    refine r_callV1i (M' := mX0_has) (q := 19) mk_X0_has mi_X0_has k_336 rfl rfl rfl rfl (Nat.le_of_ble_eq_true rfl) rm_xm dX8_gives_16 rfl (has_ok hB ?_)
    refine r_if_eq (q := 22) 27 dX8_gives_19 (by decide) rfl (fun h19 => ?_) (fun h19 => ?_)
    · exact fail (by unfold givB; rw [show hasB S.1 y = false from b2_eq0.mp h19]; simp)
    · refine r_iload_1 (q := 23) dX8_gives_22 rfl ?_
      refine r_iload_2 (q := 24) dX8_gives_23 rfl ?_
      refine r_icmp_ne (q := 27) 29 dX8_gives_24 (by decide) rfl (fun h24b => ?_) (fun h24b => ?_)
      · have h8' : hasB S.1 x = true := b2_ne0.mp h8
        have h19' : hasB S.1 y = true := b2_ne0.mp h19
        have e1 : givB S.1 x y is = decide (¬ (bG S.1 x.toNatClampNeg).testBit y.toNatClampNeg = is) := by unfold givB; rw [h8', h19', decide_eq_true h24b]; rfl
        rw [e1] at hQ
        obtain ⟨a, ha, rfl⟩ := hasB_ex hWF.1 h8'
        obtain ⟨b, hb, rfl⟩ := hasB_ex hWF.1 h19'
        rw [nI_clamp (show a < 2 ^ 31 by omega), nI_clamp (show b < 2 ^ 31 by omega)] at hQ
        have hg := bG_lt hWF.1 a
        refine r_aload_0 (q := 30) dX8_gives_29 rfl ?_
        refine r_getR (k := 0) (q := 33) f_RX8_12_7 rfl rfl dX8_gives_30 rfl ?_
        refine r_getR (k := 1) (q := 36) f_RX8_83_0 rfl rfl dX8_gives_33 rfl ?_
        refine r_iload_1 (q := 37) dX8_gives_36 rfl ?_
        refine r_iald (q := 38) _ rfl rfl (by first | omega | assumption | decide) dX8_gives_37 rfl ?_
        rw [hB.2.2.2.2 a]
        refine r_iload_2 (q := 39) dX8_gives_38 rfl ?_
        refine r_callS2i (M' := mX8_contains) (q := 42) mk_X8_contains ms_X8_contains k_345 rfl (Nat.le_of_ble_eq_true rfl) rm_xm dX8_gives_39 rfl (contains_ok (pw24 hg) (by omega) ?_)
        refine r_istore_4 (q := 44) (by decide) dX8_gives_42 rfl ?_
        refine r_iload_4 (q := 46) dX8_gives_44 rfl ?_
        refine r_iload_3 (q := 47) dX8_gives_46 rfl ?_
        refine r_icmp_ne (q := 50) 52 dX8_gives_47 (by decide) rfl (fun h47 => ?_) (fun h47 => ?_)
        · have h47 : ¬ (bG S.1 a).testBit b = is := fun z => h47 (by rw [z])
          rw [decide_eq_true h47] at hQ
          refine r_aload_0 (q := 53) dX8_gives_52 rfl ?_
          refine r_getR (k := 0) (q := 56) f_RX8_12_7 rfl rfl dX8_gives_53 rfl ?_
          refine r_getR (k := 1) (q := 59) f_RX8_83_0 rfl rfl dX8_gives_56 rfl ?_
          refine r_iload_1 (q := 60) dX8_gives_59 rfl ?_
          refine r_dup2 (q := 61) dX8_gives_60 rfl ?_
          refine r_iald (q := 62) _ rfl rfl (by first | omega | assumption | decide) dX8_gives_61 rfl ?_
          rw [hB.2.2.2.2 a]
          refine r_iconst (q := 63) 1 (by decide) dX8_gives_62 rfl ?_
          refine r_iload_2 (q := 64) dX8_gives_63 rfl ?_
          refine r_ishl (q := 65) dX8_gives_64 rfl ?_
          rw [nb_shl1 b (by omega)]
          refine r_ixor (q := 66) dX8_gives_65 rfl ?_
          rw [nb_xor]
          refine r_iast (q := 67) _ rfl rfl (by first | omega | assumption | decide) dX8_gives_66 rfl ?_
          refine r_iconst (q := 68) 1 (by decide) dX8_gives_67 rfl ?_
          refine r_zret (by first | exact Or.inl rfl | exact Or.inr rfl | assumption) rfl dX8_gives_68 (?_)
          refine hQ _ (Fc.rf.mset (by decide)) (hC.bank (Fr.rf.mset (by simp)) ?_)
          refine ⟨hB.1, hB.2.1, hB.2.2.1, hB.2.2.2.1, fun q' => ?_⟩
          show mset mem 4 0 a _ 4 0 q' = nI (updN (bG S.1) a _ q')
          rw [mset_self]
          unfold upd updN
          by_cases e : q' = a
          · rw [if_pos e, if_pos e]
          · rw [if_neg e, if_neg e]; exact hB.2.2.2.2 q'
        · have h47 : (bG S.1 a).testBit b = is := b2_inj.mp h47
          rw [decide_eq_false (fun z => z h47)] at hQ
          have hq := hQ mem Fc.rf hC
          refine r_iconst (q := 51) 0 (by decide) dX8_gives_50 rfl ?_
          refine r_zret (by first | exact Or.inl rfl | exact Or.inr rfl | assumption) rfl dX8_gives_51 (?_)
          exact hq
      · exact fail (by unfold givB; rw [decide_eq_false (fun z => z h24b)]; simp)
def bndB (b l g : Int32) : Bool := decide (0 ≤ b ∧ b ≤ 9) && ((decide (0 ≤ l ∧ l ≤ 1000) && decide (0 ≤ g ∧ g ≤ 1000)) && decide (l ≤ g))
def setL (L : LD) (b l g : Nat) : LD := (updN L.1 b l, updN L.2.1 b g, L.2.2)
def setW (L : LD) (t m : Nat) : LD := (L.1, L.2.1, updN L.2.2 t m)
theorem bound_ok {b l g : Int32} (hC : Ck S mem) (hQ : ∀ mem', Fc mem mem' → Ck (if bndB b l g then (S.1, setL S.2.1 b.toNatClampNeg l.toNatClampNeg g.toNatClampNeg, S.2.2) else S) mem' → Q (b2 (bndB b l g)) mem') : Call E (d + 1) mX8_bound [pR 0 0, pI b, pI l, pI g] mem Q := by
  refine Call.of [some (pR 0 0), some (pI b), some (pI l), some (pI g), none] mk_X8_bound rfl (Nat.le_of_ble_eq_true rfl) (fun _ => ?_)
  have hL := hC.2.1
  have fail : bndB b l g = false → ∀ x, Wp E (xm E (d + 1) mX8_bound Q) mX8_bound 49 [some (pR 0 0), some (pI b), some (pI l), some (pI g), some (pI x)] [] mem := by
    intro hf x
    have hq := hQ mem Fc.rf (by rw [hf]; exact hC)
    rw [hf] at hq
    refine r_iconst (q := 50) 0 (by decide) dX8_bound_49 rfl ?_
    refine r_zret (by first | exact Or.inl rfl | exact Or.inr rfl | assumption) rfl dX8_bound_50 (?_)
    exact hq
  have J : ∀ c : Bool, c = (decide (0 ≤ l ∧ l ≤ 1000) && decide (0 ≤ g ∧ g ≤ 1000)) → Wp E (xm E (d + 1) mX8_bound Q) mX8_bound 27 [some (pR 0 0), some (pI b), some (pI l), some (pI g), none] [pI (b2 c)] mem := by
    intro c e1
    refine r_istore_4 (q := 29) (by decide) dX8_bound_27 rfl ?_
    refine r_iload_1 (q := 30) dX8_bound_29 rfl ?_
    refine r_iconst (q := 31) 0 (by decide) dX8_bound_30 rfl ?_
    refine r_bipush (q := 33) 9 (by decide) dX8_bound_31 rfl ?_
    refine r_callS3i (M' := mX8_within) (q := 36) mk_X8_within ms_X8_within k_329 rfl (Nat.le_of_ble_eq_true rfl) rm_xm dX8_bound_33 rfl (within_ok ?_)
    refine r_if_eq (q := 39) 49 dX8_bound_36 (by decide) rfl (fun h36 => ?_) (fun h36 => ?_)
    · exact fail (by unfold bndB; rw [b2_eq0.mp h36]; rfl) _
    · refine r_iload_4 (q := 41) dX8_bound_39 rfl ?_
      refine r_if_eq (q := 44) 49 dX8_bound_41 (by decide) rfl (fun h41 => ?_) (fun h41 => ?_)
      · exact fail (by unfold bndB; rw [← e1, b2_eq0.mp h41]; simp) _
      · refine r_iload_2 (q := 45) dX8_bound_44 rfl ?_
        refine r_iload_3 (q := 46) dX8_bound_45 rfl ?_
        refine r_icmp_le (q := 49) 51 dX8_bound_46 (by decide) rfl (fun h46 => ?_) (fun h46 => ?_)
        · have hok : bndB b l g = true := by unfold bndB; rw [← e1, b2_ne0.mp h36, b2_ne0.mp h41, decide_eq_true h46]; rfl
          have hc : (decide (0 ≤ l ∧ l ≤ 1000) && decide (0 ≤ g ∧ g ≤ 1000)) = true := e1 ▸ b2_ne0.mp h41
          rw [Bool.and_eq_true] at hc
          obtain ⟨b', -, hb', rfl⟩ := in_ab (a := 0) (b := 9) (by decide) (by decide) (b2_ne0.mp h36)
          obtain ⟨l', -, hl', rfl⟩ := in_ab (a := 0) (b := 1000) (by decide) (by decide) hc.1
          obtain ⟨g', -, hg', rfl⟩ := in_ab (a := 0) (b := 1000) (by decide) (by decide) hc.2
          rw [hok, nI_clamp (show b' < 2 ^ 31 by omega), nI_clamp (show l' < 2 ^ 31 by omega), nI_clamp (show g' < 2 ^ 31 by omega)] at hQ
          refine r_aload_0 (q := 52) dX8_bound_51 rfl ?_
          refine r_getR (k := 1) (q := 55) f_RX8_19_7 rfl rfl dX8_bound_52 rfl ?_
          refine r_getR (k := 0) (q := 58) f_RX8_90_2 rfl rfl dX8_bound_55 rfl ?_
          refine r_iload_1 (q := 59) dX8_bound_58 rfl ?_
          refine r_iload_2 (q := 60) dX8_bound_59 rfl ?_
          refine r_iast (q := 61) _ rfl rfl (by first | omega | assumption | decide) dX8_bound_60 rfl ?_
          refine r_aload_0 (q := 62) dX8_bound_61 rfl ?_
          refine r_getR (k := 1) (q := 65) f_RX8_19_7 rfl rfl dX8_bound_62 rfl ?_
          refine r_getR (k := 1) (q := 68) f_RX8_93_2 rfl rfl dX8_bound_65 rfl ?_
          refine r_iload_1 (q := 69) dX8_bound_68 rfl ?_
          refine r_iload_3 (q := 70) dX8_bound_69 rfl ?_
          refine r_iast (q := 71) _ rfl rfl (by first | omega | assumption | decide) dX8_bound_70 rfl ?_
          refine r_iconst (q := 72) 1 (by decide) dX8_bound_71 rfl ?_
          refine r_zret (by first | exact Or.inl rfl | exact Or.inr rfl | assumption) rfl dX8_bound_72 (?_)
          refine hQ _ ((Fc.rf.mset (by decide)).mset (by decide)) (hC.lim ((Fr.rf.mset (by simp)).mset (by simp)) (fun i => ?_))
          have e6 : mset (mset mem 6 0 b' (nI l')) 7 0 b' (nI g') 6 0 = upd (mem 6 0) b' (nI l') := by rw [mset_g _ _ _ _ (by decide), mset_self]
          have e7 : mset (mset mem 6 0 b' (nI l')) 7 0 b' (nI g') 7 0 = upd (mem 7 0) b' (nI g') := by rw [mset_self, mset_g _ _ _ _ (by decide)]
          have e8 : mset (mset mem 6 0 b' (nI l')) 7 0 b' (nI g') 8 0 = mem 8 0 := by rw [mset_g _ _ _ _ (by decide), mset_g _ _ _ _ (by decide)]
          rw [e6, e7, e8]
          unfold setL updN upd
          by_cases e : i = b'
          · subst e; exact ⟨by simp, by simp, (hL i).2.2⟩
          · simp only [e, if_false]; exact hL i
        · exact fail (by unfold bndB; rw [decide_eq_false h46]; simp) _
  refine r_iload_2 (q := 1) dX8_bound_0 rfl ?_
  refine r_iconst (q := 2) 0 (by decide) dX8_bound_1 rfl ?_
  refine r_sipush (q := 5) 1000 (by decide) dX8_bound_2 rfl ?_
  refine r_callS3i (M' := mX8_within) (q := 8) mk_X8_within ms_X8_within k_329 rfl (Nat.le_of_ble_eq_true rfl) rm_xm dX8_bound_5 rfl (within_ok ?_)
  refine r_if_eq (q := 11) 26 dX8_bound_8 (by decide) rfl (fun h8 => ?_) (fun h8 => ?_)
  · refine r_iconst (q := 27) 0 (by decide) dX8_bound_26 rfl ?_
    exact J false (by rw [b2_eq0.mp h8]; rfl)
  · refine r_iload_3 (q := 12) dX8_bound_11 rfl ?_
    refine r_iconst (q := 13) 0 (by decide) dX8_bound_12 rfl ?_
    refine r_sipush (q := 16) 1000 (by decide) dX8_bound_13 rfl ?_
    refine r_callS3i (M' := mX8_within) (q := 19) mk_X8_within ms_X8_within k_329 rfl (Nat.le_of_ble_eq_true rfl) rm_xm dX8_bound_16 rfl (within_ok ?_)
    refine r_if_eq (q := 22) 26 dX8_bound_19 (by decide) rfl (fun h19 => ?_) (fun h19 => ?_)
    · refine r_iconst (q := 27) 0 (by decide) dX8_bound_26 rfl ?_
      exact J false (by rw [b2_eq0.mp h19]; simp)
    · refine r_iconst (q := 23) 1 (by decide) dX8_bound_22 rfl ?_
      refine r_goto 27 dX8_bound_23 (by decide) ?_
      exact J true (by rw [b2_ne0.mp h8, b2_ne0.mp h19]; rfl)
def proB (t m : Int32) : Bool := decide (0 ≤ t ∧ t ≤ 3) && decide (0 ≤ m ∧ m ≤ 1000)
theorem profile_ok {t m : Int32} (hC : Ck S mem) (hQ : ∀ mem', Fc mem mem' → Ck (if proB t m then (S.1, setW S.2.1 t.toNatClampNeg m.toNatClampNeg, S.2.2) else S) mem' → Q (b2 (proB t m)) mem') : Call E (d + 1) mX8_profile [pR 0 0, pI t, pI m] mem Q := by
  refine Call.of [some (pR 0 0), some (pI t), some (pI m)] mk_X8_profile rfl (Nat.le_of_ble_eq_true rfl) (fun _ => ?_)
  have hL := hC.2.1
  have fail : proB t m = false → Wp E (xm E (d + 1) mX8_profile Q) mX8_profile 20 [some (pR 0 0), some (pI t), some (pI m)] [] mem := by
    intro hf
    have hq := hQ mem Fc.rf (by rw [hf]; exact hC)
    rw [hf] at hq
    refine r_iconst (q := 21) 0 (by decide) dX8_profile_20 rfl ?_
    refine r_zret (by first | exact Or.inl rfl | exact Or.inr rfl | assumption) rfl dX8_profile_21 (?_)
    exact hq
  refine r_iload_1 (q := 1) dX8_profile_0 rfl ?_
  refine r_iconst (q := 2) 0 (by decide) dX8_profile_1 rfl ?_
  refine r_iconst (q := 3) 3 (by decide) dX8_profile_2 rfl ?_
  refine r_callS3i (M' := mX8_within) (q := 6) mk_X8_within ms_X8_within k_329 rfl (Nat.le_of_ble_eq_true rfl) rm_xm dX8_profile_3 rfl (within_ok ?_)
  refine r_if_eq (q := 9) 20 dX8_profile_6 (by decide) rfl (fun h6 => ?_) (fun h6 => ?_)
  · exact fail (by unfold proB; rw [b2_eq0.mp h6]; rfl)
  · refine r_iload_2 (q := 10) dX8_profile_9 rfl ?_
    refine r_iconst (q := 11) 0 (by decide) dX8_profile_10 rfl ?_
    refine r_sipush (q := 14) 1000 (by decide) dX8_profile_11 rfl ?_
    refine r_callS3i (M' := mX8_within) (q := 17) mk_X8_within ms_X8_within k_329 rfl (Nat.le_of_ble_eq_true rfl) rm_xm dX8_profile_14 rfl (within_ok ?_)
    refine r_if_ne (q := 20) 22 dX8_profile_17 (by decide) rfl (fun h17 => ?_) (fun h17 => ?_)
    · have hok : proB t m = true := by unfold proB; rw [b2_ne0.mp h6, b2_ne0.mp h17]; rfl
      obtain ⟨t', -, ht', rfl⟩ := in_ab (a := 0) (b := 3) (by decide) (by decide) (b2_ne0.mp h6)
      obtain ⟨m', -, hm', rfl⟩ := in_ab (a := 0) (b := 1000) (by decide) (by decide) (b2_ne0.mp h17)
      rw [hok, nI_clamp (show t' < 2 ^ 31 by omega), nI_clamp (show m' < 2 ^ 31 by omega)] at hQ
      refine r_aload_0 (q := 23) dX8_profile_22 rfl ?_
      refine r_getR (k := 1) (q := 26) f_RX8_19_7 rfl rfl dX8_profile_23 rfl ?_
      refine r_getR (k := 2) (q := 29) f_RX8_96_2 rfl rfl dX8_profile_26 rfl ?_
      refine r_iload_1 (q := 30) dX8_profile_29 rfl ?_
      refine r_iload_2 (q := 31) dX8_profile_30 rfl ?_
      refine r_iast (q := 32) _ rfl rfl (by first | omega | assumption | decide) dX8_profile_31 rfl ?_
      refine r_iconst (q := 33) 1 (by decide) dX8_profile_32 rfl ?_
      refine r_zret (by first | exact Or.inl rfl | exact Or.inr rfl | assumption) rfl dX8_profile_33 (?_)
      refine hQ _ (Fc.rf.mset (by decide)) (hC.lim (Fr.rf.mset (by simp)) (fun i => ?_))
      rw [mset_g _ _ _ _ (by decide), mset_g _ _ _ _ (by decide), mset_self]
      unfold setW updN upd
      by_cases e : i = t'
      · subst e; exact ⟨(hL i).1, (hL i).2.1, by simp⟩
      · simp only [e, if_false]; exact hL i
    · exact fail (by unfold proB; rw [b2_eq0.mp h17, Bool.and_false])
theorem rest_ok {r : Int32} (hC : Ck S mem) (hQ : ∀ mem', Fc mem mem' → Ck (if decide (0 ≤ r ∧ r ≤ 9) then ((bN S.1, bT S.1, r.toNatClampNeg, bF S.1, bG S.1), S.2) else S) mem' → Q (b2 (decide (0 ≤ r ∧ r ≤ 9))) mem') : Call E (d + 1) mX8_rest [pR 0 0, pI r] mem Q := by
  refine Call.of [some (pR 0 0), some (pI r)] mk_X8_rest rfl (Nat.le_of_ble_eq_true rfl) (fun _ => ?_)
  have hB := hC.1
  refine r_iload_1 (q := 1) dX8_rest_0 rfl ?_
  refine r_iconst (q := 2) 0 (by decide) dX8_rest_1 rfl ?_
  refine r_bipush (q := 4) 9 (by decide) dX8_rest_2 rfl ?_
  refine r_callS3i (M' := mX8_within) (q := 7) mk_X8_within ms_X8_within k_329 rfl (Nat.le_of_ble_eq_true rfl) rm_xm dX8_rest_4 rfl (within_ok ?_)
  refine r_if_ne (q := 10) 12 dX8_rest_7 (by decide) rfl (fun h7 => ?_) (fun h7 => ?_)
  · have h7 := b2_ne0.mp h7
    obtain ⟨r', -, hr', rfl⟩ := in_ab (a := 0) (b := 9) (by decide) (by decide) h7
    rw [h7, nI_clamp (show r' < 2 ^ 31 by omega)] at hQ
    refine r_aload_0 (q := 13) dX8_rest_12 rfl ?_
    refine r_getR (k := 0) (q := 16) f_RX8_12_7 rfl rfl dX8_rest_13 rfl ?_
    refine r_iload_1 (q := 17) dX8_rest_16 rfl ?_
    refine r_put (k := 4) (q := 20) f_RX8_99_0 pf_0_4 rfl rfl dX8_rest_17 rfl ?_
    refine r_iconst (q := 21) 1 (by decide) dX8_rest_20 rfl ?_
    refine r_zret (by first | exact Or.inl rfl | exact Or.inr rfl | assumption) rfl dX8_rest_21 (?_)
    exact hQ _ (Fc.rf.mset (by decide)) (hC.bank (Fr.rf.mset (by simp)) ⟨hB.1, hB.2.1, rfl, hB.2.2.2.1, hB.2.2.2.2⟩)
  · have h7 := b2_eq0.mp h7
    rw [h7] at hQ
    refine r_iconst (q := 11) 0 (by decide) dX8_rest_10 rfl ?_
    refine r_zret (by first | exact Or.inl rfl | exact Or.inr rfl | assumption) rfl dX8_rest_11 (?_)
    exact hQ mem Fc.rf hC
theorem term_ok (hC : Ck S mem) (hWF : WFS S) (hQ : ∀ mem', Fc mem mem' → Ck (if bT S.1 < 1000 then ((bN S.1, bT S.1 + 1, bR S.1, bF S.1, bG S.1), S.2) else S) mem' → Q (if bT S.1 < 1000 then nI (bT S.1 + 1) else -1) mem') : Call E d mX8_term [pR 0 0] mem Q := by
  refine Call.of [some (pR 0 0)] mk_X8_term rfl (Nat.le_of_ble_eq_true rfl) (fun _ => ?_)
  have hB := hC.1
  have hT := hWF.1.2.1
  refine r_aload_0 (q := 1) dX8_term_0 rfl ?_
  refine r_getR (k := 0) (q := 4) f_RX8_12_7 rfl rfl dX8_term_1 rfl ?_
  refine r_getI (k := 3) (q := 7) f_RX8_102_0 rfl rfl dX8_term_4 rfl ?_
  refine r_sipush (q := 10) 1000 (by decide) dX8_term_7 rfl ?_
  rw [hB.2.1]
  refine r_icmp_lt (q := 13) 15 dX8_term_10 (by decide) rfl (fun h10 => ?_) (fun h10 => ?_)
  · have h10 : bT S.1 < 1000 := (nI_ltI (b := 1000) (by omega) (by decide)).mp h10
    rw [if_pos h10, if_pos h10] at hQ
    refine r_aload_0 (q := 16) dX8_term_15 rfl ?_
    refine r_getR (k := 0) (q := 19) f_RX8_12_7 rfl rfl dX8_term_16 rfl ?_
    refine r_dup (q := 20) dX8_term_19 rfl ?_
    refine r_getI (k := 3) (q := 23) f_RX8_102_0 rfl rfl dX8_term_20 rfl ?_
    rw [hB.2.1]
    refine r_iconst (q := 24) 1 (by decide) dX8_term_23 rfl ?_
    refine r_iadd (q := 25) dX8_term_24 rfl ?_
    rw [nI_1]
    refine r_put (k := 3) (q := 28) f_RX8_102_0 pf_0_3 rfl rfl dX8_term_25 rfl ?_
    refine r_aload_0 (q := 29) dX8_term_28 rfl ?_
    refine r_getR (k := 0) (q := 32) f_RX8_12_7 rfl rfl dX8_term_29 rfl ?_
    refine r_getI (k := 3) (q := 35) f_RX8_102_0 rfl rfl dX8_term_32 rfl ?_
    rw [mset_at]
    refine r_iret rfl dX8_term_35 (?_)
    exact hQ _ (Fc.rf.mset (by decide)) (hC.bank (Fr.rf.mset (by simp)) ⟨hB.1, rfl, hB.2.2.1, hB.2.2.2.1, hB.2.2.2.2⟩)
  · have h10 : ¬ bT S.1 < 1000 := fun z => h10 (nI_lt (b := 1000) z (by decide))
    rw [if_neg h10, if_neg h10] at hQ
    refine r_iconst (q := 14) (-1) (by decide) dX8_term_13 rfl ?_
    refine r_iret rfl dX8_term_14 (?_)
    exact hQ mem Fc.rf hC
/-- a set of questions -/
def setB (B : BD) (x : Int32) : Bool := decide ((x.toUInt32 >>> ((nI (bN B)).toUInt32 &&& Int32.toUInt32 31)).toInt32 = 0)
theorem setB_ex {B : BD} (hW : WFB B) {x : Int32} (h : setB B x = true) : ∃ s, s < 2 ^ bN B ∧ x = nI s := (set_n hW.1).mp (of_decide_eq_true h)
theorem use_ok {x : Int32} (hC : Ck S mem) (hWF : WFS S) (hQ : ∀ mem', Fc mem mem' → Ck (if setB S.1 x then (useF S.1 x.toNatClampNeg (bN S.1), S.2) else S) mem' → Q (b2 (setB S.1 x)) mem') : Call E (d + 1) mX8_use [pR 0 0, pI x] mem Q := by
  refine Call.of [some (pR 0 0), some (pI x), none] mk_X8_use rfl (Nat.le_of_ble_eq_true rfl) (fun _ => ?_)
  have hB := hC.1
  have h24 := hWF.1.1
  refine r_aload_0 (q := 1) dX8_use_0 rfl ?_
  refine r_getR (k := 0) (q := 4) f_RX8_12_7 rfl rfl dX8_use_1 rfl ?_
  refine r_iload_1 (q := 5) dX8_use_4 rfl ?_
  refine r_callV1i (M' := mX0_hasAll) (q := 8) mk_X0_hasAll mi_X0_hasAll k_368 rfl rfl rfl rfl (Nat.le_of_ble_eq_true rfl) rm_xm dX8_use_5 rfl (hasAll_ok hB ?_)
  refine r_if_ne (q := 11) 13 dX8_use_8 (by decide) rfl (fun h8 => ?_) (fun h8 => ?_)
  · have h8 : setB S.1 x = true := b2_ne0.mp h8
    obtain ⟨s, hs, rfl⟩ := setB_ex hWF.1 h8
    have hs24 : s < 2 ^ 24 := Nat.lt_of_lt_of_le hs (pw_le h24)
    rw [h8, nI_clamp (pw24 hs24)] at hQ
    refine r_iconst (q := 14) 0 (by decide) dX8_use_13 rfl ?_
    refine r_istore_2 (q := 15) (by decide) dX8_use_14 rfl ?_
    suffices H : ∀ (k q : Nat) (m : Mem), bN S.1 - q < k → q ≤ bN S.1 → Fr [3] mem m → (∀ q' k', m 3 q' k' = bF (useF S.1 s q) q' k') → Wp E (xm E (d + 1) mX8_use Q) mX8_use 15 [some (pR 0 0), some (pI (nI s)), some (pI (nI q))] [] m from H (bN S.1 + 1) 0 mem (by omega) (by omega) Fr.rf (fun q' k' => by
      rw [bF_useF, if_neg (fun z => absurd z.1 (Nat.not_lt_zero _))]
      exact hB.2.2.2.1 q' k')
    intro k
    induction k with
    | zero => intro q m h; omega
    | succ k ih =>
      intro q m h1 h2 hF hR
      refine r_iload_2 (q := 16) dX8_use_15 rfl ?_
      refine r_aload_0 (q := 17) dX8_use_16 rfl ?_
      refine r_getR (k := 0) (q := 20) f_RX8_12_7 rfl rfl dX8_use_17 rfl ?_
      refine r_getI (k := 2) (q := 23) f_RX8_72_0 rfl rfl dX8_use_20 rfl ?_
      rw [show m 1 0 2 = nI (bN S.1) by rw [hF 1 (by decide)]; exact hB.1]
      refine r_icmp_ge (q := 26) 59 dX8_use_23 (by decide) rfl (fun h23 => ?_) (fun h23 => ?_)
      · have hq := nI_ge_of (by omega) (by omega) h23
        have hq : q = bN S.1 := by omega
        subst hq
        refine r_iconst (q := 60) 1 (by decide) dX8_use_59 rfl ?_
        refine r_zret (by first | exact Or.inl rfl | exact Or.inr rfl | assumption) rfl dX8_use_60 (?_)
        refine hQ m (Fc.fr Fc.rf hF (by simp)) (hC.bank (hF.mono (by simp)) ⟨?_, ?_, ?_, hR, ?_⟩)
        · rw [hF 1 (by decide)]; exact hB.1
        · rw [hF 1 (by decide)]; exact hB.2.1
        · rw [hF 1 (by decide)]; exact hB.2.2.1
        · intro q; rw [hF 4 (by decide)]; exact hB.2.2.2.2 q
      · have hq : q < bN S.1 := nI_lt_of (by omega) h23
        refine r_iload_1 (q := 27) dX8_use_26 rfl ?_
        refine r_iload_2 (q := 28) dX8_use_27 rfl ?_
        refine r_callS2i (M' := mX8_contains) (q := 31) mk_X8_contains ms_X8_contains k_345 rfl (Nat.le_of_ble_eq_true rfl) rm_xm dX8_use_28 rfl (contains_ok (pw24 hs24) (by omega) ?_)
        refine r_if_eq (q := 34) 53 dX8_use_31 (by decide) rfl (fun h31 => ?_) (fun h31 => ?_)
        · have h31 := b2_eq0.mp h31
          refine r_iinc_2 (q := 56) _ (nI_inc _) (by decide) dX8_use_53 rfl ?_
          refine r_goto 15 dX8_use_56 (by decide) ?_
          refine ih (q + 1) m (by omega) (by omega) hF (fun q' k' => ?_)
          rw [hR q' k', bF_useF, bF_useF]
          by_cases e : q' = q
          · subst e; rw [if_neg (by omega), if_neg (by rw [h31]; simp)]
          · by_cases z : q' < q ∧ s.testBit q' = true
            · rw [if_pos z, if_pos ⟨by omega, z.2⟩]
            · rw [if_neg z, if_neg (fun w => z ⟨by omega, w.2⟩)]
        · have h31 := b2_ne0.mp h31
          refine r_aload_0 (q := 35) dX8_use_34 rfl ?_
          refine r_getR (k := 0) (q := 38) f_RX8_12_7 rfl rfl dX8_use_35 rfl ?_
          refine r_getR (k := 0) (q := 41) f_RX8_75_0 rfl rfl dX8_use_38 rfl ?_
          refine r_iload_2 (q := 42) dX8_use_41 rfl ?_
          refine r_aald (q := 43) _ rfl rfl (by first | omega | assumption | decide) dX8_use_42 rfl ?_
          refine r_bipush (q := 45) 6 (by decide) dX8_use_43 rfl ?_
          refine r_aload_0 (q := 46) dX8_use_45 rfl ?_
          refine r_getR (k := 0) (q := 49) f_RX8_12_7 rfl rfl dX8_use_46 rfl ?_
          refine r_getI (k := 3) (q := 52) f_RX8_102_0 rfl rfl dX8_use_49 rfl ?_
          rw [show m 1 0 3 = nI (bT S.1) by rw [hF 1 (by decide)]; exact hB.2.1]
          refine r_iast (q := 53) _ rfl rfl (by first | omega | assumption | decide) dX8_use_52 rfl ?_
          refine r_iinc_2 (q := 56) _ (nI_inc _) (by decide) dX8_use_53 rfl ?_
          refine r_goto 15 dX8_use_56 (by decide) ?_
          refine ih (q + 1) _ (by omega) (by omega) (hF.mset (by simp)) (fun q' k' => ?_)
          rw [bF_useF]
          by_cases e : q' = q
          · subst e
            rw [mset_self, if_pos ⟨by omega, h31⟩, show m 3 q' = bF S.1 q' from funext fun k' => by
              rw [hR q' k', bF_useF, if_neg (fun z => absurd z.1 (Nat.lt_irrefl _))]]
          · rw [mset_ne _ _ _ (fun z => e z.2), hR q' k', bF_useF]
            by_cases z : q' < q ∧ s.testBit q' = true
            · rw [if_pos z, if_pos ⟨by omega, z.2⟩]
            · rw [if_neg z, if_neg (fun w => z ⟨by omega, w.2⟩)]
  · have h8 : setB S.1 x = false := b2_eq0.mp h8
    rw [h8] at hQ
    refine r_iconst (q := 12) 0 (by decide) dX8_use_11 rfl ?_
    refine r_zret (by first | exact Or.inl rfl | exact Or.inr rfl | assumption) rfl dX8_use_12 (?_)
    exact hQ mem Fc.rf hC
def restsV (B : BD) (x : Int32) : Int32 := if hasB B x then b2 (restB B x.toNatClampNeg) else -1
theorem rests_ok {x : Int32} (hC : Ck S mem) (hWF : WFS S) (hQ : Q (restsV S.1 x) mem) : Call E (d + 2) mX8_rests [pR 0 0, pI x] mem Q := by
  refine Call.of [some (pR 0 0), some (pI x)] mk_X8_rests rfl (Nat.le_of_ble_eq_true rfl) (fun _ => ?_)
  have hB := hC.1
  have h24 := hWF.1.1
  refine r_aload_0 (q := 1) dX8_rests_0 rfl ?_
  refine r_getR (k := 0) (q := 4) f_RX8_12_7 rfl rfl dX8_rests_1 rfl ?_
  refine r_iload_1 (q := 5) dX8_rests_4 rfl ?_
  refine r_callV1i (M' := mX0_has) (q := 8) mk_X0_has mi_X0_has k_336 rfl rfl rfl rfl (Nat.le_of_ble_eq_true rfl) rm_xm dX8_rests_5 rfl (has_ok hB ?_)
  refine r_if_ne (q := 11) 13 dX8_rests_8 (by decide) rfl (fun h8 => ?_) (fun h8 => ?_)
  · have h8 : hasB S.1 x = true := b2_ne0.mp h8
    obtain ⟨q, hq, rfl⟩ := hasB_ex hWF.1 h8
    unfold restsV at hQ
    rw [h8, if_pos rfl, nI_clamp (by omega)] at hQ
    refine r_aload_0 (q := 14) dX8_rests_13 rfl ?_
    refine r_getR (k := 0) (q := 17) f_RX8_12_7 rfl rfl dX8_rests_14 rfl ?_
    refine r_iload_1 (q := 18) dX8_rests_17 rfl ?_
    refine r_callV1i (M' := mX0_isResting) (q := 21) mk_X0_isResting mi_X0_isResting k_376 rfl rfl rfl rfl (Nat.le_of_ble_eq_true rfl) rm_xm dX8_rests_18 rfl (isResting_ok hB (by omega) ?_)
    refine r_callS1i (M' := mX8_oneIf) (q := 24) mk_X8_oneIf ms_X8_oneIf k_380 rfl (Nat.le_of_ble_eq_true rfl) rm_xm dX8_rests_21 rfl (oneIf_ok ?_)
    refine r_iret rfl dX8_rests_24 (?_)
    exact hQ
  · have h8 : hasB S.1 x = false := b2_eq0.mp h8
    unfold restsV at hQ
    rw [h8] at hQ
    refine r_iconst (q := 12) (-1) (by decide) dX8_rests_11 rfl ?_
    refine r_iret rfl dX8_rests_12 (?_)
    exact hQ
theorem second_ok (hC : Ck S mem) (hQ : Q (nI S.2.2.1) mem) : Call E d mX8_second [pR 0 0] mem Q := by
  refine Call.of [some (pR 0 0)] mk_X8_second rfl (Nat.le_of_ble_eq_true rfl) (fun _ => ?_)
  refine r_aload_0 (q := 1) dX8_second_0 rfl ?_
  refine r_getI (k := 8) (q := 4) f_RX8_64_7 rfl rfl dX8_second_1 rfl ?_
  rw [hC.2.2.1]
  refine r_iret rfl dX8_second_4 (?_)
  exact hQ
def placeV (S : AS) (x : Int32) : Int32 := if decide (0 ≤ x ∧ x ≤ nI S.2.2.2.1 - 1) then nI (S.2.2.2.2.2 x.toNatClampNeg) else -1
theorem place_ok {x : Int32} (hC : Ck S mem) (hWF : WFS S) (hQ : Q (placeV S x) mem) : Call E (d + 1) mX8_place [pR 0 0, pI x] mem Q := by
  refine Call.of [some (pR 0 0), some (pI x)] mk_X8_place rfl (Nat.le_of_ble_eq_true rfl) (fun _ => ?_)
  have hO := hC.2.2.2.2.1
  have hp := hWF.2.2.2.1
  refine r_iload_1 (q := 1) dX8_place_0 rfl ?_
  refine r_iconst (q := 2) 0 (by decide) dX8_place_1 rfl ?_
  refine r_aload_0 (q := 3) dX8_place_2 rfl ?_
  refine r_getR (k := 6) (q := 6) f_RX8_56_7 rfl rfl dX8_place_3 rfl ?_
  refine r_getI (k := 7) (q := 9) f_RX8_166_3 rfl rfl dX8_place_6 rfl ?_
  rw [hO.1]
  refine r_iconst (q := 10) 1 (by decide) dX8_place_9 rfl ?_
  refine r_isub (q := 11) dX8_place_10 rfl ?_
  refine r_callS3i (M' := mX8_within) (q := 14) mk_X8_within ms_X8_within k_329 rfl (Nat.le_of_ble_eq_true rfl) rm_xm dX8_place_11 rfl (within_ok ?_)
  refine r_if_ne (q := 17) 19 dX8_place_14 (by decide) rfl (fun h14 => ?_) (fun h14 => ?_)
  · have h14 := b2_ne0.mp h14
    obtain ⟨i, hi, rfl⟩ := lt_n (by omega) h14
    unfold placeV at hQ
    rw [h14, if_pos rfl, nI_clamp (by omega)] at hQ
    refine r_aload_0 (q := 20) dX8_place_19 rfl ?_
    refine r_getR (k := 6) (q := 23) f_RX8_56_7 rfl rfl dX8_place_20 rfl ?_
    refine r_getR (k := 6) (q := 26) f_RX8_169_3 rfl rfl dX8_place_23 rfl ?_
    refine r_iload_1 (q := 27) dX8_place_26 rfl ?_
    refine r_iald (q := 28) _ rfl rfl (by first | omega | assumption | decide) dX8_place_27 rfl ?_
    rw [hO.2.2 i hi]
    refine r_iret rfl dX8_place_28 (?_)
    exact hQ
  · have h14 := b2_eq0.mp h14
    unfold placeV at hQ
    rw [h14] at hQ
    refine r_iconst (q := 18) (-1) (by decide) dX8_place_17 rfl ?_
    refine r_iret rfl dX8_place_18 (?_)
    exact hQ
def toldV (B : BD) (x w : Int32) : Int32 := if hasB B x && decide (0 ≤ w ∧ w ≤ 6) then bF B x.toNatClampNeg w.toNatClampNeg else -1
theorem told_ok {x w : Int32} (hC : Ck S mem) (hWF : WFS S) (hQ : Q (toldV S.1 x w) mem) : Call E (d + 2) mX8_told [pR 0 0, pI x, pI w] mem Q := by
  refine Call.of [some (pR 0 0), some (pI x), some (pI w)] mk_X8_told rfl (Nat.le_of_ble_eq_true rfl) (fun _ => ?_)
  have hB := hC.1
  have h24 := hWF.1.1
  have fail : (hasB S.1 x && decide (0 ≤ w ∧ w ≤ 6)) = false → Wp E (xm E (d + 2) mX8_told Q) mX8_told 21 [some (pR 0 0), some (pI x), some (pI w)] [] mem := by
    intro hf
    unfold toldV at hQ
    rw [hf] at hQ
    refine r_iconst (q := 22) (-1) (by decide) dX8_told_21 rfl ?_
    refine r_iret rfl dX8_told_22 (?_)
    exact hQ
  refine r_aload_0 (q := 1) dX8_told_0 rfl ?_
  refine r_getR (k := 0) (q := 4) f_RX8_12_7 rfl rfl dX8_told_1 rfl ?_
  refine r_iload_1 (q := 5) dX8_told_4 rfl ?_
  refine r_callV1i (M' := mX0_has) (q := 8) mk_X0_has mi_X0_has k_336 rfl rfl rfl rfl (Nat.le_of_ble_eq_true rfl) rm_xm dX8_told_5 rfl (has_ok hB ?_)
  refine r_if_eq (q := 11) 21 dX8_told_8 (by decide) rfl (fun h8 => ?_) (fun h8 => ?_)
  · exact fail (by rw [show hasB S.1 x = false from b2_eq0.mp h8]; rfl)
  · refine r_iload_2 (q := 12) dX8_told_11 rfl ?_
    refine r_iconst (q := 13) 0 (by decide) dX8_told_12 rfl ?_
    refine r_bipush (q := 15) 6 (by decide) dX8_told_13 rfl ?_
    refine r_callS3i (M' := mX8_within) (q := 18) mk_X8_within ms_X8_within k_329 rfl (Nat.le_of_ble_eq_true rfl) rm_xm dX8_told_15 rfl (within_ok ?_)
    refine r_if_ne (q := 21) 23 dX8_told_18 (by decide) rfl (fun h18 => ?_) (fun h18 => ?_)
    · have h8' : hasB S.1 x = true := b2_ne0.mp h8
      have h18' := b2_ne0.mp h18
      obtain ⟨q, hq, rfl⟩ := hasB_ex hWF.1 h8'
      obtain ⟨w', -, hw', rfl⟩ := in_ab (a := 0) (b := 6) (by decide) (by decide) h18'
      unfold toldV at hQ
      rw [h8', h18', nI_clamp (by omega), nI_clamp (by omega)] at hQ
      refine r_aload_0 (q := 24) dX8_told_23 rfl ?_
      refine r_getR (k := 0) (q := 27) f_RX8_12_7 rfl rfl dX8_told_24 rfl ?_
      refine r_getR (k := 0) (q := 30) f_RX8_75_0 rfl rfl dX8_told_27 rfl ?_
      refine r_iload_1 (q := 31) dX8_told_30 rfl ?_
      refine r_aald (q := 32) _ rfl rfl (by first | omega | assumption | decide) dX8_told_31 rfl ?_
      refine r_iload_2 (q := 33) dX8_told_32 rfl ?_
      refine r_iald (q := 34) _ rfl rfl (by first | omega | assumption | decide) dX8_told_33 rfl ?_
      rw [hB.2.2.2.1 q w']
      refine r_iret rfl dX8_told_34 (?_)
      exact hQ
    · exact fail (by rw [b2_eq0.mp h18, Bool.and_false])
end PB
