/-! THE REFERENCE: works, walked -/
/-- what the rows of work stand on -/
def Wa (B : BD) (L : LD) (mem : Mem) : Prop := Bm B mem ∧ Lm L mem ∧ mem 36 0 14 = nI (handB B) ∧ ∀ i, i < handB B → mem 48 0 i = nI (hnd B i)
theorem Wa.fr {B : BD} {L : LD} {gs : List Nat} {a b : Mem} (h : Wa B L a) (hF : Fr gs a b) (h0 : ∀ g, g ∈ gs → 49 ≤ g) : Wa B L b := by
  have e : ∀ g, g < 49 → b g = a g := fun g hg => hF g (fun z => absurd (h0 g z) (by omega))
  refine ⟨h.1.fr hF (fun g hg => by have := h0 g hg; omega), h.2.1.wk (fun g _ h2 => e g (by omega)), ?_, ?_⟩
  · rw [e 36 (by decide)]; exact h.2.2.1
  · rw [e 48 (by decide)]; exact h.2.2.2
/-- the rows of sums, fit, broken for the sets below t -/
def TbT (B : BD) (L : LD) (t : Nat) (mem : Mem) : Prop := ∀ s, s < t → (∀ b, b < 10 → mem 49 0 (10 * s + b) = nI (sumN B (tolN B s) b)) ∧ mem 50 0 s = b2 (fitB B (tolN B s)) ∧ mem 51 0 s = nI (brokenB L (sumN B (tolN B s)) noMo)
def CwT (B : BD) (i : Nat) (mem : Mem) : Prop := ∀ j, j < i → mem 52 0 j = nI (clM B j) ∧ mem 53 0 j = nI (whM B j)
section WK
variable {E : En} {d : Nat} {mem : Mem} {Q : Int32 → Mem → Prop} {B : BD} {L : LD}
abbrev wkX (E : En) (d : Nat) (Q : Int32 → Mem → Prop) : Xt := xm E (d + 2) mX9_works Q
theorem wk_in1 (hW : WFB B) (hh : handB B ≤ 16) {i : Nat} (hi : i < handB B) (hC : CwT B i mem) {o3 o4 o5 : Option PV} (K : ∀ m, Fr [52, 53] mem m → CwT B i m → m 53 0 i = nI (bset (pW B i) (handB B)) → m 52 0 i = nI (clM B i) → Wp E (wkX E d Q) mX9_works 145 [some (pR 36 0), some (pI (nI i)), some (pI (nI (handB B))), o3, o4, o5] [] m) : ∀ (j k : Nat) (m : Mem), handB B - k < j → k ≤ handB B → Fr [52, 53] mem m → Wa B L m → CwT B i m → m 52 0 i = nI (bset (pC B i) k) → m 53 0 i = nI (bset (pW B i) k) → Wp E (wkX E d Q) mX9_works 34 [some (pR 36 0), some (pI (nI i)), some (pI (nI k)), o3, o4, o5] [] m := by
  have h24 := hW.1
  have hhi := hnd_in hi
  intro j
  induction j with
  | zero => intro k m h; omega
  | succ j ih =>
    intro k m h1 h2 hF hA hCm e52 e53
    have hB := hA.1
    refine r_iload_2 (q := 35) dX9_works_34 rfl ?_
    refine r_aload_0 (q := 36) dX9_works_35 rfl ?_
    refine r_getI (k := 14) (q := 39) f_RX9_131_8 rfl rfl dX9_works_36 rfl ?_
    rw [hA.2.2.1]
    refine r_icmp_ge (q := 42) 145 dX9_works_39 (by decide) rfl (fun h39 => ?_) (fun h39 => ?_)
    · have hk := nI_ge_of (by omega) (by omega) h39
      have hk : k = handB B := by omega
      subst hk
      exact K m hF hCm e53 e52
    · have hk : k < handB B := nI_lt_of (by omega) h39
      have hhk := hnd_in hk
      have hgi := bG_lt hW (hnd B i)
      have hgk := bG_lt hW (hnd B k)
      have J2 : ∀ (m2 : Mem), Fr [52, 53] mem m2 → Wa B L m2 → CwT B i m2 → m2 52 0 i = nI (bset (pC B i) (k + 1)) → m2 53 0 i = nI (bset (pW B i) k) → ∀ x : Nat, bset (pW B i) k ||| x = bset (pW B i) (k + 1) → Wp E (wkX E d Q) mX9_works 137 [some (pR 36 0), some (pI (nI i)), some (pI (nI k)), o3, o4, o5] [pI (nI x), pI (nI (bset (pW B i) k)), pI (nI i), pR 53 0] m2 := by
        intro m2 hF2 hA2 hC2 a52 a53 x hx
        refine r_ior (q := 138) dX9_works_137 rfl ?_
        rw [nb_or, hx]
        refine r_iast (q := 139) _ rfl rfl (by first | omega | assumption | decide) dX9_works_138 rfl ?_
        refine r_iinc_2 (q := 142) _ (nI_inc _) (by decide) dX9_works_139 rfl ?_
        refine r_goto 34 dX9_works_142 (by decide) ?_
        refine ih (k + 1) _ (by omega) (by omega) (hF2.mset (by simp)) (hA2.fr (Fr.rf.mset (gs := [53]) (by simp)) (by simp)) (fun j' hj' => ?_) ?_ ?_
        · rw [mset_g _ _ _ _ (by decide), mset_self]
          unfold upd
          rw [if_neg (by omega)]
          exact hC2 j' hj'
        · rw [mset_g _ _ _ _ (by decide)]; exact a52
        · rw [mset_at]
      have J1 : ∀ x : Nat, bset (pC B i) k ||| x = bset (pC B i) (k + 1) → Wp E (wkX E d Q) mX9_works 102 [some (pR 36 0), some (pI (nI i)), some (pI (nI k)), o3, o4, o5] [pI (nI x), pI (nI (bset (pC B i) k)), pI (nI i), pR 52 0] m := by
        intro x hx
        refine r_ior (q := 103) dX9_works_102 rfl ?_
        rw [nb_or, hx]
        refine r_iast (q := 104) _ rfl rfl (by first | omega | assumption | decide) dX9_works_103 rfl ?_
        generalize hm2 : mset m 52 0 i (nI (bset (pC B i) (k + 1))) = m2
        have hF2 : Fr [52] m m2 := by rw [← hm2]; exact Fr.rf.mset (by simp)
        have hA2 : Wa B L m2 := hA.fr hF2 (by simp)
        have hC2 : CwT B i m2 := by
          intro j' hj'
          rw [← hm2, mset_g _ _ _ _ (show (53 : Nat) ≠ 52 by decide), mset_self]
          unfold upd
          rw [if_neg (by omega)]
          exact hCm j' hj'
        have a52 : m2 52 0 i = nI (bset (pC B i) (k + 1)) := by rw [← hm2, mset_at]
        have a53 : m2 53 0 i = nI (bset (pW B i) k) := by rw [hF2 53 (by decide)]; exact e53
        have K2 := J2 m2 ((hF.tr (hF2.mono (by simp)))) hA2 hC2 a52 a53
        clear hm2
        refine r_aload_0 (q := 105) dX9_works_104 rfl ?_
        refine r_getR (k := 20) (q := 108) f_RX9_65_8 rfl rfl dX9_works_105 rfl ?_
        refine r_iload_1 (q := 109) dX9_works_108 rfl ?_
        refine r_dup2 (q := 110) dX9_works_109 rfl ?_
        refine r_iald (q := 111) _ rfl rfl (by first | omega | assumption | decide) dX9_works_110 rfl ?_
        rw [a53]
        refine r_aload_0 (q := 112) dX9_works_111 rfl ?_
        refine r_aload_0 (q := 113) dX9_works_112 rfl ?_
        refine r_getR (k := 15) (q := 116) f_RX9_47_8 rfl rfl dX9_works_113 rfl ?_
        refine r_iload_1 (q := 117) dX9_works_116 rfl ?_
        refine r_iald (q := 118) _ rfl rfl (by first | omega | assumption | decide) dX9_works_117 rfl ?_
        rw [hA2.2.2.2 i hi]
        refine r_aload_0 (q := 119) dX9_works_118 rfl ?_
        refine r_getR (k := 15) (q := 122) f_RX9_47_8 rfl rfl dX9_works_119 rfl ?_
        refine r_iload_2 (q := 123) dX9_works_122 rfl ?_
        refine r_iald (q := 124) _ rfl rfl (by first | omega | assumption | decide) dX9_works_123 rfl ?_
        rw [hA2.2.2.2 k hk]
        refine r_callV2i (M' := mX9_areOnePassage) (q := 127) mk_X9_areOnePassage mi_X9_areOnePassage k_820 rfl rfl rfl rfl (Nat.le_of_ble_eq_true rfl) rm_xm dX9_works_124 rfl (mone_ok hA2.1 (by omega) (by omega) ?_)
        refine r_if_eq (q := 130) 136 dX9_works_127 (by decide) rfl (fun h127 => ?_) (fun h127 => ?_)
        · refine r_iconst (q := 137) 0 (by decide) dX9_works_136 rfl ?_
          exact K2 0 (by rw [bset, show pW B i k = false from b2_eq0.mp h127, if_neg (by decide), Nat.or_zero])
        · refine r_iconst (q := 131) 1 (by decide) dX9_works_130 rfl ?_
          refine r_iload_2 (q := 132) dX9_works_131 rfl ?_
          refine r_ishl (q := 133) dX9_works_132 rfl ?_
          rw [nb_shl1 k (by omega)]
          refine r_goto 137 dX9_works_133 (by decide) ?_
          exact K2 _ (by rw [bset, show pW B i k = true from b2_ne0.mp h127, if_pos rfl])
      refine r_aload_0 (q := 43) dX9_works_42 rfl ?_
      refine r_getR (k := 19) (q := 46) f_RX9_62_8 rfl rfl dX9_works_43 rfl ?_
      refine r_iload_1 (q := 47) dX9_works_46 rfl ?_
      refine r_dup2 (q := 48) dX9_works_47 rfl ?_
      refine r_iald (q := 49) _ rfl rfl (by first | omega | assumption | decide) dX9_works_48 rfl ?_
      rw [e52]
      refine r_aload_0 (q := 50) dX9_works_49 rfl ?_
      refine r_getR (k := 10) (q := 53) f_RX9_35_8 rfl rfl dX9_works_50 rfl ?_
      refine r_aload_0 (q := 54) dX9_works_53 rfl ?_
      refine r_getR (k := 15) (q := 57) f_RX9_47_8 rfl rfl dX9_works_54 rfl ?_
      refine r_iload_1 (q := 58) dX9_works_57 rfl ?_
      refine r_iald (q := 59) _ rfl rfl (by first | omega | assumption | decide) dX9_works_58 rfl ?_
      rw [hA.2.2.2 i hi]
      refine r_iald (q := 60) _ rfl rfl (by first | omega | assumption | decide) dX9_works_59 rfl ?_
      rw [hB.2.2.2.2]
      refine r_aload_0 (q := 61) dX9_works_60 rfl ?_
      refine r_getR (k := 15) (q := 64) f_RX9_47_8 rfl rfl dX9_works_61 rfl ?_
      refine r_iload_2 (q := 65) dX9_works_64 rfl ?_
      refine r_iald (q := 66) _ rfl rfl (by first | omega | assumption | decide) dX9_works_65 rfl ?_
      rw [hA.2.2.2 k hk]
      have J1' : pC B i k = true → Wp E (wkX E d Q) mX9_works 95 [some (pR 36 0), some (pI (nI i)), some (pI (nI k)), o3, o4, o5] [pI (nI (bset (pC B i) k)), pI (nI i), pR 52 0] m := by
        intro hp
        refine r_iconst (q := 96) 1 (by decide) dX9_works_95 rfl ?_
        refine r_iload_2 (q := 97) dX9_works_96 rfl ?_
        refine r_ishl (q := 98) dX9_works_97 rfl ?_
        rw [nb_shl1 k (by omega)]
        refine r_goto 102 dX9_works_98 (by decide) ?_
        exact J1 _ (by rw [bset, hp, if_pos rfl])
      refine r_callS2i (M' := mX9_has) (q := 69) mk_X9_has ms_X9_has k_746 rfl (Nat.le_of_ble_eq_true rfl) rm_xm dX9_works_66 rfl (mhas_ok (pw24 hgi) (by omega) ?_)
      refine r_if_ne (q := 72) 95 dX9_works_69 (by decide) rfl (fun h69 => ?_) (fun h69 => ?_)
      · exact J1' (by unfold pC; rw [b2_ne0.mp h69]; rfl)
      · refine r_aload_0 (q := 73) dX9_works_72 rfl ?_
        refine r_getR (k := 10) (q := 76) f_RX9_35_8 rfl rfl dX9_works_73 rfl ?_
        refine r_aload_0 (q := 77) dX9_works_76 rfl ?_
        refine r_getR (k := 15) (q := 80) f_RX9_47_8 rfl rfl dX9_works_77 rfl ?_
        refine r_iload_2 (q := 81) dX9_works_80 rfl ?_
        refine r_iald (q := 82) _ rfl rfl (by first | omega | assumption | decide) dX9_works_81 rfl ?_
        rw [hA.2.2.2 k hk]
        refine r_iald (q := 83) _ rfl rfl (by first | omega | assumption | decide) dX9_works_82 rfl ?_
        rw [hB.2.2.2.2]
        refine r_aload_0 (q := 84) dX9_works_83 rfl ?_
        refine r_getR (k := 15) (q := 87) f_RX9_47_8 rfl rfl dX9_works_84 rfl ?_
        refine r_iload_1 (q := 88) dX9_works_87 rfl ?_
        refine r_iald (q := 89) _ rfl rfl (by first | omega | assumption | decide) dX9_works_88 rfl ?_
        rw [hA.2.2.2 i hi]
        refine r_callS2i (M' := mX9_has) (q := 92) mk_X9_has ms_X9_has k_746 rfl (Nat.le_of_ble_eq_true rfl) rm_xm dX9_works_89 rfl (mhas_ok (pw24 hgk) (by omega) ?_)
        refine r_if_eq (q := 95) 101 dX9_works_92 (by decide) rfl (fun h92 => ?_) (fun h92 => ?_)
        · refine r_iconst (q := 102) 0 (by decide) dX9_works_101 rfl ?_
          exact J1 0 (by rw [bset, show pC B i k = false by unfold pC; rw [b2_eq0.mp h69, b2_eq0.mp h92]; rfl, if_neg (by decide), Nat.or_zero])
        · exact J1' (by unfold pC; rw [b2_ne0.mp h92, Bool.or_true])
theorem wk_in2 (hW : WFB B) (hh : handB B ≤ 16) {i : Nat} (hi : i < handB B) {o3 o4 o5 : Option PV} (K : ∀ m, Fr [52, 53] mem m → CwT B (i + 1) m → Wp E (wkX E d Q) mX9_works 194 [some (pR 36 0), some (pI (nI i)), some (pI (nI (bN B))), o3, o4, o5] [] m) : ∀ (j q : Nat) (m : Mem), bN B - q < j → q ≤ bN B → Fr [52, 53] mem m → Wa B L m → CwT B i m → m 52 0 i = nI (clM B i) → m 53 0 i = nI (whT B i q) → Wp E (wkX E d Q) mX9_works 147 [some (pR 36 0), some (pI (nI i)), some (pI (nI q)), o3, o4, o5] [] m := by
  have h24 := hW.1
  have hhi := hnd_in hi
  intro j
  induction j with
  | zero => intro k m h; omega
  | succ j ih =>
    intro q m h1 h2 hF hA hCm e52 e53
    have hB := hA.1
    refine r_iload_2 (q := 148) dX9_works_147 rfl ?_
    refine r_aload_0 (q := 149) dX9_works_148 rfl ?_
    refine r_getI (k := 0) (q := 152) f_RX9_83_8 rfl rfl dX9_works_149 rfl ?_
    rw [hB.1]
    refine r_icmp_ge (q := 155) 194 dX9_works_152 (by decide) rfl (fun h152 => ?_) (fun h152 => ?_)
    · have hk := nI_ge_of (by omega) (by omega) h152
      have hk : q = bN B := by omega
      subst hk
      refine K m hF (fun j' hj' => ?_)
      by_cases e : j' = i
      · subst e; exact ⟨e52, e53⟩
      · exact hCm j' (by omega)
    · have hk : q < bN B := nI_lt_of (by omega) h152
      have nx : nR B i q = true → Wp E (wkX E d Q) mX9_works 188 [some (pR 36 0), some (pI (nI i)), some (pI (nI q)), o3, o4, o5] [] m := by
        intro hn
        refine r_iinc_2 (q := 191) _ (nI_inc _) (by decide) dX9_works_188 rfl ?_
        refine r_goto 147 dX9_works_191 (by decide) ?_
        refine ih (q + 1) m (by omega) (by omega) hF hA hCm e52 ?_
        rw [e53]
        unfold whT
        rw [allb, hn, Bool.and_true]
      refine r_aload_0 (q := 156) dX9_works_155 rfl ?_
      refine r_iload_2 (q := 157) dX9_works_156 rfl ?_
      refine r_callV1i (M' := mX9_isResting) (q := 160) mk_X9_isResting mi_X9_isResting k_777 rfl rfl rfl rfl (Nat.le_of_ble_eq_true rfl) rm_xm dX9_works_157 rfl (mrest_ok hB (by omega) ?_)
      refine r_if_eq (q := 163) 188 dX9_works_160 (by decide) rfl (fun h160 => ?_) (fun h160 => ?_)
      · exact nx (by unfold nR; rw [b2_eq0.mp h160]; rfl)
      · refine r_aload_0 (q := 164) dX9_works_163 rfl ?_
        refine r_aload_0 (q := 165) dX9_works_164 rfl ?_
        refine r_getR (k := 15) (q := 168) f_RX9_47_8 rfl rfl dX9_works_165 rfl ?_
        refine r_iload_1 (q := 169) dX9_works_168 rfl ?_
        refine r_iald (q := 170) _ rfl rfl (by first | omega | assumption | decide) dX9_works_169 rfl ?_
        rw [hA.2.2.2 i hi]
        refine r_iload_2 (q := 171) dX9_works_170 rfl ?_
        refine r_callV2i (M' := mX9_areOnePassage) (q := 174) mk_X9_areOnePassage mi_X9_areOnePassage k_820 rfl rfl rfl rfl (Nat.le_of_ble_eq_true rfl) rm_xm dX9_works_171 rfl (mone_ok hB (by omega) (by omega) ?_)
        refine r_if_eq (q := 177) 188 dX9_works_174 (by decide) rfl (fun h174 => ?_) (fun h174 => ?_)
        · exact nx (by unfold nR; rw [b2_eq0.mp h174, Bool.and_false]; rfl)
        · have hn : nR B i q = false := by unfold nR; rw [b2_ne0.mp h160, b2_ne0.mp h174]; rfl
          refine r_aload_0 (q := 178) dX9_works_177 rfl ?_
          refine r_getR (k := 20) (q := 181) f_RX9_65_8 rfl rfl dX9_works_178 rfl ?_
          refine r_iload_1 (q := 182) dX9_works_181 rfl ?_
          refine r_dup2 (q := 183) dX9_works_182 rfl ?_
          refine r_iald (q := 184) _ rfl rfl (by first | omega | assumption | decide) dX9_works_183 rfl ?_
          rw [e53]
          refine r_ldc (q := 186) k_635 dX9_works_184 rfl ?_
          refine r_ior (q := 187) dX9_works_186 rfl ?_
          have ew : nI (whT B i q) ||| 65536 = nI (whT B i (q + 1)) := by
            rw [show (65536 : Int32) = nI 65536 from by decide, nb_or]
            congr 1
            unfold whT
            rw [allb, hn, Bool.and_false, Nat.or_assoc]
            congr 1
            split <;> decide
          rw [ew]
          refine r_iast (q := 188) _ rfl rfl (by first | omega | assumption | decide) dX9_works_187 rfl ?_
          refine r_iinc_2 (q := 191) _ (nI_inc _) (by decide) dX9_works_188 rfl ?_
          refine r_goto 147 dX9_works_191 (by decide) ?_
          refine ih (q + 1) _ (by omega) (by omega) (hF.mset (by simp)) (hA.fr (Fr.rf.mset (gs := [53]) (by simp)) (by simp)) (fun j' hj' => ?_) ?_ ?_
          · rw [mset_g _ _ _ _ (by decide), mset_self]
            unfold upd
            rw [if_neg (by omega)]
            exact hCm j' hj'
          · rw [mset_g _ _ _ _ (by decide)]; exact e52
          · rw [mset_at]
theorem wk_out1 (hW : WFB B) (hh : handB B ≤ 16) (K : ∀ m o2 o3 o4 o5, Fr [52, 53] mem m → CwT B (handB B) m → Wp E (wkX E d Q) mX9_works 200 [some (pR 36 0), some (pI (nI (handB B))), o2, o3, o4, o5] [] m) : ∀ (j i : Nat) (m : Mem) (o2 o3 o4 o5 : Option PV), handB B - i < j → i ≤ handB B → Fr [52, 53] mem m → Wa B L m → CwT B i m → Wp E (wkX E d Q) mX9_works 10 [some (pR 36 0), some (pI (nI i)), o2, o3, o4, o5] [] m := by
  have h24 := hW.1
  intro j
  induction j with
  | zero => intro k m _ _ _ _ h; omega
  | succ j ih =>
    intro i m o2 o3 o4 o5 h1 h2 hF hA hCm
    refine r_iload_1 (q := 11) dX9_works_10 rfl ?_
    refine r_aload_0 (q := 12) dX9_works_11 rfl ?_
    refine r_getI (k := 14) (q := 15) f_RX9_131_8 rfl rfl dX9_works_12 rfl ?_
    rw [hA.2.2.1]
    refine r_icmp_ge (q := 18) 200 dX9_works_15 (by decide) rfl (fun h15 => ?_) (fun h15 => ?_)
    · have hk := nI_ge_of (by omega) (by omega) h15
      have hk : i = handB B := by omega
      subst hk
      exact K m o2 o3 o4 o5 hF hCm
    · have hi : i < handB B := nI_lt_of (by omega) h15
      refine r_aload_0 (q := 19) dX9_works_18 rfl ?_
      refine r_getR (k := 19) (q := 22) f_RX9_62_8 rfl rfl dX9_works_19 rfl ?_
      refine r_iload_1 (q := 23) dX9_works_22 rfl ?_
      refine r_iconst (q := 24) 0 (by decide) dX9_works_23 rfl ?_
      refine r_iast (q := 25) _ rfl rfl (by first | omega | assumption | decide) dX9_works_24 rfl ?_
      refine r_aload_0 (q := 26) dX9_works_25 rfl ?_
      refine r_getR (k := 20) (q := 29) f_RX9_65_8 rfl rfl dX9_works_26 rfl ?_
      refine r_iload_1 (q := 30) dX9_works_29 rfl ?_
      refine r_iconst (q := 31) 0 (by decide) dX9_works_30 rfl ?_
      refine r_iast (q := 32) _ rfl rfl (by first | omega | assumption | decide) dX9_works_31 rfl ?_
      refine r_iconst (q := 33) 0 (by decide) dX9_works_32 rfl ?_
      refine r_istore_2 (q := 34) (by decide) dX9_works_33 rfl ?_
      generalize hm1 : mset (mset m 52 0 i 0) 53 0 i 0 = m1
      have hF1 : Fr [52, 53] m m1 := by rw [← hm1]; exact (Fr.rf.mset (by simp)).mset (by simp)
      have hA1 : Wa B L m1 := hA.fr hF1 (by simp)
      have hC1 : CwT B i m1 := by
        intro j' hj'
        rw [← hm1, mset_self, mset_g _ _ _ _ (show (53 : Nat) ≠ 52 by decide), mset_g _ _ _ _ (show (52 : Nat) ≠ 53 by decide), mset_self]
        unfold upd
        rw [if_neg (by omega), if_neg (by omega)]
        exact hCm j' hj'
      have a52 : m1 52 0 i = 0 := by rw [← hm1, mset_g _ _ _ _ (show (52 : Nat) ≠ 53 by decide), mset_at]
      have a53 : m1 53 0 i = 0 := by rw [← hm1, mset_at]
      clear hm1
      refine wk_in1 (mem := m1) (L := L) hW hh hi hC1 (fun m2 hF2 hC2 b53 b52 => ?_) (handB B + 1) 0 m1 (by omega) (by omega) Fr.rf hA1 hC1 a52 a53
      refine r_iconst (q := 146) 0 (by decide) dX9_works_145 rfl ?_
      refine r_istore_2 (q := 147) (by decide) dX9_works_146 rfl ?_
      refine wk_in2 (mem := m2) (L := L) hW hh hi (fun m3 hF3 hC3 => ?_) (bN B + 1) 0 m2 (by omega) (by omega) Fr.rf (hA1.fr hF2 (by simp)) hC2 b52 (by rw [b53, whT, allb, if_pos rfl, Nat.or_zero])
      refine r_iinc_1 (q := 197) _ (nI_inc _) (by decide) dX9_works_194 rfl ?_
      refine r_goto 10 dX9_works_197 (by decide) ?_
      exact ih (i + 1) m3 _ _ _ _ (by omega) (by omega) (((hF.tr hF1).tr hF2).tr hF3) ((hA1.fr hF2 (by simp)).fr hF3 (by simp)) hC3
end WK
