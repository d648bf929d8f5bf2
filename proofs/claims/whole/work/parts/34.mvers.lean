/-! THE REFERENCE: versions -/
abbrev K4 : Type := Nat × Nat × Nat × Nat
def farN (a b : Nat) : Nat := max (a - b) (b - a)
def mvP (B : BD) (L : LD) (D a b : Nat) : Bool := (decide (a &&& b = 0) && (papS B L (tolN B b) && aheadB a b)) && (decide (farN (sumN B (tolN B a) 2) (sumN B (tolN B b) 2) ≤ D) && decide (farN (sumN B (tolN B a) 1) (sumN B (tolN B b) 1) ≤ D))
/-- not to be taken -/
abbrev mvW (v n a b : Nat) (k : K4) : Prop := 0 < k.1 ∧ ((k.2.2.1 < v ∨ (v = k.2.2.1 ∧ k.2.2.2 < n)) ∨ (v = k.2.2.1 ∧ n = k.2.2.2 ∧ (a < k.1 ∨ (a = k.1 ∧ b < k.2.1))))
def mvS (B : BD) (L : LD) (D a b : Nat) (k : K4) : K4 := if mvP B L D a b = true then (if mvW (sprS B L (tolN B a) + sprS B L (tolN B b)) (sumN B (tolN B a) 0 + sumN B (tolN B b) 0) a b k then k else (a, b, sprS B L (tolN B a) + sprS B L (tolN B b), sumN B (tolN B a) 0 + sumN B (tolN B b) 0)) else k
def mvB (B : BD) (L : LD) (D a : Nat) : Nat → K4 → K4
  | 0, k => k
  | n + 1, k => if n = 0 then k else mvS B L D a n (mvB B L D a n k)
def mvA (B : BD) (L : LD) (D m : Nat) : Nat → K4
  | 0 => (0, 0, 0, 0)
  | n + 1 => if n = 0 then (0, 0, 0, 0) else if papS B L (tolN B n) = true then mvB B L D n m (mvA B L D m n) else mvA B L D m n
def mverR (B : BD) (L : LD) (D : Nat) : K4 := mvA B L D (2 ^ handB B) (2 ^ handB B)
def mverC (B : BD) (x : Int32) : Bool := decide (0 ≤ x ∧ x ≤ 1000) && decide (handB B ≤ 10)
def mverV (B : BD) (L : LD) (x : Int32) : Int32 := if mverC B x then (if (mverR B L x.toNatClampNeg).1 = 0 then -2 else nI (tolN B (mverR B L x.toNatClampNeg).1)) else -1
def mverS (S : AS) (x : Int32) : AS := if mverC S.1 x then (S.1, S.2.1, tolN S.1 (mverR S.1 S.2.1 x.toNatClampNeg).2.1, S.2.2.2) else S
def K4ok (k : K4) : Prop := k.1 < 2 ^ 16 ∧ k.2.1 < 2 ^ 16 ∧ k.2.2.1 ≤ 19520 ∧ k.2.2.2 ≤ 2880
section MV
variable {E : En} {d : Nat} {mem : Mem} {Q : Int32 → Mem → Prop} {S : AS}
theorem Wk.sec {B : BD} {L : LD} {a : Mem} {v : Int32} (h : Wk B L a) : Wk B L (mset a 36 0 22 v) := by
  obtain ⟨⟨h1, h2, h3, h4⟩, h5⟩ := h
  exact ⟨⟨h1, h2, h3, h4⟩, h5⟩
theorem Mk.sec {S : AS} {a : Mem} {v : Nat} (h : Mk S a) : Mk (S.1, S.2.1, v, S.2.2.2) (mset a 36 0 22 (nI v)) := ⟨h.1, h.2.1, rfl, h.2.2.2⟩
abbrev mvX (E : En) (d : Nat) (Q : Int32 → Mem → Prop) : Xt := xm E (d + 3) mX9_versions Q
theorem mv_in {B : BD} {L : LD} (hW : WFB B) (hWL : WFL L) (hh : handB B ≤ 16) {D a : Nat} (hD : D ≤ 1000) (ha : a < 2 ^ handB B) (hK : Wk B L mem) {k0 : K4} (hk0 : K4ok k0) (K : ∀ o8 o9, K4ok (mvB B L D a (2 ^ handB B) k0) → Wp E (mvX E d Q) mX9_versions 301 [some (pR 36 0), some (pI (nI D)), some (pI (nI (mvB B L D a (2 ^ handB B) k0).1)), some (pI (nI (mvB B L D a (2 ^ handB B) k0).2.1)), some (pI (nI (mvB B L D a (2 ^ handB B) k0).2.2.1)), some (pI (nI (mvB B L D a (2 ^ handB B) k0).2.2.2)), some (pI (nI a)), some (pI (nI (2 ^ handB B))), o8, o9] [] mem) : ∀ (j b : Nat) (k : K4) (o8 o9 : Option PV), 2 ^ handB B - b < j → 1 ≤ b → b ≤ 2 ^ handB B → k = mvB B L D a b k0 → K4ok k → Wp E (mvX E d Q) mX9_versions 70 [some (pR 36 0), some (pI (nI D)), some (pI (nI k.1)), some (pI (nI k.2.1)), some (pI (nI k.2.2.1)), some (pI (nI k.2.2.2)), some (pI (nI a)), some (pI (nI b)), o8, o9] [] mem := by
  have hp16 : 2 ^ handB B ≤ 2 ^ 16 := Nat.pow_le_pow_right (by decide) hh
  intro j
  induction j with
  | zero => intro b _ _ _ h; omega
  | succ j ih =>
    intro b k o8 o9 h1 hb1 h2 hk hko
    obtain ⟨q1, q2, q3, q4⟩ := hko
    refine r_iload_7 (q := 72) dX9_versions_70 rfl ?_
    refine r_iconst (q := 73) 1 (by decide) dX9_versions_72 rfl ?_
    refine r_aload_0 (q := 74) dX9_versions_73 rfl ?_
    refine r_getI (k := 14) (q := 77) f_RX9_131_8 rfl rfl dX9_versions_74 rfl ?_
    rw [hK.1.2.2.1]
    refine r_ishl (q := 78) dX9_versions_77 rfl ?_
    rw [nb_shl1 _ (by omega)]
    refine r_icmp_ge (q := 81) 301 dX9_versions_78 (by decide) rfl (fun h78 => ?_) (fun h78 => ?_)
    · have hb := nI_ge_of (by omega) (by omega) h78
      have hb : b = 2 ^ handB B := by omega
      subst hb
      rw [hk]
      exact K o8 o9 (by rw [← hk]; exact ⟨q1, q2, q3, q4⟩)
    · have hb : b < 2 ^ handB B := nI_lt_of (by omega) h78
      have ha16 : a < 2 ^ 16 := by omega
      have hb16 : b < 2 ^ 16 := by omega
      have sa := sprS_le (B := B) (L := L) hW hWL (tolN B a)
      have sb := sprS_le (B := B) (L := L) hW hWL (tolN B b)
      have na := sumN_le hW (tolN B a)
      have nb := sumN_le hW (tolN B b)
      have na0 := na 0
      have nb0 := nb 0
      have na1 := na 1
      have nb1 := nb 1
      have na2 := na 2
      have nb2 := nb 2
      have ea := (hK.2 a ha).1
      have eb := (hK.2 b hb).1
      have stay : ∀ o8 o9, mvS B L D a b k = k → Wp E (mvX E d Q) mX9_versions 295 [some (pR 36 0), some (pI (nI D)), some (pI (nI k.1)), some (pI (nI k.2.1)), some (pI (nI k.2.2.1)), some (pI (nI k.2.2.2)), some (pI (nI a)), some (pI (nI b)), o8, o9] [] mem := by
        intro o8 o9 hs
        refine r_iinc_7 (q := 298) _ (nI_inc _) (by decide) dX9_versions_295 rfl ?_
        refine r_goto 70 dX9_versions_298 (by decide) ?_
        exact ih (b + 1) k _ _ (by omega) (by omega) (by omega) (by rw [mvB, if_neg (by omega), ← hk, hs]) ⟨q1, q2, q3, q4⟩
      have no : mvP B L D a b = false → mvS B L D a b k = k := fun z => by unfold mvS; rw [z]; rfl
      refine r_iload_6 (q := 83) dX9_versions_81 rfl ?_
      refine r_iload_7 (q := 85) dX9_versions_83 rfl ?_
      refine r_iand (q := 86) dX9_versions_85 rfl ?_
      rw [nb_and]
      refine r_if_ne (q := 89) 295 dX9_versions_86 (by decide) rfl (fun h86 => ?_) (fun h86 => ?_)
      · have h86 : ¬ a &&& b = 0 := fun z => h86 (by rw [z]; rfl)
        exact stay _ _ (no (by unfold mvP; rw [decide_eq_false h86]; rfl))
      · have h86 : a &&& b = 0 := (nI_zero_iff (Nat.lt_trans (and_lt_l ha16) (by decide))).mp h86
        refine r_aload_0 (q := 90) dX9_versions_89 rfl ?_
        refine r_iload_7 (q := 92) dX9_versions_90 rfl ?_
        refine r_callV1i (M' := mX9_isPaper) (q := 95) mk_X9_isPaper mi_X9_isPaper k_824 rfl rfl rfl rfl (Nat.le_of_ble_eq_true rfl) rm_xm dX9_versions_92 rfl (mpap_ok hh hK hb ?_)
        refine r_if_eq (q := 98) 295 dX9_versions_95 (by decide) rfl (fun h95 => ?_) (fun h95 => ?_)
        · exact stay _ _ (no (by unfold mvP; rw [b2_eq0.mp h95]; simp))
        · have h95 := b2_ne0.mp h95
          refine r_iload_6 (q := 100) dX9_versions_98 rfl ?_
          refine r_iload_7 (q := 102) dX9_versions_100 rfl ?_
          refine r_callS2i (M' := mX9_isAhead) (q := 105) mk_X9_isAhead ms_X9_isAhead k_832 rfl (Nat.le_of_ble_eq_true rfl) rm_xm dX9_versions_102 rfl (mahead_ok (a := a) (b := b) (by omega) (by omega) ?_)
          refine r_if_ne (q := 108) 111 dX9_versions_105 (by decide) rfl (fun h105 => ?_) (fun h105 => ?_)
          · have h105 := b2_ne0.mp h105
            refine r_aload_0 (q := 112) dX9_versions_111 rfl ?_
            refine r_getR (k := 16) (q := 115) f_RX9_51_8 rfl rfl dX9_versions_112 rfl ?_
            refine r_bipush (q := 117) 10 (by decide) dX9_versions_115 rfl ?_
            refine r_iload_6 (q := 119) dX9_versions_117 rfl ?_
            refine r_imul (q := 120) dX9_versions_119 rfl ?_
            rw [show (10 : Int32) * nI a = nI (10 * a) from pk_mul 10 a]
            refine r_iconst (q := 121) 2 (by decide) dX9_versions_120 rfl ?_
            refine r_iadd (q := 122) dX9_versions_121 rfl ?_
            rw [show nI (10 * a) + 2 = nI (10 * a + 2) from nI_add _ 2]
            refine r_iald (q := 123) _ rfl rfl (by first | omega | assumption | decide) dX9_versions_122 rfl ?_
            rw [ea 2 (by decide)]
            refine r_aload_0 (q := 124) dX9_versions_123 rfl ?_
            refine r_getR (k := 16) (q := 127) f_RX9_51_8 rfl rfl dX9_versions_124 rfl ?_
            refine r_bipush (q := 129) 10 (by decide) dX9_versions_127 rfl ?_
            refine r_iload_7 (q := 131) dX9_versions_129 rfl ?_
            refine r_imul (q := 132) dX9_versions_131 rfl ?_
            rw [show (10 : Int32) * nI b = nI (10 * b) from pk_mul 10 b]
            refine r_iconst (q := 133) 2 (by decide) dX9_versions_132 rfl ?_
            refine r_iadd (q := 134) dX9_versions_133 rfl ?_
            rw [show nI (10 * b) + 2 = nI (10 * b + 2) from nI_add _ 2]
            refine r_iald (q := 135) _ rfl rfl (by first | omega | assumption | decide) dX9_versions_134 rfl ?_
            rw [eb 2 (by decide)]
            have f2 : farN (sumN B (tolN B a) 2) (sumN B (tolN B b) 2) ≤ 1440 := by unfold farN; omega
            have f1 : farN (sumN B (tolN B a) 1) (sumN B (tolN B b) 1) ≤ 1440 := by unfold farN; omega
            refine r_callS2i (M' := mX9_far) (q := 138) mk_X9_far ms_X9_far k_805 rfl (Nat.le_of_ble_eq_true rfl) rm_xm dX9_versions_135 rfl (mfar_ok (by omega) (by omega) ?_)
            refine r_iload_1 (q := 139) dX9_versions_138 rfl ?_
            refine r_icmp_gt (q := 142) 295 dX9_versions_139 (by decide) rfl (fun h139 => ?_) (fun h139 => ?_)
            · have h139 : D < farN (sumN B (tolN B a) 2) (sumN B (tolN B b) 2) := (nI_ltI (by omega) (by omega)).mp h139
              exact stay _ _ (no (by unfold mvP; rw [decide_eq_false (by omega : ¬ farN (sumN B (tolN B a) 2) (sumN B (tolN B b) 2) ≤ D)]; simp))
            · have h139 : farN (sumN B (tolN B a) 2) (sumN B (tolN B b) 2) ≤ D := by
                rcases Nat.lt_or_ge D (farN (sumN B (tolN B a) 2) (sumN B (tolN B b) 2)) with z | z
                · exact absurd (nI_lt z (by omega)) h139
                · exact z
              refine r_aload_0 (q := 143) dX9_versions_142 rfl ?_
              refine r_getR (k := 16) (q := 146) f_RX9_51_8 rfl rfl dX9_versions_143 rfl ?_
              refine r_bipush (q := 148) 10 (by decide) dX9_versions_146 rfl ?_
              refine r_iload_6 (q := 150) dX9_versions_148 rfl ?_
              refine r_imul (q := 151) dX9_versions_150 rfl ?_
              rw [show (10 : Int32) * nI a = nI (10 * a) from pk_mul 10 a]
              refine r_iconst (q := 152) 1 (by decide) dX9_versions_151 rfl ?_
              refine r_iadd (q := 153) dX9_versions_152 rfl ?_
              rw [show nI (10 * a) + 1 = nI (10 * a + 1) from nI_add _ 1]
              refine r_iald (q := 154) _ rfl rfl (by first | omega | assumption | decide) dX9_versions_153 rfl ?_
              rw [ea 1 (by decide)]
              refine r_aload_0 (q := 155) dX9_versions_154 rfl ?_
              refine r_getR (k := 16) (q := 158) f_RX9_51_8 rfl rfl dX9_versions_155 rfl ?_
              refine r_bipush (q := 160) 10 (by decide) dX9_versions_158 rfl ?_
              refine r_iload_7 (q := 162) dX9_versions_160 rfl ?_
              refine r_imul (q := 163) dX9_versions_162 rfl ?_
              rw [show (10 : Int32) * nI b = nI (10 * b) from pk_mul 10 b]
              refine r_iconst (q := 164) 1 (by decide) dX9_versions_163 rfl ?_
              refine r_iadd (q := 165) dX9_versions_164 rfl ?_
              rw [show nI (10 * b) + 1 = nI (10 * b + 1) from nI_add _ 1]
              refine r_iald (q := 166) _ rfl rfl (by first | omega | assumption | decide) dX9_versions_165 rfl ?_
              rw [eb 1 (by decide)]
              refine r_callS2i (M' := mX9_far) (q := 169) mk_X9_far ms_X9_far k_805 rfl (Nat.le_of_ble_eq_true rfl) rm_xm dX9_versions_166 rfl (mfar_ok (by omega) (by omega) ?_)
              refine r_iload_1 (q := 170) dX9_versions_169 rfl ?_
              refine r_icmp_le (q := 173) 176 dX9_versions_170 (by decide) rfl (fun h170 => ?_) (fun h170 => ?_)
              · have h170 : farN (sumN B (tolN B a) 1) (sumN B (tolN B b) 1) ≤ D := nI_ge_of (by omega) (by omega) h170
                have hP : mvP B L D a b = true := by unfold mvP; rw [decide_eq_true h86, h95, h105, decide_eq_true h139, decide_eq_true h170]; rfl
                refine r_aload_0 (q := 177) dX9_versions_176 rfl ?_
                refine r_iload_6 (q := 179) dX9_versions_177 rfl ?_
                refine r_callV1i (M' := mX9_spread) (q := 182) mk_X9_spread mi_X9_spread k_828 rfl rfl rfl rfl (Nat.le_of_ble_eq_true rfl) rm_xm dX9_versions_179 rfl (mspread_ok hW hWL hh hK ha ?_)
                refine r_aload_0 (q := 183) dX9_versions_182 rfl ?_
                refine r_iload_7 (q := 185) dX9_versions_183 rfl ?_
                refine r_callV1i (M' := mX9_spread) (q := 188) mk_X9_spread mi_X9_spread k_828 rfl rfl rfl rfl (Nat.le_of_ble_eq_true rfl) rm_xm dX9_versions_185 rfl (mspread_ok hW hWL hh hK hb ?_)
                refine r_iadd (q := 189) dX9_versions_188 rfl ?_
                rw [nI_add]
                refine r_istore_8 (q := 191) (by decide) dX9_versions_189 rfl ?_
                refine r_aload_0 (q := 192) dX9_versions_191 rfl ?_
                refine r_getR (k := 16) (q := 195) f_RX9_51_8 rfl rfl dX9_versions_192 rfl ?_
                refine r_bipush (q := 197) 10 (by decide) dX9_versions_195 rfl ?_
                refine r_iload_6 (q := 199) dX9_versions_197 rfl ?_
                refine r_imul (q := 200) dX9_versions_199 rfl ?_
                rw [show (10 : Int32) * nI a = nI (10 * a + 0) from pk_mul 10 a]
                refine r_iald (q := 201) _ rfl rfl (by first | omega | assumption | decide) dX9_versions_200 rfl ?_
                rw [ea 0 (by decide)]
                refine r_aload_0 (q := 202) dX9_versions_201 rfl ?_
                refine r_getR (k := 16) (q := 205) f_RX9_51_8 rfl rfl dX9_versions_202 rfl ?_
                refine r_bipush (q := 207) 10 (by decide) dX9_versions_205 rfl ?_
                refine r_iload_7 (q := 209) dX9_versions_207 rfl ?_
                refine r_imul (q := 210) dX9_versions_209 rfl ?_
                rw [show (10 : Int32) * nI b = nI (10 * b + 0) from pk_mul 10 b]
                refine r_iald (q := 211) _ rfl rfl (by first | omega | assumption | decide) dX9_versions_210 rfl ?_
                rw [eb 0 (by decide)]
                refine r_iadd (q := 212) dX9_versions_211 rfl ?_
                rw [nI_add]
                refine r_istore_9 (q := 214) (by decide) dX9_versions_212 rfl ?_
                have hv : sprS B L (tolN B a) + sprS B L (tolN B b) ≤ 19520 := by omega
                have hn : sumN B (tolN B a) 0 + sumN B (tolN B b) 0 ≤ 2880 := by omega
                have eS : mvS B L D a b k = if mvW (sprS B L (tolN B a) + sprS B L (tolN B b)) (sumN B (tolN B a) 0 + sumN B (tolN B b) 0) a b k then k else (a, b, sprS B L (tolN B a) + sprS B L (tolN B b), sumN B (tolN B a) 0 + sumN B (tolN B b) 0) := by unfold mvS; rw [hP, if_pos rfl]
                generalize sprS B L (tolN B a) + sprS B L (tolN B b) = v at hv eS
                generalize sumN B (tolN B a) 0 + sumN B (tolN B b) 0 = n at hn eS
                have take : ¬ mvW v n a b k → Wp E (mvX E d Q) mX9_versions 281 [some (pR 36 0), some (pI (nI D)), some (pI (nI k.1)), some (pI (nI k.2.1)), some (pI (nI k.2.2.1)), some (pI (nI k.2.2.2)), some (pI (nI a)), some (pI (nI b)), some (pI (nI v)), some (pI (nI n))] [] mem := by
                  intro hw
                  refine r_iload_6 (q := 283) dX9_versions_281 rfl ?_
                  refine r_istore_2 (q := 284) (by decide) dX9_versions_283 rfl ?_
                  refine r_iload_7 (q := 286) dX9_versions_284 rfl ?_
                  refine r_istore_3 (q := 287) (by decide) dX9_versions_286 rfl ?_
                  refine r_iload_8 (q := 289) dX9_versions_287 rfl ?_
                  refine r_istore_4 (q := 291) (by decide) dX9_versions_289 rfl ?_
                  refine r_iload_9 (q := 293) dX9_versions_291 rfl ?_
                  refine r_istore_5 (q := 295) (by decide) dX9_versions_293 rfl ?_
                  refine r_iinc_7 (q := 298) _ (nI_inc _) (by decide) dX9_versions_295 rfl ?_
                  refine r_goto 70 dX9_versions_298 (by decide) ?_
                  exact ih (b + 1) (a, b, v, n) _ _ (by omega) (by omega) (by omega) (by rw [mvB, if_neg (by omega), ← hk, eS, if_neg hw]) ⟨by omega, by omega, hv, hn⟩
                have keep : mvW v n a b k → Wp E (mvX E d Q) mX9_versions 295 [some (pR 36 0), some (pI (nI D)), some (pI (nI k.1)), some (pI (nI k.2.1)), some (pI (nI k.2.2.1)), some (pI (nI k.2.2.2)), some (pI (nI a)), some (pI (nI b)), some (pI (nI v)), some (pI (nI n))] [] mem := fun hw => stay _ _ (by rw [eS, if_pos hw])
                have J : (k.1 = 0 ∨ ¬ (k.2.2.1 < v ∨ (v = k.2.2.1 ∧ k.2.2.2 < n))) → Wp E (mvX E d Q) mX9_versions 242 [some (pR 36 0), some (pI (nI D)), some (pI (nI k.1)), some (pI (nI k.2.1)), some (pI (nI k.2.2.1)), some (pI (nI k.2.2.2)), some (pI (nI a)), some (pI (nI b)), some (pI (nI v)), some (pI (nI n))] [] mem := by
                  intro hj
                  refine r_iload_2 (q := 243) dX9_versions_242 rfl ?_
                  refine r_if_le (q := 246) 281 dX9_versions_243 (by decide) rfl (fun h243 => ?_) (fun h243 => ?_)
                  · have h243 := nI_ge_of (b := 0) (by omega) (by decide) h243
                    exact take (fun z => by have := z.1; omega)
                  · have h243 : 0 < k.1 := nI_lt_of (b := 0) (by omega) h243
                    have hj : ¬ (k.2.2.1 < v ∨ (v = k.2.2.1 ∧ k.2.2.2 < n)) := by
                      rcases hj with z | z
                      · omega
                      · exact z
                    refine r_iload_8 (q := 248) dX9_versions_246 rfl ?_
                    refine r_iload_4 (q := 250) dX9_versions_248 rfl ?_
                    refine r_icmp_ne (q := 253) 281 dX9_versions_250 (by decide) rfl (fun h250 => ?_) (fun h250 => ?_)
                    · have h250 : ¬ v = k.2.2.1 := fun z => h250 (by rw [z])
                      exact take (fun z => by rcases z.2 with w | w; exact hj w; exact h250 w.1)
                    · have h250 : v = k.2.2.1 := nI_inj (by omega) (by omega) h250
                      refine r_iload_9 (q := 255) dX9_versions_253 rfl ?_
                      refine r_iload_5 (q := 257) dX9_versions_255 rfl ?_
                      refine r_icmp_ne (q := 260) 281 dX9_versions_257 (by decide) rfl (fun h257 => ?_) (fun h257 => ?_)
                      · have h257 : ¬ n = k.2.2.2 := fun z => h257 (by rw [z])
                        exact take (fun z => by rcases z.2 with w | w; exact hj w; exact h257 w.2.1)
                      · have h257 : n = k.2.2.2 := nI_inj (by omega) (by omega) h257
                        refine r_iload_6 (q := 262) dX9_versions_260 rfl ?_
                        refine r_iload_2 (q := 263) dX9_versions_262 rfl ?_
                        refine r_icmp_lt (q := 266) 295 dX9_versions_263 (by decide) rfl (fun h263 => ?_) (fun h263 => ?_)
                        · have h263 := (nI_ltI (by omega) (by omega)).mp h263
                          exact keep ⟨h243, Or.inr ⟨h250, h257, Or.inl h263⟩⟩
                        · have h263 : ¬ a < k.1 := fun z => h263 (nI_lt z (by omega))
                          refine r_iload_6 (q := 268) dX9_versions_266 rfl ?_
                          refine r_iload_2 (q := 269) dX9_versions_268 rfl ?_
                          refine r_icmp_ne (q := 272) 281 dX9_versions_269 (by decide) rfl (fun h269 => ?_) (fun h269 => ?_)
                          · have h269 : ¬ a = k.1 := fun z => h269 (by rw [z])
                            exact take (fun z => by rcases z.2 with w | w; exact hj w; omega)
                          · have h269 : a = k.1 := nI_inj (by omega) (by omega) h269
                            refine r_iload_7 (q := 274) dX9_versions_272 rfl ?_
                            refine r_iload_3 (q := 275) dX9_versions_274 rfl ?_
                            refine r_icmp_ge (q := 278) 281 dX9_versions_275 (by decide) rfl (fun h275 => ?_) (fun h275 => ?_)
                            · have h275 := nI_ge_of (by omega) (by omega) h275
                              exact take (fun z => by rcases z.2 with w | w; exact hj w; omega)
                            · have h275 := nI_lt_of (by omega) h275
                              refine r_goto 295 dX9_versions_278 (by decide) ?_
                              exact keep ⟨h243, Or.inr ⟨h250, h257, Or.inr ⟨h269, h275⟩⟩⟩
                refine r_iload_2 (q := 215) dX9_versions_214 rfl ?_
                refine r_if_le (q := 218) 242 dX9_versions_215 (by decide) rfl (fun h215 => ?_) (fun h215 => ?_)
                · have h215 := nI_ge_of (b := 0) (by omega) (by decide) h215
                  exact J (Or.inl (by omega))
                · have h215 : 0 < k.1 := nI_lt_of (b := 0) (by omega) h215
                  refine r_iload_8 (q := 220) dX9_versions_218 rfl ?_
                  refine r_iload_4 (q := 222) dX9_versions_220 rfl ?_
                  refine r_icmp_gt (q := 225) 295 dX9_versions_222 (by decide) rfl (fun h222 => ?_) (fun h222 => ?_)
                  · have h222 := (nI_ltI (by omega) (by omega)).mp h222
                    exact keep ⟨h215, Or.inl (Or.inl h222)⟩
                  · have h222 : ¬ k.2.2.1 < v := fun z => h222 (nI_lt z (by omega))
                    refine r_iload_8 (q := 227) dX9_versions_225 rfl ?_
                    refine r_iload_4 (q := 229) dX9_versions_227 rfl ?_
                    refine r_icmp_ne (q := 232) 242 dX9_versions_229 (by decide) rfl (fun h229 => ?_) (fun h229 => ?_)
                    · have h229 : ¬ v = k.2.2.1 := fun z => h229 (by rw [z])
                      exact J (Or.inr (by omega))
                    · have h229 : v = k.2.2.1 := nI_inj (by omega) (by omega) h229
                      refine r_iload_9 (q := 234) dX9_versions_232 rfl ?_
                      refine r_iload_5 (q := 236) dX9_versions_234 rfl ?_
                      refine r_icmp_le (q := 239) 242 dX9_versions_236 (by decide) rfl (fun h236 => ?_) (fun h236 => ?_)
                      · have h236 := nI_ge_of (by omega) (by omega) h236
                        exact J (Or.inr (by omega))
                      · have h236 := nI_lt_of (by omega) h236
                        refine r_goto 295 dX9_versions_239 (by decide) ?_
                        exact keep ⟨h215, Or.inl (Or.inr ⟨h229, h236⟩)⟩
              · have h170 : ¬ farN (sumN B (tolN B a) 1) (sumN B (tolN B b) 1) ≤ D := fun z => h170 (nI_le z (by omega))
                refine r_goto 295 dX9_versions_173 (by decide) ?_
                exact stay _ _ (no (by unfold mvP; rw [decide_eq_false h170]; simp))
          · refine r_goto 295 dX9_versions_108 (by decide) ?_
            exact stay _ _ (no (by unfold mvP; rw [b2_eq0.mp h105]; simp))
theorem m_versions_ok {x : Int32} (hC : Mk S mem) (hWF : WFS S) (hQ : ∀ mem', Fm mem mem' → Mk (mverS S x) mem' → Q (mverV S.1 S.2.1 x) mem') : Call E (d + 3) mX9_versions [pR 36 0, pI x] mem Q := by
  refine Call.of [some (pR 36 0), some (pI x), none, none, none, none, none, none, none, none] mk_X9_versions rfl (Nat.le_of_ble_eq_true rfl) (fun _ => ?_)
  have h24 := hWF.1.1
  have hW := hWF.1
  have hWL := hWF.2.1
  have hh : handB S.1 ≤ 24 := Nat.le_trans (cnt_le _ _) h24
  have fail : mverC S.1 x = false → ∀ m, Fr [48] mem m → Wp E (xm E (d + 3) mX9_versions Q) mX9_versions 20 [some (pR 36 0), some (pI x), none, none, none, none, none, none, none, none] [] m := by
    intro hf m hF
    have hq := hQ m (fun g hg => hF g (by simp; omega)) (by unfold mverS; rw [hf]; exact hC.fr48 hF)
    unfold mverV at hq
    rw [hf] at hq
    refine r_iconst (q := 21) (-1) (by decide) dX9_versions_20 rfl ?_
    refine r_iret rfl dX9_versions_21 (?_)
    exact hq
  refine r_iload_1 (q := 1) dX9_versions_0 rfl ?_
  refine r_iconst (q := 2) 0 (by decide) dX9_versions_1 rfl ?_
  refine r_sipush (q := 5) 1000 (by decide) dX9_versions_2 rfl ?_
  refine r_callS3i (M' := mX9_lies) (q := 8) mk_X9_lies ms_X9_lies k_731 rfl (Nat.le_of_ble_eq_true rfl) rm_xm dX9_versions_5 rfl (lies_ok ?_)
  refine r_if_eq (q := 11) 20 dX9_versions_8 (by decide) rfl (fun h8 => ?_) (fun h8 => ?_)
  · exact fail (by unfold mverC; rw [b2_eq0.mp h8]; rfl) mem Fr.rf
  · have h8 := b2_ne0.mp h8
    refine r_aload_0 (q := 12) dX9_versions_11 rfl ?_
    refine r_callV0i (M' := mX9_atHand) (q := 15) mk_X9_atHand mi_X9_atHand k_812 rfl rfl rfl rfl (Nat.le_of_ble_eq_true rfl) rm_xm dX9_versions_12 rfl (mhand_ok hC.1 hWF.1 (fun m1 hF1 _ => ?_))
    refine r_bipush (q := 17) 10 (by decide) dX9_versions_15 rfl ?_
    have hC1 := hC.fr48 hF1
    refine r_icmp_le (q := 20) 22 dX9_versions_17 (by decide) rfl (fun h17 => ?_) (fun h17 => ?_)
    · have h10 := nI_ge_of (b := 10) (by omega) (by decide) h17
      have h16 : handB S.1 ≤ 16 := by omega
      have hp16 : 2 ^ handB S.1 ≤ 2 ^ 16 := Nat.pow_le_pow_right (by decide) h16
      have hp0 : 1 ≤ 2 ^ handB S.1 := Nat.pow_pos (by decide)
      have hc : mverC S.1 x = true := by unfold mverC; rw [h8, decide_eq_true h10]; rfl
      obtain ⟨D, -, hD, rfl⟩ := in_ab (a := 0) (b := 1000) (by decide) (by decide) h8
      unfold mverS mverV at hQ
      rw [hc, if_pos rfl, if_pos rfl, nI_clamp (by omega)] at hQ
      refine r_aload_0 (q := 23) dX9_versions_22 rfl ?_
      refine r_callV0v (M' := mX9_works) (q := 26) mk_X9_works mi_X9_works k_816 rfl rfl rfl rfl (Nat.le_of_ble_eq_true rfl) rm_xm dX9_versions_23 rfl (mworks_ok hC1.1 hC1.2.1 hWF.1 hWF.2.1 h16 (fun m2 hF2 hK => ?_))
      refine r_aload_0 (q := 27) dX9_versions_26 rfl ?_
      refine r_iconst (q := 28) 0 (by decide) dX9_versions_27 rfl ?_
      refine r_put (k := 22) (q := 31) f_RX9_158_8 pf_8_22 rfl rfl dX9_versions_28 rfl ?_
      refine r_iconst (q := 32) 0 (by decide) dX9_versions_31 rfl ?_
      refine r_istore_2 (q := 33) (by decide) dX9_versions_32 rfl ?_
      refine r_iconst (q := 34) 0 (by decide) dX9_versions_33 rfl ?_
      refine r_istore_3 (q := 35) (by decide) dX9_versions_34 rfl ?_
      refine r_iconst (q := 36) 0 (by decide) dX9_versions_35 rfl ?_
      refine r_istore_4 (q := 38) (by decide) dX9_versions_36 rfl ?_
      refine r_iconst (q := 39) 0 (by decide) dX9_versions_38 rfl ?_
      refine r_istore_5 (q := 41) (by decide) dX9_versions_39 rfl ?_
      refine r_iconst (q := 42) 1 (by decide) dX9_versions_41 rfl ?_
      refine r_istore_6 (q := 44) (by decide) dX9_versions_42 rfl ?_
      have hC2 := hF2.mk hC1
      have hK3 : Wk S.1 S.2.1 (mset m2 36 0 22 0) := hK.sec
      have hC3 : Mk (S.1, S.2.1, 0, S.2.2.2) (mset m2 36 0 22 0) := hC2.sec
      have hM : Fm mem (mset m2 36 0 22 0) := Fm.mset (fun g hg => (hF2.fm g hg).trans (hF1 g (by simp; omega))) (by decide)
      generalize mset m2 36 0 22 0 = m3 at hK3 hC3 hM
      suffices H : ∀ (k t : Nat) (o7 o8 o9 : Option PV) (km : K4), 2 ^ handB S.1 - t < k → 1 ≤ t → t ≤ 2 ^ handB S.1 → K4ok km → km = mvA S.1 S.2.1 D (2 ^ handB S.1) t → Wp E (xm E (d + 3) mX9_versions Q) mX9_versions 44 [some (pR 36 0), some (pI (nI D)), some (pI (nI km.1)), some (pI (nI km.2.1)), some (pI (nI km.2.2.1)), some (pI (nI km.2.2.2)), some (pI (nI t)), o7, o8, o9] [] m3 from H (2 ^ handB S.1 + 1) 1 _ _ _ (0, 0, 0, 0) (by omega) (by omega) hp0 ⟨by decide, by decide, by decide, by decide⟩ rfl
      intro k
      induction k with
      | zero => intro b _ _ _ _ h; omega
      | succ k ih =>
        intro t o7 o8 o9 km h1 ht1 h2 hk hkm
        obtain ⟨q1, q2, q3, q4⟩ := hk
        refine r_iload_6 (q := 46) dX9_versions_44 rfl ?_
        refine r_iconst (q := 47) 1 (by decide) dX9_versions_46 rfl ?_
        refine r_aload_0 (q := 48) dX9_versions_47 rfl ?_
        refine r_getI (k := 14) (q := 51) f_RX9_131_8 rfl rfl dX9_versions_48 rfl ?_
        rw [hK3.1.2.2.1]
        refine r_ishl (q := 52) dX9_versions_51 rfl ?_
        rw [nb_shl1 _ (by omega)]
        refine r_icmp_ge (q := 55) 307 dX9_versions_52 (by decide) rfl (fun h52 => ?_) (fun h52 => ?_)
        · have hb := nI_ge_of (by omega) (by omega) h52
          have hb : t = 2 ^ handB S.1 := by omega
          subst hb
          have hkR : mverR S.1 S.2.1 D = km := hkm.symm
          rw [hkR] at hQ
          refine r_aload_0 (q := 308) dX9_versions_307 rfl ?_
          refine r_aload_0 (q := 309) dX9_versions_308 rfl ?_
          refine r_iload_3 (q := 310) dX9_versions_309 rfl ?_
          refine r_callV1i (M' := mX9_told) (q := 313) mk_X9_told mi_X9_told k_835 rfl rfl rfl rfl (Nat.le_of_ble_eq_true rfl) rm_xm dX9_versions_310 rfl (mtol_ok hW h16 hK3.1 (by omega) ?_)
          refine r_put (k := 22) (q := 316) f_RX9_158_8 pf_8_22 rfl rfl dX9_versions_313 rfl ?_
          have hQ := hQ _ (hM.mset (by decide)) (hC3.sec (v := tolN S.1 km.2.1))
          refine r_iload_2 (q := 317) dX9_versions_316 rfl ?_
          refine r_if_ne (q := 320) 325 dX9_versions_317 (by decide) rfl (fun h317 => ?_) (fun h317 => ?_)
          · have h317 : ¬ km.1 = 0 := fun z => h317 (by rw [z]; rfl)
            rw [if_neg h317] at hQ
            refine r_aload_0 (q := 326) dX9_versions_325 rfl ?_
            refine r_iload_2 (q := 327) dX9_versions_326 rfl ?_
            refine r_callV1i (M' := mX9_told) (q := 330) mk_X9_told mi_X9_told k_835 rfl rfl rfl rfl (Nat.le_of_ble_eq_true rfl) rm_xm dX9_versions_327 rfl (mtol_ok hW h16 hK3.sec.1 (by omega) ?_)
            refine r_iret rfl dX9_versions_330 (?_)
            exact hQ
          · have h317 : km.1 = 0 := (nI_zero_iff (by omega)).mp h317
            rw [if_pos h317] at hQ
            refine r_bipush (q := 322) (-2) (by decide) dX9_versions_320 rfl ?_
            refine r_goto 330 dX9_versions_322 (by decide) ?_
            refine r_iret rfl dX9_versions_330 (?_)
            exact hQ
        · have ht : t < 2 ^ handB S.1 := nI_lt_of (by omega) h52
          refine r_aload_0 (q := 56) dX9_versions_55 rfl ?_
          refine r_iload_6 (q := 58) dX9_versions_56 rfl ?_
          refine r_callV1i (M' := mX9_isPaper) (q := 61) mk_X9_isPaper mi_X9_isPaper k_824 rfl rfl rfl rfl (Nat.le_of_ble_eq_true rfl) rm_xm dX9_versions_58 rfl (mpap_ok h16 hK3 ht ?_)
          refine r_if_ne (q := 64) 67 dX9_versions_61 (by decide) rfl (fun h61 => ?_) (fun h61 => ?_)
          · have h61 := b2_ne0.mp h61
            refine r_iconst (q := 68) 1 (by decide) dX9_versions_67 rfl ?_
            refine r_istore_7 (q := 70) (by decide) dX9_versions_68 rfl ?_
            refine mv_in hW hWL h16 hD ht hK3 ⟨q1, q2, q3, q4⟩ (fun o8' o9' hok => ?_) (2 ^ handB S.1 + 1) 1 km _ _ (by omega) (by omega) hp0 rfl ⟨q1, q2, q3, q4⟩
            refine r_iinc_6 (q := 304) _ (nI_inc _) (by decide) dX9_versions_301 rfl ?_
            refine r_goto 44 dX9_versions_304 (by decide) ?_
            exact ih (t + 1) _ _ _ _ (by omega) (by omega) (by omega) hok (by rw [mvA, if_neg (by omega), h61, if_pos rfl, hkm])
          · have h61 := b2_eq0.mp h61
            refine r_goto 301 dX9_versions_64 (by decide) ?_
            refine r_iinc_6 (q := 304) _ (nI_inc _) (by decide) dX9_versions_301 rfl ?_
            refine r_goto 44 dX9_versions_304 (by decide) ?_
            exact ih (t + 1) _ _ _ km (by omega) (by omega) (by omega) ⟨q1, q2, q3, q4⟩ (by rw [mvA, if_neg (by omega), h61, if_neg (by decide), hkm])
    · have h10 : ¬ handB S.1 ≤ 10 := fun z => h17 (nI_le z (by decide))
      exact fail (by unfold mverC; rw [decide_eq_false h10, Bool.and_false]) m1 hF1
end MV
